section
set_option maxHeartbeats 4000000 in
set_option maxRecDepth 100000 in
theorem c_X11_addPart (l : Launch) (D : va_G) (cI cS : ClassId) (sz : Nat) (m0 p0 p1 p3 p5 p10 p12 p13 p14 p16 p17 p19 p20 p21 p22 p25 p26 p27 p28 p29 p30 p31 p32 : Nat) (i4 i6 i7 i8 i9 i11 i15 i18 i23 i24 : Int32) (w z : Nat → Int32) (hm : Nat) (kq pq lq rq : Int32) (hwf : ftWf w) (hhm : hm ≤ 5) : Met l yX11_addPart wsX11_addPart ({ frames := 2, cells := 0, slots := 0, locals := 45 }) (ftRW D cI cS [.ref m0, .int kq, .int pq, .int lq, .int rq] [(m0, .inr (11, [.ref p0, .ref p1, .int (nI hm), .ref p3, .int i4, .ref p5, .int i6, .int i7, .int i8, .int i9, .ref p10, .int i11, .ref p12, .ref p13, .ref p14, .int i15, .ref p16, .ref p17, .int i18, .ref p19, .ref p20, .ref p21, .ref p22, .int i23, .int i24, .ref p25, .ref p26, .ref p27, .ref p28, .ref p29, .ref p30, .ref p31, .ref p32])), (p0, .inl (cI, 1439, .inl w)), (p1, .inl (cI, 7195, .inl z))] sz) (ftQi D (ftAdA w kq pq lq rq) [(m0, .inr (11, [.ref p0, .ref p1, .int (nI hm), .ref p3, .int i4, .ref p5, .int i6, .int i7, .int i8, .int i9, .ref p10, .int i11, .ref p12, .ref p13, .ref p14, .int i15, .ref p16, .ref p17, .int i18, .ref p19, .ref p20, .ref p21, .ref p22, .int i23, .int i24, .ref p25, .ref p26, .ref p27, .ref p28, .ref p29, .ref p30, .ref p31, .ref p32])), (p0, .inl (cI, 1439, .inl w)), (p1, .inl (cI, 7195, .inl z))] [(m0, .inr (11, [.ref p0, .ref p1, .int (nI (ftCh (ftAdC w kq pq lq rq) (min (hm + 1) 5) hm)), .ref p3, .int i4, .ref p5, .int i6, .int i7, .int i8, .int i9, .ref p10, .int i11, .ref p12, .ref p13, .ref p14, .int i15, .ref p16, .ref p17, .int i18, .ref p19, .ref p20, .ref p21, .ref p22, .int i23, .int i24, .ref p25, .ref p26, .ref p27, .ref p28, .ref p29, .ref p30, .ref p31, .ref p32])), (p0, .inl (cI, 1439, .inl (ftCh (ftAdC w kq pq lq rq) (ftAdd w (ftCN w) kq pq lq rq) w))), (p1, .inl (cI, 7195, .inl (ftCh (ftAdC w kq pq lq rq) (ftPush w z hm) z)))] sz) 0 0 (va_A [(m0, .inr (11, [.ref p0, .ref p1, .int (nI hm), .ref p3, .int i4, .ref p5, .int i6, .int i7, .int i8, .int i9, .ref p10, .int i11, .ref p12, .ref p13, .ref p14, .int i15, .ref p16, .ref p17, .int i18, .ref p19, .ref p20, .ref p21, .ref p22, .int i23, .int i24, .ref p25, .ref p26, .ref p27, .ref p28, .ref p29, .ref p30, .ref p31, .ref p32])), (p0, .inl (cI, 1439, .inl w)), (p1, .inl (cI, 7195, .inl z))] sz) := by
  refine Met.ofW (cc := cX11_addPart) (maxL := 6) (ret := (some .int)) (by decide) rfl ?_
  intro p e s m args below meth c s₁ B hml hv
  obtain ⟨rfl, hsz, hP, hKK, hD0⟩ := hv
  have hK := hKK.1
  have hx := B.exec
  have hb := B.bytes
  have hr := B.returns
  have hts := atoms_spec (ws := wsX11_addPart) B.pre
  have hown : s.vm.findClass RX11 = some m.cls := findClass_of_methodNamed B.named
  have hlocks := B.notSynchronized
  subst hsz
  have hD := hD0.self (sz := s.heap.size)
  generalize hAe : va_A [(m0, .inr (11, [.ref p0, .ref p1, .int (nI hm), .ref p3, .int i4, .ref p5, .int i6, .int i7, .int i8, .int i9, .ref p10, .int i11, .ref p12, .ref p13, .ref p14, .int i15, .ref p16, .ref p17, .int i18, .ref p19, .ref p20, .ref p21, .ref p22, .int i23, .int i24, .ref p25, .ref p26, .ref p27, .ref p28, .ref p29, .ref p30, .ref p31, .ref p32])), (p0, .inl (cI, 1439, .inl w)), (p1, .inl (cI, 7195, .inl z))] s.heap.size = A at hD ⊢
  have hA : ∀ q : Nat, s.heap.size ≤ q → A q := fun q h => by rw [← hAe]; exact Or.inr h
  have hS : va_S A s.heap s.heap [] := va_S.rf
  have hD : va_D A [(m0, .inr (11, [.ref p0, .ref p1, .int (nI hm), .ref p3, .int i4, .ref p5, .int i6, .int i7, .int i8, .int i9, .ref p10, .int i11, .ref p12, .ref p13, .ref p14, .int i15, .ref p16, .ref p17, .int i18, .ref p19, .ref p20, .ref p21, .ref p22, .int i23, .int i24, .ref p25, .ref p26, .ref p27, .ref p28, .ref p29, .ref p30, .ref p31, .ref p32])), (p0, .inl (cI, 1439, .inl w)), (p1, .inl (cI, 7195, .inl z))] := hD
  have hP : va_P D vwCl [(m0, .inr (11, [.ref p0, .ref p1, .int (nI hm), .ref p3, .int i4, .ref p5, .int i6, .int i7, .int i8, .int i9, .ref p10, .int i11, .ref p12, .ref p13, .ref p14, .int i15, .ref p16, .ref p17, .int i18, .ref p19, .ref p20, .ref p21, .ref p22, .int i23, .int i24, .ref p25, .ref p26, .ref p27, .ref p28, .ref p29, .ref p30, .ref p31, .ref p32])), (p0, .inl (cI, 1439, .inl w)), (p1, .inl (cI, 7195, .inl z))] s.heap := hP
  have hl := lv_entry ([.ref m0, .int kq, .int pq, .int lq, .int rq]) (n := 6) (Nat.le_of_ble_eq_true rfl)
  rw [lg_entry_eq]
  generalize (lg_sl ([.ref m0, .int kq, .int pq, .int lq, .int rq]) ++ List.replicate (6 - (lg_sl ([.ref m0, .int kq, .int pq, .int lq, .int rq])).length) Slot.unset).toArray = ls at hl ⊢
  have hl : lv_has ls 6 [(0, .ref m0), (1, .int kq), (2, .int pq), (3, .int lq), (4, .int rq)] := hl
  have hw3 := ftWf_3 hwf
  have hn := ftWf_n hwf
  have hw0 := ftWf_0 hwf
  have hln := ftWf_ln hwf
  have hlg := ftWf_lg hwf
  refine lv_iload_n hx hb dX11_addPart_0 rfl (lv_at hl 1 rfl) ?_
  refine lv_i2l (v := kq.toInt64) hx hb dX11_addPart_1 rfl ?_
  refine lv_lconst (v := 0) hx hb dX11_addPart_2 (by decide) ?_
  refine lv_ldc2 (v := 2) hx hb hown (hts (.constantLong RX11 167 2) (by decide +kernel)) dX11_addPart_3 ?_
  refine ft_csi (r := ftB (0 ≤ kq.toInt64 ∧ kq.toInt64 ≤ 2)) (va_runS (As := [.long kq.toInt64, .long 0, .long 2]) (rest := []) ⟨hx, hb, hml, hown, hts⟩ (c_X11_in l D cI cS kq.toInt64 0 2) (va_cwS 3 hts gX11_addPart_X11_in rfl rfl rfl (by decide +kernel) ⟨Nat.le_of_ble_eq_true rfl, Nat.le_of_ble_eq_true rfl⟩) (ft_preRO hP hKK [] rfl) rfl rfl hl.1 rfl (lv_room (Nat.le_of_ble_eq_true rfl)) dX11_addPart_6 ⟨Nat.le_of_ble_eq_true rfl, Nat.le_of_ble_eq_true rfl⟩) ?_
  refine ft_top (y := ftB (0 ≤ kq ∧ kq ≤ 2)) (ft_in64 (by decide) (by decide)) ?_
  refine lv_if_eq (tgt := 60) hx hb dX11_addPart_9 (by decide) (fun c9 => ?_) (fun c9 => ?_)
  · replace c9 := ftB_eq c9
    have hno : ¬ ftAdV w kq pq lq rq := fun q => c9 q.1.1
    refine lv_iconst (v := 0) hx hb dX11_addPart_60 (by decide) ?_
    refine lv_istore (lv' := [(5, .int 0), (0, .ref m0), (1, .int kq), (2, .int pq), (3, .int lq), (4, .int rq)]) hx hb dX11_addPart_61 hl (by decide) rfl (fun ls hl => ?_)
    refine lv_iload hx hb dX11_addPart_63 (lv_at hl 0 rfl) ?_
    refine lv_if_eq (tgt := 101) hx hb dX11_addPart_65 (by decide) (fun c65 => ?_) (fun c65 => ?_)
    · have hC : ¬ ftAdC w kq pq lq rq := fun q => hno q.1
      refine lv_ldc (v := (-1000001)) hx hb hown (hts (.constant RX11 95 (-1000001)) (by decide +kernel)) dX11_addPart_101 ?_
      have hw9 : ([(m0, .inr (11, [.ref p0, .ref p1, .int (nI hm), .ref p3, .int i4, .ref p5, .int i6, .int i7, .int i8, .int i9, .ref p10, .int i11, .ref p12, .ref p13, .ref p14, .int i15, .ref p16, .ref p17, .int i18, .ref p19, .ref p20, .ref p21, .ref p22, .int i23, .int i24, .ref p25, .ref p26, .ref p27, .ref p28, .ref p29, .ref p30, .ref p31, .ref p32])), (p0, .inl (cI, 1439, .inl w)), (p1, .inl (cI, 7195, .inl z))] : va_W) = [(m0, .inr (11, [.ref p0, .ref p1, .int (nI (ftCh (ftAdC w kq pq lq rq) (min (hm + 1) 5) hm)), .ref p3, .int i4, .ref p5, .int i6, .int i7, .int i8, .int i9, .ref p10, .int i11, .ref p12, .ref p13, .ref p14, .int i15, .ref p16, .ref p17, .int i18, .ref p19, .ref p20, .ref p21, .ref p22, .int i23, .int i24, .ref p25, .ref p26, .ref p27, .ref p28, .ref p29, .ref p30, .ref p31, .ref p32])), (p0, .inl (cI, 1439, .inl (ftCh (ftAdC w kq pq lq rq) (ftAdd w (ftCN w) kq pq lq rq) w))), (p1, .inl (cI, 7195, .inl (ftCh (ftAdC w kq pq lq rq) (ftPush w z hm) z)))] := by rw [ftCh_f hC, ftCh_f hC, ftCh_f hC]
      rw [hw9] at hP hD
      exact W.iret (v := (-1000001)) hx hb hr (fun t ht hW => ⟨⟨(-1000001), (), rfl, (by show ((-1000001) : Int32) = ftAdA w kq pq lq rq; rw [ftAdA, ftIte_f hno]), by rw [ht]; exact hP, by rw [hAe]; exact hD⟩, by rw [hAe]; exact hS.F ht⟩) hS.2.2 dX11_addPart_103
    · exact absurd rfl c65
  · replace c9 := ftB_ne c9
    refine lv_iload_n hx hb dX11_addPart_12 rfl (lv_at hl 2 rfl) ?_
    refine lv_i2l (v := pq.toInt64) hx hb dX11_addPart_13 rfl ?_
    refine lv_lconst (v := 1) hx hb dX11_addPart_14 (by decide) ?_
    refine lv_aload_n hx hb dX11_addPart_15 rfl (lv_at hl 0 rfl) ?_
    refine va_get (D := D) (ci := 11) (v := .ref p0) (C := RX11) (T := TX11) (N := 33) hx hb hts (by decide +kernel) hown hK hP 0 rfl rfl 0 (by decide) (hts (.fieldLink RX11 7 "FiberTraceModel" "now" "[I") (by decide +kernel)) (fun _ h9 => h9) rfl dX11_addPart_16 ?_
    refine lv_iconst (v := 0) hx hb dX11_addPart_19 (by decide) ?_
    refine va_iald hx hb hK hP 1 0 rfl rfl (vp_in_nI (n := 0) (by omega) (by omega)) dX11_addPart_20 ?_
    refine ft_top (y := w 0) rfl ?_
    refine lv_iconst (v := 1) hx hb dX11_addPart_21 (by decide) ?_
    refine lv_isub hx hb dX11_addPart_22 ?_
    refine lv_i2l (v := ((w 0) - 1).toInt64) hx hb dX11_addPart_23 rfl ?_
    refine ft_csi (r := ftB (1 ≤ pq.toInt64 ∧ pq.toInt64 ≤ (((w 0) - 1).toInt64))) (va_runS (As := [.long pq.toInt64, .long 1, .long (((w 0) - 1).toInt64)]) (rest := []) ⟨hx, hb, hml, hown, hts⟩ (c_X11_in l D cI cS pq.toInt64 1 (((w 0) - 1).toInt64)) (va_cwS 3 hts gX11_addPart_X11_in rfl rfl rfl (by decide +kernel) ⟨Nat.le_of_ble_eq_true rfl, Nat.le_of_ble_eq_true rfl⟩) (ft_preRO hP hKK [] rfl) rfl rfl hl.1 rfl (lv_room (Nat.le_of_ble_eq_true rfl)) dX11_addPart_24 ⟨Nat.le_of_ble_eq_true rfl, Nat.le_of_ble_eq_true rfl⟩) ?_
    refine ft_top (y := ftB (1 ≤ pq ∧ pq ≤ ((w 0) - 1))) (ft_in64 (by decide) (Int32.toInt_toInt64 _)) ?_
    refine lv_if_eq (tgt := 60) hx hb dX11_addPart_27 (by decide) (fun c27 => ?_) (fun c27 => ?_)
    · replace c27 := ftB_eq c27
      have hno : ¬ ftAdV w kq pq lq rq := fun q => c27 q.1.2.1
      refine lv_iconst (v := 0) hx hb dX11_addPart_60 (by decide) ?_
      refine lv_istore (lv' := [(5, .int 0), (0, .ref m0), (1, .int kq), (2, .int pq), (3, .int lq), (4, .int rq)]) hx hb dX11_addPart_61 hl (by decide) rfl (fun ls hl => ?_)
      refine lv_iload hx hb dX11_addPart_63 (lv_at hl 0 rfl) ?_
      refine lv_if_eq (tgt := 101) hx hb dX11_addPart_65 (by decide) (fun c65 => ?_) (fun c65 => ?_)
      · have hC : ¬ ftAdC w kq pq lq rq := fun q => hno q.1
        refine lv_ldc (v := (-1000001)) hx hb hown (hts (.constant RX11 95 (-1000001)) (by decide +kernel)) dX11_addPart_101 ?_
        have hw9 : ([(m0, .inr (11, [.ref p0, .ref p1, .int (nI hm), .ref p3, .int i4, .ref p5, .int i6, .int i7, .int i8, .int i9, .ref p10, .int i11, .ref p12, .ref p13, .ref p14, .int i15, .ref p16, .ref p17, .int i18, .ref p19, .ref p20, .ref p21, .ref p22, .int i23, .int i24, .ref p25, .ref p26, .ref p27, .ref p28, .ref p29, .ref p30, .ref p31, .ref p32])), (p0, .inl (cI, 1439, .inl w)), (p1, .inl (cI, 7195, .inl z))] : va_W) = [(m0, .inr (11, [.ref p0, .ref p1, .int (nI (ftCh (ftAdC w kq pq lq rq) (min (hm + 1) 5) hm)), .ref p3, .int i4, .ref p5, .int i6, .int i7, .int i8, .int i9, .ref p10, .int i11, .ref p12, .ref p13, .ref p14, .int i15, .ref p16, .ref p17, .int i18, .ref p19, .ref p20, .ref p21, .ref p22, .int i23, .int i24, .ref p25, .ref p26, .ref p27, .ref p28, .ref p29, .ref p30, .ref p31, .ref p32])), (p0, .inl (cI, 1439, .inl (ftCh (ftAdC w kq pq lq rq) (ftAdd w (ftCN w) kq pq lq rq) w))), (p1, .inl (cI, 7195, .inl (ftCh (ftAdC w kq pq lq rq) (ftPush w z hm) z)))] := by rw [ftCh_f hC, ftCh_f hC, ftCh_f hC]
        rw [hw9] at hP hD
        exact W.iret (v := (-1000001)) hx hb hr (fun t ht hW => ⟨⟨(-1000001), (), rfl, (by show ((-1000001) : Int32) = ftAdA w kq pq lq rq; rw [ftAdA, ftIte_f hno]), by rw [ht]; exact hP, by rw [hAe]; exact hD⟩, by rw [hAe]; exact hS.F ht⟩) hS.2.2 dX11_addPart_103
      · exact absurd rfl c65
    · replace c27 := ftB_ne c27
      refine lv_iload_n hx hb dX11_addPart_30 rfl (lv_at hl 1 rfl) ?_
      refine lv_iconst (v := 1) hx hb dX11_addPart_31 (by decide) ?_
      refine lv_icmp_ne (tgt := 51) hx hb dX11_addPart_32 (by decide) (fun c32 => ?_) (fun c32 => ?_)
      · refine lv_iload hx hb dX11_addPart_51 (lv_at hl 4 rfl) ?_
        refine lv_if_ne (tgt := 60) hx hb dX11_addPart_53 (by decide) (fun c53 => ?_) (fun c53 => ?_)
        · have hno : ¬ ftAdV w kq pq lq rq := fun q => q.1.2.2.elim (fun r => c32 r.1) (fun r => c53 r.2)
          refine lv_iconst (v := 0) hx hb dX11_addPart_60 (by decide) ?_
          refine lv_istore (lv' := [(5, .int 0), (0, .ref m0), (1, .int kq), (2, .int pq), (3, .int lq), (4, .int rq)]) hx hb dX11_addPart_61 hl (by decide) rfl (fun ls hl => ?_)
          refine lv_iload hx hb dX11_addPart_63 (lv_at hl 0 rfl) ?_
          refine lv_if_eq (tgt := 101) hx hb dX11_addPart_65 (by decide) (fun c65 => ?_) (fun c65 => ?_)
          · have hC : ¬ ftAdC w kq pq lq rq := fun q => hno q.1
            refine lv_ldc (v := (-1000001)) hx hb hown (hts (.constant RX11 95 (-1000001)) (by decide +kernel)) dX11_addPart_101 ?_
            have hw9 : ([(m0, .inr (11, [.ref p0, .ref p1, .int (nI hm), .ref p3, .int i4, .ref p5, .int i6, .int i7, .int i8, .int i9, .ref p10, .int i11, .ref p12, .ref p13, .ref p14, .int i15, .ref p16, .ref p17, .int i18, .ref p19, .ref p20, .ref p21, .ref p22, .int i23, .int i24, .ref p25, .ref p26, .ref p27, .ref p28, .ref p29, .ref p30, .ref p31, .ref p32])), (p0, .inl (cI, 1439, .inl w)), (p1, .inl (cI, 7195, .inl z))] : va_W) = [(m0, .inr (11, [.ref p0, .ref p1, .int (nI (ftCh (ftAdC w kq pq lq rq) (min (hm + 1) 5) hm)), .ref p3, .int i4, .ref p5, .int i6, .int i7, .int i8, .int i9, .ref p10, .int i11, .ref p12, .ref p13, .ref p14, .int i15, .ref p16, .ref p17, .int i18, .ref p19, .ref p20, .ref p21, .ref p22, .int i23, .int i24, .ref p25, .ref p26, .ref p27, .ref p28, .ref p29, .ref p30, .ref p31, .ref p32])), (p0, .inl (cI, 1439, .inl (ftCh (ftAdC w kq pq lq rq) (ftAdd w (ftCN w) kq pq lq rq) w))), (p1, .inl (cI, 7195, .inl (ftCh (ftAdC w kq pq lq rq) (ftPush w z hm) z)))] := by rw [ftCh_f hC, ftCh_f hC, ftCh_f hC]
            rw [hw9] at hP hD
            exact W.iret (v := (-1000001)) hx hb hr (fun t ht hW => ⟨⟨(-1000001), (), rfl, (by show ((-1000001) : Int32) = ftAdA w kq pq lq rq; rw [ftAdA, ftIte_f hno]), by rw [ht]; exact hP, by rw [hAe]; exact hD⟩, by rw [hAe]; exact hS.F ht⟩) hS.2.2 dX11_addPart_103
          · exact absurd rfl c65
        · have hre : (kq = 1 ∧ 1 ≤ rq ∧ rq ≤ 20000) ∨ (¬ kq = 1 ∧ rq = 0) := Or.inr ⟨c32, c53⟩
          refine lv_iconst (v := 1) hx hb dX11_addPart_56 (by decide) ?_
          refine lv_goto (tgt := 61) hx hb dX11_addPart_57 (by decide) ?_
          refine lv_istore (lv' := [(5, .int 1), (0, .ref m0), (1, .int kq), (2, .int pq), (3, .int lq), (4, .int rq)]) hx hb dX11_addPart_61 hl (by decide) rfl (fun ls hl => ?_)
          refine lv_iload hx hb dX11_addPart_63 (lv_at hl 0 rfl) ?_
          refine lv_if_eq (tgt := 101) hx hb dX11_addPart_65 (by decide) (fun c65 => ?_) (fun c65 => ?_)
          · exact absurd c65 (by decide)
          · refine lv_iload_n hx hb dX11_addPart_68 rfl (lv_at hl 4 rfl) ?_
            refine lv_i2l (v := lq.toInt64) hx hb dX11_addPart_69 rfl ?_
            refine lv_iload_n hx hb dX11_addPart_70 rfl (lv_at hl 2 rfl) ?_
            refine lv_if_ne (tgt := 80) hx hb dX11_addPart_71 (by decide) (fun c71 => ?_) (fun c71 => ?_)
            · have h71 : (if kq = 0 then (-500 : Int32) else 0) = 0 := if_neg c71
              refine lv_lconst (v := 0) hx hb dX11_addPart_80 (by decide) ?_
              refine lv_iload_n hx hb dX11_addPart_81 rfl (lv_at hl 2 rfl) ?_
              refine lv_iconst (v := 2) hx hb dX11_addPart_82 (by decide) ?_
              refine lv_icmp_ne (tgt := 92) hx hb dX11_addPart_83 (by decide) (fun c83 => ?_) (fun c83 => ?_)
              · have h83 : (if kq = 2 then (50 : Int32) else 5000) = 5000 := if_neg c83
                refine lv_ldc2 (v := 5000) hx hb hown (hts (.constantLong RX11 130 5000) (by decide +kernel)) dX11_addPart_92 ?_
                refine ft_csi (r := ftB (0 ≤ lq.toInt64 ∧ lq.toInt64 ≤ 5000)) (va_runS (As := [.long lq.toInt64, .long 0, .long 5000]) (rest := []) ⟨hx, hb, hml, hown, hts⟩ (c_X11_in l D cI cS lq.toInt64 0 5000) (va_cwS 3 hts gX11_addPart_X11_in rfl rfl rfl (by decide +kernel) ⟨Nat.le_of_ble_eq_true rfl, Nat.le_of_ble_eq_true rfl⟩) (ft_preRO hP hKK [] rfl) rfl rfl hl.1 rfl (lv_room (Nat.le_of_ble_eq_true rfl)) dX11_addPart_95 ⟨Nat.le_of_ble_eq_true rfl, Nat.le_of_ble_eq_true rfl⟩) ?_
                refine ft_top (y := ftB (0 ≤ lq ∧ lq ≤ 5000)) (ft_in64 (by decide) (by decide)) ?_
                refine lv_if_ne (tgt := 104) hx hb dX11_addPart_98 (by decide) (fun c98 => ?_) (fun c98 => ?_)
                · replace c98 := ftB_ne c98
                  have hV : ftAdV w kq pq lq rq := ⟨⟨c9, c27, hre⟩, by rw [h71, h83]; exact c98⟩
                  refine lv_aload_n hx hb dX11_addPart_104 rfl (lv_at hl 1 rfl) ?_
                  refine lv_iload_n hx hb dX11_addPart_105 rfl (lv_at hl 3 rfl) ?_
                  refine ft_csi (r := ftPa w pq (ftCN w)) (va_runV (C := RX11) (As := [.int pq]) (rest := []) ⟨hx, hb, hml, hown, hts⟩ (c_X11_partAt l D cI cS m0 p0 p1 p3 p5 p10 p12 p13 p14 p16 p17 p19 p20 p21 p22 p25 p26 p27 p28 p29 p30 p31 p32 (nI hm) i4 i6 i7 i8 i9 i11 i15 i18 i23 i24 w pq (ftCN w) hw3 hn) (cwV 1 hts gX11_addPart_X11_partAt rfl rfl rfl (by decide +kernel) ⟨Nat.le_of_ble_eq_true rfl, Nat.le_of_ble_eq_true rfl⟩) (ft_preROV (ci := 11) (q0 := 0) hP hKK [0, 1] rfl rfl rfl) rfl rfl hl.1 rfl (lv_room (Nat.le_of_ble_eq_true rfl)) dX11_addPart_106 ⟨Nat.le_of_ble_eq_true rfl, Nat.le_of_ble_eq_true rfl⟩) ?_
                  refine lv_if_lt (tgt := 115) hx hb dX11_addPart_109 (by decide) (fun c109 => ?_) (fun c109 => ?_)
                  · refine lv_aload_n hx hb dX11_addPart_115 rfl (lv_at hl 1 rfl) ?_
                    refine va_get (D := D) (ci := 11) (v := .ref p0) (C := RX11) (T := TX11) (N := 33) hx hb hts (by decide +kernel) hown hK hP 0 rfl rfl 0 (by decide) (hts (.fieldLink RX11 7 "FiberTraceModel" "now" "[I") (by decide +kernel)) (fun _ h9 => h9) rfl dX11_addPart_116 ?_
                    refine lv_iconst (v := 3) hx hb dX11_addPart_119 (by decide) ?_
                    refine va_iald hx hb hK hP 1 0 rfl rfl (vp_in_nI (n := 3) (by omega) (by omega)) dX11_addPart_120 ?_
                    refine ft_top (y := w 3) rfl ?_
                    refine lv_bipush (v := 10) hx hb dX11_addPart_121 (by decide) ?_
                    refine lv_icmp_ne (tgt := 129) hx hb dX11_addPart_123 (by decide) (fun c123 => ?_) (fun c123 => ?_)
                    · have hC : ftAdC w kq pq lq rq := ⟨hV, c109, c123⟩
                      have hn10 : ftCN w ≠ 10 := fun r => c123 (by rw [hw3, r]; rfl)
                      refine lv_aload_n hx hb dX11_addPart_129 rfl (lv_at hl 1 rfl) ?_
                      refine ft_cv (wc := [(m0, .inr (11, [.ref p0, .ref p1, .int (nI hm), .ref p3, .int i4, .ref p5, .int i6, .int i7, .int i8, .int i9, .ref p10, .int i11, .ref p12, .ref p13, .ref p14, .int i15, .ref p16, .ref p17, .int i18, .ref p19, .ref p20, .ref p21, .ref p22, .int i23, .int i24, .ref p25, .ref p26, .ref p27, .ref p28, .ref p29, .ref p30, .ref p31, .ref p32])), (p0, .inl (cI, 1439, .inl w)), (p1, .inl (cI, 7195, .inl z))]) (wr := []) (w1 := [(m0, .inr (11, [.ref p0, .ref p1, .int (nI (min (hm + 1) 5)), .ref p3, .int i4, .ref p5, .int i6, .int i7, .int i8, .int i9, .ref p10, .int i11, .ref p12, .ref p13, .ref p14, .int i15, .ref p16, .ref p17, .int i18, .ref p19, .ref p20, .ref p21, .ref p22, .int i23, .int i24, .ref p25, .ref p26, .ref p27, .ref p28, .ref p29, .ref p30, .ref p31, .ref p32])), (p0, .inl (cI, 1439, .inl w)), (p1, .inl (cI, 7195, .inl (ftPush w z hm)))]) (ws1 := [(m0, .inr (11, [.ref p0, .ref p1, .int (nI (min (hm + 1) 5)), .ref p3, .int i4, .ref p5, .int i6, .int i7, .int i8, .int i9, .ref p10, .int i11, .ref p12, .ref p13, .ref p14, .int i15, .ref p16, .ref p17, .int i18, .ref p19, .ref p20, .ref p21, .ref p22, .int i23, .int i24, .ref p25, .ref p26, .ref p27, .ref p28, .ref p29, .ref p30, .ref p31, .ref p32])), (p0, .inl (cI, 1439, .inl w)), (p1, .inl (cI, 7195, .inl (ftPush w z hm)))]) (va_runV (C := RX11) (As := []) (rest := []) ⟨hx, hb, hml, hown, hts⟩ (c_X11_change l D cI cS s.heap.size m0 p0 p1 p3 p5 p10 p12 p13 p14 p16 p17 p19 p20 p21 p22 p25 p26 p27 p28 p29 p30 p31 p32 i4 i6 i7 i8 i9 i11 i15 i18 i23 i24 w z hm hhm) (cwV 0 hts gX11_addPart_X11_change rfl rfl rfl (by decide +kernel) ⟨Nat.le_of_ble_eq_true rfl, Nat.le_of_ble_eq_true rfl⟩) (ft_preRWV (ci := 11) (q0 := 0) hP hD hKK [0, 1, 2] rfl rfl rfl rfl rfl) rfl rfl hl.1 rfl (lv_room (Nat.le_of_ble_eq_true rfl)) dX11_addPart_130 ⟨Nat.le_of_ble_eq_true rfl, Nat.le_of_ble_eq_true rfl⟩) hP hD hS hA [0, 1, 2] [] [0, 1, 2] rfl rfl (by decide) (by decide) (by decide) rfl rfl (fun H locs hP hD hS => ?_)
                      have hP : va_P D vwCl [(m0, .inr (11, [.ref p0, .ref p1, .int (nI (min (hm + 1) 5)), .ref p3, .int i4, .ref p5, .int i6, .int i7, .int i8, .int i9, .ref p10, .int i11, .ref p12, .ref p13, .ref p14, .int i15, .ref p16, .ref p17, .int i18, .ref p19, .ref p20, .ref p21, .ref p22, .int i23, .int i24, .ref p25, .ref p26, .ref p27, .ref p28, .ref p29, .ref p30, .ref p31, .ref p32])), (p0, .inl (cI, 1439, .inl w)), (p1, .inl (cI, 7195, .inl (ftPush w z hm)))] H := hP
                      have hD : va_D A [(m0, .inr (11, [.ref p0, .ref p1, .int (nI (min (hm + 1) 5)), .ref p3, .int i4, .ref p5, .int i6, .int i7, .int i8, .int i9, .ref p10, .int i11, .ref p12, .ref p13, .ref p14, .int i15, .ref p16, .ref p17, .int i18, .ref p19, .ref p20, .ref p21, .ref p22, .int i23, .int i24, .ref p25, .ref p26, .ref p27, .ref p28, .ref p29, .ref p30, .ref p31, .ref p32])), (p0, .inl (cI, 1439, .inl w)), (p1, .inl (cI, 7195, .inl (ftPush w z hm)))] := hD
                      refine lv_aload_n hx hb dX11_addPart_133 rfl (lv_at hl 1 rfl) ?_
                      refine va_get (D := D) (ci := 11) (v := .ref p0) (C := RX11) (T := TX11) (N := 33) hx hb hts (by decide +kernel) hown hK hP 0 rfl rfl 0 (by decide) (hts (.fieldLink RX11 7 "FiberTraceModel" "now" "[I") (by decide +kernel)) (fun _ h9 => h9) rfl dX11_addPart_134 ?_
                      refine lv_iload_n hx hb dX11_addPart_137 rfl (lv_at hl 2 rfl) ?_
                      refine lv_iload_n hx hb dX11_addPart_138 rfl (lv_at hl 3 rfl) ?_
                      refine lv_iload_n hx hb dX11_addPart_139 rfl (lv_at hl 4 rfl) ?_
                      refine lv_iload hx hb dX11_addPart_140 (lv_at hl 5 rfl) ?_
                      refine ft_ci (r := nI (ftPosW w pq (ftCN w))) (wc := [(p0, .inl (cI, 1439, .inl w))]) (wr := [(m0, .inr (11, [.ref p0, .ref p1, .int (nI (min (hm + 1) 5)), .ref p3, .int i4, .ref p5, .int i6, .int i7, .int i8, .int i9, .ref p10, .int i11, .ref p12, .ref p13, .ref p14, .int i15, .ref p16, .ref p17, .int i18, .ref p19, .ref p20, .ref p21, .ref p22, .int i23, .int i24, .ref p25, .ref p26, .ref p27, .ref p28, .ref p29, .ref p30, .ref p31, .ref p32])), (p1, .inl (cI, 7195, .inl (ftPush w z hm)))]) (w1 := [(p0, .inl (cI, 1439, .inl (ftAdd w (ftCN w) kq pq lq rq)))]) (ws1 := [(m0, .inr (11, [.ref p0, .ref p1, .int (nI (min (hm + 1) 5)), .ref p3, .int i4, .ref p5, .int i6, .int i7, .int i8, .int i9, .ref p10, .int i11, .ref p12, .ref p13, .ref p14, .int i15, .ref p16, .ref p17, .int i18, .ref p19, .ref p20, .ref p21, .ref p22, .int i23, .int i24, .ref p25, .ref p26, .ref p27, .ref p28, .ref p29, .ref p30, .ref p31, .ref p32])), (p0, .inl (cI, 1439, .inl (ftAdd w (ftCN w) kq pq lq rq))), (p1, .inl (cI, 7195, .inl (ftPush w z hm)))]) (va_runS (As := [.ref p0, .int kq, .int pq, .int lq, .int rq]) (rest := []) ⟨hx, hb, hml, hown, hts⟩ (c_X11_comes l D cI cS H.size p0 1439 w (ftCN w) kq pq lq rq hw3 (by omega) (by omega) (by omega)) (va_cwS 5 hts gX11_addPart_X11_comes rfl rfl rfl (by decide +kernel) ⟨Nat.le_of_ble_eq_true rfl, Nat.le_of_ble_eq_true rfl⟩) (ft_preRW hP hD hKK [1] rfl rfl rfl) rfl rfl hl.1 rfl (lv_room (Nat.le_of_ble_eq_true rfl)) dX11_addPart_142 ⟨Nat.le_of_ble_eq_true rfl, Nat.le_of_ble_eq_true rfl⟩) hP hD hS hA [1] [0, 2] [0, 2, 1] rfl rfl (by decide) (by decide) (by decide) rfl rfl (fun H locs hP hD hS => ?_)
                      have hP : va_P D vwCl [(m0, .inr (11, [.ref p0, .ref p1, .int (nI (min (hm + 1) 5)), .ref p3, .int i4, .ref p5, .int i6, .int i7, .int i8, .int i9, .ref p10, .int i11, .ref p12, .ref p13, .ref p14, .int i15, .ref p16, .ref p17, .int i18, .ref p19, .ref p20, .ref p21, .ref p22, .int i23, .int i24, .ref p25, .ref p26, .ref p27, .ref p28, .ref p29, .ref p30, .ref p31, .ref p32])), (p0, .inl (cI, 1439, .inl (ftAdd w (ftCN w) kq pq lq rq))), (p1, .inl (cI, 7195, .inl (ftPush w z hm)))] H := hP
                      have hD : va_D A [(m0, .inr (11, [.ref p0, .ref p1, .int (nI (min (hm + 1) 5)), .ref p3, .int i4, .ref p5, .int i6, .int i7, .int i8, .int i9, .ref p10, .int i11, .ref p12, .ref p13, .ref p14, .int i15, .ref p16, .ref p17, .int i18, .ref p19, .ref p20, .ref p21, .ref p22, .int i23, .int i24, .ref p25, .ref p26, .ref p27, .ref p28, .ref p29, .ref p30, .ref p31, .ref p32])), (p0, .inl (cI, 1439, .inl (ftAdd w (ftCN w) kq pq lq rq))), (p1, .inl (cI, 7195, .inl (ftPush w z hm)))] := hD
                      have hw9 : ([(m0, .inr (11, [.ref p0, .ref p1, .int (nI (min (hm + 1) 5)), .ref p3, .int i4, .ref p5, .int i6, .int i7, .int i8, .int i9, .ref p10, .int i11, .ref p12, .ref p13, .ref p14, .int i15, .ref p16, .ref p17, .int i18, .ref p19, .ref p20, .ref p21, .ref p22, .int i23, .int i24, .ref p25, .ref p26, .ref p27, .ref p28, .ref p29, .ref p30, .ref p31, .ref p32])), (p0, .inl (cI, 1439, .inl (ftAdd w (ftCN w) kq pq lq rq))), (p1, .inl (cI, 7195, .inl (ftPush w z hm)))] : va_W) = [(m0, .inr (11, [.ref p0, .ref p1, .int (nI (ftCh (ftAdC w kq pq lq rq) (min (hm + 1) 5) hm)), .ref p3, .int i4, .ref p5, .int i6, .int i7, .int i8, .int i9, .ref p10, .int i11, .ref p12, .ref p13, .ref p14, .int i15, .ref p16, .ref p17, .int i18, .ref p19, .ref p20, .ref p21, .ref p22, .int i23, .int i24, .ref p25, .ref p26, .ref p27, .ref p28, .ref p29, .ref p30, .ref p31, .ref p32])), (p0, .inl (cI, 1439, .inl (ftCh (ftAdC w kq pq lq rq) (ftAdd w (ftCN w) kq pq lq rq) w))), (p1, .inl (cI, 7195, .inl (ftCh (ftAdC w kq pq lq rq) (ftPush w z hm) z)))] := by rw [ftCh_t hC, ftCh_t hC, ftCh_t hC]
                      rw [hw9] at hP hD
                      exact W.iret (v := nI (ftPosW w pq (ftCN w))) hx hb hr (fun t ht hW => ⟨⟨nI (ftPosW w pq (ftCN w)), (), rfl, (by show (nI (ftPosW w pq (ftCN w)) : Int32) = ftAdA w kq pq lq rq; rw [ftAdA, ftIte_t hV, ftIte_t c109, ftIte_f c123]), by rw [ht]; exact hP, by rw [hAe]; exact hD⟩, by rw [hAe]; exact hS.F ht⟩) hS.2.2 dX11_addPart_145
                    · have hC : ¬ ftAdC w kq pq lq rq := fun q => q.2.2 c123
                      refine lv_ldc (v := (-1000003)) hx hb hown (hts (.constant RX11 99 (-1000003)) (by decide +kernel)) dX11_addPart_126 ?_
                      have hw9 : ([(m0, .inr (11, [.ref p0, .ref p1, .int (nI hm), .ref p3, .int i4, .ref p5, .int i6, .int i7, .int i8, .int i9, .ref p10, .int i11, .ref p12, .ref p13, .ref p14, .int i15, .ref p16, .ref p17, .int i18, .ref p19, .ref p20, .ref p21, .ref p22, .int i23, .int i24, .ref p25, .ref p26, .ref p27, .ref p28, .ref p29, .ref p30, .ref p31, .ref p32])), (p0, .inl (cI, 1439, .inl w)), (p1, .inl (cI, 7195, .inl z))] : va_W) = [(m0, .inr (11, [.ref p0, .ref p1, .int (nI (ftCh (ftAdC w kq pq lq rq) (min (hm + 1) 5) hm)), .ref p3, .int i4, .ref p5, .int i6, .int i7, .int i8, .int i9, .ref p10, .int i11, .ref p12, .ref p13, .ref p14, .int i15, .ref p16, .ref p17, .int i18, .ref p19, .ref p20, .ref p21, .ref p22, .int i23, .int i24, .ref p25, .ref p26, .ref p27, .ref p28, .ref p29, .ref p30, .ref p31, .ref p32])), (p0, .inl (cI, 1439, .inl (ftCh (ftAdC w kq pq lq rq) (ftAdd w (ftCN w) kq pq lq rq) w))), (p1, .inl (cI, 7195, .inl (ftCh (ftAdC w kq pq lq rq) (ftPush w z hm) z)))] := by rw [ftCh_f hC, ftCh_f hC, ftCh_f hC]
                      rw [hw9] at hP hD
                      exact W.iret (v := (-1000003)) hx hb hr (fun t ht hW => ⟨⟨(-1000003), (), rfl, (by show ((-1000003) : Int32) = ftAdA w kq pq lq rq; rw [ftAdA, ftIte_t hV, ftIte_t c109, ftIte_t c123]), by rw [ht]; exact hP, by rw [hAe]; exact hD⟩, by rw [hAe]; exact hS.F ht⟩) hS.2.2 dX11_addPart_128
                  · have hC : ¬ ftAdC w kq pq lq rq := fun q => c109 q.2.1
                    refine lv_ldc (v := (-1000002)) hx hb hown (hts (.constant RX11 86 (-1000002)) (by decide +kernel)) dX11_addPart_112 ?_
                    have hw9 : ([(m0, .inr (11, [.ref p0, .ref p1, .int (nI hm), .ref p3, .int i4, .ref p5, .int i6, .int i7, .int i8, .int i9, .ref p10, .int i11, .ref p12, .ref p13, .ref p14, .int i15, .ref p16, .ref p17, .int i18, .ref p19, .ref p20, .ref p21, .ref p22, .int i23, .int i24, .ref p25, .ref p26, .ref p27, .ref p28, .ref p29, .ref p30, .ref p31, .ref p32])), (p0, .inl (cI, 1439, .inl w)), (p1, .inl (cI, 7195, .inl z))] : va_W) = [(m0, .inr (11, [.ref p0, .ref p1, .int (nI (ftCh (ftAdC w kq pq lq rq) (min (hm + 1) 5) hm)), .ref p3, .int i4, .ref p5, .int i6, .int i7, .int i8, .int i9, .ref p10, .int i11, .ref p12, .ref p13, .ref p14, .int i15, .ref p16, .ref p17, .int i18, .ref p19, .ref p20, .ref p21, .ref p22, .int i23, .int i24, .ref p25, .ref p26, .ref p27, .ref p28, .ref p29, .ref p30, .ref p31, .ref p32])), (p0, .inl (cI, 1439, .inl (ftCh (ftAdC w kq pq lq rq) (ftAdd w (ftCN w) kq pq lq rq) w))), (p1, .inl (cI, 7195, .inl (ftCh (ftAdC w kq pq lq rq) (ftPush w z hm) z)))] := by rw [ftCh_f hC, ftCh_f hC, ftCh_f hC]
                    rw [hw9] at hP hD
                    exact W.iret (v := (-1000002)) hx hb hr (fun t ht hW => ⟨⟨(-1000002), (), rfl, (by show ((-1000002) : Int32) = ftAdA w kq pq lq rq; rw [ftAdA, ftIte_t hV, ftIte_f c109]), by rw [ht]; exact hP, by rw [hAe]; exact hD⟩, by rw [hAe]; exact hS.F ht⟩) hS.2.2 dX11_addPart_114
                · replace c98 := ftB_eq c98
                  have hno : ¬ ftAdV w kq pq lq rq := by
                    intro q
                    have q2 := q.2
                    rw [h71, h83] at q2
                    exact c98 q2
                  have hC : ¬ ftAdC w kq pq lq rq := fun q => hno q.1
                  refine lv_ldc (v := (-1000001)) hx hb hown (hts (.constant RX11 95 (-1000001)) (by decide +kernel)) dX11_addPart_101 ?_
                  have hw9 : ([(m0, .inr (11, [.ref p0, .ref p1, .int (nI hm), .ref p3, .int i4, .ref p5, .int i6, .int i7, .int i8, .int i9, .ref p10, .int i11, .ref p12, .ref p13, .ref p14, .int i15, .ref p16, .ref p17, .int i18, .ref p19, .ref p20, .ref p21, .ref p22, .int i23, .int i24, .ref p25, .ref p26, .ref p27, .ref p28, .ref p29, .ref p30, .ref p31, .ref p32])), (p0, .inl (cI, 1439, .inl w)), (p1, .inl (cI, 7195, .inl z))] : va_W) = [(m0, .inr (11, [.ref p0, .ref p1, .int (nI (ftCh (ftAdC w kq pq lq rq) (min (hm + 1) 5) hm)), .ref p3, .int i4, .ref p5, .int i6, .int i7, .int i8, .int i9, .ref p10, .int i11, .ref p12, .ref p13, .ref p14, .int i15, .ref p16, .ref p17, .int i18, .ref p19, .ref p20, .ref p21, .ref p22, .int i23, .int i24, .ref p25, .ref p26, .ref p27, .ref p28, .ref p29, .ref p30, .ref p31, .ref p32])), (p0, .inl (cI, 1439, .inl (ftCh (ftAdC w kq pq lq rq) (ftAdd w (ftCN w) kq pq lq rq) w))), (p1, .inl (cI, 7195, .inl (ftCh (ftAdC w kq pq lq rq) (ftPush w z hm) z)))] := by rw [ftCh_f hC, ftCh_f hC, ftCh_f hC]
                  rw [hw9] at hP hD
                  exact W.iret (v := (-1000001)) hx hb hr (fun t ht hW => ⟨⟨(-1000001), (), rfl, (by show ((-1000001) : Int32) = ftAdA w kq pq lq rq; rw [ftAdA, ftIte_f hno]), by rw [ht]; exact hP, by rw [hAe]; exact hD⟩, by rw [hAe]; exact hS.F ht⟩) hS.2.2 dX11_addPart_103
              · have h83 : (if kq = 2 then (50 : Int32) else 5000) = 50 := if_pos c83
                refine lv_ldc2 (v := 50) hx hb hown (hts (.constantLong RX11 122 50) (by decide +kernel)) dX11_addPart_86 ?_
                refine lv_goto (tgt := 95) hx hb dX11_addPart_89 (by decide) ?_
                refine ft_csi (r := ftB (0 ≤ lq.toInt64 ∧ lq.toInt64 ≤ 50)) (va_runS (As := [.long lq.toInt64, .long 0, .long 50]) (rest := []) ⟨hx, hb, hml, hown, hts⟩ (c_X11_in l D cI cS lq.toInt64 0 50) (va_cwS 3 hts gX11_addPart_X11_in rfl rfl rfl (by decide +kernel) ⟨Nat.le_of_ble_eq_true rfl, Nat.le_of_ble_eq_true rfl⟩) (ft_preRO hP hKK [] rfl) rfl rfl hl.1 rfl (lv_room (Nat.le_of_ble_eq_true rfl)) dX11_addPart_95 ⟨Nat.le_of_ble_eq_true rfl, Nat.le_of_ble_eq_true rfl⟩) ?_
                refine ft_top (y := ftB (0 ≤ lq ∧ lq ≤ 50)) (ft_in64 (by decide) (by decide)) ?_
                refine lv_if_ne (tgt := 104) hx hb dX11_addPart_98 (by decide) (fun c98 => ?_) (fun c98 => ?_)
                · replace c98 := ftB_ne c98
                  have hV : ftAdV w kq pq lq rq := ⟨⟨c9, c27, hre⟩, by rw [h71, h83]; exact c98⟩
                  refine lv_aload_n hx hb dX11_addPart_104 rfl (lv_at hl 1 rfl) ?_
                  refine lv_iload_n hx hb dX11_addPart_105 rfl (lv_at hl 3 rfl) ?_
                  refine ft_csi (r := ftPa w pq (ftCN w)) (va_runV (C := RX11) (As := [.int pq]) (rest := []) ⟨hx, hb, hml, hown, hts⟩ (c_X11_partAt l D cI cS m0 p0 p1 p3 p5 p10 p12 p13 p14 p16 p17 p19 p20 p21 p22 p25 p26 p27 p28 p29 p30 p31 p32 (nI hm) i4 i6 i7 i8 i9 i11 i15 i18 i23 i24 w pq (ftCN w) hw3 hn) (cwV 1 hts gX11_addPart_X11_partAt rfl rfl rfl (by decide +kernel) ⟨Nat.le_of_ble_eq_true rfl, Nat.le_of_ble_eq_true rfl⟩) (ft_preROV (ci := 11) (q0 := 0) hP hKK [0, 1] rfl rfl rfl) rfl rfl hl.1 rfl (lv_room (Nat.le_of_ble_eq_true rfl)) dX11_addPart_106 ⟨Nat.le_of_ble_eq_true rfl, Nat.le_of_ble_eq_true rfl⟩) ?_
                  refine lv_if_lt (tgt := 115) hx hb dX11_addPart_109 (by decide) (fun c109 => ?_) (fun c109 => ?_)
                  · refine lv_aload_n hx hb dX11_addPart_115 rfl (lv_at hl 1 rfl) ?_
                    refine va_get (D := D) (ci := 11) (v := .ref p0) (C := RX11) (T := TX11) (N := 33) hx hb hts (by decide +kernel) hown hK hP 0 rfl rfl 0 (by decide) (hts (.fieldLink RX11 7 "FiberTraceModel" "now" "[I") (by decide +kernel)) (fun _ h9 => h9) rfl dX11_addPart_116 ?_
                    refine lv_iconst (v := 3) hx hb dX11_addPart_119 (by decide) ?_
                    refine va_iald hx hb hK hP 1 0 rfl rfl (vp_in_nI (n := 3) (by omega) (by omega)) dX11_addPart_120 ?_
                    refine ft_top (y := w 3) rfl ?_
                    refine lv_bipush (v := 10) hx hb dX11_addPart_121 (by decide) ?_
                    refine lv_icmp_ne (tgt := 129) hx hb dX11_addPart_123 (by decide) (fun c123 => ?_) (fun c123 => ?_)
                    · have hC : ftAdC w kq pq lq rq := ⟨hV, c109, c123⟩
                      have hn10 : ftCN w ≠ 10 := fun r => c123 (by rw [hw3, r]; rfl)
                      refine lv_aload_n hx hb dX11_addPart_129 rfl (lv_at hl 1 rfl) ?_
                      refine ft_cv (wc := [(m0, .inr (11, [.ref p0, .ref p1, .int (nI hm), .ref p3, .int i4, .ref p5, .int i6, .int i7, .int i8, .int i9, .ref p10, .int i11, .ref p12, .ref p13, .ref p14, .int i15, .ref p16, .ref p17, .int i18, .ref p19, .ref p20, .ref p21, .ref p22, .int i23, .int i24, .ref p25, .ref p26, .ref p27, .ref p28, .ref p29, .ref p30, .ref p31, .ref p32])), (p0, .inl (cI, 1439, .inl w)), (p1, .inl (cI, 7195, .inl z))]) (wr := []) (w1 := [(m0, .inr (11, [.ref p0, .ref p1, .int (nI (min (hm + 1) 5)), .ref p3, .int i4, .ref p5, .int i6, .int i7, .int i8, .int i9, .ref p10, .int i11, .ref p12, .ref p13, .ref p14, .int i15, .ref p16, .ref p17, .int i18, .ref p19, .ref p20, .ref p21, .ref p22, .int i23, .int i24, .ref p25, .ref p26, .ref p27, .ref p28, .ref p29, .ref p30, .ref p31, .ref p32])), (p0, .inl (cI, 1439, .inl w)), (p1, .inl (cI, 7195, .inl (ftPush w z hm)))]) (ws1 := [(m0, .inr (11, [.ref p0, .ref p1, .int (nI (min (hm + 1) 5)), .ref p3, .int i4, .ref p5, .int i6, .int i7, .int i8, .int i9, .ref p10, .int i11, .ref p12, .ref p13, .ref p14, .int i15, .ref p16, .ref p17, .int i18, .ref p19, .ref p20, .ref p21, .ref p22, .int i23, .int i24, .ref p25, .ref p26, .ref p27, .ref p28, .ref p29, .ref p30, .ref p31, .ref p32])), (p0, .inl (cI, 1439, .inl w)), (p1, .inl (cI, 7195, .inl (ftPush w z hm)))]) (va_runV (C := RX11) (As := []) (rest := []) ⟨hx, hb, hml, hown, hts⟩ (c_X11_change l D cI cS s.heap.size m0 p0 p1 p3 p5 p10 p12 p13 p14 p16 p17 p19 p20 p21 p22 p25 p26 p27 p28 p29 p30 p31 p32 i4 i6 i7 i8 i9 i11 i15 i18 i23 i24 w z hm hhm) (cwV 0 hts gX11_addPart_X11_change rfl rfl rfl (by decide +kernel) ⟨Nat.le_of_ble_eq_true rfl, Nat.le_of_ble_eq_true rfl⟩) (ft_preRWV (ci := 11) (q0 := 0) hP hD hKK [0, 1, 2] rfl rfl rfl rfl rfl) rfl rfl hl.1 rfl (lv_room (Nat.le_of_ble_eq_true rfl)) dX11_addPart_130 ⟨Nat.le_of_ble_eq_true rfl, Nat.le_of_ble_eq_true rfl⟩) hP hD hS hA [0, 1, 2] [] [0, 1, 2] rfl rfl (by decide) (by decide) (by decide) rfl rfl (fun H locs hP hD hS => ?_)
                      have hP : va_P D vwCl [(m0, .inr (11, [.ref p0, .ref p1, .int (nI (min (hm + 1) 5)), .ref p3, .int i4, .ref p5, .int i6, .int i7, .int i8, .int i9, .ref p10, .int i11, .ref p12, .ref p13, .ref p14, .int i15, .ref p16, .ref p17, .int i18, .ref p19, .ref p20, .ref p21, .ref p22, .int i23, .int i24, .ref p25, .ref p26, .ref p27, .ref p28, .ref p29, .ref p30, .ref p31, .ref p32])), (p0, .inl (cI, 1439, .inl w)), (p1, .inl (cI, 7195, .inl (ftPush w z hm)))] H := hP
                      have hD : va_D A [(m0, .inr (11, [.ref p0, .ref p1, .int (nI (min (hm + 1) 5)), .ref p3, .int i4, .ref p5, .int i6, .int i7, .int i8, .int i9, .ref p10, .int i11, .ref p12, .ref p13, .ref p14, .int i15, .ref p16, .ref p17, .int i18, .ref p19, .ref p20, .ref p21, .ref p22, .int i23, .int i24, .ref p25, .ref p26, .ref p27, .ref p28, .ref p29, .ref p30, .ref p31, .ref p32])), (p0, .inl (cI, 1439, .inl w)), (p1, .inl (cI, 7195, .inl (ftPush w z hm)))] := hD
                      refine lv_aload_n hx hb dX11_addPart_133 rfl (lv_at hl 1 rfl) ?_
                      refine va_get (D := D) (ci := 11) (v := .ref p0) (C := RX11) (T := TX11) (N := 33) hx hb hts (by decide +kernel) hown hK hP 0 rfl rfl 0 (by decide) (hts (.fieldLink RX11 7 "FiberTraceModel" "now" "[I") (by decide +kernel)) (fun _ h9 => h9) rfl dX11_addPart_134 ?_
                      refine lv_iload_n hx hb dX11_addPart_137 rfl (lv_at hl 2 rfl) ?_
                      refine lv_iload_n hx hb dX11_addPart_138 rfl (lv_at hl 3 rfl) ?_
                      refine lv_iload_n hx hb dX11_addPart_139 rfl (lv_at hl 4 rfl) ?_
                      refine lv_iload hx hb dX11_addPart_140 (lv_at hl 5 rfl) ?_
                      refine ft_ci (r := nI (ftPosW w pq (ftCN w))) (wc := [(p0, .inl (cI, 1439, .inl w))]) (wr := [(m0, .inr (11, [.ref p0, .ref p1, .int (nI (min (hm + 1) 5)), .ref p3, .int i4, .ref p5, .int i6, .int i7, .int i8, .int i9, .ref p10, .int i11, .ref p12, .ref p13, .ref p14, .int i15, .ref p16, .ref p17, .int i18, .ref p19, .ref p20, .ref p21, .ref p22, .int i23, .int i24, .ref p25, .ref p26, .ref p27, .ref p28, .ref p29, .ref p30, .ref p31, .ref p32])), (p1, .inl (cI, 7195, .inl (ftPush w z hm)))]) (w1 := [(p0, .inl (cI, 1439, .inl (ftAdd w (ftCN w) kq pq lq rq)))]) (ws1 := [(m0, .inr (11, [.ref p0, .ref p1, .int (nI (min (hm + 1) 5)), .ref p3, .int i4, .ref p5, .int i6, .int i7, .int i8, .int i9, .ref p10, .int i11, .ref p12, .ref p13, .ref p14, .int i15, .ref p16, .ref p17, .int i18, .ref p19, .ref p20, .ref p21, .ref p22, .int i23, .int i24, .ref p25, .ref p26, .ref p27, .ref p28, .ref p29, .ref p30, .ref p31, .ref p32])), (p0, .inl (cI, 1439, .inl (ftAdd w (ftCN w) kq pq lq rq))), (p1, .inl (cI, 7195, .inl (ftPush w z hm)))]) (va_runS (As := [.ref p0, .int kq, .int pq, .int lq, .int rq]) (rest := []) ⟨hx, hb, hml, hown, hts⟩ (c_X11_comes l D cI cS H.size p0 1439 w (ftCN w) kq pq lq rq hw3 (by omega) (by omega) (by omega)) (va_cwS 5 hts gX11_addPart_X11_comes rfl rfl rfl (by decide +kernel) ⟨Nat.le_of_ble_eq_true rfl, Nat.le_of_ble_eq_true rfl⟩) (ft_preRW hP hD hKK [1] rfl rfl rfl) rfl rfl hl.1 rfl (lv_room (Nat.le_of_ble_eq_true rfl)) dX11_addPart_142 ⟨Nat.le_of_ble_eq_true rfl, Nat.le_of_ble_eq_true rfl⟩) hP hD hS hA [1] [0, 2] [0, 2, 1] rfl rfl (by decide) (by decide) (by decide) rfl rfl (fun H locs hP hD hS => ?_)
                      have hP : va_P D vwCl [(m0, .inr (11, [.ref p0, .ref p1, .int (nI (min (hm + 1) 5)), .ref p3, .int i4, .ref p5, .int i6, .int i7, .int i8, .int i9, .ref p10, .int i11, .ref p12, .ref p13, .ref p14, .int i15, .ref p16, .ref p17, .int i18, .ref p19, .ref p20, .ref p21, .ref p22, .int i23, .int i24, .ref p25, .ref p26, .ref p27, .ref p28, .ref p29, .ref p30, .ref p31, .ref p32])), (p0, .inl (cI, 1439, .inl (ftAdd w (ftCN w) kq pq lq rq))), (p1, .inl (cI, 7195, .inl (ftPush w z hm)))] H := hP
                      have hD : va_D A [(m0, .inr (11, [.ref p0, .ref p1, .int (nI (min (hm + 1) 5)), .ref p3, .int i4, .ref p5, .int i6, .int i7, .int i8, .int i9, .ref p10, .int i11, .ref p12, .ref p13, .ref p14, .int i15, .ref p16, .ref p17, .int i18, .ref p19, .ref p20, .ref p21, .ref p22, .int i23, .int i24, .ref p25, .ref p26, .ref p27, .ref p28, .ref p29, .ref p30, .ref p31, .ref p32])), (p0, .inl (cI, 1439, .inl (ftAdd w (ftCN w) kq pq lq rq))), (p1, .inl (cI, 7195, .inl (ftPush w z hm)))] := hD
                      have hw9 : ([(m0, .inr (11, [.ref p0, .ref p1, .int (nI (min (hm + 1) 5)), .ref p3, .int i4, .ref p5, .int i6, .int i7, .int i8, .int i9, .ref p10, .int i11, .ref p12, .ref p13, .ref p14, .int i15, .ref p16, .ref p17, .int i18, .ref p19, .ref p20, .ref p21, .ref p22, .int i23, .int i24, .ref p25, .ref p26, .ref p27, .ref p28, .ref p29, .ref p30, .ref p31, .ref p32])), (p0, .inl (cI, 1439, .inl (ftAdd w (ftCN w) kq pq lq rq))), (p1, .inl (cI, 7195, .inl (ftPush w z hm)))] : va_W) = [(m0, .inr (11, [.ref p0, .ref p1, .int (nI (ftCh (ftAdC w kq pq lq rq) (min (hm + 1) 5) hm)), .ref p3, .int i4, .ref p5, .int i6, .int i7, .int i8, .int i9, .ref p10, .int i11, .ref p12, .ref p13, .ref p14, .int i15, .ref p16, .ref p17, .int i18, .ref p19, .ref p20, .ref p21, .ref p22, .int i23, .int i24, .ref p25, .ref p26, .ref p27, .ref p28, .ref p29, .ref p30, .ref p31, .ref p32])), (p0, .inl (cI, 1439, .inl (ftCh (ftAdC w kq pq lq rq) (ftAdd w (ftCN w) kq pq lq rq) w))), (p1, .inl (cI, 7195, .inl (ftCh (ftAdC w kq pq lq rq) (ftPush w z hm) z)))] := by rw [ftCh_t hC, ftCh_t hC, ftCh_t hC]
                      rw [hw9] at hP hD
                      exact W.iret (v := nI (ftPosW w pq (ftCN w))) hx hb hr (fun t ht hW => ⟨⟨nI (ftPosW w pq (ftCN w)), (), rfl, (by show (nI (ftPosW w pq (ftCN w)) : Int32) = ftAdA w kq pq lq rq; rw [ftAdA, ftIte_t hV, ftIte_t c109, ftIte_f c123]), by rw [ht]; exact hP, by rw [hAe]; exact hD⟩, by rw [hAe]; exact hS.F ht⟩) hS.2.2 dX11_addPart_145
                    · have hC : ¬ ftAdC w kq pq lq rq := fun q => q.2.2 c123
                      refine lv_ldc (v := (-1000003)) hx hb hown (hts (.constant RX11 99 (-1000003)) (by decide +kernel)) dX11_addPart_126 ?_
                      have hw9 : ([(m0, .inr (11, [.ref p0, .ref p1, .int (nI hm), .ref p3, .int i4, .ref p5, .int i6, .int i7, .int i8, .int i9, .ref p10, .int i11, .ref p12, .ref p13, .ref p14, .int i15, .ref p16, .ref p17, .int i18, .ref p19, .ref p20, .ref p21, .ref p22, .int i23, .int i24, .ref p25, .ref p26, .ref p27, .ref p28, .ref p29, .ref p30, .ref p31, .ref p32])), (p0, .inl (cI, 1439, .inl w)), (p1, .inl (cI, 7195, .inl z))] : va_W) = [(m0, .inr (11, [.ref p0, .ref p1, .int (nI (ftCh (ftAdC w kq pq lq rq) (min (hm + 1) 5) hm)), .ref p3, .int i4, .ref p5, .int i6, .int i7, .int i8, .int i9, .ref p10, .int i11, .ref p12, .ref p13, .ref p14, .int i15, .ref p16, .ref p17, .int i18, .ref p19, .ref p20, .ref p21, .ref p22, .int i23, .int i24, .ref p25, .ref p26, .ref p27, .ref p28, .ref p29, .ref p30, .ref p31, .ref p32])), (p0, .inl (cI, 1439, .inl (ftCh (ftAdC w kq pq lq rq) (ftAdd w (ftCN w) kq pq lq rq) w))), (p1, .inl (cI, 7195, .inl (ftCh (ftAdC w kq pq lq rq) (ftPush w z hm) z)))] := by rw [ftCh_f hC, ftCh_f hC, ftCh_f hC]
                      rw [hw9] at hP hD
                      exact W.iret (v := (-1000003)) hx hb hr (fun t ht hW => ⟨⟨(-1000003), (), rfl, (by show ((-1000003) : Int32) = ftAdA w kq pq lq rq; rw [ftAdA, ftIte_t hV, ftIte_t c109, ftIte_t c123]), by rw [ht]; exact hP, by rw [hAe]; exact hD⟩, by rw [hAe]; exact hS.F ht⟩) hS.2.2 dX11_addPart_128
                  · have hC : ¬ ftAdC w kq pq lq rq := fun q => c109 q.2.1
                    refine lv_ldc (v := (-1000002)) hx hb hown (hts (.constant RX11 86 (-1000002)) (by decide +kernel)) dX11_addPart_112 ?_
                    have hw9 : ([(m0, .inr (11, [.ref p0, .ref p1, .int (nI hm), .ref p3, .int i4, .ref p5, .int i6, .int i7, .int i8, .int i9, .ref p10, .int i11, .ref p12, .ref p13, .ref p14, .int i15, .ref p16, .ref p17, .int i18, .ref p19, .ref p20, .ref p21, .ref p22, .int i23, .int i24, .ref p25, .ref p26, .ref p27, .ref p28, .ref p29, .ref p30, .ref p31, .ref p32])), (p0, .inl (cI, 1439, .inl w)), (p1, .inl (cI, 7195, .inl z))] : va_W) = [(m0, .inr (11, [.ref p0, .ref p1, .int (nI (ftCh (ftAdC w kq pq lq rq) (min (hm + 1) 5) hm)), .ref p3, .int i4, .ref p5, .int i6, .int i7, .int i8, .int i9, .ref p10, .int i11, .ref p12, .ref p13, .ref p14, .int i15, .ref p16, .ref p17, .int i18, .ref p19, .ref p20, .ref p21, .ref p22, .int i23, .int i24, .ref p25, .ref p26, .ref p27, .ref p28, .ref p29, .ref p30, .ref p31, .ref p32])), (p0, .inl (cI, 1439, .inl (ftCh (ftAdC w kq pq lq rq) (ftAdd w (ftCN w) kq pq lq rq) w))), (p1, .inl (cI, 7195, .inl (ftCh (ftAdC w kq pq lq rq) (ftPush w z hm) z)))] := by rw [ftCh_f hC, ftCh_f hC, ftCh_f hC]
                    rw [hw9] at hP hD
                    exact W.iret (v := (-1000002)) hx hb hr (fun t ht hW => ⟨⟨(-1000002), (), rfl, (by show ((-1000002) : Int32) = ftAdA w kq pq lq rq; rw [ftAdA, ftIte_t hV, ftIte_f c109]), by rw [ht]; exact hP, by rw [hAe]; exact hD⟩, by rw [hAe]; exact hS.F ht⟩) hS.2.2 dX11_addPart_114
                · replace c98 := ftB_eq c98
                  have hno : ¬ ftAdV w kq pq lq rq := by
                    intro q
                    have q2 := q.2
                    rw [h71, h83] at q2
                    exact c98 q2
                  have hC : ¬ ftAdC w kq pq lq rq := fun q => hno q.1
                  refine lv_ldc (v := (-1000001)) hx hb hown (hts (.constant RX11 95 (-1000001)) (by decide +kernel)) dX11_addPart_101 ?_
                  have hw9 : ([(m0, .inr (11, [.ref p0, .ref p1, .int (nI hm), .ref p3, .int i4, .ref p5, .int i6, .int i7, .int i8, .int i9, .ref p10, .int i11, .ref p12, .ref p13, .ref p14, .int i15, .ref p16, .ref p17, .int i18, .ref p19, .ref p20, .ref p21, .ref p22, .int i23, .int i24, .ref p25, .ref p26, .ref p27, .ref p28, .ref p29, .ref p30, .ref p31, .ref p32])), (p0, .inl (cI, 1439, .inl w)), (p1, .inl (cI, 7195, .inl z))] : va_W) = [(m0, .inr (11, [.ref p0, .ref p1, .int (nI (ftCh (ftAdC w kq pq lq rq) (min (hm + 1) 5) hm)), .ref p3, .int i4, .ref p5, .int i6, .int i7, .int i8, .int i9, .ref p10, .int i11, .ref p12, .ref p13, .ref p14, .int i15, .ref p16, .ref p17, .int i18, .ref p19, .ref p20, .ref p21, .ref p22, .int i23, .int i24, .ref p25, .ref p26, .ref p27, .ref p28, .ref p29, .ref p30, .ref p31, .ref p32])), (p0, .inl (cI, 1439, .inl (ftCh (ftAdC w kq pq lq rq) (ftAdd w (ftCN w) kq pq lq rq) w))), (p1, .inl (cI, 7195, .inl (ftCh (ftAdC w kq pq lq rq) (ftPush w z hm) z)))] := by rw [ftCh_f hC, ftCh_f hC, ftCh_f hC]
                  rw [hw9] at hP hD
                  exact W.iret (v := (-1000001)) hx hb hr (fun t ht hW => ⟨⟨(-1000001), (), rfl, (by show ((-1000001) : Int32) = ftAdA w kq pq lq rq; rw [ftAdA, ftIte_f hno]), by rw [ht]; exact hP, by rw [hAe]; exact hD⟩, by rw [hAe]; exact hS.F ht⟩) hS.2.2 dX11_addPart_103
            · have h71 : (if kq = 0 then (-500 : Int32) else 0) = -500 := if_pos c71
              refine lv_ldc2 (v := (-500)) hx hb hown (hts (.constantLong RX11 128 (-500)) (by decide +kernel)) dX11_addPart_74 ?_
              refine lv_goto (tgt := 81) hx hb dX11_addPart_77 (by decide) ?_
              refine lv_iload_n hx hb dX11_addPart_81 rfl (lv_at hl 2 rfl) ?_
              refine lv_iconst (v := 2) hx hb dX11_addPart_82 (by decide) ?_
              refine lv_icmp_ne (tgt := 92) hx hb dX11_addPart_83 (by decide) (fun c83 => ?_) (fun c83 => ?_)
              · have h83 : (if kq = 2 then (50 : Int32) else 5000) = 5000 := if_neg c83
                refine lv_ldc2 (v := 5000) hx hb hown (hts (.constantLong RX11 130 5000) (by decide +kernel)) dX11_addPart_92 ?_
                refine ft_csi (r := ftB ((-500) ≤ lq.toInt64 ∧ lq.toInt64 ≤ 5000)) (va_runS (As := [.long lq.toInt64, .long (-500), .long 5000]) (rest := []) ⟨hx, hb, hml, hown, hts⟩ (c_X11_in l D cI cS lq.toInt64 (-500) 5000) (va_cwS 3 hts gX11_addPart_X11_in rfl rfl rfl (by decide +kernel) ⟨Nat.le_of_ble_eq_true rfl, Nat.le_of_ble_eq_true rfl⟩) (ft_preRO hP hKK [] rfl) rfl rfl hl.1 rfl (lv_room (Nat.le_of_ble_eq_true rfl)) dX11_addPart_95 ⟨Nat.le_of_ble_eq_true rfl, Nat.le_of_ble_eq_true rfl⟩) ?_
                refine ft_top (y := ftB ((-500) ≤ lq ∧ lq ≤ 5000)) (ft_in64 (by decide) (by decide)) ?_
                refine lv_if_ne (tgt := 104) hx hb dX11_addPart_98 (by decide) (fun c98 => ?_) (fun c98 => ?_)
                · replace c98 := ftB_ne c98
                  have hV : ftAdV w kq pq lq rq := ⟨⟨c9, c27, hre⟩, by rw [h71, h83]; exact c98⟩
                  refine lv_aload_n hx hb dX11_addPart_104 rfl (lv_at hl 1 rfl) ?_
                  refine lv_iload_n hx hb dX11_addPart_105 rfl (lv_at hl 3 rfl) ?_
                  refine ft_csi (r := ftPa w pq (ftCN w)) (va_runV (C := RX11) (As := [.int pq]) (rest := []) ⟨hx, hb, hml, hown, hts⟩ (c_X11_partAt l D cI cS m0 p0 p1 p3 p5 p10 p12 p13 p14 p16 p17 p19 p20 p21 p22 p25 p26 p27 p28 p29 p30 p31 p32 (nI hm) i4 i6 i7 i8 i9 i11 i15 i18 i23 i24 w pq (ftCN w) hw3 hn) (cwV 1 hts gX11_addPart_X11_partAt rfl rfl rfl (by decide +kernel) ⟨Nat.le_of_ble_eq_true rfl, Nat.le_of_ble_eq_true rfl⟩) (ft_preROV (ci := 11) (q0 := 0) hP hKK [0, 1] rfl rfl rfl) rfl rfl hl.1 rfl (lv_room (Nat.le_of_ble_eq_true rfl)) dX11_addPart_106 ⟨Nat.le_of_ble_eq_true rfl, Nat.le_of_ble_eq_true rfl⟩) ?_
                  refine lv_if_lt (tgt := 115) hx hb dX11_addPart_109 (by decide) (fun c109 => ?_) (fun c109 => ?_)
                  · refine lv_aload_n hx hb dX11_addPart_115 rfl (lv_at hl 1 rfl) ?_
                    refine va_get (D := D) (ci := 11) (v := .ref p0) (C := RX11) (T := TX11) (N := 33) hx hb hts (by decide +kernel) hown hK hP 0 rfl rfl 0 (by decide) (hts (.fieldLink RX11 7 "FiberTraceModel" "now" "[I") (by decide +kernel)) (fun _ h9 => h9) rfl dX11_addPart_116 ?_
                    refine lv_iconst (v := 3) hx hb dX11_addPart_119 (by decide) ?_
                    refine va_iald hx hb hK hP 1 0 rfl rfl (vp_in_nI (n := 3) (by omega) (by omega)) dX11_addPart_120 ?_
                    refine ft_top (y := w 3) rfl ?_
                    refine lv_bipush (v := 10) hx hb dX11_addPart_121 (by decide) ?_
                    refine lv_icmp_ne (tgt := 129) hx hb dX11_addPart_123 (by decide) (fun c123 => ?_) (fun c123 => ?_)
                    · have hC : ftAdC w kq pq lq rq := ⟨hV, c109, c123⟩
                      have hn10 : ftCN w ≠ 10 := fun r => c123 (by rw [hw3, r]; rfl)
                      refine lv_aload_n hx hb dX11_addPart_129 rfl (lv_at hl 1 rfl) ?_
                      refine ft_cv (wc := [(m0, .inr (11, [.ref p0, .ref p1, .int (nI hm), .ref p3, .int i4, .ref p5, .int i6, .int i7, .int i8, .int i9, .ref p10, .int i11, .ref p12, .ref p13, .ref p14, .int i15, .ref p16, .ref p17, .int i18, .ref p19, .ref p20, .ref p21, .ref p22, .int i23, .int i24, .ref p25, .ref p26, .ref p27, .ref p28, .ref p29, .ref p30, .ref p31, .ref p32])), (p0, .inl (cI, 1439, .inl w)), (p1, .inl (cI, 7195, .inl z))]) (wr := []) (w1 := [(m0, .inr (11, [.ref p0, .ref p1, .int (nI (min (hm + 1) 5)), .ref p3, .int i4, .ref p5, .int i6, .int i7, .int i8, .int i9, .ref p10, .int i11, .ref p12, .ref p13, .ref p14, .int i15, .ref p16, .ref p17, .int i18, .ref p19, .ref p20, .ref p21, .ref p22, .int i23, .int i24, .ref p25, .ref p26, .ref p27, .ref p28, .ref p29, .ref p30, .ref p31, .ref p32])), (p0, .inl (cI, 1439, .inl w)), (p1, .inl (cI, 7195, .inl (ftPush w z hm)))]) (ws1 := [(m0, .inr (11, [.ref p0, .ref p1, .int (nI (min (hm + 1) 5)), .ref p3, .int i4, .ref p5, .int i6, .int i7, .int i8, .int i9, .ref p10, .int i11, .ref p12, .ref p13, .ref p14, .int i15, .ref p16, .ref p17, .int i18, .ref p19, .ref p20, .ref p21, .ref p22, .int i23, .int i24, .ref p25, .ref p26, .ref p27, .ref p28, .ref p29, .ref p30, .ref p31, .ref p32])), (p0, .inl (cI, 1439, .inl w)), (p1, .inl (cI, 7195, .inl (ftPush w z hm)))]) (va_runV (C := RX11) (As := []) (rest := []) ⟨hx, hb, hml, hown, hts⟩ (c_X11_change l D cI cS s.heap.size m0 p0 p1 p3 p5 p10 p12 p13 p14 p16 p17 p19 p20 p21 p22 p25 p26 p27 p28 p29 p30 p31 p32 i4 i6 i7 i8 i9 i11 i15 i18 i23 i24 w z hm hhm) (cwV 0 hts gX11_addPart_X11_change rfl rfl rfl (by decide +kernel) ⟨Nat.le_of_ble_eq_true rfl, Nat.le_of_ble_eq_true rfl⟩) (ft_preRWV (ci := 11) (q0 := 0) hP hD hKK [0, 1, 2] rfl rfl rfl rfl rfl) rfl rfl hl.1 rfl (lv_room (Nat.le_of_ble_eq_true rfl)) dX11_addPart_130 ⟨Nat.le_of_ble_eq_true rfl, Nat.le_of_ble_eq_true rfl⟩) hP hD hS hA [0, 1, 2] [] [0, 1, 2] rfl rfl (by decide) (by decide) (by decide) rfl rfl (fun H locs hP hD hS => ?_)
                      have hP : va_P D vwCl [(m0, .inr (11, [.ref p0, .ref p1, .int (nI (min (hm + 1) 5)), .ref p3, .int i4, .ref p5, .int i6, .int i7, .int i8, .int i9, .ref p10, .int i11, .ref p12, .ref p13, .ref p14, .int i15, .ref p16, .ref p17, .int i18, .ref p19, .ref p20, .ref p21, .ref p22, .int i23, .int i24, .ref p25, .ref p26, .ref p27, .ref p28, .ref p29, .ref p30, .ref p31, .ref p32])), (p0, .inl (cI, 1439, .inl w)), (p1, .inl (cI, 7195, .inl (ftPush w z hm)))] H := hP
                      have hD : va_D A [(m0, .inr (11, [.ref p0, .ref p1, .int (nI (min (hm + 1) 5)), .ref p3, .int i4, .ref p5, .int i6, .int i7, .int i8, .int i9, .ref p10, .int i11, .ref p12, .ref p13, .ref p14, .int i15, .ref p16, .ref p17, .int i18, .ref p19, .ref p20, .ref p21, .ref p22, .int i23, .int i24, .ref p25, .ref p26, .ref p27, .ref p28, .ref p29, .ref p30, .ref p31, .ref p32])), (p0, .inl (cI, 1439, .inl w)), (p1, .inl (cI, 7195, .inl (ftPush w z hm)))] := hD
                      refine lv_aload_n hx hb dX11_addPart_133 rfl (lv_at hl 1 rfl) ?_
                      refine va_get (D := D) (ci := 11) (v := .ref p0) (C := RX11) (T := TX11) (N := 33) hx hb hts (by decide +kernel) hown hK hP 0 rfl rfl 0 (by decide) (hts (.fieldLink RX11 7 "FiberTraceModel" "now" "[I") (by decide +kernel)) (fun _ h9 => h9) rfl dX11_addPart_134 ?_
                      refine lv_iload_n hx hb dX11_addPart_137 rfl (lv_at hl 2 rfl) ?_
                      refine lv_iload_n hx hb dX11_addPart_138 rfl (lv_at hl 3 rfl) ?_
                      refine lv_iload_n hx hb dX11_addPart_139 rfl (lv_at hl 4 rfl) ?_
                      refine lv_iload hx hb dX11_addPart_140 (lv_at hl 5 rfl) ?_
                      refine ft_ci (r := nI (ftPosW w pq (ftCN w))) (wc := [(p0, .inl (cI, 1439, .inl w))]) (wr := [(m0, .inr (11, [.ref p0, .ref p1, .int (nI (min (hm + 1) 5)), .ref p3, .int i4, .ref p5, .int i6, .int i7, .int i8, .int i9, .ref p10, .int i11, .ref p12, .ref p13, .ref p14, .int i15, .ref p16, .ref p17, .int i18, .ref p19, .ref p20, .ref p21, .ref p22, .int i23, .int i24, .ref p25, .ref p26, .ref p27, .ref p28, .ref p29, .ref p30, .ref p31, .ref p32])), (p1, .inl (cI, 7195, .inl (ftPush w z hm)))]) (w1 := [(p0, .inl (cI, 1439, .inl (ftAdd w (ftCN w) kq pq lq rq)))]) (ws1 := [(m0, .inr (11, [.ref p0, .ref p1, .int (nI (min (hm + 1) 5)), .ref p3, .int i4, .ref p5, .int i6, .int i7, .int i8, .int i9, .ref p10, .int i11, .ref p12, .ref p13, .ref p14, .int i15, .ref p16, .ref p17, .int i18, .ref p19, .ref p20, .ref p21, .ref p22, .int i23, .int i24, .ref p25, .ref p26, .ref p27, .ref p28, .ref p29, .ref p30, .ref p31, .ref p32])), (p0, .inl (cI, 1439, .inl (ftAdd w (ftCN w) kq pq lq rq))), (p1, .inl (cI, 7195, .inl (ftPush w z hm)))]) (va_runS (As := [.ref p0, .int kq, .int pq, .int lq, .int rq]) (rest := []) ⟨hx, hb, hml, hown, hts⟩ (c_X11_comes l D cI cS H.size p0 1439 w (ftCN w) kq pq lq rq hw3 (by omega) (by omega) (by omega)) (va_cwS 5 hts gX11_addPart_X11_comes rfl rfl rfl (by decide +kernel) ⟨Nat.le_of_ble_eq_true rfl, Nat.le_of_ble_eq_true rfl⟩) (ft_preRW hP hD hKK [1] rfl rfl rfl) rfl rfl hl.1 rfl (lv_room (Nat.le_of_ble_eq_true rfl)) dX11_addPart_142 ⟨Nat.le_of_ble_eq_true rfl, Nat.le_of_ble_eq_true rfl⟩) hP hD hS hA [1] [0, 2] [0, 2, 1] rfl rfl (by decide) (by decide) (by decide) rfl rfl (fun H locs hP hD hS => ?_)
                      have hP : va_P D vwCl [(m0, .inr (11, [.ref p0, .ref p1, .int (nI (min (hm + 1) 5)), .ref p3, .int i4, .ref p5, .int i6, .int i7, .int i8, .int i9, .ref p10, .int i11, .ref p12, .ref p13, .ref p14, .int i15, .ref p16, .ref p17, .int i18, .ref p19, .ref p20, .ref p21, .ref p22, .int i23, .int i24, .ref p25, .ref p26, .ref p27, .ref p28, .ref p29, .ref p30, .ref p31, .ref p32])), (p0, .inl (cI, 1439, .inl (ftAdd w (ftCN w) kq pq lq rq))), (p1, .inl (cI, 7195, .inl (ftPush w z hm)))] H := hP
                      have hD : va_D A [(m0, .inr (11, [.ref p0, .ref p1, .int (nI (min (hm + 1) 5)), .ref p3, .int i4, .ref p5, .int i6, .int i7, .int i8, .int i9, .ref p10, .int i11, .ref p12, .ref p13, .ref p14, .int i15, .ref p16, .ref p17, .int i18, .ref p19, .ref p20, .ref p21, .ref p22, .int i23, .int i24, .ref p25, .ref p26, .ref p27, .ref p28, .ref p29, .ref p30, .ref p31, .ref p32])), (p0, .inl (cI, 1439, .inl (ftAdd w (ftCN w) kq pq lq rq))), (p1, .inl (cI, 7195, .inl (ftPush w z hm)))] := hD
                      have hw9 : ([(m0, .inr (11, [.ref p0, .ref p1, .int (nI (min (hm + 1) 5)), .ref p3, .int i4, .ref p5, .int i6, .int i7, .int i8, .int i9, .ref p10, .int i11, .ref p12, .ref p13, .ref p14, .int i15, .ref p16, .ref p17, .int i18, .ref p19, .ref p20, .ref p21, .ref p22, .int i23, .int i24, .ref p25, .ref p26, .ref p27, .ref p28, .ref p29, .ref p30, .ref p31, .ref p32])), (p0, .inl (cI, 1439, .inl (ftAdd w (ftCN w) kq pq lq rq))), (p1, .inl (cI, 7195, .inl (ftPush w z hm)))] : va_W) = [(m0, .inr (11, [.ref p0, .ref p1, .int (nI (ftCh (ftAdC w kq pq lq rq) (min (hm + 1) 5) hm)), .ref p3, .int i4, .ref p5, .int i6, .int i7, .int i8, .int i9, .ref p10, .int i11, .ref p12, .ref p13, .ref p14, .int i15, .ref p16, .ref p17, .int i18, .ref p19, .ref p20, .ref p21, .ref p22, .int i23, .int i24, .ref p25, .ref p26, .ref p27, .ref p28, .ref p29, .ref p30, .ref p31, .ref p32])), (p0, .inl (cI, 1439, .inl (ftCh (ftAdC w kq pq lq rq) (ftAdd w (ftCN w) kq pq lq rq) w))), (p1, .inl (cI, 7195, .inl (ftCh (ftAdC w kq pq lq rq) (ftPush w z hm) z)))] := by rw [ftCh_t hC, ftCh_t hC, ftCh_t hC]
                      rw [hw9] at hP hD
                      exact W.iret (v := nI (ftPosW w pq (ftCN w))) hx hb hr (fun t ht hW => ⟨⟨nI (ftPosW w pq (ftCN w)), (), rfl, (by show (nI (ftPosW w pq (ftCN w)) : Int32) = ftAdA w kq pq lq rq; rw [ftAdA, ftIte_t hV, ftIte_t c109, ftIte_f c123]), by rw [ht]; exact hP, by rw [hAe]; exact hD⟩, by rw [hAe]; exact hS.F ht⟩) hS.2.2 dX11_addPart_145
                    · have hC : ¬ ftAdC w kq pq lq rq := fun q => q.2.2 c123
                      refine lv_ldc (v := (-1000003)) hx hb hown (hts (.constant RX11 99 (-1000003)) (by decide +kernel)) dX11_addPart_126 ?_
                      have hw9 : ([(m0, .inr (11, [.ref p0, .ref p1, .int (nI hm), .ref p3, .int i4, .ref p5, .int i6, .int i7, .int i8, .int i9, .ref p10, .int i11, .ref p12, .ref p13, .ref p14, .int i15, .ref p16, .ref p17, .int i18, .ref p19, .ref p20, .ref p21, .ref p22, .int i23, .int i24, .ref p25, .ref p26, .ref p27, .ref p28, .ref p29, .ref p30, .ref p31, .ref p32])), (p0, .inl (cI, 1439, .inl w)), (p1, .inl (cI, 7195, .inl z))] : va_W) = [(m0, .inr (11, [.ref p0, .ref p1, .int (nI (ftCh (ftAdC w kq pq lq rq) (min (hm + 1) 5) hm)), .ref p3, .int i4, .ref p5, .int i6, .int i7, .int i8, .int i9, .ref p10, .int i11, .ref p12, .ref p13, .ref p14, .int i15, .ref p16, .ref p17, .int i18, .ref p19, .ref p20, .ref p21, .ref p22, .int i23, .int i24, .ref p25, .ref p26, .ref p27, .ref p28, .ref p29, .ref p30, .ref p31, .ref p32])), (p0, .inl (cI, 1439, .inl (ftCh (ftAdC w kq pq lq rq) (ftAdd w (ftCN w) kq pq lq rq) w))), (p1, .inl (cI, 7195, .inl (ftCh (ftAdC w kq pq lq rq) (ftPush w z hm) z)))] := by rw [ftCh_f hC, ftCh_f hC, ftCh_f hC]
                      rw [hw9] at hP hD
                      exact W.iret (v := (-1000003)) hx hb hr (fun t ht hW => ⟨⟨(-1000003), (), rfl, (by show ((-1000003) : Int32) = ftAdA w kq pq lq rq; rw [ftAdA, ftIte_t hV, ftIte_t c109, ftIte_t c123]), by rw [ht]; exact hP, by rw [hAe]; exact hD⟩, by rw [hAe]; exact hS.F ht⟩) hS.2.2 dX11_addPart_128
                  · have hC : ¬ ftAdC w kq pq lq rq := fun q => c109 q.2.1
                    refine lv_ldc (v := (-1000002)) hx hb hown (hts (.constant RX11 86 (-1000002)) (by decide +kernel)) dX11_addPart_112 ?_
                    have hw9 : ([(m0, .inr (11, [.ref p0, .ref p1, .int (nI hm), .ref p3, .int i4, .ref p5, .int i6, .int i7, .int i8, .int i9, .ref p10, .int i11, .ref p12, .ref p13, .ref p14, .int i15, .ref p16, .ref p17, .int i18, .ref p19, .ref p20, .ref p21, .ref p22, .int i23, .int i24, .ref p25, .ref p26, .ref p27, .ref p28, .ref p29, .ref p30, .ref p31, .ref p32])), (p0, .inl (cI, 1439, .inl w)), (p1, .inl (cI, 7195, .inl z))] : va_W) = [(m0, .inr (11, [.ref p0, .ref p1, .int (nI (ftCh (ftAdC w kq pq lq rq) (min (hm + 1) 5) hm)), .ref p3, .int i4, .ref p5, .int i6, .int i7, .int i8, .int i9, .ref p10, .int i11, .ref p12, .ref p13, .ref p14, .int i15, .ref p16, .ref p17, .int i18, .ref p19, .ref p20, .ref p21, .ref p22, .int i23, .int i24, .ref p25, .ref p26, .ref p27, .ref p28, .ref p29, .ref p30, .ref p31, .ref p32])), (p0, .inl (cI, 1439, .inl (ftCh (ftAdC w kq pq lq rq) (ftAdd w (ftCN w) kq pq lq rq) w))), (p1, .inl (cI, 7195, .inl (ftCh (ftAdC w kq pq lq rq) (ftPush w z hm) z)))] := by rw [ftCh_f hC, ftCh_f hC, ftCh_f hC]
                    rw [hw9] at hP hD
                    exact W.iret (v := (-1000002)) hx hb hr (fun t ht hW => ⟨⟨(-1000002), (), rfl, (by show ((-1000002) : Int32) = ftAdA w kq pq lq rq; rw [ftAdA, ftIte_t hV, ftIte_f c109]), by rw [ht]; exact hP, by rw [hAe]; exact hD⟩, by rw [hAe]; exact hS.F ht⟩) hS.2.2 dX11_addPart_114
                · replace c98 := ftB_eq c98
                  have hno : ¬ ftAdV w kq pq lq rq := by
                    intro q
                    have q2 := q.2
                    rw [h71, h83] at q2
                    exact c98 q2
                  have hC : ¬ ftAdC w kq pq lq rq := fun q => hno q.1
                  refine lv_ldc (v := (-1000001)) hx hb hown (hts (.constant RX11 95 (-1000001)) (by decide +kernel)) dX11_addPart_101 ?_
                  have hw9 : ([(m0, .inr (11, [.ref p0, .ref p1, .int (nI hm), .ref p3, .int i4, .ref p5, .int i6, .int i7, .int i8, .int i9, .ref p10, .int i11, .ref p12, .ref p13, .ref p14, .int i15, .ref p16, .ref p17, .int i18, .ref p19, .ref p20, .ref p21, .ref p22, .int i23, .int i24, .ref p25, .ref p26, .ref p27, .ref p28, .ref p29, .ref p30, .ref p31, .ref p32])), (p0, .inl (cI, 1439, .inl w)), (p1, .inl (cI, 7195, .inl z))] : va_W) = [(m0, .inr (11, [.ref p0, .ref p1, .int (nI (ftCh (ftAdC w kq pq lq rq) (min (hm + 1) 5) hm)), .ref p3, .int i4, .ref p5, .int i6, .int i7, .int i8, .int i9, .ref p10, .int i11, .ref p12, .ref p13, .ref p14, .int i15, .ref p16, .ref p17, .int i18, .ref p19, .ref p20, .ref p21, .ref p22, .int i23, .int i24, .ref p25, .ref p26, .ref p27, .ref p28, .ref p29, .ref p30, .ref p31, .ref p32])), (p0, .inl (cI, 1439, .inl (ftCh (ftAdC w kq pq lq rq) (ftAdd w (ftCN w) kq pq lq rq) w))), (p1, .inl (cI, 7195, .inl (ftCh (ftAdC w kq pq lq rq) (ftPush w z hm) z)))] := by rw [ftCh_f hC, ftCh_f hC, ftCh_f hC]
                  rw [hw9] at hP hD
                  exact W.iret (v := (-1000001)) hx hb hr (fun t ht hW => ⟨⟨(-1000001), (), rfl, (by show ((-1000001) : Int32) = ftAdA w kq pq lq rq; rw [ftAdA, ftIte_f hno]), by rw [ht]; exact hP, by rw [hAe]; exact hD⟩, by rw [hAe]; exact hS.F ht⟩) hS.2.2 dX11_addPart_103
              · exact absurd (c71.symm.trans c83) (by decide)
      · refine lv_iload hx hb dX11_addPart_35 (lv_at hl 4 rfl) ?_
        refine lv_i2l (v := rq.toInt64) hx hb dX11_addPart_37 rfl ?_
        refine lv_lconst (v := 1) hx hb dX11_addPart_38 (by decide) ?_
        refine lv_ldc2 (v := 20000) hx hb hown (hts (.constantLong RX11 126 20000) (by decide +kernel)) dX11_addPart_39 ?_
        refine ft_csi (r := ftB (1 ≤ rq.toInt64 ∧ rq.toInt64 ≤ 20000)) (va_runS (As := [.long rq.toInt64, .long 1, .long 20000]) (rest := []) ⟨hx, hb, hml, hown, hts⟩ (c_X11_in l D cI cS rq.toInt64 1 20000) (va_cwS 3 hts gX11_addPart_X11_in rfl rfl rfl (by decide +kernel) ⟨Nat.le_of_ble_eq_true rfl, Nat.le_of_ble_eq_true rfl⟩) (ft_preRO hP hKK [] rfl) rfl rfl hl.1 rfl (lv_room (Nat.le_of_ble_eq_true rfl)) dX11_addPart_42 ⟨Nat.le_of_ble_eq_true rfl, Nat.le_of_ble_eq_true rfl⟩) ?_
        refine ft_top (y := ftB (1 ≤ rq ∧ rq ≤ 20000)) (ft_in64 (by decide) (by decide)) ?_
        refine lv_if_eq (tgt := 60) hx hb dX11_addPart_45 (by decide) (fun c45 => ?_) (fun c45 => ?_)
        · replace c45 := ftB_eq c45
          have hno : ¬ ftAdV w kq pq lq rq := fun q => q.1.2.2.elim (fun r => c45 r.2) (fun r => r.1 c32)
          refine lv_iconst (v := 0) hx hb dX11_addPart_60 (by decide) ?_
          refine lv_istore (lv' := [(5, .int 0), (0, .ref m0), (1, .int kq), (2, .int pq), (3, .int lq), (4, .int rq)]) hx hb dX11_addPart_61 hl (by decide) rfl (fun ls hl => ?_)
          refine lv_iload hx hb dX11_addPart_63 (lv_at hl 0 rfl) ?_
          refine lv_if_eq (tgt := 101) hx hb dX11_addPart_65 (by decide) (fun c65 => ?_) (fun c65 => ?_)
          · have hC : ¬ ftAdC w kq pq lq rq := fun q => hno q.1
            refine lv_ldc (v := (-1000001)) hx hb hown (hts (.constant RX11 95 (-1000001)) (by decide +kernel)) dX11_addPart_101 ?_
            have hw9 : ([(m0, .inr (11, [.ref p0, .ref p1, .int (nI hm), .ref p3, .int i4, .ref p5, .int i6, .int i7, .int i8, .int i9, .ref p10, .int i11, .ref p12, .ref p13, .ref p14, .int i15, .ref p16, .ref p17, .int i18, .ref p19, .ref p20, .ref p21, .ref p22, .int i23, .int i24, .ref p25, .ref p26, .ref p27, .ref p28, .ref p29, .ref p30, .ref p31, .ref p32])), (p0, .inl (cI, 1439, .inl w)), (p1, .inl (cI, 7195, .inl z))] : va_W) = [(m0, .inr (11, [.ref p0, .ref p1, .int (nI (ftCh (ftAdC w kq pq lq rq) (min (hm + 1) 5) hm)), .ref p3, .int i4, .ref p5, .int i6, .int i7, .int i8, .int i9, .ref p10, .int i11, .ref p12, .ref p13, .ref p14, .int i15, .ref p16, .ref p17, .int i18, .ref p19, .ref p20, .ref p21, .ref p22, .int i23, .int i24, .ref p25, .ref p26, .ref p27, .ref p28, .ref p29, .ref p30, .ref p31, .ref p32])), (p0, .inl (cI, 1439, .inl (ftCh (ftAdC w kq pq lq rq) (ftAdd w (ftCN w) kq pq lq rq) w))), (p1, .inl (cI, 7195, .inl (ftCh (ftAdC w kq pq lq rq) (ftPush w z hm) z)))] := by rw [ftCh_f hC, ftCh_f hC, ftCh_f hC]
            rw [hw9] at hP hD
            exact W.iret (v := (-1000001)) hx hb hr (fun t ht hW => ⟨⟨(-1000001), (), rfl, (by show ((-1000001) : Int32) = ftAdA w kq pq lq rq; rw [ftAdA, ftIte_f hno]), by rw [ht]; exact hP, by rw [hAe]; exact hD⟩, by rw [hAe]; exact hS.F ht⟩) hS.2.2 dX11_addPart_103
          · exact absurd rfl c65
        · replace c45 := ftB_ne c45
          have hre : (kq = 1 ∧ 1 ≤ rq ∧ rq ≤ 20000) ∨ (¬ kq = 1 ∧ rq = 0) := Or.inl ⟨c32, c45⟩
          refine lv_goto (tgt := 56) hx hb dX11_addPart_48 (by decide) ?_
          refine lv_iconst (v := 1) hx hb dX11_addPart_56 (by decide) ?_
          refine lv_goto (tgt := 61) hx hb dX11_addPart_57 (by decide) ?_
          refine lv_istore (lv' := [(5, .int 1), (0, .ref m0), (1, .int kq), (2, .int pq), (3, .int lq), (4, .int rq)]) hx hb dX11_addPart_61 hl (by decide) rfl (fun ls hl => ?_)
          refine lv_iload hx hb dX11_addPart_63 (lv_at hl 0 rfl) ?_
          refine lv_if_eq (tgt := 101) hx hb dX11_addPart_65 (by decide) (fun c65 => ?_) (fun c65 => ?_)
          · exact absurd c65 (by decide)
          · refine lv_iload_n hx hb dX11_addPart_68 rfl (lv_at hl 4 rfl) ?_
            refine lv_i2l (v := lq.toInt64) hx hb dX11_addPart_69 rfl ?_
            refine lv_iload_n hx hb dX11_addPart_70 rfl (lv_at hl 2 rfl) ?_
            refine lv_if_ne (tgt := 80) hx hb dX11_addPart_71 (by decide) (fun c71 => ?_) (fun c71 => ?_)
            · have h71 : (if kq = 0 then (-500 : Int32) else 0) = 0 := if_neg c71
              refine lv_lconst (v := 0) hx hb dX11_addPart_80 (by decide) ?_
              refine lv_iload_n hx hb dX11_addPart_81 rfl (lv_at hl 2 rfl) ?_
              refine lv_iconst (v := 2) hx hb dX11_addPart_82 (by decide) ?_
              refine lv_icmp_ne (tgt := 92) hx hb dX11_addPart_83 (by decide) (fun c83 => ?_) (fun c83 => ?_)
              · have h83 : (if kq = 2 then (50 : Int32) else 5000) = 5000 := if_neg c83
                refine lv_ldc2 (v := 5000) hx hb hown (hts (.constantLong RX11 130 5000) (by decide +kernel)) dX11_addPart_92 ?_
                refine ft_csi (r := ftB (0 ≤ lq.toInt64 ∧ lq.toInt64 ≤ 5000)) (va_runS (As := [.long lq.toInt64, .long 0, .long 5000]) (rest := []) ⟨hx, hb, hml, hown, hts⟩ (c_X11_in l D cI cS lq.toInt64 0 5000) (va_cwS 3 hts gX11_addPart_X11_in rfl rfl rfl (by decide +kernel) ⟨Nat.le_of_ble_eq_true rfl, Nat.le_of_ble_eq_true rfl⟩) (ft_preRO hP hKK [] rfl) rfl rfl hl.1 rfl (lv_room (Nat.le_of_ble_eq_true rfl)) dX11_addPart_95 ⟨Nat.le_of_ble_eq_true rfl, Nat.le_of_ble_eq_true rfl⟩) ?_
                refine ft_top (y := ftB (0 ≤ lq ∧ lq ≤ 5000)) (ft_in64 (by decide) (by decide)) ?_
                refine lv_if_ne (tgt := 104) hx hb dX11_addPart_98 (by decide) (fun c98 => ?_) (fun c98 => ?_)
                · replace c98 := ftB_ne c98
                  have hV : ftAdV w kq pq lq rq := ⟨⟨c9, c27, hre⟩, by rw [h71, h83]; exact c98⟩
                  refine lv_aload_n hx hb dX11_addPart_104 rfl (lv_at hl 1 rfl) ?_
                  refine lv_iload_n hx hb dX11_addPart_105 rfl (lv_at hl 3 rfl) ?_
                  refine ft_csi (r := ftPa w pq (ftCN w)) (va_runV (C := RX11) (As := [.int pq]) (rest := []) ⟨hx, hb, hml, hown, hts⟩ (c_X11_partAt l D cI cS m0 p0 p1 p3 p5 p10 p12 p13 p14 p16 p17 p19 p20 p21 p22 p25 p26 p27 p28 p29 p30 p31 p32 (nI hm) i4 i6 i7 i8 i9 i11 i15 i18 i23 i24 w pq (ftCN w) hw3 hn) (cwV 1 hts gX11_addPart_X11_partAt rfl rfl rfl (by decide +kernel) ⟨Nat.le_of_ble_eq_true rfl, Nat.le_of_ble_eq_true rfl⟩) (ft_preROV (ci := 11) (q0 := 0) hP hKK [0, 1] rfl rfl rfl) rfl rfl hl.1 rfl (lv_room (Nat.le_of_ble_eq_true rfl)) dX11_addPart_106 ⟨Nat.le_of_ble_eq_true rfl, Nat.le_of_ble_eq_true rfl⟩) ?_
                  refine lv_if_lt (tgt := 115) hx hb dX11_addPart_109 (by decide) (fun c109 => ?_) (fun c109 => ?_)
                  · refine lv_aload_n hx hb dX11_addPart_115 rfl (lv_at hl 1 rfl) ?_
                    refine va_get (D := D) (ci := 11) (v := .ref p0) (C := RX11) (T := TX11) (N := 33) hx hb hts (by decide +kernel) hown hK hP 0 rfl rfl 0 (by decide) (hts (.fieldLink RX11 7 "FiberTraceModel" "now" "[I") (by decide +kernel)) (fun _ h9 => h9) rfl dX11_addPart_116 ?_
                    refine lv_iconst (v := 3) hx hb dX11_addPart_119 (by decide) ?_
                    refine va_iald hx hb hK hP 1 0 rfl rfl (vp_in_nI (n := 3) (by omega) (by omega)) dX11_addPart_120 ?_
                    refine ft_top (y := w 3) rfl ?_
                    refine lv_bipush (v := 10) hx hb dX11_addPart_121 (by decide) ?_
                    refine lv_icmp_ne (tgt := 129) hx hb dX11_addPart_123 (by decide) (fun c123 => ?_) (fun c123 => ?_)
                    · have hC : ftAdC w kq pq lq rq := ⟨hV, c109, c123⟩
                      have hn10 : ftCN w ≠ 10 := fun r => c123 (by rw [hw3, r]; rfl)
                      refine lv_aload_n hx hb dX11_addPart_129 rfl (lv_at hl 1 rfl) ?_
                      refine ft_cv (wc := [(m0, .inr (11, [.ref p0, .ref p1, .int (nI hm), .ref p3, .int i4, .ref p5, .int i6, .int i7, .int i8, .int i9, .ref p10, .int i11, .ref p12, .ref p13, .ref p14, .int i15, .ref p16, .ref p17, .int i18, .ref p19, .ref p20, .ref p21, .ref p22, .int i23, .int i24, .ref p25, .ref p26, .ref p27, .ref p28, .ref p29, .ref p30, .ref p31, .ref p32])), (p0, .inl (cI, 1439, .inl w)), (p1, .inl (cI, 7195, .inl z))]) (wr := []) (w1 := [(m0, .inr (11, [.ref p0, .ref p1, .int (nI (min (hm + 1) 5)), .ref p3, .int i4, .ref p5, .int i6, .int i7, .int i8, .int i9, .ref p10, .int i11, .ref p12, .ref p13, .ref p14, .int i15, .ref p16, .ref p17, .int i18, .ref p19, .ref p20, .ref p21, .ref p22, .int i23, .int i24, .ref p25, .ref p26, .ref p27, .ref p28, .ref p29, .ref p30, .ref p31, .ref p32])), (p0, .inl (cI, 1439, .inl w)), (p1, .inl (cI, 7195, .inl (ftPush w z hm)))]) (ws1 := [(m0, .inr (11, [.ref p0, .ref p1, .int (nI (min (hm + 1) 5)), .ref p3, .int i4, .ref p5, .int i6, .int i7, .int i8, .int i9, .ref p10, .int i11, .ref p12, .ref p13, .ref p14, .int i15, .ref p16, .ref p17, .int i18, .ref p19, .ref p20, .ref p21, .ref p22, .int i23, .int i24, .ref p25, .ref p26, .ref p27, .ref p28, .ref p29, .ref p30, .ref p31, .ref p32])), (p0, .inl (cI, 1439, .inl w)), (p1, .inl (cI, 7195, .inl (ftPush w z hm)))]) (va_runV (C := RX11) (As := []) (rest := []) ⟨hx, hb, hml, hown, hts⟩ (c_X11_change l D cI cS s.heap.size m0 p0 p1 p3 p5 p10 p12 p13 p14 p16 p17 p19 p20 p21 p22 p25 p26 p27 p28 p29 p30 p31 p32 i4 i6 i7 i8 i9 i11 i15 i18 i23 i24 w z hm hhm) (cwV 0 hts gX11_addPart_X11_change rfl rfl rfl (by decide +kernel) ⟨Nat.le_of_ble_eq_true rfl, Nat.le_of_ble_eq_true rfl⟩) (ft_preRWV (ci := 11) (q0 := 0) hP hD hKK [0, 1, 2] rfl rfl rfl rfl rfl) rfl rfl hl.1 rfl (lv_room (Nat.le_of_ble_eq_true rfl)) dX11_addPart_130 ⟨Nat.le_of_ble_eq_true rfl, Nat.le_of_ble_eq_true rfl⟩) hP hD hS hA [0, 1, 2] [] [0, 1, 2] rfl rfl (by decide) (by decide) (by decide) rfl rfl (fun H locs hP hD hS => ?_)
                      have hP : va_P D vwCl [(m0, .inr (11, [.ref p0, .ref p1, .int (nI (min (hm + 1) 5)), .ref p3, .int i4, .ref p5, .int i6, .int i7, .int i8, .int i9, .ref p10, .int i11, .ref p12, .ref p13, .ref p14, .int i15, .ref p16, .ref p17, .int i18, .ref p19, .ref p20, .ref p21, .ref p22, .int i23, .int i24, .ref p25, .ref p26, .ref p27, .ref p28, .ref p29, .ref p30, .ref p31, .ref p32])), (p0, .inl (cI, 1439, .inl w)), (p1, .inl (cI, 7195, .inl (ftPush w z hm)))] H := hP
                      have hD : va_D A [(m0, .inr (11, [.ref p0, .ref p1, .int (nI (min (hm + 1) 5)), .ref p3, .int i4, .ref p5, .int i6, .int i7, .int i8, .int i9, .ref p10, .int i11, .ref p12, .ref p13, .ref p14, .int i15, .ref p16, .ref p17, .int i18, .ref p19, .ref p20, .ref p21, .ref p22, .int i23, .int i24, .ref p25, .ref p26, .ref p27, .ref p28, .ref p29, .ref p30, .ref p31, .ref p32])), (p0, .inl (cI, 1439, .inl w)), (p1, .inl (cI, 7195, .inl (ftPush w z hm)))] := hD
                      refine lv_aload_n hx hb dX11_addPart_133 rfl (lv_at hl 1 rfl) ?_
                      refine va_get (D := D) (ci := 11) (v := .ref p0) (C := RX11) (T := TX11) (N := 33) hx hb hts (by decide +kernel) hown hK hP 0 rfl rfl 0 (by decide) (hts (.fieldLink RX11 7 "FiberTraceModel" "now" "[I") (by decide +kernel)) (fun _ h9 => h9) rfl dX11_addPart_134 ?_
                      refine lv_iload_n hx hb dX11_addPart_137 rfl (lv_at hl 2 rfl) ?_
                      refine lv_iload_n hx hb dX11_addPart_138 rfl (lv_at hl 3 rfl) ?_
                      refine lv_iload_n hx hb dX11_addPart_139 rfl (lv_at hl 4 rfl) ?_
                      refine lv_iload hx hb dX11_addPart_140 (lv_at hl 5 rfl) ?_
                      refine ft_ci (r := nI (ftPosW w pq (ftCN w))) (wc := [(p0, .inl (cI, 1439, .inl w))]) (wr := [(m0, .inr (11, [.ref p0, .ref p1, .int (nI (min (hm + 1) 5)), .ref p3, .int i4, .ref p5, .int i6, .int i7, .int i8, .int i9, .ref p10, .int i11, .ref p12, .ref p13, .ref p14, .int i15, .ref p16, .ref p17, .int i18, .ref p19, .ref p20, .ref p21, .ref p22, .int i23, .int i24, .ref p25, .ref p26, .ref p27, .ref p28, .ref p29, .ref p30, .ref p31, .ref p32])), (p1, .inl (cI, 7195, .inl (ftPush w z hm)))]) (w1 := [(p0, .inl (cI, 1439, .inl (ftAdd w (ftCN w) kq pq lq rq)))]) (ws1 := [(m0, .inr (11, [.ref p0, .ref p1, .int (nI (min (hm + 1) 5)), .ref p3, .int i4, .ref p5, .int i6, .int i7, .int i8, .int i9, .ref p10, .int i11, .ref p12, .ref p13, .ref p14, .int i15, .ref p16, .ref p17, .int i18, .ref p19, .ref p20, .ref p21, .ref p22, .int i23, .int i24, .ref p25, .ref p26, .ref p27, .ref p28, .ref p29, .ref p30, .ref p31, .ref p32])), (p0, .inl (cI, 1439, .inl (ftAdd w (ftCN w) kq pq lq rq))), (p1, .inl (cI, 7195, .inl (ftPush w z hm)))]) (va_runS (As := [.ref p0, .int kq, .int pq, .int lq, .int rq]) (rest := []) ⟨hx, hb, hml, hown, hts⟩ (c_X11_comes l D cI cS H.size p0 1439 w (ftCN w) kq pq lq rq hw3 (by omega) (by omega) (by omega)) (va_cwS 5 hts gX11_addPart_X11_comes rfl rfl rfl (by decide +kernel) ⟨Nat.le_of_ble_eq_true rfl, Nat.le_of_ble_eq_true rfl⟩) (ft_preRW hP hD hKK [1] rfl rfl rfl) rfl rfl hl.1 rfl (lv_room (Nat.le_of_ble_eq_true rfl)) dX11_addPart_142 ⟨Nat.le_of_ble_eq_true rfl, Nat.le_of_ble_eq_true rfl⟩) hP hD hS hA [1] [0, 2] [0, 2, 1] rfl rfl (by decide) (by decide) (by decide) rfl rfl (fun H locs hP hD hS => ?_)
                      have hP : va_P D vwCl [(m0, .inr (11, [.ref p0, .ref p1, .int (nI (min (hm + 1) 5)), .ref p3, .int i4, .ref p5, .int i6, .int i7, .int i8, .int i9, .ref p10, .int i11, .ref p12, .ref p13, .ref p14, .int i15, .ref p16, .ref p17, .int i18, .ref p19, .ref p20, .ref p21, .ref p22, .int i23, .int i24, .ref p25, .ref p26, .ref p27, .ref p28, .ref p29, .ref p30, .ref p31, .ref p32])), (p0, .inl (cI, 1439, .inl (ftAdd w (ftCN w) kq pq lq rq))), (p1, .inl (cI, 7195, .inl (ftPush w z hm)))] H := hP
                      have hD : va_D A [(m0, .inr (11, [.ref p0, .ref p1, .int (nI (min (hm + 1) 5)), .ref p3, .int i4, .ref p5, .int i6, .int i7, .int i8, .int i9, .ref p10, .int i11, .ref p12, .ref p13, .ref p14, .int i15, .ref p16, .ref p17, .int i18, .ref p19, .ref p20, .ref p21, .ref p22, .int i23, .int i24, .ref p25, .ref p26, .ref p27, .ref p28, .ref p29, .ref p30, .ref p31, .ref p32])), (p0, .inl (cI, 1439, .inl (ftAdd w (ftCN w) kq pq lq rq))), (p1, .inl (cI, 7195, .inl (ftPush w z hm)))] := hD
                      have hw9 : ([(m0, .inr (11, [.ref p0, .ref p1, .int (nI (min (hm + 1) 5)), .ref p3, .int i4, .ref p5, .int i6, .int i7, .int i8, .int i9, .ref p10, .int i11, .ref p12, .ref p13, .ref p14, .int i15, .ref p16, .ref p17, .int i18, .ref p19, .ref p20, .ref p21, .ref p22, .int i23, .int i24, .ref p25, .ref p26, .ref p27, .ref p28, .ref p29, .ref p30, .ref p31, .ref p32])), (p0, .inl (cI, 1439, .inl (ftAdd w (ftCN w) kq pq lq rq))), (p1, .inl (cI, 7195, .inl (ftPush w z hm)))] : va_W) = [(m0, .inr (11, [.ref p0, .ref p1, .int (nI (ftCh (ftAdC w kq pq lq rq) (min (hm + 1) 5) hm)), .ref p3, .int i4, .ref p5, .int i6, .int i7, .int i8, .int i9, .ref p10, .int i11, .ref p12, .ref p13, .ref p14, .int i15, .ref p16, .ref p17, .int i18, .ref p19, .ref p20, .ref p21, .ref p22, .int i23, .int i24, .ref p25, .ref p26, .ref p27, .ref p28, .ref p29, .ref p30, .ref p31, .ref p32])), (p0, .inl (cI, 1439, .inl (ftCh (ftAdC w kq pq lq rq) (ftAdd w (ftCN w) kq pq lq rq) w))), (p1, .inl (cI, 7195, .inl (ftCh (ftAdC w kq pq lq rq) (ftPush w z hm) z)))] := by rw [ftCh_t hC, ftCh_t hC, ftCh_t hC]
                      rw [hw9] at hP hD
                      exact W.iret (v := nI (ftPosW w pq (ftCN w))) hx hb hr (fun t ht hW => ⟨⟨nI (ftPosW w pq (ftCN w)), (), rfl, (by show (nI (ftPosW w pq (ftCN w)) : Int32) = ftAdA w kq pq lq rq; rw [ftAdA, ftIte_t hV, ftIte_t c109, ftIte_f c123]), by rw [ht]; exact hP, by rw [hAe]; exact hD⟩, by rw [hAe]; exact hS.F ht⟩) hS.2.2 dX11_addPart_145
                    · have hC : ¬ ftAdC w kq pq lq rq := fun q => q.2.2 c123
                      refine lv_ldc (v := (-1000003)) hx hb hown (hts (.constant RX11 99 (-1000003)) (by decide +kernel)) dX11_addPart_126 ?_
                      have hw9 : ([(m0, .inr (11, [.ref p0, .ref p1, .int (nI hm), .ref p3, .int i4, .ref p5, .int i6, .int i7, .int i8, .int i9, .ref p10, .int i11, .ref p12, .ref p13, .ref p14, .int i15, .ref p16, .ref p17, .int i18, .ref p19, .ref p20, .ref p21, .ref p22, .int i23, .int i24, .ref p25, .ref p26, .ref p27, .ref p28, .ref p29, .ref p30, .ref p31, .ref p32])), (p0, .inl (cI, 1439, .inl w)), (p1, .inl (cI, 7195, .inl z))] : va_W) = [(m0, .inr (11, [.ref p0, .ref p1, .int (nI (ftCh (ftAdC w kq pq lq rq) (min (hm + 1) 5) hm)), .ref p3, .int i4, .ref p5, .int i6, .int i7, .int i8, .int i9, .ref p10, .int i11, .ref p12, .ref p13, .ref p14, .int i15, .ref p16, .ref p17, .int i18, .ref p19, .ref p20, .ref p21, .ref p22, .int i23, .int i24, .ref p25, .ref p26, .ref p27, .ref p28, .ref p29, .ref p30, .ref p31, .ref p32])), (p0, .inl (cI, 1439, .inl (ftCh (ftAdC w kq pq lq rq) (ftAdd w (ftCN w) kq pq lq rq) w))), (p1, .inl (cI, 7195, .inl (ftCh (ftAdC w kq pq lq rq) (ftPush w z hm) z)))] := by rw [ftCh_f hC, ftCh_f hC, ftCh_f hC]
                      rw [hw9] at hP hD
                      exact W.iret (v := (-1000003)) hx hb hr (fun t ht hW => ⟨⟨(-1000003), (), rfl, (by show ((-1000003) : Int32) = ftAdA w kq pq lq rq; rw [ftAdA, ftIte_t hV, ftIte_t c109, ftIte_t c123]), by rw [ht]; exact hP, by rw [hAe]; exact hD⟩, by rw [hAe]; exact hS.F ht⟩) hS.2.2 dX11_addPart_128
                  · have hC : ¬ ftAdC w kq pq lq rq := fun q => c109 q.2.1
                    refine lv_ldc (v := (-1000002)) hx hb hown (hts (.constant RX11 86 (-1000002)) (by decide +kernel)) dX11_addPart_112 ?_
                    have hw9 : ([(m0, .inr (11, [.ref p0, .ref p1, .int (nI hm), .ref p3, .int i4, .ref p5, .int i6, .int i7, .int i8, .int i9, .ref p10, .int i11, .ref p12, .ref p13, .ref p14, .int i15, .ref p16, .ref p17, .int i18, .ref p19, .ref p20, .ref p21, .ref p22, .int i23, .int i24, .ref p25, .ref p26, .ref p27, .ref p28, .ref p29, .ref p30, .ref p31, .ref p32])), (p0, .inl (cI, 1439, .inl w)), (p1, .inl (cI, 7195, .inl z))] : va_W) = [(m0, .inr (11, [.ref p0, .ref p1, .int (nI (ftCh (ftAdC w kq pq lq rq) (min (hm + 1) 5) hm)), .ref p3, .int i4, .ref p5, .int i6, .int i7, .int i8, .int i9, .ref p10, .int i11, .ref p12, .ref p13, .ref p14, .int i15, .ref p16, .ref p17, .int i18, .ref p19, .ref p20, .ref p21, .ref p22, .int i23, .int i24, .ref p25, .ref p26, .ref p27, .ref p28, .ref p29, .ref p30, .ref p31, .ref p32])), (p0, .inl (cI, 1439, .inl (ftCh (ftAdC w kq pq lq rq) (ftAdd w (ftCN w) kq pq lq rq) w))), (p1, .inl (cI, 7195, .inl (ftCh (ftAdC w kq pq lq rq) (ftPush w z hm) z)))] := by rw [ftCh_f hC, ftCh_f hC, ftCh_f hC]
                    rw [hw9] at hP hD
                    exact W.iret (v := (-1000002)) hx hb hr (fun t ht hW => ⟨⟨(-1000002), (), rfl, (by show ((-1000002) : Int32) = ftAdA w kq pq lq rq; rw [ftAdA, ftIte_t hV, ftIte_f c109]), by rw [ht]; exact hP, by rw [hAe]; exact hD⟩, by rw [hAe]; exact hS.F ht⟩) hS.2.2 dX11_addPart_114
                · replace c98 := ftB_eq c98
                  have hno : ¬ ftAdV w kq pq lq rq := by
                    intro q
                    have q2 := q.2
                    rw [h71, h83] at q2
                    exact c98 q2
                  have hC : ¬ ftAdC w kq pq lq rq := fun q => hno q.1
                  refine lv_ldc (v := (-1000001)) hx hb hown (hts (.constant RX11 95 (-1000001)) (by decide +kernel)) dX11_addPart_101 ?_
                  have hw9 : ([(m0, .inr (11, [.ref p0, .ref p1, .int (nI hm), .ref p3, .int i4, .ref p5, .int i6, .int i7, .int i8, .int i9, .ref p10, .int i11, .ref p12, .ref p13, .ref p14, .int i15, .ref p16, .ref p17, .int i18, .ref p19, .ref p20, .ref p21, .ref p22, .int i23, .int i24, .ref p25, .ref p26, .ref p27, .ref p28, .ref p29, .ref p30, .ref p31, .ref p32])), (p0, .inl (cI, 1439, .inl w)), (p1, .inl (cI, 7195, .inl z))] : va_W) = [(m0, .inr (11, [.ref p0, .ref p1, .int (nI (ftCh (ftAdC w kq pq lq rq) (min (hm + 1) 5) hm)), .ref p3, .int i4, .ref p5, .int i6, .int i7, .int i8, .int i9, .ref p10, .int i11, .ref p12, .ref p13, .ref p14, .int i15, .ref p16, .ref p17, .int i18, .ref p19, .ref p20, .ref p21, .ref p22, .int i23, .int i24, .ref p25, .ref p26, .ref p27, .ref p28, .ref p29, .ref p30, .ref p31, .ref p32])), (p0, .inl (cI, 1439, .inl (ftCh (ftAdC w kq pq lq rq) (ftAdd w (ftCN w) kq pq lq rq) w))), (p1, .inl (cI, 7195, .inl (ftCh (ftAdC w kq pq lq rq) (ftPush w z hm) z)))] := by rw [ftCh_f hC, ftCh_f hC, ftCh_f hC]
                  rw [hw9] at hP hD
                  exact W.iret (v := (-1000001)) hx hb hr (fun t ht hW => ⟨⟨(-1000001), (), rfl, (by show ((-1000001) : Int32) = ftAdA w kq pq lq rq; rw [ftAdA, ftIte_f hno]), by rw [ht]; exact hP, by rw [hAe]; exact hD⟩, by rw [hAe]; exact hS.F ht⟩) hS.2.2 dX11_addPart_103
              · exact absurd (c32.symm.trans c83) (by decide)
            · exact absurd (c32.symm.trans c71) (by decide)
set_option maxHeartbeats 4000000 in
set_option maxRecDepth 100000 in
theorem c_X11_removePart (l : Launch) (D : va_G) (cI cS : ClassId) (sz : Nat) (m0 p0 p1 p3 p5 p10 p12 p13 p14 p16 p17 p19 p20 p21 p22 p25 p26 p27 p28 p29 p30 p31 p32 : Nat) (i4 i6 i7 i8 i9 i11 i15 i18 i23 i24 : Int32) (w z : Nat → Int32) (hm : Nat) (xq0 : Int32) (hwf : ftWf w) (hhm : hm ≤ 5) : Met l yX11_removePart wsX11_removePart ({ frames := 2, cells := 0, slots := 0, locals := 46 }) (ftRW D cI cS [.ref m0, .int xq0] [(m0, .inr (11, [.ref p0, .ref p1, .int (nI hm), .ref p3, .int i4, .ref p5, .int i6, .int i7, .int i8, .int i9, .ref p10, .int i11, .ref p12, .ref p13, .ref p14, .int i15, .ref p16, .ref p17, .int i18, .ref p19, .ref p20, .ref p21, .ref p22, .int i23, .int i24, .ref p25, .ref p26, .ref p27, .ref p28, .ref p29, .ref p30, .ref p31, .ref p32])), (p0, .inl (cI, 1439, .inl w)), (p1, .inl (cI, 7195, .inl z))] sz) (ftQi D (ftIte (ftRmC w xq0) (nI (ftCN w - 1)) (-1000001)) [(m0, .inr (11, [.ref p0, .ref p1, .int (nI hm), .ref p3, .int i4, .ref p5, .int i6, .int i7, .int i8, .int i9, .ref p10, .int i11, .ref p12, .ref p13, .ref p14, .int i15, .ref p16, .ref p17, .int i18, .ref p19, .ref p20, .ref p21, .ref p22, .int i23, .int i24, .ref p25, .ref p26, .ref p27, .ref p28, .ref p29, .ref p30, .ref p31, .ref p32])), (p0, .inl (cI, 1439, .inl w)), (p1, .inl (cI, 7195, .inl z))] [(m0, .inr (11, [.ref p0, .ref p1, .int (nI (ftCh (ftRmC w xq0) (min (hm + 1) 5) hm)), .ref p3, .int i4, .ref p5, .int i6, .int i7, .int i8, .int i9, .ref p10, .int i11, .ref p12, .ref p13, .ref p14, .int i15, .ref p16, .ref p17, .int i18, .ref p19, .ref p20, .ref p21, .ref p22, .int i23, .int i24, .ref p25, .ref p26, .ref p27, .ref p28, .ref p29, .ref p30, .ref p31, .ref p32])), (p0, .inl (cI, 1439, .inl (ftCh (ftRmC w xq0) (ftDel w xq0.toNatClampNeg) w))), (p1, .inl (cI, 7195, .inl (ftCh (ftRmC w xq0) (ftPush w z hm) z)))] sz) 0 0 (va_A [(m0, .inr (11, [.ref p0, .ref p1, .int (nI hm), .ref p3, .int i4, .ref p5, .int i6, .int i7, .int i8, .int i9, .ref p10, .int i11, .ref p12, .ref p13, .ref p14, .int i15, .ref p16, .ref p17, .int i18, .ref p19, .ref p20, .ref p21, .ref p22, .int i23, .int i24, .ref p25, .ref p26, .ref p27, .ref p28, .ref p29, .ref p30, .ref p31, .ref p32])), (p0, .inl (cI, 1439, .inl w)), (p1, .inl (cI, 7195, .inl z))] sz) := by
  refine Met.ofW (cc := cX11_removePart) (maxL := 3) (ret := (some .int)) (by decide) rfl ?_
  intro p e s m args below meth c s₁ B hml hv
  obtain ⟨rfl, hsz, hP, hKK, hD0⟩ := hv
  have hK := hKK.1
  have hx := B.exec
  have hb := B.bytes
  have hr := B.returns
  have hts := atoms_spec (ws := wsX11_removePart) B.pre
  have hown : s.vm.findClass RX11 = some m.cls := findClass_of_methodNamed B.named
  have hlocks := B.notSynchronized
  subst hsz
  have hD := hD0.self (sz := s.heap.size)
  generalize hAe : va_A [(m0, .inr (11, [.ref p0, .ref p1, .int (nI hm), .ref p3, .int i4, .ref p5, .int i6, .int i7, .int i8, .int i9, .ref p10, .int i11, .ref p12, .ref p13, .ref p14, .int i15, .ref p16, .ref p17, .int i18, .ref p19, .ref p20, .ref p21, .ref p22, .int i23, .int i24, .ref p25, .ref p26, .ref p27, .ref p28, .ref p29, .ref p30, .ref p31, .ref p32])), (p0, .inl (cI, 1439, .inl w)), (p1, .inl (cI, 7195, .inl z))] s.heap.size = A at hD ⊢
  have hA : ∀ q : Nat, s.heap.size ≤ q → A q := fun q h => by rw [← hAe]; exact Or.inr h
  have hS : va_S A s.heap s.heap [] := va_S.rf
  have hD : va_D A [(m0, .inr (11, [.ref p0, .ref p1, .int (nI hm), .ref p3, .int i4, .ref p5, .int i6, .int i7, .int i8, .int i9, .ref p10, .int i11, .ref p12, .ref p13, .ref p14, .int i15, .ref p16, .ref p17, .int i18, .ref p19, .ref p20, .ref p21, .ref p22, .int i23, .int i24, .ref p25, .ref p26, .ref p27, .ref p28, .ref p29, .ref p30, .ref p31, .ref p32])), (p0, .inl (cI, 1439, .inl w)), (p1, .inl (cI, 7195, .inl z))] := hD
  have hP : va_P D vwCl [(m0, .inr (11, [.ref p0, .ref p1, .int (nI hm), .ref p3, .int i4, .ref p5, .int i6, .int i7, .int i8, .int i9, .ref p10, .int i11, .ref p12, .ref p13, .ref p14, .int i15, .ref p16, .ref p17, .int i18, .ref p19, .ref p20, .ref p21, .ref p22, .int i23, .int i24, .ref p25, .ref p26, .ref p27, .ref p28, .ref p29, .ref p30, .ref p31, .ref p32])), (p0, .inl (cI, 1439, .inl w)), (p1, .inl (cI, 7195, .inl z))] s.heap := hP
  have hl := lv_entry ([.ref m0, .int xq0]) (n := 3) (Nat.le_of_ble_eq_true rfl)
  rw [lg_entry_eq]
  generalize (lg_sl ([.ref m0, .int xq0]) ++ List.replicate (3 - (lg_sl ([.ref m0, .int xq0])).length) Slot.unset).toArray = ls at hl ⊢
  have hl : lv_has ls 3 [(0, .ref m0), (1, .int xq0)] := hl
  have hw3 := ftWf_3 hwf
  have hn := ftWf_n hwf
  have hw0 := ftWf_0 hwf
  have hln := ftWf_ln hwf
  have hlg := ftWf_lg hwf
  refine lv_aload_n hx hb dX11_removePart_0 rfl (lv_at hl 0 rfl) ?_
  refine lv_iload_n hx hb dX11_removePart_1 rfl (lv_at hl 1 rfl) ?_
  refine ft_csi (r := ftB (0 ≤ xq0 ∧ xq0 ≤ w 3 - 1)) (va_runV (C := RX11) (As := [.int xq0]) (rest := []) ⟨hx, hb, hml, hown, hts⟩ (c_X11_isPart l D cI cS m0 p0 p1 p3 p5 p10 p12 p13 p14 p16 p17 p19 p20 p21 p22 p25 p26 p27 p28 p29 p30 p31 p32 (nI hm) i4 i6 i7 i8 i9 i11 i15 i18 i23 i24 w xq0) (cwV 1 hts gX11_removePart_X11_isPart rfl rfl rfl (by decide +kernel) ⟨Nat.le_of_ble_eq_true rfl, Nat.le_of_ble_eq_true rfl⟩) (ft_preROV (ci := 11) (q0 := 0) hP hKK [0, 1] rfl rfl rfl) rfl rfl hl.1 rfl (lv_room (Nat.le_of_ble_eq_true rfl)) dX11_removePart_2 ⟨Nat.le_of_ble_eq_true rfl, Nat.le_of_ble_eq_true rfl⟩) ?_
  refine lv_if_ne (tgt := 11) hx hb dX11_removePart_5 (by decide) (fun c5 => ?_) (fun c5 => ?_)
  · replace c5 := ftB_ne c5
    have hC : ftRmC w xq0 := c5
    obtain ⟨hk9, hxk⟩ := ft_btw (K := ftCN w) (by omega) c5.1 (by rw [← hw3]; exact c5.2)
    obtain ⟨k9, hk8⟩ : ∃ k, xq0.toNatClampNeg = k := ⟨_, rfl⟩
    rw [hk8] at hk9 hxk
    rw [hxk] at hl
    refine lv_aload_n hx hb dX11_removePart_11 rfl (lv_at hl 0 rfl) ?_
    refine ft_cv (wc := [(m0, .inr (11, [.ref p0, .ref p1, .int (nI hm), .ref p3, .int i4, .ref p5, .int i6, .int i7, .int i8, .int i9, .ref p10, .int i11, .ref p12, .ref p13, .ref p14, .int i15, .ref p16, .ref p17, .int i18, .ref p19, .ref p20, .ref p21, .ref p22, .int i23, .int i24, .ref p25, .ref p26, .ref p27, .ref p28, .ref p29, .ref p30, .ref p31, .ref p32])), (p0, .inl (cI, 1439, .inl w)), (p1, .inl (cI, 7195, .inl z))]) (wr := []) (w1 := [(m0, .inr (11, [.ref p0, .ref p1, .int (nI (min (hm + 1) 5)), .ref p3, .int i4, .ref p5, .int i6, .int i7, .int i8, .int i9, .ref p10, .int i11, .ref p12, .ref p13, .ref p14, .int i15, .ref p16, .ref p17, .int i18, .ref p19, .ref p20, .ref p21, .ref p22, .int i23, .int i24, .ref p25, .ref p26, .ref p27, .ref p28, .ref p29, .ref p30, .ref p31, .ref p32])), (p0, .inl (cI, 1439, .inl w)), (p1, .inl (cI, 7195, .inl (ftPush w z hm)))]) (ws1 := [(m0, .inr (11, [.ref p0, .ref p1, .int (nI (min (hm + 1) 5)), .ref p3, .int i4, .ref p5, .int i6, .int i7, .int i8, .int i9, .ref p10, .int i11, .ref p12, .ref p13, .ref p14, .int i15, .ref p16, .ref p17, .int i18, .ref p19, .ref p20, .ref p21, .ref p22, .int i23, .int i24, .ref p25, .ref p26, .ref p27, .ref p28, .ref p29, .ref p30, .ref p31, .ref p32])), (p0, .inl (cI, 1439, .inl w)), (p1, .inl (cI, 7195, .inl (ftPush w z hm)))]) (va_runV (C := RX11) (As := []) (rest := []) ⟨hx, hb, hml, hown, hts⟩ (c_X11_change l D cI cS s.heap.size m0 p0 p1 p3 p5 p10 p12 p13 p14 p16 p17 p19 p20 p21 p22 p25 p26 p27 p28 p29 p30 p31 p32 i4 i6 i7 i8 i9 i11 i15 i18 i23 i24 w z hm hhm) (cwV 0 hts gX11_removePart_X11_change rfl rfl rfl (by decide +kernel) ⟨Nat.le_of_ble_eq_true rfl, Nat.le_of_ble_eq_true rfl⟩) (ft_preRWV (ci := 11) (q0 := 0) hP hD hKK [0, 1, 2] rfl rfl rfl rfl rfl) rfl rfl hl.1 rfl (lv_room (Nat.le_of_ble_eq_true rfl)) dX11_removePart_12 ⟨Nat.le_of_ble_eq_true rfl, Nat.le_of_ble_eq_true rfl⟩) hP hD hS hA [0, 1, 2] [] [0, 1, 2] rfl rfl (by decide) (by decide) (by decide) rfl rfl (fun H locs hP hD hS => ?_)
    have hP : va_P D vwCl [(m0, .inr (11, [.ref p0, .ref p1, .int (nI (min (hm + 1) 5)), .ref p3, .int i4, .ref p5, .int i6, .int i7, .int i8, .int i9, .ref p10, .int i11, .ref p12, .ref p13, .ref p14, .int i15, .ref p16, .ref p17, .int i18, .ref p19, .ref p20, .ref p21, .ref p22, .int i23, .int i24, .ref p25, .ref p26, .ref p27, .ref p28, .ref p29, .ref p30, .ref p31, .ref p32])), (p0, .inl (cI, 1439, .inl w)), (p1, .inl (cI, 7195, .inl (ftPush w z hm)))] H := hP
    have hD : va_D A [(m0, .inr (11, [.ref p0, .ref p1, .int (nI (min (hm + 1) 5)), .ref p3, .int i4, .ref p5, .int i6, .int i7, .int i8, .int i9, .ref p10, .int i11, .ref p12, .ref p13, .ref p14, .int i15, .ref p16, .ref p17, .int i18, .ref p19, .ref p20, .ref p21, .ref p22, .int i23, .int i24, .ref p25, .ref p26, .ref p27, .ref p28, .ref p29, .ref p30, .ref p31, .ref p32])), (p0, .inl (cI, 1439, .inl w)), (p1, .inl (cI, 7195, .inl (ftPush w z hm)))] := hD
    refine lv_aload_n hx hb dX11_removePart_15 rfl (lv_at hl 0 rfl) ?_
    refine va_get (D := D) (ci := 11) (v := .ref p0) (C := RX11) (T := TX11) (N := 33) hx hb hts (by decide +kernel) hown hK hP 0 rfl rfl 0 (by decide) (hts (.fieldLink RX11 7 "FiberTraceModel" "now" "[I") (by decide +kernel)) (fun _ h9 => h9) rfl dX11_removePart_16 ?_
    refine lv_iconst (v := 3) hx hb dX11_removePart_19 (by decide) ?_
    refine lv_dup2_11 hx hb dX11_removePart_20 rfl rfl ?_
    refine va_iald hx hb hK hP 1 0 rfl rfl (vp_in_nI (n := 3) (by omega) (by omega)) dX11_removePart_21 ?_
    refine ft_top (y := w 3) rfl ?_
    refine ft_top (y := nI (ftCN w)) hw3 ?_
    refine lv_iconst (v := 1) hx hb dX11_removePart_22 (by decide) ?_
    refine lv_isub hx hb dX11_removePart_23 ?_
    refine ft_top (y := nI ((ftCN w) - 1)) (ft_subN (a := ftCN w) (b := 1) (by omega)) ?_
    refine va_iast hx hb hK hP hD hS 1 0 rfl rfl (vp_in_nI (n := 3) (by omega) (by omega)) dX11_removePart_24 (fun H locs hP hD hS => ?_)
    have hP : va_P D vwCl [(m0, .inr (11, [.ref p0, .ref p1, .int (nI (min (hm + 1) 5)), .ref p3, .int i4, .ref p5, .int i6, .int i7, .int i8, .int i9, .ref p10, .int i11, .ref p12, .ref p13, .ref p14, .int i15, .ref p16, .ref p17, .int i18, .ref p19, .ref p20, .ref p21, .ref p22, .int i23, .int i24, .ref p25, .ref p26, .ref p27, .ref p28, .ref p29, .ref p30, .ref p31, .ref p32])), (p0, .inl (cI, 1439, .inl (upd w 3 (nI ((ftCN w) - 1))))), (p1, .inl (cI, 7195, .inl (ftPush w z hm)))] H := hP
    have hD : va_D A [(m0, .inr (11, [.ref p0, .ref p1, .int (nI (min (hm + 1) 5)), .ref p3, .int i4, .ref p5, .int i6, .int i7, .int i8, .int i9, .ref p10, .int i11, .ref p12, .ref p13, .ref p14, .int i15, .ref p16, .ref p17, .int i18, .ref p19, .ref p20, .ref p21, .ref p22, .int i23, .int i24, .ref p25, .ref p26, .ref p27, .ref p28, .ref p29, .ref p30, .ref p31, .ref p32])), (p0, .inl (cI, 1439, .inl (upd w 3 (nI ((ftCN w) - 1))))), (p1, .inl (cI, 7195, .inl (ftPush w z hm)))] := hD
    refine lv_iconst (v := 4) hx hb dX11_removePart_25 (by decide) ?_
    refine lv_iconst (v := 4) hx hb dX11_removePart_26 (by decide) ?_
    refine lv_iload_n hx hb dX11_removePart_27 rfl (lv_at hl 1 rfl) ?_
    refine lv_imul hx hb dX11_removePart_28 ?_
    refine ft_top (y := nI (4 * k9)) (ft_mulN 4 k9) ?_
    refine lv_iadd hx hb dX11_removePart_29 ?_
    refine ft_top (y := nI (4 + (4 * k9))) (ft_addN 4 (4 * k9)) ?_
    refine lv_istore_n (lv' := [(2, .int (nI (4 + (4 * k9)))), (0, .ref m0), (1, .int (nI k9))]) hx hb dX11_removePart_30 rfl hl (by decide) rfl (fun ls hl => ?_)
    have lp31 : ∀ (n31 : Nat) (j : Nat) (x31_2 : Int32) (g31_p0 : Nat → Int32), 4 + 4 * (ftCN w - 1) - j < n31 → (4 + 4 * k9 ≤ j) → (j ≤ 4 + 4 * (ftCN w - 1)) → x31_2 = nI j → g31_p0 = ftShD (upd w 3 (nI (ftCN w - 1))) k9 j → ∀ (H : Heap) (locs : List Loc), va_P D vwCl [(m0, .inr (11, [.ref p0, .ref p1, .int (nI (min (hm + 1) 5)), .ref p3, .int i4, .ref p5, .int i6, .int i7, .int i8, .int i9, .ref p10, .int i11, .ref p12, .ref p13, .ref p14, .int i15, .ref p16, .ref p17, .int i18, .ref p19, .ref p20, .ref p21, .ref p22, .int i23, .int i24, .ref p25, .ref p26, .ref p27, .ref p28, .ref p29, .ref p30, .ref p31, .ref p32])), (p0, .inl (cI, 1439, .inl g31_p0)), (p1, .inl (cI, 7195, .inl (ftPush w z hm)))] H → va_D A [(m0, .inr (11, [.ref p0, .ref p1, .int (nI (min (hm + 1) 5)), .ref p3, .int i4, .ref p5, .int i6, .int i7, .int i8, .int i9, .ref p10, .int i11, .ref p12, .ref p13, .ref p14, .int i15, .ref p16, .ref p17, .int i18, .ref p19, .ref p20, .ref p21, .ref p22, .int i23, .int i24, .ref p25, .ref p26, .ref p27, .ref p28, .ref p29, .ref p30, .ref p31, .ref p32])), (p0, .inl (cI, 1439, .inl g31_p0)), (p1, .inl (cI, 7195, .inl (ftPush w z hm)))] → va_S A s.heap H locs → ∀ ls : Array Slot, lv_has ls 3 [(0, .ref m0), (1, .int (nI k9)), (2, .int x31_2)] → W p l e (headSpec wsX11_removePart { frames := 2, cells := 0, slots := 0, locals := 46 }).room s m ([.ref m0, .int xq0] : List Value).toArray below meth c H locs 0 0 (MQ below (ftQi D (ftIte (ftRmC w xq0) (nI (ftCN w - 1)) (-1000001)) [(m0, .inr (11, [.ref p0, .ref p1, .int (nI hm), .ref p3, .int i4, .ref p5, .int i6, .int i7, .int i8, .int i9, .ref p10, .int i11, .ref p12, .ref p13, .ref p14, .int i15, .ref p16, .ref p17, .int i18, .ref p19, .ref p20, .ref p21, .ref p22, .int i23, .int i24, .ref p25, .ref p26, .ref p27, .ref p28, .ref p29, .ref p30, .ref p31, .ref p32])), (p0, .inl (cI, 1439, .inl w)), (p1, .inl (cI, 7195, .inl z))] [(m0, .inr (11, [.ref p0, .ref p1, .int (nI (ftCh (ftRmC w xq0) (min (hm + 1) 5) hm)), .ref p3, .int i4, .ref p5, .int i6, .int i7, .int i8, .int i9, .ref p10, .int i11, .ref p12, .ref p13, .ref p14, .int i15, .ref p16, .ref p17, .int i18, .ref p19, .ref p20, .ref p21, .ref p22, .int i23, .int i24, .ref p25, .ref p26, .ref p27, .ref p28, .ref p29, .ref p30, .ref p31, .ref p32])), (p0, .inl (cI, 1439, .inl (ftCh (ftRmC w xq0) (ftDel w xq0.toNatClampNeg) w))), (p1, .inl (cI, 7195, .inl (ftCh (ftRmC w xq0) (ftPush w z hm) z)))] s.heap.size) ([.ref m0, .int xq0] : List Value).toArray s 0 0 A) (F0 m 31 ls []) := by
      intro n31
      induction n31 with
      | zero =>
        intro j x31_2 g31_p0 hm31
        exact absurd hm31 (Nat.not_lt_zero _)
      | succ n31 ih31 =>
        intro j x31_2 g31_p0 hm31 hj1 hj2 ex31_2 eg31_p0 H locs hP hD hS ls hl
        subst ex31_2
        refine lv_iload_n hx hb dX11_removePart_31 rfl (lv_at hl 2 rfl) ?_
        refine lv_iconst (v := 4) hx hb dX11_removePart_32 (by decide) ?_
        refine lv_iconst (v := 4) hx hb dX11_removePart_33 (by decide) ?_
        refine lv_aload_n hx hb dX11_removePart_34 rfl (lv_at hl 0 rfl) ?_
        refine va_get (D := D) (ci := 11) (v := .ref p0) (C := RX11) (T := TX11) (N := 33) hx hb hts (by decide +kernel) hown hK hP 0 rfl rfl 0 (by decide) (hts (.fieldLink RX11 7 "FiberTraceModel" "now" "[I") (by decide +kernel)) (fun _ h9 => h9) rfl dX11_removePart_35 ?_
        refine lv_iconst (v := 3) hx hb dX11_removePart_38 (by decide) ?_
        refine va_iald hx hb hK hP 1 0 rfl rfl (vp_in_nI (n := 3) (by omega) (by omega)) dX11_removePart_39 ?_
        refine ft_top (y := g31_p0 3) rfl ?_
        refine ft_top (y := nI (ftCN w - 1)) (by rw [eg31_p0]; exact if_neg (by omega)) ?_
        refine lv_imul hx hb dX11_removePart_40 ?_
        refine ft_top (y := nI (4 * (ftCN w - 1))) (ft_mulN 4 (ftCN w - 1)) ?_
        refine lv_iadd hx hb dX11_removePart_41 ?_
        refine ft_top (y := nI (4 + (4 * (ftCN w - 1)))) (ft_addN 4 (4 * (ftCN w - 1))) ?_
        refine lv_icmp_ge (tgt := 65) hx hb dX11_removePart_42 (by decide) (fun c42 => ?_) (fun c42 => ?_)
        · have c42n : (4 + (4 * (ftCN w - 1))) ≤ j := ft_leN (by omega) (by omega) c42
          refine lv_aload_n hx hb dX11_removePart_65 rfl (lv_at hl 0 rfl) ?_
          refine va_get (D := D) (ci := 11) (v := .ref p0) (C := RX11) (T := TX11) (N := 33) hx hb hts (by decide +kernel) hown hK hP 0 rfl rfl 0 (by decide) (hts (.fieldLink RX11 7 "FiberTraceModel" "now" "[I") (by decide +kernel)) (fun _ h9 => h9) rfl dX11_removePart_66 ?_
          refine lv_iconst (v := 3) hx hb dX11_removePart_69 (by decide) ?_
          refine va_iald hx hb hK hP 1 0 rfl rfl (vp_in_nI (n := 3) (by omega) (by omega)) dX11_removePart_70 ?_
          refine ft_top (y := g31_p0 3) rfl ?_
          refine ft_top (y := nI (ftCN w - 1)) (by rw [eg31_p0]; exact if_neg (by omega)) ?_
          have hw9 : ([(m0, .inr (11, [.ref p0, .ref p1, .int (nI (min (hm + 1) 5)), .ref p3, .int i4, .ref p5, .int i6, .int i7, .int i8, .int i9, .ref p10, .int i11, .ref p12, .ref p13, .ref p14, .int i15, .ref p16, .ref p17, .int i18, .ref p19, .ref p20, .ref p21, .ref p22, .int i23, .int i24, .ref p25, .ref p26, .ref p27, .ref p28, .ref p29, .ref p30, .ref p31, .ref p32])), (p0, .inl (cI, 1439, .inl g31_p0)), (p1, .inl (cI, 7195, .inl (ftPush w z hm)))] : va_W) = [(m0, .inr (11, [.ref p0, .ref p1, .int (nI (ftCh (ftRmC w xq0) (min (hm + 1) 5) hm)), .ref p3, .int i4, .ref p5, .int i6, .int i7, .int i8, .int i9, .ref p10, .int i11, .ref p12, .ref p13, .ref p14, .int i15, .ref p16, .ref p17, .int i18, .ref p19, .ref p20, .ref p21, .ref p22, .int i23, .int i24, .ref p25, .ref p26, .ref p27, .ref p28, .ref p29, .ref p30, .ref p31, .ref p32])), (p0, .inl (cI, 1439, .inl (ftCh (ftRmC w xq0) (ftDel w xq0.toNatClampNeg) w))), (p1, .inl (cI, 7195, .inl (ftCh (ftRmC w xq0) (ftPush w z hm) z)))] := by rw [ftCh_t hC, ftCh_t hC, ftCh_t hC]; rw [eg31_p0, hk8, ftDel, show j = 4 + 4 * (ftCN w - 1) by omega]
          rw [hw9] at hP hD
          exact W.iret (v := nI (ftCN w - 1)) hx hb hr (fun t ht hW => ⟨⟨nI (ftCN w - 1), (), rfl, (by show (nI (ftCN w - 1) : Int32) = ftIte (ftRmC w xq0) (nI (ftCN w - 1)) (-1000001); exact (ftIte_t hC).symm), by rw [ht]; exact hP, by rw [hAe]; exact hD⟩, by rw [hAe]; exact hS.F ht⟩) hS.2.2 dX11_removePart_71
        · have c42n : j < (4 + (4 * (ftCN w - 1))) := ft_nleN (by omega) (by omega) c42
          refine lv_aload_n hx hb dX11_removePart_45 rfl (lv_at hl 0 rfl) ?_
          refine va_get (D := D) (ci := 11) (v := .ref p0) (C := RX11) (T := TX11) (N := 33) hx hb hts (by decide +kernel) hown hK hP 0 rfl rfl 0 (by decide) (hts (.fieldLink RX11 7 "FiberTraceModel" "now" "[I") (by decide +kernel)) (fun _ h9 => h9) rfl dX11_removePart_46 ?_
          refine lv_iload_n hx hb dX11_removePart_49 rfl (lv_at hl 2 rfl) ?_
          refine lv_aload_n hx hb dX11_removePart_50 rfl (lv_at hl 0 rfl) ?_
          refine va_get (D := D) (ci := 11) (v := .ref p0) (C := RX11) (T := TX11) (N := 33) hx hb hts (by decide +kernel) hown hK hP 0 rfl rfl 0 (by decide) (hts (.fieldLink RX11 7 "FiberTraceModel" "now" "[I") (by decide +kernel)) (fun _ h9 => h9) rfl dX11_removePart_51 ?_
          refine lv_iload_n hx hb dX11_removePart_54 rfl (lv_at hl 2 rfl) ?_
          refine lv_iconst (v := 4) hx hb dX11_removePart_55 (by decide) ?_
          refine lv_iadd hx hb dX11_removePart_56 ?_
          refine ft_top (y := nI (j + 4)) (ft_addN j 4) ?_
          refine va_iald hx hb hK hP 1 0 rfl rfl (vp_in_nI (by omega) (by omega)) dX11_removePart_57 ?_
          refine ft_top (y := g31_p0 (j + 4)) (ft_clampN (by omega)) ?_
          refine va_iast hx hb hK hP hD hS 1 0 rfl rfl (vp_in_nI (by omega) (by omega)) dX11_removePart_58 (fun H locs hP hD hS => ?_)
          rw [nI_clamp (show j < 2 ^ 31 by omega)] at hP hD
          have hP : va_P D vwCl [(m0, .inr (11, [.ref p0, .ref p1, .int (nI (min (hm + 1) 5)), .ref p3, .int i4, .ref p5, .int i6, .int i7, .int i8, .int i9, .ref p10, .int i11, .ref p12, .ref p13, .ref p14, .int i15, .ref p16, .ref p17, .int i18, .ref p19, .ref p20, .ref p21, .ref p22, .int i23, .int i24, .ref p25, .ref p26, .ref p27, .ref p28, .ref p29, .ref p30, .ref p31, .ref p32])), (p0, .inl (cI, 1439, .inl (upd g31_p0 j (g31_p0 (j + 4))))), (p1, .inl (cI, 7195, .inl (ftPush w z hm)))] H := hP
          have hD : va_D A [(m0, .inr (11, [.ref p0, .ref p1, .int (nI (min (hm + 1) 5)), .ref p3, .int i4, .ref p5, .int i6, .int i7, .int i8, .int i9, .ref p10, .int i11, .ref p12, .ref p13, .ref p14, .int i15, .ref p16, .ref p17, .int i18, .ref p19, .ref p20, .ref p21, .ref p22, .int i23, .int i24, .ref p25, .ref p26, .ref p27, .ref p28, .ref p29, .ref p30, .ref p31, .ref p32])), (p0, .inl (cI, 1439, .inl (upd g31_p0 j (g31_p0 (j + 4))))), (p1, .inl (cI, 7195, .inl (ftPush w z hm)))] := hD
          refine lv_iinc (v := nI (j + 1)) (lv' := [(2, .int (nI (j + 1))), (0, .ref m0), (1, .int (nI k9))]) hx hb dX11_removePart_59 hl (k := 2) rfl (ft_inc j) (by decide) rfl (fun ls hl => ?_)
          refine lv_goto (tgt := 31) hx hb dX11_removePart_62 (by decide) ?_
          exact ih31 (j + 1) (nI (j + 1)) (upd g31_p0 j (g31_p0 (j + 4))) (by omega) (by omega) (by omega) (by first | rfl | assumption) (by rw [eg31_p0]; exact ftShD_s hj1) _ _ hP hD hS ls (lv_sub hl [1, 2, 0] rfl)
    exact lp31 _ (4 + 4 * k9) (nI (4 + (4 * k9))) (upd w 3 (nI ((ftCN w) - 1))) (Nat.lt_succ_self _) (by omega) (by omega) (by rfl) (by exact ftShD_0 _ _) _ _ hP hD hS ls (lv_sub hl [1, 2, 0] rfl)
  · replace c5 := ftB_eq c5
    have hC : ¬ ftRmC w xq0 := c5
    refine lv_ldc (v := (-1000001)) hx hb hown (hts (.constant RX11 95 (-1000001)) (by decide +kernel)) dX11_removePart_8 ?_
    have hw9 : ([(m0, .inr (11, [.ref p0, .ref p1, .int (nI hm), .ref p3, .int i4, .ref p5, .int i6, .int i7, .int i8, .int i9, .ref p10, .int i11, .ref p12, .ref p13, .ref p14, .int i15, .ref p16, .ref p17, .int i18, .ref p19, .ref p20, .ref p21, .ref p22, .int i23, .int i24, .ref p25, .ref p26, .ref p27, .ref p28, .ref p29, .ref p30, .ref p31, .ref p32])), (p0, .inl (cI, 1439, .inl w)), (p1, .inl (cI, 7195, .inl z))] : va_W) = [(m0, .inr (11, [.ref p0, .ref p1, .int (nI (ftCh (ftRmC w xq0) (min (hm + 1) 5) hm)), .ref p3, .int i4, .ref p5, .int i6, .int i7, .int i8, .int i9, .ref p10, .int i11, .ref p12, .ref p13, .ref p14, .int i15, .ref p16, .ref p17, .int i18, .ref p19, .ref p20, .ref p21, .ref p22, .int i23, .int i24, .ref p25, .ref p26, .ref p27, .ref p28, .ref p29, .ref p30, .ref p31, .ref p32])), (p0, .inl (cI, 1439, .inl (ftCh (ftRmC w xq0) (ftDel w xq0.toNatClampNeg) w))), (p1, .inl (cI, 7195, .inl (ftCh (ftRmC w xq0) (ftPush w z hm) z)))] := by rw [ftCh_f hC, ftCh_f hC, ftCh_f hC]
    rw [hw9] at hP hD
    exact W.iret (v := (-1000001)) hx hb hr (fun t ht hW => ⟨⟨(-1000001), (), rfl, (by show ((-1000001) : Int32) = ftIte (ftRmC w xq0) (nI (ftCN w - 1)) (-1000001); exact (ftIte_f hC).symm), by rw [ht]; exact hP, by rw [hAe]; exact hD⟩, by rw [hAe]; exact hS.F ht⟩) hS.2.2 dX11_removePart_10
set_option maxHeartbeats 4000000 in
set_option maxRecDepth 100000 in
theorem c_X11_set (l : Launch) (D : va_G) (cI cS : ClassId) (sz : Nat) (m0 p0 p1 p3 p5 p10 p12 p13 p14 p16 p17 p19 p20 p21 p22 p25 p26 p27 p28 p29 p30 p31 p32 : Nat) (i4 i6 i7 i8 i9 i11 i15 i18 i23 i24 : Int32) (w z : Nat → Int32) (hm : Nat) (xq0 xq1 : Int32) (hwf : ftWf w) (hhm : hm ≤ 5) : Met l yX11_set wsX11_set ({ frames := 1, cells := 0, slots := 0, locals := 25 }) (ftRW D cI cS [.ref m0, .int xq0, .int xq1] [(m0, .inr (11, [.ref p0, .ref p1, .int (nI hm), .ref p3, .int i4, .ref p5, .int i6, .int i7, .int i8, .int i9, .ref p10, .int i11, .ref p12, .ref p13, .ref p14, .int i15, .ref p16, .ref p17, .int i18, .ref p19, .ref p20, .ref p21, .ref p22, .int i23, .int i24, .ref p25, .ref p26, .ref p27, .ref p28, .ref p29, .ref p30, .ref p31, .ref p32])), (p0, .inl (cI, 1439, .inl w)), (p1, .inl (cI, 7195, .inl z))] sz) (ftQi D (ftIte (ftSetC xq0 xq1) (w (44 + xq0.toNatClampNeg)) (-1000001)) [(m0, .inr (11, [.ref p0, .ref p1, .int (nI hm), .ref p3, .int i4, .ref p5, .int i6, .int i7, .int i8, .int i9, .ref p10, .int i11, .ref p12, .ref p13, .ref p14, .int i15, .ref p16, .ref p17, .int i18, .ref p19, .ref p20, .ref p21, .ref p22, .int i23, .int i24, .ref p25, .ref p26, .ref p27, .ref p28, .ref p29, .ref p30, .ref p31, .ref p32])), (p0, .inl (cI, 1439, .inl w)), (p1, .inl (cI, 7195, .inl z))] [(m0, .inr (11, [.ref p0, .ref p1, .int (nI (ftCh (ftSetC xq0 xq1) (min (hm + 1) 5) hm)), .ref p3, .int i4, .ref p5, .int i6, .int i7, .int i8, .int i9, .ref p10, .int i11, .ref p12, .ref p13, .ref p14, .int i15, .ref p16, .ref p17, .int i18, .ref p19, .ref p20, .ref p21, .ref p22, .int i23, .int i24, .ref p25, .ref p26, .ref p27, .ref p28, .ref p29, .ref p30, .ref p31, .ref p32])), (p0, .inl (cI, 1439, .inl (ftCh (ftSetC xq0 xq1) (upd w (44 + xq0.toNatClampNeg) xq1) w))), (p1, .inl (cI, 7195, .inl (ftCh (ftSetC xq0 xq1) (ftPush w z hm) z)))] sz) 0 0 (va_A [(m0, .inr (11, [.ref p0, .ref p1, .int (nI hm), .ref p3, .int i4, .ref p5, .int i6, .int i7, .int i8, .int i9, .ref p10, .int i11, .ref p12, .ref p13, .ref p14, .int i15, .ref p16, .ref p17, .int i18, .ref p19, .ref p20, .ref p21, .ref p22, .int i23, .int i24, .ref p25, .ref p26, .ref p27, .ref p28, .ref p29, .ref p30, .ref p31, .ref p32])), (p0, .inl (cI, 1439, .inl w)), (p1, .inl (cI, 7195, .inl z))] sz) := by
  refine Met.ofW (cc := cX11_set) (maxL := 4) (ret := (some .int)) (by decide) rfl ?_
  intro p e s m args below meth c s₁ B hml hv
  obtain ⟨rfl, hsz, hP, hKK, hD0⟩ := hv
  have hK := hKK.1
  have hx := B.exec
  have hb := B.bytes
  have hr := B.returns
  have hts := atoms_spec (ws := wsX11_set) B.pre
  have hown : s.vm.findClass RX11 = some m.cls := findClass_of_methodNamed B.named
  have hlocks := B.notSynchronized
  subst hsz
  have hD := hD0.self (sz := s.heap.size)
  generalize hAe : va_A [(m0, .inr (11, [.ref p0, .ref p1, .int (nI hm), .ref p3, .int i4, .ref p5, .int i6, .int i7, .int i8, .int i9, .ref p10, .int i11, .ref p12, .ref p13, .ref p14, .int i15, .ref p16, .ref p17, .int i18, .ref p19, .ref p20, .ref p21, .ref p22, .int i23, .int i24, .ref p25, .ref p26, .ref p27, .ref p28, .ref p29, .ref p30, .ref p31, .ref p32])), (p0, .inl (cI, 1439, .inl w)), (p1, .inl (cI, 7195, .inl z))] s.heap.size = A at hD ⊢
  have hA : ∀ q : Nat, s.heap.size ≤ q → A q := fun q h => by rw [← hAe]; exact Or.inr h
  have hS : va_S A s.heap s.heap [] := va_S.rf
  have hD : va_D A [(m0, .inr (11, [.ref p0, .ref p1, .int (nI hm), .ref p3, .int i4, .ref p5, .int i6, .int i7, .int i8, .int i9, .ref p10, .int i11, .ref p12, .ref p13, .ref p14, .int i15, .ref p16, .ref p17, .int i18, .ref p19, .ref p20, .ref p21, .ref p22, .int i23, .int i24, .ref p25, .ref p26, .ref p27, .ref p28, .ref p29, .ref p30, .ref p31, .ref p32])), (p0, .inl (cI, 1439, .inl w)), (p1, .inl (cI, 7195, .inl z))] := hD
  have hP : va_P D vwCl [(m0, .inr (11, [.ref p0, .ref p1, .int (nI hm), .ref p3, .int i4, .ref p5, .int i6, .int i7, .int i8, .int i9, .ref p10, .int i11, .ref p12, .ref p13, .ref p14, .int i15, .ref p16, .ref p17, .int i18, .ref p19, .ref p20, .ref p21, .ref p22, .int i23, .int i24, .ref p25, .ref p26, .ref p27, .ref p28, .ref p29, .ref p30, .ref p31, .ref p32])), (p0, .inl (cI, 1439, .inl w)), (p1, .inl (cI, 7195, .inl z))] s.heap := hP
  have hl := lv_entry ([.ref m0, .int xq0, .int xq1]) (n := 4) (Nat.le_of_ble_eq_true rfl)
  rw [lg_entry_eq]
  generalize (lg_sl ([.ref m0, .int xq0, .int xq1]) ++ List.replicate (4 - (lg_sl ([.ref m0, .int xq0, .int xq1])).length) Slot.unset).toArray = ls at hl ⊢
  have hl : lv_has ls 4 [(0, .ref m0), (1, .int xq0), (2, .int xq1)] := hl
  refine lv_iload_n hx hb dX11_set_0 rfl (lv_at hl 1 rfl) ?_
  refine lv_i2l (v := xq0.toInt64) hx hb dX11_set_1 rfl ?_
  refine lv_lconst (v := 0) hx hb dX11_set_2 (by decide) ?_
  refine lv_ldc2 (v := 10) hx hb hown (hts (.constantLong RX11 186 10) (by decide +kernel)) dX11_set_3 ?_
  refine ft_csi (r := ftB (0 ≤ xq0.toInt64 ∧ xq0.toInt64 ≤ 10)) (va_runS (As := [.long xq0.toInt64, .long 0, .long 10]) (rest := []) ⟨hx, hb, hml, hown, hts⟩ (c_X11_in l D cI cS xq0.toInt64 0 10) (va_cwS 3 hts gX11_set_X11_in rfl rfl rfl (by decide +kernel) ⟨Nat.le_of_ble_eq_true rfl, Nat.le_of_ble_eq_true rfl⟩) (ft_preRO hP hKK [] rfl) rfl rfl hl.1 rfl (lv_room (Nat.le_of_ble_eq_true rfl)) dX11_set_6 ⟨Nat.le_of_ble_eq_true rfl, Nat.le_of_ble_eq_true rfl⟩) ?_
  refine ft_top (y := ftB (0 ≤ xq0 ∧ xq0 ≤ 10)) (ft_in64 (by decide) (by decide)) ?_
  refine lv_if_eq (tgt := 30) hx hb dX11_set_9 (by decide) (fun c9 => ?_) (fun c9 => ?_)
  · replace c9 := ftB_eq c9
    have hC : ¬ ftSetC xq0 xq1 := fun q => c9 q.1
    refine lv_ldc (v := (-1000001)) hx hb hown (hts (.constant RX11 95 (-1000001)) (by decide +kernel)) dX11_set_30 ?_
    have hw9 : ([(m0, .inr (11, [.ref p0, .ref p1, .int (nI hm), .ref p3, .int i4, .ref p5, .int i6, .int i7, .int i8, .int i9, .ref p10, .int i11, .ref p12, .ref p13, .ref p14, .int i15, .ref p16, .ref p17, .int i18, .ref p19, .ref p20, .ref p21, .ref p22, .int i23, .int i24, .ref p25, .ref p26, .ref p27, .ref p28, .ref p29, .ref p30, .ref p31, .ref p32])), (p0, .inl (cI, 1439, .inl w)), (p1, .inl (cI, 7195, .inl z))] : va_W) = [(m0, .inr (11, [.ref p0, .ref p1, .int (nI (ftCh (ftSetC xq0 xq1) (min (hm + 1) 5) hm)), .ref p3, .int i4, .ref p5, .int i6, .int i7, .int i8, .int i9, .ref p10, .int i11, .ref p12, .ref p13, .ref p14, .int i15, .ref p16, .ref p17, .int i18, .ref p19, .ref p20, .ref p21, .ref p22, .int i23, .int i24, .ref p25, .ref p26, .ref p27, .ref p28, .ref p29, .ref p30, .ref p31, .ref p32])), (p0, .inl (cI, 1439, .inl (ftCh (ftSetC xq0 xq1) (upd w (44 + xq0.toNatClampNeg) xq1) w))), (p1, .inl (cI, 7195, .inl (ftCh (ftSetC xq0 xq1) (ftPush w z hm) z)))] := by rw [ftCh_f hC, ftCh_f hC, ftCh_f hC]
    rw [hw9] at hP hD
    exact W.iret (v := (-1000001)) hx hb hr (fun t ht hW => ⟨⟨(-1000001), (), rfl, (by show ((-1000001) : Int32) = ftIte (ftSetC xq0 xq1) (w (44 + xq0.toNatClampNeg)) (-1000001); exact (ftIte_f hC).symm), by rw [ht]; exact hP, by rw [hAe]; exact hD⟩, by rw [hAe]; exact hS.F ht⟩) hS.2.2 dX11_set_32
  · replace c9 := ftB_ne c9
    refine lv_iload_n hx hb dX11_set_12 rfl (lv_at hl 2 rfl) ?_
    refine lv_i2l (v := xq1.toInt64) hx hb dX11_set_13 rfl ?_
    refine lv_iload_n hx hb dX11_set_14 rfl (lv_at hl 1 rfl) ?_
    refine ft_csi (r := ftLeast xq0) (va_runS (As := [.int xq0]) (rest := [.long xq1.toInt64]) ⟨hx, hb, hml, hown, hts⟩ (c_X11_leastOf l D cI cS xq0) (va_cwS 1 hts gX11_set_X11_leastOf rfl rfl rfl (by decide +kernel) ⟨Nat.le_of_ble_eq_true rfl, Nat.le_of_ble_eq_true rfl⟩) (ft_preRO hP hKK [] rfl) rfl rfl hl.1 rfl (lv_room (Nat.le_of_ble_eq_true rfl)) dX11_set_15 ⟨Nat.le_of_ble_eq_true rfl, Nat.le_of_ble_eq_true rfl⟩) ?_
    refine lv_i2l (v := (ftLeast xq0).toInt64) hx hb dX11_set_18 rfl ?_
    refine lv_iload_n hx hb dX11_set_19 rfl (lv_at hl 1 rfl) ?_
    refine ft_csi (r := ftMost xq0) (va_runS (As := [.int xq0]) (rest := [.long ((ftLeast xq0).toInt64), .long xq1.toInt64]) ⟨hx, hb, hml, hown, hts⟩ (c_X11_mostOf l D cI cS xq0) (va_cwS 1 hts gX11_set_X11_mostOf rfl rfl rfl (by decide +kernel) ⟨Nat.le_of_ble_eq_true rfl, Nat.le_of_ble_eq_true rfl⟩) (ft_preRO hP hKK [] rfl) rfl rfl hl.1 rfl (lv_room (Nat.le_of_ble_eq_true rfl)) dX11_set_20 ⟨Nat.le_of_ble_eq_true rfl, Nat.le_of_ble_eq_true rfl⟩) ?_
    refine lv_i2l (v := (ftMost xq0).toInt64) hx hb dX11_set_23 rfl ?_
    refine ft_csi (r := ftB (((ftLeast xq0).toInt64) ≤ xq1.toInt64 ∧ xq1.toInt64 ≤ ((ftMost xq0).toInt64))) (va_runS (As := [.long xq1.toInt64, .long ((ftLeast xq0).toInt64), .long ((ftMost xq0).toInt64)]) (rest := []) ⟨hx, hb, hml, hown, hts⟩ (c_X11_in l D cI cS xq1.toInt64 ((ftLeast xq0).toInt64) ((ftMost xq0).toInt64)) (va_cwS 3 hts gX11_set_X11_in rfl rfl rfl (by decide +kernel) ⟨Nat.le_of_ble_eq_true rfl, Nat.le_of_ble_eq_true rfl⟩) (ft_preRO hP hKK [] rfl) rfl rfl hl.1 rfl (lv_room (Nat.le_of_ble_eq_true rfl)) dX11_set_24 ⟨Nat.le_of_ble_eq_true rfl, Nat.le_of_ble_eq_true rfl⟩) ?_
    refine ft_top (y := ftB ((ftLeast xq0) ≤ xq1 ∧ xq1 ≤ (ftMost xq0))) (ft_in64 (Int32.toInt_toInt64 _) (Int32.toInt_toInt64 _)) ?_
    refine lv_if_ne (tgt := 33) hx hb dX11_set_27 (by decide) (fun c27 => ?_) (fun c27 => ?_)
    · replace c27 := ftB_ne c27
      have hC : ftSetC xq0 xq1 := ⟨c9, c27⟩
      obtain ⟨hk9, hxk⟩ := ft_btw2 (K := 10) (by omega) c9.1 c9.2
      obtain ⟨k9, hk8⟩ : ∃ k, xq0.toNatClampNeg = k := ⟨_, rfl⟩
      rw [hk8] at hk9 hxk
      rw [hxk] at hl
      refine lv_aload_n hx hb dX11_set_33 rfl (lv_at hl 0 rfl) ?_
      refine ft_cv (wc := [(m0, .inr (11, [.ref p0, .ref p1, .int (nI hm), .ref p3, .int i4, .ref p5, .int i6, .int i7, .int i8, .int i9, .ref p10, .int i11, .ref p12, .ref p13, .ref p14, .int i15, .ref p16, .ref p17, .int i18, .ref p19, .ref p20, .ref p21, .ref p22, .int i23, .int i24, .ref p25, .ref p26, .ref p27, .ref p28, .ref p29, .ref p30, .ref p31, .ref p32])), (p0, .inl (cI, 1439, .inl w)), (p1, .inl (cI, 7195, .inl z))]) (wr := []) (w1 := [(m0, .inr (11, [.ref p0, .ref p1, .int (nI (min (hm + 1) 5)), .ref p3, .int i4, .ref p5, .int i6, .int i7, .int i8, .int i9, .ref p10, .int i11, .ref p12, .ref p13, .ref p14, .int i15, .ref p16, .ref p17, .int i18, .ref p19, .ref p20, .ref p21, .ref p22, .int i23, .int i24, .ref p25, .ref p26, .ref p27, .ref p28, .ref p29, .ref p30, .ref p31, .ref p32])), (p0, .inl (cI, 1439, .inl w)), (p1, .inl (cI, 7195, .inl (ftPush w z hm)))]) (ws1 := [(m0, .inr (11, [.ref p0, .ref p1, .int (nI (min (hm + 1) 5)), .ref p3, .int i4, .ref p5, .int i6, .int i7, .int i8, .int i9, .ref p10, .int i11, .ref p12, .ref p13, .ref p14, .int i15, .ref p16, .ref p17, .int i18, .ref p19, .ref p20, .ref p21, .ref p22, .int i23, .int i24, .ref p25, .ref p26, .ref p27, .ref p28, .ref p29, .ref p30, .ref p31, .ref p32])), (p0, .inl (cI, 1439, .inl w)), (p1, .inl (cI, 7195, .inl (ftPush w z hm)))]) (va_runV (C := RX11) (As := []) (rest := []) ⟨hx, hb, hml, hown, hts⟩ (c_X11_change l D cI cS s.heap.size m0 p0 p1 p3 p5 p10 p12 p13 p14 p16 p17 p19 p20 p21 p22 p25 p26 p27 p28 p29 p30 p31 p32 i4 i6 i7 i8 i9 i11 i15 i18 i23 i24 w z hm hhm) (cwV 0 hts gX11_set_X11_change rfl rfl rfl (by decide +kernel) ⟨Nat.le_of_ble_eq_true rfl, Nat.le_of_ble_eq_true rfl⟩) (ft_preRWV (ci := 11) (q0 := 0) hP hD hKK [0, 1, 2] rfl rfl rfl rfl rfl) rfl rfl hl.1 rfl (lv_room (Nat.le_of_ble_eq_true rfl)) dX11_set_34 ⟨Nat.le_of_ble_eq_true rfl, Nat.le_of_ble_eq_true rfl⟩) hP hD hS hA [0, 1, 2] [] [0, 1, 2] rfl rfl (by decide) (by decide) (by decide) rfl rfl (fun H locs hP hD hS => ?_)
      have hP : va_P D vwCl [(m0, .inr (11, [.ref p0, .ref p1, .int (nI (min (hm + 1) 5)), .ref p3, .int i4, .ref p5, .int i6, .int i7, .int i8, .int i9, .ref p10, .int i11, .ref p12, .ref p13, .ref p14, .int i15, .ref p16, .ref p17, .int i18, .ref p19, .ref p20, .ref p21, .ref p22, .int i23, .int i24, .ref p25, .ref p26, .ref p27, .ref p28, .ref p29, .ref p30, .ref p31, .ref p32])), (p0, .inl (cI, 1439, .inl w)), (p1, .inl (cI, 7195, .inl (ftPush w z hm)))] H := hP
      have hD : va_D A [(m0, .inr (11, [.ref p0, .ref p1, .int (nI (min (hm + 1) 5)), .ref p3, .int i4, .ref p5, .int i6, .int i7, .int i8, .int i9, .ref p10, .int i11, .ref p12, .ref p13, .ref p14, .int i15, .ref p16, .ref p17, .int i18, .ref p19, .ref p20, .ref p21, .ref p22, .int i23, .int i24, .ref p25, .ref p26, .ref p27, .ref p28, .ref p29, .ref p30, .ref p31, .ref p32])), (p0, .inl (cI, 1439, .inl w)), (p1, .inl (cI, 7195, .inl (ftPush w z hm)))] := hD
      refine lv_aload_n hx hb dX11_set_37 rfl (lv_at hl 0 rfl) ?_
      refine lv_iload_n hx hb dX11_set_38 rfl (lv_at hl 1 rfl) ?_
      refine ft_csi (r := w (44 + k9)) (va_runV (C := RX11) (As := [.int (nI k9)]) (rest := []) ⟨hx, hb, hml, hown, hts⟩ (c_X11_setting l D cI cS m0 p0 p1 p3 p5 p10 p12 p13 p14 p16 p17 p19 p20 p21 p22 p25 p26 p27 p28 p29 p30 p31 p32 (nI (min (hm + 1) 5)) i4 i6 i7 i8 i9 i11 i15 i18 i23 i24 w k9 (by omega)) (cwV 1 hts gX11_set_X11_setting rfl rfl rfl (by decide +kernel) ⟨Nat.le_of_ble_eq_true rfl, Nat.le_of_ble_eq_true rfl⟩) (ft_preROV (ci := 11) (q0 := 0) hP hKK [0, 1] rfl rfl rfl) rfl rfl hl.1 rfl (lv_room (Nat.le_of_ble_eq_true rfl)) dX11_set_39 ⟨Nat.le_of_ble_eq_true rfl, Nat.le_of_ble_eq_true rfl⟩) ?_
      refine lv_istore_n (lv' := [(3, .int (w (44 + k9))), (0, .ref m0), (1, .int (nI k9)), (2, .int xq1)]) hx hb dX11_set_42 rfl hl (by decide) rfl (fun ls hl => ?_)
      refine lv_aload_n hx hb dX11_set_43 rfl (lv_at hl 1 rfl) ?_
      refine va_get (D := D) (ci := 11) (v := .ref p0) (C := RX11) (T := TX11) (N := 33) hx hb hts (by decide +kernel) hown hK hP 0 rfl rfl 0 (by decide) (hts (.fieldLink RX11 7 "FiberTraceModel" "now" "[I") (by decide +kernel)) (fun _ h9 => h9) rfl dX11_set_44 ?_
      refine lv_bipush (v := 44) hx hb dX11_set_47 (by decide) ?_
      refine lv_iload_n hx hb dX11_set_49 rfl (lv_at hl 2 rfl) ?_
      refine lv_iadd hx hb dX11_set_50 ?_
      refine ft_top (y := nI (44 + k9)) (ft_addN 44 k9) ?_
      refine lv_iload_n hx hb dX11_set_51 rfl (lv_at hl 3 rfl) ?_
      refine va_iast hx hb hK hP hD hS 1 0 rfl rfl (vp_in_nI (by omega) (by omega)) dX11_set_52 (fun H locs hP hD hS => ?_)
      rw [nI_clamp (show 44 + k9 < 2 ^ 31 by omega)] at hP hD
      have hP : va_P D vwCl [(m0, .inr (11, [.ref p0, .ref p1, .int (nI (min (hm + 1) 5)), .ref p3, .int i4, .ref p5, .int i6, .int i7, .int i8, .int i9, .ref p10, .int i11, .ref p12, .ref p13, .ref p14, .int i15, .ref p16, .ref p17, .int i18, .ref p19, .ref p20, .ref p21, .ref p22, .int i23, .int i24, .ref p25, .ref p26, .ref p27, .ref p28, .ref p29, .ref p30, .ref p31, .ref p32])), (p0, .inl (cI, 1439, .inl (upd w (44 + k9) xq1))), (p1, .inl (cI, 7195, .inl (ftPush w z hm)))] H := hP
      have hD : va_D A [(m0, .inr (11, [.ref p0, .ref p1, .int (nI (min (hm + 1) 5)), .ref p3, .int i4, .ref p5, .int i6, .int i7, .int i8, .int i9, .ref p10, .int i11, .ref p12, .ref p13, .ref p14, .int i15, .ref p16, .ref p17, .int i18, .ref p19, .ref p20, .ref p21, .ref p22, .int i23, .int i24, .ref p25, .ref p26, .ref p27, .ref p28, .ref p29, .ref p30, .ref p31, .ref p32])), (p0, .inl (cI, 1439, .inl (upd w (44 + k9) xq1))), (p1, .inl (cI, 7195, .inl (ftPush w z hm)))] := hD
      refine lv_iload_n hx hb dX11_set_53 rfl (lv_at hl 0 rfl) ?_
      have hw9 : ([(m0, .inr (11, [.ref p0, .ref p1, .int (nI (min (hm + 1) 5)), .ref p3, .int i4, .ref p5, .int i6, .int i7, .int i8, .int i9, .ref p10, .int i11, .ref p12, .ref p13, .ref p14, .int i15, .ref p16, .ref p17, .int i18, .ref p19, .ref p20, .ref p21, .ref p22, .int i23, .int i24, .ref p25, .ref p26, .ref p27, .ref p28, .ref p29, .ref p30, .ref p31, .ref p32])), (p0, .inl (cI, 1439, .inl (upd w (44 + k9) xq1))), (p1, .inl (cI, 7195, .inl (ftPush w z hm)))] : va_W) = [(m0, .inr (11, [.ref p0, .ref p1, .int (nI (ftCh (ftSetC xq0 xq1) (min (hm + 1) 5) hm)), .ref p3, .int i4, .ref p5, .int i6, .int i7, .int i8, .int i9, .ref p10, .int i11, .ref p12, .ref p13, .ref p14, .int i15, .ref p16, .ref p17, .int i18, .ref p19, .ref p20, .ref p21, .ref p22, .int i23, .int i24, .ref p25, .ref p26, .ref p27, .ref p28, .ref p29, .ref p30, .ref p31, .ref p32])), (p0, .inl (cI, 1439, .inl (ftCh (ftSetC xq0 xq1) (upd w (44 + xq0.toNatClampNeg) xq1) w))), (p1, .inl (cI, 7195, .inl (ftCh (ftSetC xq0 xq1) (ftPush w z hm) z)))] := by rw [ftCh_t hC, ftCh_t hC, ftCh_t hC]; rw [hk8]
      rw [hw9] at hP hD
      exact W.iret (v := w (44 + k9)) hx hb hr (fun t ht hW => ⟨⟨w (44 + k9), (), rfl, (by show (w (44 + k9) : Int32) = ftIte (ftSetC xq0 xq1) (w (44 + xq0.toNatClampNeg)) (-1000001); rw [ftIte_t hC, hk8]), by rw [ht]; exact hP, by rw [hAe]; exact hD⟩, by rw [hAe]; exact hS.F ht⟩) hS.2.2 dX11_set_54
    · replace c27 := ftB_eq c27
      have hC : ¬ ftSetC xq0 xq1 := fun q => c27 q.2
      refine lv_ldc (v := (-1000001)) hx hb hown (hts (.constant RX11 95 (-1000001)) (by decide +kernel)) dX11_set_30 ?_
      have hw9 : ([(m0, .inr (11, [.ref p0, .ref p1, .int (nI hm), .ref p3, .int i4, .ref p5, .int i6, .int i7, .int i8, .int i9, .ref p10, .int i11, .ref p12, .ref p13, .ref p14, .int i15, .ref p16, .ref p17, .int i18, .ref p19, .ref p20, .ref p21, .ref p22, .int i23, .int i24, .ref p25, .ref p26, .ref p27, .ref p28, .ref p29, .ref p30, .ref p31, .ref p32])), (p0, .inl (cI, 1439, .inl w)), (p1, .inl (cI, 7195, .inl z))] : va_W) = [(m0, .inr (11, [.ref p0, .ref p1, .int (nI (ftCh (ftSetC xq0 xq1) (min (hm + 1) 5) hm)), .ref p3, .int i4, .ref p5, .int i6, .int i7, .int i8, .int i9, .ref p10, .int i11, .ref p12, .ref p13, .ref p14, .int i15, .ref p16, .ref p17, .int i18, .ref p19, .ref p20, .ref p21, .ref p22, .int i23, .int i24, .ref p25, .ref p26, .ref p27, .ref p28, .ref p29, .ref p30, .ref p31, .ref p32])), (p0, .inl (cI, 1439, .inl (ftCh (ftSetC xq0 xq1) (upd w (44 + xq0.toNatClampNeg) xq1) w))), (p1, .inl (cI, 7195, .inl (ftCh (ftSetC xq0 xq1) (ftPush w z hm) z)))] := by rw [ftCh_f hC, ftCh_f hC, ftCh_f hC]
      rw [hw9] at hP hD
      exact W.iret (v := (-1000001)) hx hb hr (fun t ht hW => ⟨⟨(-1000001), (), rfl, (by show ((-1000001) : Int32) = ftIte (ftSetC xq0 xq1) (w (44 + xq0.toNatClampNeg)) (-1000001); exact (ftIte_f hC).symm), by rw [ht]; exact hP, by rw [hAe]; exact hD⟩, by rw [hAe]; exact hS.F ht⟩) hS.2.2 dX11_set_32
set_option maxHeartbeats 4000000 in
set_option maxRecDepth 100000 in
theorem c_X11_lay (l : Launch) (D : va_G) (cI cS : ClassId) (sz : Nat) (m0 p0 p1 p3 p5 p10 p12 p13 p14 p16 p17 p19 p20 p21 p22 p25 p26 p27 p28 p29 p30 p31 p32 : Nat) (i6 i7 i8 i9 i11 i15 i18 i23 i24 : Int32) (w z tx md fg : Nat → Int32) (hm tn : Nat) (hhm : hm ≤ 5) (htn : tn ≤ 120) : Met l yX11_lay wsX11_lay ({ frames := 4, cells := 0, slots := 0, locals := 94 }) (ftRW D cI cS [.ref m0] [(m0, .inr (11, [.ref p0, .ref p1, .int (nI hm), .ref p3, .int (nI tn), .ref p5, .int i6, .int i7, .int i8, .int i9, .ref p10, .int i11, .ref p12, .ref p13, .ref p14, .int i15, .ref p16, .ref p17, .int i18, .ref p19, .ref p20, .ref p21, .ref p22, .int i23, .int i24, .ref p25, .ref p26, .ref p27, .ref p28, .ref p29, .ref p30, .ref p31, .ref p32])), (p0, .inl (cI, 1439, .inl w)), (p1, .inl (cI, 7195, .inl z)), (p3, .inl (cI, 120, .inl tx)), (p5, .inl (cI, 44, .inl md)), (p10, .inl (cI, 3, .inl fg))] sz) (ftXi D [(m0, .inr (11, [.ref p0, .ref p1, .int (nI hm), .ref p3, .int (nI tn), .ref p5, .int i6, .int i7, .int i8, .int i9, .ref p10, .int i11, .ref p12, .ref p13, .ref p14, .int i15, .ref p16, .ref p17, .int i18, .ref p19, .ref p20, .ref p21, .ref p22, .int i23, .int i24, .ref p25, .ref p26, .ref p27, .ref p28, .ref p29, .ref p30, .ref p31, .ref p32])), (p0, .inl (cI, 1439, .inl w)), (p1, .inl (cI, 7195, .inl z)), (p3, .inl (cI, 120, .inl tx)), (p5, .inl (cI, 44, .inl md)), (p10, .inl (cI, 3, .inl fg))] sz (fun (o9 : Int32) (u : (Nat → Int32) × (Nat → Nat → Int32)) => o9 = ftIte (¬ ftCPar tx tn = none) (nI (ftCN (ftCPm tx tn))) (-1000002) ∧ True) (fun (u : (Nat → Int32) × (Nat → Nat → Int32)) => [(m0, .inr (11, [.ref p0, .ref p1, .int (nI (ftCh (¬ ftCPar tx tn = none) (min (hm + 1) 5) hm)), .ref p3, .int (nI tn), .ref p5, .int (u.1 6), .int (u.1 7), .int (u.1 8), .int (u.1 9), .ref p10, .int (u.1 11), .ref p12, .ref p13, .ref p14, .int i15, .ref p16, .ref p17, .int i18, .ref p19, .ref p20, .ref p21, .ref p22, .int i23, .int i24, .ref p25, .ref p26, .ref p27, .ref p28, .ref p29, .ref p30, .ref p31, .ref p32])), (p0, .inl (cI, 1439, .inl (ftCh (¬ ftCPar tx tn = none) (ftLayW w (ftCPm tx tn)) w))), (p1, .inl (cI, 7195, .inl (ftCh (¬ ftCPar tx tn = none) (ftPush w z hm) z))), (p3, .inl (cI, 120, .inl tx)), (p5, .inl (cI, 44, .inl (u.2 5))), (p10, .inl (cI, 3, .inl (u.2 10)))])) 0 0 (va_A [(m0, .inr (11, [.ref p0, .ref p1, .int (nI hm), .ref p3, .int (nI tn), .ref p5, .int i6, .int i7, .int i8, .int i9, .ref p10, .int i11, .ref p12, .ref p13, .ref p14, .int i15, .ref p16, .ref p17, .int i18, .ref p19, .ref p20, .ref p21, .ref p22, .int i23, .int i24, .ref p25, .ref p26, .ref p27, .ref p28, .ref p29, .ref p30, .ref p31, .ref p32])), (p0, .inl (cI, 1439, .inl w)), (p1, .inl (cI, 7195, .inl z)), (p3, .inl (cI, 120, .inl tx)), (p5, .inl (cI, 44, .inl md)), (p10, .inl (cI, 3, .inl fg))] sz) := by
  refine Met.ofW (cc := cX11_lay) (maxL := 2) (ret := (some .int)) (by decide) rfl ?_
  intro p e s m args below meth c s₁ B hml hv
  obtain ⟨rfl, hsz, hP, hKK, hD0⟩ := hv
  have hK := hKK.1
  have hx := B.exec
  have hb := B.bytes
  have hr := B.returns
  have hts := atoms_spec (ws := wsX11_lay) B.pre
  have hown : s.vm.findClass RX11 = some m.cls := findClass_of_methodNamed B.named
  have hlocks := B.notSynchronized
  subst hsz
  have hD := hD0.self (sz := s.heap.size)
  generalize hAe : va_A [(m0, .inr (11, [.ref p0, .ref p1, .int (nI hm), .ref p3, .int (nI tn), .ref p5, .int i6, .int i7, .int i8, .int i9, .ref p10, .int i11, .ref p12, .ref p13, .ref p14, .int i15, .ref p16, .ref p17, .int i18, .ref p19, .ref p20, .ref p21, .ref p22, .int i23, .int i24, .ref p25, .ref p26, .ref p27, .ref p28, .ref p29, .ref p30, .ref p31, .ref p32])), (p0, .inl (cI, 1439, .inl w)), (p1, .inl (cI, 7195, .inl z)), (p3, .inl (cI, 120, .inl tx)), (p5, .inl (cI, 44, .inl md)), (p10, .inl (cI, 3, .inl fg))] s.heap.size = A at hD ⊢
  have hA : ∀ q : Nat, s.heap.size ≤ q → A q := fun q h => by rw [← hAe]; exact Or.inr h
  have hS : va_S A s.heap s.heap [] := va_S.rf
  have hD : va_D A [(m0, .inr (11, [.ref p0, .ref p1, .int (nI hm), .ref p3, .int (nI tn), .ref p5, .int i6, .int i7, .int i8, .int i9, .ref p10, .int i11, .ref p12, .ref p13, .ref p14, .int i15, .ref p16, .ref p17, .int i18, .ref p19, .ref p20, .ref p21, .ref p22, .int i23, .int i24, .ref p25, .ref p26, .ref p27, .ref p28, .ref p29, .ref p30, .ref p31, .ref p32])), (p0, .inl (cI, 1439, .inl w)), (p1, .inl (cI, 7195, .inl z)), (p3, .inl (cI, 120, .inl tx)), (p5, .inl (cI, 44, .inl md)), (p10, .inl (cI, 3, .inl fg))] := hD
  have hP : va_P D vwCl [(m0, .inr (11, [.ref p0, .ref p1, .int (nI hm), .ref p3, .int (nI tn), .ref p5, .int i6, .int i7, .int i8, .int i9, .ref p10, .int i11, .ref p12, .ref p13, .ref p14, .int i15, .ref p16, .ref p17, .int i18, .ref p19, .ref p20, .ref p21, .ref p22, .int i23, .int i24, .ref p25, .ref p26, .ref p27, .ref p28, .ref p29, .ref p30, .ref p31, .ref p32])), (p0, .inl (cI, 1439, .inl w)), (p1, .inl (cI, 7195, .inl z)), (p3, .inl (cI, 120, .inl tx)), (p5, .inl (cI, 44, .inl md)), (p10, .inl (cI, 3, .inl fg))] s.heap := hP
  have hl := lv_entry ([.ref m0]) (n := 2) (Nat.le_of_ble_eq_true rfl)
  rw [lg_entry_eq]
  generalize (lg_sl ([.ref m0]) ++ List.replicate (2 - (lg_sl ([.ref m0])).length) Slot.unset).toArray = ls at hl ⊢
  have hl : lv_has ls 2 [(0, .ref m0)] := hl
  refine lv_aload_n hx hb dX11_lay_0 rfl (lv_at hl 0 rfl) ?_
  refine ft_cxi (S := (Nat → Int32) × (Nat → Nat → Int32)) (wc := [(m0, .inr (11, [.ref p0, .ref p1, .int (nI hm), .ref p3, .int (nI tn), .ref p5, .int i6, .int i7, .int i8, .int i9, .ref p10, .int i11, .ref p12, .ref p13, .ref p14, .int i15, .ref p16, .ref p17, .int i18, .ref p19, .ref p20, .ref p21, .ref p22, .int i23, .int i24, .ref p25, .ref p26, .ref p27, .ref p28, .ref p29, .ref p30, .ref p31, .ref p32])), (p3, .inl (cI, 120, .inl tx)), (p5, .inl (cI, 44, .inl md)), (p10, .inl (cI, 3, .inl fg))]) (wr := [(p0, .inl (cI, 1439, .inl w)), (p1, .inl (cI, 7195, .inl z))]) (w1 := (fun (u1 : (Nat → Int32) × (Nat → Nat → Int32)) => [(m0, .inr (11, [.ref p0, .ref p1, .int (nI hm), .ref p3, .int (nI tn), .ref p5, .int (u1.1 0), .int (u1.1 1), .int (u1.1 2), .int (u1.1 3), .ref p10, .int (u1.1 4), .ref p12, .ref p13, .ref p14, .int i15, .ref p16, .ref p17, .int i18, .ref p19, .ref p20, .ref p21, .ref p22, .int i23, .int i24, .ref p25, .ref p26, .ref p27, .ref p28, .ref p29, .ref p30, .ref p31, .ref p32])), (p3, .inl (cI, 120, .inl tx)), (p5, .inl (cI, 44, .inl (u1.2 1))), (p10, .inl (cI, 3, .inl (u1.2 0)))])) (ws1 := (fun (u1 : (Nat → Int32) × (Nat → Nat → Int32)) => [(m0, .inr (11, [.ref p0, .ref p1, .int (nI hm), .ref p3, .int (nI tn), .ref p5, .int (u1.1 0), .int (u1.1 1), .int (u1.1 2), .int (u1.1 3), .ref p10, .int (u1.1 4), .ref p12, .ref p13, .ref p14, .int i15, .ref p16, .ref p17, .int i18, .ref p19, .ref p20, .ref p21, .ref p22, .int i23, .int i24, .ref p25, .ref p26, .ref p27, .ref p28, .ref p29, .ref p30, .ref p31, .ref p32])), (p0, .inl (cI, 1439, .inl w)), (p1, .inl (cI, 7195, .inl z)), (p3, .inl (cI, 120, .inl tx)), (p5, .inl (cI, 44, .inl (u1.2 1))), (p10, .inl (cI, 3, .inl (u1.2 0)))])) (va_runV (C := RX11) (As := []) (rest := []) ⟨hx, hb, hml, hown, hts⟩ (c_X11_hasFault l D cI cS s.heap.size m0 p0 p1 p3 p5 p10 p12 p13 p14 p16 p17 p19 p20 p21 p22 p25 p26 p27 p28 p29 p30 p31 p32 (nI hm) i6 i7 i8 i9 i11 i15 i18 i23 i24 tx md fg tn htn) (cwV 0 hts gX11_lay_X11_hasFault rfl rfl rfl (by decide +kernel) ⟨Nat.le_of_ble_eq_true rfl, Nat.le_of_ble_eq_true rfl⟩) (ft_preRWV (ci := 11) (q0 := 0) hP hD hKK [0, 3, 4, 5] rfl rfl rfl rfl rfl) rfl rfl hl.1 rfl (lv_room (Nat.le_of_ble_eq_true rfl)) dX11_lay_1 ⟨Nat.le_of_ble_eq_true rfl, Nat.le_of_ble_eq_true rfl⟩) hP hD hS hA [0, 3, 4, 5] [1, 2] [2, 0, 1, 3, 4, 5] rfl rfl (by decide) (by decide) (by decide) (fun _ => rfl) (fun _ => rfl) (fun o1 u1 hu1 H locs hP hD hS => ?_)
  obtain ⟨ho1, hu1⟩ := hu1
  have hpa1 := hu1
  have hP : va_P D vwCl [(m0, .inr (11, [.ref p0, .ref p1, .int (nI hm), .ref p3, .int (nI tn), .ref p5, .int (u1.1 0), .int (u1.1 1), .int (u1.1 2), .int (u1.1 3), .ref p10, .int (u1.1 4), .ref p12, .ref p13, .ref p14, .int i15, .ref p16, .ref p17, .int i18, .ref p19, .ref p20, .ref p21, .ref p22, .int i23, .int i24, .ref p25, .ref p26, .ref p27, .ref p28, .ref p29, .ref p30, .ref p31, .ref p32])), (p0, .inl (cI, 1439, .inl w)), (p1, .inl (cI, 7195, .inl z)), (p3, .inl (cI, 120, .inl tx)), (p5, .inl (cI, 44, .inl (u1.2 1))), (p10, .inl (cI, 3, .inl (u1.2 0)))] H := hP
  have hD : va_D A [(m0, .inr (11, [.ref p0, .ref p1, .int (nI hm), .ref p3, .int (nI tn), .ref p5, .int (u1.1 0), .int (u1.1 1), .int (u1.1 2), .int (u1.1 3), .ref p10, .int (u1.1 4), .ref p12, .ref p13, .ref p14, .int i15, .ref p16, .ref p17, .int i18, .ref p19, .ref p20, .ref p21, .ref p22, .int i23, .int i24, .ref p25, .ref p26, .ref p27, .ref p28, .ref p29, .ref p30, .ref p31, .ref p32])), (p0, .inl (cI, 1439, .inl w)), (p1, .inl (cI, 7195, .inl z)), (p3, .inl (cI, 120, .inl tx)), (p5, .inl (cI, 44, .inl (u1.2 1))), (p10, .inl (cI, 3, .inl (u1.2 0)))] := hD
  subst ho1
  refine lv_if_eq (tgt := 10) hx hb dX11_lay_4 (by decide) (fun c4 => ?_) (fun c4 => ?_)
  · replace c4 := ftB_eq c4
    obtain ⟨md9, hmd9⟩ : ∃ a, ftPars tx tn md = some a := by
      cases hq : ftPars tx tn md with
      | none => exact absurd hq c4
      | some a => exact ⟨a, rfl⟩
    obtain ⟨hcp, hmq⟩ := (ftPars_c tx tn md).2 md9 hmd9
    have hC : ¬ ftCPar tx tn = none := fun q => by rw [hcp] at q; cases q
    have hu1 : u1.2 1 = md9 := hpa1 md9 hmd9
    obtain ⟨hm3, hm10⟩ := ftMok_n hmq.1
    have hcn : ftCN md9 = ftCN (ftCPm tx tn) := ftMeq_n hmq
    rw [hu1] at hP hD
    refine lv_aload_n hx hb dX11_lay_10 rfl (lv_at hl 0 rfl) ?_
    refine ft_cv (wc := [(m0, .inr (11, [.ref p0, .ref p1, .int (nI hm), .ref p3, .int (nI tn), .ref p5, .int (u1.1 0), .int (u1.1 1), .int (u1.1 2), .int (u1.1 3), .ref p10, .int (u1.1 4), .ref p12, .ref p13, .ref p14, .int i15, .ref p16, .ref p17, .int i18, .ref p19, .ref p20, .ref p21, .ref p22, .int i23, .int i24, .ref p25, .ref p26, .ref p27, .ref p28, .ref p29, .ref p30, .ref p31, .ref p32])), (p0, .inl (cI, 1439, .inl w)), (p1, .inl (cI, 7195, .inl z))]) (wr := [(p3, .inl (cI, 120, .inl tx)), (p5, .inl (cI, 44, .inl md9)), (p10, .inl (cI, 3, .inl (u1.2 0)))]) (w1 := [(m0, .inr (11, [.ref p0, .ref p1, .int (nI (min (hm + 1) 5)), .ref p3, .int (nI tn), .ref p5, .int (u1.1 0), .int (u1.1 1), .int (u1.1 2), .int (u1.1 3), .ref p10, .int (u1.1 4), .ref p12, .ref p13, .ref p14, .int i15, .ref p16, .ref p17, .int i18, .ref p19, .ref p20, .ref p21, .ref p22, .int i23, .int i24, .ref p25, .ref p26, .ref p27, .ref p28, .ref p29, .ref p30, .ref p31, .ref p32])), (p0, .inl (cI, 1439, .inl w)), (p1, .inl (cI, 7195, .inl (ftPush w z hm)))]) (ws1 := [(m0, .inr (11, [.ref p0, .ref p1, .int (nI (min (hm + 1) 5)), .ref p3, .int (nI tn), .ref p5, .int (u1.1 0), .int (u1.1 1), .int (u1.1 2), .int (u1.1 3), .ref p10, .int (u1.1 4), .ref p12, .ref p13, .ref p14, .int i15, .ref p16, .ref p17, .int i18, .ref p19, .ref p20, .ref p21, .ref p22, .int i23, .int i24, .ref p25, .ref p26, .ref p27, .ref p28, .ref p29, .ref p30, .ref p31, .ref p32])), (p0, .inl (cI, 1439, .inl w)), (p1, .inl (cI, 7195, .inl (ftPush w z hm))), (p3, .inl (cI, 120, .inl tx)), (p5, .inl (cI, 44, .inl md9)), (p10, .inl (cI, 3, .inl (u1.2 0)))]) (va_runV (C := RX11) (As := []) (rest := []) ⟨hx, hb, hml, hown, hts⟩ (c_X11_change l D cI cS H.size m0 p0 p1 p3 p5 p10 p12 p13 p14 p16 p17 p19 p20 p21 p22 p25 p26 p27 p28 p29 p30 p31 p32 (nI tn) (u1.1 0) (u1.1 1) (u1.1 2) (u1.1 3) (u1.1 4) i15 i18 i23 i24 w z hm hhm) (cwV 0 hts gX11_lay_X11_change rfl rfl rfl (by decide +kernel) ⟨Nat.le_of_ble_eq_true rfl, Nat.le_of_ble_eq_true rfl⟩) (ft_preRWV (ci := 11) (q0 := 0) hP hD hKK [0, 1, 2] rfl rfl rfl rfl rfl) rfl rfl hl.1 rfl (lv_room (Nat.le_of_ble_eq_true rfl)) dX11_lay_11 ⟨Nat.le_of_ble_eq_true rfl, Nat.le_of_ble_eq_true rfl⟩) hP hD hS hA [0, 1, 2] [3, 4, 5] [3, 4, 5, 0, 1, 2] rfl rfl (by decide) (by decide) (by decide) rfl rfl (fun H locs hP hD hS => ?_)
    have hP : va_P D vwCl [(m0, .inr (11, [.ref p0, .ref p1, .int (nI (min (hm + 1) 5)), .ref p3, .int (nI tn), .ref p5, .int (u1.1 0), .int (u1.1 1), .int (u1.1 2), .int (u1.1 3), .ref p10, .int (u1.1 4), .ref p12, .ref p13, .ref p14, .int i15, .ref p16, .ref p17, .int i18, .ref p19, .ref p20, .ref p21, .ref p22, .int i23, .int i24, .ref p25, .ref p26, .ref p27, .ref p28, .ref p29, .ref p30, .ref p31, .ref p32])), (p0, .inl (cI, 1439, .inl w)), (p1, .inl (cI, 7195, .inl (ftPush w z hm))), (p3, .inl (cI, 120, .inl tx)), (p5, .inl (cI, 44, .inl md9)), (p10, .inl (cI, 3, .inl (u1.2 0)))] H := hP
    have hD : va_D A [(m0, .inr (11, [.ref p0, .ref p1, .int (nI (min (hm + 1) 5)), .ref p3, .int (nI tn), .ref p5, .int (u1.1 0), .int (u1.1 1), .int (u1.1 2), .int (u1.1 3), .ref p10, .int (u1.1 4), .ref p12, .ref p13, .ref p14, .int i15, .ref p16, .ref p17, .int i18, .ref p19, .ref p20, .ref p21, .ref p22, .int i23, .int i24, .ref p25, .ref p26, .ref p27, .ref p28, .ref p29, .ref p30, .ref p31, .ref p32])), (p0, .inl (cI, 1439, .inl w)), (p1, .inl (cI, 7195, .inl (ftPush w z hm))), (p3, .inl (cI, 120, .inl tx)), (p5, .inl (cI, 44, .inl md9)), (p10, .inl (cI, 3, .inl (u1.2 0)))] := hD
    refine lv_iconst (v := 0) hx hb dX11_lay_14 (by decide) ?_
    refine lv_istore_n (lv' := [(1, .int 0), (0, .ref m0)]) hx hb dX11_lay_15 rfl hl (by decide) rfl (fun ls hl => ?_)
    have lp16 : ∀ (n16 : Nat) (t : Nat) (x16_1 : Int32) (g16_p0 : Nat → Int32), 44 - t < n16 → (t ≤ 44) → x16_1 = nI t → g16_p0 = ftFill (fun x => if x < 4 + 4 * ftCN md9 then md9 x else 0) w t → ∀ (H : Heap) (locs : List Loc), va_P D vwCl [(m0, .inr (11, [.ref p0, .ref p1, .int (nI (min (hm + 1) 5)), .ref p3, .int (nI tn), .ref p5, .int (u1.1 0), .int (u1.1 1), .int (u1.1 2), .int (u1.1 3), .ref p10, .int (u1.1 4), .ref p12, .ref p13, .ref p14, .int i15, .ref p16, .ref p17, .int i18, .ref p19, .ref p20, .ref p21, .ref p22, .int i23, .int i24, .ref p25, .ref p26, .ref p27, .ref p28, .ref p29, .ref p30, .ref p31, .ref p32])), (p0, .inl (cI, 1439, .inl g16_p0)), (p1, .inl (cI, 7195, .inl (ftPush w z hm))), (p3, .inl (cI, 120, .inl tx)), (p5, .inl (cI, 44, .inl md9)), (p10, .inl (cI, 3, .inl (u1.2 0)))] H → va_D A [(m0, .inr (11, [.ref p0, .ref p1, .int (nI (min (hm + 1) 5)), .ref p3, .int (nI tn), .ref p5, .int (u1.1 0), .int (u1.1 1), .int (u1.1 2), .int (u1.1 3), .ref p10, .int (u1.1 4), .ref p12, .ref p13, .ref p14, .int i15, .ref p16, .ref p17, .int i18, .ref p19, .ref p20, .ref p21, .ref p22, .int i23, .int i24, .ref p25, .ref p26, .ref p27, .ref p28, .ref p29, .ref p30, .ref p31, .ref p32])), (p0, .inl (cI, 1439, .inl g16_p0)), (p1, .inl (cI, 7195, .inl (ftPush w z hm))), (p3, .inl (cI, 120, .inl tx)), (p5, .inl (cI, 44, .inl md9)), (p10, .inl (cI, 3, .inl (u1.2 0)))] → va_S A s.heap H locs → ∀ ls : Array Slot, lv_has ls 2 [(0, .ref m0), (1, .int x16_1)] → W p l e (headSpec wsX11_lay { frames := 4, cells := 0, slots := 0, locals := 94 }).room s m ([.ref m0] : List Value).toArray below meth c H locs 0 0 (MQ below (ftXi D [(m0, .inr (11, [.ref p0, .ref p1, .int (nI hm), .ref p3, .int (nI tn), .ref p5, .int i6, .int i7, .int i8, .int i9, .ref p10, .int i11, .ref p12, .ref p13, .ref p14, .int i15, .ref p16, .ref p17, .int i18, .ref p19, .ref p20, .ref p21, .ref p22, .int i23, .int i24, .ref p25, .ref p26, .ref p27, .ref p28, .ref p29, .ref p30, .ref p31, .ref p32])), (p0, .inl (cI, 1439, .inl w)), (p1, .inl (cI, 7195, .inl z)), (p3, .inl (cI, 120, .inl tx)), (p5, .inl (cI, 44, .inl md)), (p10, .inl (cI, 3, .inl fg))] s.heap.size (fun (o9 : Int32) (u : (Nat → Int32) × (Nat → Nat → Int32)) => o9 = ftIte (¬ ftCPar tx tn = none) (nI (ftCN (ftCPm tx tn))) (-1000002) ∧ True) (fun (u : (Nat → Int32) × (Nat → Nat → Int32)) => [(m0, .inr (11, [.ref p0, .ref p1, .int (nI (ftCh (¬ ftCPar tx tn = none) (min (hm + 1) 5) hm)), .ref p3, .int (nI tn), .ref p5, .int (u.1 6), .int (u.1 7), .int (u.1 8), .int (u.1 9), .ref p10, .int (u.1 11), .ref p12, .ref p13, .ref p14, .int i15, .ref p16, .ref p17, .int i18, .ref p19, .ref p20, .ref p21, .ref p22, .int i23, .int i24, .ref p25, .ref p26, .ref p27, .ref p28, .ref p29, .ref p30, .ref p31, .ref p32])), (p0, .inl (cI, 1439, .inl (ftCh (¬ ftCPar tx tn = none) (ftLayW w (ftCPm tx tn)) w))), (p1, .inl (cI, 7195, .inl (ftCh (¬ ftCPar tx tn = none) (ftPush w z hm) z))), (p3, .inl (cI, 120, .inl tx)), (p5, .inl (cI, 44, .inl (u.2 5))), (p10, .inl (cI, 3, .inl (u.2 10)))])) ([.ref m0] : List Value).toArray s 0 0 A) (F0 m 16 ls []) := by
      intro n16
      induction n16 with
      | zero =>
        intro t x16_1 g16_p0 hm16
        exact absurd hm16 (Nat.not_lt_zero _)
      | succ n16 ih16 =>
        intro t x16_1 g16_p0 hm16 ht44 ex16_1 eg16_p0 H locs hP hD hS ls hl
        subst ex16_1
        refine lv_iload_n hx hb dX11_lay_16 rfl (lv_at hl 1 rfl) ?_
        refine lv_bipush (v := 44) hx hb dX11_lay_17 (by decide) ?_
        refine lv_icmp_ge (tgt := 58) hx hb dX11_lay_19 (by decide) (fun c19 => ?_) (fun c19 => ?_)
        · have c19n : 44 ≤ t := ft_leN (by omega) (by omega) c19
          refine lv_aload_n hx hb dX11_lay_58 rfl (lv_at hl 0 rfl) ?_
          refine va_get (D := D) (ci := 11) (v := .ref p0) (C := RX11) (T := TX11) (N := 33) hx hb hts (by decide +kernel) hown hK hP 0 rfl rfl 0 (by decide) (hts (.fieldLink RX11 7 "FiberTraceModel" "now" "[I") (by decide +kernel)) (fun _ h9 => h9) rfl dX11_lay_59 ?_
          refine lv_iconst (v := 3) hx hb dX11_lay_62 (by decide) ?_
          refine va_iald hx hb hK hP 1 0 rfl rfl (vp_in_nI (n := 3) (by omega) (by omega)) dX11_lay_63 ?_
          refine ft_top (y := g16_p0 3) rfl ?_
          refine ft_top (y := nI (ftCN md9)) (by rw [eg16_p0, show t = 44 by omega, ftFill_at (by omega), if_pos (by omega)]; exact hm3) ?_
          obtain ⟨u9, hu9⟩ : ∃ u9 : (Nat → Int32) × (Nat → Nat → Int32), u9 = ((fun k => match k with | 6 => (u1.1 0) | 7 => (u1.1 1) | 8 => (u1.1 2) | 9 => (u1.1 3) | _ => (u1.1 4)), (fun k => match k with | 5 => md9 | _ => (u1.2 0))) := ⟨_, rfl⟩
          have hw9 : ([(m0, .inr (11, [.ref p0, .ref p1, .int (nI (min (hm + 1) 5)), .ref p3, .int (nI tn), .ref p5, .int (u1.1 0), .int (u1.1 1), .int (u1.1 2), .int (u1.1 3), .ref p10, .int (u1.1 4), .ref p12, .ref p13, .ref p14, .int i15, .ref p16, .ref p17, .int i18, .ref p19, .ref p20, .ref p21, .ref p22, .int i23, .int i24, .ref p25, .ref p26, .ref p27, .ref p28, .ref p29, .ref p30, .ref p31, .ref p32])), (p0, .inl (cI, 1439, .inl g16_p0)), (p1, .inl (cI, 7195, .inl (ftPush w z hm))), (p3, .inl (cI, 120, .inl tx)), (p5, .inl (cI, 44, .inl md9)), (p10, .inl (cI, 3, .inl (u1.2 0)))] : va_W) = [(m0, .inr (11, [.ref p0, .ref p1, .int (nI (ftCh (¬ ftCPar tx tn = none) (min (hm + 1) 5) hm)), .ref p3, .int (nI tn), .ref p5, .int (u9.1 6), .int (u9.1 7), .int (u9.1 8), .int (u9.1 9), .ref p10, .int (u9.1 11), .ref p12, .ref p13, .ref p14, .int i15, .ref p16, .ref p17, .int i18, .ref p19, .ref p20, .ref p21, .ref p22, .int i23, .int i24, .ref p25, .ref p26, .ref p27, .ref p28, .ref p29, .ref p30, .ref p31, .ref p32])), (p0, .inl (cI, 1439, .inl (ftCh (¬ ftCPar tx tn = none) (ftLayW w (ftCPm tx tn)) w))), (p1, .inl (cI, 7195, .inl (ftCh (¬ ftCPar tx tn = none) (ftPush w z hm) z))), (p3, .inl (cI, 120, .inl tx)), (p5, .inl (cI, 44, .inl (u9.2 5))), (p10, .inl (cI, 3, .inl (u9.2 10)))] := by rw [ftCh_t hC, ftCh_t hC, ftCh_t hC, hu9, ← ftLayW_cong hmq, eg16_p0, show t = 44 by omega]; rfl
          rw [hw9] at hP hD
          have hr9 : (nI (ftCN md9) : Int32) = ftIte (¬ ftCPar tx tn = none) (nI (ftCN (ftCPm tx tn))) (-1000002) := by rw [ftIte_t hC, hcn]
          exact W.iret (v := nI (ftCN md9)) hx hb hr (fun t ht hW => ⟨⟨nI (ftCN md9), u9, rfl, ⟨hr9, trivial⟩, by rw [ht]; exact hP, by rw [hAe]; exact hD⟩, by rw [hAe]; exact hS.F ht⟩) hS.2.2 dX11_lay_64
        · have c19n : t < 44 := ft_nleN (by omega) (by omega) c19
          refine lv_aload_n hx hb dX11_lay_22 rfl (lv_at hl 0 rfl) ?_
          refine va_get (D := D) (ci := 11) (v := .ref p0) (C := RX11) (T := TX11) (N := 33) hx hb hts (by decide +kernel) hown hK hP 0 rfl rfl 0 (by decide) (hts (.fieldLink RX11 7 "FiberTraceModel" "now" "[I") (by decide +kernel)) (fun _ h9 => h9) rfl dX11_lay_23 ?_
          refine lv_iload_n hx hb dX11_lay_26 rfl (lv_at hl 1 rfl) ?_
          refine lv_iload_n hx hb dX11_lay_27 rfl (lv_at hl 1 rfl) ?_
          refine lv_iconst (v := 4) hx hb dX11_lay_28 (by decide) ?_
          refine lv_iconst (v := 4) hx hb dX11_lay_29 (by decide) ?_
          refine lv_aload_n hx hb dX11_lay_30 rfl (lv_at hl 0 rfl) ?_
          refine va_get (D := D) (ci := 11) (v := .ref p5) (C := RX11) (T := TX11) (N := 33) hx hb hts (by decide +kernel) hown hK hP 0 rfl rfl 5 (by decide) (hts (.fieldLink RX11 19 "FiberTraceModel" "made" "[I") (by decide +kernel)) (fun _ h9 => h9) rfl dX11_lay_31 ?_
          refine lv_iconst (v := 3) hx hb dX11_lay_34 (by decide) ?_
          refine va_iald hx hb hK hP 4 0 rfl rfl (vp_in_nI (n := 3) (by omega) (by omega)) dX11_lay_35 ?_
          refine ft_top (y := md9 3) rfl ?_
          refine ft_top (y := nI (ftCN md9)) hm3 ?_
          refine lv_imul hx hb dX11_lay_36 ?_
          refine ft_top (y := nI (4 * (ftCN md9))) (ft_mulN 4 (ftCN md9)) ?_
          refine lv_iadd hx hb dX11_lay_37 ?_
          refine ft_top (y := nI (4 + (4 * (ftCN md9)))) (ft_addN 4 (4 * (ftCN md9))) ?_
          refine lv_icmp_ge (tgt := 50) hx hb dX11_lay_38 (by decide) (fun c38 => ?_) (fun c38 => ?_)
          · have c38n : (4 + (4 * (ftCN md9))) ≤ t := ft_leN (by omega) (by omega) c38
            refine lv_iconst (v := 0) hx hb dX11_lay_50 (by decide) ?_
            refine va_iast hx hb hK hP hD hS 1 0 rfl rfl (vp_in_nI (by omega) (by omega)) dX11_lay_51 (fun H locs hP hD hS => ?_)
            rw [nI_clamp (show t < 2 ^ 31 by omega)] at hP hD
            have hP : va_P D vwCl [(m0, .inr (11, [.ref p0, .ref p1, .int (nI (min (hm + 1) 5)), .ref p3, .int (nI tn), .ref p5, .int (u1.1 0), .int (u1.1 1), .int (u1.1 2), .int (u1.1 3), .ref p10, .int (u1.1 4), .ref p12, .ref p13, .ref p14, .int i15, .ref p16, .ref p17, .int i18, .ref p19, .ref p20, .ref p21, .ref p22, .int i23, .int i24, .ref p25, .ref p26, .ref p27, .ref p28, .ref p29, .ref p30, .ref p31, .ref p32])), (p0, .inl (cI, 1439, .inl (upd g16_p0 t 0))), (p1, .inl (cI, 7195, .inl (ftPush w z hm))), (p3, .inl (cI, 120, .inl tx)), (p5, .inl (cI, 44, .inl md9)), (p10, .inl (cI, 3, .inl (u1.2 0)))] H := hP
            have hD : va_D A [(m0, .inr (11, [.ref p0, .ref p1, .int (nI (min (hm + 1) 5)), .ref p3, .int (nI tn), .ref p5, .int (u1.1 0), .int (u1.1 1), .int (u1.1 2), .int (u1.1 3), .ref p10, .int (u1.1 4), .ref p12, .ref p13, .ref p14, .int i15, .ref p16, .ref p17, .int i18, .ref p19, .ref p20, .ref p21, .ref p22, .int i23, .int i24, .ref p25, .ref p26, .ref p27, .ref p28, .ref p29, .ref p30, .ref p31, .ref p32])), (p0, .inl (cI, 1439, .inl (upd g16_p0 t 0))), (p1, .inl (cI, 7195, .inl (ftPush w z hm))), (p3, .inl (cI, 120, .inl tx)), (p5, .inl (cI, 44, .inl md9)), (p10, .inl (cI, 3, .inl (u1.2 0)))] := hD
            refine lv_iinc (v := nI (t + 1)) (lv' := [(1, .int (nI (t + 1))), (0, .ref m0)]) hx hb dX11_lay_52 hl (k := 1) rfl (ft_inc t) (by decide) rfl (fun ls hl => ?_)
            refine lv_goto (tgt := 16) hx hb dX11_lay_55 (by decide) ?_
            exact ih16 (t + 1) (nI (t + 1)) (upd g16_p0 t 0) (by omega) (by omega) (by first | rfl | assumption) (by rw [eg16_p0]; refine ftFill_s ?_; first | (rw [if_pos c38n]; done) | (rw [if_neg (by omega)]; done)) _ _ hP hD hS ls (lv_sub hl [1, 0] rfl)
          · have c38n : t < (4 + (4 * (ftCN md9))) := ft_nleN (by omega) (by omega) c38
            refine lv_aload_n hx hb dX11_lay_41 rfl (lv_at hl 0 rfl) ?_
            refine va_get (D := D) (ci := 11) (v := .ref p5) (C := RX11) (T := TX11) (N := 33) hx hb hts (by decide +kernel) hown hK hP 0 rfl rfl 5 (by decide) (hts (.fieldLink RX11 19 "FiberTraceModel" "made" "[I") (by decide +kernel)) (fun _ h9 => h9) rfl dX11_lay_42 ?_
            refine lv_iload_n hx hb dX11_lay_45 rfl (lv_at hl 1 rfl) ?_
            refine va_iald hx hb hK hP 4 0 rfl rfl (vp_in_nI (by omega) (by omega)) dX11_lay_46 ?_
            refine ft_top (y := md9 t) (ft_clampN (by omega)) ?_
            refine lv_goto (tgt := 51) hx hb dX11_lay_47 (by decide) ?_
            refine va_iast hx hb hK hP hD hS 1 0 rfl rfl (vp_in_nI (by omega) (by omega)) dX11_lay_51 (fun H locs hP hD hS => ?_)
            rw [nI_clamp (show t < 2 ^ 31 by omega)] at hP hD
            have hP : va_P D vwCl [(m0, .inr (11, [.ref p0, .ref p1, .int (nI (min (hm + 1) 5)), .ref p3, .int (nI tn), .ref p5, .int (u1.1 0), .int (u1.1 1), .int (u1.1 2), .int (u1.1 3), .ref p10, .int (u1.1 4), .ref p12, .ref p13, .ref p14, .int i15, .ref p16, .ref p17, .int i18, .ref p19, .ref p20, .ref p21, .ref p22, .int i23, .int i24, .ref p25, .ref p26, .ref p27, .ref p28, .ref p29, .ref p30, .ref p31, .ref p32])), (p0, .inl (cI, 1439, .inl (upd g16_p0 t (md9 t)))), (p1, .inl (cI, 7195, .inl (ftPush w z hm))), (p3, .inl (cI, 120, .inl tx)), (p5, .inl (cI, 44, .inl md9)), (p10, .inl (cI, 3, .inl (u1.2 0)))] H := hP
            have hD : va_D A [(m0, .inr (11, [.ref p0, .ref p1, .int (nI (min (hm + 1) 5)), .ref p3, .int (nI tn), .ref p5, .int (u1.1 0), .int (u1.1 1), .int (u1.1 2), .int (u1.1 3), .ref p10, .int (u1.1 4), .ref p12, .ref p13, .ref p14, .int i15, .ref p16, .ref p17, .int i18, .ref p19, .ref p20, .ref p21, .ref p22, .int i23, .int i24, .ref p25, .ref p26, .ref p27, .ref p28, .ref p29, .ref p30, .ref p31, .ref p32])), (p0, .inl (cI, 1439, .inl (upd g16_p0 t (md9 t)))), (p1, .inl (cI, 7195, .inl (ftPush w z hm))), (p3, .inl (cI, 120, .inl tx)), (p5, .inl (cI, 44, .inl md9)), (p10, .inl (cI, 3, .inl (u1.2 0)))] := hD
            refine lv_iinc (v := nI (t + 1)) (lv' := [(1, .int (nI (t + 1))), (0, .ref m0)]) hx hb dX11_lay_52 hl (k := 1) rfl (ft_inc t) (by decide) rfl (fun ls hl => ?_)
            refine lv_goto (tgt := 16) hx hb dX11_lay_55 (by decide) ?_
            exact ih16 (t + 1) (nI (t + 1)) (upd g16_p0 t (md9 t)) (by omega) (by omega) (by first | rfl | assumption) (by rw [eg16_p0]; refine ftFill_s ?_; first | (rw [if_pos c38n]; done) | (rw [if_neg (by omega)]; done)) _ _ hP hD hS ls (lv_sub hl [1, 0] rfl)
    exact lp16 _ 0 0 w (Nat.lt_succ_self _) (by omega) (by rfl) (by exact ftFill_0 _ w) _ _ hP hD hS ls (lv_sub hl [1, 0] rfl)
  · replace c4 := ftB_ne c4
    have hC : ¬ (¬ ftCPar tx tn = none) := fun q => q ((ftPars_c tx tn md).1.mp c4)
    refine lv_ldc (v := (-1000002)) hx hb hown (hts (.constant RX11 86 (-1000002)) (by decide +kernel)) dX11_lay_7 ?_
    obtain ⟨u9, hu9⟩ : ∃ u9 : (Nat → Int32) × (Nat → Nat → Int32), u9 = ((fun k => match k with | 6 => (u1.1 0) | 7 => (u1.1 1) | 8 => (u1.1 2) | 9 => (u1.1 3) | _ => (u1.1 4)), (fun k => match k with | 5 => (u1.2 1) | _ => (u1.2 0))) := ⟨_, rfl⟩
    have hw9 : ([(m0, .inr (11, [.ref p0, .ref p1, .int (nI hm), .ref p3, .int (nI tn), .ref p5, .int (u1.1 0), .int (u1.1 1), .int (u1.1 2), .int (u1.1 3), .ref p10, .int (u1.1 4), .ref p12, .ref p13, .ref p14, .int i15, .ref p16, .ref p17, .int i18, .ref p19, .ref p20, .ref p21, .ref p22, .int i23, .int i24, .ref p25, .ref p26, .ref p27, .ref p28, .ref p29, .ref p30, .ref p31, .ref p32])), (p0, .inl (cI, 1439, .inl w)), (p1, .inl (cI, 7195, .inl z)), (p3, .inl (cI, 120, .inl tx)), (p5, .inl (cI, 44, .inl (u1.2 1))), (p10, .inl (cI, 3, .inl (u1.2 0)))] : va_W) = [(m0, .inr (11, [.ref p0, .ref p1, .int (nI (ftCh (¬ ftCPar tx tn = none) (min (hm + 1) 5) hm)), .ref p3, .int (nI tn), .ref p5, .int (u9.1 6), .int (u9.1 7), .int (u9.1 8), .int (u9.1 9), .ref p10, .int (u9.1 11), .ref p12, .ref p13, .ref p14, .int i15, .ref p16, .ref p17, .int i18, .ref p19, .ref p20, .ref p21, .ref p22, .int i23, .int i24, .ref p25, .ref p26, .ref p27, .ref p28, .ref p29, .ref p30, .ref p31, .ref p32])), (p0, .inl (cI, 1439, .inl (ftCh (¬ ftCPar tx tn = none) (ftLayW w (ftCPm tx tn)) w))), (p1, .inl (cI, 7195, .inl (ftCh (¬ ftCPar tx tn = none) (ftPush w z hm) z))), (p3, .inl (cI, 120, .inl tx)), (p5, .inl (cI, 44, .inl (u9.2 5))), (p10, .inl (cI, 3, .inl (u9.2 10)))] := by rw [ftCh_f hC, ftCh_f hC, ftCh_f hC, hu9]; rfl
    rw [hw9] at hP hD
    have hr9 : ((-1000002) : Int32) = ftIte (¬ ftCPar tx tn = none) (nI (ftCN (ftCPm tx tn))) (-1000002) := by exact (ftIte_f hC).symm
    exact W.iret (v := (-1000002)) hx hb hr (fun t ht hW => ⟨⟨(-1000002), u9, rfl, ⟨hr9, trivial⟩, by rw [ht]; exact hP, by rw [hAe]; exact hD⟩, by rw [hAe]; exact hS.F ht⟩) hS.2.2 dX11_lay_9
set_option maxHeartbeats 4000000 in
set_option maxRecDepth 100000 in
theorem c_X11_fault (l : Launch) (D : va_G) (cI cS : ClassId) (sz : Nat) (m0 p0 p1 p3 p5 p10 p12 p13 p14 p16 p17 p19 p20 p21 p22 p25 p26 p27 p28 p29 p30 p31 p32 : Nat) (i2 i6 i7 i8 i9 i11 i15 i18 i23 i24 : Int32) (tx md fg : Nat → Int32) (tn : Nat) (xq0 : Int32) (htn : tn ≤ 120) : Met l yX11_fault wsX11_fault ({ frames := 4, cells := 0, slots := 0, locals := 94 }) (ftRW D cI cS [.ref m0, .int xq0] [(m0, .inr (11, [.ref p0, .ref p1, .int i2, .ref p3, .int (nI tn), .ref p5, .int i6, .int i7, .int i8, .int i9, .ref p10, .int i11, .ref p12, .ref p13, .ref p14, .int i15, .ref p16, .ref p17, .int i18, .ref p19, .ref p20, .ref p21, .ref p22, .int i23, .int i24, .ref p25, .ref p26, .ref p27, .ref p28, .ref p29, .ref p30, .ref p31, .ref p32])), (p3, .inl (cI, 120, .inl tx)), (p5, .inl (cI, 44, .inl md)), (p10, .inl (cI, 3, .inl fg))] sz) (ftXi D [(m0, .inr (11, [.ref p0, .ref p1, .int i2, .ref p3, .int (nI tn), .ref p5, .int i6, .int i7, .int i8, .int i9, .ref p10, .int i11, .ref p12, .ref p13, .ref p14, .int i15, .ref p16, .ref p17, .int i18, .ref p19, .ref p20, .ref p21, .ref p22, .int i23, .int i24, .ref p25, .ref p26, .ref p27, .ref p28, .ref p29, .ref p30, .ref p31, .ref p32])), (p3, .inl (cI, 120, .inl tx)), (p5, .inl (cI, 44, .inl md)), (p10, .inl (cI, 3, .inl fg))] sz (fun (o9 : Int32) (u : (Nat → Int32) × (Nat → Nat → Int32)) => o9 = u.1 50 ∧ (¬ (0 ≤ xq0 ∧ xq0 ≤ 2) → u.1 50 = -1000001) ∧ ((0 ≤ xq0 ∧ xq0 ≤ 2) → ¬ ftCPar tx tn = none → u.1 50 = -1000004)) (fun (u : (Nat → Int32) × (Nat → Nat → Int32)) => [(m0, .inr (11, [.ref p0, .ref p1, .int i2, .ref p3, .int (nI tn), .ref p5, .int (u.1 6), .int (u.1 7), .int (u.1 8), .int (u.1 9), .ref p10, .int (u.1 11), .ref p12, .ref p13, .ref p14, .int i15, .ref p16, .ref p17, .int i18, .ref p19, .ref p20, .ref p21, .ref p22, .int i23, .int i24, .ref p25, .ref p26, .ref p27, .ref p28, .ref p29, .ref p30, .ref p31, .ref p32])), (p3, .inl (cI, 120, .inl tx)), (p5, .inl (cI, 44, .inl (u.2 5))), (p10, .inl (cI, 3, .inl (u.2 10)))])) 0 0 (va_A [(m0, .inr (11, [.ref p0, .ref p1, .int i2, .ref p3, .int (nI tn), .ref p5, .int i6, .int i7, .int i8, .int i9, .ref p10, .int i11, .ref p12, .ref p13, .ref p14, .int i15, .ref p16, .ref p17, .int i18, .ref p19, .ref p20, .ref p21, .ref p22, .int i23, .int i24, .ref p25, .ref p26, .ref p27, .ref p28, .ref p29, .ref p30, .ref p31, .ref p32])), (p3, .inl (cI, 120, .inl tx)), (p5, .inl (cI, 44, .inl md)), (p10, .inl (cI, 3, .inl fg))] sz) := by
  refine Met.ofW (cc := cX11_fault) (maxL := 2) (ret := (some .int)) (by decide) rfl ?_
  intro p e s m args below meth c s₁ B hml hv
  obtain ⟨rfl, hsz, hP, hKK, hD0⟩ := hv
  have hK := hKK.1
  have hx := B.exec
  have hb := B.bytes
  have hr := B.returns
  have hts := atoms_spec (ws := wsX11_fault) B.pre
  have hown : s.vm.findClass RX11 = some m.cls := findClass_of_methodNamed B.named
  have hlocks := B.notSynchronized
  subst hsz
  have hD := hD0.self (sz := s.heap.size)
  generalize hAe : va_A [(m0, .inr (11, [.ref p0, .ref p1, .int i2, .ref p3, .int (nI tn), .ref p5, .int i6, .int i7, .int i8, .int i9, .ref p10, .int i11, .ref p12, .ref p13, .ref p14, .int i15, .ref p16, .ref p17, .int i18, .ref p19, .ref p20, .ref p21, .ref p22, .int i23, .int i24, .ref p25, .ref p26, .ref p27, .ref p28, .ref p29, .ref p30, .ref p31, .ref p32])), (p3, .inl (cI, 120, .inl tx)), (p5, .inl (cI, 44, .inl md)), (p10, .inl (cI, 3, .inl fg))] s.heap.size = A at hD ⊢
  have hA : ∀ q : Nat, s.heap.size ≤ q → A q := fun q h => by rw [← hAe]; exact Or.inr h
  have hS : va_S A s.heap s.heap [] := va_S.rf
  have hD : va_D A [(m0, .inr (11, [.ref p0, .ref p1, .int i2, .ref p3, .int (nI tn), .ref p5, .int i6, .int i7, .int i8, .int i9, .ref p10, .int i11, .ref p12, .ref p13, .ref p14, .int i15, .ref p16, .ref p17, .int i18, .ref p19, .ref p20, .ref p21, .ref p22, .int i23, .int i24, .ref p25, .ref p26, .ref p27, .ref p28, .ref p29, .ref p30, .ref p31, .ref p32])), (p3, .inl (cI, 120, .inl tx)), (p5, .inl (cI, 44, .inl md)), (p10, .inl (cI, 3, .inl fg))] := hD
  have hP : va_P D vwCl [(m0, .inr (11, [.ref p0, .ref p1, .int i2, .ref p3, .int (nI tn), .ref p5, .int i6, .int i7, .int i8, .int i9, .ref p10, .int i11, .ref p12, .ref p13, .ref p14, .int i15, .ref p16, .ref p17, .int i18, .ref p19, .ref p20, .ref p21, .ref p22, .int i23, .int i24, .ref p25, .ref p26, .ref p27, .ref p28, .ref p29, .ref p30, .ref p31, .ref p32])), (p3, .inl (cI, 120, .inl tx)), (p5, .inl (cI, 44, .inl md)), (p10, .inl (cI, 3, .inl fg))] s.heap := hP
  have hl := lv_entry ([.ref m0, .int xq0]) (n := 2) (Nat.le_of_ble_eq_true rfl)
  rw [lg_entry_eq]
  generalize (lg_sl ([.ref m0, .int xq0]) ++ List.replicate (2 - (lg_sl ([.ref m0, .int xq0])).length) Slot.unset).toArray = ls at hl ⊢
  have hl : lv_has ls 2 [(0, .ref m0), (1, .int xq0)] := hl
  refine lv_iload_n hx hb dX11_fault_0 rfl (lv_at hl 1 rfl) ?_
  refine lv_i2l (v := xq0.toInt64) hx hb dX11_fault_1 rfl ?_
  refine lv_lconst (v := 0) hx hb dX11_fault_2 (by decide) ?_
  refine lv_ldc2 (v := 2) hx hb hown (hts (.constantLong RX11 167 2) (by decide +kernel)) dX11_fault_3 ?_
  refine ft_csi (r := ftB (0 ≤ xq0.toInt64 ∧ xq0.toInt64 ≤ 2)) (va_runS (As := [.long xq0.toInt64, .long 0, .long 2]) (rest := []) ⟨hx, hb, hml, hown, hts⟩ (c_X11_in l D cI cS xq0.toInt64 0 2) (va_cwS 3 hts gX11_fault_X11_in rfl rfl rfl (by decide +kernel) ⟨Nat.le_of_ble_eq_true rfl, Nat.le_of_ble_eq_true rfl⟩) (ft_preRO hP hKK [] rfl) rfl rfl hl.1 rfl (lv_room (Nat.le_of_ble_eq_true rfl)) dX11_fault_6 ⟨Nat.le_of_ble_eq_true rfl, Nat.le_of_ble_eq_true rfl⟩) ?_
  refine ft_top (y := ftB (0 ≤ xq0 ∧ xq0 ≤ 2)) (ft_in64 (by decide) (by decide)) ?_
  refine lv_if_ne (tgt := 15) hx hb dX11_fault_9 (by decide) (fun c9 => ?_) (fun c9 => ?_)
  · replace c9 := ftB_ne c9
    refine lv_aload_n hx hb dX11_fault_15 rfl (lv_at hl 0 rfl) ?_
    refine ft_cxi (S := (Nat → Int32) × (Nat → Nat → Int32)) (wc := [(m0, .inr (11, [.ref p0, .ref p1, .int i2, .ref p3, .int (nI tn), .ref p5, .int i6, .int i7, .int i8, .int i9, .ref p10, .int i11, .ref p12, .ref p13, .ref p14, .int i15, .ref p16, .ref p17, .int i18, .ref p19, .ref p20, .ref p21, .ref p22, .int i23, .int i24, .ref p25, .ref p26, .ref p27, .ref p28, .ref p29, .ref p30, .ref p31, .ref p32])), (p3, .inl (cI, 120, .inl tx)), (p5, .inl (cI, 44, .inl md)), (p10, .inl (cI, 3, .inl fg))]) (wr := []) (w1 := (fun (u16 : (Nat → Int32) × (Nat → Nat → Int32)) => [(m0, .inr (11, [.ref p0, .ref p1, .int i2, .ref p3, .int (nI tn), .ref p5, .int (u16.1 0), .int (u16.1 1), .int (u16.1 2), .int (u16.1 3), .ref p10, .int (u16.1 4), .ref p12, .ref p13, .ref p14, .int i15, .ref p16, .ref p17, .int i18, .ref p19, .ref p20, .ref p21, .ref p22, .int i23, .int i24, .ref p25, .ref p26, .ref p27, .ref p28, .ref p29, .ref p30, .ref p31, .ref p32])), (p3, .inl (cI, 120, .inl tx)), (p5, .inl (cI, 44, .inl (u16.2 1))), (p10, .inl (cI, 3, .inl (u16.2 0)))])) (ws1 := (fun (u16 : (Nat → Int32) × (Nat → Nat → Int32)) => [(m0, .inr (11, [.ref p0, .ref p1, .int i2, .ref p3, .int (nI tn), .ref p5, .int (u16.1 0), .int (u16.1 1), .int (u16.1 2), .int (u16.1 3), .ref p10, .int (u16.1 4), .ref p12, .ref p13, .ref p14, .int i15, .ref p16, .ref p17, .int i18, .ref p19, .ref p20, .ref p21, .ref p22, .int i23, .int i24, .ref p25, .ref p26, .ref p27, .ref p28, .ref p29, .ref p30, .ref p31, .ref p32])), (p3, .inl (cI, 120, .inl tx)), (p5, .inl (cI, 44, .inl (u16.2 1))), (p10, .inl (cI, 3, .inl (u16.2 0)))])) (va_runV (C := RX11) (As := []) (rest := []) ⟨hx, hb, hml, hown, hts⟩ (c_X11_hasFault l D cI cS s.heap.size m0 p0 p1 p3 p5 p10 p12 p13 p14 p16 p17 p19 p20 p21 p22 p25 p26 p27 p28 p29 p30 p31 p32 i2 i6 i7 i8 i9 i11 i15 i18 i23 i24 tx md fg tn htn) (cwV 0 hts gX11_fault_X11_hasFault rfl rfl rfl (by decide +kernel) ⟨Nat.le_of_ble_eq_true rfl, Nat.le_of_ble_eq_true rfl⟩) (ft_preRWV (ci := 11) (q0 := 0) hP hD hKK [0, 1, 2, 3] rfl rfl rfl rfl rfl) rfl rfl hl.1 rfl (lv_room (Nat.le_of_ble_eq_true rfl)) dX11_fault_16 ⟨Nat.le_of_ble_eq_true rfl, Nat.le_of_ble_eq_true rfl⟩) hP hD hS hA [0, 1, 2, 3] [] [0, 1, 2, 3] rfl rfl (by decide) (by decide) (by decide) (fun _ => rfl) (fun _ => rfl) (fun o16 u16 hu16 H locs hP hD hS => ?_)
    obtain ⟨ho16, hu16⟩ := hu16
    have hpa16 := hu16
    have hP : va_P D vwCl [(m0, .inr (11, [.ref p0, .ref p1, .int i2, .ref p3, .int (nI tn), .ref p5, .int (u16.1 0), .int (u16.1 1), .int (u16.1 2), .int (u16.1 3), .ref p10, .int (u16.1 4), .ref p12, .ref p13, .ref p14, .int i15, .ref p16, .ref p17, .int i18, .ref p19, .ref p20, .ref p21, .ref p22, .int i23, .int i24, .ref p25, .ref p26, .ref p27, .ref p28, .ref p29, .ref p30, .ref p31, .ref p32])), (p3, .inl (cI, 120, .inl tx)), (p5, .inl (cI, 44, .inl (u16.2 1))), (p10, .inl (cI, 3, .inl (u16.2 0)))] H := hP
    have hD : va_D A [(m0, .inr (11, [.ref p0, .ref p1, .int i2, .ref p3, .int (nI tn), .ref p5, .int (u16.1 0), .int (u16.1 1), .int (u16.1 2), .int (u16.1 3), .ref p10, .int (u16.1 4), .ref p12, .ref p13, .ref p14, .int i15, .ref p16, .ref p17, .int i18, .ref p19, .ref p20, .ref p21, .ref p22, .int i23, .int i24, .ref p25, .ref p26, .ref p27, .ref p28, .ref p29, .ref p30, .ref p31, .ref p32])), (p3, .inl (cI, 120, .inl tx)), (p5, .inl (cI, 44, .inl (u16.2 1))), (p10, .inl (cI, 3, .inl (u16.2 0)))] := hD
    subst ho16
    refine lv_if_ne (tgt := 27) hx hb dX11_fault_19 (by decide) (fun c19 => ?_) (fun c19 => ?_)
    · replace c19 := ftB_ne c19
      have hbad : ftCPar tx tn = none := (ftPars_c tx tn md).1.mp c19
      refine lv_iload_n hx hb dX11_fault_27 rfl (lv_at hl 1 rfl) ?_
      refine lv_if_ne (tgt := 38) hx hb dX11_fault_28 (by decide) (fun c28 => ?_) (fun c28 => ?_)
      · refine lv_iload_n hx hb dX11_fault_38 rfl (lv_at hl 1 rfl) ?_
        refine lv_iconst (v := 1) hx hb dX11_fault_39 (by decide) ?_
        refine lv_icmp_ne (tgt := 50) hx hb dX11_fault_40 (by decide) (fun c40 => ?_) (fun c40 => ?_)
        · refine lv_aload_n hx hb dX11_fault_50 rfl (lv_at hl 0 rfl) ?_
          refine va_get (D := D) (ci := 11) (v := .int (u16.1 3)) (C := RX11) (T := TX11) (N := 33) hx hb hts (by decide +kernel) hown hK hP 0 rfl rfl 9 (by decide) (hts (.fieldLink RX11 139 "FiberTraceModel" "which" "I") (by decide +kernel)) (fun _ h9 => h9) rfl dX11_fault_51 ?_
          obtain ⟨u9, hu9⟩ : ∃ u9 : (Nat → Int32) × (Nat → Nat → Int32), u9 = ((fun k => match k with | 50 => (u16.1 3) | 6 => (u16.1 0) | 7 => (u16.1 1) | 8 => (u16.1 2) | 9 => (u16.1 3) | _ => (u16.1 4)), (fun k => match k with | 5 => (u16.2 1) | _ => (u16.2 0))) := ⟨_, rfl⟩
          have hw9 : ([(m0, .inr (11, [.ref p0, .ref p1, .int i2, .ref p3, .int (nI tn), .ref p5, .int (u16.1 0), .int (u16.1 1), .int (u16.1 2), .int (u16.1 3), .ref p10, .int (u16.1 4), .ref p12, .ref p13, .ref p14, .int i15, .ref p16, .ref p17, .int i18, .ref p19, .ref p20, .ref p21, .ref p22, .int i23, .int i24, .ref p25, .ref p26, .ref p27, .ref p28, .ref p29, .ref p30, .ref p31, .ref p32])), (p3, .inl (cI, 120, .inl tx)), (p5, .inl (cI, 44, .inl (u16.2 1))), (p10, .inl (cI, 3, .inl (u16.2 0)))] : va_W) = [(m0, .inr (11, [.ref p0, .ref p1, .int i2, .ref p3, .int (nI tn), .ref p5, .int (u9.1 6), .int (u9.1 7), .int (u9.1 8), .int (u9.1 9), .ref p10, .int (u9.1 11), .ref p12, .ref p13, .ref p14, .int i15, .ref p16, .ref p17, .int i18, .ref p19, .ref p20, .ref p21, .ref p22, .int i23, .int i24, .ref p25, .ref p26, .ref p27, .ref p28, .ref p29, .ref p30, .ref p31, .ref p32])), (p3, .inl (cI, 120, .inl tx)), (p5, .inl (cI, 44, .inl (u9.2 5))), (p10, .inl (cI, 3, .inl (u9.2 10)))] := by subst hu9; rfl
          rw [hw9] at hP hD
          have hf9_0 : ¬ (0 ≤ xq0 ∧ xq0 ≤ 2) → u9.1 50 = -1000001 := by rw [hu9]; intro q; first | exact absurd c9 q | rfl
          have hf9_1 : (0 ≤ xq0 ∧ xq0 ≤ 2) → ¬ ftCPar tx tn = none → u9.1 50 = -1000004 := by rw [hu9]; intro q r; first | exact absurd q c9 | exact absurd hbad r | rfl
          have hr9 : (u16.1 3 : Int32) = u9.1 50 := by subst hu9; rfl
          exact W.iret (v := u16.1 3) hx hb hr (fun t ht hW => ⟨⟨u16.1 3, u9, rfl, ⟨hr9, ⟨hf9_0, hf9_1⟩⟩, by rw [ht]; exact hP, by rw [hAe]; exact hD⟩, by rw [hAe]; exact hS.F ht⟩) hS.2.2 dX11_fault_54
        · refine lv_aload_n hx hb dX11_fault_43 rfl (lv_at hl 0 rfl) ?_
          refine va_get (D := D) (ci := 11) (v := .int (u16.1 2)) (C := RX11) (T := TX11) (N := 33) hx hb hts (by decide +kernel) hown hK hP 0 rfl rfl 8 (by decide) (hts (.fieldLink RX11 136 "FiberTraceModel" "why" "I") (by decide +kernel)) (fun _ h9 => h9) rfl dX11_fault_44 ?_
          refine lv_goto (tgt := 54) hx hb dX11_fault_47 (by decide) ?_
          obtain ⟨u9, hu9⟩ : ∃ u9 : (Nat → Int32) × (Nat → Nat → Int32), u9 = ((fun k => match k with | 50 => (u16.1 2) | 6 => (u16.1 0) | 7 => (u16.1 1) | 8 => (u16.1 2) | 9 => (u16.1 3) | _ => (u16.1 4)), (fun k => match k with | 5 => (u16.2 1) | _ => (u16.2 0))) := ⟨_, rfl⟩
          have hw9 : ([(m0, .inr (11, [.ref p0, .ref p1, .int i2, .ref p3, .int (nI tn), .ref p5, .int (u16.1 0), .int (u16.1 1), .int (u16.1 2), .int (u16.1 3), .ref p10, .int (u16.1 4), .ref p12, .ref p13, .ref p14, .int i15, .ref p16, .ref p17, .int i18, .ref p19, .ref p20, .ref p21, .ref p22, .int i23, .int i24, .ref p25, .ref p26, .ref p27, .ref p28, .ref p29, .ref p30, .ref p31, .ref p32])), (p3, .inl (cI, 120, .inl tx)), (p5, .inl (cI, 44, .inl (u16.2 1))), (p10, .inl (cI, 3, .inl (u16.2 0)))] : va_W) = [(m0, .inr (11, [.ref p0, .ref p1, .int i2, .ref p3, .int (nI tn), .ref p5, .int (u9.1 6), .int (u9.1 7), .int (u9.1 8), .int (u9.1 9), .ref p10, .int (u9.1 11), .ref p12, .ref p13, .ref p14, .int i15, .ref p16, .ref p17, .int i18, .ref p19, .ref p20, .ref p21, .ref p22, .int i23, .int i24, .ref p25, .ref p26, .ref p27, .ref p28, .ref p29, .ref p30, .ref p31, .ref p32])), (p3, .inl (cI, 120, .inl tx)), (p5, .inl (cI, 44, .inl (u9.2 5))), (p10, .inl (cI, 3, .inl (u9.2 10)))] := by subst hu9; rfl
          rw [hw9] at hP hD
          have hf9_0 : ¬ (0 ≤ xq0 ∧ xq0 ≤ 2) → u9.1 50 = -1000001 := by rw [hu9]; intro q; first | exact absurd c9 q | rfl
          have hf9_1 : (0 ≤ xq0 ∧ xq0 ≤ 2) → ¬ ftCPar tx tn = none → u9.1 50 = -1000004 := by rw [hu9]; intro q r; first | exact absurd q c9 | exact absurd hbad r | rfl
          have hr9 : (u16.1 2 : Int32) = u9.1 50 := by subst hu9; rfl
          exact W.iret (v := u16.1 2) hx hb hr (fun t ht hW => ⟨⟨u16.1 2, u9, rfl, ⟨hr9, ⟨hf9_0, hf9_1⟩⟩, by rw [ht]; exact hP, by rw [hAe]; exact hD⟩, by rw [hAe]; exact hS.F ht⟩) hS.2.2 dX11_fault_54
      · refine lv_aload_n hx hb dX11_fault_31 rfl (lv_at hl 0 rfl) ?_
        refine va_get (D := D) (ci := 11) (v := .int (u16.1 1)) (C := RX11) (T := TX11) (N := 33) hx hb hts (by decide +kernel) hown hK hP 0 rfl rfl 7 (by decide) (hts (.fieldLink RX11 161 "FiberTraceModel" "begun" "I") (by decide +kernel)) (fun _ h9 => h9) rfl dX11_fault_32 ?_
        refine lv_goto (tgt := 54) hx hb dX11_fault_35 (by decide) ?_
        obtain ⟨u9, hu9⟩ : ∃ u9 : (Nat → Int32) × (Nat → Nat → Int32), u9 = ((fun k => match k with | 50 => (u16.1 1) | 6 => (u16.1 0) | 7 => (u16.1 1) | 8 => (u16.1 2) | 9 => (u16.1 3) | _ => (u16.1 4)), (fun k => match k with | 5 => (u16.2 1) | _ => (u16.2 0))) := ⟨_, rfl⟩
        have hw9 : ([(m0, .inr (11, [.ref p0, .ref p1, .int i2, .ref p3, .int (nI tn), .ref p5, .int (u16.1 0), .int (u16.1 1), .int (u16.1 2), .int (u16.1 3), .ref p10, .int (u16.1 4), .ref p12, .ref p13, .ref p14, .int i15, .ref p16, .ref p17, .int i18, .ref p19, .ref p20, .ref p21, .ref p22, .int i23, .int i24, .ref p25, .ref p26, .ref p27, .ref p28, .ref p29, .ref p30, .ref p31, .ref p32])), (p3, .inl (cI, 120, .inl tx)), (p5, .inl (cI, 44, .inl (u16.2 1))), (p10, .inl (cI, 3, .inl (u16.2 0)))] : va_W) = [(m0, .inr (11, [.ref p0, .ref p1, .int i2, .ref p3, .int (nI tn), .ref p5, .int (u9.1 6), .int (u9.1 7), .int (u9.1 8), .int (u9.1 9), .ref p10, .int (u9.1 11), .ref p12, .ref p13, .ref p14, .int i15, .ref p16, .ref p17, .int i18, .ref p19, .ref p20, .ref p21, .ref p22, .int i23, .int i24, .ref p25, .ref p26, .ref p27, .ref p28, .ref p29, .ref p30, .ref p31, .ref p32])), (p3, .inl (cI, 120, .inl tx)), (p5, .inl (cI, 44, .inl (u9.2 5))), (p10, .inl (cI, 3, .inl (u9.2 10)))] := by subst hu9; rfl
        rw [hw9] at hP hD
        have hf9_0 : ¬ (0 ≤ xq0 ∧ xq0 ≤ 2) → u9.1 50 = -1000001 := by rw [hu9]; intro q; first | exact absurd c9 q | rfl
        have hf9_1 : (0 ≤ xq0 ∧ xq0 ≤ 2) → ¬ ftCPar tx tn = none → u9.1 50 = -1000004 := by rw [hu9]; intro q r; first | exact absurd q c9 | exact absurd hbad r | rfl
        have hr9 : (u16.1 1 : Int32) = u9.1 50 := by subst hu9; rfl
        exact W.iret (v := u16.1 1) hx hb hr (fun t ht hW => ⟨⟨u16.1 1, u9, rfl, ⟨hr9, ⟨hf9_0, hf9_1⟩⟩, by rw [ht]; exact hP, by rw [hAe]; exact hD⟩, by rw [hAe]; exact hS.F ht⟩) hS.2.2 dX11_fault_54
    · replace c19 := ftB_eq c19
      refine lv_ldc (v := (-1000004)) hx hb hown (hts (.constant RX11 173 (-1000004)) (by decide +kernel)) dX11_fault_22 ?_
      refine lv_goto (tgt := 54) hx hb dX11_fault_24 (by decide) ?_
      obtain ⟨u9, hu9⟩ : ∃ u9 : (Nat → Int32) × (Nat → Nat → Int32), u9 = ((fun k => match k with | 50 => (-1000004) | 6 => (u16.1 0) | 7 => (u16.1 1) | 8 => (u16.1 2) | 9 => (u16.1 3) | _ => (u16.1 4)), (fun k => match k with | 5 => (u16.2 1) | _ => (u16.2 0))) := ⟨_, rfl⟩
      have hw9 : ([(m0, .inr (11, [.ref p0, .ref p1, .int i2, .ref p3, .int (nI tn), .ref p5, .int (u16.1 0), .int (u16.1 1), .int (u16.1 2), .int (u16.1 3), .ref p10, .int (u16.1 4), .ref p12, .ref p13, .ref p14, .int i15, .ref p16, .ref p17, .int i18, .ref p19, .ref p20, .ref p21, .ref p22, .int i23, .int i24, .ref p25, .ref p26, .ref p27, .ref p28, .ref p29, .ref p30, .ref p31, .ref p32])), (p3, .inl (cI, 120, .inl tx)), (p5, .inl (cI, 44, .inl (u16.2 1))), (p10, .inl (cI, 3, .inl (u16.2 0)))] : va_W) = [(m0, .inr (11, [.ref p0, .ref p1, .int i2, .ref p3, .int (nI tn), .ref p5, .int (u9.1 6), .int (u9.1 7), .int (u9.1 8), .int (u9.1 9), .ref p10, .int (u9.1 11), .ref p12, .ref p13, .ref p14, .int i15, .ref p16, .ref p17, .int i18, .ref p19, .ref p20, .ref p21, .ref p22, .int i23, .int i24, .ref p25, .ref p26, .ref p27, .ref p28, .ref p29, .ref p30, .ref p31, .ref p32])), (p3, .inl (cI, 120, .inl tx)), (p5, .inl (cI, 44, .inl (u9.2 5))), (p10, .inl (cI, 3, .inl (u9.2 10)))] := by subst hu9; rfl
      rw [hw9] at hP hD
      have hf9_0 : ¬ (0 ≤ xq0 ∧ xq0 ≤ 2) → u9.1 50 = -1000001 := by rw [hu9]; intro q; first | exact absurd c9 q | rfl
      have hf9_1 : (0 ≤ xq0 ∧ xq0 ≤ 2) → ¬ ftCPar tx tn = none → u9.1 50 = -1000004 := by rw [hu9]; intro q r; first | exact absurd q c9 | exact absurd hbad r | rfl
      have hr9 : ((-1000004) : Int32) = u9.1 50 := by subst hu9; rfl
      exact W.iret (v := (-1000004)) hx hb hr (fun t ht hW => ⟨⟨(-1000004), u9, rfl, ⟨hr9, ⟨hf9_0, hf9_1⟩⟩, by rw [ht]; exact hP, by rw [hAe]; exact hD⟩, by rw [hAe]; exact hS.F ht⟩) hS.2.2 dX11_fault_54
  · replace c9 := ftB_eq c9
    refine lv_ldc (v := (-1000001)) hx hb hown (hts (.constant RX11 95 (-1000001)) (by decide +kernel)) dX11_fault_12 ?_
    obtain ⟨u9, hu9⟩ : ∃ u9 : (Nat → Int32) × (Nat → Nat → Int32), u9 = ((fun k => match k with | 50 => (-1000001) | 6 => i6 | 7 => i7 | 8 => i8 | 9 => i9 | _ => i11), (fun k => match k with | 5 => md | _ => fg)) := ⟨_, rfl⟩
    have hw9 : ([(m0, .inr (11, [.ref p0, .ref p1, .int i2, .ref p3, .int (nI tn), .ref p5, .int i6, .int i7, .int i8, .int i9, .ref p10, .int i11, .ref p12, .ref p13, .ref p14, .int i15, .ref p16, .ref p17, .int i18, .ref p19, .ref p20, .ref p21, .ref p22, .int i23, .int i24, .ref p25, .ref p26, .ref p27, .ref p28, .ref p29, .ref p30, .ref p31, .ref p32])), (p3, .inl (cI, 120, .inl tx)), (p5, .inl (cI, 44, .inl md)), (p10, .inl (cI, 3, .inl fg))] : va_W) = [(m0, .inr (11, [.ref p0, .ref p1, .int i2, .ref p3, .int (nI tn), .ref p5, .int (u9.1 6), .int (u9.1 7), .int (u9.1 8), .int (u9.1 9), .ref p10, .int (u9.1 11), .ref p12, .ref p13, .ref p14, .int i15, .ref p16, .ref p17, .int i18, .ref p19, .ref p20, .ref p21, .ref p22, .int i23, .int i24, .ref p25, .ref p26, .ref p27, .ref p28, .ref p29, .ref p30, .ref p31, .ref p32])), (p3, .inl (cI, 120, .inl tx)), (p5, .inl (cI, 44, .inl (u9.2 5))), (p10, .inl (cI, 3, .inl (u9.2 10)))] := by subst hu9; rfl
    rw [hw9] at hP hD
    have hf9_0 : ¬ (0 ≤ xq0 ∧ xq0 ≤ 2) → u9.1 50 = -1000001 := by rw [hu9]; intro q; first | exact absurd c9 q | rfl
    have hf9_1 : (0 ≤ xq0 ∧ xq0 ≤ 2) → ¬ ftCPar tx tn = none → u9.1 50 = -1000004 := by rw [hu9]; intro q r; first | exact absurd q c9 | exact absurd hbad r | rfl
    have hr9 : ((-1000001) : Int32) = u9.1 50 := by subst hu9; rfl
    exact W.iret (v := (-1000001)) hx hb hr (fun t ht hW => ⟨⟨(-1000001), u9, rfl, ⟨hr9, ⟨hf9_0, hf9_1⟩⟩, by rw [ht]; exact hP, by rw [hAe]; exact hD⟩, by rw [hAe]; exact hS.F ht⟩) hS.2.2 dX11_fault_14
set_option maxHeartbeats 4000000 in
set_option maxRecDepth 100000 in
theorem c_X11_keep (l : Launch) (D : va_G) (cI cS : ClassId) (sz : Nat) (m0 p0 p1 p3 p5 p10 p12 p13 p14 p16 p17 p19 p20 p21 p22 p25 p26 p27 p28 p29 p30 p31 p32 : Nat) (i4 i6 i7 i8 i9 i11 i15 i18 i23 i24 : Int32) (w fb fp fn fa fh ga gh g1 g2 z : Nat → Int32) (hm : Nat) (hwf : ftWf w) (hhm : hm ≤ 5) : Met l yX11_keep wsX11_keep ({ frames := 3, cells := 0, slots := 0, locals := 72 }) (ftRW D cI cS [.ref m0] [(m0, .inr (11, [.ref p0, .ref p1, .int (nI hm), .ref p3, .int i4, .ref p5, .int i6, .int i7, .int i8, .int i9, .ref p10, .int i11, .ref p12, .ref p13, .ref p14, .int i15, .ref p16, .ref p17, .int i18, .ref p19, .ref p20, .ref p21, .ref p22, .int i23, .int i24, .ref p25, .ref p26, .ref p27, .ref p28, .ref p29, .ref p30, .ref p31, .ref p32])), (p0, .inl (cI, 1439, .inl w)), (p12, .inl (cI, 460, .inl fb)), (p13, .inl (cI, 460, .inl fp)), (p14, .inl (cI, 460, .inl fn)), (p16, .inl (cI, 11, .inl fa)), (p17, .inl (cI, 11, .inl fh)), (p19, .inl (cI, 55, .inl ga)), (p20, .inl (cI, 55, .inl gh)), (p21, .inl (cI, 55, .inl g1)), (p22, .inl (cI, 55, .inl g2)), (p1, .inl (cI, 7195, .inl z))] sz) (ftXi D [(m0, .inr (11, [.ref p0, .ref p1, .int (nI hm), .ref p3, .int i4, .ref p5, .int i6, .int i7, .int i8, .int i9, .ref p10, .int i11, .ref p12, .ref p13, .ref p14, .int i15, .ref p16, .ref p17, .int i18, .ref p19, .ref p20, .ref p21, .ref p22, .int i23, .int i24, .ref p25, .ref p26, .ref p27, .ref p28, .ref p29, .ref p30, .ref p31, .ref p32])), (p0, .inl (cI, 1439, .inl w)), (p12, .inl (cI, 460, .inl fb)), (p13, .inl (cI, 460, .inl fp)), (p14, .inl (cI, 460, .inl fn)), (p16, .inl (cI, 11, .inl fa)), (p17, .inl (cI, 11, .inl fh)), (p19, .inl (cI, 55, .inl ga)), (p20, .inl (cI, 55, .inl gh)), (p21, .inl (cI, 55, .inl g1)), (p22, .inl (cI, 55, .inl g2)), (p1, .inl (cI, 7195, .inl z))] sz (fun (o9 : Int32) (u : (Nat → Int32) × (Nat → Nat → Int32)) => o9 = nI (ftKk w + 1) ∧ True) (fun (u : (Nat → Int32) × (Nat → Nat → Int32)) => [(m0, .inr (11, [.ref p0, .ref p1, .int (nI (min (hm + 1) 5)), .ref p3, .int i4, .ref p5, .int i6, .int i7, .int i8, .int i9, .ref p10, .int i11, .ref p12, .ref p13, .ref p14, .int (u.1 15), .ref p16, .ref p17, .int (u.1 18), .ref p19, .ref p20, .ref p21, .ref p22, .int i23, .int i24, .ref p25, .ref p26, .ref p27, .ref p28, .ref p29, .ref p30, .ref p31, .ref p32])), (p0, .inl (cI, 1439, .inl (ftKeep w))), (p12, .inl (cI, 460, .inl (u.2 12))), (p13, .inl (cI, 460, .inl (u.2 13))), (p14, .inl (cI, 460, .inl (u.2 14))), (p16, .inl (cI, 11, .inl (u.2 16))), (p17, .inl (cI, 11, .inl (u.2 17))), (p19, .inl (cI, 55, .inl (u.2 19))), (p20, .inl (cI, 55, .inl (u.2 20))), (p21, .inl (cI, 55, .inl (u.2 21))), (p22, .inl (cI, 55, .inl (u.2 22))), (p1, .inl (cI, 7195, .inl (ftPush w z hm)))])) 0 0 (va_A [(m0, .inr (11, [.ref p0, .ref p1, .int (nI hm), .ref p3, .int i4, .ref p5, .int i6, .int i7, .int i8, .int i9, .ref p10, .int i11, .ref p12, .ref p13, .ref p14, .int i15, .ref p16, .ref p17, .int i18, .ref p19, .ref p20, .ref p21, .ref p22, .int i23, .int i24, .ref p25, .ref p26, .ref p27, .ref p28, .ref p29, .ref p30, .ref p31, .ref p32])), (p0, .inl (cI, 1439, .inl w)), (p12, .inl (cI, 460, .inl fb)), (p13, .inl (cI, 460, .inl fp)), (p14, .inl (cI, 460, .inl fn)), (p16, .inl (cI, 11, .inl fa)), (p17, .inl (cI, 11, .inl fh)), (p19, .inl (cI, 55, .inl ga)), (p20, .inl (cI, 55, .inl gh)), (p21, .inl (cI, 55, .inl g1)), (p22, .inl (cI, 55, .inl g2)), (p1, .inl (cI, 7195, .inl z))] sz) := by
  refine Met.ofW (cc := cX11_keep) (maxL := 3) (ret := (some .int)) (by decide) rfl ?_
  intro p e s m args below meth c s₁ B hml hv
  obtain ⟨rfl, hsz, hP, hKK, hD0⟩ := hv
  have hK := hKK.1
  have hx := B.exec
  have hb := B.bytes
  have hr := B.returns
  have hts := atoms_spec (ws := wsX11_keep) B.pre
  have hown : s.vm.findClass RX11 = some m.cls := findClass_of_methodNamed B.named
  have hlocks := B.notSynchronized
  subst hsz
  have hD := hD0.self (sz := s.heap.size)
  generalize hAe : va_A [(m0, .inr (11, [.ref p0, .ref p1, .int (nI hm), .ref p3, .int i4, .ref p5, .int i6, .int i7, .int i8, .int i9, .ref p10, .int i11, .ref p12, .ref p13, .ref p14, .int i15, .ref p16, .ref p17, .int i18, .ref p19, .ref p20, .ref p21, .ref p22, .int i23, .int i24, .ref p25, .ref p26, .ref p27, .ref p28, .ref p29, .ref p30, .ref p31, .ref p32])), (p0, .inl (cI, 1439, .inl w)), (p12, .inl (cI, 460, .inl fb)), (p13, .inl (cI, 460, .inl fp)), (p14, .inl (cI, 460, .inl fn)), (p16, .inl (cI, 11, .inl fa)), (p17, .inl (cI, 11, .inl fh)), (p19, .inl (cI, 55, .inl ga)), (p20, .inl (cI, 55, .inl gh)), (p21, .inl (cI, 55, .inl g1)), (p22, .inl (cI, 55, .inl g2)), (p1, .inl (cI, 7195, .inl z))] s.heap.size = A at hD ⊢
  have hA : ∀ q : Nat, s.heap.size ≤ q → A q := fun q h => by rw [← hAe]; exact Or.inr h
  have hS : va_S A s.heap s.heap [] := va_S.rf
  have hD : va_D A [(m0, .inr (11, [.ref p0, .ref p1, .int (nI hm), .ref p3, .int i4, .ref p5, .int i6, .int i7, .int i8, .int i9, .ref p10, .int i11, .ref p12, .ref p13, .ref p14, .int i15, .ref p16, .ref p17, .int i18, .ref p19, .ref p20, .ref p21, .ref p22, .int i23, .int i24, .ref p25, .ref p26, .ref p27, .ref p28, .ref p29, .ref p30, .ref p31, .ref p32])), (p0, .inl (cI, 1439, .inl w)), (p12, .inl (cI, 460, .inl fb)), (p13, .inl (cI, 460, .inl fp)), (p14, .inl (cI, 460, .inl fn)), (p16, .inl (cI, 11, .inl fa)), (p17, .inl (cI, 11, .inl fh)), (p19, .inl (cI, 55, .inl ga)), (p20, .inl (cI, 55, .inl gh)), (p21, .inl (cI, 55, .inl g1)), (p22, .inl (cI, 55, .inl g2)), (p1, .inl (cI, 7195, .inl z))] := hD
  have hP : va_P D vwCl [(m0, .inr (11, [.ref p0, .ref p1, .int (nI hm), .ref p3, .int i4, .ref p5, .int i6, .int i7, .int i8, .int i9, .ref p10, .int i11, .ref p12, .ref p13, .ref p14, .int i15, .ref p16, .ref p17, .int i18, .ref p19, .ref p20, .ref p21, .ref p22, .int i23, .int i24, .ref p25, .ref p26, .ref p27, .ref p28, .ref p29, .ref p30, .ref p31, .ref p32])), (p0, .inl (cI, 1439, .inl w)), (p12, .inl (cI, 460, .inl fb)), (p13, .inl (cI, 460, .inl fp)), (p14, .inl (cI, 460, .inl fn)), (p16, .inl (cI, 11, .inl fa)), (p17, .inl (cI, 11, .inl fh)), (p19, .inl (cI, 55, .inl ga)), (p20, .inl (cI, 55, .inl gh)), (p21, .inl (cI, 55, .inl g1)), (p22, .inl (cI, 55, .inl g2)), (p1, .inl (cI, 7195, .inl z))] s.heap := hP
  have hl := lv_entry ([.ref m0]) (n := 3) (Nat.le_of_ble_eq_true rfl)
  rw [lg_entry_eq]
  generalize (lg_sl ([.ref m0]) ++ List.replicate (3 - (lg_sl ([.ref m0])).length) Slot.unset).toArray = ls at hl ⊢
  have hl : lv_has ls 3 [(0, .ref m0)] := hl
  have hw3 := ftWf_3 hwf
  have hn := ftWf_n hwf
  have hw0 := ftWf_0 hwf
  have hln := ftWf_ln hwf
  have hlg := ftWf_lg hwf
  have hkp := ftWf_kp hwf
  have h55 := ftWf_55 hwf
  refine lv_aload_n hx hb dX11_keep_0 rfl (lv_at hl 0 rfl) ?_
  refine ft_cv (wc := [(m0, .inr (11, [.ref p0, .ref p1, .int (nI hm), .ref p3, .int i4, .ref p5, .int i6, .int i7, .int i8, .int i9, .ref p10, .int i11, .ref p12, .ref p13, .ref p14, .int i15, .ref p16, .ref p17, .int i18, .ref p19, .ref p20, .ref p21, .ref p22, .int i23, .int i24, .ref p25, .ref p26, .ref p27, .ref p28, .ref p29, .ref p30, .ref p31, .ref p32])), (p0, .inl (cI, 1439, .inl w)), (p1, .inl (cI, 7195, .inl z))]) (wr := [(p12, .inl (cI, 460, .inl fb)), (p13, .inl (cI, 460, .inl fp)), (p14, .inl (cI, 460, .inl fn)), (p16, .inl (cI, 11, .inl fa)), (p17, .inl (cI, 11, .inl fh)), (p19, .inl (cI, 55, .inl ga)), (p20, .inl (cI, 55, .inl gh)), (p21, .inl (cI, 55, .inl g1)), (p22, .inl (cI, 55, .inl g2))]) (w1 := [(m0, .inr (11, [.ref p0, .ref p1, .int (nI (min (hm + 1) 5)), .ref p3, .int i4, .ref p5, .int i6, .int i7, .int i8, .int i9, .ref p10, .int i11, .ref p12, .ref p13, .ref p14, .int i15, .ref p16, .ref p17, .int i18, .ref p19, .ref p20, .ref p21, .ref p22, .int i23, .int i24, .ref p25, .ref p26, .ref p27, .ref p28, .ref p29, .ref p30, .ref p31, .ref p32])), (p0, .inl (cI, 1439, .inl w)), (p1, .inl (cI, 7195, .inl (ftPush w z hm)))]) (ws1 := [(m0, .inr (11, [.ref p0, .ref p1, .int (nI (min (hm + 1) 5)), .ref p3, .int i4, .ref p5, .int i6, .int i7, .int i8, .int i9, .ref p10, .int i11, .ref p12, .ref p13, .ref p14, .int i15, .ref p16, .ref p17, .int i18, .ref p19, .ref p20, .ref p21, .ref p22, .int i23, .int i24, .ref p25, .ref p26, .ref p27, .ref p28, .ref p29, .ref p30, .ref p31, .ref p32])), (p0, .inl (cI, 1439, .inl w)), (p12, .inl (cI, 460, .inl fb)), (p13, .inl (cI, 460, .inl fp)), (p14, .inl (cI, 460, .inl fn)), (p16, .inl (cI, 11, .inl fa)), (p17, .inl (cI, 11, .inl fh)), (p19, .inl (cI, 55, .inl ga)), (p20, .inl (cI, 55, .inl gh)), (p21, .inl (cI, 55, .inl g1)), (p22, .inl (cI, 55, .inl g2)), (p1, .inl (cI, 7195, .inl (ftPush w z hm)))]) (va_runV (C := RX11) (As := []) (rest := []) ⟨hx, hb, hml, hown, hts⟩ (c_X11_change l D cI cS s.heap.size m0 p0 p1 p3 p5 p10 p12 p13 p14 p16 p17 p19 p20 p21 p22 p25 p26 p27 p28 p29 p30 p31 p32 i4 i6 i7 i8 i9 i11 i15 i18 i23 i24 w z hm hhm) (cwV 0 hts gX11_keep_X11_change rfl rfl rfl (by decide +kernel) ⟨Nat.le_of_ble_eq_true rfl, Nat.le_of_ble_eq_true rfl⟩) (ft_preRWV (ci := 11) (q0 := 0) hP hD hKK [0, 1, 11] rfl rfl rfl rfl rfl) rfl rfl hl.1 rfl (lv_room (Nat.le_of_ble_eq_true rfl)) dX11_keep_1 ⟨Nat.le_of_ble_eq_true rfl, Nat.le_of_ble_eq_true rfl⟩) hP hD hS hA [0, 1, 11] [2, 3, 4, 5, 6, 7, 8, 9, 10] [9, 10, 0, 1, 2, 3, 4, 5, 6, 7, 8, 11] rfl rfl (by decide) (by decide) (by decide) rfl rfl (fun H locs hP hD hS => ?_)
  have hP : va_P D vwCl [(m0, .inr (11, [.ref p0, .ref p1, .int (nI (min (hm + 1) 5)), .ref p3, .int i4, .ref p5, .int i6, .int i7, .int i8, .int i9, .ref p10, .int i11, .ref p12, .ref p13, .ref p14, .int i15, .ref p16, .ref p17, .int i18, .ref p19, .ref p20, .ref p21, .ref p22, .int i23, .int i24, .ref p25, .ref p26, .ref p27, .ref p28, .ref p29, .ref p30, .ref p31, .ref p32])), (p0, .inl (cI, 1439, .inl w)), (p12, .inl (cI, 460, .inl fb)), (p13, .inl (cI, 460, .inl fp)), (p14, .inl (cI, 460, .inl fn)), (p16, .inl (cI, 11, .inl fa)), (p17, .inl (cI, 11, .inl fh)), (p19, .inl (cI, 55, .inl ga)), (p20, .inl (cI, 55, .inl gh)), (p21, .inl (cI, 55, .inl g1)), (p22, .inl (cI, 55, .inl g2)), (p1, .inl (cI, 7195, .inl (ftPush w z hm)))] H := hP
  have hD : va_D A [(m0, .inr (11, [.ref p0, .ref p1, .int (nI (min (hm + 1) 5)), .ref p3, .int i4, .ref p5, .int i6, .int i7, .int i8, .int i9, .ref p10, .int i11, .ref p12, .ref p13, .ref p14, .int i15, .ref p16, .ref p17, .int i18, .ref p19, .ref p20, .ref p21, .ref p22, .int i23, .int i24, .ref p25, .ref p26, .ref p27, .ref p28, .ref p29, .ref p30, .ref p31, .ref p32])), (p0, .inl (cI, 1439, .inl w)), (p12, .inl (cI, 460, .inl fb)), (p13, .inl (cI, 460, .inl fp)), (p14, .inl (cI, 460, .inl fn)), (p16, .inl (cI, 11, .inl fa)), (p17, .inl (cI, 11, .inl fh)), (p19, .inl (cI, 55, .inl ga)), (p20, .inl (cI, 55, .inl gh)), (p21, .inl (cI, 55, .inl g1)), (p22, .inl (cI, 55, .inl g2)), (p1, .inl (cI, 7195, .inl (ftPush w z hm)))] := hD
  refine lv_aload_n hx hb dX11_keep_4 rfl (lv_at hl 0 rfl) ?_
  refine ft_cxv (S := Nat → Nat → Int32) (wc := [(m0, .inr (11, [.ref p0, .ref p1, .int (nI (min (hm + 1) 5)), .ref p3, .int i4, .ref p5, .int i6, .int i7, .int i8, .int i9, .ref p10, .int i11, .ref p12, .ref p13, .ref p14, .int i15, .ref p16, .ref p17, .int i18, .ref p19, .ref p20, .ref p21, .ref p22, .int i23, .int i24, .ref p25, .ref p26, .ref p27, .ref p28, .ref p29, .ref p30, .ref p31, .ref p32])), (p0, .inl (cI, 1439, .inl w)), (p12, .inl (cI, 460, .inl fb)), (p13, .inl (cI, 460, .inl fp)), (p14, .inl (cI, 460, .inl fn)), (p16, .inl (cI, 11, .inl fa)), (p17, .inl (cI, 11, .inl fh)), (p19, .inl (cI, 55, .inl ga)), (p20, .inl (cI, 55, .inl gh)), (p21, .inl (cI, 55, .inl g1)), (p22, .inl (cI, 55, .inl g2))]) (wr := [(p1, .inl (cI, 7195, .inl (ftPush w z hm)))]) (w1 := (fun (u5 : Nat → Nat → Int32) => [(m0, .inr (11, [.ref p0, .ref p1, .int (nI (min (hm + 1) 5)), .ref p3, .int i4, .ref p5, .int i6, .int i7, .int i8, .int i9, .ref p10, .int i11, .ref p12, .ref p13, .ref p14, .int (nI (ftCF w).1), .ref p16, .ref p17, .int (nI (ftCG w).1), .ref p19, .ref p20, .ref p21, .ref p22, .int i23, .int i24, .ref p25, .ref p26, .ref p27, .ref p28, .ref p29, .ref p30, .ref p31, .ref p32])), (p0, .inl (cI, 1439, .inl w)), (p12, .inl (cI, 460, .inl (u5 12))), (p13, .inl (cI, 460, .inl (u5 13))), (p14, .inl (cI, 460, .inl (u5 14))), (p16, .inl (cI, 11, .inl (u5 16))), (p17, .inl (cI, 11, .inl (u5 17))), (p19, .inl (cI, 55, .inl (u5 19))), (p20, .inl (cI, 55, .inl (u5 20))), (p21, .inl (cI, 55, .inl (u5 21))), (p22, .inl (cI, 55, .inl (u5 22)))])) (ws1 := (fun (u5 : Nat → Nat → Int32) => [(m0, .inr (11, [.ref p0, .ref p1, .int (nI (min (hm + 1) 5)), .ref p3, .int i4, .ref p5, .int i6, .int i7, .int i8, .int i9, .ref p10, .int i11, .ref p12, .ref p13, .ref p14, .int (nI (ftCF w).1), .ref p16, .ref p17, .int (nI (ftCG w).1), .ref p19, .ref p20, .ref p21, .ref p22, .int i23, .int i24, .ref p25, .ref p26, .ref p27, .ref p28, .ref p29, .ref p30, .ref p31, .ref p32])), (p0, .inl (cI, 1439, .inl w)), (p12, .inl (cI, 460, .inl (u5 12))), (p13, .inl (cI, 460, .inl (u5 13))), (p14, .inl (cI, 460, .inl (u5 14))), (p16, .inl (cI, 11, .inl (u5 16))), (p17, .inl (cI, 11, .inl (u5 17))), (p19, .inl (cI, 55, .inl (u5 19))), (p20, .inl (cI, 55, .inl (u5 20))), (p21, .inl (cI, 55, .inl (u5 21))), (p22, .inl (cI, 55, .inl (u5 22))), (p1, .inl (cI, 7195, .inl (ftPush w z hm)))])) (va_runV (C := RX11) (As := []) (rest := []) ⟨hx, hb, hml, hown, hts⟩ (c_X11_layTracex l D cI cS H.size m0 p0 p1 p3 p5 p10 p12 p13 p14 p16 p17 p19 p20 p21 p22 p25 p26 p27 p28 p29 p30 p31 p32 (nI (min (hm + 1) 5)) i4 i6 i7 i8 i9 i11 i15 i18 i23 i24 w fb fp fn fa fh ga gh g1 g2 (by first | assumption | omega)) (cwV 0 hts gX11_keep_X11_layTrace rfl rfl rfl (by decide +kernel) ⟨Nat.le_of_ble_eq_true rfl, Nat.le_of_ble_eq_true rfl⟩) (ft_preRWV (ci := 11) (q0 := 0) hP hD hKK [0, 1, 2, 3, 4, 5, 6, 7, 8, 9, 10] rfl rfl rfl rfl rfl) rfl rfl hl.1 rfl (lv_room (Nat.le_of_ble_eq_true rfl)) dX11_keep_5 ⟨Nat.le_of_ble_eq_true rfl, Nat.le_of_ble_eq_true rfl⟩) hP hD hS hA [0, 1, 2, 3, 4, 5, 6, 7, 8, 9, 10] [11] [1, 2, 3, 4, 5, 6, 7, 8, 9, 10, 11, 0] rfl rfl (by decide) (by decide) (by decide) (fun _ => rfl) (fun _ => rfl) (fun u5 hu5 H locs hP hD hS => ?_)
  obtain ⟨hb5, hg5⟩ := hu5
  have hP : va_P D vwCl [(m0, .inr (11, [.ref p0, .ref p1, .int (nI (min (hm + 1) 5)), .ref p3, .int i4, .ref p5, .int i6, .int i7, .int i8, .int i9, .ref p10, .int i11, .ref p12, .ref p13, .ref p14, .int (nI (ftCF w).1), .ref p16, .ref p17, .int (nI (ftCG w).1), .ref p19, .ref p20, .ref p21, .ref p22, .int i23, .int i24, .ref p25, .ref p26, .ref p27, .ref p28, .ref p29, .ref p30, .ref p31, .ref p32])), (p0, .inl (cI, 1439, .inl w)), (p12, .inl (cI, 460, .inl (u5 12))), (p13, .inl (cI, 460, .inl (u5 13))), (p14, .inl (cI, 460, .inl (u5 14))), (p16, .inl (cI, 11, .inl (u5 16))), (p17, .inl (cI, 11, .inl (u5 17))), (p19, .inl (cI, 55, .inl (u5 19))), (p20, .inl (cI, 55, .inl (u5 20))), (p21, .inl (cI, 55, .inl (u5 21))), (p22, .inl (cI, 55, .inl (u5 22))), (p1, .inl (cI, 7195, .inl (ftPush w z hm)))] H := hP
  have hD : va_D A [(m0, .inr (11, [.ref p0, .ref p1, .int (nI (min (hm + 1) 5)), .ref p3, .int i4, .ref p5, .int i6, .int i7, .int i8, .int i9, .ref p10, .int i11, .ref p12, .ref p13, .ref p14, .int (nI (ftCF w).1), .ref p16, .ref p17, .int (nI (ftCG w).1), .ref p19, .ref p20, .ref p21, .ref p22, .int i23, .int i24, .ref p25, .ref p26, .ref p27, .ref p28, .ref p29, .ref p30, .ref p31, .ref p32])), (p0, .inl (cI, 1439, .inl w)), (p12, .inl (cI, 460, .inl (u5 12))), (p13, .inl (cI, 460, .inl (u5 13))), (p14, .inl (cI, 460, .inl (u5 14))), (p16, .inl (cI, 11, .inl (u5 16))), (p17, .inl (cI, 11, .inl (u5 17))), (p19, .inl (cI, 55, .inl (u5 19))), (p20, .inl (cI, 55, .inl (u5 20))), (p21, .inl (cI, 55, .inl (u5 21))), (p22, .inl (cI, 55, .inl (u5 22))), (p1, .inl (cI, 7195, .inl (ftPush w z hm)))] := hD
  refine lv_aload_n hx hb dX11_keep_8 rfl (lv_at hl 0 rfl) ?_
  refine va_get (D := D) (ci := 11) (v := .ref p0) (C := RX11) (T := TX11) (N := 33) hx hb hts (by decide +kernel) hown hK hP 0 rfl rfl 0 (by decide) (hts (.fieldLink RX11 7 "FiberTraceModel" "now" "[I") (by decide +kernel)) (fun _ h9 => h9) rfl dX11_keep_9 ?_
  refine lv_bipush (v := 55) hx hb dX11_keep_12 (by decide) ?_
  refine va_iald hx hb hK hP 1 0 rfl rfl (vp_in_nI (n := 55) (by omega) (by omega)) dX11_keep_14 ?_
  refine ft_top (y := w 55) rfl ?_
  refine lv_iconst (v := 3) hx hb dX11_keep_15 (by decide) ?_
  refine lv_icmp_ne (tgt := 87) hx hb dX11_keep_16 (by decide) (fun c16 => ?_) (fun c16 => ?_)
  · have hck : ftCK w ≠ 3 := fun r => c16 (by rw [h55, r]; rfl)
    have hks : ftKs w = w := if_neg hck
    have hkk : ftKk w = ftCK w := if_neg hck
    have hks55 : ftKs w 55 = nI (ftKk w) := by rw [hks, hkk]; exact h55
    have hkk3 : ftKk w ≤ 2 := by omega
    have hk0 : ∀ (f : Nat → Int32) (X : Nat), ftSeg f (ftKs w) (59 + 460 * ftKk w) X 0 = nI (ftCL w) := fun f X => by rw [ftSeg_lo (by omega), ftKs_lo (by omega)]; exact hw0
    refine lv_bipush (v := 59) hx hb dX11_keep_87 (by decide) ?_
    refine lv_sipush (v := 460) hx hb dX11_keep_89 (by decide) ?_
    refine lv_aload_n hx hb dX11_keep_92 rfl (lv_at hl 0 rfl) ?_
    refine va_get (D := D) (ci := 11) (v := .ref p0) (C := RX11) (T := TX11) (N := 33) hx hb hts (by decide +kernel) hown hK hP 0 rfl rfl 0 (by decide) (hts (.fieldLink RX11 7 "FiberTraceModel" "now" "[I") (by decide +kernel)) (fun _ h9 => h9) rfl dX11_keep_93 ?_
    refine lv_bipush (v := 55) hx hb dX11_keep_96 (by decide) ?_
    refine va_iald hx hb hK hP 1 0 rfl rfl (vp_in_nI (n := 55) (by omega) (by omega)) dX11_keep_98 ?_
    refine ft_top (y := w 55) rfl ?_
    refine ft_top (y := nI (ftKk w)) (by rw [hkk]; first | exact h55 | rfl) ?_
    refine lv_imul hx hb dX11_keep_99 ?_
    refine ft_top (y := nI (460 * (ftKk w))) (ft_mulN 460 (ftKk w)) ?_
    refine lv_iadd hx hb dX11_keep_100 ?_
    refine ft_top (y := nI (59 + (460 * (ftKk w)))) (ft_addN 59 (460 * (ftKk w))) ?_
    refine lv_istore_n (lv' := [(1, .int (nI (59 + (460 * (ftKk w))))), (0, .ref m0)]) hx hb dX11_keep_101 rfl hl (by decide) rfl (fun ls hl => ?_)
    refine lv_iconst (v := 0) hx hb dX11_keep_102 (by decide) ?_
    refine lv_istore_n (lv' := [(2, .int 0), (1, .int (nI (59 + (460 * (ftKk w))))), (0, .ref m0)]) hx hb dX11_keep_103 rfl hl (by decide) rfl (fun ls hl => ?_)
    have lp104 : ∀ (n104 : Nat) (x : Nat) (x104_2 : Int32) (g104_p0 : Nat → Int32), ftCL w + 60 - x < n104 → (x ≤ ftCL w + 60) → x104_2 = nI x → g104_p0 = ftSeg (ftCV w) (ftKs w) (59 + 460 * ftKk w) x → ∀ (H : Heap) (locs : List Loc), va_P D vwCl [(m0, .inr (11, [.ref p0, .ref p1, .int (nI (min (hm + 1) 5)), .ref p3, .int i4, .ref p5, .int i6, .int i7, .int i8, .int i9, .ref p10, .int i11, .ref p12, .ref p13, .ref p14, .int (nI (ftCF w).1), .ref p16, .ref p17, .int (nI (ftCG w).1), .ref p19, .ref p20, .ref p21, .ref p22, .int i23, .int i24, .ref p25, .ref p26, .ref p27, .ref p28, .ref p29, .ref p30, .ref p31, .ref p32])), (p0, .inl (cI, 1439, .inl g104_p0)), (p12, .inl (cI, 460, .inl (u5 12))), (p13, .inl (cI, 460, .inl (u5 13))), (p14, .inl (cI, 460, .inl (u5 14))), (p16, .inl (cI, 11, .inl (u5 16))), (p17, .inl (cI, 11, .inl (u5 17))), (p19, .inl (cI, 55, .inl (u5 19))), (p20, .inl (cI, 55, .inl (u5 20))), (p21, .inl (cI, 55, .inl (u5 21))), (p22, .inl (cI, 55, .inl (u5 22))), (p1, .inl (cI, 7195, .inl (ftPush w z hm)))] H → va_D A [(m0, .inr (11, [.ref p0, .ref p1, .int (nI (min (hm + 1) 5)), .ref p3, .int i4, .ref p5, .int i6, .int i7, .int i8, .int i9, .ref p10, .int i11, .ref p12, .ref p13, .ref p14, .int (nI (ftCF w).1), .ref p16, .ref p17, .int (nI (ftCG w).1), .ref p19, .ref p20, .ref p21, .ref p22, .int i23, .int i24, .ref p25, .ref p26, .ref p27, .ref p28, .ref p29, .ref p30, .ref p31, .ref p32])), (p0, .inl (cI, 1439, .inl g104_p0)), (p12, .inl (cI, 460, .inl (u5 12))), (p13, .inl (cI, 460, .inl (u5 13))), (p14, .inl (cI, 460, .inl (u5 14))), (p16, .inl (cI, 11, .inl (u5 16))), (p17, .inl (cI, 11, .inl (u5 17))), (p19, .inl (cI, 55, .inl (u5 19))), (p20, .inl (cI, 55, .inl (u5 20))), (p21, .inl (cI, 55, .inl (u5 21))), (p22, .inl (cI, 55, .inl (u5 22))), (p1, .inl (cI, 7195, .inl (ftPush w z hm)))] → va_S A s.heap H locs → ∀ ls : Array Slot, lv_has ls 3 [(0, .ref m0), (1, .int (nI (59 + (460 * (ftKk w))))), (2, .int x104_2)] → W p l e (headSpec wsX11_keep { frames := 3, cells := 0, slots := 0, locals := 72 }).room s m ([.ref m0] : List Value).toArray below meth c H locs 0 0 (MQ below (ftXi D [(m0, .inr (11, [.ref p0, .ref p1, .int (nI hm), .ref p3, .int i4, .ref p5, .int i6, .int i7, .int i8, .int i9, .ref p10, .int i11, .ref p12, .ref p13, .ref p14, .int i15, .ref p16, .ref p17, .int i18, .ref p19, .ref p20, .ref p21, .ref p22, .int i23, .int i24, .ref p25, .ref p26, .ref p27, .ref p28, .ref p29, .ref p30, .ref p31, .ref p32])), (p0, .inl (cI, 1439, .inl w)), (p12, .inl (cI, 460, .inl fb)), (p13, .inl (cI, 460, .inl fp)), (p14, .inl (cI, 460, .inl fn)), (p16, .inl (cI, 11, .inl fa)), (p17, .inl (cI, 11, .inl fh)), (p19, .inl (cI, 55, .inl ga)), (p20, .inl (cI, 55, .inl gh)), (p21, .inl (cI, 55, .inl g1)), (p22, .inl (cI, 55, .inl g2)), (p1, .inl (cI, 7195, .inl z))] s.heap.size (fun (o9 : Int32) (u : (Nat → Int32) × (Nat → Nat → Int32)) => o9 = nI (ftKk w + 1) ∧ True) (fun (u : (Nat → Int32) × (Nat → Nat → Int32)) => [(m0, .inr (11, [.ref p0, .ref p1, .int (nI (min (hm + 1) 5)), .ref p3, .int i4, .ref p5, .int i6, .int i7, .int i8, .int i9, .ref p10, .int i11, .ref p12, .ref p13, .ref p14, .int (u.1 15), .ref p16, .ref p17, .int (u.1 18), .ref p19, .ref p20, .ref p21, .ref p22, .int i23, .int i24, .ref p25, .ref p26, .ref p27, .ref p28, .ref p29, .ref p30, .ref p31, .ref p32])), (p0, .inl (cI, 1439, .inl (ftKeep w))), (p12, .inl (cI, 460, .inl (u.2 12))), (p13, .inl (cI, 460, .inl (u.2 13))), (p14, .inl (cI, 460, .inl (u.2 14))), (p16, .inl (cI, 11, .inl (u.2 16))), (p17, .inl (cI, 11, .inl (u.2 17))), (p19, .inl (cI, 55, .inl (u.2 19))), (p20, .inl (cI, 55, .inl (u.2 20))), (p21, .inl (cI, 55, .inl (u.2 21))), (p22, .inl (cI, 55, .inl (u.2 22))), (p1, .inl (cI, 7195, .inl (ftPush w z hm)))])) ([.ref m0] : List Value).toArray s 0 0 A) (F0 m 104 ls []) := by
      intro n104
      induction n104 with
      | zero =>
        intro x x104_2 g104_p0 hm104
        exact absurd hm104 (Nat.not_lt_zero _)
      | succ n104 ih104 =>
        intro x x104_2 g104_p0 hm104 hxN ex104_2 eg104_p0 H locs hP hD hS ls hl
        subst ex104_2
        refine lv_iload_n hx hb dX11_keep_104 rfl (lv_at hl 2 rfl) ?_
        refine lv_aload_n hx hb dX11_keep_105 rfl (lv_at hl 0 rfl) ?_
        refine ft_csi (r := nI ((ftCL w) + 60)) (va_runV (C := RX11) (As := []) (rest := [.int (nI x)]) ⟨hx, hb, hml, hown, hts⟩ (c_X11_samples l D cI cS m0 p0 p1 p3 p5 p10 p12 p13 p14 p16 p17 p19 p20 p21 p22 p25 p26 p27 p28 p29 p30 p31 p32 (nI (min (hm + 1) 5)) i4 i6 i7 i8 i9 i11 (nI (ftCF w).1) (nI (ftCG w).1) i23 i24 g104_p0 (ftCL w) (by rw [eg104_p0]; exact hk0 _ _)) (cwV 0 hts gX11_keep_X11_samples rfl rfl rfl (by decide +kernel) ⟨Nat.le_of_ble_eq_true rfl, Nat.le_of_ble_eq_true rfl⟩) (ft_preROV (ci := 11) (q0 := 0) hP hKK [0, 1] rfl rfl rfl) rfl rfl hl.1 rfl (lv_room (Nat.le_of_ble_eq_true rfl)) dX11_keep_106 ⟨Nat.le_of_ble_eq_true rfl, Nat.le_of_ble_eq_true rfl⟩) ?_
        refine lv_icmp_ge (tgt := 131) hx hb dX11_keep_109 (by decide) (fun c109 => ?_) (fun c109 => ?_)
        · have c109n : ((ftCL w) + 60) ≤ x := ft_leN (by omega) (by omega) c109
          refine lv_aload_n hx hb dX11_keep_131 rfl (lv_at hl 0 rfl) ?_
          refine va_get (D := D) (ci := 11) (v := .ref p0) (C := RX11) (T := TX11) (N := 33) hx hb hts (by decide +kernel) hown hK hP 0 rfl rfl 0 (by decide) (hts (.fieldLink RX11 7 "FiberTraceModel" "now" "[I") (by decide +kernel)) (fun _ h9 => h9) rfl dX11_keep_132 ?_
          refine lv_bipush (v := 56) hx hb dX11_keep_135 (by decide) ?_
          refine lv_aload_n hx hb dX11_keep_137 rfl (lv_at hl 0 rfl) ?_
          refine va_get (D := D) (ci := 11) (v := .ref p0) (C := RX11) (T := TX11) (N := 33) hx hb hts (by decide +kernel) hown hK hP 0 rfl rfl 0 (by decide) (hts (.fieldLink RX11 7 "FiberTraceModel" "now" "[I") (by decide +kernel)) (fun _ h9 => h9) rfl dX11_keep_138 ?_
          refine lv_bipush (v := 55) hx hb dX11_keep_141 (by decide) ?_
          refine va_iald hx hb hK hP 1 0 rfl rfl (vp_in_nI (n := 55) (by omega) (by omega)) dX11_keep_143 ?_
          refine ft_top (y := g104_p0 55) rfl ?_
          refine ft_top (y := nI (ftKk w)) (by rw [eg104_p0, ftSeg_lo (by omega)]; exact hks55) ?_
          refine lv_iadd hx hb dX11_keep_144 ?_
          refine ft_top (y := nI (56 + (ftKk w))) (ft_addN 56 (ftKk w)) ?_
          refine lv_aload_n hx hb dX11_keep_145 rfl (lv_at hl 0 rfl) ?_
          refine ft_csi (r := nI ((ftCL w) + 60)) (va_runV (C := RX11) (As := []) (rest := [.int (nI (56 + (ftKk w))), .ref p0]) ⟨hx, hb, hml, hown, hts⟩ (c_X11_samples l D cI cS m0 p0 p1 p3 p5 p10 p12 p13 p14 p16 p17 p19 p20 p21 p22 p25 p26 p27 p28 p29 p30 p31 p32 (nI (min (hm + 1) 5)) i4 i6 i7 i8 i9 i11 (nI (ftCF w).1) (nI (ftCG w).1) i23 i24 g104_p0 (ftCL w) (by rw [eg104_p0]; exact hk0 _ _)) (cwV 0 hts gX11_keep_X11_samples rfl rfl rfl (by decide +kernel) ⟨Nat.le_of_ble_eq_true rfl, Nat.le_of_ble_eq_true rfl⟩) (ft_preROV (ci := 11) (q0 := 0) hP hKK [0, 1] rfl rfl rfl) rfl rfl hl.1 rfl (lv_room (Nat.le_of_ble_eq_true rfl)) dX11_keep_146 ⟨Nat.le_of_ble_eq_true rfl, Nat.le_of_ble_eq_true rfl⟩) ?_
          refine va_iast hx hb hK hP hD hS 1 0 rfl rfl (vp_in_nI (by omega) (by omega)) dX11_keep_149 (fun H locs hP hD hS => ?_)
          rw [nI_clamp (show 56 + (ftKk w) < 2 ^ 31 by omega)] at hP hD
          have hP : va_P D vwCl [(m0, .inr (11, [.ref p0, .ref p1, .int (nI (min (hm + 1) 5)), .ref p3, .int i4, .ref p5, .int i6, .int i7, .int i8, .int i9, .ref p10, .int i11, .ref p12, .ref p13, .ref p14, .int (nI (ftCF w).1), .ref p16, .ref p17, .int (nI (ftCG w).1), .ref p19, .ref p20, .ref p21, .ref p22, .int i23, .int i24, .ref p25, .ref p26, .ref p27, .ref p28, .ref p29, .ref p30, .ref p31, .ref p32])), (p0, .inl (cI, 1439, .inl (upd g104_p0 (56 + (ftKk w)) (nI ((ftCL w) + 60))))), (p12, .inl (cI, 460, .inl (u5 12))), (p13, .inl (cI, 460, .inl (u5 13))), (p14, .inl (cI, 460, .inl (u5 14))), (p16, .inl (cI, 11, .inl (u5 16))), (p17, .inl (cI, 11, .inl (u5 17))), (p19, .inl (cI, 55, .inl (u5 19))), (p20, .inl (cI, 55, .inl (u5 20))), (p21, .inl (cI, 55, .inl (u5 21))), (p22, .inl (cI, 55, .inl (u5 22))), (p1, .inl (cI, 7195, .inl (ftPush w z hm)))] H := hP
          have hD : va_D A [(m0, .inr (11, [.ref p0, .ref p1, .int (nI (min (hm + 1) 5)), .ref p3, .int i4, .ref p5, .int i6, .int i7, .int i8, .int i9, .ref p10, .int i11, .ref p12, .ref p13, .ref p14, .int (nI (ftCF w).1), .ref p16, .ref p17, .int (nI (ftCG w).1), .ref p19, .ref p20, .ref p21, .ref p22, .int i23, .int i24, .ref p25, .ref p26, .ref p27, .ref p28, .ref p29, .ref p30, .ref p31, .ref p32])), (p0, .inl (cI, 1439, .inl (upd g104_p0 (56 + (ftKk w)) (nI ((ftCL w) + 60))))), (p12, .inl (cI, 460, .inl (u5 12))), (p13, .inl (cI, 460, .inl (u5 13))), (p14, .inl (cI, 460, .inl (u5 14))), (p16, .inl (cI, 11, .inl (u5 16))), (p17, .inl (cI, 11, .inl (u5 17))), (p19, .inl (cI, 55, .inl (u5 19))), (p20, .inl (cI, 55, .inl (u5 20))), (p21, .inl (cI, 55, .inl (u5 21))), (p22, .inl (cI, 55, .inl (u5 22))), (p1, .inl (cI, 7195, .inl (ftPush w z hm)))] := hD
          refine lv_aload_n hx hb dX11_keep_150 rfl (lv_at hl 0 rfl) ?_
          refine va_get (D := D) (ci := 11) (v := .ref p0) (C := RX11) (T := TX11) (N := 33) hx hb hts (by decide +kernel) hown hK hP 0 rfl rfl 0 (by decide) (hts (.fieldLink RX11 7 "FiberTraceModel" "now" "[I") (by decide +kernel)) (fun _ h9 => h9) rfl dX11_keep_151 ?_
          refine lv_bipush (v := 55) hx hb dX11_keep_154 (by decide) ?_
          refine lv_dup2_11 hx hb dX11_keep_156 rfl rfl ?_
          refine va_iald hx hb hK hP 1 0 rfl rfl (vp_in_nI (n := 55) (by omega) (by omega)) dX11_keep_157 ?_
          refine ft_top (y := (upd g104_p0 (56 + (ftKk w)) (nI ((ftCL w) + 60))) 55) rfl ?_
          refine ft_top (y := nI (ftKk w)) (by rw [ftUpd_ne (by omega), eg104_p0, ftSeg_lo (by omega)]; exact hks55) ?_
          refine lv_iconst (v := 1) hx hb dX11_keep_158 (by decide) ?_
          refine lv_iadd hx hb dX11_keep_159 ?_
          refine ft_top (y := nI ((ftKk w) + 1)) (ft_addN (ftKk w) 1) ?_
          refine va_iast hx hb hK hP hD hS 1 0 rfl rfl (vp_in_nI (n := 55) (by omega) (by omega)) dX11_keep_160 (fun H locs hP hD hS => ?_)
          have hP : va_P D vwCl [(m0, .inr (11, [.ref p0, .ref p1, .int (nI (min (hm + 1) 5)), .ref p3, .int i4, .ref p5, .int i6, .int i7, .int i8, .int i9, .ref p10, .int i11, .ref p12, .ref p13, .ref p14, .int (nI (ftCF w).1), .ref p16, .ref p17, .int (nI (ftCG w).1), .ref p19, .ref p20, .ref p21, .ref p22, .int i23, .int i24, .ref p25, .ref p26, .ref p27, .ref p28, .ref p29, .ref p30, .ref p31, .ref p32])), (p0, .inl (cI, 1439, .inl (upd (upd g104_p0 (56 + (ftKk w)) (nI ((ftCL w) + 60))) 55 (nI ((ftKk w) + 1))))), (p12, .inl (cI, 460, .inl (u5 12))), (p13, .inl (cI, 460, .inl (u5 13))), (p14, .inl (cI, 460, .inl (u5 14))), (p16, .inl (cI, 11, .inl (u5 16))), (p17, .inl (cI, 11, .inl (u5 17))), (p19, .inl (cI, 55, .inl (u5 19))), (p20, .inl (cI, 55, .inl (u5 20))), (p21, .inl (cI, 55, .inl (u5 21))), (p22, .inl (cI, 55, .inl (u5 22))), (p1, .inl (cI, 7195, .inl (ftPush w z hm)))] H := hP
          have hD : va_D A [(m0, .inr (11, [.ref p0, .ref p1, .int (nI (min (hm + 1) 5)), .ref p3, .int i4, .ref p5, .int i6, .int i7, .int i8, .int i9, .ref p10, .int i11, .ref p12, .ref p13, .ref p14, .int (nI (ftCF w).1), .ref p16, .ref p17, .int (nI (ftCG w).1), .ref p19, .ref p20, .ref p21, .ref p22, .int i23, .int i24, .ref p25, .ref p26, .ref p27, .ref p28, .ref p29, .ref p30, .ref p31, .ref p32])), (p0, .inl (cI, 1439, .inl (upd (upd g104_p0 (56 + (ftKk w)) (nI ((ftCL w) + 60))) 55 (nI ((ftKk w) + 1))))), (p12, .inl (cI, 460, .inl (u5 12))), (p13, .inl (cI, 460, .inl (u5 13))), (p14, .inl (cI, 460, .inl (u5 14))), (p16, .inl (cI, 11, .inl (u5 16))), (p17, .inl (cI, 11, .inl (u5 17))), (p19, .inl (cI, 55, .inl (u5 19))), (p20, .inl (cI, 55, .inl (u5 20))), (p21, .inl (cI, 55, .inl (u5 21))), (p22, .inl (cI, 55, .inl (u5 22))), (p1, .inl (cI, 7195, .inl (ftPush w z hm)))] := hD
          refine lv_aload_n hx hb dX11_keep_161 rfl (lv_at hl 0 rfl) ?_
          refine va_get (D := D) (ci := 11) (v := .ref p0) (C := RX11) (T := TX11) (N := 33) hx hb hts (by decide +kernel) hown hK hP 0 rfl rfl 0 (by decide) (hts (.fieldLink RX11 7 "FiberTraceModel" "now" "[I") (by decide +kernel)) (fun _ h9 => h9) rfl dX11_keep_162 ?_
          refine lv_bipush (v := 55) hx hb dX11_keep_165 (by decide) ?_
          refine va_iald hx hb hK hP 1 0 rfl rfl (vp_in_nI (n := 55) (by omega) (by omega)) dX11_keep_167 ?_
          refine ft_top (y := (upd (upd g104_p0 (56 + (ftKk w)) (nI ((ftCL w) + 60))) 55 (nI ((ftKk w) + 1))) 55) rfl ?_
          refine ft_top (y := nI ((ftKk w) + 1)) (ftUpd1 _ _ _) ?_
          obtain ⟨u9, hu9⟩ : ∃ u9 : (Nat → Int32) × (Nat → Nat → Int32), u9 = ((fun k => match k with | 15 => (nI (ftCF w).1) | _ => (nI (ftCG w).1)), (fun k => match k with | 12 => (u5 12) | 13 => (u5 13) | 14 => (u5 14) | 16 => (u5 16) | 17 => (u5 17) | 19 => (u5 19) | 20 => (u5 20) | 21 => (u5 21) | _ => (u5 22))) := ⟨_, rfl⟩
          have hw9 : ([(m0, .inr (11, [.ref p0, .ref p1, .int (nI (min (hm + 1) 5)), .ref p3, .int i4, .ref p5, .int i6, .int i7, .int i8, .int i9, .ref p10, .int i11, .ref p12, .ref p13, .ref p14, .int (nI (ftCF w).1), .ref p16, .ref p17, .int (nI (ftCG w).1), .ref p19, .ref p20, .ref p21, .ref p22, .int i23, .int i24, .ref p25, .ref p26, .ref p27, .ref p28, .ref p29, .ref p30, .ref p31, .ref p32])), (p0, .inl (cI, 1439, .inl (upd (upd g104_p0 (56 + (ftKk w)) (nI ((ftCL w) + 60))) 55 (nI ((ftKk w) + 1))))), (p12, .inl (cI, 460, .inl (u5 12))), (p13, .inl (cI, 460, .inl (u5 13))), (p14, .inl (cI, 460, .inl (u5 14))), (p16, .inl (cI, 11, .inl (u5 16))), (p17, .inl (cI, 11, .inl (u5 17))), (p19, .inl (cI, 55, .inl (u5 19))), (p20, .inl (cI, 55, .inl (u5 20))), (p21, .inl (cI, 55, .inl (u5 21))), (p22, .inl (cI, 55, .inl (u5 22))), (p1, .inl (cI, 7195, .inl (ftPush w z hm)))] : va_W) = [(m0, .inr (11, [.ref p0, .ref p1, .int (nI (min (hm + 1) 5)), .ref p3, .int i4, .ref p5, .int i6, .int i7, .int i8, .int i9, .ref p10, .int i11, .ref p12, .ref p13, .ref p14, .int (u9.1 15), .ref p16, .ref p17, .int (u9.1 18), .ref p19, .ref p20, .ref p21, .ref p22, .int i23, .int i24, .ref p25, .ref p26, .ref p27, .ref p28, .ref p29, .ref p30, .ref p31, .ref p32])), (p0, .inl (cI, 1439, .inl (ftKeep w))), (p12, .inl (cI, 460, .inl (u9.2 12))), (p13, .inl (cI, 460, .inl (u9.2 13))), (p14, .inl (cI, 460, .inl (u9.2 14))), (p16, .inl (cI, 11, .inl (u9.2 16))), (p17, .inl (cI, 11, .inl (u9.2 17))), (p19, .inl (cI, 55, .inl (u9.2 19))), (p20, .inl (cI, 55, .inl (u9.2 20))), (p21, .inl (cI, 55, .inl (u9.2 21))), (p22, .inl (cI, 55, .inl (u9.2 22))), (p1, .inl (cI, 7195, .inl (ftPush w z hm)))] := by rw [hu9, eg104_p0, show x = ftCL w + 60 by omega]; rfl
          rw [hw9] at hP hD
          have hr9 : (nI ((ftKk w) + 1) : Int32) = nI (ftKk w + 1) := by exact rfl
          exact W.iret (v := nI ((ftKk w) + 1)) hx hb hr (fun t ht hW => ⟨⟨nI ((ftKk w) + 1), u9, rfl, ⟨hr9, trivial⟩, by rw [ht]; exact hP, by rw [hAe]; exact hD⟩, by rw [hAe]; exact hS.F ht⟩) hS.2.2 dX11_keep_168
        · have c109n : x < ((ftCL w) + 60) := ft_nleN (by omega) (by omega) c109
          refine lv_aload_n hx hb dX11_keep_112 rfl (lv_at hl 0 rfl) ?_
          refine va_get (D := D) (ci := 11) (v := .ref p0) (C := RX11) (T := TX11) (N := 33) hx hb hts (by decide +kernel) hown hK hP 0 rfl rfl 0 (by decide) (hts (.fieldLink RX11 7 "FiberTraceModel" "now" "[I") (by decide +kernel)) (fun _ h9 => h9) rfl dX11_keep_113 ?_
          refine lv_iload_n hx hb dX11_keep_116 rfl (lv_at hl 1 rfl) ?_
          refine lv_iload_n hx hb dX11_keep_117 rfl (lv_at hl 2 rfl) ?_
          refine lv_iadd hx hb dX11_keep_118 ?_
          refine ft_top (y := nI ((59 + (460 * (ftKk w))) + x)) (ft_addN (59 + (460 * (ftKk w))) x) ?_
          refine lv_aload_n hx hb dX11_keep_119 rfl (lv_at hl 0 rfl) ?_
          refine lv_iload_n hx hb dX11_keep_120 rfl (lv_at hl 2 rfl) ?_
          refine ft_csi (r := (u5 12) x + (u5 13) x + (u5 14) x) (va_runV (C := RX11) (As := [.int (nI x)]) (rest := [.int (nI ((59 + (460 * (ftKk w))) + x)), .ref p0]) ⟨hx, hb, hml, hown, hts⟩ (c_X11_v l D cI cS m0 p0 p1 p3 p5 p10 p12 p13 p14 p16 p17 p19 p20 p21 p22 p25 p26 p27 p28 p29 p30 p31 p32 (nI (min (hm + 1) 5)) i4 i6 i7 i8 i9 i11 (nI (ftCF w).1) (nI (ftCG w).1) i23 i24 (u5 12) (u5 13) (u5 14) x (by first | assumption | omega)) (cwV 1 hts gX11_keep_X11_v rfl rfl rfl (by decide +kernel) ⟨Nat.le_of_ble_eq_true rfl, Nat.le_of_ble_eq_true rfl⟩) (ft_preROV (ci := 11) (q0 := 0) hP hKK [0, 2, 3, 4] rfl rfl rfl) rfl rfl hl.1 rfl (lv_room (Nat.le_of_ble_eq_true rfl)) dX11_keep_121 ⟨Nat.le_of_ble_eq_true rfl, Nat.le_of_ble_eq_true rfl⟩) ?_
          refine ft_top (y := ftCV w x) (by rw [(hb5 x (by omega)).1, (hb5 x (by omega)).2.1, (hb5 x (by omega)).2.2]; rfl) ?_
          refine va_iast hx hb hK hP hD hS 1 0 rfl rfl (vp_in_nI (by omega) (by omega)) dX11_keep_124 (fun H locs hP hD hS => ?_)
          rw [nI_clamp (show (59 + (460 * (ftKk w))) + x < 2 ^ 31 by omega)] at hP hD
          have hP : va_P D vwCl [(m0, .inr (11, [.ref p0, .ref p1, .int (nI (min (hm + 1) 5)), .ref p3, .int i4, .ref p5, .int i6, .int i7, .int i8, .int i9, .ref p10, .int i11, .ref p12, .ref p13, .ref p14, .int (nI (ftCF w).1), .ref p16, .ref p17, .int (nI (ftCG w).1), .ref p19, .ref p20, .ref p21, .ref p22, .int i23, .int i24, .ref p25, .ref p26, .ref p27, .ref p28, .ref p29, .ref p30, .ref p31, .ref p32])), (p0, .inl (cI, 1439, .inl (upd g104_p0 ((59 + (460 * (ftKk w))) + x) (ftCV w x)))), (p12, .inl (cI, 460, .inl (u5 12))), (p13, .inl (cI, 460, .inl (u5 13))), (p14, .inl (cI, 460, .inl (u5 14))), (p16, .inl (cI, 11, .inl (u5 16))), (p17, .inl (cI, 11, .inl (u5 17))), (p19, .inl (cI, 55, .inl (u5 19))), (p20, .inl (cI, 55, .inl (u5 20))), (p21, .inl (cI, 55, .inl (u5 21))), (p22, .inl (cI, 55, .inl (u5 22))), (p1, .inl (cI, 7195, .inl (ftPush w z hm)))] H := hP
          have hD : va_D A [(m0, .inr (11, [.ref p0, .ref p1, .int (nI (min (hm + 1) 5)), .ref p3, .int i4, .ref p5, .int i6, .int i7, .int i8, .int i9, .ref p10, .int i11, .ref p12, .ref p13, .ref p14, .int (nI (ftCF w).1), .ref p16, .ref p17, .int (nI (ftCG w).1), .ref p19, .ref p20, .ref p21, .ref p22, .int i23, .int i24, .ref p25, .ref p26, .ref p27, .ref p28, .ref p29, .ref p30, .ref p31, .ref p32])), (p0, .inl (cI, 1439, .inl (upd g104_p0 ((59 + (460 * (ftKk w))) + x) (ftCV w x)))), (p12, .inl (cI, 460, .inl (u5 12))), (p13, .inl (cI, 460, .inl (u5 13))), (p14, .inl (cI, 460, .inl (u5 14))), (p16, .inl (cI, 11, .inl (u5 16))), (p17, .inl (cI, 11, .inl (u5 17))), (p19, .inl (cI, 55, .inl (u5 19))), (p20, .inl (cI, 55, .inl (u5 20))), (p21, .inl (cI, 55, .inl (u5 21))), (p22, .inl (cI, 55, .inl (u5 22))), (p1, .inl (cI, 7195, .inl (ftPush w z hm)))] := hD
          refine lv_iinc (v := nI (x + 1)) (lv' := [(2, .int (nI (x + 1))), (0, .ref m0), (1, .int (nI (59 + (460 * (ftKk w)))))]) hx hb dX11_keep_125 hl (k := 2) rfl (ft_inc x) (by decide) rfl (fun ls hl => ?_)
          refine lv_goto (tgt := 104) hx hb dX11_keep_128 (by decide) ?_
          exact ih104 (x + 1) (nI (x + 1)) (upd g104_p0 ((59 + (460 * (ftKk w))) + x) (ftCV w x)) (by omega) (by omega) (by first | rfl | assumption) (by rw [eg104_p0]; exact ftSeg_s) _ _ hP hD hS ls (lv_sub hl [1, 2, 0] rfl)
    exact lp104 _ 0 0 w (Nat.lt_succ_self _) (by omega) (by rfl) (by first | (rw [hks]; exact ftSeg_0 _ _ _) | (rw [ftKs, if_pos hck, eg50_p0, show j = 979 by omega]; exact ftSeg_0 _ _ _)) _ _ hP hD hS ls (lv_sub hl [2, 1, 0] rfl)
  · have hck : ftCK w = 3 := ft_eqN (by omega) (by omega) (by rw [← h55]; exact c16)
    have hkk : ftKk w = 2 := if_pos hck
    have hks55 : ftKs w 55 = nI (ftKk w) := by rw [hkk, ftKs, if_pos hck]; rfl
    refine lv_aload_n hx hb dX11_keep_19 rfl (lv_at hl 0 rfl) ?_
    refine va_get (D := D) (ci := 11) (v := .ref p0) (C := RX11) (T := TX11) (N := 33) hx hb hts (by decide +kernel) hown hK hP 0 rfl rfl 0 (by decide) (hts (.fieldLink RX11 7 "FiberTraceModel" "now" "[I") (by decide +kernel)) (fun _ h9 => h9) rfl dX11_keep_20 ?_
    refine lv_bipush (v := 56) hx hb dX11_keep_23 (by decide) ?_
    refine lv_aload_n hx hb dX11_keep_25 rfl (lv_at hl 0 rfl) ?_
    refine va_get (D := D) (ci := 11) (v := .ref p0) (C := RX11) (T := TX11) (N := 33) hx hb hts (by decide +kernel) hown hK hP 0 rfl rfl 0 (by decide) (hts (.fieldLink RX11 7 "FiberTraceModel" "now" "[I") (by decide +kernel)) (fun _ h9 => h9) rfl dX11_keep_26 ?_
    refine lv_bipush (v := 57) hx hb dX11_keep_29 (by decide) ?_
    refine va_iald hx hb hK hP 1 0 rfl rfl (vp_in_nI (n := 57) (by omega) (by omega)) dX11_keep_31 ?_
    refine ft_top (y := w 57) rfl ?_
    refine va_iast hx hb hK hP hD hS 1 0 rfl rfl (vp_in_nI (n := 56) (by omega) (by omega)) dX11_keep_32 (fun H locs hP hD hS => ?_)
    have hP : va_P D vwCl [(m0, .inr (11, [.ref p0, .ref p1, .int (nI (min (hm + 1) 5)), .ref p3, .int i4, .ref p5, .int i6, .int i7, .int i8, .int i9, .ref p10, .int i11, .ref p12, .ref p13, .ref p14, .int (nI (ftCF w).1), .ref p16, .ref p17, .int (nI (ftCG w).1), .ref p19, .ref p20, .ref p21, .ref p22, .int i23, .int i24, .ref p25, .ref p26, .ref p27, .ref p28, .ref p29, .ref p30, .ref p31, .ref p32])), (p0, .inl (cI, 1439, .inl (upd w 56 (w 57)))), (p12, .inl (cI, 460, .inl (u5 12))), (p13, .inl (cI, 460, .inl (u5 13))), (p14, .inl (cI, 460, .inl (u5 14))), (p16, .inl (cI, 11, .inl (u5 16))), (p17, .inl (cI, 11, .inl (u5 17))), (p19, .inl (cI, 55, .inl (u5 19))), (p20, .inl (cI, 55, .inl (u5 20))), (p21, .inl (cI, 55, .inl (u5 21))), (p22, .inl (cI, 55, .inl (u5 22))), (p1, .inl (cI, 7195, .inl (ftPush w z hm)))] H := hP
    have hD : va_D A [(m0, .inr (11, [.ref p0, .ref p1, .int (nI (min (hm + 1) 5)), .ref p3, .int i4, .ref p5, .int i6, .int i7, .int i8, .int i9, .ref p10, .int i11, .ref p12, .ref p13, .ref p14, .int (nI (ftCF w).1), .ref p16, .ref p17, .int (nI (ftCG w).1), .ref p19, .ref p20, .ref p21, .ref p22, .int i23, .int i24, .ref p25, .ref p26, .ref p27, .ref p28, .ref p29, .ref p30, .ref p31, .ref p32])), (p0, .inl (cI, 1439, .inl (upd w 56 (w 57)))), (p12, .inl (cI, 460, .inl (u5 12))), (p13, .inl (cI, 460, .inl (u5 13))), (p14, .inl (cI, 460, .inl (u5 14))), (p16, .inl (cI, 11, .inl (u5 16))), (p17, .inl (cI, 11, .inl (u5 17))), (p19, .inl (cI, 55, .inl (u5 19))), (p20, .inl (cI, 55, .inl (u5 20))), (p21, .inl (cI, 55, .inl (u5 21))), (p22, .inl (cI, 55, .inl (u5 22))), (p1, .inl (cI, 7195, .inl (ftPush w z hm)))] := hD
    refine lv_aload_n hx hb dX11_keep_33 rfl (lv_at hl 0 rfl) ?_
    refine va_get (D := D) (ci := 11) (v := .ref p0) (C := RX11) (T := TX11) (N := 33) hx hb hts (by decide +kernel) hown hK hP 0 rfl rfl 0 (by decide) (hts (.fieldLink RX11 7 "FiberTraceModel" "now" "[I") (by decide +kernel)) (fun _ h9 => h9) rfl dX11_keep_34 ?_
    refine lv_bipush (v := 57) hx hb dX11_keep_37 (by decide) ?_
    refine lv_aload_n hx hb dX11_keep_39 rfl (lv_at hl 0 rfl) ?_
    refine va_get (D := D) (ci := 11) (v := .ref p0) (C := RX11) (T := TX11) (N := 33) hx hb hts (by decide +kernel) hown hK hP 0 rfl rfl 0 (by decide) (hts (.fieldLink RX11 7 "FiberTraceModel" "now" "[I") (by decide +kernel)) (fun _ h9 => h9) rfl dX11_keep_40 ?_
    refine lv_bipush (v := 58) hx hb dX11_keep_43 (by decide) ?_
    refine va_iald hx hb hK hP 1 0 rfl rfl (vp_in_nI (n := 58) (by omega) (by omega)) dX11_keep_45 ?_
    refine ft_top (y := (upd w 56 (w 57)) 58) rfl ?_
    refine ft_top (y := w 58) (ftUpd_ne (by omega)) ?_
    refine va_iast hx hb hK hP hD hS 1 0 rfl rfl (vp_in_nI (n := 57) (by omega) (by omega)) dX11_keep_46 (fun H locs hP hD hS => ?_)
    have hP : va_P D vwCl [(m0, .inr (11, [.ref p0, .ref p1, .int (nI (min (hm + 1) 5)), .ref p3, .int i4, .ref p5, .int i6, .int i7, .int i8, .int i9, .ref p10, .int i11, .ref p12, .ref p13, .ref p14, .int (nI (ftCF w).1), .ref p16, .ref p17, .int (nI (ftCG w).1), .ref p19, .ref p20, .ref p21, .ref p22, .int i23, .int i24, .ref p25, .ref p26, .ref p27, .ref p28, .ref p29, .ref p30, .ref p31, .ref p32])), (p0, .inl (cI, 1439, .inl (upd (upd w 56 (w 57)) 57 (w 58)))), (p12, .inl (cI, 460, .inl (u5 12))), (p13, .inl (cI, 460, .inl (u5 13))), (p14, .inl (cI, 460, .inl (u5 14))), (p16, .inl (cI, 11, .inl (u5 16))), (p17, .inl (cI, 11, .inl (u5 17))), (p19, .inl (cI, 55, .inl (u5 19))), (p20, .inl (cI, 55, .inl (u5 20))), (p21, .inl (cI, 55, .inl (u5 21))), (p22, .inl (cI, 55, .inl (u5 22))), (p1, .inl (cI, 7195, .inl (ftPush w z hm)))] H := hP
    have hD : va_D A [(m0, .inr (11, [.ref p0, .ref p1, .int (nI (min (hm + 1) 5)), .ref p3, .int i4, .ref p5, .int i6, .int i7, .int i8, .int i9, .ref p10, .int i11, .ref p12, .ref p13, .ref p14, .int (nI (ftCF w).1), .ref p16, .ref p17, .int (nI (ftCG w).1), .ref p19, .ref p20, .ref p21, .ref p22, .int i23, .int i24, .ref p25, .ref p26, .ref p27, .ref p28, .ref p29, .ref p30, .ref p31, .ref p32])), (p0, .inl (cI, 1439, .inl (upd (upd w 56 (w 57)) 57 (w 58)))), (p12, .inl (cI, 460, .inl (u5 12))), (p13, .inl (cI, 460, .inl (u5 13))), (p14, .inl (cI, 460, .inl (u5 14))), (p16, .inl (cI, 11, .inl (u5 16))), (p17, .inl (cI, 11, .inl (u5 17))), (p19, .inl (cI, 55, .inl (u5 19))), (p20, .inl (cI, 55, .inl (u5 20))), (p21, .inl (cI, 55, .inl (u5 21))), (p22, .inl (cI, 55, .inl (u5 22))), (p1, .inl (cI, 7195, .inl (ftPush w z hm)))] := hD
    refine lv_bipush (v := 59) hx hb dX11_keep_47 (by decide) ?_
    refine lv_istore_n (lv' := [(1, .int 59), (0, .ref m0)]) hx hb dX11_keep_49 rfl hl (by decide) rfl (fun ls hl => ?_)
    have lp50 : ∀ (n50 : Nat) (j : Nat) (x50_1 : Int32) (g50_p0 : Nat → Int32), 979 - j < n50 → (59 ≤ j) → (j ≤ 979) → x50_1 = nI j → g50_p0 = ftShK (upd (upd w 56 (w 57)) 57 (w 58)) j → ∀ (H : Heap) (locs : List Loc), va_P D vwCl [(m0, .inr (11, [.ref p0, .ref p1, .int (nI (min (hm + 1) 5)), .ref p3, .int i4, .ref p5, .int i6, .int i7, .int i8, .int i9, .ref p10, .int i11, .ref p12, .ref p13, .ref p14, .int (nI (ftCF w).1), .ref p16, .ref p17, .int (nI (ftCG w).1), .ref p19, .ref p20, .ref p21, .ref p22, .int i23, .int i24, .ref p25, .ref p26, .ref p27, .ref p28, .ref p29, .ref p30, .ref p31, .ref p32])), (p0, .inl (cI, 1439, .inl g50_p0)), (p12, .inl (cI, 460, .inl (u5 12))), (p13, .inl (cI, 460, .inl (u5 13))), (p14, .inl (cI, 460, .inl (u5 14))), (p16, .inl (cI, 11, .inl (u5 16))), (p17, .inl (cI, 11, .inl (u5 17))), (p19, .inl (cI, 55, .inl (u5 19))), (p20, .inl (cI, 55, .inl (u5 20))), (p21, .inl (cI, 55, .inl (u5 21))), (p22, .inl (cI, 55, .inl (u5 22))), (p1, .inl (cI, 7195, .inl (ftPush w z hm)))] H → va_D A [(m0, .inr (11, [.ref p0, .ref p1, .int (nI (min (hm + 1) 5)), .ref p3, .int i4, .ref p5, .int i6, .int i7, .int i8, .int i9, .ref p10, .int i11, .ref p12, .ref p13, .ref p14, .int (nI (ftCF w).1), .ref p16, .ref p17, .int (nI (ftCG w).1), .ref p19, .ref p20, .ref p21, .ref p22, .int i23, .int i24, .ref p25, .ref p26, .ref p27, .ref p28, .ref p29, .ref p30, .ref p31, .ref p32])), (p0, .inl (cI, 1439, .inl g50_p0)), (p12, .inl (cI, 460, .inl (u5 12))), (p13, .inl (cI, 460, .inl (u5 13))), (p14, .inl (cI, 460, .inl (u5 14))), (p16, .inl (cI, 11, .inl (u5 16))), (p17, .inl (cI, 11, .inl (u5 17))), (p19, .inl (cI, 55, .inl (u5 19))), (p20, .inl (cI, 55, .inl (u5 20))), (p21, .inl (cI, 55, .inl (u5 21))), (p22, .inl (cI, 55, .inl (u5 22))), (p1, .inl (cI, 7195, .inl (ftPush w z hm)))] → va_S A s.heap H locs → ∀ ls : Array Slot, lv_has ls 3 [(0, .ref m0), (1, .int x50_1)] → W p l e (headSpec wsX11_keep { frames := 3, cells := 0, slots := 0, locals := 72 }).room s m ([.ref m0] : List Value).toArray below meth c H locs 0 0 (MQ below (ftXi D [(m0, .inr (11, [.ref p0, .ref p1, .int (nI hm), .ref p3, .int i4, .ref p5, .int i6, .int i7, .int i8, .int i9, .ref p10, .int i11, .ref p12, .ref p13, .ref p14, .int i15, .ref p16, .ref p17, .int i18, .ref p19, .ref p20, .ref p21, .ref p22, .int i23, .int i24, .ref p25, .ref p26, .ref p27, .ref p28, .ref p29, .ref p30, .ref p31, .ref p32])), (p0, .inl (cI, 1439, .inl w)), (p12, .inl (cI, 460, .inl fb)), (p13, .inl (cI, 460, .inl fp)), (p14, .inl (cI, 460, .inl fn)), (p16, .inl (cI, 11, .inl fa)), (p17, .inl (cI, 11, .inl fh)), (p19, .inl (cI, 55, .inl ga)), (p20, .inl (cI, 55, .inl gh)), (p21, .inl (cI, 55, .inl g1)), (p22, .inl (cI, 55, .inl g2)), (p1, .inl (cI, 7195, .inl z))] s.heap.size (fun (o9 : Int32) (u : (Nat → Int32) × (Nat → Nat → Int32)) => o9 = nI (ftKk w + 1) ∧ True) (fun (u : (Nat → Int32) × (Nat → Nat → Int32)) => [(m0, .inr (11, [.ref p0, .ref p1, .int (nI (min (hm + 1) 5)), .ref p3, .int i4, .ref p5, .int i6, .int i7, .int i8, .int i9, .ref p10, .int i11, .ref p12, .ref p13, .ref p14, .int (u.1 15), .ref p16, .ref p17, .int (u.1 18), .ref p19, .ref p20, .ref p21, .ref p22, .int i23, .int i24, .ref p25, .ref p26, .ref p27, .ref p28, .ref p29, .ref p30, .ref p31, .ref p32])), (p0, .inl (cI, 1439, .inl (ftKeep w))), (p12, .inl (cI, 460, .inl (u.2 12))), (p13, .inl (cI, 460, .inl (u.2 13))), (p14, .inl (cI, 460, .inl (u.2 14))), (p16, .inl (cI, 11, .inl (u.2 16))), (p17, .inl (cI, 11, .inl (u.2 17))), (p19, .inl (cI, 55, .inl (u.2 19))), (p20, .inl (cI, 55, .inl (u.2 20))), (p21, .inl (cI, 55, .inl (u.2 21))), (p22, .inl (cI, 55, .inl (u.2 22))), (p1, .inl (cI, 7195, .inl (ftPush w z hm)))])) ([.ref m0] : List Value).toArray s 0 0 A) (F0 m 50 ls []) := by
      intro n50
      induction n50 with
      | zero =>
        intro j x50_1 g50_p0 hm50
        exact absurd hm50 (Nat.not_lt_zero _)
      | succ n50 ih50 =>
        intro j x50_1 g50_p0 hm50 hj1 hj2 ex50_1 eg50_p0 H locs hP hD hS ls hl
        subst ex50_1
        refine lv_iload_n hx hb dX11_keep_50 rfl (lv_at hl 1 rfl) ?_
        refine lv_sipush (v := 979) hx hb dX11_keep_51 (by decide) ?_
        refine lv_icmp_ge (tgt := 79) hx hb dX11_keep_54 (by decide) (fun c54 => ?_) (fun c54 => ?_)
        · have c54n : 979 ≤ j := ft_leN (by omega) (by omega) c54
          refine lv_aload_n hx hb dX11_keep_79 rfl (lv_at hl 0 rfl) ?_
          refine va_get (D := D) (ci := 11) (v := .ref p0) (C := RX11) (T := TX11) (N := 33) hx hb hts (by decide +kernel) hown hK hP 0 rfl rfl 0 (by decide) (hts (.fieldLink RX11 7 "FiberTraceModel" "now" "[I") (by decide +kernel)) (fun _ h9 => h9) rfl dX11_keep_80 ?_
          refine lv_bipush (v := 55) hx hb dX11_keep_83 (by decide) ?_
          refine lv_iconst (v := 2) hx hb dX11_keep_85 (by decide) ?_
          refine va_iast hx hb hK hP hD hS 1 0 rfl rfl (vp_in_nI (n := 55) (by omega) (by omega)) dX11_keep_86 (fun H locs hP hD hS => ?_)
          have hP : va_P D vwCl [(m0, .inr (11, [.ref p0, .ref p1, .int (nI (min (hm + 1) 5)), .ref p3, .int i4, .ref p5, .int i6, .int i7, .int i8, .int i9, .ref p10, .int i11, .ref p12, .ref p13, .ref p14, .int (nI (ftCF w).1), .ref p16, .ref p17, .int (nI (ftCG w).1), .ref p19, .ref p20, .ref p21, .ref p22, .int i23, .int i24, .ref p25, .ref p26, .ref p27, .ref p28, .ref p29, .ref p30, .ref p31, .ref p32])), (p0, .inl (cI, 1439, .inl (upd g50_p0 55 2))), (p12, .inl (cI, 460, .inl (u5 12))), (p13, .inl (cI, 460, .inl (u5 13))), (p14, .inl (cI, 460, .inl (u5 14))), (p16, .inl (cI, 11, .inl (u5 16))), (p17, .inl (cI, 11, .inl (u5 17))), (p19, .inl (cI, 55, .inl (u5 19))), (p20, .inl (cI, 55, .inl (u5 20))), (p21, .inl (cI, 55, .inl (u5 21))), (p22, .inl (cI, 55, .inl (u5 22))), (p1, .inl (cI, 7195, .inl (ftPush w z hm)))] H := hP
          have hD : va_D A [(m0, .inr (11, [.ref p0, .ref p1, .int (nI (min (hm + 1) 5)), .ref p3, .int i4, .ref p5, .int i6, .int i7, .int i8, .int i9, .ref p10, .int i11, .ref p12, .ref p13, .ref p14, .int (nI (ftCF w).1), .ref p16, .ref p17, .int (nI (ftCG w).1), .ref p19, .ref p20, .ref p21, .ref p22, .int i23, .int i24, .ref p25, .ref p26, .ref p27, .ref p28, .ref p29, .ref p30, .ref p31, .ref p32])), (p0, .inl (cI, 1439, .inl (upd g50_p0 55 2))), (p12, .inl (cI, 460, .inl (u5 12))), (p13, .inl (cI, 460, .inl (u5 13))), (p14, .inl (cI, 460, .inl (u5 14))), (p16, .inl (cI, 11, .inl (u5 16))), (p17, .inl (cI, 11, .inl (u5 17))), (p19, .inl (cI, 55, .inl (u5 19))), (p20, .inl (cI, 55, .inl (u5 20))), (p21, .inl (cI, 55, .inl (u5 21))), (p22, .inl (cI, 55, .inl (u5 22))), (p1, .inl (cI, 7195, .inl (ftPush w z hm)))] := hD
          have hkk3 : ftKk w ≤ 2 := by omega
          have hk0 : ∀ (f : Nat → Int32) (X : Nat), ftSeg f (ftKs w) (59 + 460 * ftKk w) X 0 = nI (ftCL w) := fun f X => by rw [ftSeg_lo (by omega), ftKs_lo (by omega)]; exact hw0
          refine lv_bipush (v := 59) hx hb dX11_keep_87 (by decide) ?_
          refine lv_sipush (v := 460) hx hb dX11_keep_89 (by decide) ?_
          refine lv_aload_n hx hb dX11_keep_92 rfl (lv_at hl 0 rfl) ?_
          refine va_get (D := D) (ci := 11) (v := .ref p0) (C := RX11) (T := TX11) (N := 33) hx hb hts (by decide +kernel) hown hK hP 0 rfl rfl 0 (by decide) (hts (.fieldLink RX11 7 "FiberTraceModel" "now" "[I") (by decide +kernel)) (fun _ h9 => h9) rfl dX11_keep_93 ?_
          refine lv_bipush (v := 55) hx hb dX11_keep_96 (by decide) ?_
          refine va_iald hx hb hK hP 1 0 rfl rfl (vp_in_nI (n := 55) (by omega) (by omega)) dX11_keep_98 ?_
          refine ft_top (y := (upd g50_p0 55 2) 55) rfl ?_
          refine ft_top (y := 2) (ftUpd1 _ _ _) ?_
          refine ft_top (y := nI (ftKk w)) (by rw [hkk]; first | exact h55 | rfl) ?_
          refine lv_imul hx hb dX11_keep_99 ?_
          refine ft_top (y := nI (460 * (ftKk w))) (ft_mulN 460 (ftKk w)) ?_
          refine lv_iadd hx hb dX11_keep_100 ?_
          refine ft_top (y := nI (59 + (460 * (ftKk w)))) (ft_addN 59 (460 * (ftKk w))) ?_
          refine lv_istore_n (lv' := [(1, .int (nI (59 + (460 * (ftKk w))))), (0, .ref m0)]) hx hb dX11_keep_101 rfl hl (by decide) rfl (fun ls hl => ?_)
          refine lv_iconst (v := 0) hx hb dX11_keep_102 (by decide) ?_
          refine lv_istore_n (lv' := [(2, .int 0), (1, .int (nI (59 + (460 * (ftKk w))))), (0, .ref m0)]) hx hb dX11_keep_103 rfl hl (by decide) rfl (fun ls hl => ?_)
          have lp104 : ∀ (n104 : Nat) (x : Nat) (x104_2 : Int32) (g104_p0 : Nat → Int32), ftCL w + 60 - x < n104 → (x ≤ ftCL w + 60) → x104_2 = nI x → g104_p0 = ftSeg (ftCV w) (ftKs w) (59 + 460 * ftKk w) x → ∀ (H : Heap) (locs : List Loc), va_P D vwCl [(m0, .inr (11, [.ref p0, .ref p1, .int (nI (min (hm + 1) 5)), .ref p3, .int i4, .ref p5, .int i6, .int i7, .int i8, .int i9, .ref p10, .int i11, .ref p12, .ref p13, .ref p14, .int (nI (ftCF w).1), .ref p16, .ref p17, .int (nI (ftCG w).1), .ref p19, .ref p20, .ref p21, .ref p22, .int i23, .int i24, .ref p25, .ref p26, .ref p27, .ref p28, .ref p29, .ref p30, .ref p31, .ref p32])), (p0, .inl (cI, 1439, .inl g104_p0)), (p12, .inl (cI, 460, .inl (u5 12))), (p13, .inl (cI, 460, .inl (u5 13))), (p14, .inl (cI, 460, .inl (u5 14))), (p16, .inl (cI, 11, .inl (u5 16))), (p17, .inl (cI, 11, .inl (u5 17))), (p19, .inl (cI, 55, .inl (u5 19))), (p20, .inl (cI, 55, .inl (u5 20))), (p21, .inl (cI, 55, .inl (u5 21))), (p22, .inl (cI, 55, .inl (u5 22))), (p1, .inl (cI, 7195, .inl (ftPush w z hm)))] H → va_D A [(m0, .inr (11, [.ref p0, .ref p1, .int (nI (min (hm + 1) 5)), .ref p3, .int i4, .ref p5, .int i6, .int i7, .int i8, .int i9, .ref p10, .int i11, .ref p12, .ref p13, .ref p14, .int (nI (ftCF w).1), .ref p16, .ref p17, .int (nI (ftCG w).1), .ref p19, .ref p20, .ref p21, .ref p22, .int i23, .int i24, .ref p25, .ref p26, .ref p27, .ref p28, .ref p29, .ref p30, .ref p31, .ref p32])), (p0, .inl (cI, 1439, .inl g104_p0)), (p12, .inl (cI, 460, .inl (u5 12))), (p13, .inl (cI, 460, .inl (u5 13))), (p14, .inl (cI, 460, .inl (u5 14))), (p16, .inl (cI, 11, .inl (u5 16))), (p17, .inl (cI, 11, .inl (u5 17))), (p19, .inl (cI, 55, .inl (u5 19))), (p20, .inl (cI, 55, .inl (u5 20))), (p21, .inl (cI, 55, .inl (u5 21))), (p22, .inl (cI, 55, .inl (u5 22))), (p1, .inl (cI, 7195, .inl (ftPush w z hm)))] → va_S A s.heap H locs → ∀ ls : Array Slot, lv_has ls 3 [(0, .ref m0), (1, .int (nI (59 + (460 * (ftKk w))))), (2, .int x104_2)] → W p l e (headSpec wsX11_keep { frames := 3, cells := 0, slots := 0, locals := 72 }).room s m ([.ref m0] : List Value).toArray below meth c H locs 0 0 (MQ below (ftXi D [(m0, .inr (11, [.ref p0, .ref p1, .int (nI hm), .ref p3, .int i4, .ref p5, .int i6, .int i7, .int i8, .int i9, .ref p10, .int i11, .ref p12, .ref p13, .ref p14, .int i15, .ref p16, .ref p17, .int i18, .ref p19, .ref p20, .ref p21, .ref p22, .int i23, .int i24, .ref p25, .ref p26, .ref p27, .ref p28, .ref p29, .ref p30, .ref p31, .ref p32])), (p0, .inl (cI, 1439, .inl w)), (p12, .inl (cI, 460, .inl fb)), (p13, .inl (cI, 460, .inl fp)), (p14, .inl (cI, 460, .inl fn)), (p16, .inl (cI, 11, .inl fa)), (p17, .inl (cI, 11, .inl fh)), (p19, .inl (cI, 55, .inl ga)), (p20, .inl (cI, 55, .inl gh)), (p21, .inl (cI, 55, .inl g1)), (p22, .inl (cI, 55, .inl g2)), (p1, .inl (cI, 7195, .inl z))] s.heap.size (fun (o9 : Int32) (u : (Nat → Int32) × (Nat → Nat → Int32)) => o9 = nI (ftKk w + 1) ∧ True) (fun (u : (Nat → Int32) × (Nat → Nat → Int32)) => [(m0, .inr (11, [.ref p0, .ref p1, .int (nI (min (hm + 1) 5)), .ref p3, .int i4, .ref p5, .int i6, .int i7, .int i8, .int i9, .ref p10, .int i11, .ref p12, .ref p13, .ref p14, .int (u.1 15), .ref p16, .ref p17, .int (u.1 18), .ref p19, .ref p20, .ref p21, .ref p22, .int i23, .int i24, .ref p25, .ref p26, .ref p27, .ref p28, .ref p29, .ref p30, .ref p31, .ref p32])), (p0, .inl (cI, 1439, .inl (ftKeep w))), (p12, .inl (cI, 460, .inl (u.2 12))), (p13, .inl (cI, 460, .inl (u.2 13))), (p14, .inl (cI, 460, .inl (u.2 14))), (p16, .inl (cI, 11, .inl (u.2 16))), (p17, .inl (cI, 11, .inl (u.2 17))), (p19, .inl (cI, 55, .inl (u.2 19))), (p20, .inl (cI, 55, .inl (u.2 20))), (p21, .inl (cI, 55, .inl (u.2 21))), (p22, .inl (cI, 55, .inl (u.2 22))), (p1, .inl (cI, 7195, .inl (ftPush w z hm)))])) ([.ref m0] : List Value).toArray s 0 0 A) (F0 m 104 ls []) := by
            intro n104
            induction n104 with
            | zero =>
              intro x x104_2 g104_p0 hm104
              exact absurd hm104 (Nat.not_lt_zero _)
            | succ n104 ih104 =>
              intro x x104_2 g104_p0 hm104 hxN ex104_2 eg104_p0 H locs hP hD hS ls hl
              subst ex104_2
              refine lv_iload_n hx hb dX11_keep_104 rfl (lv_at hl 2 rfl) ?_
              refine lv_aload_n hx hb dX11_keep_105 rfl (lv_at hl 0 rfl) ?_
              refine ft_csi (r := nI ((ftCL w) + 60)) (va_runV (C := RX11) (As := []) (rest := [.int (nI x)]) ⟨hx, hb, hml, hown, hts⟩ (c_X11_samples l D cI cS m0 p0 p1 p3 p5 p10 p12 p13 p14 p16 p17 p19 p20 p21 p22 p25 p26 p27 p28 p29 p30 p31 p32 (nI (min (hm + 1) 5)) i4 i6 i7 i8 i9 i11 (nI (ftCF w).1) (nI (ftCG w).1) i23 i24 g104_p0 (ftCL w) (by rw [eg104_p0]; exact hk0 _ _)) (cwV 0 hts gX11_keep_X11_samples rfl rfl rfl (by decide +kernel) ⟨Nat.le_of_ble_eq_true rfl, Nat.le_of_ble_eq_true rfl⟩) (ft_preROV (ci := 11) (q0 := 0) hP hKK [0, 1] rfl rfl rfl) rfl rfl hl.1 rfl (lv_room (Nat.le_of_ble_eq_true rfl)) dX11_keep_106 ⟨Nat.le_of_ble_eq_true rfl, Nat.le_of_ble_eq_true rfl⟩) ?_
              refine lv_icmp_ge (tgt := 131) hx hb dX11_keep_109 (by decide) (fun c109 => ?_) (fun c109 => ?_)
              · have c109n : ((ftCL w) + 60) ≤ x := ft_leN (by omega) (by omega) c109
                refine lv_aload_n hx hb dX11_keep_131 rfl (lv_at hl 0 rfl) ?_
                refine va_get (D := D) (ci := 11) (v := .ref p0) (C := RX11) (T := TX11) (N := 33) hx hb hts (by decide +kernel) hown hK hP 0 rfl rfl 0 (by decide) (hts (.fieldLink RX11 7 "FiberTraceModel" "now" "[I") (by decide +kernel)) (fun _ h9 => h9) rfl dX11_keep_132 ?_
                refine lv_bipush (v := 56) hx hb dX11_keep_135 (by decide) ?_
                refine lv_aload_n hx hb dX11_keep_137 rfl (lv_at hl 0 rfl) ?_
                refine va_get (D := D) (ci := 11) (v := .ref p0) (C := RX11) (T := TX11) (N := 33) hx hb hts (by decide +kernel) hown hK hP 0 rfl rfl 0 (by decide) (hts (.fieldLink RX11 7 "FiberTraceModel" "now" "[I") (by decide +kernel)) (fun _ h9 => h9) rfl dX11_keep_138 ?_
                refine lv_bipush (v := 55) hx hb dX11_keep_141 (by decide) ?_
                refine va_iald hx hb hK hP 1 0 rfl rfl (vp_in_nI (n := 55) (by omega) (by omega)) dX11_keep_143 ?_
                refine ft_top (y := g104_p0 55) rfl ?_
                refine ft_top (y := nI (ftKk w)) (by rw [eg104_p0, ftSeg_lo (by omega)]; exact hks55) ?_
                refine lv_iadd hx hb dX11_keep_144 ?_
                refine ft_top (y := nI (56 + (ftKk w))) (ft_addN 56 (ftKk w)) ?_
                refine lv_aload_n hx hb dX11_keep_145 rfl (lv_at hl 0 rfl) ?_
                refine ft_csi (r := nI ((ftCL w) + 60)) (va_runV (C := RX11) (As := []) (rest := [.int (nI (56 + (ftKk w))), .ref p0]) ⟨hx, hb, hml, hown, hts⟩ (c_X11_samples l D cI cS m0 p0 p1 p3 p5 p10 p12 p13 p14 p16 p17 p19 p20 p21 p22 p25 p26 p27 p28 p29 p30 p31 p32 (nI (min (hm + 1) 5)) i4 i6 i7 i8 i9 i11 (nI (ftCF w).1) (nI (ftCG w).1) i23 i24 g104_p0 (ftCL w) (by rw [eg104_p0]; exact hk0 _ _)) (cwV 0 hts gX11_keep_X11_samples rfl rfl rfl (by decide +kernel) ⟨Nat.le_of_ble_eq_true rfl, Nat.le_of_ble_eq_true rfl⟩) (ft_preROV (ci := 11) (q0 := 0) hP hKK [0, 1] rfl rfl rfl) rfl rfl hl.1 rfl (lv_room (Nat.le_of_ble_eq_true rfl)) dX11_keep_146 ⟨Nat.le_of_ble_eq_true rfl, Nat.le_of_ble_eq_true rfl⟩) ?_
                refine va_iast hx hb hK hP hD hS 1 0 rfl rfl (vp_in_nI (by omega) (by omega)) dX11_keep_149 (fun H locs hP hD hS => ?_)
                rw [nI_clamp (show 56 + (ftKk w) < 2 ^ 31 by omega)] at hP hD
                have hP : va_P D vwCl [(m0, .inr (11, [.ref p0, .ref p1, .int (nI (min (hm + 1) 5)), .ref p3, .int i4, .ref p5, .int i6, .int i7, .int i8, .int i9, .ref p10, .int i11, .ref p12, .ref p13, .ref p14, .int (nI (ftCF w).1), .ref p16, .ref p17, .int (nI (ftCG w).1), .ref p19, .ref p20, .ref p21, .ref p22, .int i23, .int i24, .ref p25, .ref p26, .ref p27, .ref p28, .ref p29, .ref p30, .ref p31, .ref p32])), (p0, .inl (cI, 1439, .inl (upd g104_p0 (56 + (ftKk w)) (nI ((ftCL w) + 60))))), (p12, .inl (cI, 460, .inl (u5 12))), (p13, .inl (cI, 460, .inl (u5 13))), (p14, .inl (cI, 460, .inl (u5 14))), (p16, .inl (cI, 11, .inl (u5 16))), (p17, .inl (cI, 11, .inl (u5 17))), (p19, .inl (cI, 55, .inl (u5 19))), (p20, .inl (cI, 55, .inl (u5 20))), (p21, .inl (cI, 55, .inl (u5 21))), (p22, .inl (cI, 55, .inl (u5 22))), (p1, .inl (cI, 7195, .inl (ftPush w z hm)))] H := hP
                have hD : va_D A [(m0, .inr (11, [.ref p0, .ref p1, .int (nI (min (hm + 1) 5)), .ref p3, .int i4, .ref p5, .int i6, .int i7, .int i8, .int i9, .ref p10, .int i11, .ref p12, .ref p13, .ref p14, .int (nI (ftCF w).1), .ref p16, .ref p17, .int (nI (ftCG w).1), .ref p19, .ref p20, .ref p21, .ref p22, .int i23, .int i24, .ref p25, .ref p26, .ref p27, .ref p28, .ref p29, .ref p30, .ref p31, .ref p32])), (p0, .inl (cI, 1439, .inl (upd g104_p0 (56 + (ftKk w)) (nI ((ftCL w) + 60))))), (p12, .inl (cI, 460, .inl (u5 12))), (p13, .inl (cI, 460, .inl (u5 13))), (p14, .inl (cI, 460, .inl (u5 14))), (p16, .inl (cI, 11, .inl (u5 16))), (p17, .inl (cI, 11, .inl (u5 17))), (p19, .inl (cI, 55, .inl (u5 19))), (p20, .inl (cI, 55, .inl (u5 20))), (p21, .inl (cI, 55, .inl (u5 21))), (p22, .inl (cI, 55, .inl (u5 22))), (p1, .inl (cI, 7195, .inl (ftPush w z hm)))] := hD
                refine lv_aload_n hx hb dX11_keep_150 rfl (lv_at hl 0 rfl) ?_
                refine va_get (D := D) (ci := 11) (v := .ref p0) (C := RX11) (T := TX11) (N := 33) hx hb hts (by decide +kernel) hown hK hP 0 rfl rfl 0 (by decide) (hts (.fieldLink RX11 7 "FiberTraceModel" "now" "[I") (by decide +kernel)) (fun _ h9 => h9) rfl dX11_keep_151 ?_
                refine lv_bipush (v := 55) hx hb dX11_keep_154 (by decide) ?_
                refine lv_dup2_11 hx hb dX11_keep_156 rfl rfl ?_
                refine va_iald hx hb hK hP 1 0 rfl rfl (vp_in_nI (n := 55) (by omega) (by omega)) dX11_keep_157 ?_
                refine ft_top (y := (upd g104_p0 (56 + (ftKk w)) (nI ((ftCL w) + 60))) 55) rfl ?_
                refine ft_top (y := nI (ftKk w)) (by rw [ftUpd_ne (by omega), eg104_p0, ftSeg_lo (by omega)]; exact hks55) ?_
                refine lv_iconst (v := 1) hx hb dX11_keep_158 (by decide) ?_
                refine lv_iadd hx hb dX11_keep_159 ?_
                refine ft_top (y := nI ((ftKk w) + 1)) (ft_addN (ftKk w) 1) ?_
                refine va_iast hx hb hK hP hD hS 1 0 rfl rfl (vp_in_nI (n := 55) (by omega) (by omega)) dX11_keep_160 (fun H locs hP hD hS => ?_)
                have hP : va_P D vwCl [(m0, .inr (11, [.ref p0, .ref p1, .int (nI (min (hm + 1) 5)), .ref p3, .int i4, .ref p5, .int i6, .int i7, .int i8, .int i9, .ref p10, .int i11, .ref p12, .ref p13, .ref p14, .int (nI (ftCF w).1), .ref p16, .ref p17, .int (nI (ftCG w).1), .ref p19, .ref p20, .ref p21, .ref p22, .int i23, .int i24, .ref p25, .ref p26, .ref p27, .ref p28, .ref p29, .ref p30, .ref p31, .ref p32])), (p0, .inl (cI, 1439, .inl (upd (upd g104_p0 (56 + (ftKk w)) (nI ((ftCL w) + 60))) 55 (nI ((ftKk w) + 1))))), (p12, .inl (cI, 460, .inl (u5 12))), (p13, .inl (cI, 460, .inl (u5 13))), (p14, .inl (cI, 460, .inl (u5 14))), (p16, .inl (cI, 11, .inl (u5 16))), (p17, .inl (cI, 11, .inl (u5 17))), (p19, .inl (cI, 55, .inl (u5 19))), (p20, .inl (cI, 55, .inl (u5 20))), (p21, .inl (cI, 55, .inl (u5 21))), (p22, .inl (cI, 55, .inl (u5 22))), (p1, .inl (cI, 7195, .inl (ftPush w z hm)))] H := hP
                have hD : va_D A [(m0, .inr (11, [.ref p0, .ref p1, .int (nI (min (hm + 1) 5)), .ref p3, .int i4, .ref p5, .int i6, .int i7, .int i8, .int i9, .ref p10, .int i11, .ref p12, .ref p13, .ref p14, .int (nI (ftCF w).1), .ref p16, .ref p17, .int (nI (ftCG w).1), .ref p19, .ref p20, .ref p21, .ref p22, .int i23, .int i24, .ref p25, .ref p26, .ref p27, .ref p28, .ref p29, .ref p30, .ref p31, .ref p32])), (p0, .inl (cI, 1439, .inl (upd (upd g104_p0 (56 + (ftKk w)) (nI ((ftCL w) + 60))) 55 (nI ((ftKk w) + 1))))), (p12, .inl (cI, 460, .inl (u5 12))), (p13, .inl (cI, 460, .inl (u5 13))), (p14, .inl (cI, 460, .inl (u5 14))), (p16, .inl (cI, 11, .inl (u5 16))), (p17, .inl (cI, 11, .inl (u5 17))), (p19, .inl (cI, 55, .inl (u5 19))), (p20, .inl (cI, 55, .inl (u5 20))), (p21, .inl (cI, 55, .inl (u5 21))), (p22, .inl (cI, 55, .inl (u5 22))), (p1, .inl (cI, 7195, .inl (ftPush w z hm)))] := hD
                refine lv_aload_n hx hb dX11_keep_161 rfl (lv_at hl 0 rfl) ?_
                refine va_get (D := D) (ci := 11) (v := .ref p0) (C := RX11) (T := TX11) (N := 33) hx hb hts (by decide +kernel) hown hK hP 0 rfl rfl 0 (by decide) (hts (.fieldLink RX11 7 "FiberTraceModel" "now" "[I") (by decide +kernel)) (fun _ h9 => h9) rfl dX11_keep_162 ?_
                refine lv_bipush (v := 55) hx hb dX11_keep_165 (by decide) ?_
                refine va_iald hx hb hK hP 1 0 rfl rfl (vp_in_nI (n := 55) (by omega) (by omega)) dX11_keep_167 ?_
                refine ft_top (y := (upd (upd g104_p0 (56 + (ftKk w)) (nI ((ftCL w) + 60))) 55 (nI ((ftKk w) + 1))) 55) rfl ?_
                refine ft_top (y := nI ((ftKk w) + 1)) (ftUpd1 _ _ _) ?_
                obtain ⟨u9, hu9⟩ : ∃ u9 : (Nat → Int32) × (Nat → Nat → Int32), u9 = ((fun k => match k with | 15 => (nI (ftCF w).1) | _ => (nI (ftCG w).1)), (fun k => match k with | 12 => (u5 12) | 13 => (u5 13) | 14 => (u5 14) | 16 => (u5 16) | 17 => (u5 17) | 19 => (u5 19) | 20 => (u5 20) | 21 => (u5 21) | _ => (u5 22))) := ⟨_, rfl⟩
                have hw9 : ([(m0, .inr (11, [.ref p0, .ref p1, .int (nI (min (hm + 1) 5)), .ref p3, .int i4, .ref p5, .int i6, .int i7, .int i8, .int i9, .ref p10, .int i11, .ref p12, .ref p13, .ref p14, .int (nI (ftCF w).1), .ref p16, .ref p17, .int (nI (ftCG w).1), .ref p19, .ref p20, .ref p21, .ref p22, .int i23, .int i24, .ref p25, .ref p26, .ref p27, .ref p28, .ref p29, .ref p30, .ref p31, .ref p32])), (p0, .inl (cI, 1439, .inl (upd (upd g104_p0 (56 + (ftKk w)) (nI ((ftCL w) + 60))) 55 (nI ((ftKk w) + 1))))), (p12, .inl (cI, 460, .inl (u5 12))), (p13, .inl (cI, 460, .inl (u5 13))), (p14, .inl (cI, 460, .inl (u5 14))), (p16, .inl (cI, 11, .inl (u5 16))), (p17, .inl (cI, 11, .inl (u5 17))), (p19, .inl (cI, 55, .inl (u5 19))), (p20, .inl (cI, 55, .inl (u5 20))), (p21, .inl (cI, 55, .inl (u5 21))), (p22, .inl (cI, 55, .inl (u5 22))), (p1, .inl (cI, 7195, .inl (ftPush w z hm)))] : va_W) = [(m0, .inr (11, [.ref p0, .ref p1, .int (nI (min (hm + 1) 5)), .ref p3, .int i4, .ref p5, .int i6, .int i7, .int i8, .int i9, .ref p10, .int i11, .ref p12, .ref p13, .ref p14, .int (u9.1 15), .ref p16, .ref p17, .int (u9.1 18), .ref p19, .ref p20, .ref p21, .ref p22, .int i23, .int i24, .ref p25, .ref p26, .ref p27, .ref p28, .ref p29, .ref p30, .ref p31, .ref p32])), (p0, .inl (cI, 1439, .inl (ftKeep w))), (p12, .inl (cI, 460, .inl (u9.2 12))), (p13, .inl (cI, 460, .inl (u9.2 13))), (p14, .inl (cI, 460, .inl (u9.2 14))), (p16, .inl (cI, 11, .inl (u9.2 16))), (p17, .inl (cI, 11, .inl (u9.2 17))), (p19, .inl (cI, 55, .inl (u9.2 19))), (p20, .inl (cI, 55, .inl (u9.2 20))), (p21, .inl (cI, 55, .inl (u9.2 21))), (p22, .inl (cI, 55, .inl (u9.2 22))), (p1, .inl (cI, 7195, .inl (ftPush w z hm)))] := by rw [hu9, eg104_p0, show x = ftCL w + 60 by omega]; rfl
                rw [hw9] at hP hD
                have hr9 : (nI ((ftKk w) + 1) : Int32) = nI (ftKk w + 1) := by exact rfl
                exact W.iret (v := nI ((ftKk w) + 1)) hx hb hr (fun t ht hW => ⟨⟨nI ((ftKk w) + 1), u9, rfl, ⟨hr9, trivial⟩, by rw [ht]; exact hP, by rw [hAe]; exact hD⟩, by rw [hAe]; exact hS.F ht⟩) hS.2.2 dX11_keep_168
              · have c109n : x < ((ftCL w) + 60) := ft_nleN (by omega) (by omega) c109
                refine lv_aload_n hx hb dX11_keep_112 rfl (lv_at hl 0 rfl) ?_
                refine va_get (D := D) (ci := 11) (v := .ref p0) (C := RX11) (T := TX11) (N := 33) hx hb hts (by decide +kernel) hown hK hP 0 rfl rfl 0 (by decide) (hts (.fieldLink RX11 7 "FiberTraceModel" "now" "[I") (by decide +kernel)) (fun _ h9 => h9) rfl dX11_keep_113 ?_
                refine lv_iload_n hx hb dX11_keep_116 rfl (lv_at hl 1 rfl) ?_
                refine lv_iload_n hx hb dX11_keep_117 rfl (lv_at hl 2 rfl) ?_
                refine lv_iadd hx hb dX11_keep_118 ?_
                refine ft_top (y := nI ((59 + (460 * (ftKk w))) + x)) (ft_addN (59 + (460 * (ftKk w))) x) ?_
                refine lv_aload_n hx hb dX11_keep_119 rfl (lv_at hl 0 rfl) ?_
                refine lv_iload_n hx hb dX11_keep_120 rfl (lv_at hl 2 rfl) ?_
                refine ft_csi (r := (u5 12) x + (u5 13) x + (u5 14) x) (va_runV (C := RX11) (As := [.int (nI x)]) (rest := [.int (nI ((59 + (460 * (ftKk w))) + x)), .ref p0]) ⟨hx, hb, hml, hown, hts⟩ (c_X11_v l D cI cS m0 p0 p1 p3 p5 p10 p12 p13 p14 p16 p17 p19 p20 p21 p22 p25 p26 p27 p28 p29 p30 p31 p32 (nI (min (hm + 1) 5)) i4 i6 i7 i8 i9 i11 (nI (ftCF w).1) (nI (ftCG w).1) i23 i24 (u5 12) (u5 13) (u5 14) x (by first | assumption | omega)) (cwV 1 hts gX11_keep_X11_v rfl rfl rfl (by decide +kernel) ⟨Nat.le_of_ble_eq_true rfl, Nat.le_of_ble_eq_true rfl⟩) (ft_preROV (ci := 11) (q0 := 0) hP hKK [0, 2, 3, 4] rfl rfl rfl) rfl rfl hl.1 rfl (lv_room (Nat.le_of_ble_eq_true rfl)) dX11_keep_121 ⟨Nat.le_of_ble_eq_true rfl, Nat.le_of_ble_eq_true rfl⟩) ?_
                refine ft_top (y := ftCV w x) (by rw [(hb5 x (by omega)).1, (hb5 x (by omega)).2.1, (hb5 x (by omega)).2.2]; rfl) ?_
                refine va_iast hx hb hK hP hD hS 1 0 rfl rfl (vp_in_nI (by omega) (by omega)) dX11_keep_124 (fun H locs hP hD hS => ?_)
                rw [nI_clamp (show (59 + (460 * (ftKk w))) + x < 2 ^ 31 by omega)] at hP hD
                have hP : va_P D vwCl [(m0, .inr (11, [.ref p0, .ref p1, .int (nI (min (hm + 1) 5)), .ref p3, .int i4, .ref p5, .int i6, .int i7, .int i8, .int i9, .ref p10, .int i11, .ref p12, .ref p13, .ref p14, .int (nI (ftCF w).1), .ref p16, .ref p17, .int (nI (ftCG w).1), .ref p19, .ref p20, .ref p21, .ref p22, .int i23, .int i24, .ref p25, .ref p26, .ref p27, .ref p28, .ref p29, .ref p30, .ref p31, .ref p32])), (p0, .inl (cI, 1439, .inl (upd g104_p0 ((59 + (460 * (ftKk w))) + x) (ftCV w x)))), (p12, .inl (cI, 460, .inl (u5 12))), (p13, .inl (cI, 460, .inl (u5 13))), (p14, .inl (cI, 460, .inl (u5 14))), (p16, .inl (cI, 11, .inl (u5 16))), (p17, .inl (cI, 11, .inl (u5 17))), (p19, .inl (cI, 55, .inl (u5 19))), (p20, .inl (cI, 55, .inl (u5 20))), (p21, .inl (cI, 55, .inl (u5 21))), (p22, .inl (cI, 55, .inl (u5 22))), (p1, .inl (cI, 7195, .inl (ftPush w z hm)))] H := hP
                have hD : va_D A [(m0, .inr (11, [.ref p0, .ref p1, .int (nI (min (hm + 1) 5)), .ref p3, .int i4, .ref p5, .int i6, .int i7, .int i8, .int i9, .ref p10, .int i11, .ref p12, .ref p13, .ref p14, .int (nI (ftCF w).1), .ref p16, .ref p17, .int (nI (ftCG w).1), .ref p19, .ref p20, .ref p21, .ref p22, .int i23, .int i24, .ref p25, .ref p26, .ref p27, .ref p28, .ref p29, .ref p30, .ref p31, .ref p32])), (p0, .inl (cI, 1439, .inl (upd g104_p0 ((59 + (460 * (ftKk w))) + x) (ftCV w x)))), (p12, .inl (cI, 460, .inl (u5 12))), (p13, .inl (cI, 460, .inl (u5 13))), (p14, .inl (cI, 460, .inl (u5 14))), (p16, .inl (cI, 11, .inl (u5 16))), (p17, .inl (cI, 11, .inl (u5 17))), (p19, .inl (cI, 55, .inl (u5 19))), (p20, .inl (cI, 55, .inl (u5 20))), (p21, .inl (cI, 55, .inl (u5 21))), (p22, .inl (cI, 55, .inl (u5 22))), (p1, .inl (cI, 7195, .inl (ftPush w z hm)))] := hD
                refine lv_iinc (v := nI (x + 1)) (lv' := [(2, .int (nI (x + 1))), (0, .ref m0), (1, .int (nI (59 + (460 * (ftKk w)))))]) hx hb dX11_keep_125 hl (k := 2) rfl (ft_inc x) (by decide) rfl (fun ls hl => ?_)
                refine lv_goto (tgt := 104) hx hb dX11_keep_128 (by decide) ?_
                exact ih104 (x + 1) (nI (x + 1)) (upd g104_p0 ((59 + (460 * (ftKk w))) + x) (ftCV w x)) (by omega) (by omega) (by first | rfl | assumption) (by rw [eg104_p0]; exact ftSeg_s) _ _ hP hD hS ls (lv_sub hl [1, 2, 0] rfl)
          exact lp104 _ 0 0 (upd g50_p0 55 2) (Nat.lt_succ_self _) (by omega) (by rfl) (by first | (rw [hks]; exact ftSeg_0 _ _ _) | (rw [ftKs, if_pos hck, eg50_p0, show j = 979 by omega]; exact ftSeg_0 _ _ _)) _ _ hP hD hS ls (lv_sub hl [2, 1, 0] rfl)
        · have c54n : j < 979 := ft_nleN (by omega) (by omega) c54
          refine lv_aload_n hx hb dX11_keep_57 rfl (lv_at hl 0 rfl) ?_
          refine va_get (D := D) (ci := 11) (v := .ref p0) (C := RX11) (T := TX11) (N := 33) hx hb hts (by decide +kernel) hown hK hP 0 rfl rfl 0 (by decide) (hts (.fieldLink RX11 7 "FiberTraceModel" "now" "[I") (by decide +kernel)) (fun _ h9 => h9) rfl dX11_keep_58 ?_
          refine lv_iload_n hx hb dX11_keep_61 rfl (lv_at hl 1 rfl) ?_
          refine lv_aload_n hx hb dX11_keep_62 rfl (lv_at hl 0 rfl) ?_
          refine va_get (D := D) (ci := 11) (v := .ref p0) (C := RX11) (T := TX11) (N := 33) hx hb hts (by decide +kernel) hown hK hP 0 rfl rfl 0 (by decide) (hts (.fieldLink RX11 7 "FiberTraceModel" "now" "[I") (by decide +kernel)) (fun _ h9 => h9) rfl dX11_keep_63 ?_
          refine lv_iload_n hx hb dX11_keep_66 rfl (lv_at hl 1 rfl) ?_
          refine lv_sipush (v := 460) hx hb dX11_keep_67 (by decide) ?_
          refine lv_iadd hx hb dX11_keep_70 ?_
          refine ft_top (y := nI (j + 460)) (ft_addN j 460) ?_
          refine va_iald hx hb hK hP 1 0 rfl rfl (vp_in_nI (by omega) (by omega)) dX11_keep_71 ?_
          refine ft_top (y := g50_p0 (j + 460)) (ft_clampN (by omega)) ?_
          refine va_iast hx hb hK hP hD hS 1 0 rfl rfl (vp_in_nI (by omega) (by omega)) dX11_keep_72 (fun H locs hP hD hS => ?_)
          rw [nI_clamp (show j < 2 ^ 31 by omega)] at hP hD
          have hP : va_P D vwCl [(m0, .inr (11, [.ref p0, .ref p1, .int (nI (min (hm + 1) 5)), .ref p3, .int i4, .ref p5, .int i6, .int i7, .int i8, .int i9, .ref p10, .int i11, .ref p12, .ref p13, .ref p14, .int (nI (ftCF w).1), .ref p16, .ref p17, .int (nI (ftCG w).1), .ref p19, .ref p20, .ref p21, .ref p22, .int i23, .int i24, .ref p25, .ref p26, .ref p27, .ref p28, .ref p29, .ref p30, .ref p31, .ref p32])), (p0, .inl (cI, 1439, .inl (upd g50_p0 j (g50_p0 (j + 460))))), (p12, .inl (cI, 460, .inl (u5 12))), (p13, .inl (cI, 460, .inl (u5 13))), (p14, .inl (cI, 460, .inl (u5 14))), (p16, .inl (cI, 11, .inl (u5 16))), (p17, .inl (cI, 11, .inl (u5 17))), (p19, .inl (cI, 55, .inl (u5 19))), (p20, .inl (cI, 55, .inl (u5 20))), (p21, .inl (cI, 55, .inl (u5 21))), (p22, .inl (cI, 55, .inl (u5 22))), (p1, .inl (cI, 7195, .inl (ftPush w z hm)))] H := hP
          have hD : va_D A [(m0, .inr (11, [.ref p0, .ref p1, .int (nI (min (hm + 1) 5)), .ref p3, .int i4, .ref p5, .int i6, .int i7, .int i8, .int i9, .ref p10, .int i11, .ref p12, .ref p13, .ref p14, .int (nI (ftCF w).1), .ref p16, .ref p17, .int (nI (ftCG w).1), .ref p19, .ref p20, .ref p21, .ref p22, .int i23, .int i24, .ref p25, .ref p26, .ref p27, .ref p28, .ref p29, .ref p30, .ref p31, .ref p32])), (p0, .inl (cI, 1439, .inl (upd g50_p0 j (g50_p0 (j + 460))))), (p12, .inl (cI, 460, .inl (u5 12))), (p13, .inl (cI, 460, .inl (u5 13))), (p14, .inl (cI, 460, .inl (u5 14))), (p16, .inl (cI, 11, .inl (u5 16))), (p17, .inl (cI, 11, .inl (u5 17))), (p19, .inl (cI, 55, .inl (u5 19))), (p20, .inl (cI, 55, .inl (u5 20))), (p21, .inl (cI, 55, .inl (u5 21))), (p22, .inl (cI, 55, .inl (u5 22))), (p1, .inl (cI, 7195, .inl (ftPush w z hm)))] := hD
          refine lv_iinc (v := nI (j + 1)) (lv' := [(1, .int (nI (j + 1))), (0, .ref m0)]) hx hb dX11_keep_73 hl (k := 1) rfl (ft_inc j) (by decide) rfl (fun ls hl => ?_)
          refine lv_goto (tgt := 50) hx hb dX11_keep_76 (by decide) ?_
          exact ih50 (j + 1) (nI (j + 1)) (upd g50_p0 j (g50_p0 (j + 460))) (by omega) (by omega) (by omega) (by first | rfl | assumption) (by rw [eg50_p0]; exact ftShK_s hj1) _ _ hP hD hS ls (lv_sub hl [1, 0] rfl)
    exact lp50 _ 59 59 (upd (upd w 56 (w 57)) 57 (w 58)) (Nat.lt_succ_self _) (by omega) (by omega) (by rfl) (by exact ftShK_0 _) _ _ hP hD hS ls (lv_sub hl [1, 0] rfl)
end
section
/-! what lies outside the worlds: texts, tables of the class -/
def ftLe : List Nat := [6, 11, 3, 6, 9, 6]
def ftBy : List (List Int32) := [[108, 101, 110, 103, 116, 104], [97, 116, 116, 101, 110, 117, 97, 116, 105, 111, 110], [101, 110, 100], [115, 112, 108, 105, 99, 101], [99, 111, 110, 110, 101, 99, 116, 111, 114], [99, 104, 97, 110, 103, 101]]
def ftNi : List Nat := [97, 98, 100, 102, 104, 106]
def ftNt : List String := ["length", "attenuation", "end", "splice", "connector", "change"]
def ftTbs : List (List Int32) := [[1, 100, 0, 0, 1, 0, 10, 5, 0, 0, 0], [20, 5000, 40000, 400, 32, 65535, 5000, 2000, 40000, 20, 2000], [5, 1500, 9000, 0, 4, 1, 600, 60, 8000, 3, 150]]
def ftTb (k : Nat) : Nat → Int32 := fun j => (ftTbs.getD k []).getD j 0
def ftTn9 : List String := ["LEAST_VALUES", "GREATEST_VALUES", "FIRST_VALUES"]
def ftSt (sK sV : Nat → Nat) (A : Nat → Prop) (U : State) (H : Heap) : Prop :=
  vk_S 6 ftLe ftBy sK sV A U H ∧ va_Z "java/lang/String" "COMPACT_STRINGS" "Z" (.int 1) A U H ∧ va_Zq "jdk/internal/util/Preconditions" "SIOOBE_FORMATTER" "Ljava/util/function/BiFunction;" A U H ∧ (∀ i, i < 6 → vk_R RX5 (ftNi.getD i 0) (ftNt.getD i "") (sK i) U) ∧ (∀ k, k < 3 → va_T .int (sV (6 + k)) 11 (fun j => .int (ftTb k j)) A U H) ∧ ∀ k, k < 3 → va_Z "FiberTrace" (ftTn9.getD k "") "[I" (.ref (sV (6 + k))) A U H
theorem ftSt.go {sK sV : Nat → Nat} {A B : Nat → Prop} {s U : State} {H : Heap} {locs : List Loc} (h : ftSt sK sV A s s.heap) (hS : va_S A s.heap H locs) (hB : ∀ q, B q → A q) (hU : U.heap = H) (hW : s.WarmedH U.vm) : ftSt sK sV B U U.heap := by
  obtain ⟨h1, h2, h3, h4, h5, h6⟩ := h
  rw [hU]
  exact ⟨vk_S.moved hW.alike ((h1.kept hS.2.1).narrow hB), va_Z.moved hW.alike ((h2.kept hS.2.1).narrow hB), va_Zq.moved hW.alike ((h3.kept hS.2.1).narrow hB), fun i hi => vk_R.warm hW (h4 i hi), fun k hk => va_T.moved hW.alike (((h5 k hk).kept hS.2.1).narrow hB), fun k hk => va_Z.moved hW.alike (((h6 k hk).kept hS.2.1).narrow hB)⟩
theorem ftSt.call {sK sV : Nat → Nat} {A : Nat → Prop} {U : State} {g : JFrame} {mk : MethodId} {a : Array Value} (h : ftSt sK sV A U U.heap) : ftSt sK sV A (U.calling g mk a) (U.calling g mk a).heap := by
  obtain ⟨h1, h2, h3, h4, h5, h6⟩ := h
  have al : U.vm.Alike (U.calling g mk a).vm := Vm.Alike.refl U.vm
  exact ⟨vk_S.moved al h1, va_Z.moved al h2, va_Zq.moved al h3, fun i hi => vk_R.same (u := U) rfl (h4 i hi), fun k hk => va_T.moved al (h5 k hk), fun k hk => va_Z.moved al (h6 k hk)⟩
abbrev ftROS (D : va_G) (cI cS : ClassId) (sK sV : Nat → Nat) (av : List Value) (ws : va_W) : Array Value → State → Prop := va_Pc av (fun U => va_P D vwCl ws U.heap ∧ ftK D cI cS U ∧ ftSt sK sV (fun _ => False) U U.heap)
abbrev ftRWS (D : va_G) (cI cS : ClassId) (sK sV : Nat → Nat) (av : List Value) (ws : va_W) (sz : Nat) : Array Value → State → Prop := va_Pc av (fun U => U.heap.size = sz ∧ va_P D vwCl ws U.heap ∧ ftK D cI cS U ∧ va_D (fun _ => True) ws ∧ ftSt sK sV (va_A ws sz) U U.heap)
theorem ft_blindROS {D : va_G} {cI cS : ClassId} {sK sV : Nat → Nat} {av : List Value} {ws : va_W} : FrameBlind (ftROS D cI cS sK sV av ws) := fun a U g mk q => ⟨q.1, q.2.1, q.2.2.1.call, q.2.2.2.call⟩
theorem ft_blindRWS {D : va_G} {cI cS : ClassId} {sK sV : Nat → Nat} {av : List Value} {ws : va_W} {sz : Nat} : FrameBlind (ftRWS D cI cS sK sV av ws sz) := fun a U g mk q => ⟨q.1, q.2.1, q.2.2.1, q.2.2.2.1.call, q.2.2.2.2.1, q.2.2.2.2.2.call⟩
/-- the end of one that writes nothing and answers nothing -/
def ftSv : Array Value → State → Outcome → State → Prop := fun _ st oc t => oc = .returned none ∧ t.heap = st.heap
theorem ft_csv {p : Program} {l : Launch} {e : Env} {R : Room} {s : State} {m : MethodId} {args : Array Value} {below : List Frame} {meth : Method} {c : Code} {H : Heap} {locs : List Loc} {cells slots : Nat} {Q : State → Prop} {a : Array Value} {st0 rest : List Value} {pc : Nat} {ls : Array Slot} (hr : va_Run p l e R s m args below meth c H locs cells slots 0 0 (F0 m pc ls st0) rest (ftSv a) (fun _ => False))
    (kk : W p l e R s m args below meth c H locs cells slots Q (F0 m (pc + 3) ls rest)) : W p l e R s m args below meth c H locs cells slots Q (F0 m pc ls st0) := by
  intro T hT X
  obtain ⟨v, st₀, t, T', L, h0, X', hL, e1, -, ⟨hv, hh⟩, st⟩ := hr T hT X
  cases hv
  obtain ⟨t2, a1, b1⟩ := kk T' (by rw [e1, hh, h0]) (Stand.forget X' (fun q h => (hL q h).elim))
  exact ⟨t2, st t2 a1, b1⟩
section FTST
variable {D : va_G} {cI cS : ClassId} {sK sV : Nat → Nat} {As : List Value} {ws wc : va_W} {s : State} {H : Heap} {A : Nat → Prop} {locs : List Loc}
theorem ft_preROS (hP : va_P D vwCl ws H) (hK : ftK D cI cS s) (hSt : ftSt sK sV A s s.heap) (hS : va_S A s.heap H locs) (is : List Nat) (hs : is.filterMap (fun i => ws[i]?) = wc) : PreS s H (ftROS D cI cS sK sV As wc) As :=
  ⟨ft_blindROS, fun U hU hW => ⟨rfl, by rw [hU]; exact hP.sub is hs, hK.warm hW, hSt.go hS (fun _ h => h.elim) hU hW⟩⟩
theorem ft_preROVS {a q0 ci : Nat} {q : vw_C} {fs : List Value} (hP : va_P D vwCl ws H) (hK : ftK D cI cS s) (hSt : ftSt sK sV A s s.heap) (hS : va_S A s.heap H locs) (is : List Nat) (hs : is.filterMap (fun i => ws[i]?) = wc) (hc : vwCl[ci]? = some q) (he : ws[q0]? = some (a, .inr (ci, fs))) : PreV s H q.1 a (ftROS D cI cS sK sV (.ref a :: As) wc) As :=
  ⟨ft_blindROS, va_recv hK.1 hP hc he, fun U hU hW => ⟨rfl, by rw [hU]; exact hP.sub is hs, hK.warm hW, hSt.go hS (fun _ h => h.elim) hU hW⟩⟩
theorem ft_preJ {a : Nat} {C : String} (hP : va_P D vwCl ws H) (hK : ftK D cI cS s) (hSt : ftSt sK sV A s s.heap) (hS : va_S A s.heap H locs) (hr : ∃ cell : Cell, H[a]? = some cell ∧ cell.vm.isStatics = false ∧ s.vm.findClass C = some cell.cls) (is : List Nat) (hs : is.filterMap (fun i => ws[i]?) = wc) : PreV s H C a (ftROS D cI cS sK sV (.ref a :: As) wc) As :=
  ⟨ft_blindROS, hr, fun U hU hW => ⟨rfl, by rw [hU]; exact hP.sub is hs, hK.warm hW, hSt.go hS (fun _ h => h.elim) hU hW⟩⟩
theorem ft_preRWS (hP : va_P D vwCl ws H) (hD : va_D A ws) (hK : ftK D cI cS s) (hSt : ftSt sK sV A s s.heap) (hS : va_S A s.heap H locs) (hA : ∀ q, s.heap.size ≤ q → A q) (is : List Nat) (hs : is.filterMap (fun i => ws[i]?) = wc) (hn : va_nd is = true) (hm : is.map (fun i => ws[i]?) = wc.map some) : PreS s H (ftRWS D cI cS sK sV As wc H.size) As :=
  ⟨ft_blindRWS, fun U hU hW => ⟨rfl, by rw [hU], by rw [hU]; exact hP.sub is hs, hK.warm hW, (hD.sub is hn hm).weaken (fun _ _ _ _ => trivial), hSt.go hS (va_free hD hS hA is hm) hU hW⟩⟩
theorem ft_preRWVS {a q0 ci : Nat} {q : vw_C} {fs : List Value} (hP : va_P D vwCl ws H) (hD : va_D A ws) (hK : ftK D cI cS s) (hSt : ftSt sK sV A s s.heap) (hS : va_S A s.heap H locs) (hA : ∀ q, s.heap.size ≤ q → A q) (is : List Nat) (hs : is.filterMap (fun i => ws[i]?) = wc) (hn : va_nd is = true) (hm : is.map (fun i => ws[i]?) = wc.map some) (hc : vwCl[ci]? = some q) (he : ws[q0]? = some (a, .inr (ci, fs))) : PreV s H q.1 a (ftRWS D cI cS sK sV (.ref a :: As) wc H.size) As :=
  ⟨ft_blindRWS, va_recv hK.1 hP hc he, fun U hU hW => ⟨rfl, by rw [hU], by rw [hU]; exact hP.sub is hs, hK.warm hW, (hD.sub is hn hm).weaken (fun _ _ _ _ => trivial), hSt.go hS (va_free hD hS hA is hm) hU hW⟩⟩
end FTST
/-- a text's letters are those of the reference's words -/
theorem ftBy_lt : ∀ j, j < 6 → ∀ t, t < ftLe.getD j 0 → (ftBy.getD j []).getD t 0 &&& 255 = ftLt (nI (100 * j + t)) ∧ (((ftBy.getD j []).getD t 0 &&& 255).toUInt32 % 65536).toInt32 = (ftBy.getD j []).getD t 0 &&& 255 ∧ narrow .char (.int ((ftBy.getD j []).getD t 0 &&& 255)) = .int ((ftBy.getD j []).getD t 0 &&& 255) := by decide +kernel
theorem ftLe_ws : ∀ j, j < 6 → ftLe.getD j 0 = ftWs j := by decide +kernel
theorem ftTb_le : ∀ k, k < 11 → ftTb 0 k = ftLeast (nI k) ∧ ftTb 1 k = ftMost (nI k) ∧ ftTb 2 k = ftFirst (nI k) := by decide +kernel
set_option maxHeartbeats 4000000 in
set_option maxRecDepth 100000 in
theorem c_J0_coder_7d493 (l : Launch) (D : va_G) (cI cS : ClassId) (sK sV : Nat → Nat) (j : Nat) (hj : j < 6) : Met l yJ0_coder_7d493 wsJ0_coder_7d493 ({ frames := 0, cells := 0, slots := 0, locals := 0 }) (ftROS D cI cS sK sV [.ref (sK j)] []) (vp_Si (fun o9 => o9 = 0)) 0 0 (fun _ => False) := by
  refine ft_ofWF (cc := cJ0_coder_7d493) (maxL := 1) (ret := (some .byte)) (by decide +kernel) rfl ?_
  intro p e s m args below meth c s₁ B hml hv
  obtain ⟨rfl, hP, hKK, hSt⟩ := hv
  have hS : va_S (fun _ => False) s.heap s.heap [] := va_S.rf
  have hK := hKK.1
  have hx := B.exec
  have hb := B.bytes
  have hr := B.returns
  have hts := atoms_spec (ws := wsJ0_coder_7d493) B.pre
  have hown : s.vm.findClass RJ0 = some m.cls := findClass_of_methodNamed B.named
  have hlocks := B.notSynchronized
  have hP : va_P D vwCl [] s.heap := hP
  have hl := lv_entry ([.ref (sK j)]) (n := 1) (Nat.le_of_ble_eq_true rfl)
  rw [lg_entry_eq]
  generalize (lg_sl ([.ref (sK j)]) ++ List.replicate (1 - (lg_sl ([.ref (sK j)])).length) Slot.unset).toArray = ls at hl ⊢
  have hl : lv_has ls 1 [(0, .ref (sK j))] := hl
  refine va_gets hx hb hSt.2.1 hS hown (hts (.fieldLink RJ0 38 "java/lang/String" "COMPACT_STRINGS" "Z") (by decide +kernel)) (fun _ h9 => h9) dJ0_coder_7d493_0 ?_
  refine lv_if_eq (tgt := 13) hx hb dJ0_coder_7d493_3 (by decide) (fun c3 => ?_) (fun c3 => ?_)
  · exact absurd c3 (by decide)
  · refine lv_aload_n hx hb dJ0_coder_7d493_6 rfl (lv_at hl 0 rfl) ?_
    refine vk_getf hx hb (hSt.1.1 j hj).2.1 hS hown (hts (.fieldLink RJ0 15 "java/lang/String" "coder" "B") (by decide +kernel)) (fun _ h9 => h9) dJ0_coder_7d493_7 ?_
    refine lv_goto (tgt := 14) hx hb dJ0_coder_7d493_10 (by decide) ?_
    exact W.zret (v := 0) hx hb hr (by rfl) (fun t ht hW => ⟨0, rfl, rfl, ht⟩) (fun _ h9 => absurd h9 List.not_mem_nil) dJ0_coder_7d493_14
set_option maxHeartbeats 4000000 in
set_option maxRecDepth 100000 in
theorem c_J0_length_8abf5 (l : Launch) (D : va_G) (cI cS : ClassId) (sK sV : Nat → Nat) (j : Nat) (hj : j < 6) : Met l yJ0_length_8abf5 wsJ0_length_8abf5 ({ frames := 1, cells := 0, slots := 0, locals := 20 }) (ftROS D cI cS sK sV [.ref (sK j)] []) (vp_Si (fun o9 => o9 = nI (ftWs j))) 0 0 (fun _ => False) := by
  refine ft_ofWF (cc := cJ0_length_8abf5) (maxL := 1) (ret := (some .int)) (by decide +kernel) rfl ?_
  intro p e s m args below meth c s₁ B hml hv
  obtain ⟨rfl, hP, hKK, hSt⟩ := hv
  have hS : va_S (fun _ => False) s.heap s.heap [] := va_S.rf
  have hK := hKK.1
  have hx := B.exec
  have hb := B.bytes
  have hr := B.returns
  have hts := atoms_spec (ws := wsJ0_length_8abf5) B.pre
  have hown : s.vm.findClass RJ0 = some m.cls := findClass_of_methodNamed B.named
  have hlocks := B.notSynchronized
  have hP : va_P D vwCl [] s.heap := hP
  have hl := lv_entry ([.ref (sK j)]) (n := 1) (Nat.le_of_ble_eq_true rfl)
  rw [lg_entry_eq]
  generalize (lg_sl ([.ref (sK j)]) ++ List.replicate (1 - (lg_sl ([.ref (sK j)])).length) Slot.unset).toArray = ls at hl ⊢
  have hl : lv_has ls 1 [(0, .ref (sK j))] := hl
  refine lv_aload_n hx hb dJ0_length_8abf5_0 rfl (lv_at hl 0 rfl) ?_
  refine vk_getf hx hb (hSt.1.1 j hj).2.2.1 hS hown (hts (.fieldLink RJ0 9 "java/lang/String" "value" "[B") (by decide +kernel)) (fun _ h9 => h9) dJ0_length_8abf5_1 ?_
  refine va_tlen (v := nI (ftWs j)) hx hb (hSt.1.1 j hj).2.2.2 hS (congrArg Int32.ofNat (ftLe_ws j hj)) dJ0_length_8abf5_4 ?_
  refine lv_aload_n hx hb dJ0_length_8abf5_5 rfl (lv_at hl 0 rfl) ?_
  refine ft_csi (r := 0) (va_runV (C := RJ0) (As := []) (rest := [.int (nI (ftWs j))]) ⟨hx, hb, hml, hown, hts⟩ (c_J0_coder_7d493 l D cI cS sK sV j (by first | assumption | omega)) (cwV 0 hts gJ0_length_8abf5_J0_coder_7d493 rfl rfl rfl (by decide +kernel) ⟨Nat.le_of_ble_eq_true rfl, Nat.le_of_ble_eq_true rfl⟩) (ft_preJ (a := sK j) hP hKK hSt hS (vk_recv hSt.1 (by omega) hS) [] rfl) rfl rfl hl.1 rfl (lv_room (Nat.le_of_ble_eq_true rfl)) dJ0_length_8abf5_6 ⟨Nat.le_of_ble_eq_true rfl, Nat.le_of_ble_eq_true rfl⟩) ?_
  refine lv_ishr hx hb dJ0_length_8abf5_9 ?_
  refine ft_top (y := nI (ftWs j)) (sc_shr0 (Nat.lt_of_le_of_lt (ftWs_le j) (by omega))) ?_
  exact W.iret (v := nI (ftWs j)) hx hb hr (fun t ht hW => ⟨nI (ftWs j), rfl, rfl, ht⟩) (fun _ h9 => absurd h9 List.not_mem_nil) dJ0_length_8abf5_10
set_option maxHeartbeats 4000000 in
set_option maxRecDepth 100000 in
theorem c_J0_isLatin1_aae02 (l : Launch) (D : va_G) (cI cS : ClassId) (sK sV : Nat → Nat) (j : Nat) (hj : j < 6) : Met l yJ0_isLatin1_aae02 wsJ0_isLatin1_aae02 ({ frames := 0, cells := 0, slots := 0, locals := 0 }) (ftROS D cI cS sK sV [.ref (sK j)] []) (vp_Si (fun o9 => o9 = 1)) 0 0 (fun _ => False) := by
  refine ft_ofWF (cc := cJ0_isLatin1_aae02) (maxL := 1) (ret := (some .boolean)) (by decide +kernel) rfl ?_
  intro p e s m args below meth c s₁ B hml hv
  obtain ⟨rfl, hP, hKK, hSt⟩ := hv
  have hS : va_S (fun _ => False) s.heap s.heap [] := va_S.rf
  have hK := hKK.1
  have hx := B.exec
  have hb := B.bytes
  have hr := B.returns
  have hts := atoms_spec (ws := wsJ0_isLatin1_aae02) B.pre
  have hown : s.vm.findClass RJ0 = some m.cls := findClass_of_methodNamed B.named
  have hlocks := B.notSynchronized
  have hP : va_P D vwCl [] s.heap := hP
  have hl := lv_entry ([.ref (sK j)]) (n := 1) (Nat.le_of_ble_eq_true rfl)
  rw [lg_entry_eq]
  generalize (lg_sl ([.ref (sK j)]) ++ List.replicate (1 - (lg_sl ([.ref (sK j)])).length) Slot.unset).toArray = ls at hl ⊢
  have hl : lv_has ls 1 [(0, .ref (sK j))] := hl
  refine va_gets hx hb hSt.2.1 hS hown (hts (.fieldLink RJ0 38 "java/lang/String" "COMPACT_STRINGS" "Z") (by decide +kernel)) (fun _ h9 => h9) dJ0_isLatin1_aae02_0 ?_
  refine lv_if_eq (tgt := 17) hx hb dJ0_isLatin1_aae02_3 (by decide) (fun c3 => ?_) (fun c3 => ?_)
  · exact absurd c3 (by decide)
  · refine lv_aload_n hx hb dJ0_isLatin1_aae02_6 rfl (lv_at hl 0 rfl) ?_
    refine vk_getf hx hb (hSt.1.1 j hj).2.1 hS hown (hts (.fieldLink RJ0 15 "java/lang/String" "coder" "B") (by decide +kernel)) (fun _ h9 => h9) dJ0_isLatin1_aae02_7 ?_
    refine lv_if_ne (tgt := 17) hx hb dJ0_isLatin1_aae02_10 (by decide) (fun c10 => ?_) (fun c10 => ?_)
    · exact absurd rfl c10
    · refine lv_iconst (v := 1) hx hb dJ0_isLatin1_aae02_13 (by decide) ?_
      refine lv_goto (tgt := 18) hx hb dJ0_isLatin1_aae02_14 (by decide) ?_
      exact W.zret (v := 1) hx hb hr (by rfl) (fun t ht hW => ⟨1, rfl, rfl, ht⟩) (fun _ h9 => absurd h9 List.not_mem_nil) dJ0_isLatin1_aae02_18
set_option maxHeartbeats 4000000 in
set_option maxRecDepth 100000 in
theorem c_J3_checkIndex_8e157n (l : Launch) (D : va_G) (cI cS : ClassId) (i n : Nat) (hin : i < n) (hn : n < 1000) : Met l yJ3_checkIndex_8e157 wsJ3_checkIndex_8e157 ({ frames := 1, cells := 0, slots := 0, locals := 30 }) (ftRO D cI cS [.int (nI i), .int (nI n), .null] []) (vp_Si (fun o9 => o9 = nI i)) 0 0 (fun _ => False) := by
  refine ft_ofWF (cc := cJ3_checkIndex_8e157) (maxL := 3) (ret := (some .int)) (by decide +kernel) rfl ?_
  intro p e s m args below meth c s₁ B hml hv
  obtain ⟨rfl, hP, hKK⟩ := hv
  have hK := hKK.1
  have hx := B.exec
  have hb := B.bytes
  have hr := B.returns
  have hts := atoms_spec (ws := wsJ3_checkIndex_8e157) B.pre
  have hown : s.vm.findClass RJ3 = some m.cls := findClass_of_methodNamed B.named
  have hlocks := B.notSynchronized
  have hP : va_P D vwCl [] s.heap := hP
  have hl := lv_entry ([.int (nI i), .int (nI n), .null]) (n := 3) (Nat.le_of_ble_eq_true rfl)
  rw [lg_entry_eq]
  generalize (lg_sl ([.int (nI i), .int (nI n), .null]) ++ List.replicate (3 - (lg_sl ([.int (nI i), .int (nI n), .null])).length) Slot.unset).toArray = ls at hl ⊢
  have hl : lv_has ls 3 [(0, .int (nI i)), (1, .int (nI n)), (2, .null)] := hl
  refine lv_iload_n hx hb dJ3_checkIndex_8e157_0 rfl (lv_at hl 0 rfl) ?_
  refine lv_if_lt (tgt := 9) hx hb dJ3_checkIndex_8e157_1 (by decide) (fun c1 => ?_) (fun c1 => ?_)
  · exact absurd c1 (nI_pos (by omega))
  · refine lv_iload_n hx hb dJ3_checkIndex_8e157_4 rfl (lv_at hl 0 rfl) ?_
    refine lv_iload_n hx hb dJ3_checkIndex_8e157_5 rfl (lv_at hl 1 rfl) ?_
    refine lv_icmp_lt (tgt := 16) hx hb dJ3_checkIndex_8e157_6 (by decide) (fun c6 => ?_) (fun c6 => ?_)
    · have c6n : i < n := ft_ltN (by omega) (by omega) c6
      refine lv_iload_n hx hb dJ3_checkIndex_8e157_16 rfl (lv_at hl 0 rfl) ?_
      exact W.iret (v := nI i) hx hb hr (fun t ht hW => ⟨nI i, rfl, rfl, ht⟩) (fun _ h9 => absurd h9 List.not_mem_nil) dJ3_checkIndex_8e157_17
    · have c6n : n ≤ i := ft_nltN (by omega) (by omega) c6
      exact absurd c6n (by omega)
set_option maxHeartbeats 4000000 in
set_option maxRecDepth 100000 in
theorem c_J3_checkIndex_8e157r (l : Launch) (D : va_G) (cI cS : ClassId) (i n t9 : Nat) (hin : i < n) (hn : n < 1000) : Met l yJ3_checkIndex_8e157 wsJ3_checkIndex_8e157 ({ frames := 1, cells := 0, slots := 0, locals := 30 }) (ftRO D cI cS [.int (nI i), .int (nI n), .ref t9] []) (vp_Si (fun o9 => o9 = nI i)) 0 0 (fun _ => False) := by
  refine ft_ofWF (cc := cJ3_checkIndex_8e157) (maxL := 3) (ret := (some .int)) (by decide +kernel) rfl ?_
  intro p e s m args below meth c s₁ B hml hv
  obtain ⟨rfl, hP, hKK⟩ := hv
  have hK := hKK.1
  have hx := B.exec
  have hb := B.bytes
  have hr := B.returns
  have hts := atoms_spec (ws := wsJ3_checkIndex_8e157) B.pre
  have hown : s.vm.findClass RJ3 = some m.cls := findClass_of_methodNamed B.named
  have hlocks := B.notSynchronized
  have hP : va_P D vwCl [] s.heap := hP
  have hl := lv_entry ([.int (nI i), .int (nI n), .ref t9]) (n := 3) (Nat.le_of_ble_eq_true rfl)
  rw [lg_entry_eq]
  generalize (lg_sl ([.int (nI i), .int (nI n), .ref t9]) ++ List.replicate (3 - (lg_sl ([.int (nI i), .int (nI n), .ref t9])).length) Slot.unset).toArray = ls at hl ⊢
  have hl : lv_has ls 3 [(0, .int (nI i)), (1, .int (nI n)), (2, .ref t9)] := hl
  refine lv_iload_n hx hb dJ3_checkIndex_8e157_0 rfl (lv_at hl 0 rfl) ?_
  refine lv_if_lt (tgt := 9) hx hb dJ3_checkIndex_8e157_1 (by decide) (fun c1 => ?_) (fun c1 => ?_)
  · exact absurd c1 (nI_pos (by omega))
  · refine lv_iload_n hx hb dJ3_checkIndex_8e157_4 rfl (lv_at hl 0 rfl) ?_
    refine lv_iload_n hx hb dJ3_checkIndex_8e157_5 rfl (lv_at hl 1 rfl) ?_
    refine lv_icmp_lt (tgt := 16) hx hb dJ3_checkIndex_8e157_6 (by decide) (fun c6 => ?_) (fun c6 => ?_)
    · have c6n : i < n := ft_ltN (by omega) (by omega) c6
      refine lv_iload_n hx hb dJ3_checkIndex_8e157_16 rfl (lv_at hl 0 rfl) ?_
      exact W.iret (v := nI i) hx hb hr (fun t ht hW => ⟨nI i, rfl, rfl, ht⟩) (fun _ h9 => absurd h9 List.not_mem_nil) dJ3_checkIndex_8e157_17
    · have c6n : n ≤ i := ft_nltN (by omega) (by omega) c6
      exact absurd c6n (by omega)
set_option maxHeartbeats 4000000 in
set_option maxRecDepth 100000 in
theorem c_J0_checkIndex_df160 (l : Launch) (D : va_G) (cI cS : ClassId) (sK sV : Nat → Nat) (i n : Nat) (hin : i < n) (hn : n < 1000) : Met l yJ0_checkIndex_df160 wsJ0_checkIndex_df160 ({ frames := 2, cells := 0, slots := 0, locals := 52 }) (ftROS D cI cS sK sV [.int (nI i), .int (nI n)] []) (ftSv) 0 0 (fun _ => False) := by
  refine ft_ofWF (cc := cJ0_checkIndex_df160) (maxL := 2) (ret := none) (by decide +kernel) rfl ?_
  intro p e s m args below meth c s₁ B hml hv
  obtain ⟨rfl, hP, hKK, hSt⟩ := hv
  have hS : va_S (fun _ => False) s.heap s.heap [] := va_S.rf
  have hK := hKK.1
  have hx := B.exec
  have hb := B.bytes
  have hr := B.returns
  have hts := atoms_spec (ws := wsJ0_checkIndex_df160) B.pre
  have hown : s.vm.findClass RJ0 = some m.cls := findClass_of_methodNamed B.named
  have hlocks := B.notSynchronized
  have hP : va_P D vwCl [] s.heap := hP
  have hl := lv_entry ([.int (nI i), .int (nI n)]) (n := 2) (Nat.le_of_ble_eq_true rfl)
  rw [lg_entry_eq]
  generalize (lg_sl ([.int (nI i), .int (nI n)]) ++ List.replicate (2 - (lg_sl ([.int (nI i), .int (nI n)])).length) Slot.unset).toArray = ls at hl ⊢
  have hl : lv_has ls 2 [(0, .int (nI i)), (1, .int (nI n))] := hl
  refine lv_iload_n hx hb dJ0_checkIndex_df160_0 rfl (lv_at hl 0 rfl) ?_
  refine lv_iload_n hx hb dJ0_checkIndex_df160_1 rfl (lv_at hl 1 rfl) ?_
  rcases hSt.2.2.1 with hz9 | ⟨t9, hz9⟩
  · refine va_gets hx hb hz9 hS hown (hts (.fieldLink RJ0 1053 "jdk/internal/util/Preconditions" "SIOOBE_FORMATTER" "Ljava/util/function/BiFunction;") (by decide +kernel)) (fun _ h9 => h9) dJ0_checkIndex_df160_2 ?_
    refine ft_csi (r := nI i) (va_runS (As := [.int (nI i), .int (nI n), .null]) (rest := []) ⟨hx, hb, hml, hown, hts⟩ (c_J3_checkIndex_8e157n l D cI cS i n (by first | assumption | omega) (by first | assumption | omega)) (va_cwS 3 hts gJ0_checkIndex_df160_J3_checkIndex_8e157 rfl rfl rfl (by decide +kernel) ⟨Nat.le_of_ble_eq_true rfl, Nat.le_of_ble_eq_true rfl⟩) (ft_preRO hP hKK [] rfl) rfl rfl hl.1 rfl (lv_room (Nat.le_of_ble_eq_true rfl)) dJ0_checkIndex_df160_5 ⟨Nat.le_of_ble_eq_true rfl, Nat.le_of_ble_eq_true rfl⟩) ?_
    refine lv_pop hx hb dJ0_checkIndex_df160_8 rfl ?_
    exact W.vret hx hb hr (fun t ht hW => ⟨rfl, ht⟩) (fun _ h9 => absurd h9 List.not_mem_nil) dJ0_checkIndex_df160_9
  · refine va_gets hx hb hz9 hS hown (hts (.fieldLink RJ0 1053 "jdk/internal/util/Preconditions" "SIOOBE_FORMATTER" "Ljava/util/function/BiFunction;") (by decide +kernel)) (fun _ h9 => h9) dJ0_checkIndex_df160_2 ?_
    refine ft_csi (r := nI i) (va_runS (As := [.int (nI i), .int (nI n), .ref t9]) (rest := []) ⟨hx, hb, hml, hown, hts⟩ (c_J3_checkIndex_8e157r l D cI cS i n t9 (by first | assumption | omega) (by first | assumption | omega)) (va_cwS 3 hts gJ0_checkIndex_df160_J3_checkIndex_8e157 rfl rfl rfl (by decide +kernel) ⟨Nat.le_of_ble_eq_true rfl, Nat.le_of_ble_eq_true rfl⟩) (ft_preRO hP hKK [] rfl) rfl rfl hl.1 rfl (lv_room (Nat.le_of_ble_eq_true rfl)) dJ0_checkIndex_df160_5 ⟨Nat.le_of_ble_eq_true rfl, Nat.le_of_ble_eq_true rfl⟩) ?_
    refine lv_pop hx hb dJ0_checkIndex_df160_8 rfl ?_
    exact W.vret hx hb hr (fun t ht hW => ⟨rfl, ht⟩) (fun _ h9 => absurd h9 List.not_mem_nil) dJ0_checkIndex_df160_9
set_option maxHeartbeats 4000000 in
set_option maxRecDepth 100000 in
theorem c_J1_charAt_3b067 (l : Launch) (D : va_G) (cI cS : ClassId) (sK sV : Nat → Nat) (j tq : Nat) (hj : j < 6) (htq : tq < ftWs j) : Met l yJ1_charAt_3b067 wsJ1_charAt_3b067 ({ frames := 3, cells := 0, slots := 0, locals := 73 }) (ftROS D cI cS sK sV [.ref (sV j), .int (nI tq)] []) (vp_Si (fun o9 => o9 = ftLt (nI (100 * j + tq)))) 0 0 (fun _ => False) := by
  refine ft_ofWF (cc := cJ1_charAt_3b067) (maxL := 2) (ret := (some .char)) (by decide +kernel) rfl ?_
  intro p e s m args below meth c s₁ B hml hv
  obtain ⟨rfl, hP, hKK, hSt⟩ := hv
  have hS : va_S (fun _ => False) s.heap s.heap [] := va_S.rf
  have hK := hKK.1
  have hx := B.exec
  have hb := B.bytes
  have hr := B.returns
  have hts := atoms_spec (ws := wsJ1_charAt_3b067) B.pre
  have hown : s.vm.findClass RJ1 = some m.cls := findClass_of_methodNamed B.named
  have hlocks := B.notSynchronized
  have hP : va_P D vwCl [] s.heap := hP
  have hl := lv_entry ([.ref (sV j), .int (nI tq)]) (n := 2) (Nat.le_of_ble_eq_true rfl)
  rw [lg_entry_eq]
  generalize (lg_sl ([.ref (sV j), .int (nI tq)]) ++ List.replicate (2 - (lg_sl ([.ref (sV j), .int (nI tq)])).length) Slot.unset).toArray = ls at hl ⊢
  have hl : lv_has ls 2 [(0, .ref (sV j)), (1, .int (nI tq))] := hl
  have hw11 := ftWs_le j
  have ht8 : tq < ftLe.getD j 0 := by rw [ftLe_ws j hj]; exact htq
  refine lv_iload_n hx hb dJ1_charAt_3b067_0 rfl (lv_at hl 1 rfl) ?_
  refine lv_aload_n hx hb dJ1_charAt_3b067_1 rfl (lv_at hl 0 rfl) ?_
  refine va_tlen (v := nI (ftWs j)) hx hb (hSt.1.1 j hj).2.2.2 hS (congrArg Int32.ofNat (ftLe_ws j hj)) dJ1_charAt_3b067_2 ?_
  refine ft_csv (va_runS (As := [.int (nI tq), .int (nI (ftWs j))]) (rest := []) ⟨hx, hb, hml, hown, hts⟩ (c_J0_checkIndex_df160 l D cI cS sK sV tq (ftWs j) (by first | assumption | omega) (by first | assumption | omega)) (va_cwS 2 hts gJ1_charAt_3b067_J0_checkIndex_df160 rfl rfl rfl (by decide +kernel) ⟨Nat.le_of_ble_eq_true rfl, Nat.le_of_ble_eq_true rfl⟩) (ft_preROS hP hKK hSt hS [] rfl) rfl rfl hl.1 rfl (lv_room (Nat.le_of_ble_eq_true rfl)) dJ1_charAt_3b067_3 ⟨Nat.le_of_ble_eq_true rfl, Nat.le_of_ble_eq_true rfl⟩) ?_
  refine lv_aload_n hx hb dJ1_charAt_3b067_6 rfl (lv_at hl 0 rfl) ?_
  refine lv_iload_n hx hb dJ1_charAt_3b067_7 rfl (lv_at hl 1 rfl) ?_
  refine va_tb hx hb (hSt.1.1 j hj).2.2.2 hS (by rw [ftLe_ws j hj]; exact vp_in_nI htq (by omega)) (v := .int ((ftBy.getD j []).getD tq 0)) (by rw [nI_clamp (by omega)]) dJ1_charAt_3b067_8 ?_
  refine lv_sipush (v := 255) hx hb dJ1_charAt_3b067_9 (by decide) ?_
  refine lv_iand hx hb dJ1_charAt_3b067_12 ?_
  refine lv_i2c (v := ((ftBy.getD j []).getD tq 0) &&& 255) hx hb dJ1_charAt_3b067_13 (ftBy_lt j hj tq ht8).2.1 ?_
  exact W.zret (v := ((ftBy.getD j []).getD tq 0) &&& 255) hx hb hr (by exact (ftBy_lt j hj tq ht8).2.2) (fun t ht hW => ⟨((ftBy.getD j []).getD tq 0) &&& 255, rfl, (by show (((ftBy.getD j []).getD tq 0) &&& 255 : Int32) = ftLt (nI (100 * j + tq)); exact (ftBy_lt j hj tq ht8).1), ht⟩) (fun _ h9 => absurd h9 List.not_mem_nil) dJ1_charAt_3b067_14
set_option maxHeartbeats 4000000 in
set_option maxRecDepth 100000 in
theorem c_J0_charAt_5068e (l : Launch) (D : va_G) (cI cS : ClassId) (sK sV : Nat → Nat) (j tq : Nat) (hj : j < 6) (htq : tq < ftWs j) : Met l yJ0_charAt_5068e wsJ0_charAt_5068e ({ frames := 4, cells := 0, slots := 0, locals := 94 }) (ftROS D cI cS sK sV [.ref (sK j), .int (nI tq)] []) (vp_Si (fun o9 => o9 = ftLt (nI (100 * j + tq)))) 0 0 (fun _ => False) := by
  refine ft_ofWF (cc := cJ0_charAt_5068e) (maxL := 2) (ret := (some .char)) (by decide +kernel) rfl ?_
  intro p e s m args below meth c s₁ B hml hv
  obtain ⟨rfl, hP, hKK, hSt⟩ := hv
  have hS : va_S (fun _ => False) s.heap s.heap [] := va_S.rf
  have hK := hKK.1
  have hx := B.exec
  have hb := B.bytes
  have hr := B.returns
  have hts := atoms_spec (ws := wsJ0_charAt_5068e) B.pre
  have hown : s.vm.findClass RJ0 = some m.cls := findClass_of_methodNamed B.named
  have hlocks := B.notSynchronized
  have hP : va_P D vwCl [] s.heap := hP
  have hl := lv_entry ([.ref (sK j), .int (nI tq)]) (n := 2) (Nat.le_of_ble_eq_true rfl)
  rw [lg_entry_eq]
  generalize (lg_sl ([.ref (sK j), .int (nI tq)]) ++ List.replicate (2 - (lg_sl ([.ref (sK j), .int (nI tq)])).length) Slot.unset).toArray = ls at hl ⊢
  have hl : lv_has ls 2 [(0, .ref (sK j)), (1, .int (nI tq))] := hl
  refine lv_aload_n hx hb dJ0_charAt_5068e_0 rfl (lv_at hl 0 rfl) ?_
  refine ft_csi (r := 1) (va_runV (C := RJ0) (As := []) (rest := []) ⟨hx, hb, hml, hown, hts⟩ (c_J0_isLatin1_aae02 l D cI cS sK sV j (by first | assumption | omega)) (cwV 0 hts gJ0_charAt_5068e_J0_isLatin1_aae02 rfl rfl rfl (by decide +kernel) ⟨Nat.le_of_ble_eq_true rfl, Nat.le_of_ble_eq_true rfl⟩) (ft_preJ (a := sK j) hP hKK hSt hS (vk_recv hSt.1 (by omega) hS) [] rfl) rfl rfl hl.1 rfl (lv_room (Nat.le_of_ble_eq_true rfl)) dJ0_charAt_5068e_1 ⟨Nat.le_of_ble_eq_true rfl, Nat.le_of_ble_eq_true rfl⟩) ?_
  refine lv_if_eq (tgt := 16) hx hb dJ0_charAt_5068e_4 (by decide) (fun c4 => ?_) (fun c4 => ?_)
  · exact absurd c4 (by decide)
  · refine lv_aload_n hx hb dJ0_charAt_5068e_7 rfl (lv_at hl 0 rfl) ?_
    refine vk_getf hx hb (hSt.1.1 j hj).2.2.1 hS hown (hts (.fieldLink RJ0 9 "java/lang/String" "value" "[B") (by decide +kernel)) (fun _ h9 => h9) dJ0_charAt_5068e_8 ?_
    refine lv_iload_n hx hb dJ0_charAt_5068e_11 rfl (lv_at hl 1 rfl) ?_
    refine ft_csi (r := ftLt (nI (100 * j + tq))) (va_runS (As := [.ref (sV j), .int (nI tq)]) (rest := []) ⟨hx, hb, hml, hown, hts⟩ (c_J1_charAt_3b067 l D cI cS sK sV j tq (by first | assumption | omega) (by first | assumption | omega)) (va_cwS 2 hts gJ0_charAt_5068e_J1_charAt_3b067 rfl rfl rfl (by decide +kernel) ⟨Nat.le_of_ble_eq_true rfl, Nat.le_of_ble_eq_true rfl⟩) (ft_preROS hP hKK hSt hS [] rfl) rfl rfl hl.1 rfl (lv_room (Nat.le_of_ble_eq_true rfl)) dJ0_charAt_5068e_12 ⟨Nat.le_of_ble_eq_true rfl, Nat.le_of_ble_eq_true rfl⟩) ?_
    exact W.zret (v := ftLt (nI (100 * j + tq))) hx hb hr (by rw [← (ftBy_lt j hj tq (by rw [ftLe_ws j hj]; exact htq)).1]; exact (ftBy_lt j hj tq (by rw [ftLe_ws j hj]; exact htq)).2.2) (fun t ht hW => ⟨ftLt (nI (100 * j + tq)), rfl, rfl, ht⟩) (fun _ h9 => absurd h9 List.not_mem_nil) dJ0_charAt_5068e_15
set_option maxHeartbeats 4000000 in
set_option maxRecDepth 100000 in
theorem c_X10_att (l : Launch) (D : va_G) (cI cS : ClassId) (sK sV : Nat → Nat) (k : Nat) (i : Int32) (hk : k < 3) : Met l yX10_at wsX10_at ({ frames := 0, cells := 0, slots := 0, locals := 0 }) (ftROS D cI cS sK sV [.ref (sV (6 + k)), .int i] []) (vp_Si (fun o9 => o9 = ftAt 11 (ftTb k) i)) 0 0 (fun _ => False) := by
  refine Met.ofW (cc := cX10_at) (maxL := 2) (ret := (some .int)) (by decide) rfl ?_
  intro p e s m args below meth c s₁ B hml hv
  obtain ⟨rfl, hP, hKK, hSt⟩ := hv
  have hS : va_S (fun _ => False) s.heap s.heap [] := va_S.rf
  have hK := hKK.1
  have hx := B.exec
  have hb := B.bytes
  have hr := B.returns
  have hts := atoms_spec (ws := wsX10_at) B.pre
  have hown : s.vm.findClass RX10 = some m.cls := findClass_of_methodNamed B.named
  have hlocks := B.notSynchronized
  have hP : va_P D vwCl [] s.heap := hP
  have hl := lv_entry ([.ref (sV (6 + k)), .int i]) (n := 2) (Nat.le_of_ble_eq_true rfl)
  rw [lg_entry_eq]
  generalize (lg_sl ([.ref (sV (6 + k)), .int i]) ++ List.replicate (2 - (lg_sl ([.ref (sV (6 + k)), .int i])).length) Slot.unset).toArray = ls at hl ⊢
  have hl : lv_has ls 2 [(0, .ref (sV (6 + k))), (1, .int i)] := hl
  refine lv_aload_n hx hb dX10_at_0 rfl (lv_at hl 0 rfl) ?_
  refine lv_ifnull hx hb dX10_at_1 ?_
  refine lv_iload_n hx hb dX10_at_4 rfl (lv_at hl 1 rfl) ?_
  refine lv_if_lt (tgt := 20) hx hb dX10_at_5 (by decide) (fun c5 => ?_) (fun c5 => ?_)
  · refine lv_iconst (v := 0) hx hb dX10_at_20 (by decide) ?_
    exact W.iret (v := 0) hx hb hr (fun t ht hW => ⟨0, rfl, (by show (0 : Int32) = ftAt 11 (ftTb k) i; first | exact (ftAt_in (ft_in (by omega) c5 c11)).symm | exact (ftAt_out (ft_out (by omega) c5 c11)).symm | exact (ftAt_out (fun q => q (Or.inl c5))).symm), ht⟩) (fun _ h9 => absurd h9 List.not_mem_nil) dX10_at_21
  · refine lv_iload_n hx hb dX10_at_8 rfl (lv_at hl 1 rfl) ?_
    refine lv_aload_n hx hb dX10_at_9 rfl (lv_at hl 0 rfl) ?_
    refine va_tlen (v := nI 11) hx hb (hSt.2.2.2.2.1 k hk) hS rfl dX10_at_10 ?_
    refine lv_icmp_ge (tgt := 20) hx hb dX10_at_11 (by decide) (fun c11 => ?_) (fun c11 => ?_)
    · refine lv_iconst (v := 0) hx hb dX10_at_20 (by decide) ?_
      exact W.iret (v := 0) hx hb hr (fun t ht hW => ⟨0, rfl, (by show (0 : Int32) = ftAt 11 (ftTb k) i; first | exact (ftAt_in (ft_in (by omega) c5 c11)).symm | exact (ftAt_out (ft_out (by omega) c5 c11)).symm | exact (ftAt_out (fun q => q (Or.inl c5))).symm), ht⟩) (fun _ h9 => absurd h9 List.not_mem_nil) dX10_at_21
    · refine lv_aload_n hx hb dX10_at_14 rfl (lv_at hl 0 rfl) ?_
      refine lv_iload_n hx hb dX10_at_15 rfl (lv_at hl 1 rfl) ?_
      refine va_ti hx hb (hSt.2.2.2.2.1 k hk) hS (ft_in (by omega) c5 c11) (v := .int (ftTb k i.toNatClampNeg)) rfl dX10_at_16 ?_
      refine lv_goto (tgt := 21) hx hb dX10_at_17 (by decide) ?_
      exact W.iret (v := ftTb k i.toNatClampNeg) hx hb hr (fun t ht hW => ⟨ftTb k i.toNatClampNeg, rfl, (by show (ftTb k i.toNatClampNeg : Int32) = ftAt 11 (ftTb k) i; first | exact (ftAt_in (ft_in (by omega) c5 c11)).symm | exact (ftAt_out (ft_out (by omega) c5 c11)).symm | exact (ftAt_out (fun q => q (Or.inl c5))).symm), ht⟩) (fun _ h9 => absurd h9 List.not_mem_nil) dX10_at_21
end
section
/-! a part more in a row, in rows of their own -/
section FTADD
variable {w : Nat → Int32} {n k i : Nat} {kd x lo re : Int32}
theorem ftAdd_x (h : i < 4) (hk : k ≠ ftPosW w x n) : ftAdd w n kd x lo re (4 + 4 * k + i) = ftShP w n (ftPosW w x n) (4 + 4 * k + i) := by
  unfold ftAdd
  rw [ftUpd_ne (by omega), ftComes_at (by omega)]
theorem ftAdd_lo (h : i < 4) (hk : k < ftPosW w x n) : ftAdd w n kd x lo re (4 + 4 * k + i) = w (4 + 4 * k + i) := by
  rw [ftAdd_x h (by omega), ftShP_low (by omega)]
theorem ftAdd_hi (h : i < 4) (hk : ftPosW w x n < k) (hn : k ≤ n) : ftAdd w n kd x lo re (4 + 4 * k + i) = w (4 + 4 * (k - 1) + i) := by
  rw [ftAdd_x h (by omega)]
  unfold ftShP
  rw [if_pos (by omega)]
  congr 1
  omega
theorem ftAdd_at0 : ftAdd w n kd x lo re (4 + 4 * ftPosW w x n + 0) = kd := by
  unfold ftAdd ftComes
  rw [ftUpd_ne (by omega), ftUpd_ne (by omega), ftUpd_ne (by omega), ftUpd_ne (by omega), ftUpd_at0]
theorem ftAdd_at1 : ftAdd w n kd x lo re (4 + 4 * ftPosW w x n + 1) = x := by
  unfold ftAdd ftComes
  rw [ftUpd_ne (by omega), ftUpd_ne (by omega), ftUpd_ne (by omega), ftUpd_at0]
theorem ftAdd_at2 : ftAdd w n kd x lo re (4 + 4 * ftPosW w x n + 2) = lo := by
  unfold ftAdd ftComes
  rw [ftUpd_ne (by omega), ftUpd_ne (by omega), ftUpd_at0]
theorem ftAdd_at3 : ftAdd w n kd x lo re (4 + 4 * ftPosW w x n + 3) = re := by
  unfold ftAdd ftComes
  rw [ftUpd_ne (by omega), ftUpd_at0]
theorem ftAdd_l {t : Nat} (h : t < 3) : ftAdd w n kd x lo re t = w t := by
  unfold ftAdd
  rw [ftUpd_ne (by omega), ftComes_at (by omega), ftShP_low (by omega)]
theorem ftAdd_b {t : Nat} (h : 44 ≤ t) (hn : n < 10) : ftAdd w n kd x lo re t = w t := by
  have hp := ftPosW_le w x n
  unfold ftAdd
  rw [ftUpd_ne (by omega), ftComes_at (by omega)]
  unfold ftShP
  rw [if_neg (by omega)]
end FTADD
/-- where a part comes: places below it, places above it -/
theorem ftPosW_hi {w : Nat → Int32} {x : Int32} : ∀ n t, ftPosW w x n ≤ t → t < n → x < w (4 + 4 * t + 1) := by
  intro n
  induction n with
  | zero => intro t _ h; exact absurd h (Nat.not_lt_zero t)
  | succ n ih =>
    intro t h1 h2
    rw [ftPosW] at h1
    by_cases c : x < w (4 + 4 * n + 1)
    · rw [if_pos c] at h1
      by_cases z : t = n
      · subst z; exact c
      · exact ih t h1 (by omega)
    · rw [if_neg c] at h1; omega
theorem ftPosW_lo {w : Nat → Int32} {x : Int32} : ∀ n, (∀ a b, a < b → b < n → w (4 + 4 * a + 1) < w (4 + 4 * b + 1)) → (∀ t, t < n → w (4 + 4 * t + 1) ≠ x) → ∀ t, t < ftPosW w x n → w (4 + 4 * t + 1) < x := by
  intro n
  induction n with
  | zero => intro _ _ t h; exact absurd h (Nat.not_lt_zero t)
  | succ n ih =>
    intro ha hne t ht
    rw [ftPosW] at ht
    by_cases c : x < w (4 + 4 * n + 1)
    · rw [if_pos c] at ht
      exact ih (fun a b h1 h2 => ha a b h1 (by omega)) (fun t h => hne t (by omega)) t ht
    · rw [if_neg c] at ht
      have hn : w (4 + 4 * n + 1) < x := by
        rcases Int32.lt_or_eq_of_le (Int32.not_lt.mp c) with q | q
        · exact q
        · exact absurd q (hne n (by omega))
      by_cases z : t = n
      · subst z; exact hn
      · exact Int32.lt_of_lt_of_le (ha t n (by omega) (by omega)) (Int32.le_of_lt hn)
theorem ftIdx_pos {w pf : Nat → Int32} {x : Int32} {n : Nat} (hp : ∀ t, t < n → w (4 + 4 * t + 1) = pf t) (ha : ∀ a b, a < b → b < n → w (4 + 4 * a + 1) < w (4 + 4 * b + 1)) (hne : ∀ t, t < n → w (4 + 4 * t + 1) ≠ x) : ftIdx pf x n = ftPosW w x n := by
  have hle := ftPosW_le w x n
  refine ftIdx_of hle (fun t ht => ?_) (fun h => ?_)
  · rw [← hp t (by omega)]; exact ftPosW_lo n ha hne t ht
  · rw [← hp _ h]
    exact Int32.not_lt.mpr (Int32.le_of_lt (ftPosW_hi n _ (Nat.le_refl _) h))
def ftNew (k x lo re : Int32) : Prop := (k = 0 ∧ -500 ≤ lo ∧ lo ≤ 5000 ∧ re = 0) ∨ (k = 1 ∧ 0 ≤ lo ∧ lo ≤ 5000 ∧ 1 ≤ re ∧ re ≤ 20000) ∨ (k = 2 ∧ 0 ≤ lo ∧ lo ≤ 50 ∧ re = 0)
theorem ftAdd_cn {w : Nat → Int32} {n : Nat} {kd x lo re : Int32} (hn : n < 10) : ftCN (ftAdd w n kd x lo re) = n + 1 := by
  show (ftAdd _ _ _ _ _ _ 3).toNatClampNeg = _
  rw [ftAdd_3, nI_clamp (by omega)]
theorem ftAdd_lf {w : Nat → Int32} {kd x lo re : Int32} (h : ftLf w) (hn : ftCN w < 10) (hx1 : 1 ≤ x) (hx2 : x < w 0) (hne : ∀ t, t < ftCN w → w (4 + 4 * t + 1) ≠ x) (hv : ftNew kd x lo re) : ftLf (ftAdd w (ftCN w) kd x lo re) := by
  obtain ⟨a1, a2, a3, a4, a5, a6⟩ := id h
  have hc := ftAdd_cn (w := w) (kd := kd) (x := x) (lo := lo) (re := re) hn
  have hle := ftPosW_le w x (ftCN w)
  have hlo := ftPosW_lo (ftCN w) a6 hne
  have hhi := ftPosW_hi (w := w) (x := x) (ftCN w)
  refine ⟨?_, by rw [ftAdd_l (by omega)]; exact a2, by rw [ftAdd_l (by omega)]; exact a3, by rw [ftAdd_l (by omega)]; exact a4, ?_, ?_⟩
  · rw [ftAdd_3]
    exact ⟨nI_pos' (by omega), nI_le (b := 10) (by omega) (by omega)⟩
  · intro k hk
    rw [hc] at hk
    rw [ftAdd_l (show 0 < 3 by omega)]
    unfold ftPartOk
    rcases Nat.lt_trichotomy k (ftPosW w x (ftCN w)) with q | q | q
    · rw [ftAdd_lo (by omega) q, ftAdd_lo (by omega) q, ftAdd_lo (by omega) q, ftAdd_lo (by omega) q]
      exact a5 k (by omega)
    · rw [q, ftAdd_at0, ftAdd_at1, ftAdd_at2, ftAdd_at3]
      exact ⟨hv, hx1, hx2⟩
    · rw [ftAdd_hi (by omega) q (by omega), ftAdd_hi (by omega) q (by omega), ftAdd_hi (by omega) q (by omega), ftAdd_hi (by omega) q (by omega)]
      exact a5 (k - 1) (by omega)
  · intro a b hab hb
    rw [hc] at hb
    rcases Nat.lt_trichotomy a (ftPosW w x (ftCN w)) with q | q | q
    · rw [ftAdd_lo (by omega) q]
      rcases Nat.lt_trichotomy b (ftPosW w x (ftCN w)) with r | r | r
      · rw [ftAdd_lo (by omega) r]; exact a6 a b hab (by omega)
      · rw [r, ftAdd_at1]; exact hlo a q
      · rw [ftAdd_hi (by omega) r (by omega)]
        by_cases z : a = b - 1
        · omega
        · exact a6 a (b - 1) (by omega) (by omega)
    · rw [q, ftAdd_at1, ftAdd_hi (by omega) (by omega) (by omega)]
      exact hhi (b - 1) (by omega) (by omega)
    · rw [ftAdd_hi (by omega) q (by omega), ftAdd_hi (by omega) (by omega) (by omega)]
      exact a6 (a - 1) (b - 1) (by omega) (by omega)
theorem ftLf_mok {w : Nat → Int32} (h : ftLf w) : ftMok w := ⟨ftCN w, ftLf_n h, ftLf_3 h⟩
theorem ft_lt3 {j : Nat} (hj : j < 6) : nI j < 3 ↔ j < 3 := ⟨fun h => ft_ltN (b := 3) (by omega) (by omega) h, fun h => nI_lt (b := 3) h (by omega)⟩
theorem ftRt_new : ∀ j, 3 ≤ j → j < 6 → ∀ {tx : Nat → Int32} {tn p : Nat} {m : Nat → Int32}, (∀ i, i < ftNs (nI j) → ftRt (nI j) i (ftIv tx tn p i) (m 0)) → (1 ≤ ftIv tx tn p 0 ∧ ftIv tx tn p 0 ≤ m 0 - 1) ∧ ftNew (nI j - 3) (ftIv tx tn p 0) (ftIv tx tn p 1) (if nI j = 4 then ftIv tx tn p 2 else 0) := by
  intro j h3 h6 tx tn p m h
  match j, h3, h6 with
  | 3, _, _ =>
    have q0 := h 0 (by decide)
    have q1 := h 1 (by decide)
    have e : ∀ v ln, ftRt (nI 3) 0 v ln = (1 ≤ v ∧ v ≤ ln - 1) := fun v ln => rfl
    have e1 : ∀ v ln, ftRt (nI 3) 1 v ln = (-500 ≤ v ∧ v ≤ 5000) := fun v ln => rfl
    rw [e] at q0
    rw [e1] at q1
    exact ⟨q0, Or.inl ⟨rfl, q1.1, q1.2, rfl⟩⟩
  | 4, _, _ =>
    have q0 := h 0 (by decide)
    have q1 := h 1 (by decide)
    have q2 := h 2 (by decide)
    have e : ∀ v ln, ftRt (nI 4) 0 v ln = (1 ≤ v ∧ v ≤ ln - 1) := fun v ln => rfl
    have e1 : ∀ v ln, ftRt (nI 4) 1 v ln = (0 ≤ v ∧ v ≤ 5000) := fun v ln => rfl
    have e2 : ∀ v ln, ftRt (nI 4) 2 v ln = (1 ≤ v ∧ v ≤ 20000) := fun v ln => rfl
    rw [e] at q0
    rw [e1] at q1
    rw [e2] at q2
    exact ⟨q0, Or.inr (Or.inl ⟨rfl, q1.1, q1.2, q2.1, q2.2⟩)⟩
  | 5, _, _ =>
    have q0 := h 0 (by decide)
    have q1 := h 1 (by decide)
    have e : ∀ v ln, ftRt (nI 5) 0 v ln = (1 ≤ v ∧ v ≤ ln - 1) := fun v ln => rfl
    have e1 : ∀ v ln, ftRt (nI 5) 1 v ln = (0 ≤ v ∧ v ≤ 50) := fun v ln => rfl
    rw [e] at q0
    rw [e1] at q1
    exact ⟨q0, Or.inr (Or.inr ⟨rfl, q1.1, q1.2, rfl⟩)⟩
theorem ft_ltm1 {x y : Int32} (hy : 50 ≤ y) (hx : 1 ≤ x) (h : x ≤ y - 1) : x < y := by
  obtain ⟨ey, ly⟩ := ftI_nat (ftI_ge0 (N := 50) hy (by omega))
  obtain ⟨ex, lx⟩ := ftI_nat (ftI_ge0 (N := 1) hx (by omega))
  have h50 := ftI_ge (N := 50) (ftI_ge0 (N := 50) hy (by omega)) hy (by omega)
  rw [ex, ey] at h ⊢
  rw [show nI y.toNatClampNeg - 1 = nI (y.toNatClampNeg - 1) from ft_subN (b := 1) (by omega)] at h
  have := ft_leN lx (by omega) h
  exact nI_lt (by omega) ly
theorem ftItM_lf {tx : Nat → Int32} {tn : Nat} {m : Nat → Int32} {h p : Nat} (hm : ftLf m) (q : ftItOk tx tn m h p) : ftLf (ftItM tx tn m p) := by
  obtain ⟨b1, b2, b3, b4, -⟩ := id q
  obtain ⟨j, hj, hW⟩ : ∃ j, j < 6 ∧ ftIw tx tn p = nI j := by
    rcases ftWd_c tx p (ftRun tx tn p) 6 with r | ⟨j, r1, r2, -⟩
    · exact absurd (show ftIw tx tn p < 0 by unfold ftIw; rw [r]; decide) b1
    · exact ⟨j, r1, r2⟩
  obtain ⟨a1, a2, a3, a4, a5, a6⟩ := id hm
  unfold ftItM
  rw [hW] at b2 b3 b4 ⊢
  rcases Nat.lt_or_ge j 3 with c | c
  · rw [if_pos ((ft_lt3 hj).mpr c), nI_clamp (by omega)]
    have h0 := (b4.1 ((ft_lt3 hj).mpr c)).2
    have hn0 : ftCN m = 0 := by
      have e := ftLf_3 hm
      rw [e] at h0
      exact ft_le0 (by have := ftLf_n hm; omega) h0
    have hr := b3 0 (by rw [ftNs_1 ((ft_lt3 hj).mpr c)]; omega)
    have e3 : ∀ v, upd m j v 3 = m 3 := fun v => ftUpd_ne (by omega)
    have ec : ∀ v, ftCN (upd m j v) = 0 := fun v => by unfold ftCN; rw [e3]; exact hn0
    match j, c with
    | 0, _ =>
      have hr : 50 ≤ ftIv tx tn p 0 ∧ ftIv tx tn p 0 ≤ 400 := hr
      exact ⟨by rw [e3]; exact a1, hr, a3, a4, fun k hk => by rw [ec] at hk; omega, fun a b _ hb => by rw [ec] at hb; omega⟩
    | 1, _ =>
      have hr : 0 ≤ ftIv tx tn p 0 ∧ ftIv tx tn p 0 ≤ 50 := hr
      exact ⟨by rw [e3]; exact a1, a2, hr, a4, fun k hk => by rw [ec] at hk; omega, fun a b _ hb => by rw [ec] at hb; omega⟩
    | 2, _ =>
      have hr : 0 ≤ ftIv tx tn p 0 ∧ ftIv tx tn p 0 ≤ 20000 := hr
      exact ⟨by rw [e3]; exact a1, a2, a3, hr, fun k hk => by rw [ec] at hk; omega, fun a b _ hb => by rw [ec] at hb; omega⟩
  · have hnl : ¬ nI j < 3 := fun r => absurd ((ft_lt3 hj).mp r) (by omega)
    rw [if_neg hnl]
    obtain ⟨d1, d2⟩ := b4.2 hnl
    obtain ⟨e1, e2⟩ := ftRt_new j c hj b3
    have en : (m 3).toNatClampNeg = ftCN m := rfl
    rw [en]
    have hn := ftLf_n hm
    have hlt : ftCN m < 10 := by
      rcases Nat.lt_or_ge (ftCN m) 10 with r | r
      · exact r
      · exact absurd (by rw [ftLf_3 hm, show ftCN m = 10 by omega]; rfl) d2
    exact ftAdd_lf hm hlt e1.1 (ft_ltm1 a2.1 e1.1 e1.2) (fun t ht r => d1 ⟨t, ht, r⟩) e2
theorem ftPar_lf {tx : Nat → Int32} {tn : Nat} : ∀ (f p h : Nat) (m a : Nat → Int32), ftLf m → ftPar tx tn f p h m = some a → ftLf a := by
  intro f
  induction f with
  | zero => intro p h m a hm e; cases e; exact hm
  | succ f ih =>
    intro p h m a hm e
    by_cases c : p < tn
    · have um : ftPar tx tn (f + 1) p h m = ftCh (ftItOk tx tn m h p) (ftPar tx tn f (ftItP tx tn p) (ftItH tx tn h p) (ftItM tx tn m p)) none := by rw [ftPar, if_pos c]; rfl
      rw [um] at e
      rcases Classical.em (ftItOk tx tn m h p) with q | q
      · rw [ftCh_t q] at e
        exact ih _ _ _ _ (ftItM_lf hm q) e
      · rw [ftCh_f q] at e; cases e
    · rw [ftPar, if_neg c] at e
      cases e; exact hm
theorem ftMd0_lf (m : Nat → Int32) : ftLf (ftMd0 m) := by
  have e0 : ftMd0 m 0 = 200 := rfl
  have e1 : ftMd0 m 1 = 10 := rfl
  have e2 : ftMd0 m 2 = 12000 := rfl
  have e3 : ftMd0 m 3 = 0 := rfl
  have en : ftCN (ftMd0 m) = 0 := by unfold ftCN; rw [e3]; rfl
  refine ⟨by rw [e3]; decide, by rw [e0]; decide, by rw [e1]; decide, by rw [e2]; decide, fun k hk => ?_, fun a b _ hb => ?_⟩
  · rw [en] at hk; omega
  · rw [en] at hb; omega
theorem ftCPm_lf {tx : Nat → Int32} {tn : Nat} (h : ¬ ftCPar tx tn = none) : ftLf (ftCPm tx tn) := by
  unfold ftCPm
  cases hq : ftCPar tx tn with
  | none => exact absurd hq h
  | some a => exact ftPar_lf _ _ _ _ _ (ftMd0_lf _) hq
/-! words: the class's is the reference's where an item is possible -/
def ftLet (x : Int32) : Prop := (97 ≤ x ∧ x ≤ 122) ∨ (65 ≤ x ∧ x ≤ 90)
def ftC (tx : Nat → Int32) (tn i : Nat) : Int32 := if i < tn then tx i else 0
theorem ftC_in {tx : Nat → Int32} {tn i : Nat} (h : i < tn) : ftC tx tn i = tx i := if_pos h
theorem ftC_out {tx : Nat → Int32} {tn i : Nat} (h : tn ≤ i) : ftC tx tn i = 0 := if_neg (by omega)
def ftCW9 (tx : Nat → Int32) (tn p j : Nat) : Prop := (∀ t, t < ftWs j → ftC tx tn (p + t) = ftLt (nI (100 * j + t))) ∧ ¬ ftLet (ftC tx tn (p + ftWs j))
theorem ftLt_low : ∀ j, j < 6 → ∀ t, t < ftWs j → 97 ≤ ftLt (nI (100 * j + t)) ∧ ftLt (nI (100 * j + t)) ≤ 122 := by decide +kernel
theorem ftLt_diff : ∀ i, i < 6 → ∀ j, j < 6 → i ≠ j → ftWs i = ftWs j → ∃ t, t < ftWs i ∧ ftLt (nI (100 * i + t)) ≠ ftLt (nI (100 * j + t)) := by decide +kernel
theorem ftWP_one {tx : Nat → Int32} {p d i j : Nat} (hi : i < 6) (hj : j < 6) (h1 : ftWP tx p d i (ftWs i)) (h2 : ftWP tx p d j (ftWs j)) : i = j := by
  rcases Nat.eq_or_lt_of_le (Nat.le_refl i) with _ | _
  · by_cases q : i = j
    · exact q
    · obtain ⟨t, t1, t2⟩ := ftLt_diff i hi j hj q (h1.1.symm.trans h2.1)
      exact absurd ((h1.2 t t1).symm.trans (h2.2 t (by rw [← h2.1, h1.1]; exact t1))) t2
  · omega
theorem ftWd_of {tx : Nat → Int32} {p d j : Nat} (hj : j < 6) (h : ftWP tx p d j (ftWs j)) : ∀ m, m ≤ 6 → j < m → ftWd tx p d m = nI j := by
  intro m
  induction m with
  | zero => intro _ q; omega
  | succ m ih =>
    intro hm q
    by_cases r : j = m
    · subst r; exact ftWd_t h
    · rw [ftWd_f (fun s => r (ftWP_one hj (by omega) h s))]
      exact ih (by omega) (by omega)
/-- the class finds the word j: so does the reference -/
theorem ftCW_run {tx : Nat → Int32} {tn p j : Nat} (hj : j < 6) (h : ftCW9 tx tn p j) : ftRun tx tn p = ftWs j ∧ ftIw tx tn p = nI j ∧ p + ftWs j ≤ tn := by
  have hws := ftWs_le j
  have hin : ∀ t, t < ftWs j → p + t < tn ∧ tx (p + t) = ftLt (nI (100 * j + t)) := by
    intro t ht
    have e := h.1 t ht
    rcases Nat.lt_or_ge (p + t) tn with q | q
    · rw [ftC_in q] at e; exact ⟨q, e⟩
    · rw [ftC_out q] at e
      have := (ftLt_low j hj t ht).1
      rw [← e] at this
      exact absurd this (by decide)
  have hrun : ftRun tx tn p = ftWs j := by
    refine ftIni_of (by omega) (fun t ht => ?_) (fun _ q => ?_)
    · obtain ⟨q1, q2⟩ := hin t ht
      rw [q2]
      exact ⟨q1, ftLt_low j hj t ht⟩
    · exact h.2 (by rw [ftC_in q.1]; exact Or.inl q.2)
  refine ⟨hrun, ?_, ?_⟩
  · unfold ftIw
    rw [hrun]
    exact ftWd_of hj ⟨rfl, fun t ht => (hin t ht).2⟩ 6 (by omega) hj
  · rcases Nat.eq_zero_or_pos (ftWs j) with z | z
    · have : ∀ j, j < 6 → 0 < ftWs j := by decide
      have := this j hj
      omega
    · have := (hin (ftWs j - 1) (by omega)).1
      omega
/-- an item is possible: the class finds its word -/
theorem ftIt_cw {tx : Nat → Int32} {tn p h : Nat} {m : Nat → Int32} (q : ftItOk tx tn m h p) : ∃ j, j < 6 ∧ ftIw tx tn p = nI j ∧ ftCW9 tx tn p j := by
  obtain ⟨b1, b2, -⟩ := q
  rcases ftWd_c tx p (ftRun tx tn p) 6 with r | ⟨j, r1, r2, r3⟩
  · exact absurd (show ftIw tx tn p < 0 by unfold ftIw; rw [r]; decide) b1
  · have hW : ftIw tx tn p = nI j := r2
    refine ⟨j, r1, hW, fun t ht => ?_, ?_⟩
    · have h9 := (ftIni_yes (fun t => p + t < tn ∧ 97 ≤ tx (p + t) ∧ tx (p + t) ≤ 122) 120 t (by
        have : t < ftRun tx tn p := by rw [r3.1]; exact ht
        exact this)).1
      rw [ftC_in h9]; exact r3.2 t ht
    · have h0 := (b2 0 (ftNs_ge _)).1
      have e : ftIp tx tn p 0 = p + ftWs j := by show p + ftRun tx tn p = _; rw [r3.1]
      rw [e] at h0
      rw [ftC_in h0.1, h0.2]
      intro z
      rcases z with z | z
      · exact absurd z.1 (by decide)
      · exact absurd z.1 (by decide)
end
section
/-! the class's texts -/
theorem ftSp_c {tx : Nat → Int32} {tn p : Nat} : ftSp tx tn p ↔ ftC tx tn p = 32 := by
  constructor
  · rintro ⟨h, e⟩; rw [ftC_in h]; exact e
  · intro e
    rcases Nat.lt_or_ge p tn with q | q
    · rw [ftC_in q] at e; exact ⟨q, e⟩
    · rw [ftC_out q] at e; exact absurd e (by decide)
theorem ftNg_c {tx : Nat → Int32} {tn p : Nat} : ftNg tx tn p ↔ ftC tx tn (p + 1) = 45 := by
  constructor
  · rintro ⟨h, e⟩; rw [ftC_in h]; exact e
  · intro e
    rcases Nat.lt_or_ge (p + 1) tn with q | q
    · rw [ftC_in q] at e; exact ⟨q, e⟩
    · rw [ftC_out q] at e; exact absurd e (by decide)
theorem ftDp_c {tx : Nat → Int32} {tn q t : Nat} : ftDp tx tn q t ↔ 48 ≤ ftC tx tn (q + t) ∧ ftC tx tn (q + t) ≤ 57 := by
  constructor
  · rintro ⟨h, e⟩; rw [ftC_in h]; exact e
  · intro e
    rcases Nat.lt_or_ge (q + t) tn with r | r
    · rw [ftC_in r] at e; exact ⟨r, e⟩
    · rw [ftC_out r] at e; exact absurd e.1 (by decide)
theorem ft_neg1 (v : Int32) : -v = (-1) * v := by rw [Int32.neg_mul, Int32.one_mul]
noncomputable def ftNfs (tx : Nat → Int32) (tn q : Nat) (nf : Nat → Int32) : Nat → (Nat → Int32)
  | 0 => nf
  | i + 1 => ftNf tx tn (ftNP tx tn q i) i (ftNfs tx tn q nf i)
theorem ftNP_le {tx : Nat → Int32} {tn q : Nat} (h : q ≤ tn) (i : Nat) : ftNP tx tn q i ≤ tn := by
  induction i with
  | zero => exact h
  | succ i ih => exact ftNe_le ih
noncomputable def ftNm (tx : Nat → Int32) (tn q wn : Nat) : Nat := ftIni (fun i => ftNok tx tn (ftNP tx tn q i)) wn
theorem ftNfs_at {tx : Nat → Int32} {tn q : Nat} {nf : Nat → Int32} : ∀ m, (∀ t, t < m → ftNok tx tn (ftNP tx tn q t)) → ∀ i, i < m → ftNfs tx tn q nf m i = ftNv tx tn (ftNP tx tn q i) := by
  intro m
  induction m with
  | zero => intro _ i h; exact absurd h (Nat.not_lt_zero i)
  | succ m ih =>
    intro h i hi
    have e := ftNf_t (fg := ftNfs tx tn q nf m) (i := m) (h m (by omega)).1
    show ftNf tx tn (ftNP tx tn q m) m (ftNfs tx tn q nf m) i = _
    rw [e]
    by_cases z : i = m
    · subst z; exact ftUpd_at0
    · rw [ftUpd_ne z]; exact ih (fun t ht => h t (by omega)) i (by omega)
theorem ftLoss_j (ln : Int32) : ∀ j, 3 ≤ j → j < 6 → ∀ v, ftLossFits (nI j - 3) v ↔ ftRt (nI j) 1 v ln := by
  intro j h3 h6 v
  match j, h3, h6 with
  | 3, _, _ =>
    rw [show ftRt (nI 3) 1 v ln = (-500 ≤ v ∧ v ≤ 5000) from rfl, show nI 3 - 3 = 0 by decide]
    simp [ftLossFits]
  | 4, _, _ =>
    rw [show ftRt (nI 4) 1 v ln = (0 ≤ v ∧ v ≤ 5000) from rfl, show nI 4 - 3 = 1 by decide]
    simp [ftLossFits]
  | 5, _, _ =>
    rw [show ftRt (nI 5) 1 v ln = (0 ≤ v ∧ v ≤ 50) from rfl, show nI 5 - 3 = 2 by decide]
    simp [ftLossFits]
theorem ftRefl_j (ln v : Int32) : ftReflFits (nI 4 - 3) v ↔ ftRt (nI 4) 2 v ln := by
  rw [show ftRt (nI 4) 2 v ln = (1 ≤ v ∧ v ≤ 20000) from rfl, show nI 4 - 3 = 1 by decide]
  simp [ftReflFits]
/-- a link of the class is a row's -/
def ftLR (m : Nat → Int32) (len att en : Int32) (n : Nat) (kf pf lf rf : Nat → Int32) : Prop := m 0 = len ∧ m 1 = att ∧ m 2 = en ∧ m 3 = nI n ∧ n ≤ 10 ∧ ∀ k, k < n → m (4 + 4 * k + 0) = kf k ∧ m (4 + 4 * k + 1) = pf k ∧ m (4 + 4 * k + 2) = lf k ∧ m (4 + 4 * k + 3) = rf k
def ftTd (td : Nat → Int32) (h : Nat) : Prop := ∀ j, j < 3 → td j = nI (h / 2 ^ j % 2)
theorem ftLR_n {m : Nat → Int32} {len att en : Int32} {n : Nat} {kf pf lf rf : Nat → Int32} (h : ftLR m len att en n kf pf lf rf) : ftCN m = n := by
  unfold ftCN
  rw [h.2.2.2.1, nI_clamp (by have := h.2.2.2.2.1; omega)]
theorem ftIns_add {m f : Nat → Int32} {n i : Nat} {kd x lo re v : Int32} (hi : i < 4) (hf : ∀ k, k < n → m (4 + 4 * k + i) = f k) (hv : ftAdd m n kd x lo re (4 + 4 * ftPosW m x n + i) = v) : ∀ k, k < n + 1 → ftAdd m n kd x lo re (4 + 4 * k + i) = ftIns f n (ftPosW m x n) v k := by
  have hle := ftPosW_le m x n
  refine ftIns_by hle ?_ ?_ ?_
  · rw [hv, ftIns_at]
  · intro t ht
    rw [ftAdd_lo hi ht, ftIns_dn ht]; exact hf t (by omega)
  · intro t h1 h2
    rw [ftAdd_hi hi h1 h2, ftIns_up h1 h2]; exact hf (t - 1) (by omega)
theorem ftLR_add {m : Nat → Int32} {len att en kd x lo re : Int32} {n : Nat} {kf pf lf rf : Nat → Int32} (h : ftLR m len att en n kf pf lf rf) (hn : n < 10) (ha : ∀ a b, a < b → b < n → m (4 + 4 * a + 1) < m (4 + 4 * b + 1)) (hne : ∀ t, t < n → m (4 + 4 * t + 1) ≠ x) : ftLR (ftAdd m n kd x lo re) len att en (n + 1) (ftIns kf n (ftIdx pf x n) kd) (ftIns pf n (ftIdx pf x n) x) (ftIns lf n (ftIdx pf x n) lo) (ftIns rf n (ftIdx pf x n) re) := by
  obtain ⟨a1, a2, a3, a4, a5, a6⟩ := h
  rw [ftIdx_pos (fun t ht => (a6 t ht).2.1) ha hne]
  refine ⟨by rw [ftAdd_l (by omega)]; exact a1, by rw [ftAdd_l (by omega)]; exact a2, by rw [ftAdd_l (by omega)]; exact a3, ftAdd_3 _ _ _ _ _ _, by omega, fun k hk => ?_⟩
  exact ⟨ftIns_add (by omega) (fun k hk => (a6 k hk).1) ftAdd_at0 k hk, ftIns_add (by omega) (fun k hk => (a6 k hk).2.1) ftAdd_at1 k hk, ftIns_add (by omega) (fun k hk => (a6 k hk).2.2.1) ftAdd_at2 k hk, ftIns_add (by omega) (fun k hk => (a6 k hk).2.2.2) ftAdd_at3 k hk⟩
theorem ftTd_or : ∀ h, h < 64 → ∀ j, j < 6 → ∀ i, i < 3 → (h ||| 2 ^ j) / 2 ^ i % 2 = if i = j then 1 else h / 2 ^ i % 2 := by decide +kernel
set_option maxHeartbeats 4000000 in
set_option maxRecDepth 100000 in
theorem c_X5_append (l : Launch) (D : va_G) (cI cS : ClassId) (sz : Nat) (a0 ag am ad b0 : Nat) (tn : Nat) (v1 v2 v3 : Int32) (v4 : Int32) (tx : Nat → Int32) (x : Int32) (htn : tn < 120) : Met l yX5_append wsX5_append ({ frames := 1, cells := 0, slots := 0, locals := 22 }) (ftRW D cI cS [.ref a0, .int x] [(a0, .inr (5, [.ref ag, .ref am, .ref ad, .ref b0, .int (nI tn), .int v1, .int v2, .int v3, .int v4])), (ag, .inl (cI, 120, .inl tx))] sz) (ftQi D (nI (tn + 1)) [(a0, .inr (5, [.ref ag, .ref am, .ref ad, .ref b0, .int (nI tn), .int v1, .int v2, .int v3, .int v4])), (ag, .inl (cI, 120, .inl tx))] [(a0, .inr (5, [.ref ag, .ref am, .ref ad, .ref b0, .int (nI (tn + 1)), .int v1, .int v2, .int v3, .int v4])), (ag, .inl (cI, 120, .inl (upd tx tn x)))] sz) 0 0 (va_A [(a0, .inr (5, [.ref ag, .ref am, .ref ad, .ref b0, .int (nI tn), .int v1, .int v2, .int v3, .int v4])), (ag, .inl (cI, 120, .inl tx))] sz) := by
  refine Met.ofW (cc := cX5_append) (maxL := 2) (ret := (some .int)) (by decide) rfl ?_
  intro p e s m args below meth c s₁ B hml hv
  obtain ⟨rfl, hsz, hP, hKK, hD0⟩ := hv
  have hK := hKK.1
  have hx := B.exec
  have hb := B.bytes
  have hr := B.returns
  have hts := atoms_spec (ws := wsX5_append) B.pre
  have hown : s.vm.findClass RX5 = some m.cls := findClass_of_methodNamed B.named
  have hlocks := B.notSynchronized
  subst hsz
  have hD := hD0.self (sz := s.heap.size)
  generalize hAe : va_A [(a0, .inr (5, [.ref ag, .ref am, .ref ad, .ref b0, .int (nI tn), .int v1, .int v2, .int v3, .int v4])), (ag, .inl (cI, 120, .inl tx))] s.heap.size = A at hD ⊢
  have hA : ∀ q : Nat, s.heap.size ≤ q → A q := fun q h => by rw [← hAe]; exact Or.inr h
  have hS : va_S A s.heap s.heap [] := va_S.rf
  have hD : va_D A [(a0, .inr (5, [.ref ag, .ref am, .ref ad, .ref b0, .int (nI tn), .int v1, .int v2, .int v3, .int v4])), (ag, .inl (cI, 120, .inl tx))] := hD
  have hP : va_P D vwCl [(a0, .inr (5, [.ref ag, .ref am, .ref ad, .ref b0, .int (nI tn), .int v1, .int v2, .int v3, .int v4])), (ag, .inl (cI, 120, .inl tx))] s.heap := hP
  have hl := lv_entry ([.ref a0, .int x]) (n := 2) (Nat.le_of_ble_eq_true rfl)
  rw [lg_entry_eq]
  generalize (lg_sl ([.ref a0, .int x]) ++ List.replicate (2 - (lg_sl ([.ref a0, .int x])).length) Slot.unset).toArray = ls at hl ⊢
  have hl : lv_has ls 2 [(0, .ref a0), (1, .int x)] := hl
  refine lv_aload_n hx hb dX5_append_0 rfl (lv_at hl 0 rfl) ?_
  refine va_get (D := D) (ci := 5) (v := .ref ag) (C := RX5) (T := TX5) (N := 9) hx hb hts (by decide +kernel) hown hK hP 0 rfl rfl 0 (by decide) (hts (.fieldLink RX5 9 "FiberTrace$LinkText" "signs" "[I") (by decide +kernel)) (fun _ h9 => h9) rfl dX5_append_1 ?_
  refine lv_aload_n hx hb dX5_append_4 rfl (lv_at hl 0 rfl) ?_
  refine va_get (D := D) (ci := 5) (v := .int (nI tn)) (C := RX5) (T := TX5) (N := 9) hx hb hts (by decide +kernel) hown hK hP 0 rfl rfl 4 (by decide) (hts (.fieldLink RX5 28 "FiberTrace$LinkText" "size" "I") (by decide +kernel)) (fun _ h9 => h9) rfl dX5_append_5 ?_
  refine lv_iload_n hx hb dX5_append_8 rfl (lv_at hl 1 rfl) ?_
  refine ft_cv (wc := [(ag, .inl (cI, 120, .inl tx))]) (wr := [(a0, .inr (5, [.ref ag, .ref am, .ref ad, .ref b0, .int (nI tn), .int v1, .int v2, .int v3, .int v4]))]) (w1 := [(ag, .inl (cI, 120, .inl (ftPut 120 tx (nI tn) x)))]) (ws1 := [(a0, .inr (5, [.ref ag, .ref am, .ref ad, .ref b0, .int (nI tn), .int v1, .int v2, .int v3, .int v4])), (ag, .inl (cI, 120, .inl (ftPut 120 tx (nI tn) x)))]) (va_runSN (As := [.ref ag, .int (nI tn), .int x]) (rest := []) ⟨hx, hb, hml, hown, hts⟩ (c_X10_put l D cI cS s.heap.size ag 120 tx (nI tn) x (by first | assumption | omega)) ⟨va_cnB 3 hts gX5_append_X10_put_n32 rfl rfl rfl (hKK.2 _ (List.mem_of_getElem? (i := 7) rfl)) (hts (.initialized RX10) (by decide +kernel)) (by decide +kernel) ⟨Nat.le_of_ble_eq_true rfl, Nat.le_of_ble_eq_true rfl⟩, hts (.static yX10_put) (by decide +kernel), trivial⟩ (ft_preRW hP hD hKK [1] rfl rfl rfl) rfl rfl hl.1 rfl (lv_room (Nat.le_of_ble_eq_true rfl)) dX5_append_9 ⟨Nat.le_of_ble_eq_true rfl, Nat.le_of_ble_eq_true rfl⟩) hP hD hS hA [1] [0] [0, 1] rfl rfl (by decide) (by decide) (by decide) rfl rfl (fun H locs hP hD hS => ?_)
  rw [ftPut_N (k := tn) (by omega) (by omega)] at hP hD
  have hP : va_P D vwCl [(a0, .inr (5, [.ref ag, .ref am, .ref ad, .ref b0, .int (nI tn), .int v1, .int v2, .int v3, .int v4])), (ag, .inl (cI, 120, .inl (upd tx tn x)))] H := hP
  have hD : va_D A [(a0, .inr (5, [.ref ag, .ref am, .ref ad, .ref b0, .int (nI tn), .int v1, .int v2, .int v3, .int v4])), (ag, .inl (cI, 120, .inl (upd tx tn x)))] := hD
  refine lv_aload_n hx hb dX5_append_12 rfl (lv_at hl 0 rfl) ?_
  refine lv_dup hx hb dX5_append_13 rfl ?_
  refine va_get (D := D) (ci := 5) (v := .int (nI tn)) (C := RX5) (T := TX5) (N := 9) hx hb hts (by decide +kernel) hown hK hP 0 rfl rfl 4 (by decide) (hts (.fieldLink RX5 28 "FiberTrace$LinkText" "size" "I") (by decide +kernel)) (fun _ h9 => h9) rfl dX5_append_14 ?_
  refine lv_iconst (v := 1) hx hb dX5_append_17 (by decide) ?_
  refine lv_iadd hx hb dX5_append_18 ?_
  refine ft_top (y := nI (tn + 1)) (ft_addN tn 1) ?_
  refine va_put (D := D) (ci := 5) (v := .int (nI (tn + 1))) (ty := .int) (C := RX5) (T := TX5) (N := 9) hx hb hts (by decide +kernel) tyX5 tyX5_ok nmX5 hown hK hP hD hS 0 rfl rfl 4 (by decide) (hts (.fieldLink RX5 28 "FiberTrace$LinkText" "size" "I") (by decide +kernel)) (fun _ h9 => h9) rfl (by decide +kernel) rfl rfl (Nat.le_of_ble_eq_true rfl) dX5_append_19 (fun H locs hP hD hS => ?_)
  have hP : va_P D vwCl [(a0, .inr (5, [.ref ag, .ref am, .ref ad, .ref b0, .int (nI (tn + 1)), .int v1, .int v2, .int v3, .int v4])), (ag, .inl (cI, 120, .inl (upd tx tn x)))] H := hP
  have hD : va_D A [(a0, .inr (5, [.ref ag, .ref am, .ref ad, .ref b0, .int (nI (tn + 1)), .int v1, .int v2, .int v3, .int v4])), (ag, .inl (cI, 120, .inl (upd tx tn x)))] := hD
  refine lv_aload_n hx hb dX5_append_22 rfl (lv_at hl 0 rfl) ?_
  refine va_get (D := D) (ci := 5) (v := .int (nI (tn + 1))) (C := RX5) (T := TX5) (N := 9) hx hb hts (by decide +kernel) hown hK hP 0 rfl rfl 4 (by decide) (hts (.fieldLink RX5 28 "FiberTrace$LinkText" "size" "I") (by decide +kernel)) (fun _ h9 => h9) rfl dX5_append_23 ?_
  have hw9 : ([(a0, .inr (5, [.ref ag, .ref am, .ref ad, .ref b0, .int (nI (tn + 1)), .int v1, .int v2, .int v3, .int v4])), (ag, .inl (cI, 120, .inl (upd tx tn x)))] : va_W) = [(a0, .inr (5, [.ref ag, .ref am, .ref ad, .ref b0, .int (nI (tn + 1)), .int v1, .int v2, .int v3, .int v4])), (ag, .inl (cI, 120, .inl (upd tx tn x)))] := rfl
  rw [hw9] at hP hD
  exact W.iret (v := nI (tn + 1)) hx hb hr (fun t ht hW => ⟨⟨nI (tn + 1), (), rfl, rfl, by rw [ht]; exact hP, by rw [hAe]; exact hD⟩, by rw [hAe]; exact hS.F ht⟩) hS.2.2 dX5_append_26
set_option maxHeartbeats 4000000 in
set_option maxRecDepth 100000 in
theorem c_X5_empty (l : Launch) (D : va_G) (cI cS : ClassId) (sz : Nat) (a0 ag am ad b0 : Nat) (tn : Nat) (v1 v2 v3 : Int32) (v4 : Int32)  : Met l yX5_empty wsX5_empty ({ frames := 0, cells := 0, slots := 0, locals := 0 }) (ftRW D cI cS [.ref a0] [(a0, .inr (5, [.ref ag, .ref am, .ref ad, .ref b0, .int (nI tn), .int v1, .int v2, .int v3, .int v4]))] sz) (ftQi D (nI tn) [(a0, .inr (5, [.ref ag, .ref am, .ref ad, .ref b0, .int (nI tn), .int v1, .int v2, .int v3, .int v4]))] [(a0, .inr (5, [.ref ag, .ref am, .ref ad, .ref b0, .int 0, .int v1, .int v2, .int v3, .int v4]))] sz) 0 0 (va_A [(a0, .inr (5, [.ref ag, .ref am, .ref ad, .ref b0, .int (nI tn), .int v1, .int v2, .int v3, .int v4]))] sz) := by
  refine Met.ofW (cc := cX5_empty) (maxL := 2) (ret := (some .int)) (by decide) rfl ?_
  intro p e s m args below meth c s₁ B hml hv
  obtain ⟨rfl, hsz, hP, hKK, hD0⟩ := hv
  have hK := hKK.1
  have hx := B.exec
  have hb := B.bytes
  have hr := B.returns
  have hts := atoms_spec (ws := wsX5_empty) B.pre
  have hown : s.vm.findClass RX5 = some m.cls := findClass_of_methodNamed B.named
  have hlocks := B.notSynchronized
  subst hsz
  have hD := hD0.self (sz := s.heap.size)
  generalize hAe : va_A [(a0, .inr (5, [.ref ag, .ref am, .ref ad, .ref b0, .int (nI tn), .int v1, .int v2, .int v3, .int v4]))] s.heap.size = A at hD ⊢
  have hA : ∀ q : Nat, s.heap.size ≤ q → A q := fun q h => by rw [← hAe]; exact Or.inr h
  have hS : va_S A s.heap s.heap [] := va_S.rf
  have hD : va_D A [(a0, .inr (5, [.ref ag, .ref am, .ref ad, .ref b0, .int (nI tn), .int v1, .int v2, .int v3, .int v4]))] := hD
  have hP : va_P D vwCl [(a0, .inr (5, [.ref ag, .ref am, .ref ad, .ref b0, .int (nI tn), .int v1, .int v2, .int v3, .int v4]))] s.heap := hP
  have hl := lv_entry ([.ref a0]) (n := 2) (Nat.le_of_ble_eq_true rfl)
  rw [lg_entry_eq]
  generalize (lg_sl ([.ref a0]) ++ List.replicate (2 - (lg_sl ([.ref a0])).length) Slot.unset).toArray = ls at hl ⊢
  have hl : lv_has ls 2 [(0, .ref a0)] := hl
  refine lv_aload_n hx hb dX5_empty_0 rfl (lv_at hl 0 rfl) ?_
  refine va_get (D := D) (ci := 5) (v := .int (nI tn)) (C := RX5) (T := TX5) (N := 9) hx hb hts (by decide +kernel) hown hK hP 0 rfl rfl 4 (by decide) (hts (.fieldLink RX5 28 "FiberTrace$LinkText" "size" "I") (by decide +kernel)) (fun _ h9 => h9) rfl dX5_empty_1 ?_
  refine lv_istore_n (lv' := [(1, .int (nI tn)), (0, .ref a0)]) hx hb dX5_empty_4 rfl hl (by decide) rfl (fun ls hl => ?_)
  refine lv_aload_n hx hb dX5_empty_5 rfl (lv_at hl 1 rfl) ?_
  refine lv_iconst (v := 0) hx hb dX5_empty_6 (by decide) ?_
  refine va_put (D := D) (ci := 5) (v := .int 0) (ty := .int) (C := RX5) (T := TX5) (N := 9) hx hb hts (by decide +kernel) tyX5 tyX5_ok nmX5 hown hK hP hD hS 0 rfl rfl 4 (by decide) (hts (.fieldLink RX5 28 "FiberTrace$LinkText" "size" "I") (by decide +kernel)) (fun _ h9 => h9) rfl (by decide +kernel) rfl rfl (Nat.le_of_ble_eq_true rfl) dX5_empty_7 (fun H locs hP hD hS => ?_)
  have hP : va_P D vwCl [(a0, .inr (5, [.ref ag, .ref am, .ref ad, .ref b0, .int 0, .int v1, .int v2, .int v3, .int v4]))] H := hP
  have hD : va_D A [(a0, .inr (5, [.ref ag, .ref am, .ref ad, .ref b0, .int 0, .int v1, .int v2, .int v3, .int v4]))] := hD
  refine lv_iload_n hx hb dX5_empty_10 rfl (lv_at hl 0 rfl) ?_
  have hw9 : ([(a0, .inr (5, [.ref ag, .ref am, .ref ad, .ref b0, .int 0, .int v1, .int v2, .int v3, .int v4]))] : va_W) = [(a0, .inr (5, [.ref ag, .ref am, .ref ad, .ref b0, .int 0, .int v1, .int v2, .int v3, .int v4]))] := rfl
  rw [hw9] at hP hD
  exact W.iret (v := nI tn) hx hb hr (fun t ht hW => ⟨⟨nI tn, (), rfl, rfl, by rw [ht]; exact hP, by rw [hAe]; exact hD⟩, by rw [hAe]; exact hS.F ht⟩) hS.2.2 dX5_empty_11
set_option maxHeartbeats 4000000 in
set_option maxRecDepth 100000 in
theorem c_X5_signAt (l : Launch) (D : va_G) (cI cS : ClassId) (a0 ag am ad b0 : Nat) (tn : Nat) (v1 v2 v3 : Int32) (v4 : Int32) (tx : Nat → Int32) (i : Nat) (htn : tn ≤ 120) (hi : i < 1000) : Met l yX5_signAt wsX5_signAt ({ frames := 1, cells := 0, slots := 0, locals := 21 }) (ftRO D cI cS [.ref a0, .int (nI i)] [(a0, .inr (5, [.ref ag, .ref am, .ref ad, .ref b0, .int (nI tn), .int v1, .int v2, .int v3, .int v4])), (ag, .inl (cI, 120, .inl tx))]) (vp_Si (fun o9 => o9 = ftC tx tn i)) 0 0 (fun _ => False) := by
  refine Met.ofW (cc := cX5_signAt) (maxL := 2) (ret := (some .int)) (by decide) rfl ?_
  intro p e s m args below meth c s₁ B hml hv
  obtain ⟨rfl, hP, hKK⟩ := hv
  have hK := hKK.1
  have hx := B.exec
  have hb := B.bytes
  have hr := B.returns
  have hts := atoms_spec (ws := wsX5_signAt) B.pre
  have hown : s.vm.findClass RX5 = some m.cls := findClass_of_methodNamed B.named
  have hlocks := B.notSynchronized
  have hP : va_P D vwCl [(a0, .inr (5, [.ref ag, .ref am, .ref ad, .ref b0, .int (nI tn), .int v1, .int v2, .int v3, .int v4])), (ag, .inl (cI, 120, .inl tx))] s.heap := hP
  have hl := lv_entry ([.ref a0, .int (nI i)]) (n := 2) (Nat.le_of_ble_eq_true rfl)
  rw [lg_entry_eq]
  generalize (lg_sl ([.ref a0, .int (nI i)]) ++ List.replicate (2 - (lg_sl ([.ref a0, .int (nI i)])).length) Slot.unset).toArray = ls at hl ⊢
  have hl : lv_has ls 2 [(0, .ref a0), (1, .int (nI i))] := hl
  refine lv_iload_n hx hb dX5_signAt_0 rfl (lv_at hl 1 rfl) ?_
  refine lv_aload_n hx hb dX5_signAt_1 rfl (lv_at hl 0 rfl) ?_
  refine va_get (D := D) (ci := 5) (v := .int (nI tn)) (C := RX5) (T := TX5) (N := 9) hx hb hts (by decide +kernel) hown hK hP 0 rfl rfl 4 (by decide) (hts (.fieldLink RX5 28 "FiberTrace$LinkText" "size" "I") (by decide +kernel)) (fun _ h9 => h9) rfl dX5_signAt_2 ?_
  refine lv_icmp_ge (tgt := 19) hx hb dX5_signAt_5 (by decide) (fun c5 => ?_) (fun c5 => ?_)
  · have c5n : tn ≤ i := ft_leN (by omega) (by omega) c5
    have hv9 : ftC tx tn i = 0 := ftC_out c5n
    refine lv_iconst (v := 0) hx hb dX5_signAt_19 (by decide) ?_
    exact W.iret (v := 0) hx hb hr (fun t ht hW => ⟨0, rfl, (by show (0 : Int32) = ftC tx tn i; exact hv9.symm), ht⟩) (fun _ h9 => absurd h9 List.not_mem_nil) dX5_signAt_20
  · have c5n : i < tn := ft_nleN (by omega) (by omega) c5
    have hv9 : ftC tx tn i = tx i := ftC_in c5n
    refine lv_aload_n hx hb dX5_signAt_8 rfl (lv_at hl 0 rfl) ?_
    refine va_get (D := D) (ci := 5) (v := .ref ag) (C := RX5) (T := TX5) (N := 9) hx hb hts (by decide +kernel) hown hK hP 0 rfl rfl 0 (by decide) (hts (.fieldLink RX5 9 "FiberTrace$LinkText" "signs" "[I") (by decide +kernel)) (fun _ h9 => h9) rfl dX5_signAt_9 ?_
    refine lv_iload_n hx hb dX5_signAt_12 rfl (lv_at hl 1 rfl) ?_
    refine ft_csi (r := ftAt 120 tx (nI i)) (va_runSN (As := [.ref ag, .int (nI i)]) (rest := []) ⟨hx, hb, hml, hown, hts⟩ (c_X10_at l D cI cS ag 120 tx (nI i) (by first | assumption | omega)) ⟨va_cnB 2 hts gX5_signAt_X10_at_n93 rfl rfl rfl (hKK.2 _ (List.mem_of_getElem? (i := 8) rfl)) (hts (.initialized RX10) (by decide +kernel)) (by decide +kernel) ⟨Nat.le_of_ble_eq_true rfl, Nat.le_of_ble_eq_true rfl⟩, hts (.static yX10_at) (by decide +kernel), trivial⟩ (ft_preRO hP hKK [1] rfl) rfl rfl hl.1 rfl (lv_room (Nat.le_of_ble_eq_true rfl)) dX5_signAt_13 ⟨Nat.le_of_ble_eq_true rfl, Nat.le_of_ble_eq_true rfl⟩) ?_
    refine ft_top (y := tx i) (ftAt_N (by omega) (by omega)) ?_
    refine lv_goto (tgt := 20) hx hb dX5_signAt_16 (by decide) ?_
    exact W.iret (v := tx i) hx hb hr (fun t ht hW => ⟨tx i, rfl, (by show (tx i : Int32) = ftC tx tn i; exact hv9.symm), ht⟩) (fun _ h9 => absurd h9 List.not_mem_nil) dX5_signAt_20
set_option maxHeartbeats 4000000 in
set_option maxRecDepth 100000 in
theorem c_X5_nameOf (l : Launch) (D : va_G) (cI cS : ClassId) (sK sV : Nat → Nat) (j : Nat) (hj : j < 6) : Met l yX5_nameOf wsX5_nameOf ({ frames := 0, cells := 0, slots := 0, locals := 0 }) (ftROS D cI cS sK sV [.int (nI j)] []) (ftSr (sK j)) 0 0 (fun _ => False) := by
  refine Met.ofW (cc := cX5_nameOf) (maxL := 1) (ret := (some (.object "java/lang/String"))) (by decide) rfl ?_
  intro p e s m args below meth c s₁ B hml hv
  obtain ⟨rfl, hP, hKK, hSt⟩ := hv
  have hS : va_S (fun _ => False) s.heap s.heap [] := va_S.rf
  have hK := hKK.1
  have hx := B.exec
  have hb := B.bytes
  have hr := B.returns
  have hts := atoms_spec (ws := wsX5_nameOf) B.pre
  have hown : s.vm.findClass RX5 = some m.cls := findClass_of_methodNamed B.named
  have hlocks := B.notSynchronized
  have hP : va_P D vwCl [] s.heap := hP
  have hl := lv_entry ([.int (nI j)]) (n := 1) (Nat.le_of_ble_eq_true rfl)
  rw [lg_entry_eq]
  generalize (lg_sl ([.int (nI j)]) ++ List.replicate (1 - (lg_sl ([.int (nI j)])).length) Slot.unset).toArray = ls at hl ⊢
  have hl : lv_has ls 1 [(0, .int (nI j))] := hl
  refine lv_iload_n hx hb dX5_nameOf_0 rfl (lv_at hl 0 rfl) ?_
  by_cases c1_0 : (nI j) = 0
  · refine lv_tableIn (off := 35) (tgt := 36) hx hb dX5_nameOf_1 (by rw [c1_0]; decide) (by rw [c1_0]; decide) (by rw [c1_0]; decide) (by decide) ?_
    refine va_ldcS hx hb hown (hSt.2.2.2.1 0 (by omega)) dX5_nameOf_36 ?_
    exact W.aret (v := .ref (sK 0)) hx hb hr (Or.inl ⟨_, rfl⟩) (Or.inr ⟨_, rfl⟩) (fun t ht hW => ⟨(by rw [show j = 0 from ft_eqN (by omega) (by omega) c1_0]), ht⟩) (fun _ h9 => absurd h9 List.not_mem_nil) dX5_nameOf_38
  by_cases c1_1 : (nI j) = 1
  · refine lv_tableIn (off := 38) (tgt := 39) hx hb dX5_nameOf_1 (by rw [c1_1]; decide) (by rw [c1_1]; decide) (by rw [c1_1]; decide) (by decide) ?_
    refine va_ldcS hx hb hown (hSt.2.2.2.1 1 (by omega)) dX5_nameOf_39 ?_
    exact W.aret (v := .ref (sK 1)) hx hb hr (Or.inl ⟨_, rfl⟩) (Or.inr ⟨_, rfl⟩) (fun t ht hW => ⟨(by rw [show j = 1 from ft_eqN (by omega) (by omega) c1_1]), ht⟩) (fun _ h9 => absurd h9 List.not_mem_nil) dX5_nameOf_41
  by_cases c1_2 : (nI j) = 2
  · refine lv_tableIn (off := 41) (tgt := 42) hx hb dX5_nameOf_1 (by rw [c1_2]; decide) (by rw [c1_2]; decide) (by rw [c1_2]; decide) (by decide) ?_
    refine va_ldcS hx hb hown (hSt.2.2.2.1 2 (by omega)) dX5_nameOf_42 ?_
    exact W.aret (v := .ref (sK 2)) hx hb hr (Or.inl ⟨_, rfl⟩) (Or.inr ⟨_, rfl⟩) (fun t ht hW => ⟨(by rw [show j = 2 from ft_eqN (by omega) (by omega) c1_2]), ht⟩) (fun _ h9 => absurd h9 List.not_mem_nil) dX5_nameOf_44
  by_cases c1_3 : (nI j) = 3
  · refine lv_tableIn (off := 44) (tgt := 45) hx hb dX5_nameOf_1 (by rw [c1_3]; decide) (by rw [c1_3]; decide) (by rw [c1_3]; decide) (by decide) ?_
    refine va_ldcS hx hb hown (hSt.2.2.2.1 3 (by omega)) dX5_nameOf_45 ?_
    exact W.aret (v := .ref (sK 3)) hx hb hr (Or.inl ⟨_, rfl⟩) (Or.inr ⟨_, rfl⟩) (fun t ht hW => ⟨(by rw [show j = 3 from ft_eqN (by omega) (by omega) c1_3]), ht⟩) (fun _ h9 => absurd h9 List.not_mem_nil) dX5_nameOf_47
  by_cases c1_4 : (nI j) = 4
  · refine lv_tableIn (off := 47) (tgt := 48) hx hb dX5_nameOf_1 (by rw [c1_4]; decide) (by rw [c1_4]; decide) (by rw [c1_4]; decide) (by decide) ?_
    refine va_ldcS hx hb hown (hSt.2.2.2.1 4 (by omega)) dX5_nameOf_48 ?_
    exact W.aret (v := .ref (sK 4)) hx hb hr (Or.inl ⟨_, rfl⟩) (Or.inr ⟨_, rfl⟩) (fun t ht hW => ⟨(by rw [show j = 4 from ft_eqN (by omega) (by omega) c1_4]), ht⟩) (fun _ h9 => absurd h9 List.not_mem_nil) dX5_nameOf_50
  have c1_0i := lv_neT (a := 0) c1_0 (by decide)
  have c1_1i := lv_neT (a := 1) c1_1 (by decide)
  have c1_2i := lv_neT (a := 2) c1_2 (by decide)
  have c1_3i := lv_neT (a := 3) c1_3 (by decide)
  have c1_4i := lv_neT (a := 4) c1_4 (by decide)
  refine lv_tableOut (tgt := 51) hx hb dX5_nameOf_1 (by omega) (by decide) ?_
  have h5 : j = 5 := by
    have q0 : j ≠ 0 := fun q => c1_0 (by rw [q]; rfl)
    have q1 : j ≠ 1 := fun q => c1_1 (by rw [q]; rfl)
    have q2 : j ≠ 2 := fun q => c1_2 (by rw [q]; rfl)
    have q3 : j ≠ 3 := fun q => c1_3 (by rw [q]; rfl)
    have q4 : j ≠ 4 := fun q => c1_4 (by rw [q]; rfl)
    omega
  refine va_ldcS hx hb hown (hSt.2.2.2.1 5 (by omega)) dX5_nameOf_51 ?_
  exact W.aret (v := .ref (sK 5)) hx hb hr (Or.inl ⟨_, rfl⟩) (Or.inr ⟨_, rfl⟩) (fun t ht hW => ⟨(by rw [h5]), ht⟩) (fun _ h9 => absurd h9 List.not_mem_nil) dX5_nameOf_53
set_option maxHeartbeats 4000000 in
set_option maxRecDepth 100000 in
theorem c_X5_numbersOf (l : Launch) (D : va_G) (cI cS : ClassId) (x : Int32)  : Met l yX5_numbersOf wsX5_numbersOf ({ frames := 0, cells := 0, slots := 0, locals := 0 }) (ftRO D cI cS [.int x] []) (vp_Si (fun o9 => o9 = nI (ftNs x))) 0 0 (fun _ => False) := by
  refine Met.ofW (cc := cX5_numbersOf) (maxL := 1) (ret := (some .int)) (by decide) rfl ?_
  intro p e s m args below meth c s₁ B hml hv
  obtain ⟨rfl, hP, hKK⟩ := hv
  have hK := hKK.1
  have hx := B.exec
  have hb := B.bytes
  have hr := B.returns
  have hts := atoms_spec (ws := wsX5_numbersOf) B.pre
  have hown : s.vm.findClass RX5 = some m.cls := findClass_of_methodNamed B.named
  have hlocks := B.notSynchronized
  have hP : va_P D vwCl [] s.heap := hP
  have hl := lv_entry ([.int x]) (n := 1) (Nat.le_of_ble_eq_true rfl)
  rw [lg_entry_eq]
  generalize (lg_sl ([.int x]) ++ List.replicate (1 - (lg_sl ([.int x])).length) Slot.unset).toArray = ls at hl ⊢
  have hl : lv_has ls 1 [(0, .int x)] := hl
  refine lv_iload_n hx hb dX5_numbersOf_0 rfl (lv_at hl 0 rfl) ?_
  refine lv_iconst (v := 3) hx hb dX5_numbersOf_1 (by decide) ?_
  refine lv_icmp_ge (tgt := 7) hx hb dX5_numbersOf_2 (by decide) (fun c2 => ?_) (fun c2 => ?_)
  · refine lv_iload_n hx hb dX5_numbersOf_7 rfl (lv_at hl 0 rfl) ?_
    refine lv_iconst (v := 4) hx hb dX5_numbersOf_8 (by decide) ?_
    refine lv_icmp_ne (tgt := 16) hx hb dX5_numbersOf_9 (by decide) (fun c9 => ?_) (fun c9 => ?_)
    · refine lv_iconst (v := 2) hx hb dX5_numbersOf_16 (by decide) ?_
      exact W.iret (v := 2) hx hb hr (fun t ht hW => ⟨2, rfl, (by show (2 : Int32) = nI (ftNs x); unfold ftNs; first | (rw [if_pos (Int32.not_le.mp c2)]; rfl) | (rw [if_neg (Int32.not_lt.mpr c2), if_pos c9]; rfl) | (rw [if_neg (Int32.not_lt.mpr c2), if_neg c9]; rfl)), ht⟩) (fun _ h9 => absurd h9 List.not_mem_nil) dX5_numbersOf_17
    · refine lv_iconst (v := 3) hx hb dX5_numbersOf_12 (by decide) ?_
      refine lv_goto (tgt := 17) hx hb dX5_numbersOf_13 (by decide) ?_
      exact W.iret (v := 3) hx hb hr (fun t ht hW => ⟨3, rfl, (by show (3 : Int32) = nI (ftNs x); unfold ftNs; first | (rw [if_pos (Int32.not_le.mp c2)]; rfl) | (rw [if_neg (Int32.not_lt.mpr c2), if_pos c9]; rfl) | (rw [if_neg (Int32.not_lt.mpr c2), if_neg c9]; rfl)), ht⟩) (fun _ h9 => absurd h9 List.not_mem_nil) dX5_numbersOf_17
  · refine lv_iconst (v := 1) hx hb dX5_numbersOf_5 (by decide) ?_
    exact W.iret (v := 1) hx hb hr (fun t ht hW => ⟨1, rfl, (by show (1 : Int32) = nI (ftNs x); unfold ftNs; first | (rw [if_pos (Int32.not_le.mp c2)]; rfl) | (rw [if_neg (Int32.not_lt.mpr c2), if_pos c9]; rfl) | (rw [if_neg (Int32.not_lt.mpr c2), if_neg c9]; rfl)), ht⟩) (fun _ h9 => absurd h9 List.not_mem_nil) dX5_numbersOf_6
set_option maxHeartbeats 4000000 in
set_option maxRecDepth 100000 in
theorem c_X5_isLetter (l : Launch) (D : va_G) (cI cS : ClassId) (x : Int32)  : Met l yX5_isLetter wsX5_isLetter ({ frames := 1, cells := 0, slots := 0, locals := 22 }) (ftRO D cI cS [.int x] []) (vp_Si (fun o9 => o9 = ftB (ftLet x))) 0 0 (fun _ => False) := by
  refine Met.ofW (cc := cX5_isLetter) (maxL := 1) (ret := (some .boolean)) (by decide) rfl ?_
  intro p e s m args below meth c s₁ B hml hv
  obtain ⟨rfl, hP, hKK⟩ := hv
  have hK := hKK.1
  have hx := B.exec
  have hb := B.bytes
  have hr := B.returns
  have hts := atoms_spec (ws := wsX5_isLetter) B.pre
  have hown : s.vm.findClass RX5 = some m.cls := findClass_of_methodNamed B.named
  have hlocks := B.notSynchronized
  have hP : va_P D vwCl [] s.heap := hP
  have hl := lv_entry ([.int x]) (n := 1) (Nat.le_of_ble_eq_true rfl)
  rw [lg_entry_eq]
  generalize (lg_sl ([.int x]) ++ List.replicate (1 - (lg_sl ([.int x])).length) Slot.unset).toArray = ls at hl ⊢
  have hl : lv_has ls 1 [(0, .int x)] := hl
  refine lv_iload_n hx hb dX5_isLetter_0 rfl (lv_at hl 0 rfl) ?_
  refine lv_bipush (v := 97) hx hb dX5_isLetter_1 (by decide) ?_
  refine lv_bipush (v := 122) hx hb dX5_isLetter_3 (by decide) ?_
  refine ft_csi (r := ftB (97 ≤ x ∧ x ≤ 122)) (va_runSN (As := [.int x, .int 97, .int 122]) (rest := []) ⟨hx, hb, hml, hown, hts⟩ (c_X10_isWithin l D cI cS x 97 122) ⟨va_cnB 3 hts gX5_isLetter_X10_isWithin_n115 rfl rfl rfl (hKK.2 _ (List.mem_of_getElem? (i := 9) rfl)) (hts (.initialized RX10) (by decide +kernel)) (by decide +kernel) ⟨Nat.le_of_ble_eq_true rfl, Nat.le_of_ble_eq_true rfl⟩, hts (.static yX10_isWithin) (by decide +kernel), trivial⟩ (ft_preRO hP hKK [] rfl) rfl rfl hl.1 rfl (lv_room (Nat.le_of_ble_eq_true rfl)) dX5_isLetter_5 ⟨Nat.le_of_ble_eq_true rfl, Nat.le_of_ble_eq_true rfl⟩) ?_
  refine lv_if_ne (tgt := 22) hx hb dX5_isLetter_8 (by decide) (fun c8 => ?_) (fun c8 => ?_)
  · replace c8 := ftB_ne c8
    have hv9 : ftB (ftLet x) = 1 := ftB_t (Or.inl c8)
    refine lv_iconst (v := 1) hx hb dX5_isLetter_22 (by decide) ?_
    refine lv_goto (tgt := 27) hx hb dX5_isLetter_23 (by decide) ?_
    exact W.zret (v := 1) hx hb hr (by rfl) (fun t ht hW => ⟨1, rfl, (by show (1 : Int32) = ftB (ftLet x); exact hv9.symm), ht⟩) (fun _ h9 => absurd h9 List.not_mem_nil) dX5_isLetter_27
  · replace c8 := ftB_eq c8
    refine lv_iload_n hx hb dX5_isLetter_11 rfl (lv_at hl 0 rfl) ?_
    refine lv_bipush (v := 65) hx hb dX5_isLetter_12 (by decide) ?_
    refine lv_bipush (v := 90) hx hb dX5_isLetter_14 (by decide) ?_
    refine ft_csi (r := ftB (65 ≤ x ∧ x ≤ 90)) (va_runSN (As := [.int x, .int 65, .int 90]) (rest := []) ⟨hx, hb, hml, hown, hts⟩ (c_X10_isWithin l D cI cS x 65 90) ⟨va_cnB 3 hts gX5_isLetter_X10_isWithin_n115 rfl rfl rfl (hKK.2 _ (List.mem_of_getElem? (i := 9) rfl)) (hts (.initialized RX10) (by decide +kernel)) (by decide +kernel) ⟨Nat.le_of_ble_eq_true rfl, Nat.le_of_ble_eq_true rfl⟩, hts (.static yX10_isWithin) (by decide +kernel), trivial⟩ (ft_preRO hP hKK [] rfl) rfl rfl hl.1 rfl (lv_room (Nat.le_of_ble_eq_true rfl)) dX5_isLetter_16 ⟨Nat.le_of_ble_eq_true rfl, Nat.le_of_ble_eq_true rfl⟩) ?_
    refine lv_if_eq (tgt := 26) hx hb dX5_isLetter_19 (by decide) (fun c19 => ?_) (fun c19 => ?_)
    · replace c19 := ftB_eq c19
      have hv9 : ftB (ftLet x) = 0 := ftB_f (fun q => q.elim c8 c19)
      refine lv_iconst (v := 0) hx hb dX5_isLetter_26 (by decide) ?_
      exact W.zret (v := 0) hx hb hr (by rfl) (fun t ht hW => ⟨0, rfl, (by show (0 : Int32) = ftB (ftLet x); exact hv9.symm), ht⟩) (fun _ h9 => absurd h9 List.not_mem_nil) dX5_isLetter_27
    · replace c19 := ftB_ne c19
      have hv9 : ftB (ftLet x) = 1 := ftB_t (Or.inr c19)
      refine lv_iconst (v := 1) hx hb dX5_isLetter_22 (by decide) ?_
      refine lv_goto (tgt := 27) hx hb dX5_isLetter_23 (by decide) ?_
      exact W.zret (v := 1) hx hb hr (by rfl) (fun t ht hW => ⟨1, rfl, (by show (1 : Int32) = ftB (ftLet x); exact hv9.symm), ht⟩) (fun _ h9 => absurd h9 List.not_mem_nil) dX5_isLetter_27
set_option maxHeartbeats 4000000 in
set_option maxRecDepth 100000 in
theorem c_X5_standsAt (l : Launch) (D : va_G) (cI cS : ClassId) (sK sV : Nat → Nat) (a0 ag am ad b0 : Nat) (tn : Nat) (v1 v2 v3 : Int32) (v4 : Int32) (tx : Nat → Int32) (j sp : Nat) (htn : tn ≤ 120) (hj : j < 6) (hsp : sp ≤ tn) : Met l yX5_standsAt wsX5_standsAt ({ frames := 5, cells := 0, slots := 0, locals := 115 }) (ftROS D cI cS sK sV [.ref a0, .ref (sK j), .int (nI sp)] [(a0, .inr (5, [.ref ag, .ref am, .ref ad, .ref b0, .int (nI tn), .int v1, .int v2, .int v3, .int v4])), (ag, .inl (cI, 120, .inl tx))]) (vp_Si (fun o9 => o9 = ftB (∀ t, t < ftWs j → ftC tx tn (sp + t) = ftLt (nI (100 * j + t))))) 0 0 (fun _ => False) := by
  refine Met.ofW (cc := cX5_standsAt) (maxL := 4) (ret := (some .boolean)) (by decide) rfl ?_
  intro p e s m args below meth c s₁ B hml hv
  obtain ⟨rfl, hP, hKK, hSt⟩ := hv
  have hS : va_S (fun _ => False) s.heap s.heap [] := va_S.rf
  have hK := hKK.1
  have hx := B.exec
  have hb := B.bytes
  have hr := B.returns
  have hts := atoms_spec (ws := wsX5_standsAt) B.pre
  have hown : s.vm.findClass RX5 = some m.cls := findClass_of_methodNamed B.named
  have hlocks := B.notSynchronized
  have hP : va_P D vwCl [(a0, .inr (5, [.ref ag, .ref am, .ref ad, .ref b0, .int (nI tn), .int v1, .int v2, .int v3, .int v4])), (ag, .inl (cI, 120, .inl tx))] s.heap := hP
  have hl := lv_entry ([.ref a0, .ref (sK j), .int (nI sp)]) (n := 4) (Nat.le_of_ble_eq_true rfl)
  rw [lg_entry_eq]
  generalize (lg_sl ([.ref a0, .ref (sK j), .int (nI sp)]) ++ List.replicate (4 - (lg_sl ([.ref a0, .ref (sK j), .int (nI sp)])).length) Slot.unset).toArray = ls at hl ⊢
  have hl : lv_has ls 4 [(0, .ref a0), (1, .ref (sK j)), (2, .int (nI sp))] := hl
  have hw11 := ftWs_le j
  refine lv_iconst (v := 0) hx hb dX5_standsAt_0 (by decide) ?_
  refine lv_istore_n (lv' := [(3, .int 0), (0, .ref a0), (1, .ref (sK j)), (2, .int (nI sp))]) hx hb dX5_standsAt_1 rfl hl (by decide) rfl (fun ls hl => ?_)
  have lp2 : ∀ (n2 : Nat) (k : Nat) (x2_3 : Int32), ftWs j - k < n2 → (k ≤ ftWs j) → (∀ t, t < k → ftC tx tn (sp + t) = ftLt (nI (100 * j + t))) → x2_3 = nI k → ∀ ls : Array Slot, lv_has ls 4 [(0, .ref a0), (1, .ref (sK j)), (2, .int (nI sp)), (3, .int x2_3)] → W p l e (headSpec wsX5_standsAt { frames := 5, cells := 0, slots := 0, locals := 115 }).room s m ([.ref a0, .ref (sK j), .int (nI sp)] : List Value).toArray below meth c s.heap [] 0 0 (MQ below (vp_Si (fun o9 => o9 = ftB (∀ t, t < ftWs j → ftC tx tn (sp + t) = ftLt (nI (100 * j + t))))) ([.ref a0, .ref (sK j), .int (nI sp)] : List Value).toArray s 0 0 (fun _ => False)) (F0 m 2 ls []) := by
    intro n2
    induction n2 with
    | zero =>
      intro k x2_3  hm2
      exact absurd hm2 (Nat.not_lt_zero _)
    | succ n2 ih2 =>
      intro k x2_3  hm2 hks hall ex2_3  ls hl
      subst ex2_3
      refine lv_iload_n hx hb dX5_standsAt_2 rfl (lv_at hl 3 rfl) ?_
      refine lv_aload_n hx hb dX5_standsAt_3 rfl (lv_at hl 1 rfl) ?_
      refine ft_csi (r := nI (ftWs j)) (va_runV (C := RJ0) (As := []) (rest := [.int (nI k)]) ⟨hx, hb, hml, hown, hts⟩ (c_J0_length_8abf5 l D cI cS sK sV j (by first | assumption | omega)) (cwV 0 hts gX5_standsAt_J0_length_8abf5 rfl rfl rfl (by decide +kernel) ⟨Nat.le_of_ble_eq_true rfl, Nat.le_of_ble_eq_true rfl⟩) (ft_preJ (a := sK j) hP hKK hSt hS (vk_recv hSt.1 (by omega) hS) [] rfl) rfl rfl hl.1 rfl (lv_room (Nat.le_of_ble_eq_true rfl)) dX5_standsAt_4 ⟨Nat.le_of_ble_eq_true rfl, Nat.le_of_ble_eq_true rfl⟩) ?_
      refine lv_icmp_ge (tgt := 33) hx hb dX5_standsAt_7 (by decide) (fun c7 => ?_) (fun c7 => ?_)
      · have c7n : (ftWs j) ≤ k := ft_leN (by omega) (by omega) c7
        have hv9 : ftB (∀ t, t < ftWs j → ftC tx tn (sp + t) = ftLt (nI (100 * j + t))) = 1 := ftB_t (fun t ht => hall t (by omega))
        refine lv_iconst (v := 1) hx hb dX5_standsAt_33 (by decide) ?_
        exact W.zret (v := 1) hx hb hr (by rfl) (fun t ht hW => ⟨1, rfl, (by show (1 : Int32) = ftB (∀ t, t < ftWs j → ftC tx tn (sp + t) = ftLt (nI (100 * j + t))); exact hv9.symm), ht⟩) (fun _ h9 => absurd h9 List.not_mem_nil) dX5_standsAt_34
      · have c7n : k < (ftWs j) := ft_nleN (by omega) (by omega) c7
        refine lv_aload_n hx hb dX5_standsAt_10 rfl (lv_at hl 0 rfl) ?_
        refine lv_iload_n hx hb dX5_standsAt_11 rfl (lv_at hl 2 rfl) ?_
        refine lv_iload_n hx hb dX5_standsAt_12 rfl (lv_at hl 3 rfl) ?_
        refine lv_iadd hx hb dX5_standsAt_13 ?_
        refine ft_top (y := nI (sp + k)) (ft_addN sp k) ?_
        refine ft_csi (r := ftC tx tn (sp + k)) (va_runV (C := RX5) (As := [.int (nI (sp + k))]) (rest := []) ⟨hx, hb, hml, hown, hts⟩ (c_X5_signAt l D cI cS a0 ag am ad b0 tn v1 v2 v3 v4 tx (sp + k) (by first | assumption | omega) (by first | assumption | omega)) (cwV 1 hts gX5_standsAt_X5_signAt rfl rfl rfl (by decide +kernel) ⟨Nat.le_of_ble_eq_true rfl, Nat.le_of_ble_eq_true rfl⟩) (ft_preROV (ci := 5) (q0 := 0) hP hKK [0, 1] rfl rfl rfl) rfl rfl hl.1 rfl (lv_room (Nat.le_of_ble_eq_true rfl)) dX5_standsAt_14 ⟨Nat.le_of_ble_eq_true rfl, Nat.le_of_ble_eq_true rfl⟩) ?_
        refine lv_aload_n hx hb dX5_standsAt_17 rfl (lv_at hl 1 rfl) ?_
        refine lv_iload_n hx hb dX5_standsAt_18 rfl (lv_at hl 3 rfl) ?_
        refine ft_csi (r := ftLt (nI (100 * j + k))) (va_runV (C := RJ0) (As := [.int (nI k)]) (rest := [.int (ftC tx tn (sp + k))]) ⟨hx, hb, hml, hown, hts⟩ (c_J0_charAt_5068e l D cI cS sK sV j k (by first | assumption | omega) (by first | assumption | omega)) (cwV 1 hts gX5_standsAt_J0_charAt_5068e rfl rfl rfl (by decide +kernel) ⟨Nat.le_of_ble_eq_true rfl, Nat.le_of_ble_eq_true rfl⟩) (ft_preJ (a := sK j) hP hKK hSt hS (vk_recv hSt.1 (by omega) hS) [] rfl) rfl rfl hl.1 rfl (lv_room (Nat.le_of_ble_eq_true rfl)) dX5_standsAt_19 ⟨Nat.le_of_ble_eq_true rfl, Nat.le_of_ble_eq_true rfl⟩) ?_
        refine lv_icmp_eq (tgt := 27) hx hb dX5_standsAt_22 (by decide) (fun c22 => ?_) (fun c22 => ?_)
        · refine lv_iinc (v := nI (k + 1)) (lv' := [(3, .int (nI (k + 1))), (0, .ref a0), (1, .ref (sK j)), (2, .int (nI sp))]) hx hb dX5_standsAt_27 hl (k := 3) rfl (ft_inc k) (by decide) rfl (fun ls hl => ?_)
          refine lv_goto (tgt := 2) hx hb dX5_standsAt_30 (by decide) ?_
          exact ih2 (k + 1) (nI (k + 1))  (by omega) (by omega) (by intro t ht; rcases Nat.lt_succ_iff_lt_or_eq.mp ht with q | q; exact hall t q; subst q; exact c22) (by first | rfl | assumption)  ls (lv_sub hl [1, 2, 3, 0] rfl)
        · have hv9 : ftB (∀ t, t < ftWs j → ftC tx tn (sp + t) = ftLt (nI (100 * j + t))) = 0 := ftB_f (fun q => c22 (q k c7n))
          refine lv_iconst (v := 0) hx hb dX5_standsAt_25 (by decide) ?_
          exact W.zret (v := 0) hx hb hr (by rfl) (fun t ht hW => ⟨0, rfl, (by show (0 : Int32) = ftB (∀ t, t < ftWs j → ftC tx tn (sp + t) = ftLt (nI (100 * j + t))); exact hv9.symm), ht⟩) (fun _ h9 => absurd h9 List.not_mem_nil) dX5_standsAt_26
  exact lp2 _ 0 0  (Nat.lt_succ_self _) (by omega) (by intro t ht; exact absurd ht (Nat.not_lt_zero t)) (by rfl) ls (lv_sub hl [1, 2, 3, 0] rfl)
set_option maxHeartbeats 4000000 in
set_option maxRecDepth 100000 in
theorem c_X5_wordAt (l : Launch) (D : va_G) (cI cS : ClassId) (sK sV : Nat → Nat) (a0 ag am ad b0 : Nat) (tn : Nat) (v1 v2 v3 : Int32) (v4 : Int32) (tx : Nat → Int32) (sp : Nat) (htn : tn ≤ 120) (hsp : sp ≤ tn) : Met l yX5_wordAt wsX5_wordAt ({ frames := 6, cells := 0, slots := 0, locals := 138 }) (ftROS D cI cS sK sV [.ref a0, .int (nI sp)] [(a0, .inr (5, [.ref ag, .ref am, .ref ad, .ref b0, .int (nI tn), .int v1, .int v2, .int v3, .int v4])), (ag, .inl (cI, 120, .inl tx))]) (vp_Si (fun o9 => o9 = ftFst (ftCW9 tx tn sp) 6)) 0 0 (fun _ => False) := by
  refine Met.ofW (cc := cX5_wordAt) (maxL := 4) (ret := (some .int)) (by decide) rfl ?_
  intro p e s m args below meth c s₁ B hml hv
  obtain ⟨rfl, hP, hKK, hSt⟩ := hv
  have hS : va_S (fun _ => False) s.heap s.heap [] := va_S.rf
  have hK := hKK.1
  have hx := B.exec
  have hb := B.bytes
  have hr := B.returns
  have hts := atoms_spec (ws := wsX5_wordAt) B.pre
  have hown : s.vm.findClass RX5 = some m.cls := findClass_of_methodNamed B.named
  have hlocks := B.notSynchronized
  have hP : va_P D vwCl [(a0, .inr (5, [.ref ag, .ref am, .ref ad, .ref b0, .int (nI tn), .int v1, .int v2, .int v3, .int v4])), (ag, .inl (cI, 120, .inl tx))] s.heap := hP
  have hl := lv_entry ([.ref a0, .int (nI sp)]) (n := 4) (Nat.le_of_ble_eq_true rfl)
  rw [lg_entry_eq]
  generalize (lg_sl ([.ref a0, .int (nI sp)]) ++ List.replicate (4 - (lg_sl ([.ref a0, .int (nI sp)])).length) Slot.unset).toArray = ls at hl ⊢
  have hl : lv_has ls 4 [(0, .ref a0), (1, .int (nI sp))] := hl
  refine lv_iconst (v := 0) hx hb dX5_wordAt_0 (by decide) ?_
  refine lv_istore_n (lv' := [(2, .int 0), (0, .ref a0), (1, .int (nI sp))]) hx hb dX5_wordAt_1 rfl hl (by decide) rfl (fun ls hl => ?_)
  have lp2 : ∀ (n2 : Nat) (j : Nat) (x2_2 : Int32), 6 - j < n2 → (j ≤ 6) → (∀ i, i < j → ¬ ftCW9 tx tn sp i) → x2_2 = nI j → ∀ ls : Array Slot, lv_has ls 4 [(0, .ref a0), (1, .int (nI sp)), (2, .int x2_2)] → W p l e (headSpec wsX5_wordAt { frames := 6, cells := 0, slots := 0, locals := 138 }).room s m ([.ref a0, .int (nI sp)] : List Value).toArray below meth c s.heap [] 0 0 (MQ below (vp_Si (fun o9 => o9 = ftFst (ftCW9 tx tn sp) 6)) ([.ref a0, .int (nI sp)] : List Value).toArray s 0 0 (fun _ => False)) (F0 m 2 ls []) := by
    intro n2
    induction n2 with
    | zero =>
      intro j x2_2  hm2
      exact absurd hm2 (Nat.not_lt_zero _)
    | succ n2 ih2 =>
      intro j x2_2  hm2 hj6 hno ex2_2  ls hl
      subst ex2_2
      refine lv_iload_n hx hb dX5_wordAt_2 rfl (lv_at hl 2 rfl) ?_
      refine lv_bipush (v := 6) hx hb dX5_wordAt_3 (by decide) ?_
      refine lv_icmp_ge (tgt := 46) hx hb dX5_wordAt_5 (by decide) (fun c5 => ?_) (fun c5 => ?_)
      · have c5n : 6 ≤ j := ft_leN (by omega) (by omega) c5
        refine lv_iconst (v := (-1)) hx hb dX5_wordAt_46 (by decide) ?_
        exact W.iret (v := (-1)) hx hb hr (fun t ht hW => ⟨(-1), rfl, (by show ((-1) : Int32) = ftFst (ftCW9 tx tn sp) 6; (obtain rfl : j = 6 := by omega); exact (ftFst_none hno).symm), ht⟩) (fun _ h9 => absurd h9 List.not_mem_nil) dX5_wordAt_47
      · have c5n : j < 6 := ft_nleN (by omega) (by omega) c5
        refine lv_iload_n hx hb dX5_wordAt_8 rfl (lv_at hl 2 rfl) ?_
        refine ft_csr (r := sK j) (va_runS (As := [.int (nI j)]) (rest := []) ⟨hx, hb, hml, hown, hts⟩ (c_X5_nameOf l D cI cS sK sV j (by first | assumption | omega)) (va_cwS 1 hts gX5_wordAt_X5_nameOf rfl rfl rfl (by decide +kernel) ⟨Nat.le_of_ble_eq_true rfl, Nat.le_of_ble_eq_true rfl⟩) (ft_preROS hP hKK hSt hS [] rfl) rfl rfl hl.1 rfl (lv_room (Nat.le_of_ble_eq_true rfl)) dX5_wordAt_9 ⟨Nat.le_of_ble_eq_true rfl, Nat.le_of_ble_eq_true rfl⟩) ?_
        have hw11 := ftWs_le j
        refine lv_astore_n (lv' := [(3, .ref (sK j)), (0, .ref a0), (1, .int (nI sp)), (2, .int (nI j))]) hx hb dX5_wordAt_12 rfl hl (by decide) rfl (fun ls hl => ?_)
        refine lv_aload_n hx hb dX5_wordAt_13 rfl (lv_at hl 1 rfl) ?_
        refine lv_aload_n hx hb dX5_wordAt_14 rfl (lv_at hl 0 rfl) ?_
        refine lv_iload_n hx hb dX5_wordAt_15 rfl (lv_at hl 2 rfl) ?_
        refine ft_csi (r := ftB (∀ t, t < ftWs j → ftC tx tn (sp + t) = ftLt (nI (100 * j + t)))) (va_runV (C := RX5) (As := [.ref (sK j), .int (nI sp)]) (rest := []) ⟨hx, hb, hml, hown, hts⟩ (c_X5_standsAt l D cI cS sK sV a0 ag am ad b0 tn v1 v2 v3 v4 tx j sp (by first | assumption | omega) (by first | assumption | omega) (by first | assumption | omega)) (cwV 2 hts gX5_wordAt_X5_standsAt rfl rfl rfl (by decide +kernel) ⟨Nat.le_of_ble_eq_true rfl, Nat.le_of_ble_eq_true rfl⟩) (ft_preROVS (ci := 5) (q0 := 0) hP hKK hSt hS [0, 1] rfl rfl rfl) rfl rfl hl.1 rfl (lv_room (Nat.le_of_ble_eq_true rfl)) dX5_wordAt_16 ⟨Nat.le_of_ble_eq_true rfl, Nat.le_of_ble_eq_true rfl⟩) ?_
        refine lv_if_eq (tgt := 40) hx hb dX5_wordAt_19 (by decide) (fun c19 => ?_) (fun c19 => ?_)
        · replace c19 := ftB_eq c19
          have hn9 : ¬ ftCW9 tx tn sp j := fun q => c19 q.1
          refine lv_iinc (v := nI (j + 1)) (lv' := [(2, .int (nI (j + 1))), (3, .ref (sK j)), (0, .ref a0), (1, .int (nI sp))]) hx hb dX5_wordAt_40 hl (k := 3) rfl (ft_inc j) (by decide) rfl (fun ls hl => ?_)
          refine lv_goto (tgt := 2) hx hb dX5_wordAt_43 (by decide) ?_
          exact ih2 (j + 1) (nI (j + 1))  (by omega) (by omega) (by intro i hi; rcases Nat.lt_succ_iff_lt_or_eq.mp hi with q | q; exact hno i q; subst q; exact hn9) (by first | rfl | assumption)  ls (lv_sub hl [2, 3, 0] rfl)
        · replace c19 := ftB_ne c19
          refine lv_aload_n hx hb dX5_wordAt_22 rfl (lv_at hl 1 rfl) ?_
          refine lv_iload_n hx hb dX5_wordAt_23 rfl (lv_at hl 2 rfl) ?_
          refine lv_aload_n hx hb dX5_wordAt_24 rfl (lv_at hl 0 rfl) ?_
          refine ft_csi (r := nI (ftWs j)) (va_runV (C := RJ0) (As := []) (rest := [.int (nI sp), .ref a0]) ⟨hx, hb, hml, hown, hts⟩ (c_J0_length_8abf5 l D cI cS sK sV j (by first | assumption | omega)) (cwV 0 hts gX5_wordAt_J0_length_8abf5 rfl rfl rfl (by decide +kernel) ⟨Nat.le_of_ble_eq_true rfl, Nat.le_of_ble_eq_true rfl⟩) (ft_preJ (a := sK j) hP hKK hSt hS (vk_recv hSt.1 (by omega) hS) [] rfl) rfl rfl hl.1 rfl (lv_room (Nat.le_of_ble_eq_true rfl)) dX5_wordAt_25 ⟨Nat.le_of_ble_eq_true rfl, Nat.le_of_ble_eq_true rfl⟩) ?_
          refine lv_iadd hx hb dX5_wordAt_28 ?_
          refine ft_top (y := nI (sp + (ftWs j))) (ft_addN sp (ftWs j)) ?_
          refine ft_csi (r := ftC tx tn (sp + (ftWs j))) (va_runV (C := RX5) (As := [.int (nI (sp + (ftWs j)))]) (rest := []) ⟨hx, hb, hml, hown, hts⟩ (c_X5_signAt l D cI cS a0 ag am ad b0 tn v1 v2 v3 v4 tx (sp + (ftWs j)) (by first | assumption | omega) (by first | assumption | omega)) (cwV 1 hts gX5_wordAt_X5_signAt rfl rfl rfl (by decide +kernel) ⟨Nat.le_of_ble_eq_true rfl, Nat.le_of_ble_eq_true rfl⟩) (ft_preROV (ci := 5) (q0 := 0) hP hKK [0, 1] rfl rfl rfl) rfl rfl hl.1 rfl (lv_room (Nat.le_of_ble_eq_true rfl)) dX5_wordAt_29 ⟨Nat.le_of_ble_eq_true rfl, Nat.le_of_ble_eq_true rfl⟩) ?_
          refine ft_csi (r := ftB (ftLet (ftC tx tn (sp + (ftWs j))))) (va_runS (As := [.int (ftC tx tn (sp + (ftWs j)))]) (rest := []) ⟨hx, hb, hml, hown, hts⟩ (c_X5_isLetter l D cI cS (ftC tx tn (sp + (ftWs j)))) (va_cwS 1 hts gX5_wordAt_X5_isLetter rfl rfl rfl (by decide +kernel) ⟨Nat.le_of_ble_eq_true rfl, Nat.le_of_ble_eq_true rfl⟩) (ft_preRO hP hKK [] rfl) rfl rfl hl.1 rfl (lv_room (Nat.le_of_ble_eq_true rfl)) dX5_wordAt_32 ⟨Nat.le_of_ble_eq_true rfl, Nat.le_of_ble_eq_true rfl⟩) ?_
          refine lv_if_ne (tgt := 40) hx hb dX5_wordAt_35 (by decide) (fun c35 => ?_) (fun c35 => ?_)
          · replace c35 := ftB_ne c35
            have hn9 : ¬ ftCW9 tx tn sp j := fun q => q.2 c35
            refine lv_iinc (v := nI (j + 1)) (lv' := [(2, .int (nI (j + 1))), (3, .ref (sK j)), (0, .ref a0), (1, .int (nI sp))]) hx hb dX5_wordAt_40 hl (k := 3) rfl (ft_inc j) (by decide) rfl (fun ls hl => ?_)
            refine lv_goto (tgt := 2) hx hb dX5_wordAt_43 (by decide) ?_
            exact ih2 (j + 1) (nI (j + 1))  (by omega) (by omega) (by intro i hi; rcases Nat.lt_succ_iff_lt_or_eq.mp hi with q | q; exact hno i q; subst q; exact hn9) (by first | rfl | assumption)  ls (lv_sub hl [2, 3, 0] rfl)
          · replace c35 := ftB_eq c35
            have hy9 : ftCW9 tx tn sp j := ⟨c19, c35⟩
            refine lv_iload_n hx hb dX5_wordAt_38 rfl (lv_at hl 3 rfl) ?_
            exact W.iret (v := nI j) hx hb hr (fun t ht hW => ⟨nI j, rfl, (by show (nI j : Int32) = ftFst (ftCW9 tx tn sp) 6; exact (ftFst_some (by omega) hy9 hno 6 (by omega)).symm), ht⟩) (fun _ h9 => absurd h9 List.not_mem_nil) dX5_wordAt_39
  exact lp2 _ 0 0  (Nat.lt_succ_self _) (by omega) (by intro i hi; exact absurd hi (Nat.not_lt_zero i)) (by rfl) ls (lv_sub hl [1, 2, 0] rfl)
set_option maxHeartbeats 4000000 in
set_option maxRecDepth 100000 in
theorem c_X5_readNumber (l : Launch) (D : va_G) (cI cS : ClassId) (sz : Nat) (a0 ag am ad b0 : Nat) (tn : Nat) (v1 v2 v3 : Int32) (sp : Nat) (tx nf : Nat → Int32) (i : Nat) (htn : tn ≤ 120) (hsp : sp ≤ tn) (hi : i < 3) : Met l yX5_readNumber wsX5_readNumber ({ frames := 2, cells := 0, slots := 0, locals := 42 }) (ftRW D cI cS [.ref a0, .int (nI i)] [(a0, .inr (5, [.ref ag, .ref am, .ref ad, .ref b0, .int (nI tn), .int v1, .int v2, .int v3, .int (nI sp)])), (ag, .inl (cI, 120, .inl tx)), (am, .inl (cI, 3, .inl nf))] sz) (ftQi D (ftB (ftNok tx tn sp)) [(a0, .inr (5, [.ref ag, .ref am, .ref ad, .ref b0, .int (nI tn), .int v1, .int v2, .int v3, .int (nI sp)])), (ag, .inl (cI, 120, .inl tx)), (am, .inl (cI, 3, .inl nf))] [(a0, .inr (5, [.ref ag, .ref am, .ref ad, .ref b0, .int (nI tn), .int v1, .int v2, .int v3, .int (nI (ftNe tx tn sp))])), (ag, .inl (cI, 120, .inl tx)), (am, .inl (cI, 3, .inl (ftNf tx tn sp i nf)))] sz) 0 0 (va_A [(a0, .inr (5, [.ref ag, .ref am, .ref ad, .ref b0, .int (nI tn), .int v1, .int v2, .int v3, .int (nI sp)])), (ag, .inl (cI, 120, .inl tx)), (am, .inl (cI, 3, .inl nf))] sz) := by
  refine Met.ofW (cc := cX5_readNumber) (maxL := 5) (ret := (some .boolean)) (by decide) rfl ?_
  intro p e s m args below meth c s₁ B hml hv
  obtain ⟨rfl, hsz, hP, hKK, hD0⟩ := hv
  have hK := hKK.1
  have hx := B.exec
  have hb := B.bytes
  have hr := B.returns
  have hts := atoms_spec (ws := wsX5_readNumber) B.pre
  have hown : s.vm.findClass RX5 = some m.cls := findClass_of_methodNamed B.named
  have hlocks := B.notSynchronized
  subst hsz
  have hD := hD0.self (sz := s.heap.size)
  generalize hAe : va_A [(a0, .inr (5, [.ref ag, .ref am, .ref ad, .ref b0, .int (nI tn), .int v1, .int v2, .int v3, .int (nI sp)])), (ag, .inl (cI, 120, .inl tx)), (am, .inl (cI, 3, .inl nf))] s.heap.size = A at hD ⊢
  have hA : ∀ q : Nat, s.heap.size ≤ q → A q := fun q h => by rw [← hAe]; exact Or.inr h
  have hS : va_S A s.heap s.heap [] := va_S.rf
  have hD : va_D A [(a0, .inr (5, [.ref ag, .ref am, .ref ad, .ref b0, .int (nI tn), .int v1, .int v2, .int v3, .int (nI sp)])), (ag, .inl (cI, 120, .inl tx)), (am, .inl (cI, 3, .inl nf))] := hD
  have hP : va_P D vwCl [(a0, .inr (5, [.ref ag, .ref am, .ref ad, .ref b0, .int (nI tn), .int v1, .int v2, .int v3, .int (nI sp)])), (ag, .inl (cI, 120, .inl tx)), (am, .inl (cI, 3, .inl nf))] s.heap := hP
  have hl := lv_entry ([.ref a0, .int (nI i)]) (n := 5) (Nat.le_of_ble_eq_true rfl)
  rw [lg_entry_eq]
  generalize (lg_sl ([.ref a0, .int (nI i)]) ++ List.replicate (5 - (lg_sl ([.ref a0, .int (nI i)])).length) Slot.unset).toArray = ls at hl ⊢
  have hl : lv_has ls 5 [(0, .ref a0), (1, .int (nI i))] := hl
  refine lv_aload_n hx hb dX5_readNumber_0 rfl (lv_at hl 0 rfl) ?_
  refine lv_aload_n hx hb dX5_readNumber_1 rfl (lv_at hl 0 rfl) ?_
  refine va_get (D := D) (ci := 5) (v := .int (nI sp)) (C := RX5) (T := TX5) (N := 9) hx hb hts (by decide +kernel) hown hK hP 0 rfl rfl 8 (by decide) (hts (.fieldLink RX5 42 "FiberTrace$LinkText" "position" "I") (by decide +kernel)) (fun _ h9 => h9) rfl dX5_readNumber_2 ?_
  refine ft_csi (r := ftC tx tn sp) (va_runV (C := RX5) (As := [.int (nI sp)]) (rest := []) ⟨hx, hb, hml, hown, hts⟩ (c_X5_signAt l D cI cS a0 ag am ad b0 tn v1 v2 v3 (nI sp) tx sp (by first | assumption | omega) (by first | assumption | omega)) (cwV 1 hts gX5_readNumber_X5_signAt rfl rfl rfl (by decide +kernel) ⟨Nat.le_of_ble_eq_true rfl, Nat.le_of_ble_eq_true rfl⟩) (ft_preROV (ci := 5) (q0 := 0) hP hKK [0, 1] rfl rfl rfl) rfl rfl hl.1 rfl (lv_room (Nat.le_of_ble_eq_true rfl)) dX5_readNumber_5 ⟨Nat.le_of_ble_eq_true rfl, Nat.le_of_ble_eq_true rfl⟩) ?_
  refine lv_bipush (v := 32) hx hb dX5_readNumber_8 (by decide) ?_
  refine lv_icmp_eq (tgt := 15) hx hb dX5_readNumber_10 (by decide) (fun c10 => ?_) (fun c10 => ?_)
  · have hsq : ftSp tx tn sp := ftSp_c.mpr c10
    have hlt9 := hsq.1
    refine lv_aload_n hx hb dX5_readNumber_15 rfl (lv_at hl 0 rfl) ?_
    refine lv_dup hx hb dX5_readNumber_16 rfl ?_
    refine va_get (D := D) (ci := 5) (v := .int (nI sp)) (C := RX5) (T := TX5) (N := 9) hx hb hts (by decide +kernel) hown hK hP 0 rfl rfl 8 (by decide) (hts (.fieldLink RX5 42 "FiberTrace$LinkText" "position" "I") (by decide +kernel)) (fun _ h9 => h9) rfl dX5_readNumber_17 ?_
    refine lv_iconst (v := 1) hx hb dX5_readNumber_20 (by decide) ?_
    refine lv_iadd hx hb dX5_readNumber_21 ?_
    refine ft_top (y := nI (sp + 1)) (ft_addN sp 1) ?_
    refine va_put (D := D) (ci := 5) (v := .int (nI (sp + 1))) (ty := .int) (C := RX5) (T := TX5) (N := 9) hx hb hts (by decide +kernel) tyX5 tyX5_ok nmX5 hown hK hP hD hS 0 rfl rfl 8 (by decide) (hts (.fieldLink RX5 42 "FiberTrace$LinkText" "position" "I") (by decide +kernel)) (fun _ h9 => h9) rfl (by decide +kernel) rfl rfl (Nat.le_of_ble_eq_true rfl) dX5_readNumber_22 (fun H locs hP hD hS => ?_)
    have hP : va_P D vwCl [(a0, .inr (5, [.ref ag, .ref am, .ref ad, .ref b0, .int (nI tn), .int v1, .int v2, .int v3, .int (nI (sp + 1))])), (ag, .inl (cI, 120, .inl tx)), (am, .inl (cI, 3, .inl nf))] H := hP
    have hD : va_D A [(a0, .inr (5, [.ref ag, .ref am, .ref ad, .ref b0, .int (nI tn), .int v1, .int v2, .int v3, .int (nI (sp + 1))])), (ag, .inl (cI, 120, .inl tx)), (am, .inl (cI, 3, .inl nf))] := hD
    refine lv_aload_n hx hb dX5_readNumber_25 rfl (lv_at hl 0 rfl) ?_
    refine lv_aload_n hx hb dX5_readNumber_26 rfl (lv_at hl 0 rfl) ?_
    refine va_get (D := D) (ci := 5) (v := .int (nI (sp + 1))) (C := RX5) (T := TX5) (N := 9) hx hb hts (by decide +kernel) hown hK hP 0 rfl rfl 8 (by decide) (hts (.fieldLink RX5 42 "FiberTrace$LinkText" "position" "I") (by decide +kernel)) (fun _ h9 => h9) rfl dX5_readNumber_27 ?_
    refine ft_csi (r := ftC tx tn (sp + 1)) (va_runV (C := RX5) (As := [.int (nI (sp + 1))]) (rest := []) ⟨hx, hb, hml, hown, hts⟩ (c_X5_signAt l D cI cS a0 ag am ad b0 tn v1 v2 v3 (nI (sp + 1)) tx (sp + 1) (by first | assumption | omega) (by first | assumption | omega)) (cwV 1 hts gX5_readNumber_X5_signAt rfl rfl rfl (by decide +kernel) ⟨Nat.le_of_ble_eq_true rfl, Nat.le_of_ble_eq_true rfl⟩) (ft_preROV (ci := 5) (q0 := 0) hP hKK [0, 1] rfl rfl rfl) rfl rfl hl.1 rfl (lv_room (Nat.le_of_ble_eq_true rfl)) dX5_readNumber_30 ⟨Nat.le_of_ble_eq_true rfl, Nat.le_of_ble_eq_true rfl⟩) ?_
    refine lv_bipush (v := 45) hx hb dX5_readNumber_33 (by decide) ?_
    refine lv_icmp_ne (tgt := 42) hx hb dX5_readNumber_35 (by decide) (fun c35 => ?_) (fun c35 => ?_)
    · have hng : ¬ ftNg tx tn sp := fun q => c35 (ftNg_c.mp q)
      have hq8 : ftNq tx tn sp = sp + 1 := ftNq_f hng
      refine lv_iconst (v := 0) hx hb dX5_readNumber_42 (by decide) ?_
      refine lv_istore_n (lv' := [(2, .int 0), (0, .ref a0), (1, .int (nI i))]) hx hb dX5_readNumber_43 rfl hl (by decide) rfl (fun ls hl => ?_)
      refine lv_iload_n hx hb dX5_readNumber_44 rfl (lv_at hl 0 rfl) ?_
      refine lv_if_eq (tgt := 58) hx hb dX5_readNumber_45 (by decide) (fun c45 => ?_) (fun c45 => ?_)
      · obtain ⟨q9, hq9⟩ : ∃ q9, q9 = sp + 1 := ⟨_, rfl⟩
        have hqq : ftNq tx tn sp = q9 := by rw [hq9]; exact hq8
        have hqn : q9 ≤ tn := by omega
        refine lv_iconst (v := 0) hx hb dX5_readNumber_58 (by decide) ?_
        refine lv_istore_n (lv' := [(3, .int 0), (2, .int 0), (0, .ref a0), (1, .int (nI i))]) hx hb dX5_readNumber_59 rfl hl (by decide) rfl (fun ls hl => ?_)
        refine lv_iconst (v := 0) hx hb dX5_readNumber_60 (by decide) ?_
        refine lv_istore (lv' := [(4, .int 0), (3, .int 0), (2, .int 0), (0, .ref a0), (1, .int (nI i))]) hx hb dX5_readNumber_61 hl (by decide) rfl (fun ls hl => ?_)
        have lp63 : ∀ (n63 : Nat) (k : Nat) (x63_3 : Int32) (x63_4 : Int32) (g63_a0_8 : Int32), 5 - k < n63 → (k ≤ 5) → (∀ t, t < k → ftDp tx tn q9 t) → (q9 + k ≤ tn) → x63_3 = ftDg tx q9 k → x63_4 = nI k → g63_a0_8 = nI (q9 + k) → ∀ (H : Heap) (locs : List Loc), va_P D vwCl [(a0, .inr (5, [.ref ag, .ref am, .ref ad, .ref b0, .int (nI tn), .int v1, .int v2, .int v3, .int g63_a0_8])), (ag, .inl (cI, 120, .inl tx)), (am, .inl (cI, 3, .inl nf))] H → va_D A [(a0, .inr (5, [.ref ag, .ref am, .ref ad, .ref b0, .int (nI tn), .int v1, .int v2, .int v3, .int g63_a0_8])), (ag, .inl (cI, 120, .inl tx)), (am, .inl (cI, 3, .inl nf))] → va_S A s.heap H locs → ∀ ls : Array Slot, lv_has ls 5 [(0, .ref a0), (1, .int (nI i)), (2, .int 0), (3, .int x63_3), (4, .int x63_4)] → W p l e (headSpec wsX5_readNumber { frames := 2, cells := 0, slots := 0, locals := 42 }).room s m ([.ref a0, .int (nI i)] : List Value).toArray below meth c H locs 0 0 (MQ below (ftQi D (ftB (ftNok tx tn sp)) [(a0, .inr (5, [.ref ag, .ref am, .ref ad, .ref b0, .int (nI tn), .int v1, .int v2, .int v3, .int (nI sp)])), (ag, .inl (cI, 120, .inl tx)), (am, .inl (cI, 3, .inl nf))] [(a0, .inr (5, [.ref ag, .ref am, .ref ad, .ref b0, .int (nI tn), .int v1, .int v2, .int v3, .int (nI (ftNe tx tn sp))])), (ag, .inl (cI, 120, .inl tx)), (am, .inl (cI, 3, .inl (ftNf tx tn sp i nf)))] s.heap.size) ([.ref a0, .int (nI i)] : List Value).toArray s 0 0 A) (F0 m 63 ls []) := by
          intro n63
          induction n63 with
          | zero =>
            intro k x63_3 x63_4 g63_a0_8 hm63
            exact absurd hm63 (Nat.not_lt_zero _)
          | succ n63 ih63 =>
            intro k x63_3 x63_4 g63_a0_8 hm63 hk5 hall hqk ex63_3 ex63_4 eg63_a0_8 H locs hP hD hS ls hl
            subst ex63_4
            subst eg63_a0_8
            refine lv_iload hx hb dX5_readNumber_63 (lv_at hl 4 rfl) ?_
            refine lv_iconst (v := 5) hx hb dX5_readNumber_65 (by decide) ?_
            refine lv_icmp_ge (tgt := 120) hx hb dX5_readNumber_66 (by decide) (fun c66 => ?_) (fun c66 => ?_)
            · have c66n : 5 ≤ k := ft_leN (by omega) (by omega) c66
              have hm : ftNd tx tn q9 = k := ftIni_of (by omega) hall (fun h => absurd h (by omega))
              refine lv_aload_n hx hb dX5_readNumber_120 rfl (lv_at hl 0 rfl) ?_
              refine va_get (D := D) (ci := 5) (v := .ref am) (C := RX5) (T := TX5) (N := 9) hx hb hts (by decide +kernel) hown hK hP 0 rfl rfl 1 (by decide) (hts (.fieldLink RX5 15 "FiberTrace$LinkText" "numbers" "[I") (by decide +kernel)) (fun _ h9 => h9) rfl dX5_readNumber_121 ?_
              refine lv_iload_n hx hb dX5_readNumber_124 rfl (lv_at hl 1 rfl) ?_
              refine lv_iload_n hx hb dX5_readNumber_125 rfl (lv_at hl 2 rfl) ?_
              refine lv_if_eq (tgt := 134) hx hb dX5_readNumber_126 (by decide) (fun c126 => ?_) (fun c126 => ?_)
              · refine lv_iload_n hx hb dX5_readNumber_134 rfl (lv_at hl 3 rfl) ?_
                refine ft_cv (wc := [(am, .inl (cI, 3, .inl nf))]) (wr := [(a0, .inr (5, [.ref ag, .ref am, .ref ad, .ref b0, .int (nI tn), .int v1, .int v2, .int v3, .int (nI (q9 + k))])), (ag, .inl (cI, 120, .inl tx))]) (w1 := [(am, .inl (cI, 3, .inl (ftPut 3 nf (nI i) x63_3)))]) (ws1 := [(a0, .inr (5, [.ref ag, .ref am, .ref ad, .ref b0, .int (nI tn), .int v1, .int v2, .int v3, .int (nI (q9 + k))])), (ag, .inl (cI, 120, .inl tx)), (am, .inl (cI, 3, .inl (ftPut 3 nf (nI i) x63_3)))]) (va_runSN (As := [.ref am, .int (nI i), .int x63_3]) (rest := []) ⟨hx, hb, hml, hown, hts⟩ (c_X10_put l D cI cS H.size am 3 nf (nI i) x63_3 (by first | assumption | omega)) ⟨va_cnB 3 hts gX5_readNumber_X10_put_n32 rfl rfl rfl (hKK.2 _ (List.mem_of_getElem? (i := 7) rfl)) (hts (.initialized RX10) (by decide +kernel)) (by decide +kernel) ⟨Nat.le_of_ble_eq_true rfl, Nat.le_of_ble_eq_true rfl⟩, hts (.static yX10_put) (by decide +kernel), trivial⟩ (ft_preRW hP hD hKK [2] rfl rfl rfl) rfl rfl hl.1 rfl (lv_room (Nat.le_of_ble_eq_true rfl)) dX5_readNumber_135 ⟨Nat.le_of_ble_eq_true rfl, Nat.le_of_ble_eq_true rfl⟩) hP hD hS hA [2] [0, 1] [0, 1, 2] rfl rfl (by decide) (by decide) (by decide) rfl rfl (fun H locs hP hD hS => ?_)
                rw [ftPut_N (k := i) (by omega) (by omega)] at hP hD
                have hP : va_P D vwCl [(a0, .inr (5, [.ref ag, .ref am, .ref ad, .ref b0, .int (nI tn), .int v1, .int v2, .int v3, .int (nI (q9 + k))])), (ag, .inl (cI, 120, .inl tx)), (am, .inl (cI, 3, .inl (upd nf i x63_3)))] H := hP
                have hD : va_D A [(a0, .inr (5, [.ref ag, .ref am, .ref ad, .ref b0, .int (nI tn), .int v1, .int v2, .int v3, .int (nI (q9 + k))])), (ag, .inl (cI, 120, .inl tx)), (am, .inl (cI, 3, .inl (upd nf i x63_3)))] := hD
                refine lv_iload hx hb dX5_readNumber_138 (lv_at hl 4 rfl) ?_
                refine lv_if_le (tgt := 147) hx hb dX5_readNumber_140 (by decide) (fun c140 => ?_) (fun c140 => ?_)
                · have c140n : k ≤ 0 := ft_leN (by omega) (by omega) c140
                  have hok9 : ftB (ftNok tx tn sp) = 0 := ftB_f (fun q => by have q2 := q.2; rw [hqq, hm] at q2; omega)
                  refine lv_iconst (v := 0) hx hb dX5_readNumber_147 (by decide) ?_
                  have hw9 : ([(a0, .inr (5, [.ref ag, .ref am, .ref ad, .ref b0, .int (nI tn), .int v1, .int v2, .int v3, .int (nI (q9 + k))])), (ag, .inl (cI, 120, .inl tx)), (am, .inl (cI, 3, .inl (upd nf i x63_3)))] : va_W) = [(a0, .inr (5, [.ref ag, .ref am, .ref ad, .ref b0, .int (nI tn), .int v1, .int v2, .int v3, .int (nI (ftNe tx tn sp))])), (ag, .inl (cI, 120, .inl tx)), (am, .inl (cI, 3, .inl (ftNf tx tn sp i nf)))] := by rw [ftNe_t hsq, ftNf_t hsq, hqq, hm]; first | (rw [ftNv_t hng, hqq, hm, ex63_3, ft_neg1]; done) | (rw [ftNv_f hng, hqq, hm, ex63_3, Int32.one_mul]; done)
                  rw [hw9] at hP hD
                  exact W.zret (v := 0) hx hb hr (by rfl) (fun t ht hW => ⟨⟨0, (), rfl, (by show (0 : Int32) = ftB (ftNok tx tn sp); exact hok9.symm), by rw [ht]; exact hP, by rw [hAe]; exact hD⟩, by rw [hAe]; exact hS.F ht⟩) hS.2.2 dX5_readNumber_148
                · have c140n : 0 < k := ft_nleN (by omega) (by omega) c140
                  have hok9 : ftB (ftNok tx tn sp) = 1 := ftB_t ⟨hsq, by rw [hqq, hm]; omega⟩
                  refine lv_iconst (v := 1) hx hb dX5_readNumber_143 (by decide) ?_
                  refine lv_goto (tgt := 148) hx hb dX5_readNumber_144 (by decide) ?_
                  have hw9 : ([(a0, .inr (5, [.ref ag, .ref am, .ref ad, .ref b0, .int (nI tn), .int v1, .int v2, .int v3, .int (nI (q9 + k))])), (ag, .inl (cI, 120, .inl tx)), (am, .inl (cI, 3, .inl (upd nf i x63_3)))] : va_W) = [(a0, .inr (5, [.ref ag, .ref am, .ref ad, .ref b0, .int (nI tn), .int v1, .int v2, .int v3, .int (nI (ftNe tx tn sp))])), (ag, .inl (cI, 120, .inl tx)), (am, .inl (cI, 3, .inl (ftNf tx tn sp i nf)))] := by rw [ftNe_t hsq, ftNf_t hsq, hqq, hm]; first | (rw [ftNv_t hng, hqq, hm, ex63_3, ft_neg1]; done) | (rw [ftNv_f hng, hqq, hm, ex63_3, Int32.one_mul]; done)
                  rw [hw9] at hP hD
                  exact W.zret (v := 1) hx hb hr (by rfl) (fun t ht hW => ⟨⟨1, (), rfl, (by show (1 : Int32) = ftB (ftNok tx tn sp); exact hok9.symm), by rw [ht]; exact hP, by rw [hAe]; exact hD⟩, by rw [hAe]; exact hS.F ht⟩) hS.2.2 dX5_readNumber_148
              · exact absurd rfl c126
            · have c66n : k < 5 := ft_nleN (by omega) (by omega) c66
              refine lv_aload_n hx hb dX5_readNumber_69 rfl (lv_at hl 0 rfl) ?_
              refine lv_aload_n hx hb dX5_readNumber_70 rfl (lv_at hl 0 rfl) ?_
              refine va_get (D := D) (ci := 5) (v := .int (nI (q9 + k))) (C := RX5) (T := TX5) (N := 9) hx hb hts (by decide +kernel) hown hK hP 0 rfl rfl 8 (by decide) (hts (.fieldLink RX5 42 "FiberTrace$LinkText" "position" "I") (by decide +kernel)) (fun _ h9 => h9) rfl dX5_readNumber_71 ?_
              refine ft_csi (r := ftC tx tn (q9 + k)) (va_runV (C := RX5) (As := [.int (nI (q9 + k))]) (rest := []) ⟨hx, hb, hml, hown, hts⟩ (c_X5_signAt l D cI cS a0 ag am ad b0 tn v1 v2 v3 (nI (q9 + k)) tx (q9 + k) (by first | assumption | omega) (by first | assumption | omega)) (cwV 1 hts gX5_readNumber_X5_signAt rfl rfl rfl (by decide +kernel) ⟨Nat.le_of_ble_eq_true rfl, Nat.le_of_ble_eq_true rfl⟩) (ft_preROV (ci := 5) (q0 := 0) hP hKK [0, 1] rfl rfl rfl) rfl rfl hl.1 rfl (lv_room (Nat.le_of_ble_eq_true rfl)) dX5_readNumber_74 ⟨Nat.le_of_ble_eq_true rfl, Nat.le_of_ble_eq_true rfl⟩) ?_
              refine lv_bipush (v := 48) hx hb dX5_readNumber_77 (by decide) ?_
              refine lv_bipush (v := 57) hx hb dX5_readNumber_79 (by decide) ?_
              refine ft_csi (r := ftB (48 ≤ (ftC tx tn (q9 + k)) ∧ (ftC tx tn (q9 + k)) ≤ 57)) (va_runSN (As := [.int (ftC tx tn (q9 + k)), .int 48, .int 57]) (rest := []) ⟨hx, hb, hml, hown, hts⟩ (c_X10_isWithin l D cI cS (ftC tx tn (q9 + k)) 48 57) ⟨va_cnB 3 hts gX5_readNumber_X10_isWithin_n115 rfl rfl rfl (hKK.2 _ (List.mem_of_getElem? (i := 9) rfl)) (hts (.initialized RX10) (by decide +kernel)) (by decide +kernel) ⟨Nat.le_of_ble_eq_true rfl, Nat.le_of_ble_eq_true rfl⟩, hts (.static yX10_isWithin) (by decide +kernel), trivial⟩ (ft_preRO hP hKK [] rfl) rfl rfl hl.1 rfl (lv_room (Nat.le_of_ble_eq_true rfl)) dX5_readNumber_81 ⟨Nat.le_of_ble_eq_true rfl, Nat.le_of_ble_eq_true rfl⟩) ?_
              refine lv_if_eq (tgt := 120) hx hb dX5_readNumber_84 (by decide) (fun c84 => ?_) (fun c84 => ?_)
              · replace c84 := ftB_eq c84
                have hm : ftNd tx tn q9 = k := ftIni_of (by omega) hall (fun _ q => c84 (ftDp_c.mp q))
                refine lv_aload_n hx hb dX5_readNumber_120 rfl (lv_at hl 0 rfl) ?_
                refine va_get (D := D) (ci := 5) (v := .ref am) (C := RX5) (T := TX5) (N := 9) hx hb hts (by decide +kernel) hown hK hP 0 rfl rfl 1 (by decide) (hts (.fieldLink RX5 15 "FiberTrace$LinkText" "numbers" "[I") (by decide +kernel)) (fun _ h9 => h9) rfl dX5_readNumber_121 ?_
                refine lv_iload_n hx hb dX5_readNumber_124 rfl (lv_at hl 1 rfl) ?_
                refine lv_iload_n hx hb dX5_readNumber_125 rfl (lv_at hl 2 rfl) ?_
                refine lv_if_eq (tgt := 134) hx hb dX5_readNumber_126 (by decide) (fun c126 => ?_) (fun c126 => ?_)
                · refine lv_iload_n hx hb dX5_readNumber_134 rfl (lv_at hl 3 rfl) ?_
                  refine ft_cv (wc := [(am, .inl (cI, 3, .inl nf))]) (wr := [(a0, .inr (5, [.ref ag, .ref am, .ref ad, .ref b0, .int (nI tn), .int v1, .int v2, .int v3, .int (nI (q9 + k))])), (ag, .inl (cI, 120, .inl tx))]) (w1 := [(am, .inl (cI, 3, .inl (ftPut 3 nf (nI i) x63_3)))]) (ws1 := [(a0, .inr (5, [.ref ag, .ref am, .ref ad, .ref b0, .int (nI tn), .int v1, .int v2, .int v3, .int (nI (q9 + k))])), (ag, .inl (cI, 120, .inl tx)), (am, .inl (cI, 3, .inl (ftPut 3 nf (nI i) x63_3)))]) (va_runSN (As := [.ref am, .int (nI i), .int x63_3]) (rest := []) ⟨hx, hb, hml, hown, hts⟩ (c_X10_put l D cI cS H.size am 3 nf (nI i) x63_3 (by first | assumption | omega)) ⟨va_cnB 3 hts gX5_readNumber_X10_put_n32 rfl rfl rfl (hKK.2 _ (List.mem_of_getElem? (i := 7) rfl)) (hts (.initialized RX10) (by decide +kernel)) (by decide +kernel) ⟨Nat.le_of_ble_eq_true rfl, Nat.le_of_ble_eq_true rfl⟩, hts (.static yX10_put) (by decide +kernel), trivial⟩ (ft_preRW hP hD hKK [2] rfl rfl rfl) rfl rfl hl.1 rfl (lv_room (Nat.le_of_ble_eq_true rfl)) dX5_readNumber_135 ⟨Nat.le_of_ble_eq_true rfl, Nat.le_of_ble_eq_true rfl⟩) hP hD hS hA [2] [0, 1] [0, 1, 2] rfl rfl (by decide) (by decide) (by decide) rfl rfl (fun H locs hP hD hS => ?_)
                  rw [ftPut_N (k := i) (by omega) (by omega)] at hP hD
                  have hP : va_P D vwCl [(a0, .inr (5, [.ref ag, .ref am, .ref ad, .ref b0, .int (nI tn), .int v1, .int v2, .int v3, .int (nI (q9 + k))])), (ag, .inl (cI, 120, .inl tx)), (am, .inl (cI, 3, .inl (upd nf i x63_3)))] H := hP
                  have hD : va_D A [(a0, .inr (5, [.ref ag, .ref am, .ref ad, .ref b0, .int (nI tn), .int v1, .int v2, .int v3, .int (nI (q9 + k))])), (ag, .inl (cI, 120, .inl tx)), (am, .inl (cI, 3, .inl (upd nf i x63_3)))] := hD
                  refine lv_iload hx hb dX5_readNumber_138 (lv_at hl 4 rfl) ?_
                  refine lv_if_le (tgt := 147) hx hb dX5_readNumber_140 (by decide) (fun c140 => ?_) (fun c140 => ?_)
                  · have c140n : k ≤ 0 := ft_leN (by omega) (by omega) c140
                    have hok9 : ftB (ftNok tx tn sp) = 0 := ftB_f (fun q => by have q2 := q.2; rw [hqq, hm] at q2; omega)
                    refine lv_iconst (v := 0) hx hb dX5_readNumber_147 (by decide) ?_
                    have hw9 : ([(a0, .inr (5, [.ref ag, .ref am, .ref ad, .ref b0, .int (nI tn), .int v1, .int v2, .int v3, .int (nI (q9 + k))])), (ag, .inl (cI, 120, .inl tx)), (am, .inl (cI, 3, .inl (upd nf i x63_3)))] : va_W) = [(a0, .inr (5, [.ref ag, .ref am, .ref ad, .ref b0, .int (nI tn), .int v1, .int v2, .int v3, .int (nI (ftNe tx tn sp))])), (ag, .inl (cI, 120, .inl tx)), (am, .inl (cI, 3, .inl (ftNf tx tn sp i nf)))] := by rw [ftNe_t hsq, ftNf_t hsq, hqq, hm]; first | (rw [ftNv_t hng, hqq, hm, ex63_3, ft_neg1]; done) | (rw [ftNv_f hng, hqq, hm, ex63_3, Int32.one_mul]; done)
                    rw [hw9] at hP hD
                    exact W.zret (v := 0) hx hb hr (by rfl) (fun t ht hW => ⟨⟨0, (), rfl, (by show (0 : Int32) = ftB (ftNok tx tn sp); exact hok9.symm), by rw [ht]; exact hP, by rw [hAe]; exact hD⟩, by rw [hAe]; exact hS.F ht⟩) hS.2.2 dX5_readNumber_148
                  · have c140n : 0 < k := ft_nleN (by omega) (by omega) c140
                    have hok9 : ftB (ftNok tx tn sp) = 1 := ftB_t ⟨hsq, by rw [hqq, hm]; omega⟩
                    refine lv_iconst (v := 1) hx hb dX5_readNumber_143 (by decide) ?_
                    refine lv_goto (tgt := 148) hx hb dX5_readNumber_144 (by decide) ?_
                    have hw9 : ([(a0, .inr (5, [.ref ag, .ref am, .ref ad, .ref b0, .int (nI tn), .int v1, .int v2, .int v3, .int (nI (q9 + k))])), (ag, .inl (cI, 120, .inl tx)), (am, .inl (cI, 3, .inl (upd nf i x63_3)))] : va_W) = [(a0, .inr (5, [.ref ag, .ref am, .ref ad, .ref b0, .int (nI tn), .int v1, .int v2, .int v3, .int (nI (ftNe tx tn sp))])), (ag, .inl (cI, 120, .inl tx)), (am, .inl (cI, 3, .inl (ftNf tx tn sp i nf)))] := by rw [ftNe_t hsq, ftNf_t hsq, hqq, hm]; first | (rw [ftNv_t hng, hqq, hm, ex63_3, ft_neg1]; done) | (rw [ftNv_f hng, hqq, hm, ex63_3, Int32.one_mul]; done)
                    rw [hw9] at hP hD
                    exact W.zret (v := 1) hx hb hr (by rfl) (fun t ht hW => ⟨⟨1, (), rfl, (by show (1 : Int32) = ftB (ftNok tx tn sp); exact hok9.symm), by rw [ht]; exact hP, by rw [hAe]; exact hD⟩, by rw [hAe]; exact hS.F ht⟩) hS.2.2 dX5_readNumber_148
                · exact absurd rfl c126
              · replace c84 := ftB_ne c84
                have hdp : ftDp tx tn q9 k := ftDp_c.mpr c84
                have hlt7 := hdp.1
                refine lv_iload_n hx hb dX5_readNumber_87 rfl (lv_at hl 3 rfl) ?_
                refine lv_bipush (v := 10) hx hb dX5_readNumber_88 (by decide) ?_
                refine lv_imul hx hb dX5_readNumber_90 ?_
                refine lv_aload_n hx hb dX5_readNumber_91 rfl (lv_at hl 0 rfl) ?_
                refine lv_aload_n hx hb dX5_readNumber_92 rfl (lv_at hl 0 rfl) ?_
                refine va_get (D := D) (ci := 5) (v := .int (nI (q9 + k))) (C := RX5) (T := TX5) (N := 9) hx hb hts (by decide +kernel) hown hK hP 0 rfl rfl 8 (by decide) (hts (.fieldLink RX5 42 "FiberTrace$LinkText" "position" "I") (by decide +kernel)) (fun _ h9 => h9) rfl dX5_readNumber_93 ?_
                refine ft_csi (r := ftC tx tn (q9 + k)) (va_runV (C := RX5) (As := [.int (nI (q9 + k))]) (rest := [.int (x63_3 * 10)]) ⟨hx, hb, hml, hown, hts⟩ (c_X5_signAt l D cI cS a0 ag am ad b0 tn v1 v2 v3 (nI (q9 + k)) tx (q9 + k) (by first | assumption | omega) (by first | assumption | omega)) (cwV 1 hts gX5_readNumber_X5_signAt rfl rfl rfl (by decide +kernel) ⟨Nat.le_of_ble_eq_true rfl, Nat.le_of_ble_eq_true rfl⟩) (ft_preROV (ci := 5) (q0 := 0) hP hKK [0, 1] rfl rfl rfl) rfl rfl hl.1 rfl (lv_room (Nat.le_of_ble_eq_true rfl)) dX5_readNumber_96 ⟨Nat.le_of_ble_eq_true rfl, Nat.le_of_ble_eq_true rfl⟩) ?_
                refine lv_iadd hx hb dX5_readNumber_99 ?_
                refine lv_bipush (v := 48) hx hb dX5_readNumber_100 (by decide) ?_
                refine lv_isub hx hb dX5_readNumber_102 ?_
                refine lv_istore_n (lv' := [(3, .int (((x63_3 * 10) + (ftC tx tn (q9 + k))) - 48)), (0, .ref a0), (1, .int (nI i)), (2, .int 0), (4, .int (nI k))]) hx hb dX5_readNumber_103 rfl hl (by decide) rfl (fun ls hl => ?_)
                refine lv_aload_n hx hb dX5_readNumber_104 rfl (lv_at hl 1 rfl) ?_
                refine lv_dup hx hb dX5_readNumber_105 rfl ?_
                refine va_get (D := D) (ci := 5) (v := .int (nI (q9 + k))) (C := RX5) (T := TX5) (N := 9) hx hb hts (by decide +kernel) hown hK hP 0 rfl rfl 8 (by decide) (hts (.fieldLink RX5 42 "FiberTrace$LinkText" "position" "I") (by decide +kernel)) (fun _ h9 => h9) rfl dX5_readNumber_106 ?_
                refine lv_iconst (v := 1) hx hb dX5_readNumber_109 (by decide) ?_
                refine lv_iadd hx hb dX5_readNumber_110 ?_
                refine ft_top (y := nI ((q9 + k) + 1)) (ft_addN (q9 + k) 1) ?_
                refine va_put (D := D) (ci := 5) (v := .int (nI ((q9 + k) + 1))) (ty := .int) (C := RX5) (T := TX5) (N := 9) hx hb hts (by decide +kernel) tyX5 tyX5_ok nmX5 hown hK hP hD hS 0 rfl rfl 8 (by decide) (hts (.fieldLink RX5 42 "FiberTrace$LinkText" "position" "I") (by decide +kernel)) (fun _ h9 => h9) rfl (by decide +kernel) rfl rfl (Nat.le_of_ble_eq_true rfl) dX5_readNumber_111 (fun H locs hP hD hS => ?_)
                have hP : va_P D vwCl [(a0, .inr (5, [.ref ag, .ref am, .ref ad, .ref b0, .int (nI tn), .int v1, .int v2, .int v3, .int (nI ((q9 + k) + 1))])), (ag, .inl (cI, 120, .inl tx)), (am, .inl (cI, 3, .inl nf))] H := hP
                have hD : va_D A [(a0, .inr (5, [.ref ag, .ref am, .ref ad, .ref b0, .int (nI tn), .int v1, .int v2, .int v3, .int (nI ((q9 + k) + 1))])), (ag, .inl (cI, 120, .inl tx)), (am, .inl (cI, 3, .inl nf))] := hD
                refine lv_iinc (v := nI (k + 1)) (lv' := [(4, .int (nI (k + 1))), (3, .int (((x63_3 * 10) + (ftC tx tn (q9 + k))) - 48)), (0, .ref a0), (1, .int (nI i)), (2, .int 0)]) hx hb dX5_readNumber_114 hl (k := 4) rfl (ft_inc k) (by decide) rfl (fun ls hl => ?_)
                refine lv_goto (tgt := 63) hx hb dX5_readNumber_117 (by decide) ?_
                exact ih63 (k + 1) (((x63_3 * 10) + (ftC tx tn (q9 + k))) - 48) (nI (k + 1)) (nI ((q9 + k) + 1)) (by omega) (by omega) (by intro t ht; rcases Nat.lt_succ_iff_lt_or_eq.mp ht with q | q; exact hall t q; subst q; exact hdp) (by omega) (by rw [ex63_3, ftC_in hlt7, Int32.mul_comm]; rfl) (by first | rfl | assumption) (by rfl) _ _ hP hD hS ls (lv_sub hl [2, 3, 4, 1, 0] rfl)
        exact lp63 _ 0 0 0 (nI (sp + 1)) (Nat.lt_succ_self _) (by omega) (by intro t ht; exact absurd ht (Nat.not_lt_zero t)) (by omega) (by rfl) (by rfl) (by rw [hq9]) _ _ hP hD hS ls (lv_sub hl [3, 4, 2, 1, 0] rfl)
      · exact absurd rfl c45
    · have hng : ftNg tx tn sp := ftNg_c.mpr c35
      have hlt8 := hng.1
      have hq8 : ftNq tx tn sp = sp + 1 + 1 := ftNq_t hng
      refine lv_iconst (v := 1) hx hb dX5_readNumber_38 (by decide) ?_
      refine lv_goto (tgt := 43) hx hb dX5_readNumber_39 (by decide) ?_
      refine lv_istore_n (lv' := [(2, .int 1), (0, .ref a0), (1, .int (nI i))]) hx hb dX5_readNumber_43 rfl hl (by decide) rfl (fun ls hl => ?_)
      refine lv_iload_n hx hb dX5_readNumber_44 rfl (lv_at hl 0 rfl) ?_
      refine lv_if_eq (tgt := 58) hx hb dX5_readNumber_45 (by decide) (fun c45 => ?_) (fun c45 => ?_)
      · exact absurd c45 (by decide)
      · refine lv_aload_n hx hb dX5_readNumber_48 rfl (lv_at hl 1 rfl) ?_
        refine lv_dup hx hb dX5_readNumber_49 rfl ?_
        refine va_get (D := D) (ci := 5) (v := .int (nI (sp + 1))) (C := RX5) (T := TX5) (N := 9) hx hb hts (by decide +kernel) hown hK hP 0 rfl rfl 8 (by decide) (hts (.fieldLink RX5 42 "FiberTrace$LinkText" "position" "I") (by decide +kernel)) (fun _ h9 => h9) rfl dX5_readNumber_50 ?_
        refine lv_iconst (v := 1) hx hb dX5_readNumber_53 (by decide) ?_
        refine lv_iadd hx hb dX5_readNumber_54 ?_
        refine ft_top (y := nI ((sp + 1) + 1)) (ft_addN (sp + 1) 1) ?_
        refine va_put (D := D) (ci := 5) (v := .int (nI ((sp + 1) + 1))) (ty := .int) (C := RX5) (T := TX5) (N := 9) hx hb hts (by decide +kernel) tyX5 tyX5_ok nmX5 hown hK hP hD hS 0 rfl rfl 8 (by decide) (hts (.fieldLink RX5 42 "FiberTrace$LinkText" "position" "I") (by decide +kernel)) (fun _ h9 => h9) rfl (by decide +kernel) rfl rfl (Nat.le_of_ble_eq_true rfl) dX5_readNumber_55 (fun H locs hP hD hS => ?_)
        have hP : va_P D vwCl [(a0, .inr (5, [.ref ag, .ref am, .ref ad, .ref b0, .int (nI tn), .int v1, .int v2, .int v3, .int (nI ((sp + 1) + 1))])), (ag, .inl (cI, 120, .inl tx)), (am, .inl (cI, 3, .inl nf))] H := hP
        have hD : va_D A [(a0, .inr (5, [.ref ag, .ref am, .ref ad, .ref b0, .int (nI tn), .int v1, .int v2, .int v3, .int (nI ((sp + 1) + 1))])), (ag, .inl (cI, 120, .inl tx)), (am, .inl (cI, 3, .inl nf))] := hD
        obtain ⟨q9, hq9⟩ : ∃ q9, q9 = (sp + 1) + 1 := ⟨_, rfl⟩
        have hqq : ftNq tx tn sp = q9 := by rw [hq9]; exact hq8
        have hqn : q9 ≤ tn := by omega
        refine lv_iconst (v := 0) hx hb dX5_readNumber_58 (by decide) ?_
        refine lv_istore_n (lv' := [(3, .int 0), (2, .int 1), (0, .ref a0), (1, .int (nI i))]) hx hb dX5_readNumber_59 rfl hl (by decide) rfl (fun ls hl => ?_)
        refine lv_iconst (v := 0) hx hb dX5_readNumber_60 (by decide) ?_
        refine lv_istore (lv' := [(4, .int 0), (3, .int 0), (2, .int 1), (0, .ref a0), (1, .int (nI i))]) hx hb dX5_readNumber_61 hl (by decide) rfl (fun ls hl => ?_)
        have lp63 : ∀ (n63 : Nat) (k : Nat) (x63_3 : Int32) (x63_4 : Int32) (g63_a0_8 : Int32), 5 - k < n63 → (k ≤ 5) → (∀ t, t < k → ftDp tx tn q9 t) → (q9 + k ≤ tn) → x63_3 = ftDg tx q9 k → x63_4 = nI k → g63_a0_8 = nI (q9 + k) → ∀ (H : Heap) (locs : List Loc), va_P D vwCl [(a0, .inr (5, [.ref ag, .ref am, .ref ad, .ref b0, .int (nI tn), .int v1, .int v2, .int v3, .int g63_a0_8])), (ag, .inl (cI, 120, .inl tx)), (am, .inl (cI, 3, .inl nf))] H → va_D A [(a0, .inr (5, [.ref ag, .ref am, .ref ad, .ref b0, .int (nI tn), .int v1, .int v2, .int v3, .int g63_a0_8])), (ag, .inl (cI, 120, .inl tx)), (am, .inl (cI, 3, .inl nf))] → va_S A s.heap H locs → ∀ ls : Array Slot, lv_has ls 5 [(0, .ref a0), (1, .int (nI i)), (2, .int 1), (3, .int x63_3), (4, .int x63_4)] → W p l e (headSpec wsX5_readNumber { frames := 2, cells := 0, slots := 0, locals := 42 }).room s m ([.ref a0, .int (nI i)] : List Value).toArray below meth c H locs 0 0 (MQ below (ftQi D (ftB (ftNok tx tn sp)) [(a0, .inr (5, [.ref ag, .ref am, .ref ad, .ref b0, .int (nI tn), .int v1, .int v2, .int v3, .int (nI sp)])), (ag, .inl (cI, 120, .inl tx)), (am, .inl (cI, 3, .inl nf))] [(a0, .inr (5, [.ref ag, .ref am, .ref ad, .ref b0, .int (nI tn), .int v1, .int v2, .int v3, .int (nI (ftNe tx tn sp))])), (ag, .inl (cI, 120, .inl tx)), (am, .inl (cI, 3, .inl (ftNf tx tn sp i nf)))] s.heap.size) ([.ref a0, .int (nI i)] : List Value).toArray s 0 0 A) (F0 m 63 ls []) := by
          intro n63
          induction n63 with
          | zero =>
            intro k x63_3 x63_4 g63_a0_8 hm63
            exact absurd hm63 (Nat.not_lt_zero _)
          | succ n63 ih63 =>
            intro k x63_3 x63_4 g63_a0_8 hm63 hk5 hall hqk ex63_3 ex63_4 eg63_a0_8 H locs hP hD hS ls hl
            subst ex63_4
            subst eg63_a0_8
            refine lv_iload hx hb dX5_readNumber_63 (lv_at hl 4 rfl) ?_
            refine lv_iconst (v := 5) hx hb dX5_readNumber_65 (by decide) ?_
            refine lv_icmp_ge (tgt := 120) hx hb dX5_readNumber_66 (by decide) (fun c66 => ?_) (fun c66 => ?_)
            · have c66n : 5 ≤ k := ft_leN (by omega) (by omega) c66
              have hm : ftNd tx tn q9 = k := ftIni_of (by omega) hall (fun h => absurd h (by omega))
              refine lv_aload_n hx hb dX5_readNumber_120 rfl (lv_at hl 0 rfl) ?_
              refine va_get (D := D) (ci := 5) (v := .ref am) (C := RX5) (T := TX5) (N := 9) hx hb hts (by decide +kernel) hown hK hP 0 rfl rfl 1 (by decide) (hts (.fieldLink RX5 15 "FiberTrace$LinkText" "numbers" "[I") (by decide +kernel)) (fun _ h9 => h9) rfl dX5_readNumber_121 ?_
              refine lv_iload_n hx hb dX5_readNumber_124 rfl (lv_at hl 1 rfl) ?_
              refine lv_iload_n hx hb dX5_readNumber_125 rfl (lv_at hl 2 rfl) ?_
              refine lv_if_eq (tgt := 134) hx hb dX5_readNumber_126 (by decide) (fun c126 => ?_) (fun c126 => ?_)
              · exact absurd c126 (by decide)
              · refine lv_iload_n hx hb dX5_readNumber_129 rfl (lv_at hl 3 rfl) ?_
                refine lv_ineg hx hb dX5_readNumber_130 ?_
                refine lv_goto (tgt := 135) hx hb dX5_readNumber_131 (by decide) ?_
                refine ft_cv (wc := [(am, .inl (cI, 3, .inl nf))]) (wr := [(a0, .inr (5, [.ref ag, .ref am, .ref ad, .ref b0, .int (nI tn), .int v1, .int v2, .int v3, .int (nI (q9 + k))])), (ag, .inl (cI, 120, .inl tx))]) (w1 := [(am, .inl (cI, 3, .inl (ftPut 3 nf (nI i) (-x63_3))))]) (ws1 := [(a0, .inr (5, [.ref ag, .ref am, .ref ad, .ref b0, .int (nI tn), .int v1, .int v2, .int v3, .int (nI (q9 + k))])), (ag, .inl (cI, 120, .inl tx)), (am, .inl (cI, 3, .inl (ftPut 3 nf (nI i) (-x63_3))))]) (va_runSN (As := [.ref am, .int (nI i), .int (-x63_3)]) (rest := []) ⟨hx, hb, hml, hown, hts⟩ (c_X10_put l D cI cS H.size am 3 nf (nI i) (-x63_3) (by first | assumption | omega)) ⟨va_cnB 3 hts gX5_readNumber_X10_put_n32 rfl rfl rfl (hKK.2 _ (List.mem_of_getElem? (i := 7) rfl)) (hts (.initialized RX10) (by decide +kernel)) (by decide +kernel) ⟨Nat.le_of_ble_eq_true rfl, Nat.le_of_ble_eq_true rfl⟩, hts (.static yX10_put) (by decide +kernel), trivial⟩ (ft_preRW hP hD hKK [2] rfl rfl rfl) rfl rfl hl.1 rfl (lv_room (Nat.le_of_ble_eq_true rfl)) dX5_readNumber_135 ⟨Nat.le_of_ble_eq_true rfl, Nat.le_of_ble_eq_true rfl⟩) hP hD hS hA [2] [0, 1] [0, 1, 2] rfl rfl (by decide) (by decide) (by decide) rfl rfl (fun H locs hP hD hS => ?_)
                rw [ftPut_N (k := i) (by omega) (by omega)] at hP hD
                have hP : va_P D vwCl [(a0, .inr (5, [.ref ag, .ref am, .ref ad, .ref b0, .int (nI tn), .int v1, .int v2, .int v3, .int (nI (q9 + k))])), (ag, .inl (cI, 120, .inl tx)), (am, .inl (cI, 3, .inl (upd nf i (-x63_3))))] H := hP
                have hD : va_D A [(a0, .inr (5, [.ref ag, .ref am, .ref ad, .ref b0, .int (nI tn), .int v1, .int v2, .int v3, .int (nI (q9 + k))])), (ag, .inl (cI, 120, .inl tx)), (am, .inl (cI, 3, .inl (upd nf i (-x63_3))))] := hD
                refine lv_iload hx hb dX5_readNumber_138 (lv_at hl 4 rfl) ?_
                refine lv_if_le (tgt := 147) hx hb dX5_readNumber_140 (by decide) (fun c140 => ?_) (fun c140 => ?_)
                · have c140n : k ≤ 0 := ft_leN (by omega) (by omega) c140
                  have hok9 : ftB (ftNok tx tn sp) = 0 := ftB_f (fun q => by have q2 := q.2; rw [hqq, hm] at q2; omega)
                  refine lv_iconst (v := 0) hx hb dX5_readNumber_147 (by decide) ?_
                  have hw9 : ([(a0, .inr (5, [.ref ag, .ref am, .ref ad, .ref b0, .int (nI tn), .int v1, .int v2, .int v3, .int (nI (q9 + k))])), (ag, .inl (cI, 120, .inl tx)), (am, .inl (cI, 3, .inl (upd nf i (-x63_3))))] : va_W) = [(a0, .inr (5, [.ref ag, .ref am, .ref ad, .ref b0, .int (nI tn), .int v1, .int v2, .int v3, .int (nI (ftNe tx tn sp))])), (ag, .inl (cI, 120, .inl tx)), (am, .inl (cI, 3, .inl (ftNf tx tn sp i nf)))] := by rw [ftNe_t hsq, ftNf_t hsq, hqq, hm]; first | (rw [ftNv_t hng, hqq, hm, ex63_3, ft_neg1]; done) | (rw [ftNv_f hng, hqq, hm, ex63_3, Int32.one_mul]; done)
                  rw [hw9] at hP hD
                  exact W.zret (v := 0) hx hb hr (by rfl) (fun t ht hW => ⟨⟨0, (), rfl, (by show (0 : Int32) = ftB (ftNok tx tn sp); exact hok9.symm), by rw [ht]; exact hP, by rw [hAe]; exact hD⟩, by rw [hAe]; exact hS.F ht⟩) hS.2.2 dX5_readNumber_148
                · have c140n : 0 < k := ft_nleN (by omega) (by omega) c140
                  have hok9 : ftB (ftNok tx tn sp) = 1 := ftB_t ⟨hsq, by rw [hqq, hm]; omega⟩
                  refine lv_iconst (v := 1) hx hb dX5_readNumber_143 (by decide) ?_
                  refine lv_goto (tgt := 148) hx hb dX5_readNumber_144 (by decide) ?_
                  have hw9 : ([(a0, .inr (5, [.ref ag, .ref am, .ref ad, .ref b0, .int (nI tn), .int v1, .int v2, .int v3, .int (nI (q9 + k))])), (ag, .inl (cI, 120, .inl tx)), (am, .inl (cI, 3, .inl (upd nf i (-x63_3))))] : va_W) = [(a0, .inr (5, [.ref ag, .ref am, .ref ad, .ref b0, .int (nI tn), .int v1, .int v2, .int v3, .int (nI (ftNe tx tn sp))])), (ag, .inl (cI, 120, .inl tx)), (am, .inl (cI, 3, .inl (ftNf tx tn sp i nf)))] := by rw [ftNe_t hsq, ftNf_t hsq, hqq, hm]; first | (rw [ftNv_t hng, hqq, hm, ex63_3, ft_neg1]; done) | (rw [ftNv_f hng, hqq, hm, ex63_3, Int32.one_mul]; done)
                  rw [hw9] at hP hD
                  exact W.zret (v := 1) hx hb hr (by rfl) (fun t ht hW => ⟨⟨1, (), rfl, (by show (1 : Int32) = ftB (ftNok tx tn sp); exact hok9.symm), by rw [ht]; exact hP, by rw [hAe]; exact hD⟩, by rw [hAe]; exact hS.F ht⟩) hS.2.2 dX5_readNumber_148
            · have c66n : k < 5 := ft_nleN (by omega) (by omega) c66
              refine lv_aload_n hx hb dX5_readNumber_69 rfl (lv_at hl 0 rfl) ?_
              refine lv_aload_n hx hb dX5_readNumber_70 rfl (lv_at hl 0 rfl) ?_
              refine va_get (D := D) (ci := 5) (v := .int (nI (q9 + k))) (C := RX5) (T := TX5) (N := 9) hx hb hts (by decide +kernel) hown hK hP 0 rfl rfl 8 (by decide) (hts (.fieldLink RX5 42 "FiberTrace$LinkText" "position" "I") (by decide +kernel)) (fun _ h9 => h9) rfl dX5_readNumber_71 ?_
              refine ft_csi (r := ftC tx tn (q9 + k)) (va_runV (C := RX5) (As := [.int (nI (q9 + k))]) (rest := []) ⟨hx, hb, hml, hown, hts⟩ (c_X5_signAt l D cI cS a0 ag am ad b0 tn v1 v2 v3 (nI (q9 + k)) tx (q9 + k) (by first | assumption | omega) (by first | assumption | omega)) (cwV 1 hts gX5_readNumber_X5_signAt rfl rfl rfl (by decide +kernel) ⟨Nat.le_of_ble_eq_true rfl, Nat.le_of_ble_eq_true rfl⟩) (ft_preROV (ci := 5) (q0 := 0) hP hKK [0, 1] rfl rfl rfl) rfl rfl hl.1 rfl (lv_room (Nat.le_of_ble_eq_true rfl)) dX5_readNumber_74 ⟨Nat.le_of_ble_eq_true rfl, Nat.le_of_ble_eq_true rfl⟩) ?_
              refine lv_bipush (v := 48) hx hb dX5_readNumber_77 (by decide) ?_
              refine lv_bipush (v := 57) hx hb dX5_readNumber_79 (by decide) ?_
              refine ft_csi (r := ftB (48 ≤ (ftC tx tn (q9 + k)) ∧ (ftC tx tn (q9 + k)) ≤ 57)) (va_runSN (As := [.int (ftC tx tn (q9 + k)), .int 48, .int 57]) (rest := []) ⟨hx, hb, hml, hown, hts⟩ (c_X10_isWithin l D cI cS (ftC tx tn (q9 + k)) 48 57) ⟨va_cnB 3 hts gX5_readNumber_X10_isWithin_n115 rfl rfl rfl (hKK.2 _ (List.mem_of_getElem? (i := 9) rfl)) (hts (.initialized RX10) (by decide +kernel)) (by decide +kernel) ⟨Nat.le_of_ble_eq_true rfl, Nat.le_of_ble_eq_true rfl⟩, hts (.static yX10_isWithin) (by decide +kernel), trivial⟩ (ft_preRO hP hKK [] rfl) rfl rfl hl.1 rfl (lv_room (Nat.le_of_ble_eq_true rfl)) dX5_readNumber_81 ⟨Nat.le_of_ble_eq_true rfl, Nat.le_of_ble_eq_true rfl⟩) ?_
              refine lv_if_eq (tgt := 120) hx hb dX5_readNumber_84 (by decide) (fun c84 => ?_) (fun c84 => ?_)
              · replace c84 := ftB_eq c84
                have hm : ftNd tx tn q9 = k := ftIni_of (by omega) hall (fun _ q => c84 (ftDp_c.mp q))
                refine lv_aload_n hx hb dX5_readNumber_120 rfl (lv_at hl 0 rfl) ?_
                refine va_get (D := D) (ci := 5) (v := .ref am) (C := RX5) (T := TX5) (N := 9) hx hb hts (by decide +kernel) hown hK hP 0 rfl rfl 1 (by decide) (hts (.fieldLink RX5 15 "FiberTrace$LinkText" "numbers" "[I") (by decide +kernel)) (fun _ h9 => h9) rfl dX5_readNumber_121 ?_
                refine lv_iload_n hx hb dX5_readNumber_124 rfl (lv_at hl 1 rfl) ?_
                refine lv_iload_n hx hb dX5_readNumber_125 rfl (lv_at hl 2 rfl) ?_
                refine lv_if_eq (tgt := 134) hx hb dX5_readNumber_126 (by decide) (fun c126 => ?_) (fun c126 => ?_)
                · exact absurd c126 (by decide)
                · refine lv_iload_n hx hb dX5_readNumber_129 rfl (lv_at hl 3 rfl) ?_
                  refine lv_ineg hx hb dX5_readNumber_130 ?_
                  refine lv_goto (tgt := 135) hx hb dX5_readNumber_131 (by decide) ?_
                  refine ft_cv (wc := [(am, .inl (cI, 3, .inl nf))]) (wr := [(a0, .inr (5, [.ref ag, .ref am, .ref ad, .ref b0, .int (nI tn), .int v1, .int v2, .int v3, .int (nI (q9 + k))])), (ag, .inl (cI, 120, .inl tx))]) (w1 := [(am, .inl (cI, 3, .inl (ftPut 3 nf (nI i) (-x63_3))))]) (ws1 := [(a0, .inr (5, [.ref ag, .ref am, .ref ad, .ref b0, .int (nI tn), .int v1, .int v2, .int v3, .int (nI (q9 + k))])), (ag, .inl (cI, 120, .inl tx)), (am, .inl (cI, 3, .inl (ftPut 3 nf (nI i) (-x63_3))))]) (va_runSN (As := [.ref am, .int (nI i), .int (-x63_3)]) (rest := []) ⟨hx, hb, hml, hown, hts⟩ (c_X10_put l D cI cS H.size am 3 nf (nI i) (-x63_3) (by first | assumption | omega)) ⟨va_cnB 3 hts gX5_readNumber_X10_put_n32 rfl rfl rfl (hKK.2 _ (List.mem_of_getElem? (i := 7) rfl)) (hts (.initialized RX10) (by decide +kernel)) (by decide +kernel) ⟨Nat.le_of_ble_eq_true rfl, Nat.le_of_ble_eq_true rfl⟩, hts (.static yX10_put) (by decide +kernel), trivial⟩ (ft_preRW hP hD hKK [2] rfl rfl rfl) rfl rfl hl.1 rfl (lv_room (Nat.le_of_ble_eq_true rfl)) dX5_readNumber_135 ⟨Nat.le_of_ble_eq_true rfl, Nat.le_of_ble_eq_true rfl⟩) hP hD hS hA [2] [0, 1] [0, 1, 2] rfl rfl (by decide) (by decide) (by decide) rfl rfl (fun H locs hP hD hS => ?_)
                  rw [ftPut_N (k := i) (by omega) (by omega)] at hP hD
                  have hP : va_P D vwCl [(a0, .inr (5, [.ref ag, .ref am, .ref ad, .ref b0, .int (nI tn), .int v1, .int v2, .int v3, .int (nI (q9 + k))])), (ag, .inl (cI, 120, .inl tx)), (am, .inl (cI, 3, .inl (upd nf i (-x63_3))))] H := hP
                  have hD : va_D A [(a0, .inr (5, [.ref ag, .ref am, .ref ad, .ref b0, .int (nI tn), .int v1, .int v2, .int v3, .int (nI (q9 + k))])), (ag, .inl (cI, 120, .inl tx)), (am, .inl (cI, 3, .inl (upd nf i (-x63_3))))] := hD
                  refine lv_iload hx hb dX5_readNumber_138 (lv_at hl 4 rfl) ?_
                  refine lv_if_le (tgt := 147) hx hb dX5_readNumber_140 (by decide) (fun c140 => ?_) (fun c140 => ?_)
                  · have c140n : k ≤ 0 := ft_leN (by omega) (by omega) c140
                    have hok9 : ftB (ftNok tx tn sp) = 0 := ftB_f (fun q => by have q2 := q.2; rw [hqq, hm] at q2; omega)
                    refine lv_iconst (v := 0) hx hb dX5_readNumber_147 (by decide) ?_
                    have hw9 : ([(a0, .inr (5, [.ref ag, .ref am, .ref ad, .ref b0, .int (nI tn), .int v1, .int v2, .int v3, .int (nI (q9 + k))])), (ag, .inl (cI, 120, .inl tx)), (am, .inl (cI, 3, .inl (upd nf i (-x63_3))))] : va_W) = [(a0, .inr (5, [.ref ag, .ref am, .ref ad, .ref b0, .int (nI tn), .int v1, .int v2, .int v3, .int (nI (ftNe tx tn sp))])), (ag, .inl (cI, 120, .inl tx)), (am, .inl (cI, 3, .inl (ftNf tx tn sp i nf)))] := by rw [ftNe_t hsq, ftNf_t hsq, hqq, hm]; first | (rw [ftNv_t hng, hqq, hm, ex63_3, ft_neg1]; done) | (rw [ftNv_f hng, hqq, hm, ex63_3, Int32.one_mul]; done)
                    rw [hw9] at hP hD
                    exact W.zret (v := 0) hx hb hr (by rfl) (fun t ht hW => ⟨⟨0, (), rfl, (by show (0 : Int32) = ftB (ftNok tx tn sp); exact hok9.symm), by rw [ht]; exact hP, by rw [hAe]; exact hD⟩, by rw [hAe]; exact hS.F ht⟩) hS.2.2 dX5_readNumber_148
                  · have c140n : 0 < k := ft_nleN (by omega) (by omega) c140
                    have hok9 : ftB (ftNok tx tn sp) = 1 := ftB_t ⟨hsq, by rw [hqq, hm]; omega⟩
                    refine lv_iconst (v := 1) hx hb dX5_readNumber_143 (by decide) ?_
                    refine lv_goto (tgt := 148) hx hb dX5_readNumber_144 (by decide) ?_
                    have hw9 : ([(a0, .inr (5, [.ref ag, .ref am, .ref ad, .ref b0, .int (nI tn), .int v1, .int v2, .int v3, .int (nI (q9 + k))])), (ag, .inl (cI, 120, .inl tx)), (am, .inl (cI, 3, .inl (upd nf i (-x63_3))))] : va_W) = [(a0, .inr (5, [.ref ag, .ref am, .ref ad, .ref b0, .int (nI tn), .int v1, .int v2, .int v3, .int (nI (ftNe tx tn sp))])), (ag, .inl (cI, 120, .inl tx)), (am, .inl (cI, 3, .inl (ftNf tx tn sp i nf)))] := by rw [ftNe_t hsq, ftNf_t hsq, hqq, hm]; first | (rw [ftNv_t hng, hqq, hm, ex63_3, ft_neg1]; done) | (rw [ftNv_f hng, hqq, hm, ex63_3, Int32.one_mul]; done)
                    rw [hw9] at hP hD
                    exact W.zret (v := 1) hx hb hr (by rfl) (fun t ht hW => ⟨⟨1, (), rfl, (by show (1 : Int32) = ftB (ftNok tx tn sp); exact hok9.symm), by rw [ht]; exact hP, by rw [hAe]; exact hD⟩, by rw [hAe]; exact hS.F ht⟩) hS.2.2 dX5_readNumber_148
              · replace c84 := ftB_ne c84
                have hdp : ftDp tx tn q9 k := ftDp_c.mpr c84
                have hlt7 := hdp.1
                refine lv_iload_n hx hb dX5_readNumber_87 rfl (lv_at hl 3 rfl) ?_
                refine lv_bipush (v := 10) hx hb dX5_readNumber_88 (by decide) ?_
                refine lv_imul hx hb dX5_readNumber_90 ?_
                refine lv_aload_n hx hb dX5_readNumber_91 rfl (lv_at hl 0 rfl) ?_
                refine lv_aload_n hx hb dX5_readNumber_92 rfl (lv_at hl 0 rfl) ?_
                refine va_get (D := D) (ci := 5) (v := .int (nI (q9 + k))) (C := RX5) (T := TX5) (N := 9) hx hb hts (by decide +kernel) hown hK hP 0 rfl rfl 8 (by decide) (hts (.fieldLink RX5 42 "FiberTrace$LinkText" "position" "I") (by decide +kernel)) (fun _ h9 => h9) rfl dX5_readNumber_93 ?_
                refine ft_csi (r := ftC tx tn (q9 + k)) (va_runV (C := RX5) (As := [.int (nI (q9 + k))]) (rest := [.int (x63_3 * 10)]) ⟨hx, hb, hml, hown, hts⟩ (c_X5_signAt l D cI cS a0 ag am ad b0 tn v1 v2 v3 (nI (q9 + k)) tx (q9 + k) (by first | assumption | omega) (by first | assumption | omega)) (cwV 1 hts gX5_readNumber_X5_signAt rfl rfl rfl (by decide +kernel) ⟨Nat.le_of_ble_eq_true rfl, Nat.le_of_ble_eq_true rfl⟩) (ft_preROV (ci := 5) (q0 := 0) hP hKK [0, 1] rfl rfl rfl) rfl rfl hl.1 rfl (lv_room (Nat.le_of_ble_eq_true rfl)) dX5_readNumber_96 ⟨Nat.le_of_ble_eq_true rfl, Nat.le_of_ble_eq_true rfl⟩) ?_
                refine lv_iadd hx hb dX5_readNumber_99 ?_
                refine lv_bipush (v := 48) hx hb dX5_readNumber_100 (by decide) ?_
                refine lv_isub hx hb dX5_readNumber_102 ?_
                refine lv_istore_n (lv' := [(3, .int (((x63_3 * 10) + (ftC tx tn (q9 + k))) - 48)), (0, .ref a0), (1, .int (nI i)), (2, .int 1), (4, .int (nI k))]) hx hb dX5_readNumber_103 rfl hl (by decide) rfl (fun ls hl => ?_)
                refine lv_aload_n hx hb dX5_readNumber_104 rfl (lv_at hl 1 rfl) ?_
                refine lv_dup hx hb dX5_readNumber_105 rfl ?_
                refine va_get (D := D) (ci := 5) (v := .int (nI (q9 + k))) (C := RX5) (T := TX5) (N := 9) hx hb hts (by decide +kernel) hown hK hP 0 rfl rfl 8 (by decide) (hts (.fieldLink RX5 42 "FiberTrace$LinkText" "position" "I") (by decide +kernel)) (fun _ h9 => h9) rfl dX5_readNumber_106 ?_
                refine lv_iconst (v := 1) hx hb dX5_readNumber_109 (by decide) ?_
                refine lv_iadd hx hb dX5_readNumber_110 ?_
                refine ft_top (y := nI ((q9 + k) + 1)) (ft_addN (q9 + k) 1) ?_
                refine va_put (D := D) (ci := 5) (v := .int (nI ((q9 + k) + 1))) (ty := .int) (C := RX5) (T := TX5) (N := 9) hx hb hts (by decide +kernel) tyX5 tyX5_ok nmX5 hown hK hP hD hS 0 rfl rfl 8 (by decide) (hts (.fieldLink RX5 42 "FiberTrace$LinkText" "position" "I") (by decide +kernel)) (fun _ h9 => h9) rfl (by decide +kernel) rfl rfl (Nat.le_of_ble_eq_true rfl) dX5_readNumber_111 (fun H locs hP hD hS => ?_)
                have hP : va_P D vwCl [(a0, .inr (5, [.ref ag, .ref am, .ref ad, .ref b0, .int (nI tn), .int v1, .int v2, .int v3, .int (nI ((q9 + k) + 1))])), (ag, .inl (cI, 120, .inl tx)), (am, .inl (cI, 3, .inl nf))] H := hP
                have hD : va_D A [(a0, .inr (5, [.ref ag, .ref am, .ref ad, .ref b0, .int (nI tn), .int v1, .int v2, .int v3, .int (nI ((q9 + k) + 1))])), (ag, .inl (cI, 120, .inl tx)), (am, .inl (cI, 3, .inl nf))] := hD
                refine lv_iinc (v := nI (k + 1)) (lv' := [(4, .int (nI (k + 1))), (3, .int (((x63_3 * 10) + (ftC tx tn (q9 + k))) - 48)), (0, .ref a0), (1, .int (nI i)), (2, .int 1)]) hx hb dX5_readNumber_114 hl (k := 4) rfl (ft_inc k) (by decide) rfl (fun ls hl => ?_)
                refine lv_goto (tgt := 63) hx hb dX5_readNumber_117 (by decide) ?_
                exact ih63 (k + 1) (((x63_3 * 10) + (ftC tx tn (q9 + k))) - 48) (nI (k + 1)) (nI ((q9 + k) + 1)) (by omega) (by omega) (by intro t ht; rcases Nat.lt_succ_iff_lt_or_eq.mp ht with q | q; exact hall t q; subst q; exact hdp) (by omega) (by rw [ex63_3, ftC_in hlt7, Int32.mul_comm]; rfl) (by first | rfl | assumption) (by rfl) _ _ hP hD hS ls (lv_sub hl [2, 3, 4, 1, 0] rfl)
        exact lp63 _ 0 0 0 (nI ((sp + 1) + 1)) (Nat.lt_succ_self _) (by omega) (by intro t ht; exact absurd ht (Nat.not_lt_zero t)) (by omega) (by rfl) (by rfl) (by rw [hq9]) _ _ hP hD hS ls (lv_sub hl [3, 4, 2, 1, 0] rfl)
  · have hns : ¬ ftSp tx tn sp := fun q => c10 (ftSp_c.mp q)
    refine lv_iconst (v := 0) hx hb dX5_readNumber_13 (by decide) ?_
    have hw9 : ([(a0, .inr (5, [.ref ag, .ref am, .ref ad, .ref b0, .int (nI tn), .int v1, .int v2, .int v3, .int (nI sp)])), (ag, .inl (cI, 120, .inl tx)), (am, .inl (cI, 3, .inl nf))] : va_W) = [(a0, .inr (5, [.ref ag, .ref am, .ref ad, .ref b0, .int (nI tn), .int v1, .int v2, .int v3, .int (nI (ftNe tx tn sp))])), (ag, .inl (cI, 120, .inl tx)), (am, .inl (cI, 3, .inl (ftNf tx tn sp i nf)))] := by rw [ftNe_f hns, ftNf_f hns]
    rw [hw9] at hP hD
    exact W.zret (v := 0) hx hb hr (by rfl) (fun t ht hW => ⟨⟨0, (), rfl, (by show (0 : Int32) = ftB (ftNok tx tn sp); exact (ftB_f (fun q : ftNok tx tn sp => hns q.1)).symm), by rw [ht]; exact hP, by rw [hAe]; exact hD⟩, by rw [hAe]; exact hS.F ht⟩) hS.2.2 dX5_readNumber_14
set_option maxHeartbeats 4000000 in
set_option maxRecDepth 100000 in
theorem c_X5_readNumbers (l : Launch) (D : va_G) (cI cS : ClassId) (sz : Nat) (a0 ag am ad b0 : Nat) (tn : Nat) (v1 v2 v3 : Int32) (sp : Nat) (tx nf : Nat → Int32) (wn : Nat) (htn : tn ≤ 120) (hsp : sp ≤ tn) (hwn : wn ≤ 3) : Met l yX5_readNumbers wsX5_readNumbers ({ frames := 3, cells := 0, slots := 0, locals := 66 }) (ftRW D cI cS [.ref a0, .int (nI wn)] [(a0, .inr (5, [.ref ag, .ref am, .ref ad, .ref b0, .int (nI tn), .int v1, .int v2, .int v3, .int (nI sp)])), (ag, .inl (cI, 120, .inl tx)), (am, .inl (cI, 3, .inl nf))] sz) (ftQi D (if ftNm tx tn sp wn = wn then -1 else nI (ftNm tx tn sp wn)) [(a0, .inr (5, [.ref ag, .ref am, .ref ad, .ref b0, .int (nI tn), .int v1, .int v2, .int v3, .int (nI sp)])), (ag, .inl (cI, 120, .inl tx)), (am, .inl (cI, 3, .inl nf))] [(a0, .inr (5, [.ref ag, .ref am, .ref ad, .ref b0, .int (nI tn), .int v1, .int v2, .int v3, .int (nI (ftNP tx tn sp (min (ftNm tx tn sp wn + 1) wn)))])), (ag, .inl (cI, 120, .inl tx)), (am, .inl (cI, 3, .inl (ftNfs tx tn sp nf (min (ftNm tx tn sp wn + 1) wn))))] sz) 0 0 (va_A [(a0, .inr (5, [.ref ag, .ref am, .ref ad, .ref b0, .int (nI tn), .int v1, .int v2, .int v3, .int (nI sp)])), (ag, .inl (cI, 120, .inl tx)), (am, .inl (cI, 3, .inl nf))] sz) := by
  refine Met.ofW (cc := cX5_readNumbers) (maxL := 3) (ret := (some .int)) (by decide) rfl ?_
  intro p e s m args below meth c s₁ B hml hv
  obtain ⟨rfl, hsz, hP, hKK, hD0⟩ := hv
  have hK := hKK.1
  have hx := B.exec
  have hb := B.bytes
  have hr := B.returns
  have hts := atoms_spec (ws := wsX5_readNumbers) B.pre
  have hown : s.vm.findClass RX5 = some m.cls := findClass_of_methodNamed B.named
  have hlocks := B.notSynchronized
  subst hsz
  have hD := hD0.self (sz := s.heap.size)
  generalize hAe : va_A [(a0, .inr (5, [.ref ag, .ref am, .ref ad, .ref b0, .int (nI tn), .int v1, .int v2, .int v3, .int (nI sp)])), (ag, .inl (cI, 120, .inl tx)), (am, .inl (cI, 3, .inl nf))] s.heap.size = A at hD ⊢
  have hA : ∀ q : Nat, s.heap.size ≤ q → A q := fun q h => by rw [← hAe]; exact Or.inr h
  have hS : va_S A s.heap s.heap [] := va_S.rf
  have hD : va_D A [(a0, .inr (5, [.ref ag, .ref am, .ref ad, .ref b0, .int (nI tn), .int v1, .int v2, .int v3, .int (nI sp)])), (ag, .inl (cI, 120, .inl tx)), (am, .inl (cI, 3, .inl nf))] := hD
  have hP : va_P D vwCl [(a0, .inr (5, [.ref ag, .ref am, .ref ad, .ref b0, .int (nI tn), .int v1, .int v2, .int v3, .int (nI sp)])), (ag, .inl (cI, 120, .inl tx)), (am, .inl (cI, 3, .inl nf))] s.heap := hP
  have hl := lv_entry ([.ref a0, .int (nI wn)]) (n := 3) (Nat.le_of_ble_eq_true rfl)
  rw [lg_entry_eq]
  generalize (lg_sl ([.ref a0, .int (nI wn)]) ++ List.replicate (3 - (lg_sl ([.ref a0, .int (nI wn)])).length) Slot.unset).toArray = ls at hl ⊢
  have hl : lv_has ls 3 [(0, .ref a0), (1, .int (nI wn))] := hl
  refine lv_iconst (v := 0) hx hb dX5_readNumbers_0 (by decide) ?_
  refine lv_istore_n (lv' := [(2, .int 0), (0, .ref a0), (1, .int (nI wn))]) hx hb dX5_readNumbers_1 rfl hl (by decide) rfl (fun ls hl => ?_)
  have lp2 : ∀ (n2 : Nat) (i : Nat) (x2_2 : Int32) (g2_a0_8 : Int32) (g2_am : Nat → Int32), wn - i < n2 → (i ≤ wn) → (∀ t, t < i → ftNok tx tn (ftNP tx tn sp t)) → x2_2 = nI i → g2_a0_8 = nI (ftNP tx tn sp i) → g2_am = ftNfs tx tn sp nf i → ∀ (H : Heap) (locs : List Loc), va_P D vwCl [(a0, .inr (5, [.ref ag, .ref am, .ref ad, .ref b0, .int (nI tn), .int v1, .int v2, .int v3, .int g2_a0_8])), (ag, .inl (cI, 120, .inl tx)), (am, .inl (cI, 3, .inl g2_am))] H → va_D A [(a0, .inr (5, [.ref ag, .ref am, .ref ad, .ref b0, .int (nI tn), .int v1, .int v2, .int v3, .int g2_a0_8])), (ag, .inl (cI, 120, .inl tx)), (am, .inl (cI, 3, .inl g2_am))] → va_S A s.heap H locs → ∀ ls : Array Slot, lv_has ls 3 [(0, .ref a0), (1, .int (nI wn)), (2, .int x2_2)] → W p l e (headSpec wsX5_readNumbers { frames := 3, cells := 0, slots := 0, locals := 66 }).room s m ([.ref a0, .int (nI wn)] : List Value).toArray below meth c H locs 0 0 (MQ below (ftQi D (if ftNm tx tn sp wn = wn then -1 else nI (ftNm tx tn sp wn)) [(a0, .inr (5, [.ref ag, .ref am, .ref ad, .ref b0, .int (nI tn), .int v1, .int v2, .int v3, .int (nI sp)])), (ag, .inl (cI, 120, .inl tx)), (am, .inl (cI, 3, .inl nf))] [(a0, .inr (5, [.ref ag, .ref am, .ref ad, .ref b0, .int (nI tn), .int v1, .int v2, .int v3, .int (nI (ftNP tx tn sp (min (ftNm tx tn sp wn + 1) wn)))])), (ag, .inl (cI, 120, .inl tx)), (am, .inl (cI, 3, .inl (ftNfs tx tn sp nf (min (ftNm tx tn sp wn + 1) wn))))] s.heap.size) ([.ref a0, .int (nI wn)] : List Value).toArray s 0 0 A) (F0 m 2 ls []) := by
    intro n2
    induction n2 with
    | zero =>
      intro i x2_2 g2_a0_8 g2_am hm2
      exact absurd hm2 (Nat.not_lt_zero _)
    | succ n2 ih2 =>
      intro i x2_2 g2_a0_8 g2_am hm2 hin hok ex2_2 eg2_a0_8 eg2_am H locs hP hD hS ls hl
      subst ex2_2
      subst eg2_a0_8
      have hpi := ftNP_le (tx := tx) hsp i
      refine lv_iload_n hx hb dX5_readNumbers_2 rfl (lv_at hl 2 rfl) ?_
      refine lv_iload_n hx hb dX5_readNumbers_3 rfl (lv_at hl 1 rfl) ?_
      refine lv_icmp_ge (tgt := 23) hx hb dX5_readNumbers_4 (by decide) (fun c4 => ?_) (fun c4 => ?_)
      · have c4n : wn ≤ i := ft_leN (by omega) (by omega) c4
        have hm : ftNm tx tn sp wn = wn := ftIni_of (Nat.le_refl _) (fun t ht => hok t (by omega)) (fun h => absurd h (Nat.lt_irrefl _))
        refine lv_iconst (v := (-1)) hx hb dX5_readNumbers_23 (by decide) ?_
        have hw9 : ([(a0, .inr (5, [.ref ag, .ref am, .ref ad, .ref b0, .int (nI tn), .int v1, .int v2, .int v3, .int (nI (ftNP tx tn sp i))])), (ag, .inl (cI, 120, .inl tx)), (am, .inl (cI, 3, .inl g2_am))] : va_W) = [(a0, .inr (5, [.ref ag, .ref am, .ref ad, .ref b0, .int (nI tn), .int v1, .int v2, .int v3, .int (nI (ftNP tx tn sp (min (ftNm tx tn sp wn + 1) wn)))])), (ag, .inl (cI, 120, .inl tx)), (am, .inl (cI, 3, .inl (ftNfs tx tn sp nf (min (ftNm tx tn sp wn + 1) wn))))] := by rw [hm, Nat.min_eq_right (by omega), eg2_am, show i = wn by omega]
        rw [hw9] at hP hD
        exact W.iret (v := (-1)) hx hb hr (fun t ht hW => ⟨⟨(-1), (), rfl, (by show ((-1) : Int32) = if ftNm tx tn sp wn = wn then -1 else nI (ftNm tx tn sp wn); rw [hm, if_pos rfl]), by rw [ht]; exact hP, by rw [hAe]; exact hD⟩, by rw [hAe]; exact hS.F ht⟩) hS.2.2 dX5_readNumbers_24
      · have c4n : i < wn := ft_nleN (by omega) (by omega) c4
        refine lv_aload_n hx hb dX5_readNumbers_7 rfl (lv_at hl 0 rfl) ?_
        refine lv_iload_n hx hb dX5_readNumbers_8 rfl (lv_at hl 2 rfl) ?_
        refine ft_ci (r := ftB (ftNok tx tn (ftNP tx tn sp i))) (wc := [(a0, .inr (5, [.ref ag, .ref am, .ref ad, .ref b0, .int (nI tn), .int v1, .int v2, .int v3, .int (nI (ftNP tx tn sp i))])), (ag, .inl (cI, 120, .inl tx)), (am, .inl (cI, 3, .inl g2_am))]) (wr := []) (w1 := [(a0, .inr (5, [.ref ag, .ref am, .ref ad, .ref b0, .int (nI tn), .int v1, .int v2, .int v3, .int (nI (ftNe tx tn (ftNP tx tn sp i)))])), (ag, .inl (cI, 120, .inl tx)), (am, .inl (cI, 3, .inl (ftNf tx tn (ftNP tx tn sp i) i g2_am)))]) (ws1 := [(a0, .inr (5, [.ref ag, .ref am, .ref ad, .ref b0, .int (nI tn), .int v1, .int v2, .int v3, .int (nI (ftNe tx tn (ftNP tx tn sp i)))])), (ag, .inl (cI, 120, .inl tx)), (am, .inl (cI, 3, .inl (ftNf tx tn (ftNP tx tn sp i) i g2_am)))]) (va_runV (C := RX5) (As := [.int (nI i)]) (rest := []) ⟨hx, hb, hml, hown, hts⟩ (c_X5_readNumber l D cI cS H.size a0 ag am ad b0 tn v1 v2 v3 (ftNP tx tn sp i) tx g2_am i (by first | assumption | omega) (by first | assumption | omega) (by first | assumption | omega)) (cwV 1 hts gX5_readNumbers_X5_readNumber rfl rfl rfl (by decide +kernel) ⟨Nat.le_of_ble_eq_true rfl, Nat.le_of_ble_eq_true rfl⟩) (ft_preRWV (ci := 5) (q0 := 0) hP hD hKK [0, 1, 2] rfl rfl rfl rfl rfl) rfl rfl hl.1 rfl (lv_room (Nat.le_of_ble_eq_true rfl)) dX5_readNumbers_9 ⟨Nat.le_of_ble_eq_true rfl, Nat.le_of_ble_eq_true rfl⟩) hP hD hS hA [0, 1, 2] [] [0, 1, 2] rfl rfl (by decide) (by decide) (by decide) rfl rfl (fun H locs hP hD hS => ?_)
        have hP : va_P D vwCl [(a0, .inr (5, [.ref ag, .ref am, .ref ad, .ref b0, .int (nI tn), .int v1, .int v2, .int v3, .int (nI (ftNe tx tn (ftNP tx tn sp i)))])), (ag, .inl (cI, 120, .inl tx)), (am, .inl (cI, 3, .inl (ftNf tx tn (ftNP tx tn sp i) i g2_am)))] H := hP
        have hD : va_D A [(a0, .inr (5, [.ref ag, .ref am, .ref ad, .ref b0, .int (nI tn), .int v1, .int v2, .int v3, .int (nI (ftNe tx tn (ftNP tx tn sp i)))])), (ag, .inl (cI, 120, .inl tx)), (am, .inl (cI, 3, .inl (ftNf tx tn (ftNP tx tn sp i) i g2_am)))] := hD
        refine lv_if_ne (tgt := 17) hx hb dX5_readNumbers_12 (by decide) (fun c12 => ?_) (fun c12 => ?_)
        · replace c12 := ftB_ne c12
          refine lv_iinc (v := nI (i + 1)) (lv' := [(2, .int (nI (i + 1))), (0, .ref a0), (1, .int (nI wn))]) hx hb dX5_readNumbers_17 hl (k := 2) rfl (ft_inc i) (by decide) rfl (fun ls hl => ?_)
          refine lv_goto (tgt := 2) hx hb dX5_readNumbers_20 (by decide) ?_
          exact ih2 (i + 1) (nI (i + 1)) (nI (ftNe tx tn (ftNP tx tn sp i))) (ftNf tx tn (ftNP tx tn sp i) i g2_am) (by omega) (by omega) (by intro t ht; rcases Nat.lt_succ_iff_lt_or_eq.mp ht with q | q; exact hok t q; subst q; exact c12) (by first | rfl | assumption) (by rfl) (by rw [eg2_am]; rfl) _ _ hP hD hS ls (lv_sub hl [1, 2, 0] rfl)
        · replace c12 := ftB_eq c12
          have hm : ftNm tx tn sp wn = i := ftIni_of hin hok (fun _ => c12)
          refine lv_iload_n hx hb dX5_readNumbers_15 rfl (lv_at hl 2 rfl) ?_
          have hw9 : ([(a0, .inr (5, [.ref ag, .ref am, .ref ad, .ref b0, .int (nI tn), .int v1, .int v2, .int v3, .int (nI (ftNe tx tn (ftNP tx tn sp i)))])), (ag, .inl (cI, 120, .inl tx)), (am, .inl (cI, 3, .inl (ftNf tx tn (ftNP tx tn sp i) i g2_am)))] : va_W) = [(a0, .inr (5, [.ref ag, .ref am, .ref ad, .ref b0, .int (nI tn), .int v1, .int v2, .int v3, .int (nI (ftNP tx tn sp (min (ftNm tx tn sp wn + 1) wn)))])), (ag, .inl (cI, 120, .inl tx)), (am, .inl (cI, 3, .inl (ftNfs tx tn sp nf (min (ftNm tx tn sp wn + 1) wn))))] := by rw [hm, Nat.min_eq_left (by omega), eg2_am]; rfl
          rw [hw9] at hP hD
          exact W.iret (v := nI i) hx hb hr (fun t ht hW => ⟨⟨nI i, (), rfl, (by show (nI i : Int32) = if ftNm tx tn sp wn = wn then -1 else nI (ftNm tx tn sp wn); rw [hm, if_neg (by omega)]), by rw [ht]; exact hP, by rw [hAe]; exact hD⟩, by rw [hAe]; exact hS.F ht⟩) hS.2.2 dX5_readNumbers_16
  exact lp2 _ 0 0 (nI sp) nf (Nat.lt_succ_self _) (by omega) (by intro t ht; exact absurd ht (Nat.not_lt_zero t)) (by rfl) (by rfl) (by rfl) _ _ hP hD hS ls (lv_sub hl [1, 2, 0] rfl)
end
section
/-! the class's texts: items -/
theorem ftTd_put {td : Nat → Int32} {h j : Nat} (hj : j < 6) (hh : h < 64) (hT : ftTd td h) : ftTd (ftPut 3 td (nI j) 1) (h ||| 2 ^ j) := by
  intro i hi
  rw [ftTd_or h hh j hj i hi]
  rcases Nat.lt_or_ge j 3 with c | c
  · rw [ftPut_N c (by omega)]
    by_cases z : i = j
    · subst z; rw [ftUpd_at0, if_pos rfl]; rfl
    · rw [ftUpd_ne z, if_neg z]; exact hT i hi
  · rw [ftPut_out (fun q => q (Or.inr (by rw [nI_clamp (by omega)]; exact c))), if_neg (by omega)]
    exact hT i hi
set_option maxHeartbeats 4000000 in
set_option maxRecDepth 100000 in
theorem c_X5_isInRange (l : Launch) (D : va_G) (cI cS : ClassId) (a0 ag am ad b0 : Nat) (tn : Nat) (v1 v2 v3 : Int32) (v4 : Int32) (len att en : Int32) (n bk bp bl br : Nat) (j i : Nat) (q7 : Int32) (hj : j < 6) (hi : i < 3) (hi2 : i = 2 → j = 4) : Met l yX5_isInRange wsX5_isInRange ({ frames := 2, cells := 0, slots := 0, locals := 43 }) (ftRO D cI cS [.ref a0, .int (nI j), .int (nI i), .int q7] [(a0, .inr (5, [.ref ag, .ref am, .ref ad, .ref b0, .int (nI tn), .int v1, .int v2, .int v3, .int v4])), (b0, .inr (4, [.int len, .int att, .int en, .int (nI n), .ref bk, .ref bp, .ref bl, .ref br]))]) (vp_Si (fun o9 => o9 = ftB (ftRt (nI j) i q7 len))) 0 0 (fun _ => False) := by
  refine Met.ofW (cc := cX5_isInRange) (maxL := 5) (ret := (some .boolean)) (by decide) rfl ?_
  intro p e s m args below meth c s₁ B hml hv
  obtain ⟨rfl, hP, hKK⟩ := hv
  have hK := hKK.1
  have hx := B.exec
  have hb := B.bytes
  have hr := B.returns
  have hts := atoms_spec (ws := wsX5_isInRange) B.pre
  have hown : s.vm.findClass RX5 = some m.cls := findClass_of_methodNamed B.named
  have hlocks := B.notSynchronized
  have hP : va_P D vwCl [(a0, .inr (5, [.ref ag, .ref am, .ref ad, .ref b0, .int (nI tn), .int v1, .int v2, .int v3, .int v4])), (b0, .inr (4, [.int len, .int att, .int en, .int (nI n), .ref bk, .ref bp, .ref bl, .ref br]))] s.heap := hP
  have hl := lv_entry ([.ref a0, .int (nI j), .int (nI i), .int q7]) (n := 5) (Nat.le_of_ble_eq_true rfl)
  rw [lg_entry_eq]
  generalize (lg_sl ([.ref a0, .int (nI j), .int (nI i), .int q7]) ++ List.replicate (5 - (lg_sl ([.ref a0, .int (nI j), .int (nI i), .int q7])).length) Slot.unset).toArray = ls at hl ⊢
  have hl : lv_has ls 5 [(0, .ref a0), (1, .int (nI j)), (2, .int (nI i)), (3, .int q7)] := hl
  refine lv_iload_n hx hb dX5_isInRange_0 rfl (lv_at hl 1 rfl) ?_
  by_cases c1_0 : (nI j) = 0
  · refine lv_tableIn (off := 27) (tgt := 28) hx hb dX5_isInRange_1 (by rw [c1_0]; decide) (by rw [c1_0]; decide) (by rw [c1_0]; decide) (by decide) ?_
    refine lv_iload_n hx hb dX5_isInRange_28 rfl (lv_at hl 3 rfl) ?_
    refine lv_bipush (v := 50) hx hb dX5_isInRange_29 (by decide) ?_
    refine lv_sipush (v := 400) hx hb dX5_isInRange_31 (by decide) ?_
    refine ft_csi (r := ftB (50 ≤ q7 ∧ q7 ≤ 400)) (va_runSN (As := [.int q7, .int 50, .int 400]) (rest := []) ⟨hx, hb, hml, hown, hts⟩ (c_X10_isWithin l D cI cS q7 50 400) ⟨va_cnB 3 hts gX5_isInRange_X10_isWithin_n115 rfl rfl rfl (hKK.2 _ (List.mem_of_getElem? (i := 9) rfl)) (hts (.initialized RX10) (by decide +kernel)) (by decide +kernel) ⟨Nat.le_of_ble_eq_true rfl, Nat.le_of_ble_eq_true rfl⟩, hts (.static yX10_isWithin) (by decide +kernel), trivial⟩ (ft_preRO hP hKK [] rfl) rfl rfl hl.1 rfl (lv_room (Nat.le_of_ble_eq_true rfl)) dX5_isInRange_34 ⟨Nat.le_of_ble_eq_true rfl, Nat.le_of_ble_eq_true rfl⟩) ?_
    exact W.zret (v := ftB (50 ≤ q7 ∧ q7 ≤ 400)) hx hb hr (by first | rfl | exact ftB_nar) (fun t ht hW => ⟨ftB (50 ≤ q7 ∧ q7 ≤ 400), rfl, (by show (ftB (50 ≤ q7 ∧ q7 ≤ 400) : Int32) = ftB (ftRt (nI j) i q7 len); rw [ftRt, if_pos c1_0]), ht⟩) (fun _ h9 => absurd h9 List.not_mem_nil) dX5_isInRange_37
  by_cases c1_1 : (nI j) = 1
  · refine lv_tableIn (off := 37) (tgt := 38) hx hb dX5_isInRange_1 (by rw [c1_1]; decide) (by rw [c1_1]; decide) (by rw [c1_1]; decide) (by decide) ?_
    refine lv_iload_n hx hb dX5_isInRange_38 rfl (lv_at hl 3 rfl) ?_
    refine lv_iconst (v := 0) hx hb dX5_isInRange_39 (by decide) ?_
    refine lv_bipush (v := 50) hx hb dX5_isInRange_40 (by decide) ?_
    refine ft_csi (r := ftB (0 ≤ q7 ∧ q7 ≤ 50)) (va_runSN (As := [.int q7, .int 0, .int 50]) (rest := []) ⟨hx, hb, hml, hown, hts⟩ (c_X10_isWithin l D cI cS q7 0 50) ⟨va_cnB 3 hts gX5_isInRange_X10_isWithin_n115 rfl rfl rfl (hKK.2 _ (List.mem_of_getElem? (i := 9) rfl)) (hts (.initialized RX10) (by decide +kernel)) (by decide +kernel) ⟨Nat.le_of_ble_eq_true rfl, Nat.le_of_ble_eq_true rfl⟩, hts (.static yX10_isWithin) (by decide +kernel), trivial⟩ (ft_preRO hP hKK [] rfl) rfl rfl hl.1 rfl (lv_room (Nat.le_of_ble_eq_true rfl)) dX5_isInRange_42 ⟨Nat.le_of_ble_eq_true rfl, Nat.le_of_ble_eq_true rfl⟩) ?_
    exact W.zret (v := ftB (0 ≤ q7 ∧ q7 ≤ 50)) hx hb hr (by first | rfl | exact ftB_nar) (fun t ht hW => ⟨ftB (0 ≤ q7 ∧ q7 ≤ 50), rfl, (by show (ftB (0 ≤ q7 ∧ q7 ≤ 50) : Int32) = ftB (ftRt (nI j) i q7 len); rw [ftRt, if_neg c1_0, if_pos c1_1]), ht⟩) (fun _ h9 => absurd h9 List.not_mem_nil) dX5_isInRange_45
  by_cases c1_2 : (nI j) = 2
  · refine lv_tableIn (off := 45) (tgt := 46) hx hb dX5_isInRange_1 (by rw [c1_2]; decide) (by rw [c1_2]; decide) (by rw [c1_2]; decide) (by decide) ?_
    refine lv_iload_n hx hb dX5_isInRange_46 rfl (lv_at hl 3 rfl) ?_
    refine lv_iconst (v := 0) hx hb dX5_isInRange_47 (by decide) ?_
    refine lv_sipush (v := 20000) hx hb dX5_isInRange_48 (by decide) ?_
    refine ft_csi (r := ftB (0 ≤ q7 ∧ q7 ≤ 20000)) (va_runSN (As := [.int q7, .int 0, .int 20000]) (rest := []) ⟨hx, hb, hml, hown, hts⟩ (c_X10_isWithin l D cI cS q7 0 20000) ⟨va_cnB 3 hts gX5_isInRange_X10_isWithin_n115 rfl rfl rfl (hKK.2 _ (List.mem_of_getElem? (i := 9) rfl)) (hts (.initialized RX10) (by decide +kernel)) (by decide +kernel) ⟨Nat.le_of_ble_eq_true rfl, Nat.le_of_ble_eq_true rfl⟩, hts (.static yX10_isWithin) (by decide +kernel), trivial⟩ (ft_preRO hP hKK [] rfl) rfl rfl hl.1 rfl (lv_room (Nat.le_of_ble_eq_true rfl)) dX5_isInRange_51 ⟨Nat.le_of_ble_eq_true rfl, Nat.le_of_ble_eq_true rfl⟩) ?_
    exact W.zret (v := ftB (0 ≤ q7 ∧ q7 ≤ 20000)) hx hb hr (by first | rfl | exact ftB_nar) (fun t ht hW => ⟨ftB (0 ≤ q7 ∧ q7 ≤ 20000), rfl, (by show (ftB (0 ≤ q7 ∧ q7 ≤ 20000) : Int32) = ftB (ftRt (nI j) i q7 len); rw [ftRt, if_neg c1_0, if_neg c1_1, if_pos c1_2]), ht⟩) (fun _ h9 => absurd h9 List.not_mem_nil) dX5_isInRange_54
  have c1_0i := lv_neT (a := 0) c1_0 (by decide)
  have c1_1i := lv_neT (a := 1) c1_1 (by decide)
  have c1_2i := lv_neT (a := 2) c1_2 (by decide)
  refine lv_tableOut (tgt := 55) hx hb dX5_isInRange_1 (by omega) (by decide) ?_
  have hj3 : 3 ≤ j := by
    have q0 : j ≠ 0 := fun q => c1_0 (by rw [q]; rfl)
    have q1 : j ≠ 1 := fun q => c1_1 (by rw [q]; rfl)
    have q2 : j ≠ 2 := fun q => c1_2 (by rw [q]; rfl)
    omega
  refine lv_iload_n hx hb dX5_isInRange_55 rfl (lv_at hl 1 rfl) ?_
  refine lv_iconst (v := 3) hx hb dX5_isInRange_56 (by decide) ?_
  refine lv_isub hx hb dX5_isInRange_57 ?_
  refine lv_istore (lv' := [(4, .int ((nI j) - 3)), (0, .ref a0), (1, .int (nI j)), (2, .int (nI i)), (3, .int q7)]) hx hb dX5_isInRange_58 hl (by decide) rfl (fun ls hl => ?_)
  refine lv_iload_n hx hb dX5_isInRange_60 rfl (lv_at hl 3 rfl) ?_
  by_cases c61_0 : (nI i) = 0
  · refine lv_lookup (off := 27) (tgt := 88) hx hb dX5_isInRange_61 (by decide) (by rw [c61_0]; decide) (by decide) ?_
    have hi9 : i = 0 := ft_eqN (by omega) (by omega) c61_0
    refine lv_aload_n hx hb dX5_isInRange_88 rfl (lv_at hl 1 rfl) ?_
    refine va_get (D := D) (ci := 5) (v := .ref b0) (C := RX5) (T := TX5) (N := 9) hx hb hts (by decide +kernel) hown hK hP 0 rfl rfl 3 (by decide) (hts (.fieldLink RX5 24 "FiberTrace$LinkText" "link" "LFiberTrace$Link;") (by decide +kernel)) (fun _ h9 => h9) rfl dX5_isInRange_89 ?_
    refine lv_iload_n hx hb dX5_isInRange_92 rfl (lv_at hl 4 rfl) ?_
    refine ft_csi (r := ftB (1 ≤ q7 ∧ q7 ≤ len - 1)) (va_runV (C := RX4) (As := [.int q7]) (rest := []) ⟨hx, hb, hml, hown, hts⟩ (c_X4_placeFits l D cI cS b0 len att en n bk bp bl br q7) (cwV 1 hts gX5_isInRange_X4_placeFits rfl rfl rfl (by decide +kernel) ⟨Nat.le_of_ble_eq_true rfl, Nat.le_of_ble_eq_true rfl⟩) (ft_preROV (ci := 4) (q0 := 1) hP hKK [1] rfl rfl rfl) rfl rfl hl.1 rfl (lv_room (Nat.le_of_ble_eq_true rfl)) dX5_isInRange_93 ⟨Nat.le_of_ble_eq_true rfl, Nat.le_of_ble_eq_true rfl⟩) ?_
    exact W.zret (v := ftB (1 ≤ q7 ∧ q7 ≤ len - 1)) hx hb hr (by first | rfl | exact ftB_nar) (fun t ht hW => ⟨ftB (1 ≤ q7 ∧ q7 ≤ len - 1), rfl, (by show (ftB (1 ≤ q7 ∧ q7 ≤ len - 1) : Int32) = ftB (ftRt (nI j) i q7 len); rw [ftRt, if_neg c1_0, if_neg c1_1, if_neg c1_2, if_pos hi9]), ht⟩) (fun _ h9 => absurd h9 List.not_mem_nil) dX5_isInRange_96
  by_cases c61_1 : (nI i) = 1
  · refine lv_lookup (off := 36) (tgt := 97) hx hb dX5_isInRange_61 (by decide) (by rw [c61_1]; decide) (by decide) ?_
    have hi9 : i = 1 := ft_eqN (by omega) (by omega) c61_1
    refine lv_iload hx hb dX5_isInRange_97 (lv_at hl 0 rfl) ?_
    refine lv_iload_n hx hb dX5_isInRange_99 rfl (lv_at hl 4 rfl) ?_
    refine ft_csi (r := ftB (ftLossFits ((nI j) - 3) q7)) (va_runS (As := [.int ((nI j) - 3), .int q7]) (rest := []) ⟨hx, hb, hml, hown, hts⟩ (c_X4_lossFits l D cI cS ((nI j) - 3) q7) (va_cwS 2 hts gX5_isInRange_X4_lossFits rfl rfl rfl (by decide +kernel) ⟨Nat.le_of_ble_eq_true rfl, Nat.le_of_ble_eq_true rfl⟩) (ft_preRO hP hKK [] rfl) rfl rfl hl.1 rfl (lv_room (Nat.le_of_ble_eq_true rfl)) dX5_isInRange_100 ⟨Nat.le_of_ble_eq_true rfl, Nat.le_of_ble_eq_true rfl⟩) ?_
    exact W.zret (v := ftB (ftLossFits ((nI j) - 3) q7)) hx hb hr (by first | rfl | exact ftB_nar) (fun t ht hW => ⟨ftB (ftLossFits ((nI j) - 3) q7), rfl, (by show (ftB (ftLossFits ((nI j) - 3) q7) : Int32) = ftB (ftRt (nI j) i q7 len); rw [hi9]; exact ftB_congr (ftLoss_j len j hj3 hj q7)), ht⟩) (fun _ h9 => absurd h9 List.not_mem_nil) dX5_isInRange_103
  have c61_0i := lv_neT (a := 0) c61_0 (by decide)
  have c61_1i := lv_neT (a := 1) c61_1 (by decide)
  refine lv_lookup (off := 43) (tgt := 104) hx hb dX5_isInRange_61 (by decide) (by simp [Op.lookupswitch.offset, c61_0i, Ne.symm c61_0i, c61_1i, Ne.symm c61_1i]) (by decide) ?_
  have hi9 : i = 2 := by
    have q0 : i ≠ 0 := fun q => c61_0 (by rw [q]; rfl)
    have q1 : i ≠ 1 := fun q => c61_1 (by rw [q]; rfl)
    omega
  have hj4 := hi2 hi9
  refine lv_iload hx hb dX5_isInRange_104 (lv_at hl 0 rfl) ?_
  refine lv_iload_n hx hb dX5_isInRange_106 rfl (lv_at hl 4 rfl) ?_
  refine ft_csi (r := ftB (ftReflFits ((nI j) - 3) q7)) (va_runS (As := [.int ((nI j) - 3), .int q7]) (rest := []) ⟨hx, hb, hml, hown, hts⟩ (c_X4_reflectionFits l D cI cS ((nI j) - 3) q7) (va_cwS 2 hts gX5_isInRange_X4_reflectionFits rfl rfl rfl (by decide +kernel) ⟨Nat.le_of_ble_eq_true rfl, Nat.le_of_ble_eq_true rfl⟩) (ft_preRO hP hKK [] rfl) rfl rfl hl.1 rfl (lv_room (Nat.le_of_ble_eq_true rfl)) dX5_isInRange_107 ⟨Nat.le_of_ble_eq_true rfl, Nat.le_of_ble_eq_true rfl⟩) ?_
  exact W.zret (v := ftB (ftReflFits ((nI j) - 3) q7)) hx hb hr (by first | rfl | exact ftB_nar) (fun t ht hW => ⟨ftB (ftReflFits ((nI j) - 3) q7), rfl, (by show (ftB (ftReflFits ((nI j) - 3) q7) : Int32) = ftB (ftRt (nI j) i q7 len); rw [hi9, hj4]; exact ftB_congr (ftRefl_j len q7)), ht⟩) (fun _ h9 => absurd h9 List.not_mem_nil) dX5_isInRange_110
set_option maxHeartbeats 4000000 in
set_option maxRecDepth 100000 in
theorem c_X5_firstOutside (l : Launch) (D : va_G) (cI cS : ClassId) (a0 ag am ad b0 : Nat) (tn : Nat) (v1 v2 v3 : Int32) (v4 : Int32) (len att en : Int32) (n bk bp bl br : Nat) (nf : Nat → Int32) (j wn : Nat) (hj : j < 6) (hwn : wn ≤ 3) (hw3 : 2 < wn → j = 4) : Met l yX5_firstOutside wsX5_firstOutside ({ frames := 3, cells := 0, slots := 0, locals := 67 }) (ftRO D cI cS [.ref a0, .int (nI j), .int (nI wn)] [(a0, .inr (5, [.ref ag, .ref am, .ref ad, .ref b0, .int (nI tn), .int v1, .int v2, .int v3, .int v4])), (am, .inl (cI, 3, .inl nf)), (b0, .inr (4, [.int len, .int att, .int en, .int (nI n), .ref bk, .ref bp, .ref bl, .ref br]))]) (vp_Si (fun o9 => o9 = ftFst (fun i => ¬ ftRt (nI j) i (nf i) len) wn)) 0 0 (fun _ => False) := by
  refine Met.ofW (cc := cX5_firstOutside) (maxL := 4) (ret := (some .int)) (by decide) rfl ?_
  intro p e s m args below meth c s₁ B hml hv
  obtain ⟨rfl, hP, hKK⟩ := hv
  have hK := hKK.1
  have hx := B.exec
  have hb := B.bytes
  have hr := B.returns
  have hts := atoms_spec (ws := wsX5_firstOutside) B.pre
  have hown : s.vm.findClass RX5 = some m.cls := findClass_of_methodNamed B.named
  have hlocks := B.notSynchronized
  have hP : va_P D vwCl [(a0, .inr (5, [.ref ag, .ref am, .ref ad, .ref b0, .int (nI tn), .int v1, .int v2, .int v3, .int v4])), (am, .inl (cI, 3, .inl nf)), (b0, .inr (4, [.int len, .int att, .int en, .int (nI n), .ref bk, .ref bp, .ref bl, .ref br]))] s.heap := hP
  have hl := lv_entry ([.ref a0, .int (nI j), .int (nI wn)]) (n := 4) (Nat.le_of_ble_eq_true rfl)
  rw [lg_entry_eq]
  generalize (lg_sl ([.ref a0, .int (nI j), .int (nI wn)]) ++ List.replicate (4 - (lg_sl ([.ref a0, .int (nI j), .int (nI wn)])).length) Slot.unset).toArray = ls at hl ⊢
  have hl : lv_has ls 4 [(0, .ref a0), (1, .int (nI j)), (2, .int (nI wn))] := hl
  refine lv_iconst (v := 0) hx hb dX5_firstOutside_0 (by decide) ?_
  refine lv_istore_n (lv' := [(3, .int 0), (0, .ref a0), (1, .int (nI j)), (2, .int (nI wn))]) hx hb dX5_firstOutside_1 rfl hl (by decide) rfl (fun ls hl => ?_)
  have lp2 : ∀ (n2 : Nat) (i : Nat) (x2_3 : Int32), wn - i < n2 → (i ≤ wn) → (∀ t, t < i → ¬ ¬ ftRt (nI j) t (nf t) len) → x2_3 = nI i → ∀ ls : Array Slot, lv_has ls 4 [(0, .ref a0), (1, .int (nI j)), (2, .int (nI wn)), (3, .int x2_3)] → W p l e (headSpec wsX5_firstOutside { frames := 3, cells := 0, slots := 0, locals := 67 }).room s m ([.ref a0, .int (nI j), .int (nI wn)] : List Value).toArray below meth c s.heap [] 0 0 (MQ below (vp_Si (fun o9 => o9 = ftFst (fun i => ¬ ftRt (nI j) i (nf i) len) wn)) ([.ref a0, .int (nI j), .int (nI wn)] : List Value).toArray s 0 0 (fun _ => False)) (F0 m 2 ls []) := by
    intro n2
    induction n2 with
    | zero =>
      intro i x2_3  hm2
      exact absurd hm2 (Nat.not_lt_zero _)
    | succ n2 ih2 =>
      intro i x2_3  hm2 hin hok ex2_3  ls hl
      subst ex2_3
      refine lv_iload_n hx hb dX5_firstOutside_2 rfl (lv_at hl 3 rfl) ?_
      refine lv_iload_n hx hb dX5_firstOutside_3 rfl (lv_at hl 2 rfl) ?_
      refine lv_icmp_ge (tgt := 32) hx hb dX5_firstOutside_4 (by decide) (fun c4 => ?_) (fun c4 => ?_)
      · have c4n : wn ≤ i := ft_leN (by omega) (by omega) c4
        refine lv_iconst (v := (-1)) hx hb dX5_firstOutside_32 (by decide) ?_
        exact W.iret (v := (-1)) hx hb hr (fun t ht hW => ⟨(-1), rfl, (by show ((-1) : Int32) = ftFst (fun i => ¬ ftRt (nI j) i (nf i) len) wn; (obtain rfl : i = wn := by omega); exact (ftFst_none hok).symm), ht⟩) (fun _ h9 => absurd h9 List.not_mem_nil) dX5_firstOutside_33
      · have c4n : i < wn := ft_nleN (by omega) (by omega) c4
        refine lv_aload_n hx hb dX5_firstOutside_7 rfl (lv_at hl 0 rfl) ?_
        refine lv_iload_n hx hb dX5_firstOutside_8 rfl (lv_at hl 1 rfl) ?_
        refine lv_iload_n hx hb dX5_firstOutside_9 rfl (lv_at hl 3 rfl) ?_
        refine lv_aload_n hx hb dX5_firstOutside_10 rfl (lv_at hl 0 rfl) ?_
        refine va_get (D := D) (ci := 5) (v := .ref am) (C := RX5) (T := TX5) (N := 9) hx hb hts (by decide +kernel) hown hK hP 0 rfl rfl 1 (by decide) (hts (.fieldLink RX5 15 "FiberTrace$LinkText" "numbers" "[I") (by decide +kernel)) (fun _ h9 => h9) rfl dX5_firstOutside_11 ?_
        refine lv_iload_n hx hb dX5_firstOutside_14 rfl (lv_at hl 3 rfl) ?_
        refine ft_csi (r := ftAt 3 nf (nI i)) (va_runSN (As := [.ref am, .int (nI i)]) (rest := [.int (nI i), .int (nI j), .ref a0]) ⟨hx, hb, hml, hown, hts⟩ (c_X10_at l D cI cS am 3 nf (nI i) (by first | assumption | omega)) ⟨va_cnB 2 hts gX5_firstOutside_X10_at_n93 rfl rfl rfl (hKK.2 _ (List.mem_of_getElem? (i := 8) rfl)) (hts (.initialized RX10) (by decide +kernel)) (by decide +kernel) ⟨Nat.le_of_ble_eq_true rfl, Nat.le_of_ble_eq_true rfl⟩, hts (.static yX10_at) (by decide +kernel), trivial⟩ (ft_preRO hP hKK [1] rfl) rfl rfl hl.1 rfl (lv_room (Nat.le_of_ble_eq_true rfl)) dX5_firstOutside_15 ⟨Nat.le_of_ble_eq_true rfl, Nat.le_of_ble_eq_true rfl⟩) ?_
        refine ft_top (y := nf i) (ftAt_N (by omega) (by omega)) ?_
        refine ft_csi (r := ftB (ftRt (nI j) i (nf i) len)) (va_runV (C := RX5) (As := [.int (nI j), .int (nI i), .int (nf i)]) (rest := []) ⟨hx, hb, hml, hown, hts⟩ (c_X5_isInRange l D cI cS a0 ag am ad b0 tn v1 v2 v3 v4 len att en n bk bp bl br j i (nf i) hj (by omega) (by omega)) (cwV 3 hts gX5_firstOutside_X5_isInRange rfl rfl rfl (by decide +kernel) ⟨Nat.le_of_ble_eq_true rfl, Nat.le_of_ble_eq_true rfl⟩) (ft_preROV (ci := 5) (q0 := 0) hP hKK [0, 2] rfl rfl rfl) rfl rfl hl.1 rfl (lv_room (Nat.le_of_ble_eq_true rfl)) dX5_firstOutside_18 ⟨Nat.le_of_ble_eq_true rfl, Nat.le_of_ble_eq_true rfl⟩) ?_
        refine lv_if_ne (tgt := 26) hx hb dX5_firstOutside_21 (by decide) (fun c21 => ?_) (fun c21 => ?_)
        · replace c21 := ftB_ne c21
          refine lv_iinc (v := nI (i + 1)) (lv' := [(3, .int (nI (i + 1))), (0, .ref a0), (1, .int (nI j)), (2, .int (nI wn))]) hx hb dX5_firstOutside_26 hl (k := 3) rfl (ft_inc i) (by decide) rfl (fun ls hl => ?_)
          refine lv_goto (tgt := 2) hx hb dX5_firstOutside_29 (by decide) ?_
          exact ih2 (i + 1) (nI (i + 1))  (by omega) (by omega) (by intro t ht; rcases Nat.lt_succ_iff_lt_or_eq.mp ht with q | q; exact hok t q; subst q; exact fun q9 => q9 c21) (by first | rfl | assumption)  ls (lv_sub hl [1, 2, 3, 0] rfl)
        · replace c21 := ftB_eq c21
          refine lv_iload_n hx hb dX5_firstOutside_24 rfl (lv_at hl 3 rfl) ?_
          exact W.iret (v := nI i) hx hb hr (fun t ht hW => ⟨nI i, rfl, (by show (nI i : Int32) = ftFst (fun i => ¬ ftRt (nI j) i (nf i) len) wn; exact (ftFst_some (P := fun i => ¬ ftRt (nI j) i (nf i) len) (by omega) c21 hok wn (by omega)).symm), ht⟩) (fun _ h9 => absurd h9 List.not_mem_nil) dX5_firstOutside_25
  exact lp2 _ 0 0  (Nat.lt_succ_self _) (by omega) (by intro t ht; exact absurd ht (Nat.not_lt_zero t)) (by rfl) ls (lv_sub hl [1, 2, 3, 0] rfl)
set_option maxHeartbeats 4000000 in
set_option maxRecDepth 100000 in
theorem c_X5_isAllowed (l : Launch) (D : va_G) (cI cS : ClassId) (a0 ag am ad b0 : Nat) (tn : Nat) (v1 v2 v3 : Int32) (v4 : Int32) (len att en : Int32) (n bk bp bl br : Nat) (kf pf lf rf : Nat → Int32) (nf td mm : Nat → Int32) (j h : Nat) (hj : j < 6) (hh : h < 64) (hLR : ftLR mm len att en n kf pf lf rf) (hTd : ftTd td h) : Met l yX5_isAllowed wsX5_isAllowed ({ frames := 2, cells := 0, slots := 0, locals := 43 }) (ftRO D cI cS [.ref a0, .int (nI j)] [(a0, .inr (5, [.ref ag, .ref am, .ref ad, .ref b0, .int (nI tn), .int v1, .int v2, .int v3, .int v4])), (am, .inl (cI, 3, .inl nf)), (ad, .inl (cI, 3, .inl td)), (b0, .inr (4, [.int len, .int att, .int en, .int (nI n), .ref bk, .ref bp, .ref bl, .ref br])), (bk, .inl (cI, 10, .inl kf)), (bp, .inl (cI, 10, .inl pf)), (bl, .inl (cI, 10, .inl lf)), (br, .inl (cI, 10, .inl rf))]) (vp_Si (fun o9 => o9 = ftB (ftAl (nI j) mm h (nf 0)))) 0 0 (fun _ => False) := by
  refine Met.ofW (cc := cX5_isAllowed) (maxL := 2) (ret := (some .boolean)) (by decide) rfl ?_
  intro p e s m args below meth c s₁ B hml hv
  obtain ⟨rfl, hP, hKK⟩ := hv
  have hK := hKK.1
  have hx := B.exec
  have hb := B.bytes
  have hr := B.returns
  have hts := atoms_spec (ws := wsX5_isAllowed) B.pre
  have hown : s.vm.findClass RX5 = some m.cls := findClass_of_methodNamed B.named
  have hlocks := B.notSynchronized
  have hP : va_P D vwCl [(a0, .inr (5, [.ref ag, .ref am, .ref ad, .ref b0, .int (nI tn), .int v1, .int v2, .int v3, .int v4])), (am, .inl (cI, 3, .inl nf)), (ad, .inl (cI, 3, .inl td)), (b0, .inr (4, [.int len, .int att, .int en, .int (nI n), .ref bk, .ref bp, .ref bl, .ref br])), (bk, .inl (cI, 10, .inl kf)), (bp, .inl (cI, 10, .inl pf)), (bl, .inl (cI, 10, .inl lf)), (br, .inl (cI, 10, .inl rf))] s.heap := hP
  have hl := lv_entry ([.ref a0, .int (nI j)]) (n := 2) (Nat.le_of_ble_eq_true rfl)
  rw [lg_entry_eq]
  generalize (lg_sl ([.ref a0, .int (nI j)]) ++ List.replicate (2 - (lg_sl ([.ref a0, .int (nI j)])).length) Slot.unset).toArray = ls at hl ⊢
  have hl : lv_has ls 2 [(0, .ref a0), (1, .int (nI j))] := hl
  have hn := hLR.2.2.2.2.1
  have hm3 := hLR.2.2.2.1
  have hcn : (mm 3).toNatClampNeg = n := ftLR_n hLR
  refine lv_iload_n hx hb dX5_isAllowed_0 rfl (lv_at hl 1 rfl) ?_
  refine lv_iconst (v := 3) hx hb dX5_isAllowed_1 (by decide) ?_
  refine lv_icmp_ge (tgt := 32) hx hb dX5_isAllowed_2 (by decide) (fun c2 => ?_) (fun c2 => ?_)
  · have c2n : 3 ≤ j := ft_leN (by omega) (by omega) c2
    have hl3 : ¬ nI j < 3 := Int32.not_lt.mpr c2
    refine lv_aload_n hx hb dX5_isAllowed_32 rfl (lv_at hl 0 rfl) ?_
    refine va_get (D := D) (ci := 5) (v := .ref b0) (C := RX5) (T := TX5) (N := 9) hx hb hts (by decide +kernel) hown hK hP 0 rfl rfl 3 (by decide) (hts (.fieldLink RX5 24 "FiberTrace$LinkText" "link" "LFiberTrace$Link;") (by decide +kernel)) (fun _ h9 => h9) rfl dX5_isAllowed_33 ?_
    refine lv_aload_n hx hb dX5_isAllowed_36 rfl (lv_at hl 0 rfl) ?_
    refine va_get (D := D) (ci := 5) (v := .ref am) (C := RX5) (T := TX5) (N := 9) hx hb hts (by decide +kernel) hown hK hP 0 rfl rfl 1 (by decide) (hts (.fieldLink RX5 15 "FiberTrace$LinkText" "numbers" "[I") (by decide +kernel)) (fun _ h9 => h9) rfl dX5_isAllowed_37 ?_
    refine lv_iconst (v := 0) hx hb dX5_isAllowed_40 (by decide) ?_
    refine ft_csi (r := ftAt 3 nf 0) (va_runSN (As := [.ref am, .int 0]) (rest := [.ref b0]) ⟨hx, hb, hml, hown, hts⟩ (c_X10_at l D cI cS am 3 nf 0 (by first | assumption | omega)) ⟨va_cnB 2 hts gX5_isAllowed_X10_at_n93 rfl rfl rfl (hKK.2 _ (List.mem_of_getElem? (i := 8) rfl)) (hts (.initialized RX10) (by decide +kernel)) (by decide +kernel) ⟨Nat.le_of_ble_eq_true rfl, Nat.le_of_ble_eq_true rfl⟩, hts (.static yX10_at) (by decide +kernel), trivial⟩ (ft_preRO hP hKK [1] rfl) rfl rfl hl.1 rfl (lv_room (Nat.le_of_ble_eq_true rfl)) dX5_isAllowed_41 ⟨Nat.le_of_ble_eq_true rfl, Nat.le_of_ble_eq_true rfl⟩) ?_
    refine ft_top (y := nf 0) (ftAt_N (k := 0) (by omega) (by omega)) ?_
    refine ft_csi (r := ftB (∃ i, i < n ∧ pf i = (nf 0))) (va_runV (C := RX4) (As := [.int (nf 0)]) (rest := []) ⟨hx, hb, hml, hown, hts⟩ (c_X4_hasPartAt l D cI cS b0 len att en n bk bp bl br pf (nf 0) (by first | assumption | omega)) (cwV 1 hts gX5_isAllowed_X4_hasPartAt rfl rfl rfl (by decide +kernel) ⟨Nat.le_of_ble_eq_true rfl, Nat.le_of_ble_eq_true rfl⟩) (ft_preROV (ci := 4) (q0 := 3) hP hKK [3, 5] rfl rfl rfl) rfl rfl hl.1 rfl (lv_room (Nat.le_of_ble_eq_true rfl)) dX5_isAllowed_44 ⟨Nat.le_of_ble_eq_true rfl, Nat.le_of_ble_eq_true rfl⟩) ?_
    refine lv_if_ne (tgt := 66) hx hb dX5_isAllowed_47 (by decide) (fun c47 => ?_) (fun c47 => ?_)
    · replace c47 := ftB_ne c47
      have hv9 : ftB (ftAl (nI j) mm h (nf 0)) = 0 := ftB_f (fun q => by
        obtain ⟨t9, ht9, hte⟩ := c47
        exact (q.2 hl3).1 ⟨t9, by rw [hcn]; exact ht9, by rw [(hLR.2.2.2.2.2 t9 ht9).2.1]; exact hte⟩)
      refine lv_iconst (v := 0) hx hb dX5_isAllowed_66 (by decide) ?_
      exact W.zret (v := 0) hx hb hr (by rfl) (fun t ht hW => ⟨0, rfl, (by show (0 : Int32) = ftB (ftAl (nI j) mm h (nf 0)); exact hv9.symm), ht⟩) (fun _ h9 => absurd h9 List.not_mem_nil) dX5_isAllowed_67
    · replace c47 := ftB_eq c47
      refine lv_aload_n hx hb dX5_isAllowed_50 rfl (lv_at hl 0 rfl) ?_
      refine va_get (D := D) (ci := 5) (v := .ref b0) (C := RX5) (T := TX5) (N := 9) hx hb hts (by decide +kernel) hown hK hP 0 rfl rfl 3 (by decide) (hts (.fieldLink RX5 24 "FiberTrace$LinkText" "link" "LFiberTrace$Link;") (by decide +kernel)) (fun _ h9 => h9) rfl dX5_isAllowed_51 ?_
      refine va_get (D := D) (ci := 4) (v := .int (nI n)) (C := RX4) (T := TX4) (N := 8) hx hb hts (by decide +kernel) hown hK hP 3 rfl rfl 3 (by decide) (hts (.fieldLink RX5 139 "FiberTrace$Link" "size" "I") (by decide +kernel)) (fun _ h9 => h9) rfl dX5_isAllowed_54 ?_
      refine lv_bipush (v := 10) hx hb dX5_isAllowed_57 (by decide) ?_
      refine lv_icmp_ge (tgt := 66) hx hb dX5_isAllowed_59 (by decide) (fun c59 => ?_) (fun c59 => ?_)
      · have c59n : 10 ≤ n := ft_leN (by omega) (by omega) c59
        have hv9 : ftB (ftAl (nI j) mm h (nf 0)) = 0 := ftB_f (fun q => (q.2 hl3).2 (by rw [hm3, show n = 10 by omega]; rfl))
        refine lv_iconst (v := 0) hx hb dX5_isAllowed_66 (by decide) ?_
        exact W.zret (v := 0) hx hb hr (by rfl) (fun t ht hW => ⟨0, rfl, (by show (0 : Int32) = ftB (ftAl (nI j) mm h (nf 0)); exact hv9.symm), ht⟩) (fun _ h9 => absurd h9 List.not_mem_nil) dX5_isAllowed_67
      · have c59n : n < 10 := ft_nleN (by omega) (by omega) c59
        have hv9 : ftB (ftAl (nI j) mm h (nf 0)) = 1 := ftB_t ⟨fun q => absurd q hl3, fun _ => ⟨fun ⟨t9, ht9, hte⟩ => c47 ⟨t9, by rw [← hcn]; exact ht9, by rw [← (hLR.2.2.2.2.2 t9 (by rw [← hcn]; exact ht9)).2.1]; exact hte⟩, by rw [hm3]; exact fun q => by have := ft_eqN (b := 10) (by omega) (by omega) q; omega⟩⟩
        refine lv_iconst (v := 1) hx hb dX5_isAllowed_62 (by decide) ?_
        refine lv_goto (tgt := 67) hx hb dX5_isAllowed_63 (by decide) ?_
        exact W.zret (v := 1) hx hb hr (by rfl) (fun t ht hW => ⟨1, rfl, (by show (1 : Int32) = ftB (ftAl (nI j) mm h (nf 0)); exact hv9.symm), ht⟩) (fun _ h9 => absurd h9 List.not_mem_nil) dX5_isAllowed_67
  · have c2n : j < 3 := ft_nleN (by omega) (by omega) c2
    have hl3 : nI j < 3 := Int32.not_le.mp c2
    have hj3 := (ft_lt3 hj).mp hl3
    have htd := hTd j hj3
    refine lv_aload_n hx hb dX5_isAllowed_5 rfl (lv_at hl 0 rfl) ?_
    refine va_get (D := D) (ci := 5) (v := .ref ad) (C := RX5) (T := TX5) (N := 9) hx hb hts (by decide +kernel) hown hK hP 0 rfl rfl 2 (by decide) (hts (.fieldLink RX5 18 "FiberTrace$LinkText" "told" "[I") (by decide +kernel)) (fun _ h9 => h9) rfl dX5_isAllowed_6 ?_
    refine lv_iload_n hx hb dX5_isAllowed_9 rfl (lv_at hl 1 rfl) ?_
    refine ft_csi (r := ftAt 3 td (nI j)) (va_runSN (As := [.ref ad, .int (nI j)]) (rest := []) ⟨hx, hb, hml, hown, hts⟩ (c_X10_at l D cI cS ad 3 td (nI j) (by first | assumption | omega)) ⟨va_cnB 2 hts gX5_isAllowed_X10_at_n93 rfl rfl rfl (hKK.2 _ (List.mem_of_getElem? (i := 8) rfl)) (hts (.initialized RX10) (by decide +kernel)) (by decide +kernel) ⟨Nat.le_of_ble_eq_true rfl, Nat.le_of_ble_eq_true rfl⟩, hts (.static yX10_at) (by decide +kernel), trivial⟩ (ft_preRO hP hKK [2] rfl) rfl rfl hl.1 rfl (lv_room (Nat.le_of_ble_eq_true rfl)) dX5_isAllowed_10 ⟨Nat.le_of_ble_eq_true rfl, Nat.le_of_ble_eq_true rfl⟩) ?_
    refine ft_top (y := td j) (ftAt_N (by omega) (by omega)) ?_
    refine lv_if_ne (tgt := 30) hx hb dX5_isAllowed_13 (by decide) (fun c13 => ?_) (fun c13 => ?_)
    · have hv9 : ftB (ftAl (nI j) mm h (nf 0)) = 0 := ftB_f (fun q => by
        have q1 := (q.1 hl3).1
        rw [nI_clamp (by omega)] at q1
        rw [htd] at c13
        exact c13 (by rw [show h / 2 ^ j % 2 = 0 by omega]; rfl))
      refine lv_iconst (v := 0) hx hb dX5_isAllowed_30 (by decide) ?_
      exact W.zret (v := 0) hx hb hr (by rfl) (fun t ht hW => ⟨0, rfl, (by show (0 : Int32) = ftB (ftAl (nI j) mm h (nf 0)); exact hv9.symm), ht⟩) (fun _ h9 => absurd h9 List.not_mem_nil) dX5_isAllowed_31
    · rw [htd] at c13
      have hb0 := ft_eq0N (Nat.lt_of_lt_of_le (Nat.mod_lt _ (by omega)) (by omega)) c13
      refine lv_aload_n hx hb dX5_isAllowed_16 rfl (lv_at hl 0 rfl) ?_
      refine va_get (D := D) (ci := 5) (v := .ref b0) (C := RX5) (T := TX5) (N := 9) hx hb hts (by decide +kernel) hown hK hP 0 rfl rfl 3 (by decide) (hts (.fieldLink RX5 24 "FiberTrace$LinkText" "link" "LFiberTrace$Link;") (by decide +kernel)) (fun _ h9 => h9) rfl dX5_isAllowed_17 ?_
      refine va_get (D := D) (ci := 4) (v := .int (nI n)) (C := RX4) (T := TX4) (N := 8) hx hb hts (by decide +kernel) hown hK hP 3 rfl rfl 3 (by decide) (hts (.fieldLink RX5 139 "FiberTrace$Link" "size" "I") (by decide +kernel)) (fun _ h9 => h9) rfl dX5_isAllowed_20 ?_
      refine lv_if_ne (tgt := 30) hx hb dX5_isAllowed_23 (by decide) (fun c23 => ?_) (fun c23 => ?_)
      · have c23n : n ≠ 0 := ft_neN (by omega) (by omega) c23
        have hv9 : ftB (ftAl (nI j) mm h (nf 0)) = 0 := ftB_f (fun q => by
          have q2 := (q.1 hl3).2
          rw [hm3] at q2
          exact absurd q2 (nI_nle (ft_ne0N c23) (by omega)))
        refine lv_iconst (v := 0) hx hb dX5_isAllowed_30 (by decide) ?_
        exact W.zret (v := 0) hx hb hr (by rfl) (fun t ht hW => ⟨0, rfl, (by show (0 : Int32) = ftB (ftAl (nI j) mm h (nf 0)); exact hv9.symm), ht⟩) (fun _ h9 => absurd h9 List.not_mem_nil) dX5_isAllowed_31
      · have c23n : n = 0 := ft_eqN (by omega) (by omega) c23
        have hv9 : ftB (ftAl (nI j) mm h (nf 0)) = 1 := ftB_t ⟨fun _ => ⟨by rw [nI_clamp (by omega)]; omega, by rw [hm3, c23]; decide⟩, fun q => absurd hl3 q⟩
        refine lv_iconst (v := 1) hx hb dX5_isAllowed_26 (by decide) ?_
        refine lv_goto (tgt := 31) hx hb dX5_isAllowed_27 (by decide) ?_
        exact W.zret (v := 1) hx hb hr (by rfl) (fun t ht hW => ⟨1, rfl, (by show (1 : Int32) = ftB (ftAl (nI j) mm h (nf 0)); exact hv9.symm), ht⟩) (fun _ h9 => absurd h9 List.not_mem_nil) dX5_isAllowed_31
set_option maxHeartbeats 4000000 in
set_option maxRecDepth 100000 in
theorem c_X5_blame (l : Launch) (D : va_G) (cI cS : ClassId) (sz : Nat) (a0 ag am ad b0 : Nat) (tn : Nat) (v1 v2 v3 : Int32) (v4 : Int32) (x y zz : Int32)  : Met l yX5_blame wsX5_blame ({ frames := 0, cells := 0, slots := 0, locals := 0 }) (ftRW D cI cS [.ref a0, .int x, .int y, .int zz] [(a0, .inr (5, [.ref ag, .ref am, .ref ad, .ref b0, .int (nI tn), .int v1, .int v2, .int v3, .int v4]))] sz) (ftQv D [(a0, .inr (5, [.ref ag, .ref am, .ref ad, .ref b0, .int (nI tn), .int v1, .int v2, .int v3, .int v4]))] [(a0, .inr (5, [.ref ag, .ref am, .ref ad, .ref b0, .int (nI tn), .int y, .int x, .int zz, .int v4]))] sz) 0 0 (va_A [(a0, .inr (5, [.ref ag, .ref am, .ref ad, .ref b0, .int (nI tn), .int v1, .int v2, .int v3, .int v4]))] sz) := by
  refine Met.ofW (cc := cX5_blame) (maxL := 4) (ret := none) (by decide) rfl ?_
  intro p e s m args below meth c s₁ B hml hv
  obtain ⟨rfl, hsz, hP, hKK, hD0⟩ := hv
  have hK := hKK.1
  have hx := B.exec
  have hb := B.bytes
  have hr := B.returns
  have hts := atoms_spec (ws := wsX5_blame) B.pre
  have hown : s.vm.findClass RX5 = some m.cls := findClass_of_methodNamed B.named
  have hlocks := B.notSynchronized
  subst hsz
  have hD := hD0.self (sz := s.heap.size)
  generalize hAe : va_A [(a0, .inr (5, [.ref ag, .ref am, .ref ad, .ref b0, .int (nI tn), .int v1, .int v2, .int v3, .int v4]))] s.heap.size = A at hD ⊢
  have hA : ∀ q : Nat, s.heap.size ≤ q → A q := fun q h => by rw [← hAe]; exact Or.inr h
  have hS : va_S A s.heap s.heap [] := va_S.rf
  have hD : va_D A [(a0, .inr (5, [.ref ag, .ref am, .ref ad, .ref b0, .int (nI tn), .int v1, .int v2, .int v3, .int v4]))] := hD
  have hP : va_P D vwCl [(a0, .inr (5, [.ref ag, .ref am, .ref ad, .ref b0, .int (nI tn), .int v1, .int v2, .int v3, .int v4]))] s.heap := hP
  have hl := lv_entry ([.ref a0, .int x, .int y, .int zz]) (n := 4) (Nat.le_of_ble_eq_true rfl)
  rw [lg_entry_eq]
  generalize (lg_sl ([.ref a0, .int x, .int y, .int zz]) ++ List.replicate (4 - (lg_sl ([.ref a0, .int x, .int y, .int zz])).length) Slot.unset).toArray = ls at hl ⊢
  have hl : lv_has ls 4 [(0, .ref a0), (1, .int x), (2, .int y), (3, .int zz)] := hl
  refine lv_aload_n hx hb dX5_blame_0 rfl (lv_at hl 0 rfl) ?_
  refine lv_iload_n hx hb dX5_blame_1 rfl (lv_at hl 1 rfl) ?_
  refine va_put (D := D) (ci := 5) (v := .int x) (ty := .int) (C := RX5) (T := TX5) (N := 9) hx hb hts (by decide +kernel) tyX5 tyX5_ok nmX5 hown hK hP hD hS 0 rfl rfl 6 (by decide) (hts (.fieldLink RX5 87 "FiberTrace$LinkText" "faultPlace" "I") (by decide +kernel)) (fun _ h9 => h9) rfl (by decide +kernel) rfl rfl (Nat.le_of_ble_eq_true rfl) dX5_blame_2 (fun H locs hP hD hS => ?_)
  have hP : va_P D vwCl [(a0, .inr (5, [.ref ag, .ref am, .ref ad, .ref b0, .int (nI tn), .int v1, .int x, .int v3, .int v4]))] H := hP
  have hD : va_D A [(a0, .inr (5, [.ref ag, .ref am, .ref ad, .ref b0, .int (nI tn), .int v1, .int x, .int v3, .int v4]))] := hD
  refine lv_aload_n hx hb dX5_blame_5 rfl (lv_at hl 0 rfl) ?_
  refine lv_iload_n hx hb dX5_blame_6 rfl (lv_at hl 2 rfl) ?_
  refine va_put (D := D) (ci := 5) (v := .int y) (ty := .int) (C := RX5) (T := TX5) (N := 9) hx hb hts (by decide +kernel) tyX5 tyX5_ok nmX5 hown hK hP hD hS 0 rfl rfl 5 (by decide) (hts (.fieldLink RX5 39 "FiberTrace$LinkText" "reason" "I") (by decide +kernel)) (fun _ h9 => h9) rfl (by decide +kernel) rfl rfl (Nat.le_of_ble_eq_true rfl) dX5_blame_7 (fun H locs hP hD hS => ?_)
  have hP : va_P D vwCl [(a0, .inr (5, [.ref ag, .ref am, .ref ad, .ref b0, .int (nI tn), .int y, .int x, .int v3, .int v4]))] H := hP
  have hD : va_D A [(a0, .inr (5, [.ref ag, .ref am, .ref ad, .ref b0, .int (nI tn), .int y, .int x, .int v3, .int v4]))] := hD
  refine lv_aload_n hx hb dX5_blame_10 rfl (lv_at hl 0 rfl) ?_
  refine lv_iload_n hx hb dX5_blame_11 rfl (lv_at hl 3 rfl) ?_
  refine va_put (D := D) (ci := 5) (v := .int zz) (ty := .int) (C := RX5) (T := TX5) (N := 9) hx hb hts (by decide +kernel) tyX5 tyX5_ok nmX5 hown hK hP hD hS 0 rfl rfl 7 (by decide) (hts (.fieldLink RX5 90 "FiberTrace$LinkText" "faultNumber" "I") (by decide +kernel)) (fun _ h9 => h9) rfl (by decide +kernel) rfl rfl (Nat.le_of_ble_eq_true rfl) dX5_blame_12 (fun H locs hP hD hS => ?_)
  have hP : va_P D vwCl [(a0, .inr (5, [.ref ag, .ref am, .ref ad, .ref b0, .int (nI tn), .int y, .int x, .int zz, .int v4]))] H := hP
  have hD : va_D A [(a0, .inr (5, [.ref ag, .ref am, .ref ad, .ref b0, .int (nI tn), .int y, .int x, .int zz, .int v4]))] := hD
  have hw9 : ([(a0, .inr (5, [.ref ag, .ref am, .ref ad, .ref b0, .int (nI tn), .int y, .int x, .int zz, .int v4]))] : va_W) = [(a0, .inr (5, [.ref ag, .ref am, .ref ad, .ref b0, .int (nI tn), .int y, .int x, .int zz, .int v4]))] := rfl
  rw [hw9] at hP hD
  exact W.vret hx hb hr (fun t ht hW => ⟨⟨(), rfl, trivial, by rw [ht]; exact hP, by rw [hAe]; exact hD⟩, by rw [hAe]; exact hS.F ht⟩) hS.2.2 dX5_blame_15
set_option maxHeartbeats 4000000 in
set_option maxRecDepth 100000 in
theorem c_X5_build (l : Launch) (D : va_G) (cI cS : ClassId) (sz : Nat) (a0 ag am ad b0 : Nat) (tn : Nat) (v1 v2 v3 : Int32) (v4 : Int32) (len att en : Int32) (n bk bp bl br : Nat) (kf pf lf rf : Nat → Int32) (nf td mm : Nat → Int32) (j h : Nat) (hj : j < 6) (hh : h < 64) (hLR : ftLR mm len att en n kf pf lf rf) (hTd : ftTd td h) (hLf : ftLf mm) (hAl : ftAl (nI j) mm h (nf 0)) : Met l yX5_build wsX5_build ({ frames := 3, cells := 0, slots := 0, locals := 71 }) (ftRW D cI cS [.ref a0, .int (nI j)] [(a0, .inr (5, [.ref ag, .ref am, .ref ad, .ref b0, .int (nI tn), .int v1, .int v2, .int v3, .int v4])), (am, .inl (cI, 3, .inl nf)), (ad, .inl (cI, 3, .inl td)), (b0, .inr (4, [.int len, .int att, .int en, .int (nI n), .ref bk, .ref bp, .ref bl, .ref br])), (bk, .inl (cI, 10, .inl kf)), (bp, .inl (cI, 10, .inl pf)), (bl, .inl (cI, 10, .inl lf)), (br, .inl (cI, 10, .inl rf))] sz) (ftXv D [(a0, .inr (5, [.ref ag, .ref am, .ref ad, .ref b0, .int (nI tn), .int v1, .int v2, .int v3, .int v4])), (am, .inl (cI, 3, .inl nf)), (ad, .inl (cI, 3, .inl td)), (b0, .inr (4, [.int len, .int att, .int en, .int (nI n), .ref bk, .ref bp, .ref bl, .ref br])), (bk, .inl (cI, 10, .inl kf)), (bp, .inl (cI, 10, .inl pf)), (bl, .inl (cI, 10, .inl lf)), (br, .inl (cI, 10, .inl rf))] sz (fun (u : Nat × (Nat → Int32) × (Nat → Nat → Int32)) => (ftLR (if nI j < 3 then upd mm j (nf 0) else ftAdd mm n (nI j - 3) (nf 0) (nf 1) (if nI j = 4 then nf 2 else 0)) (u.2.1 0) (u.2.1 1) (u.2.1 2) u.1 (u.2.2 1) (u.2.2 2) (u.2.2 3) (u.2.2 4)) ∧ (ftTd (u.2.2 0) (h ||| 2 ^ j))) (fun (u : Nat × (Nat → Int32) × (Nat → Nat → Int32)) => [(a0, .inr (5, [.ref ag, .ref am, .ref ad, .ref b0, .int (nI tn), .int v1, .int v2, .int v3, .int v4])), (am, .inl (cI, 3, .inl nf)), (ad, .inl (cI, 3, .inl (u.2.2 0))), (b0, .inr (4, [.int (u.2.1 0), .int (u.2.1 1), .int (u.2.1 2), .int (nI u.1), .ref bk, .ref bp, .ref bl, .ref br])), (bk, .inl (cI, 10, .inl (u.2.2 1))), (bp, .inl (cI, 10, .inl (u.2.2 2))), (bl, .inl (cI, 10, .inl (u.2.2 3))), (br, .inl (cI, 10, .inl (u.2.2 4)))])) 0 0 (va_A [(a0, .inr (5, [.ref ag, .ref am, .ref ad, .ref b0, .int (nI tn), .int v1, .int v2, .int v3, .int v4])), (am, .inl (cI, 3, .inl nf)), (ad, .inl (cI, 3, .inl td)), (b0, .inr (4, [.int len, .int att, .int en, .int (nI n), .ref bk, .ref bp, .ref bl, .ref br])), (bk, .inl (cI, 10, .inl kf)), (bp, .inl (cI, 10, .inl pf)), (bl, .inl (cI, 10, .inl lf)), (br, .inl (cI, 10, .inl rf))] sz) := by
  refine Met.ofW (cc := cX5_build) (maxL := 4) (ret := none) (by decide) rfl ?_
  intro p e s m args below meth c s₁ B hml hv
  obtain ⟨rfl, hsz, hP, hKK, hD0⟩ := hv
  have hK := hKK.1
  have hx := B.exec
  have hb := B.bytes
  have hr := B.returns
  have hts := atoms_spec (ws := wsX5_build) B.pre
  have hown : s.vm.findClass RX5 = some m.cls := findClass_of_methodNamed B.named
  have hlocks := B.notSynchronized
  subst hsz
  have hD := hD0.self (sz := s.heap.size)
  generalize hAe : va_A [(a0, .inr (5, [.ref ag, .ref am, .ref ad, .ref b0, .int (nI tn), .int v1, .int v2, .int v3, .int v4])), (am, .inl (cI, 3, .inl nf)), (ad, .inl (cI, 3, .inl td)), (b0, .inr (4, [.int len, .int att, .int en, .int (nI n), .ref bk, .ref bp, .ref bl, .ref br])), (bk, .inl (cI, 10, .inl kf)), (bp, .inl (cI, 10, .inl pf)), (bl, .inl (cI, 10, .inl lf)), (br, .inl (cI, 10, .inl rf))] s.heap.size = A at hD ⊢
  have hA : ∀ q : Nat, s.heap.size ≤ q → A q := fun q h => by rw [← hAe]; exact Or.inr h
  have hS : va_S A s.heap s.heap [] := va_S.rf
  have hD : va_D A [(a0, .inr (5, [.ref ag, .ref am, .ref ad, .ref b0, .int (nI tn), .int v1, .int v2, .int v3, .int v4])), (am, .inl (cI, 3, .inl nf)), (ad, .inl (cI, 3, .inl td)), (b0, .inr (4, [.int len, .int att, .int en, .int (nI n), .ref bk, .ref bp, .ref bl, .ref br])), (bk, .inl (cI, 10, .inl kf)), (bp, .inl (cI, 10, .inl pf)), (bl, .inl (cI, 10, .inl lf)), (br, .inl (cI, 10, .inl rf))] := hD
  have hP : va_P D vwCl [(a0, .inr (5, [.ref ag, .ref am, .ref ad, .ref b0, .int (nI tn), .int v1, .int v2, .int v3, .int v4])), (am, .inl (cI, 3, .inl nf)), (ad, .inl (cI, 3, .inl td)), (b0, .inr (4, [.int len, .int att, .int en, .int (nI n), .ref bk, .ref bp, .ref bl, .ref br])), (bk, .inl (cI, 10, .inl kf)), (bp, .inl (cI, 10, .inl pf)), (bl, .inl (cI, 10, .inl lf)), (br, .inl (cI, 10, .inl rf))] s.heap := hP
  have hl := lv_entry ([.ref a0, .int (nI j)]) (n := 4) (Nat.le_of_ble_eq_true rfl)
  rw [lg_entry_eq]
  generalize (lg_sl ([.ref a0, .int (nI j)]) ++ List.replicate (4 - (lg_sl ([.ref a0, .int (nI j)])).length) Slot.unset).toArray = ls at hl ⊢
  have hl : lv_has ls 4 [(0, .ref a0), (1, .int (nI j))] := hl
  have hn := hLR.2.2.2.2.1
  have hm3 := hLR.2.2.2.1
  have hcn : (mm 3).toNatClampNeg = n := ftLR_n hLR
  refine lv_aload_n hx hb dX5_build_0 rfl (lv_at hl 0 rfl) ?_
  refine va_get (D := D) (ci := 5) (v := .ref am) (C := RX5) (T := TX5) (N := 9) hx hb hts (by decide +kernel) hown hK hP 0 rfl rfl 1 (by decide) (hts (.fieldLink RX5 15 "FiberTrace$LinkText" "numbers" "[I") (by decide +kernel)) (fun _ h9 => h9) rfl dX5_build_1 ?_
  refine lv_iconst (v := 0) hx hb dX5_build_4 (by decide) ?_
  refine ft_csi (r := ftAt 3 nf 0) (va_runSN (As := [.ref am, .int 0]) (rest := []) ⟨hx, hb, hml, hown, hts⟩ (c_X10_at l D cI cS am 3 nf 0 (by first | assumption | omega)) ⟨va_cnB 2 hts gX5_build_X10_at_n93 rfl rfl rfl (hKK.2 _ (List.mem_of_getElem? (i := 8) rfl)) (hts (.initialized RX10) (by decide +kernel)) (by decide +kernel) ⟨Nat.le_of_ble_eq_true rfl, Nat.le_of_ble_eq_true rfl⟩, hts (.static yX10_at) (by decide +kernel), trivial⟩ (ft_preRO hP hKK [1] rfl) rfl rfl hl.1 rfl (lv_room (Nat.le_of_ble_eq_true rfl)) dX5_build_5 ⟨Nat.le_of_ble_eq_true rfl, Nat.le_of_ble_eq_true rfl⟩) ?_
  refine ft_top (y := nf 0) (ftAt_N (k := 0) (by omega) (by omega)) ?_
  refine lv_istore_n (lv' := [(2, .int (nf 0)), (0, .ref a0), (1, .int (nI j))]) hx hb dX5_build_8 rfl hl (by decide) rfl (fun ls hl => ?_)
  refine lv_aload_n hx hb dX5_build_9 rfl (lv_at hl 1 rfl) ?_
  refine va_get (D := D) (ci := 5) (v := .ref ad) (C := RX5) (T := TX5) (N := 9) hx hb hts (by decide +kernel) hown hK hP 0 rfl rfl 2 (by decide) (hts (.fieldLink RX5 18 "FiberTrace$LinkText" "told" "[I") (by decide +kernel)) (fun _ h9 => h9) rfl dX5_build_10 ?_
  refine lv_iload_n hx hb dX5_build_13 rfl (lv_at hl 2 rfl) ?_
  refine lv_iconst (v := 1) hx hb dX5_build_14 (by decide) ?_
  refine ft_cv (wc := [(ad, .inl (cI, 3, .inl td))]) (wr := [(a0, .inr (5, [.ref ag, .ref am, .ref ad, .ref b0, .int (nI tn), .int v1, .int v2, .int v3, .int v4])), (am, .inl (cI, 3, .inl nf)), (b0, .inr (4, [.int len, .int att, .int en, .int (nI n), .ref bk, .ref bp, .ref bl, .ref br])), (bk, .inl (cI, 10, .inl kf)), (bp, .inl (cI, 10, .inl pf)), (bl, .inl (cI, 10, .inl lf)), (br, .inl (cI, 10, .inl rf))]) (w1 := [(ad, .inl (cI, 3, .inl (ftPut 3 td (nI j) 1)))]) (ws1 := [(a0, .inr (5, [.ref ag, .ref am, .ref ad, .ref b0, .int (nI tn), .int v1, .int v2, .int v3, .int v4])), (am, .inl (cI, 3, .inl nf)), (ad, .inl (cI, 3, .inl (ftPut 3 td (nI j) 1))), (b0, .inr (4, [.int len, .int att, .int en, .int (nI n), .ref bk, .ref bp, .ref bl, .ref br])), (bk, .inl (cI, 10, .inl kf)), (bp, .inl (cI, 10, .inl pf)), (bl, .inl (cI, 10, .inl lf)), (br, .inl (cI, 10, .inl rf))]) (va_runSN (As := [.ref ad, .int (nI j), .int 1]) (rest := []) ⟨hx, hb, hml, hown, hts⟩ (c_X10_put l D cI cS s.heap.size ad 3 td (nI j) 1 (by omega)) ⟨va_cnB 3 hts gX5_build_X10_put_n32 rfl rfl rfl (hKK.2 _ (List.mem_of_getElem? (i := 7) rfl)) (hts (.initialized RX10) (by decide +kernel)) (by decide +kernel) ⟨Nat.le_of_ble_eq_true rfl, Nat.le_of_ble_eq_true rfl⟩, hts (.static yX10_put) (by decide +kernel), trivial⟩ (ft_preRW hP hD hKK [2] rfl rfl rfl) rfl rfl hl.1 rfl (lv_room (Nat.le_of_ble_eq_true rfl)) dX5_build_15 ⟨Nat.le_of_ble_eq_true rfl, Nat.le_of_ble_eq_true rfl⟩) hP hD hS hA [2] [0, 1, 3, 4, 5, 6, 7] [0, 1, 7, 2, 3, 4, 5, 6] rfl rfl (by decide) (by decide) (by decide) rfl rfl (fun H locs hP hD hS => ?_)
  have hP : va_P D vwCl [(a0, .inr (5, [.ref ag, .ref am, .ref ad, .ref b0, .int (nI tn), .int v1, .int v2, .int v3, .int v4])), (am, .inl (cI, 3, .inl nf)), (ad, .inl (cI, 3, .inl (ftPut 3 td (nI j) 1))), (b0, .inr (4, [.int len, .int att, .int en, .int (nI n), .ref bk, .ref bp, .ref bl, .ref br])), (bk, .inl (cI, 10, .inl kf)), (bp, .inl (cI, 10, .inl pf)), (bl, .inl (cI, 10, .inl lf)), (br, .inl (cI, 10, .inl rf))] H := hP
  have hD : va_D A [(a0, .inr (5, [.ref ag, .ref am, .ref ad, .ref b0, .int (nI tn), .int v1, .int v2, .int v3, .int v4])), (am, .inl (cI, 3, .inl nf)), (ad, .inl (cI, 3, .inl (ftPut 3 td (nI j) 1))), (b0, .inr (4, [.int len, .int att, .int en, .int (nI n), .ref bk, .ref bp, .ref bl, .ref br])), (bk, .inl (cI, 10, .inl kf)), (bp, .inl (cI, 10, .inl pf)), (bl, .inl (cI, 10, .inl lf)), (br, .inl (cI, 10, .inl rf))] := hD
  have htd9 : ftTd (ftPut 3 td (nI j) 1) (h ||| 2 ^ j) := ftTd_put hj hh hTd
  refine lv_iload_n hx hb dX5_build_18 rfl (lv_at hl 2 rfl) ?_
  by_cases c19_0 : (nI j) = 0
  · refine lv_tableIn (off := 25) (tgt := 44) hx hb dX5_build_19 (by rw [c19_0]; decide) (by rw [c19_0]; decide) (by rw [c19_0]; decide) (by decide) ?_
    have hj9 : j = 0 := ft_eqN (by omega) (by omega) c19_0
    have hBL : (if nI j < 3 then upd mm j (nf 0) else ftAdd mm n (nI j - 3) (nf 0) (nf 1) (if nI j = 4 then nf 2 else 0)) = upd mm 0 (nf 0) := by rw [hj9]; exact if_pos (by decide)
    have hfin : ftLR (upd mm 0 (nf 0)) (nf 0) att en n kf pf lf rf := ⟨rfl, hLR.2.1, hLR.2.2.1, hm3, hn, fun k hk => by rw [ftUpd_ne (by omega), ftUpd_ne (by omega), ftUpd_ne (by omega), ftUpd_ne (by omega)]; exact hLR.2.2.2.2.2 k hk⟩
    refine lv_aload_n hx hb dX5_build_44 rfl (lv_at hl 1 rfl) ?_
    refine va_get (D := D) (ci := 5) (v := .ref b0) (C := RX5) (T := TX5) (N := 9) hx hb hts (by decide +kernel) hown hK hP 0 rfl rfl 3 (by decide) (hts (.fieldLink RX5 24 "FiberTrace$LinkText" "link" "LFiberTrace$Link;") (by decide +kernel)) (fun _ h9 => h9) rfl dX5_build_45 ?_
    refine lv_iload_n hx hb dX5_build_48 rfl (lv_at hl 0 rfl) ?_
    refine va_put (D := D) (ci := 4) (v := .int (nf 0)) (ty := .int) (C := RX4) (T := TX4) (N := 8) hx hb hts (by decide +kernel) tyX4 tyX4_ok nmX4 hown hK hP hD hS 3 rfl rfl 0 (by decide) (hts (.fieldLink RX5 143 "FiberTrace$Link" "length" "I") (by decide +kernel)) (fun _ h9 => h9) rfl (by decide +kernel) rfl rfl (Nat.le_of_ble_eq_true rfl) dX5_build_49 (fun H locs hP hD hS => ?_)
    have hP : va_P D vwCl [(a0, .inr (5, [.ref ag, .ref am, .ref ad, .ref b0, .int (nI tn), .int v1, .int v2, .int v3, .int v4])), (am, .inl (cI, 3, .inl nf)), (ad, .inl (cI, 3, .inl (ftPut 3 td (nI j) 1))), (b0, .inr (4, [.int (nf 0), .int att, .int en, .int (nI n), .ref bk, .ref bp, .ref bl, .ref br])), (bk, .inl (cI, 10, .inl kf)), (bp, .inl (cI, 10, .inl pf)), (bl, .inl (cI, 10, .inl lf)), (br, .inl (cI, 10, .inl rf))] H := hP
    have hD : va_D A [(a0, .inr (5, [.ref ag, .ref am, .ref ad, .ref b0, .int (nI tn), .int v1, .int v2, .int v3, .int v4])), (am, .inl (cI, 3, .inl nf)), (ad, .inl (cI, 3, .inl (ftPut 3 td (nI j) 1))), (b0, .inr (4, [.int (nf 0), .int att, .int en, .int (nI n), .ref bk, .ref bp, .ref bl, .ref br])), (bk, .inl (cI, 10, .inl kf)), (bp, .inl (cI, 10, .inl pf)), (bl, .inl (cI, 10, .inl lf)), (br, .inl (cI, 10, .inl rf))] := hD
    refine lv_goto (tgt := 116) hx hb dX5_build_52 (by decide) ?_
    obtain ⟨u9, hu9⟩ : ∃ u9 : Nat × (Nat → Int32) × (Nat → Nat → Int32), u9 = (n, (fun k => match k with | 0 => (nf 0) | 1 => att | _ => en), (fun k => match k with | 0 => (ftPut 3 td (nI j) 1) | 1 => kf | 2 => pf | 3 => lf | _ => rf)) := ⟨_, rfl⟩
    have hw9 : ([(a0, .inr (5, [.ref ag, .ref am, .ref ad, .ref b0, .int (nI tn), .int v1, .int v2, .int v3, .int v4])), (am, .inl (cI, 3, .inl nf)), (ad, .inl (cI, 3, .inl (ftPut 3 td (nI j) 1))), (b0, .inr (4, [.int (nf 0), .int att, .int en, .int (nI n), .ref bk, .ref bp, .ref bl, .ref br])), (bk, .inl (cI, 10, .inl kf)), (bp, .inl (cI, 10, .inl pf)), (bl, .inl (cI, 10, .inl lf)), (br, .inl (cI, 10, .inl rf))] : va_W) = [(a0, .inr (5, [.ref ag, .ref am, .ref ad, .ref b0, .int (nI tn), .int v1, .int v2, .int v3, .int v4])), (am, .inl (cI, 3, .inl nf)), (ad, .inl (cI, 3, .inl (u9.2.2 0))), (b0, .inr (4, [.int (u9.2.1 0), .int (u9.2.1 1), .int (u9.2.1 2), .int (nI u9.1), .ref bk, .ref bp, .ref bl, .ref br])), (bk, .inl (cI, 10, .inl (u9.2.2 1))), (bp, .inl (cI, 10, .inl (u9.2.2 2))), (bl, .inl (cI, 10, .inl (u9.2.2 3))), (br, .inl (cI, 10, .inl (u9.2.2 4)))] := by subst hu9; rfl
    rw [hw9] at hP hD
    have hf9_0 : ftLR (if nI j < 3 then upd mm j (nf 0) else ftAdd mm n (nI j - 3) (nf 0) (nf 1) (if nI j = 4 then nf 2 else 0)) (u9.2.1 0) (u9.2.1 1) (u9.2.1 2) u9.1 (u9.2.2 1) (u9.2.2 2) (u9.2.2 3) (u9.2.2 4) := by rw [hu9, hBL]; exact hfin
    have hf9_1 : ftTd (u9.2.2 0) (h ||| 2 ^ j) := by rw [hu9]; exact htd9
    exact W.vret hx hb hr (fun t ht hW => ⟨⟨u9, rfl, ⟨hf9_0, hf9_1⟩, by rw [ht]; exact hP, by rw [hAe]; exact hD⟩, by rw [hAe]; exact hS.F ht⟩) hS.2.2 dX5_build_116
  by_cases c19_1 : (nI j) = 1
  · refine lv_tableIn (off := 36) (tgt := 55) hx hb dX5_build_19 (by rw [c19_1]; decide) (by rw [c19_1]; decide) (by rw [c19_1]; decide) (by decide) ?_
    have hj9 : j = 1 := ft_eqN (by omega) (by omega) c19_1
    have hBL : (if nI j < 3 then upd mm j (nf 0) else ftAdd mm n (nI j - 3) (nf 0) (nf 1) (if nI j = 4 then nf 2 else 0)) = upd mm 1 (nf 0) := by rw [hj9]; exact if_pos (by decide)
    have hfin : ftLR (upd mm 1 (nf 0)) len (nf 0) en n kf pf lf rf := ⟨hLR.1, rfl, hLR.2.2.1, hm3, hn, fun k hk => by rw [ftUpd_ne (by omega), ftUpd_ne (by omega), ftUpd_ne (by omega), ftUpd_ne (by omega)]; exact hLR.2.2.2.2.2 k hk⟩
    refine lv_aload_n hx hb dX5_build_55 rfl (lv_at hl 1 rfl) ?_
    refine va_get (D := D) (ci := 5) (v := .ref b0) (C := RX5) (T := TX5) (N := 9) hx hb hts (by decide +kernel) hown hK hP 0 rfl rfl 3 (by decide) (hts (.fieldLink RX5 24 "FiberTrace$LinkText" "link" "LFiberTrace$Link;") (by decide +kernel)) (fun _ h9 => h9) rfl dX5_build_56 ?_
    refine lv_iload_n hx hb dX5_build_59 rfl (lv_at hl 0 rfl) ?_
    refine va_put (D := D) (ci := 4) (v := .int (nf 0)) (ty := .int) (C := RX4) (T := TX4) (N := 8) hx hb hts (by decide +kernel) tyX4 tyX4_ok nmX4 hown hK hP hD hS 3 rfl rfl 1 (by decide) (hts (.fieldLink RX5 145 "FiberTrace$Link" "attenuation" "I") (by decide +kernel)) (fun _ h9 => h9) rfl (by decide +kernel) rfl rfl (Nat.le_of_ble_eq_true rfl) dX5_build_60 (fun H locs hP hD hS => ?_)
    have hP : va_P D vwCl [(a0, .inr (5, [.ref ag, .ref am, .ref ad, .ref b0, .int (nI tn), .int v1, .int v2, .int v3, .int v4])), (am, .inl (cI, 3, .inl nf)), (ad, .inl (cI, 3, .inl (ftPut 3 td (nI j) 1))), (b0, .inr (4, [.int len, .int (nf 0), .int en, .int (nI n), .ref bk, .ref bp, .ref bl, .ref br])), (bk, .inl (cI, 10, .inl kf)), (bp, .inl (cI, 10, .inl pf)), (bl, .inl (cI, 10, .inl lf)), (br, .inl (cI, 10, .inl rf))] H := hP
    have hD : va_D A [(a0, .inr (5, [.ref ag, .ref am, .ref ad, .ref b0, .int (nI tn), .int v1, .int v2, .int v3, .int v4])), (am, .inl (cI, 3, .inl nf)), (ad, .inl (cI, 3, .inl (ftPut 3 td (nI j) 1))), (b0, .inr (4, [.int len, .int (nf 0), .int en, .int (nI n), .ref bk, .ref bp, .ref bl, .ref br])), (bk, .inl (cI, 10, .inl kf)), (bp, .inl (cI, 10, .inl pf)), (bl, .inl (cI, 10, .inl lf)), (br, .inl (cI, 10, .inl rf))] := hD
    refine lv_goto (tgt := 116) hx hb dX5_build_63 (by decide) ?_
    obtain ⟨u9, hu9⟩ : ∃ u9 : Nat × (Nat → Int32) × (Nat → Nat → Int32), u9 = (n, (fun k => match k with | 0 => len | 1 => (nf 0) | _ => en), (fun k => match k with | 0 => (ftPut 3 td (nI j) 1) | 1 => kf | 2 => pf | 3 => lf | _ => rf)) := ⟨_, rfl⟩
    have hw9 : ([(a0, .inr (5, [.ref ag, .ref am, .ref ad, .ref b0, .int (nI tn), .int v1, .int v2, .int v3, .int v4])), (am, .inl (cI, 3, .inl nf)), (ad, .inl (cI, 3, .inl (ftPut 3 td (nI j) 1))), (b0, .inr (4, [.int len, .int (nf 0), .int en, .int (nI n), .ref bk, .ref bp, .ref bl, .ref br])), (bk, .inl (cI, 10, .inl kf)), (bp, .inl (cI, 10, .inl pf)), (bl, .inl (cI, 10, .inl lf)), (br, .inl (cI, 10, .inl rf))] : va_W) = [(a0, .inr (5, [.ref ag, .ref am, .ref ad, .ref b0, .int (nI tn), .int v1, .int v2, .int v3, .int v4])), (am, .inl (cI, 3, .inl nf)), (ad, .inl (cI, 3, .inl (u9.2.2 0))), (b0, .inr (4, [.int (u9.2.1 0), .int (u9.2.1 1), .int (u9.2.1 2), .int (nI u9.1), .ref bk, .ref bp, .ref bl, .ref br])), (bk, .inl (cI, 10, .inl (u9.2.2 1))), (bp, .inl (cI, 10, .inl (u9.2.2 2))), (bl, .inl (cI, 10, .inl (u9.2.2 3))), (br, .inl (cI, 10, .inl (u9.2.2 4)))] := by subst hu9; rfl
    rw [hw9] at hP hD
    have hf9_0 : ftLR (if nI j < 3 then upd mm j (nf 0) else ftAdd mm n (nI j - 3) (nf 0) (nf 1) (if nI j = 4 then nf 2 else 0)) (u9.2.1 0) (u9.2.1 1) (u9.2.1 2) u9.1 (u9.2.2 1) (u9.2.2 2) (u9.2.2 3) (u9.2.2 4) := by rw [hu9, hBL]; exact hfin
    have hf9_1 : ftTd (u9.2.2 0) (h ||| 2 ^ j) := by rw [hu9]; exact htd9
    exact W.vret hx hb hr (fun t ht hW => ⟨⟨u9, rfl, ⟨hf9_0, hf9_1⟩, by rw [ht]; exact hP, by rw [hAe]; exact hD⟩, by rw [hAe]; exact hS.F ht⟩) hS.2.2 dX5_build_116
  by_cases c19_2 : (nI j) = 2
  · refine lv_tableIn (off := 47) (tgt := 66) hx hb dX5_build_19 (by rw [c19_2]; decide) (by rw [c19_2]; decide) (by rw [c19_2]; decide) (by decide) ?_
    have hj9 : j = 2 := ft_eqN (by omega) (by omega) c19_2
    have hBL : (if nI j < 3 then upd mm j (nf 0) else ftAdd mm n (nI j - 3) (nf 0) (nf 1) (if nI j = 4 then nf 2 else 0)) = upd mm 2 (nf 0) := by rw [hj9]; exact if_pos (by decide)
    have hfin : ftLR (upd mm 2 (nf 0)) len att (nf 0) n kf pf lf rf := ⟨hLR.1, hLR.2.1, rfl, hm3, hn, fun k hk => by rw [ftUpd_ne (by omega), ftUpd_ne (by omega), ftUpd_ne (by omega), ftUpd_ne (by omega)]; exact hLR.2.2.2.2.2 k hk⟩
    refine lv_aload_n hx hb dX5_build_66 rfl (lv_at hl 1 rfl) ?_
    refine va_get (D := D) (ci := 5) (v := .ref b0) (C := RX5) (T := TX5) (N := 9) hx hb hts (by decide +kernel) hown hK hP 0 rfl rfl 3 (by decide) (hts (.fieldLink RX5 24 "FiberTrace$LinkText" "link" "LFiberTrace$Link;") (by decide +kernel)) (fun _ h9 => h9) rfl dX5_build_67 ?_
    refine lv_iload_n hx hb dX5_build_70 rfl (lv_at hl 0 rfl) ?_
    refine va_put (D := D) (ci := 4) (v := .int (nf 0)) (ty := .int) (C := RX4) (T := TX4) (N := 8) hx hb hts (by decide +kernel) tyX4 tyX4_ok nmX4 hown hK hP hD hS 3 rfl rfl 2 (by decide) (hts (.fieldLink RX5 147 "FiberTrace$Link" "end" "I") (by decide +kernel)) (fun _ h9 => h9) rfl (by decide +kernel) rfl rfl (Nat.le_of_ble_eq_true rfl) dX5_build_71 (fun H locs hP hD hS => ?_)
    have hP : va_P D vwCl [(a0, .inr (5, [.ref ag, .ref am, .ref ad, .ref b0, .int (nI tn), .int v1, .int v2, .int v3, .int v4])), (am, .inl (cI, 3, .inl nf)), (ad, .inl (cI, 3, .inl (ftPut 3 td (nI j) 1))), (b0, .inr (4, [.int len, .int att, .int (nf 0), .int (nI n), .ref bk, .ref bp, .ref bl, .ref br])), (bk, .inl (cI, 10, .inl kf)), (bp, .inl (cI, 10, .inl pf)), (bl, .inl (cI, 10, .inl lf)), (br, .inl (cI, 10, .inl rf))] H := hP
    have hD : va_D A [(a0, .inr (5, [.ref ag, .ref am, .ref ad, .ref b0, .int (nI tn), .int v1, .int v2, .int v3, .int v4])), (am, .inl (cI, 3, .inl nf)), (ad, .inl (cI, 3, .inl (ftPut 3 td (nI j) 1))), (b0, .inr (4, [.int len, .int att, .int (nf 0), .int (nI n), .ref bk, .ref bp, .ref bl, .ref br])), (bk, .inl (cI, 10, .inl kf)), (bp, .inl (cI, 10, .inl pf)), (bl, .inl (cI, 10, .inl lf)), (br, .inl (cI, 10, .inl rf))] := hD
    refine lv_goto (tgt := 116) hx hb dX5_build_74 (by decide) ?_
    obtain ⟨u9, hu9⟩ : ∃ u9 : Nat × (Nat → Int32) × (Nat → Nat → Int32), u9 = (n, (fun k => match k with | 0 => len | 1 => att | _ => (nf 0)), (fun k => match k with | 0 => (ftPut 3 td (nI j) 1) | 1 => kf | 2 => pf | 3 => lf | _ => rf)) := ⟨_, rfl⟩
    have hw9 : ([(a0, .inr (5, [.ref ag, .ref am, .ref ad, .ref b0, .int (nI tn), .int v1, .int v2, .int v3, .int v4])), (am, .inl (cI, 3, .inl nf)), (ad, .inl (cI, 3, .inl (ftPut 3 td (nI j) 1))), (b0, .inr (4, [.int len, .int att, .int (nf 0), .int (nI n), .ref bk, .ref bp, .ref bl, .ref br])), (bk, .inl (cI, 10, .inl kf)), (bp, .inl (cI, 10, .inl pf)), (bl, .inl (cI, 10, .inl lf)), (br, .inl (cI, 10, .inl rf))] : va_W) = [(a0, .inr (5, [.ref ag, .ref am, .ref ad, .ref b0, .int (nI tn), .int v1, .int v2, .int v3, .int v4])), (am, .inl (cI, 3, .inl nf)), (ad, .inl (cI, 3, .inl (u9.2.2 0))), (b0, .inr (4, [.int (u9.2.1 0), .int (u9.2.1 1), .int (u9.2.1 2), .int (nI u9.1), .ref bk, .ref bp, .ref bl, .ref br])), (bk, .inl (cI, 10, .inl (u9.2.2 1))), (bp, .inl (cI, 10, .inl (u9.2.2 2))), (bl, .inl (cI, 10, .inl (u9.2.2 3))), (br, .inl (cI, 10, .inl (u9.2.2 4)))] := by subst hu9; rfl
    rw [hw9] at hP hD
    have hf9_0 : ftLR (if nI j < 3 then upd mm j (nf 0) else ftAdd mm n (nI j - 3) (nf 0) (nf 1) (if nI j = 4 then nf 2 else 0)) (u9.2.1 0) (u9.2.1 1) (u9.2.1 2) u9.1 (u9.2.2 1) (u9.2.2 2) (u9.2.2 3) (u9.2.2 4) := by rw [hu9, hBL]; exact hfin
    have hf9_1 : ftTd (u9.2.2 0) (h ||| 2 ^ j) := by rw [hu9]; exact htd9
    exact W.vret hx hb hr (fun t ht hW => ⟨⟨u9, rfl, ⟨hf9_0, hf9_1⟩, by rw [ht]; exact hP, by rw [hAe]; exact hD⟩, by rw [hAe]; exact hS.F ht⟩) hS.2.2 dX5_build_116
  have c19_0i := lv_neT (a := 0) c19_0 (by decide)
  have c19_1i := lv_neT (a := 1) c19_1 (by decide)
  have c19_2i := lv_neT (a := 2) c19_2 (by decide)
  refine lv_tableOut (tgt := 77) hx hb dX5_build_19 (by omega) (by decide) ?_
  have hj3 : 3 ≤ j := by
    have q0 : j ≠ 0 := fun q => c19_0 (by rw [q]; rfl)
    have q1 : j ≠ 1 := fun q => c19_1 (by rw [q]; rfl)
    have q2 : j ≠ 2 := fun q => c19_2 (by rw [q]; rfl)
    omega
  have hnl : ¬ nI j < 3 := fun q => absurd ((ft_lt3 hj).mp q) (by omega)
  obtain ⟨hd1, hd2⟩ := hAl.2 hnl
  rw [hcn] at hd1
  have hn10 : n ≠ 10 := fun q => hd2 (by rw [hm3, q]; rfl)
  have hasc : ∀ a b, a < b → b < n → mm (4 + 4 * a + 1) < mm (4 + 4 * b + 1) := by
    have q := hLf.2.2.2.2.2
    rw [show ftCN mm = n from hcn] at q
    exact q
  refine lv_iload_n hx hb dX5_build_77 rfl (lv_at hl 2 rfl) ?_
  refine lv_iconst (v := 3) hx hb dX5_build_78 (by decide) ?_
  refine lv_isub hx hb dX5_build_79 ?_
  refine lv_istore_n (lv' := [(3, .int ((nI j) - 3)), (2, .int (nf 0)), (0, .ref a0), (1, .int (nI j))]) hx hb dX5_build_80 rfl hl (by decide) rfl (fun ls hl => ?_)
  refine lv_aload_n hx hb dX5_build_81 rfl (lv_at hl 2 rfl) ?_
  refine va_get (D := D) (ci := 5) (v := .ref b0) (C := RX5) (T := TX5) (N := 9) hx hb hts (by decide +kernel) hown hK hP 0 rfl rfl 3 (by decide) (hts (.fieldLink RX5 24 "FiberTrace$LinkText" "link" "LFiberTrace$Link;") (by decide +kernel)) (fun _ h9 => h9) rfl dX5_build_82 ?_
  refine lv_iload_n hx hb dX5_build_85 rfl (lv_at hl 0 rfl) ?_
  refine lv_iload_n hx hb dX5_build_86 rfl (lv_at hl 1 rfl) ?_
  refine lv_aload_n hx hb dX5_build_87 rfl (lv_at hl 2 rfl) ?_
  refine va_get (D := D) (ci := 5) (v := .ref am) (C := RX5) (T := TX5) (N := 9) hx hb hts (by decide +kernel) hown hK hP 0 rfl rfl 1 (by decide) (hts (.fieldLink RX5 15 "FiberTrace$LinkText" "numbers" "[I") (by decide +kernel)) (fun _ h9 => h9) rfl dX5_build_88 ?_
  refine lv_iconst (v := 1) hx hb dX5_build_91 (by decide) ?_
  refine ft_csi (r := ftAt 3 nf 1) (va_runSN (As := [.ref am, .int 1]) (rest := [.int (nf 0), .int ((nI j) - 3), .ref b0]) ⟨hx, hb, hml, hown, hts⟩ (c_X10_at l D cI cS am 3 nf 1 (by first | assumption | omega)) ⟨va_cnB 2 hts gX5_build_X10_at_n93 rfl rfl rfl (hKK.2 _ (List.mem_of_getElem? (i := 8) rfl)) (hts (.initialized RX10) (by decide +kernel)) (by decide +kernel) ⟨Nat.le_of_ble_eq_true rfl, Nat.le_of_ble_eq_true rfl⟩, hts (.static yX10_at) (by decide +kernel), trivial⟩ (ft_preRO hP hKK [1] rfl) rfl rfl hl.1 rfl (lv_room (Nat.le_of_ble_eq_true rfl)) dX5_build_92 ⟨Nat.le_of_ble_eq_true rfl, Nat.le_of_ble_eq_true rfl⟩) ?_
  refine ft_top (y := nf 1) (ftAt_N (k := 1) (by omega) (by omega)) ?_
  refine lv_iload_n hx hb dX5_build_95 rfl (lv_at hl 0 rfl) ?_
  refine lv_iconst (v := 1) hx hb dX5_build_96 (by decide) ?_
  refine lv_icmp_ne (tgt := 111) hx hb dX5_build_97 (by decide) (fun c97 => ?_) (fun c97 => ?_)
  · have h4 : ¬ nI j = 4 := fun q => c97 (by rw [q]; decide)
    have hBL : (if nI j < 3 then upd mm j (nf 0) else ftAdd mm n (nI j - 3) (nf 0) (nf 1) (if nI j = 4 then nf 2 else 0)) = ftAdd mm n (nI j - 3) (nf 0) (nf 1) 0 := by rw [if_neg hnl, if_neg h4]
    have hfin := ftLR_add (kd := nI j - 3) (x := nf 0) (lo := nf 1) (re := 0) hLR (by omega) hasc (fun t ht q => hd1 ⟨t, ht, q⟩)
    refine lv_iconst (v := 0) hx hb dX5_build_111 (by decide) ?_
    refine ft_ci (r := nI (ftIdx pf (nf 0) n)) (wc := [(b0, .inr (4, [.int len, .int att, .int en, .int (nI n), .ref bk, .ref bp, .ref bl, .ref br])), (bk, .inl (cI, 10, .inl kf)), (bp, .inl (cI, 10, .inl pf)), (bl, .inl (cI, 10, .inl lf)), (br, .inl (cI, 10, .inl rf))]) (wr := [(a0, .inr (5, [.ref ag, .ref am, .ref ad, .ref b0, .int (nI tn), .int v1, .int v2, .int v3, .int v4])), (am, .inl (cI, 3, .inl nf)), (ad, .inl (cI, 3, .inl (ftPut 3 td (nI j) 1)))]) (w1 := [(b0, .inr (4, [.int len, .int att, .int en, .int (nI (n + 1)), .ref bk, .ref bp, .ref bl, .ref br])), (bk, .inl (cI, 10, .inl (ftIns kf n (ftIdx pf (nf 0) n) ((nI j) - 3)))), (bp, .inl (cI, 10, .inl (ftIns pf n (ftIdx pf (nf 0) n) (nf 0)))), (bl, .inl (cI, 10, .inl (ftIns lf n (ftIdx pf (nf 0) n) (nf 1)))), (br, .inl (cI, 10, .inl (ftIns rf n (ftIdx pf (nf 0) n) 0)))]) (ws1 := [(a0, .inr (5, [.ref ag, .ref am, .ref ad, .ref b0, .int (nI tn), .int v1, .int v2, .int v3, .int v4])), (am, .inl (cI, 3, .inl nf)), (ad, .inl (cI, 3, .inl (ftPut 3 td (nI j) 1))), (b0, .inr (4, [.int len, .int att, .int en, .int (nI (n + 1)), .ref bk, .ref bp, .ref bl, .ref br])), (bk, .inl (cI, 10, .inl (ftIns kf n (ftIdx pf (nf 0) n) ((nI j) - 3)))), (bp, .inl (cI, 10, .inl (ftIns pf n (ftIdx pf (nf 0) n) (nf 0)))), (bl, .inl (cI, 10, .inl (ftIns lf n (ftIdx pf (nf 0) n) (nf 1)))), (br, .inl (cI, 10, .inl (ftIns rf n (ftIdx pf (nf 0) n) 0)))]) (va_runV (C := RX4) (As := [.int ((nI j) - 3), .int (nf 0), .int (nf 1), .int 0]) (rest := []) ⟨hx, hb, hml, hown, hts⟩ (c_X4_insert l D cI cS H.size b0 len att en n bk bp bl br kf pf lf rf ((nI j) - 3) (nf 0) (nf 1) 0 (by omega)) (cwV 4 hts gX5_build_X4_insert rfl rfl rfl (by decide +kernel) ⟨Nat.le_of_ble_eq_true rfl, Nat.le_of_ble_eq_true rfl⟩) (ft_preRWV (ci := 4) (q0 := 3) hP hD hKK [3, 4, 5, 6, 7] rfl rfl rfl rfl rfl) rfl rfl hl.1 rfl (lv_room (Nat.le_of_ble_eq_true rfl)) dX5_build_112 ⟨Nat.le_of_ble_eq_true rfl, Nat.le_of_ble_eq_true rfl⟩) hP hD hS hA [3, 4, 5, 6, 7] [0, 1, 2] [0, 1, 2, 3, 4, 5, 6, 7] rfl rfl (by decide) (by decide) (by decide) rfl rfl (fun H locs hP hD hS => ?_)
    have hP : va_P D vwCl [(a0, .inr (5, [.ref ag, .ref am, .ref ad, .ref b0, .int (nI tn), .int v1, .int v2, .int v3, .int v4])), (am, .inl (cI, 3, .inl nf)), (ad, .inl (cI, 3, .inl (ftPut 3 td (nI j) 1))), (b0, .inr (4, [.int len, .int att, .int en, .int (nI (n + 1)), .ref bk, .ref bp, .ref bl, .ref br])), (bk, .inl (cI, 10, .inl (ftIns kf n (ftIdx pf (nf 0) n) ((nI j) - 3)))), (bp, .inl (cI, 10, .inl (ftIns pf n (ftIdx pf (nf 0) n) (nf 0)))), (bl, .inl (cI, 10, .inl (ftIns lf n (ftIdx pf (nf 0) n) (nf 1)))), (br, .inl (cI, 10, .inl (ftIns rf n (ftIdx pf (nf 0) n) 0)))] H := hP
    have hD : va_D A [(a0, .inr (5, [.ref ag, .ref am, .ref ad, .ref b0, .int (nI tn), .int v1, .int v2, .int v3, .int v4])), (am, .inl (cI, 3, .inl nf)), (ad, .inl (cI, 3, .inl (ftPut 3 td (nI j) 1))), (b0, .inr (4, [.int len, .int att, .int en, .int (nI (n + 1)), .ref bk, .ref bp, .ref bl, .ref br])), (bk, .inl (cI, 10, .inl (ftIns kf n (ftIdx pf (nf 0) n) ((nI j) - 3)))), (bp, .inl (cI, 10, .inl (ftIns pf n (ftIdx pf (nf 0) n) (nf 0)))), (bl, .inl (cI, 10, .inl (ftIns lf n (ftIdx pf (nf 0) n) (nf 1)))), (br, .inl (cI, 10, .inl (ftIns rf n (ftIdx pf (nf 0) n) 0)))] := hD
    refine lv_pop hx hb dX5_build_115 rfl ?_
    obtain ⟨u9, hu9⟩ : ∃ u9 : Nat × (Nat → Int32) × (Nat → Nat → Int32), u9 = (n + 1, (fun k => match k with | 0 => len | 1 => att | _ => en), (fun k => match k with | 0 => (ftPut 3 td (nI j) 1) | 1 => (ftIns kf n (ftIdx pf (nf 0) n) ((nI j) - 3)) | 2 => (ftIns pf n (ftIdx pf (nf 0) n) (nf 0)) | 3 => (ftIns lf n (ftIdx pf (nf 0) n) (nf 1)) | _ => (ftIns rf n (ftIdx pf (nf 0) n) 0))) := ⟨_, rfl⟩
    have hw9 : ([(a0, .inr (5, [.ref ag, .ref am, .ref ad, .ref b0, .int (nI tn), .int v1, .int v2, .int v3, .int v4])), (am, .inl (cI, 3, .inl nf)), (ad, .inl (cI, 3, .inl (ftPut 3 td (nI j) 1))), (b0, .inr (4, [.int len, .int att, .int en, .int (nI (n + 1)), .ref bk, .ref bp, .ref bl, .ref br])), (bk, .inl (cI, 10, .inl (ftIns kf n (ftIdx pf (nf 0) n) ((nI j) - 3)))), (bp, .inl (cI, 10, .inl (ftIns pf n (ftIdx pf (nf 0) n) (nf 0)))), (bl, .inl (cI, 10, .inl (ftIns lf n (ftIdx pf (nf 0) n) (nf 1)))), (br, .inl (cI, 10, .inl (ftIns rf n (ftIdx pf (nf 0) n) 0)))] : va_W) = [(a0, .inr (5, [.ref ag, .ref am, .ref ad, .ref b0, .int (nI tn), .int v1, .int v2, .int v3, .int v4])), (am, .inl (cI, 3, .inl nf)), (ad, .inl (cI, 3, .inl (u9.2.2 0))), (b0, .inr (4, [.int (u9.2.1 0), .int (u9.2.1 1), .int (u9.2.1 2), .int (nI u9.1), .ref bk, .ref bp, .ref bl, .ref br])), (bk, .inl (cI, 10, .inl (u9.2.2 1))), (bp, .inl (cI, 10, .inl (u9.2.2 2))), (bl, .inl (cI, 10, .inl (u9.2.2 3))), (br, .inl (cI, 10, .inl (u9.2.2 4)))] := by subst hu9; rfl
    rw [hw9] at hP hD
    have hf9_0 : ftLR (if nI j < 3 then upd mm j (nf 0) else ftAdd mm n (nI j - 3) (nf 0) (nf 1) (if nI j = 4 then nf 2 else 0)) (u9.2.1 0) (u9.2.1 1) (u9.2.1 2) u9.1 (u9.2.2 1) (u9.2.2 2) (u9.2.2 3) (u9.2.2 4) := by rw [hu9, hBL]; exact hfin
    have hf9_1 : ftTd (u9.2.2 0) (h ||| 2 ^ j) := by rw [hu9]; exact htd9
    exact W.vret hx hb hr (fun t ht hW => ⟨⟨u9, rfl, ⟨hf9_0, hf9_1⟩, by rw [ht]; exact hP, by rw [hAe]; exact hD⟩, by rw [hAe]; exact hS.F ht⟩) hS.2.2 dX5_build_116
  · have h4 : nI j = 4 := by
      have q := ft_eqN (b := 4) (a := j) (by omega) (by omega)
      match j, hj3, hj with
      | 3, _, _ => exact absurd c97 (by decide)
      | 4, _, _ => rfl
      | 5, _, _ => exact absurd c97 (by decide)
    have hBL : (if nI j < 3 then upd mm j (nf 0) else ftAdd mm n (nI j - 3) (nf 0) (nf 1) (if nI j = 4 then nf 2 else 0)) = ftAdd mm n (nI j - 3) (nf 0) (nf 1) (nf 2) := by rw [if_neg hnl, if_pos h4]
    have hfin := ftLR_add (kd := nI j - 3) (x := nf 0) (lo := nf 1) (re := nf 2) hLR (by omega) hasc (fun t ht q => hd1 ⟨t, ht, q⟩)
    refine lv_aload_n hx hb dX5_build_100 rfl (lv_at hl 2 rfl) ?_
    refine va_get (D := D) (ci := 5) (v := .ref am) (C := RX5) (T := TX5) (N := 9) hx hb hts (by decide +kernel) hown hK hP 0 rfl rfl 1 (by decide) (hts (.fieldLink RX5 15 "FiberTrace$LinkText" "numbers" "[I") (by decide +kernel)) (fun _ h9 => h9) rfl dX5_build_101 ?_
    refine lv_iconst (v := 2) hx hb dX5_build_104 (by decide) ?_
    refine ft_csi (r := ftAt 3 nf 2) (va_runSN (As := [.ref am, .int 2]) (rest := [.int (nf 1), .int (nf 0), .int ((nI j) - 3), .ref b0]) ⟨hx, hb, hml, hown, hts⟩ (c_X10_at l D cI cS am 3 nf 2 (by first | assumption | omega)) ⟨va_cnB 2 hts gX5_build_X10_at_n93 rfl rfl rfl (hKK.2 _ (List.mem_of_getElem? (i := 8) rfl)) (hts (.initialized RX10) (by decide +kernel)) (by decide +kernel) ⟨Nat.le_of_ble_eq_true rfl, Nat.le_of_ble_eq_true rfl⟩, hts (.static yX10_at) (by decide +kernel), trivial⟩ (ft_preRO hP hKK [1] rfl) rfl rfl hl.1 rfl (lv_room (Nat.le_of_ble_eq_true rfl)) dX5_build_105 ⟨Nat.le_of_ble_eq_true rfl, Nat.le_of_ble_eq_true rfl⟩) ?_
    refine ft_top (y := nf 2) (ftAt_N (k := 2) (by omega) (by omega)) ?_
    refine lv_goto (tgt := 112) hx hb dX5_build_108 (by decide) ?_
    refine ft_ci (r := nI (ftIdx pf (nf 0) n)) (wc := [(b0, .inr (4, [.int len, .int att, .int en, .int (nI n), .ref bk, .ref bp, .ref bl, .ref br])), (bk, .inl (cI, 10, .inl kf)), (bp, .inl (cI, 10, .inl pf)), (bl, .inl (cI, 10, .inl lf)), (br, .inl (cI, 10, .inl rf))]) (wr := [(a0, .inr (5, [.ref ag, .ref am, .ref ad, .ref b0, .int (nI tn), .int v1, .int v2, .int v3, .int v4])), (am, .inl (cI, 3, .inl nf)), (ad, .inl (cI, 3, .inl (ftPut 3 td (nI j) 1)))]) (w1 := [(b0, .inr (4, [.int len, .int att, .int en, .int (nI (n + 1)), .ref bk, .ref bp, .ref bl, .ref br])), (bk, .inl (cI, 10, .inl (ftIns kf n (ftIdx pf (nf 0) n) ((nI j) - 3)))), (bp, .inl (cI, 10, .inl (ftIns pf n (ftIdx pf (nf 0) n) (nf 0)))), (bl, .inl (cI, 10, .inl (ftIns lf n (ftIdx pf (nf 0) n) (nf 1)))), (br, .inl (cI, 10, .inl (ftIns rf n (ftIdx pf (nf 0) n) (nf 2))))]) (ws1 := [(a0, .inr (5, [.ref ag, .ref am, .ref ad, .ref b0, .int (nI tn), .int v1, .int v2, .int v3, .int v4])), (am, .inl (cI, 3, .inl nf)), (ad, .inl (cI, 3, .inl (ftPut 3 td (nI j) 1))), (b0, .inr (4, [.int len, .int att, .int en, .int (nI (n + 1)), .ref bk, .ref bp, .ref bl, .ref br])), (bk, .inl (cI, 10, .inl (ftIns kf n (ftIdx pf (nf 0) n) ((nI j) - 3)))), (bp, .inl (cI, 10, .inl (ftIns pf n (ftIdx pf (nf 0) n) (nf 0)))), (bl, .inl (cI, 10, .inl (ftIns lf n (ftIdx pf (nf 0) n) (nf 1)))), (br, .inl (cI, 10, .inl (ftIns rf n (ftIdx pf (nf 0) n) (nf 2))))]) (va_runV (C := RX4) (As := [.int ((nI j) - 3), .int (nf 0), .int (nf 1), .int (nf 2)]) (rest := []) ⟨hx, hb, hml, hown, hts⟩ (c_X4_insert l D cI cS H.size b0 len att en n bk bp bl br kf pf lf rf ((nI j) - 3) (nf 0) (nf 1) (nf 2) (by omega)) (cwV 4 hts gX5_build_X4_insert rfl rfl rfl (by decide +kernel) ⟨Nat.le_of_ble_eq_true rfl, Nat.le_of_ble_eq_true rfl⟩) (ft_preRWV (ci := 4) (q0 := 3) hP hD hKK [3, 4, 5, 6, 7] rfl rfl rfl rfl rfl) rfl rfl hl.1 rfl (lv_room (Nat.le_of_ble_eq_true rfl)) dX5_build_112 ⟨Nat.le_of_ble_eq_true rfl, Nat.le_of_ble_eq_true rfl⟩) hP hD hS hA [3, 4, 5, 6, 7] [0, 1, 2] [0, 1, 2, 3, 4, 5, 6, 7] rfl rfl (by decide) (by decide) (by decide) rfl rfl (fun H locs hP hD hS => ?_)
    have hP : va_P D vwCl [(a0, .inr (5, [.ref ag, .ref am, .ref ad, .ref b0, .int (nI tn), .int v1, .int v2, .int v3, .int v4])), (am, .inl (cI, 3, .inl nf)), (ad, .inl (cI, 3, .inl (ftPut 3 td (nI j) 1))), (b0, .inr (4, [.int len, .int att, .int en, .int (nI (n + 1)), .ref bk, .ref bp, .ref bl, .ref br])), (bk, .inl (cI, 10, .inl (ftIns kf n (ftIdx pf (nf 0) n) ((nI j) - 3)))), (bp, .inl (cI, 10, .inl (ftIns pf n (ftIdx pf (nf 0) n) (nf 0)))), (bl, .inl (cI, 10, .inl (ftIns lf n (ftIdx pf (nf 0) n) (nf 1)))), (br, .inl (cI, 10, .inl (ftIns rf n (ftIdx pf (nf 0) n) (nf 2))))] H := hP
    have hD : va_D A [(a0, .inr (5, [.ref ag, .ref am, .ref ad, .ref b0, .int (nI tn), .int v1, .int v2, .int v3, .int v4])), (am, .inl (cI, 3, .inl nf)), (ad, .inl (cI, 3, .inl (ftPut 3 td (nI j) 1))), (b0, .inr (4, [.int len, .int att, .int en, .int (nI (n + 1)), .ref bk, .ref bp, .ref bl, .ref br])), (bk, .inl (cI, 10, .inl (ftIns kf n (ftIdx pf (nf 0) n) ((nI j) - 3)))), (bp, .inl (cI, 10, .inl (ftIns pf n (ftIdx pf (nf 0) n) (nf 0)))), (bl, .inl (cI, 10, .inl (ftIns lf n (ftIdx pf (nf 0) n) (nf 1)))), (br, .inl (cI, 10, .inl (ftIns rf n (ftIdx pf (nf 0) n) (nf 2))))] := hD
    refine lv_pop hx hb dX5_build_115 rfl ?_
    obtain ⟨u9, hu9⟩ : ∃ u9 : Nat × (Nat → Int32) × (Nat → Nat → Int32), u9 = (n + 1, (fun k => match k with | 0 => len | 1 => att | _ => en), (fun k => match k with | 0 => (ftPut 3 td (nI j) 1) | 1 => (ftIns kf n (ftIdx pf (nf 0) n) ((nI j) - 3)) | 2 => (ftIns pf n (ftIdx pf (nf 0) n) (nf 0)) | 3 => (ftIns lf n (ftIdx pf (nf 0) n) (nf 1)) | _ => (ftIns rf n (ftIdx pf (nf 0) n) (nf 2)))) := ⟨_, rfl⟩
    have hw9 : ([(a0, .inr (5, [.ref ag, .ref am, .ref ad, .ref b0, .int (nI tn), .int v1, .int v2, .int v3, .int v4])), (am, .inl (cI, 3, .inl nf)), (ad, .inl (cI, 3, .inl (ftPut 3 td (nI j) 1))), (b0, .inr (4, [.int len, .int att, .int en, .int (nI (n + 1)), .ref bk, .ref bp, .ref bl, .ref br])), (bk, .inl (cI, 10, .inl (ftIns kf n (ftIdx pf (nf 0) n) ((nI j) - 3)))), (bp, .inl (cI, 10, .inl (ftIns pf n (ftIdx pf (nf 0) n) (nf 0)))), (bl, .inl (cI, 10, .inl (ftIns lf n (ftIdx pf (nf 0) n) (nf 1)))), (br, .inl (cI, 10, .inl (ftIns rf n (ftIdx pf (nf 0) n) (nf 2))))] : va_W) = [(a0, .inr (5, [.ref ag, .ref am, .ref ad, .ref b0, .int (nI tn), .int v1, .int v2, .int v3, .int v4])), (am, .inl (cI, 3, .inl nf)), (ad, .inl (cI, 3, .inl (u9.2.2 0))), (b0, .inr (4, [.int (u9.2.1 0), .int (u9.2.1 1), .int (u9.2.1 2), .int (nI u9.1), .ref bk, .ref bp, .ref bl, .ref br])), (bk, .inl (cI, 10, .inl (u9.2.2 1))), (bp, .inl (cI, 10, .inl (u9.2.2 2))), (bl, .inl (cI, 10, .inl (u9.2.2 3))), (br, .inl (cI, 10, .inl (u9.2.2 4)))] := by subst hu9; rfl
    rw [hw9] at hP hD
    have hf9_0 : ftLR (if nI j < 3 then upd mm j (nf 0) else ftAdd mm n (nI j - 3) (nf 0) (nf 1) (if nI j = 4 then nf 2 else 0)) (u9.2.1 0) (u9.2.1 1) (u9.2.1 2) u9.1 (u9.2.2 1) (u9.2.2 2) (u9.2.2 3) (u9.2.2 4) := by rw [hu9, hBL]; exact hfin
    have hf9_1 : ftTd (u9.2.2 0) (h ||| 2 ^ j) := by rw [hu9]; exact htd9
    exact W.vret hx hb hr (fun t ht hW => ⟨⟨u9, rfl, ⟨hf9_0, hf9_1⟩, by rw [ht]; exact hP, by rw [hAe]; exact hD⟩, by rw [hAe]; exact hS.F ht⟩) hS.2.2 dX5_build_116
end
section
/-! the class's texts: an item, the text -/
theorem ftFst_c (P : Nat → Prop) : ∀ k, k < 2 ^ 31 → (ftFst P k = -1 ∧ ∀ t, t < k → ¬ P t) ∨ ∃ t, t < k ∧ P t ∧ ftFst P k = nI t := by
  intro k
  induction k with
  | zero => intro _; exact Or.inl ⟨rfl, fun t h => absurd h (Nat.not_lt_zero t)⟩
  | succ k ih =>
    intro hk
    rcases ih (by omega) with ⟨h1, h2⟩ | ⟨t, h1, h2, h3⟩
    · rcases Classical.em (P k) with q | q
      · exact Or.inr ⟨k, by omega, q, ftFst_some (by omega) q h2 (k + 1) (by omega)⟩
      · refine Or.inl ⟨ftFst_none (fun t ht => ?_), fun t ht => ?_⟩
        · rcases Nat.lt_succ_iff_lt_or_eq.mp ht with r | r
          · exact h2 t r
          · subst r; exact q
        · rcases Nat.lt_succ_iff_lt_or_eq.mp ht with r | r
          · exact h2 t r
          · subst r; exact q
    · refine Or.inr ⟨t, by omega, h2, ?_⟩
      rw [ftFst, h3, if_neg (ft_nIm1 (by omega))]
theorem ftNs_4 : ∀ j, j < 6 → 2 < ftNs (nI j) → j = 4 := by decide
/-- what the class tells of an item whose word is the j-th -/
def ftItC (tx : Nat → Int32) (tn : Nat) (m : Nat → Int32) (h p j : Nat) : Prop := (∀ i, i < ftNs (nI j) → ftNok tx tn (ftNP tx tn (p + ftWs j) i)) ∧ (∀ i, i < ftNs (nI j) → ftRt (nI j) i (ftNv tx tn (ftNP tx tn (p + ftWs j) i)) (m 0)) ∧ ftAl (nI j) m h (ftNv tx tn (ftNP tx tn (p + ftWs j) 0)) ∧ ftC tx tn (ftNP tx tn (p + ftWs j) (ftNs (nI j))) = 59
theorem ftItC_ok {tx : Nat → Int32} {tn : Nat} {m : Nat → Int32} {h p j : Nat} (hj : j < 6) (hr : ftRun tx tn p = ftWs j) (hW : ftIw tx tn p = nI j) : ftItOk tx tn m h p ↔ ftItC tx tn m h p j := by
  unfold ftItOk ftItC ftIv ftIp
  rw [hW, hr]
  constructor
  · rintro ⟨-, b, c, d, e, f⟩
    exact ⟨b, c, d, by rw [ftC_in e]; exact f⟩
  · rintro ⟨b, c, d, e⟩
    have hlt : ftNP tx tn (p + ftWs j) (ftNs (nI j)) < tn := by
      rcases Nat.lt_or_ge (ftNP tx tn (p + ftWs j) (ftNs (nI j))) tn with q | q
      · exact q
      · rw [ftC_out q] at e; exact absurd e (by decide)
    exact ⟨nI_pos (by omega), b, c, d, hlt, by rw [ftC_in hlt] at e; exact e⟩
theorem ftItP_j {tx : Nat → Int32} {tn p j : Nat} (hr : ftRun tx tn p = ftWs j) (hW : ftIw tx tn p = nI j) : ftItP tx tn p = ftNP tx tn (p + ftWs j) (ftNs (nI j)) + 1 := by unfold ftItP ftIp; rw [hW, hr]
theorem ftItM_j {tx : Nat → Int32} {tn p j n : Nat} {m : Nat → Int32} (hj : j < 6) (hr : ftRun tx tn p = ftWs j) (hW : ftIw tx tn p = nI j) (hn : (m 3).toNatClampNeg = n) {nf : Nat → Int32} (h0 : nf 0 = ftNv tx tn (ftNP tx tn (p + ftWs j) 0)) (h1 : ¬ nI j < 3 → nf 1 = ftNv tx tn (ftNP tx tn (p + ftWs j) 1)) (h2 : nI j = 4 → nf 2 = ftNv tx tn (ftNP tx tn (p + ftWs j) 2)) :
    (if nI j < 3 then upd m j (nf 0) else ftAdd m n (nI j - 3) (nf 0) (nf 1) (if nI j = 4 then nf 2 else 0)) = ftItM tx tn m p := by
  unfold ftItM ftIv ftIp
  rw [hW, hr, hn, h0, nI_clamp (by omega)]
  by_cases c : nI j < 3
  · rw [if_pos c, if_pos c]
  · rw [if_neg c, if_neg c, h1 c]
    by_cases d : nI j = 4
    · rw [if_pos d, if_pos d, h2 d]
    · rw [if_neg d, if_neg d]
theorem ftItH_j {tx : Nat → Int32} {tn h p j : Nat} (hj : j < 6) (hW : ftIw tx tn p = nI j) : ftItH tx tn h p = h ||| 2 ^ j := by unfold ftItH; rw [hW, nI_clamp (by omega)]
set_option maxHeartbeats 4000000 in
set_option maxRecDepth 100000 in
theorem c_X5_readItem (l : Launch) (D : va_G) (cI cS : ClassId) (sz : Nat) (sK sV : Nat → Nat) (a0 ag am ad b0 : Nat) (tn : Nat) (v1 v2 v3 : Int32) (sp : Nat) (len att en : Int32) (n bk bp bl br : Nat) (kf pf lf rf : Nat → Int32) (tx nf td : Nat → Int32) (mm : Nat → Int32) (h : Nat) (htn : tn ≤ 120) (hsp : sp ≤ tn) (hh : h < 64) (hLR : ftLR mm len att en n kf pf lf rf) (hTd : ftTd td h) (hLf : ftLf mm) : Met l yX5_readItem wsX5_readItem ({ frames := 7, cells := 0, slots := 0, locals := 161 }) (ftRWS D cI cS sK sV [.ref a0] [(a0, .inr (5, [.ref ag, .ref am, .ref ad, .ref b0, .int (nI tn), .int 0, .int v2, .int v3, .int (nI sp)])), (ag, .inl (cI, 120, .inl tx)), (am, .inl (cI, 3, .inl nf)), (ad, .inl (cI, 3, .inl td)), (b0, .inr (4, [.int len, .int att, .int en, .int (nI n), .ref bk, .ref bp, .ref bl, .ref br])), (bk, .inl (cI, 10, .inl kf)), (bp, .inl (cI, 10, .inl pf)), (bl, .inl (cI, 10, .inl lf)), (br, .inl (cI, 10, .inl rf))] sz) (ftXv D [(a0, .inr (5, [.ref ag, .ref am, .ref ad, .ref b0, .int (nI tn), .int 0, .int v2, .int v3, .int (nI sp)])), (ag, .inl (cI, 120, .inl tx)), (am, .inl (cI, 3, .inl nf)), (ad, .inl (cI, 3, .inl td)), (b0, .inr (4, [.int len, .int att, .int en, .int (nI n), .ref bk, .ref bp, .ref bl, .ref br])), (bk, .inl (cI, 10, .inl kf)), (bp, .inl (cI, 10, .inl pf)), (bl, .inl (cI, 10, .inl lf)), (br, .inl (cI, 10, .inl rf))] sz (fun (u : Nat × (Nat → Int32) × (Nat → Nat → Int32)) => (ftItOk tx tn mm h sp → (u.2.1 0 = 0 ∧ u.2.1 3 = nI (ftItP tx tn sp) ∧ ftLR (ftItM tx tn mm sp) (u.2.1 4) (u.2.1 5) (u.2.1 6) u.1 (u.2.2 2) (u.2.2 3) (u.2.2 4) (u.2.2 5) ∧ ftTd (u.2.2 1) (ftItH tx tn h sp))) ∧ (¬ ftItOk tx tn mm h sp → ¬ u.2.1 0 = 0)) (fun (u : Nat × (Nat → Int32) × (Nat → Nat → Int32)) => [(a0, .inr (5, [.ref ag, .ref am, .ref ad, .ref b0, .int (nI tn), .int (u.2.1 0), .int (u.2.1 1), .int (u.2.1 2), .int (u.2.1 3)])), (ag, .inl (cI, 120, .inl tx)), (am, .inl (cI, 3, .inl (u.2.2 0))), (ad, .inl (cI, 3, .inl (u.2.2 1))), (b0, .inr (4, [.int (u.2.1 4), .int (u.2.1 5), .int (u.2.1 6), .int (nI u.1), .ref bk, .ref bp, .ref bl, .ref br])), (bk, .inl (cI, 10, .inl (u.2.2 2))), (bp, .inl (cI, 10, .inl (u.2.2 3))), (bl, .inl (cI, 10, .inl (u.2.2 4))), (br, .inl (cI, 10, .inl (u.2.2 5)))])) 0 0 (va_A [(a0, .inr (5, [.ref ag, .ref am, .ref ad, .ref b0, .int (nI tn), .int 0, .int v2, .int v3, .int (nI sp)])), (ag, .inl (cI, 120, .inl tx)), (am, .inl (cI, 3, .inl nf)), (ad, .inl (cI, 3, .inl td)), (b0, .inr (4, [.int len, .int att, .int en, .int (nI n), .ref bk, .ref bp, .ref bl, .ref br])), (bk, .inl (cI, 10, .inl kf)), (bp, .inl (cI, 10, .inl pf)), (bl, .inl (cI, 10, .inl lf)), (br, .inl (cI, 10, .inl rf))] sz) := by
  refine Met.ofW (cc := cX5_readItem) (maxL := 6) (ret := none) (by decide) rfl ?_
  intro p e s m args below meth c s₁ B hml hv
  obtain ⟨rfl, hsz, hP, hKK, hD0, hSt⟩ := hv
  have hK := hKK.1
  have hx := B.exec
  have hb := B.bytes
  have hr := B.returns
  have hts := atoms_spec (ws := wsX5_readItem) B.pre
  have hown : s.vm.findClass RX5 = some m.cls := findClass_of_methodNamed B.named
  have hlocks := B.notSynchronized
  subst hsz
  have hD := hD0.self (sz := s.heap.size)
  generalize hAe : va_A [(a0, .inr (5, [.ref ag, .ref am, .ref ad, .ref b0, .int (nI tn), .int 0, .int v2, .int v3, .int (nI sp)])), (ag, .inl (cI, 120, .inl tx)), (am, .inl (cI, 3, .inl nf)), (ad, .inl (cI, 3, .inl td)), (b0, .inr (4, [.int len, .int att, .int en, .int (nI n), .ref bk, .ref bp, .ref bl, .ref br])), (bk, .inl (cI, 10, .inl kf)), (bp, .inl (cI, 10, .inl pf)), (bl, .inl (cI, 10, .inl lf)), (br, .inl (cI, 10, .inl rf))] s.heap.size = A at hD hSt ⊢
  have hA : ∀ q : Nat, s.heap.size ≤ q → A q := fun q h => by rw [← hAe]; exact Or.inr h
  have hS : va_S A s.heap s.heap [] := va_S.rf
  have hD : va_D A [(a0, .inr (5, [.ref ag, .ref am, .ref ad, .ref b0, .int (nI tn), .int 0, .int v2, .int v3, .int (nI sp)])), (ag, .inl (cI, 120, .inl tx)), (am, .inl (cI, 3, .inl nf)), (ad, .inl (cI, 3, .inl td)), (b0, .inr (4, [.int len, .int att, .int en, .int (nI n), .ref bk, .ref bp, .ref bl, .ref br])), (bk, .inl (cI, 10, .inl kf)), (bp, .inl (cI, 10, .inl pf)), (bl, .inl (cI, 10, .inl lf)), (br, .inl (cI, 10, .inl rf))] := hD
  have hP : va_P D vwCl [(a0, .inr (5, [.ref ag, .ref am, .ref ad, .ref b0, .int (nI tn), .int 0, .int v2, .int v3, .int (nI sp)])), (ag, .inl (cI, 120, .inl tx)), (am, .inl (cI, 3, .inl nf)), (ad, .inl (cI, 3, .inl td)), (b0, .inr (4, [.int len, .int att, .int en, .int (nI n), .ref bk, .ref bp, .ref bl, .ref br])), (bk, .inl (cI, 10, .inl kf)), (bp, .inl (cI, 10, .inl pf)), (bl, .inl (cI, 10, .inl lf)), (br, .inl (cI, 10, .inl rf))] s.heap := hP
  have hl := lv_entry ([.ref a0]) (n := 6) (Nat.le_of_ble_eq_true rfl)
  rw [lg_entry_eq]
  generalize (lg_sl ([.ref a0]) ++ List.replicate (6 - (lg_sl ([.ref a0])).length) Slot.unset).toArray = ls at hl ⊢
  have hl : lv_has ls 6 [(0, .ref a0)] := hl
  have hn := hLR.2.2.2.2.1
  have hm3 := hLR.2.2.2.1
  have hcn : (mm 3).toNatClampNeg = n := ftLR_n hLR
  refine lv_aload_n hx hb dX5_readItem_0 rfl (lv_at hl 0 rfl) ?_
  refine va_get (D := D) (ci := 5) (v := .int (nI sp)) (C := RX5) (T := TX5) (N := 9) hx hb hts (by decide +kernel) hown hK hP 0 rfl rfl 8 (by decide) (hts (.fieldLink RX5 42 "FiberTrace$LinkText" "position" "I") (by decide +kernel)) (fun _ h9 => h9) rfl dX5_readItem_1 ?_
  refine lv_istore_n (lv' := [(1, .int (nI sp)), (0, .ref a0)]) hx hb dX5_readItem_4 rfl hl (by decide) rfl (fun ls hl => ?_)
  refine lv_aload_n hx hb dX5_readItem_5 rfl (lv_at hl 1 rfl) ?_
  refine lv_iload_n hx hb dX5_readItem_6 rfl (lv_at hl 0 rfl) ?_
  refine ft_csi (r := ftFst (ftCW9 tx tn sp) 6) (va_runV (C := RX5) (As := [.int (nI sp)]) (rest := []) ⟨hx, hb, hml, hown, hts⟩ (c_X5_wordAt l D cI cS sK sV a0 ag am ad b0 tn 0 v2 v3 (nI sp) tx sp htn hsp) (cwV 1 hts gX5_readItem_X5_wordAt rfl rfl rfl (by decide +kernel) ⟨Nat.le_of_ble_eq_true rfl, Nat.le_of_ble_eq_true rfl⟩) (ft_preROVS (ci := 5) (q0 := 0) hP hKK hSt hS [0, 1] rfl rfl rfl) rfl rfl hl.1 rfl (lv_room (Nat.le_of_ble_eq_true rfl)) dX5_readItem_7 ⟨Nat.le_of_ble_eq_true rfl, Nat.le_of_ble_eq_true rfl⟩) ?_
  refine lv_istore_n (lv' := [(2, .int (ftFst (ftCW9 tx tn sp) 6)), (1, .int (nI sp)), (0, .ref a0)]) hx hb dX5_readItem_10 rfl hl (by decide) rfl (fun ls hl => ?_)
  refine lv_iload_n hx hb dX5_readItem_11 rfl (lv_at hl 0 rfl) ?_
  refine ft_csi (r := nI (ftNs (ftFst (ftCW9 tx tn sp) 6))) (va_runS (As := [.int (ftFst (ftCW9 tx tn sp) 6)]) (rest := []) ⟨hx, hb, hml, hown, hts⟩ (c_X5_numbersOf l D cI cS (ftFst (ftCW9 tx tn sp) 6)) (va_cwS 1 hts gX5_readItem_X5_numbersOf rfl rfl rfl (by decide +kernel) ⟨Nat.le_of_ble_eq_true rfl, Nat.le_of_ble_eq_true rfl⟩) (ft_preRO hP hKK [] rfl) rfl rfl hl.1 rfl (lv_room (Nat.le_of_ble_eq_true rfl)) dX5_readItem_12 ⟨Nat.le_of_ble_eq_true rfl, Nat.le_of_ble_eq_true rfl⟩) ?_
  refine lv_istore_n (lv' := [(3, .int (nI (ftNs (ftFst (ftCW9 tx tn sp) 6)))), (2, .int (ftFst (ftCW9 tx tn sp) 6)), (1, .int (nI sp)), (0, .ref a0)]) hx hb dX5_readItem_15 rfl hl (by decide) rfl (fun ls hl => ?_)
  refine lv_iload_n hx hb dX5_readItem_16 rfl (lv_at hl 1 rfl) ?_
  refine lv_iconst (v := (-1)) hx hb dX5_readItem_17 (by decide) ?_
  refine lv_icmp_ne (tgt := 29) hx hb dX5_readItem_18 (by decide) (fun c18 => ?_) (fun c18 => ?_)
  · obtain ⟨j, hj, hcw, hW⟩ := (ftFst_c (ftCW9 tx tn sp) 6 (by omega)).resolve_left (fun q => c18 q.1)
    rw [hW] at hl
    obtain ⟨hrun, hIw, hpl⟩ := ftCW_run hj hcw
    have hns3 := ftNs_le (nI j)
    have hns1 := ftNs_ge (nI j)
    have hns4 := ftNs_4 j hj
    have hIff := ftItC_ok (m := mm) (h := h) hj hrun hIw
    refine lv_aload_n hx hb dX5_readItem_29 rfl (lv_at hl 3 rfl) ?_
    refine lv_dup hx hb dX5_readItem_30 rfl ?_
    refine va_get (D := D) (ci := 5) (v := .int (nI sp)) (C := RX5) (T := TX5) (N := 9) hx hb hts (by decide +kernel) hown hK hP 0 rfl rfl 8 (by decide) (hts (.fieldLink RX5 42 "FiberTrace$LinkText" "position" "I") (by decide +kernel)) (fun _ h9 => h9) rfl dX5_readItem_31 ?_
    refine lv_iload_n hx hb dX5_readItem_34 rfl (lv_at hl 1 rfl) ?_
    refine ft_csr (r := sK j) (va_runS (As := [.int (nI j)]) (rest := [.int (nI sp), .ref a0]) ⟨hx, hb, hml, hown, hts⟩ (c_X5_nameOf l D cI cS sK sV j hj) (va_cwS 1 hts gX5_readItem_X5_nameOf rfl rfl rfl (by decide +kernel) ⟨Nat.le_of_ble_eq_true rfl, Nat.le_of_ble_eq_true rfl⟩) (ft_preROS hP hKK hSt hS [] rfl) rfl rfl hl.1 rfl (lv_room (Nat.le_of_ble_eq_true rfl)) dX5_readItem_35 ⟨Nat.le_of_ble_eq_true rfl, Nat.le_of_ble_eq_true rfl⟩) ?_
    refine ft_csi (r := nI (ftWs j)) (va_runV (C := RJ0) (As := []) (rest := [.int (nI sp), .ref a0]) ⟨hx, hb, hml, hown, hts⟩ (c_J0_length_8abf5 l D cI cS sK sV j hj) (cwV 0 hts gX5_readItem_J0_length_8abf5 rfl rfl rfl (by decide +kernel) ⟨Nat.le_of_ble_eq_true rfl, Nat.le_of_ble_eq_true rfl⟩) (ft_preJ (a := sK j) hP hKK hSt hS (vk_recv hSt.1 (by omega) hS) [] rfl) rfl rfl hl.1 rfl (lv_room (Nat.le_of_ble_eq_true rfl)) dX5_readItem_38 ⟨Nat.le_of_ble_eq_true rfl, Nat.le_of_ble_eq_true rfl⟩) ?_
    refine lv_iadd hx hb dX5_readItem_41 ?_
    refine ft_top (y := nI (sp + (ftWs j))) (ft_addN sp (ftWs j)) ?_
    refine va_put (D := D) (ci := 5) (v := .int (nI (sp + (ftWs j)))) (ty := .int) (C := RX5) (T := TX5) (N := 9) hx hb hts (by decide +kernel) tyX5 tyX5_ok nmX5 hown hK hP hD hS 0 rfl rfl 8 (by decide) (hts (.fieldLink RX5 42 "FiberTrace$LinkText" "position" "I") (by decide +kernel)) (fun _ h9 => h9) rfl (by decide +kernel) rfl rfl (Nat.le_of_ble_eq_true rfl) dX5_readItem_42 (fun H locs hP hD hS => ?_)
    have hP : va_P D vwCl [(a0, .inr (5, [.ref ag, .ref am, .ref ad, .ref b0, .int (nI tn), .int 0, .int v2, .int v3, .int (nI (sp + (ftWs j)))])), (ag, .inl (cI, 120, .inl tx)), (am, .inl (cI, 3, .inl nf)), (ad, .inl (cI, 3, .inl td)), (b0, .inr (4, [.int len, .int att, .int en, .int (nI n), .ref bk, .ref bp, .ref bl, .ref br])), (bk, .inl (cI, 10, .inl kf)), (bp, .inl (cI, 10, .inl pf)), (bl, .inl (cI, 10, .inl lf)), (br, .inl (cI, 10, .inl rf))] H := hP
    have hD : va_D A [(a0, .inr (5, [.ref ag, .ref am, .ref ad, .ref b0, .int (nI tn), .int 0, .int v2, .int v3, .int (nI (sp + (ftWs j)))])), (ag, .inl (cI, 120, .inl tx)), (am, .inl (cI, 3, .inl nf)), (ad, .inl (cI, 3, .inl td)), (b0, .inr (4, [.int len, .int att, .int en, .int (nI n), .ref bk, .ref bp, .ref bl, .ref br])), (bk, .inl (cI, 10, .inl kf)), (bp, .inl (cI, 10, .inl pf)), (bl, .inl (cI, 10, .inl lf)), (br, .inl (cI, 10, .inl rf))] := hD
    refine lv_aload_n hx hb dX5_readItem_45 rfl (lv_at hl 3 rfl) ?_
    refine lv_iload_n hx hb dX5_readItem_46 rfl (lv_at hl 0 rfl) ?_
    refine ft_ci (r := if ftNm tx tn (sp + (ftWs j)) (ftNs (nI j)) = (ftNs (nI j)) then -1 else nI (ftNm tx tn (sp + (ftWs j)) (ftNs (nI j)))) (wc := [(a0, .inr (5, [.ref ag, .ref am, .ref ad, .ref b0, .int (nI tn), .int 0, .int v2, .int v3, .int (nI (sp + (ftWs j)))])), (ag, .inl (cI, 120, .inl tx)), (am, .inl (cI, 3, .inl nf))]) (wr := [(ad, .inl (cI, 3, .inl td)), (b0, .inr (4, [.int len, .int att, .int en, .int (nI n), .ref bk, .ref bp, .ref bl, .ref br])), (bk, .inl (cI, 10, .inl kf)), (bp, .inl (cI, 10, .inl pf)), (bl, .inl (cI, 10, .inl lf)), (br, .inl (cI, 10, .inl rf))]) (w1 := [(a0, .inr (5, [.ref ag, .ref am, .ref ad, .ref b0, .int (nI tn), .int 0, .int v2, .int v3, .int (nI (ftNP tx tn (sp + (ftWs j)) (min (ftNm tx tn (sp + (ftWs j)) (ftNs (nI j)) + 1) (ftNs (nI j)))))])), (ag, .inl (cI, 120, .inl tx)), (am, .inl (cI, 3, .inl (ftNfs tx tn (sp + (ftWs j)) nf (min (ftNm tx tn (sp + (ftWs j)) (ftNs (nI j)) + 1) (ftNs (nI j))))))]) (ws1 := [(a0, .inr (5, [.ref ag, .ref am, .ref ad, .ref b0, .int (nI tn), .int 0, .int v2, .int v3, .int (nI (ftNP tx tn (sp + (ftWs j)) (min (ftNm tx tn (sp + (ftWs j)) (ftNs (nI j)) + 1) (ftNs (nI j)))))])), (ag, .inl (cI, 120, .inl tx)), (am, .inl (cI, 3, .inl (ftNfs tx tn (sp + (ftWs j)) nf (min (ftNm tx tn (sp + (ftWs j)) (ftNs (nI j)) + 1) (ftNs (nI j)))))), (ad, .inl (cI, 3, .inl td)), (b0, .inr (4, [.int len, .int att, .int en, .int (nI n), .ref bk, .ref bp, .ref bl, .ref br])), (bk, .inl (cI, 10, .inl kf)), (bp, .inl (cI, 10, .inl pf)), (bl, .inl (cI, 10, .inl lf)), (br, .inl (cI, 10, .inl rf))]) (va_runV (C := RX5) (As := [.int (nI (ftNs (nI j)))]) (rest := []) ⟨hx, hb, hml, hown, hts⟩ (c_X5_readNumbers l D cI cS H.size a0 ag am ad b0 tn 0 v2 v3 (sp + (ftWs j)) tx nf (ftNs (nI j)) htn hpl hns3) (cwV 1 hts gX5_readItem_X5_readNumbers rfl rfl rfl (by decide +kernel) ⟨Nat.le_of_ble_eq_true rfl, Nat.le_of_ble_eq_true rfl⟩) (ft_preRWV (ci := 5) (q0 := 0) hP hD hKK [0, 1, 2] rfl rfl rfl rfl rfl) rfl rfl hl.1 rfl (lv_room (Nat.le_of_ble_eq_true rfl)) dX5_readItem_47 ⟨Nat.le_of_ble_eq_true rfl, Nat.le_of_ble_eq_true rfl⟩) hP hD hS hA [0, 1, 2] [3, 4, 5, 6, 7, 8] [6, 7, 8, 0, 1, 2, 3, 4, 5] rfl rfl (by decide) (by decide) (by decide) rfl rfl (fun H locs hP hD hS => ?_)
    have hP : va_P D vwCl [(a0, .inr (5, [.ref ag, .ref am, .ref ad, .ref b0, .int (nI tn), .int 0, .int v2, .int v3, .int (nI (ftNP tx tn (sp + (ftWs j)) (min (ftNm tx tn (sp + (ftWs j)) (ftNs (nI j)) + 1) (ftNs (nI j)))))])), (ag, .inl (cI, 120, .inl tx)), (am, .inl (cI, 3, .inl (ftNfs tx tn (sp + (ftWs j)) nf (min (ftNm tx tn (sp + (ftWs j)) (ftNs (nI j)) + 1) (ftNs (nI j)))))), (ad, .inl (cI, 3, .inl td)), (b0, .inr (4, [.int len, .int att, .int en, .int (nI n), .ref bk, .ref bp, .ref bl, .ref br])), (bk, .inl (cI, 10, .inl kf)), (bp, .inl (cI, 10, .inl pf)), (bl, .inl (cI, 10, .inl lf)), (br, .inl (cI, 10, .inl rf))] H := hP
    have hD : va_D A [(a0, .inr (5, [.ref ag, .ref am, .ref ad, .ref b0, .int (nI tn), .int 0, .int v2, .int v3, .int (nI (ftNP tx tn (sp + (ftWs j)) (min (ftNm tx tn (sp + (ftWs j)) (ftNs (nI j)) + 1) (ftNs (nI j)))))])), (ag, .inl (cI, 120, .inl tx)), (am, .inl (cI, 3, .inl (ftNfs tx tn (sp + (ftWs j)) nf (min (ftNm tx tn (sp + (ftWs j)) (ftNs (nI j)) + 1) (ftNs (nI j)))))), (ad, .inl (cI, 3, .inl td)), (b0, .inr (4, [.int len, .int att, .int en, .int (nI n), .ref bk, .ref bp, .ref bl, .ref br])), (bk, .inl (cI, 10, .inl kf)), (bp, .inl (cI, 10, .inl pf)), (bl, .inl (cI, 10, .inl lf)), (br, .inl (cI, 10, .inl rf))] := hD
    obtain ⟨m9, hm9⟩ : ∃ m9, m9 = ftNm tx tn (sp + ftWs j) (ftNs (nI j)) := ⟨_, rfl⟩
    rw [← hm9] at hP hD ⊢
    have hP : va_P D vwCl [(a0, .inr (5, [.ref ag, .ref am, .ref ad, .ref b0, .int (nI tn), .int 0, .int v2, .int v3, .int (nI (ftNP tx tn (sp + (ftWs j)) (min (m9 + 1) (ftNs (nI j)))))])), (ag, .inl (cI, 120, .inl tx)), (am, .inl (cI, 3, .inl (ftNfs tx tn (sp + (ftWs j)) nf (min (m9 + 1) (ftNs (nI j)))))), (ad, .inl (cI, 3, .inl td)), (b0, .inr (4, [.int len, .int att, .int en, .int (nI n), .ref bk, .ref bp, .ref bl, .ref br])), (bk, .inl (cI, 10, .inl kf)), (bp, .inl (cI, 10, .inl pf)), (bl, .inl (cI, 10, .inl lf)), (br, .inl (cI, 10, .inl rf))] H := hP
    have hD : va_D A [(a0, .inr (5, [.ref ag, .ref am, .ref ad, .ref b0, .int (nI tn), .int 0, .int v2, .int v3, .int (nI (ftNP tx tn (sp + (ftWs j)) (min (m9 + 1) (ftNs (nI j)))))])), (ag, .inl (cI, 120, .inl tx)), (am, .inl (cI, 3, .inl (ftNfs tx tn (sp + (ftWs j)) nf (min (m9 + 1) (ftNs (nI j)))))), (ad, .inl (cI, 3, .inl td)), (b0, .inr (4, [.int len, .int att, .int en, .int (nI n), .ref bk, .ref bp, .ref bl, .ref br])), (bk, .inl (cI, 10, .inl kf)), (bp, .inl (cI, 10, .inl pf)), (bl, .inl (cI, 10, .inl lf)), (br, .inl (cI, 10, .inl rf))] := hD
    have hm9l : m9 ≤ ftNs (nI j) := by rw [hm9]; exact ftIni_le _ _
    refine lv_istore (lv' := [(4, .int (if m9 = (ftNs (nI j)) then -1 else nI (m9))), (3, .int (nI (ftNs (nI j)))), (2, .int (nI j)), (1, .int (nI sp)), (0, .ref a0)]) hx hb dX5_readItem_50 hl (by decide) rfl (fun ls hl => ?_)
    refine lv_aload_n hx hb dX5_readItem_52 rfl (lv_at hl 4 rfl) ?_
    refine lv_iload_n hx hb dX5_readItem_53 rfl (lv_at hl 2 rfl) ?_
    refine lv_iload_n hx hb dX5_readItem_54 rfl (lv_at hl 1 rfl) ?_
    refine ft_csi (r := ftFst (fun i => ¬ ftRt (nI j) i ((ftNfs tx tn (sp + (ftWs j)) nf (min (m9 + 1) (ftNs (nI j)))) i) len) (ftNs (nI j))) (va_runV (C := RX5) (As := [.int (nI j), .int (nI (ftNs (nI j)))]) (rest := []) ⟨hx, hb, hml, hown, hts⟩ (c_X5_firstOutside l D cI cS a0 ag am ad b0 tn 0 v2 v3 (nI (ftNP tx tn (sp + (ftWs j)) (min (m9 + 1) (ftNs (nI j))))) len att en n bk bp bl br (ftNfs tx tn (sp + (ftWs j)) nf (min (m9 + 1) (ftNs (nI j)))) j (ftNs (nI j)) hj hns3 hns4) (cwV 2 hts gX5_readItem_X5_firstOutside rfl rfl rfl (by decide +kernel) ⟨Nat.le_of_ble_eq_true rfl, Nat.le_of_ble_eq_true rfl⟩) (ft_preROV (ci := 5) (q0 := 0) hP hKK [0, 2, 4] rfl rfl rfl) rfl rfl hl.1 rfl (lv_room (Nat.le_of_ble_eq_true rfl)) dX5_readItem_55 ⟨Nat.le_of_ble_eq_true rfl, Nat.le_of_ble_eq_true rfl⟩) ?_
    refine lv_istore (lv' := [(5, .int (ftFst (fun i => ¬ ftRt (nI j) i ((ftNfs tx tn (sp + (ftWs j)) nf (min (m9 + 1) (ftNs (nI j)))) i) len) (ftNs (nI j)))), (4, .int (if m9 = (ftNs (nI j)) then -1 else nI (m9))), (3, .int (nI (ftNs (nI j)))), (2, .int (nI j)), (1, .int (nI sp)), (0, .ref a0)]) hx hb dX5_readItem_58 hl (by decide) rfl (fun ls hl => ?_)
    refine lv_iload hx hb dX5_readItem_60 (lv_at hl 1 rfl) ?_
    refine lv_iconst (v := (-1)) hx hb dX5_readItem_62 (by decide) ?_
    refine lv_icmp_eq (tgt := 79) hx hb dX5_readItem_63 (by decide) (fun c63 => ?_) (fun c63 => ?_)
    · have hmn : m9 = ftNs (nI j) := by
        rcases Classical.em (m9 = ftNs (nI j)) with q | q
        · exact q
        · rw [if_neg q] at c63; exact absurd c63 (ft_nIm1 (by omega))
      have hallk : ∀ i, i < ftNs (nI j) → ftNok tx tn (ftNP tx tn (sp + ftWs j) i) := fun i hi => ftIni_yes (fun i => ftNok tx tn (ftNP tx tn (sp + ftWs j) i)) (ftNs (nI j)) i (by have e : ftIni (fun i => ftNok tx tn (ftNP tx tn (sp + ftWs j) i)) (ftNs (nI j)) = m9 := hm9.symm; rw [e, hmn]; exact hi)
      have hmin : min (m9 + 1) (ftNs (nI j)) = ftNs (nI j) := by omega
      have hval : ∀ i, i < ftNs (nI j) → (ftNfs tx tn (sp + ftWs j) nf (min (m9 + 1) (ftNs (nI j)))) i = ftNv tx tn (ftNP tx tn (sp + ftWs j) i) := fun i hi => by rw [hmin]; exact ftNfs_at _ hallk i hi
      refine lv_iload hx hb dX5_readItem_79 (lv_at hl 0 rfl) ?_
      refine lv_iconst (v := (-1)) hx hb dX5_readItem_81 (by decide) ?_
      refine lv_icmp_eq (tgt := 98) hx hb dX5_readItem_82 (by decide) (fun c82 => ?_) (fun c82 => ?_)
      · have hrt : ∀ i, i < ftNs (nI j) → ftRt (nI j) i (ftNv tx tn (ftNP tx tn (sp + ftWs j) i)) (mm 0) := by
          intro i hi
          rcases ftFst_c (fun i => ¬ ftRt (nI j) i ((ftNfs tx tn (sp + ftWs j) nf (min (m9 + 1) (ftNs (nI j)))) i) len) (ftNs (nI j)) (by omega) with ⟨-, r⟩ | ⟨t, r1, -, r3⟩
          · have r2 := Classical.byContradiction (r i hi)
            rw [hval i hi, ← hLR.1] at r2; exact r2
          · rw [r3] at c82; exact absurd c82 (ft_nIm1 (by omega))
        have hv0 := hval 0 (by omega)
        refine lv_aload_n hx hb dX5_readItem_98 rfl (lv_at hl 5 rfl) ?_
        refine lv_iload_n hx hb dX5_readItem_99 rfl (lv_at hl 3 rfl) ?_
        refine ft_csi (r := ftB (ftAl (nI j) mm h ((ftNfs tx tn (sp + (ftWs j)) nf (min (m9 + 1) (ftNs (nI j)))) 0))) (va_runV (C := RX5) (As := [.int (nI j)]) (rest := []) ⟨hx, hb, hml, hown, hts⟩ (c_X5_isAllowed l D cI cS a0 ag am ad b0 tn 0 v2 v3 (nI (ftNP tx tn (sp + (ftWs j)) (min (m9 + 1) (ftNs (nI j))))) len att en n bk bp bl br kf pf lf rf (ftNfs tx tn (sp + (ftWs j)) nf (min (m9 + 1) (ftNs (nI j)))) td mm j h hj hh hLR hTd) (cwV 1 hts gX5_readItem_X5_isAllowed rfl rfl rfl (by decide +kernel) ⟨Nat.le_of_ble_eq_true rfl, Nat.le_of_ble_eq_true rfl⟩) (ft_preROV (ci := 5) (q0 := 0) hP hKK [0, 2, 3, 4, 5, 6, 7, 8] rfl rfl rfl) rfl rfl hl.1 rfl (lv_room (Nat.le_of_ble_eq_true rfl)) dX5_readItem_100 ⟨Nat.le_of_ble_eq_true rfl, Nat.le_of_ble_eq_true rfl⟩) ?_
        refine lv_if_ne (tgt := 116) hx hb dX5_readItem_103 (by decide) (fun c103 => ?_) (fun c103 => ?_)
        · replace c103 := ftB_ne c103
          have hal := c103
          refine lv_aload_n hx hb dX5_readItem_116 rfl (lv_at hl 5 rfl) ?_
          refine lv_aload_n hx hb dX5_readItem_117 rfl (lv_at hl 5 rfl) ?_
          refine va_get (D := D) (ci := 5) (v := .int (nI (ftNP tx tn (sp + (ftWs j)) (min (m9 + 1) (ftNs (nI j)))))) (C := RX5) (T := TX5) (N := 9) hx hb hts (by decide +kernel) hown hK hP 0 rfl rfl 8 (by decide) (hts (.fieldLink RX5 42 "FiberTrace$LinkText" "position" "I") (by decide +kernel)) (fun _ h9 => h9) rfl dX5_readItem_118 ?_
          have hps9 : ftNP tx tn (sp + ftWs j) (min (m9 + 1) (ftNs (nI j))) ≤ tn := ftNP_le hpl _
          refine ft_csi (r := ftC tx tn (ftNP tx tn (sp + (ftWs j)) (min (m9 + 1) (ftNs (nI j))))) (va_runV (C := RX5) (As := [.int (nI (ftNP tx tn (sp + (ftWs j)) (min (m9 + 1) (ftNs (nI j)))))]) (rest := []) ⟨hx, hb, hml, hown, hts⟩ (c_X5_signAt l D cI cS a0 ag am ad b0 tn 0 v2 v3 (nI (ftNP tx tn (sp + (ftWs j)) (min (m9 + 1) (ftNs (nI j))))) tx (ftNP tx tn (sp + (ftWs j)) (min (m9 + 1) (ftNs (nI j)))) (by first | assumption | omega) (by first | assumption | omega)) (cwV 1 hts gX5_readItem_X5_signAt rfl rfl rfl (by decide +kernel) ⟨Nat.le_of_ble_eq_true rfl, Nat.le_of_ble_eq_true rfl⟩) (ft_preROV (ci := 5) (q0 := 0) hP hKK [0, 1] rfl rfl rfl) rfl rfl hl.1 rfl (lv_room (Nat.le_of_ble_eq_true rfl)) dX5_readItem_121 ⟨Nat.le_of_ble_eq_true rfl, Nat.le_of_ble_eq_true rfl⟩) ?_
          refine lv_bipush (v := 59) hx hb dX5_readItem_124 (by decide) ?_
          refine lv_icmp_eq (tgt := 139) hx hb dX5_readItem_126 (by decide) (fun c126 => ?_) (fun c126 => ?_)
          · have hcl := c126
            rw [hmin] at hcl
            have hall : ftItOk tx tn mm h sp := hIff.mpr ⟨hallk, hrt, by rw [← hv0]; exact hal, hcl⟩
            refine lv_aload_n hx hb dX5_readItem_139 rfl (lv_at hl 5 rfl) ?_
            refine lv_dup hx hb dX5_readItem_140 rfl ?_
            refine va_get (D := D) (ci := 5) (v := .int (nI (ftNP tx tn (sp + (ftWs j)) (min (m9 + 1) (ftNs (nI j)))))) (C := RX5) (T := TX5) (N := 9) hx hb hts (by decide +kernel) hown hK hP 0 rfl rfl 8 (by decide) (hts (.fieldLink RX5 42 "FiberTrace$LinkText" "position" "I") (by decide +kernel)) (fun _ h9 => h9) rfl dX5_readItem_141 ?_
            refine lv_iconst (v := 1) hx hb dX5_readItem_144 (by decide) ?_
            refine lv_iadd hx hb dX5_readItem_145 ?_
            refine ft_top (y := nI ((ftNP tx tn (sp + (ftWs j)) (min (m9 + 1) (ftNs (nI j)))) + 1)) (ft_addN (ftNP tx tn (sp + (ftWs j)) (min (m9 + 1) (ftNs (nI j)))) 1) ?_
            refine va_put (D := D) (ci := 5) (v := .int (nI ((ftNP tx tn (sp + (ftWs j)) (min (m9 + 1) (ftNs (nI j)))) + 1))) (ty := .int) (C := RX5) (T := TX5) (N := 9) hx hb hts (by decide +kernel) tyX5 tyX5_ok nmX5 hown hK hP hD hS 0 rfl rfl 8 (by decide) (hts (.fieldLink RX5 42 "FiberTrace$LinkText" "position" "I") (by decide +kernel)) (fun _ h9 => h9) rfl (by decide +kernel) rfl rfl (Nat.le_of_ble_eq_true rfl) dX5_readItem_146 (fun H locs hP hD hS => ?_)
            have hP : va_P D vwCl [(a0, .inr (5, [.ref ag, .ref am, .ref ad, .ref b0, .int (nI tn), .int 0, .int v2, .int v3, .int (nI ((ftNP tx tn (sp + (ftWs j)) (min (m9 + 1) (ftNs (nI j)))) + 1))])), (ag, .inl (cI, 120, .inl tx)), (am, .inl (cI, 3, .inl (ftNfs tx tn (sp + (ftWs j)) nf (min (m9 + 1) (ftNs (nI j)))))), (ad, .inl (cI, 3, .inl td)), (b0, .inr (4, [.int len, .int att, .int en, .int (nI n), .ref bk, .ref bp, .ref bl, .ref br])), (bk, .inl (cI, 10, .inl kf)), (bp, .inl (cI, 10, .inl pf)), (bl, .inl (cI, 10, .inl lf)), (br, .inl (cI, 10, .inl rf))] H := hP
            have hD : va_D A [(a0, .inr (5, [.ref ag, .ref am, .ref ad, .ref b0, .int (nI tn), .int 0, .int v2, .int v3, .int (nI ((ftNP tx tn (sp + (ftWs j)) (min (m9 + 1) (ftNs (nI j)))) + 1))])), (ag, .inl (cI, 120, .inl tx)), (am, .inl (cI, 3, .inl (ftNfs tx tn (sp + (ftWs j)) nf (min (m9 + 1) (ftNs (nI j)))))), (ad, .inl (cI, 3, .inl td)), (b0, .inr (4, [.int len, .int att, .int en, .int (nI n), .ref bk, .ref bp, .ref bl, .ref br])), (bk, .inl (cI, 10, .inl kf)), (bp, .inl (cI, 10, .inl pf)), (bl, .inl (cI, 10, .inl lf)), (br, .inl (cI, 10, .inl rf))] := hD
            refine lv_aload_n hx hb dX5_readItem_149 rfl (lv_at hl 5 rfl) ?_
            refine lv_iload_n hx hb dX5_readItem_150 rfl (lv_at hl 3 rfl) ?_
            refine ft_cxv (S := Nat × (Nat → Int32) × (Nat → Nat → Int32)) (wc := [(a0, .inr (5, [.ref ag, .ref am, .ref ad, .ref b0, .int (nI tn), .int 0, .int v2, .int v3, .int (nI ((ftNP tx tn (sp + (ftWs j)) (min (m9 + 1) (ftNs (nI j)))) + 1))])), (am, .inl (cI, 3, .inl (ftNfs tx tn (sp + (ftWs j)) nf (min (m9 + 1) (ftNs (nI j)))))), (ad, .inl (cI, 3, .inl td)), (b0, .inr (4, [.int len, .int att, .int en, .int (nI n), .ref bk, .ref bp, .ref bl, .ref br])), (bk, .inl (cI, 10, .inl kf)), (bp, .inl (cI, 10, .inl pf)), (bl, .inl (cI, 10, .inl lf)), (br, .inl (cI, 10, .inl rf))]) (wr := [(ag, .inl (cI, 120, .inl tx))]) (w1 := (fun (u151 : Nat × (Nat → Int32) × (Nat → Nat → Int32)) => [(a0, .inr (5, [.ref ag, .ref am, .ref ad, .ref b0, .int (nI tn), .int 0, .int v2, .int v3, .int (nI ((ftNP tx tn (sp + (ftWs j)) (min (m9 + 1) (ftNs (nI j)))) + 1))])), (am, .inl (cI, 3, .inl (ftNfs tx tn (sp + (ftWs j)) nf (min (m9 + 1) (ftNs (nI j)))))), (ad, .inl (cI, 3, .inl (u151.2.2 0))), (b0, .inr (4, [.int (u151.2.1 0), .int (u151.2.1 1), .int (u151.2.1 2), .int (nI u151.1), .ref bk, .ref bp, .ref bl, .ref br])), (bk, .inl (cI, 10, .inl (u151.2.2 1))), (bp, .inl (cI, 10, .inl (u151.2.2 2))), (bl, .inl (cI, 10, .inl (u151.2.2 3))), (br, .inl (cI, 10, .inl (u151.2.2 4)))])) (ws1 := (fun (u151 : Nat × (Nat → Int32) × (Nat → Nat → Int32)) => [(a0, .inr (5, [.ref ag, .ref am, .ref ad, .ref b0, .int (nI tn), .int 0, .int v2, .int v3, .int (nI ((ftNP tx tn (sp + (ftWs j)) (min (m9 + 1) (ftNs (nI j)))) + 1))])), (ag, .inl (cI, 120, .inl tx)), (am, .inl (cI, 3, .inl (ftNfs tx tn (sp + (ftWs j)) nf (min (m9 + 1) (ftNs (nI j)))))), (ad, .inl (cI, 3, .inl (u151.2.2 0))), (b0, .inr (4, [.int (u151.2.1 0), .int (u151.2.1 1), .int (u151.2.1 2), .int (nI u151.1), .ref bk, .ref bp, .ref bl, .ref br])), (bk, .inl (cI, 10, .inl (u151.2.2 1))), (bp, .inl (cI, 10, .inl (u151.2.2 2))), (bl, .inl (cI, 10, .inl (u151.2.2 3))), (br, .inl (cI, 10, .inl (u151.2.2 4)))])) (va_runV (C := RX5) (As := [.int (nI j)]) (rest := []) ⟨hx, hb, hml, hown, hts⟩ (c_X5_build l D cI cS H.size a0 ag am ad b0 tn 0 v2 v3 (nI ((ftNP tx tn (sp + (ftWs j)) (min (m9 + 1) (ftNs (nI j)))) + 1)) len att en n bk bp bl br kf pf lf rf (ftNfs tx tn (sp + (ftWs j)) nf (min (m9 + 1) (ftNs (nI j)))) td mm j h hj hh hLR hTd hLf hal) (cwV 1 hts gX5_readItem_X5_build rfl rfl rfl (by decide +kernel) ⟨Nat.le_of_ble_eq_true rfl, Nat.le_of_ble_eq_true rfl⟩) (ft_preRWV (ci := 5) (q0 := 0) hP hD hKK [0, 2, 3, 4, 5, 6, 7, 8] rfl rfl rfl rfl rfl) rfl rfl hl.1 rfl (lv_room (Nat.le_of_ble_eq_true rfl)) dX5_readItem_151 ⟨Nat.le_of_ble_eq_true rfl, Nat.le_of_ble_eq_true rfl⟩) hP hD hS hA [0, 2, 3, 4, 5, 6, 7, 8] [1] [1, 0, 2, 3, 4, 5, 6, 7, 8] rfl rfl (by decide) (by decide) (by decide) (fun _ => rfl) (fun _ => rfl) (fun u151 hu151 H locs hP hD hS => ?_)
            obtain ⟨hlr151, htd151⟩ := hu151
            have hP : va_P D vwCl [(a0, .inr (5, [.ref ag, .ref am, .ref ad, .ref b0, .int (nI tn), .int 0, .int v2, .int v3, .int (nI ((ftNP tx tn (sp + (ftWs j)) (min (m9 + 1) (ftNs (nI j)))) + 1))])), (ag, .inl (cI, 120, .inl tx)), (am, .inl (cI, 3, .inl (ftNfs tx tn (sp + (ftWs j)) nf (min (m9 + 1) (ftNs (nI j)))))), (ad, .inl (cI, 3, .inl (u151.2.2 0))), (b0, .inr (4, [.int (u151.2.1 0), .int (u151.2.1 1), .int (u151.2.1 2), .int (nI u151.1), .ref bk, .ref bp, .ref bl, .ref br])), (bk, .inl (cI, 10, .inl (u151.2.2 1))), (bp, .inl (cI, 10, .inl (u151.2.2 2))), (bl, .inl (cI, 10, .inl (u151.2.2 3))), (br, .inl (cI, 10, .inl (u151.2.2 4)))] H := hP
            have hD : va_D A [(a0, .inr (5, [.ref ag, .ref am, .ref ad, .ref b0, .int (nI tn), .int 0, .int v2, .int v3, .int (nI ((ftNP tx tn (sp + (ftWs j)) (min (m9 + 1) (ftNs (nI j)))) + 1))])), (ag, .inl (cI, 120, .inl tx)), (am, .inl (cI, 3, .inl (ftNfs tx tn (sp + (ftWs j)) nf (min (m9 + 1) (ftNs (nI j)))))), (ad, .inl (cI, 3, .inl (u151.2.2 0))), (b0, .inr (4, [.int (u151.2.1 0), .int (u151.2.1 1), .int (u151.2.1 2), .int (nI u151.1), .ref bk, .ref bp, .ref bl, .ref br])), (bk, .inl (cI, 10, .inl (u151.2.2 1))), (bp, .inl (cI, 10, .inl (u151.2.2 2))), (bl, .inl (cI, 10, .inl (u151.2.2 3))), (br, .inl (cI, 10, .inl (u151.2.2 4)))] := hD
            obtain ⟨u9, hu9⟩ : ∃ u9 : Nat × (Nat → Int32) × (Nat → Nat → Int32), u9 = (u151.1, (fun k => match k with | 0 => 0 | 1 => v2 | 2 => v3 | 3 => (nI ((ftNP tx tn (sp + (ftWs j)) (min (m9 + 1) (ftNs (nI j)))) + 1)) | 4 => (u151.2.1 0) | 5 => (u151.2.1 1) | _ => (u151.2.1 2)), (fun k => match k with | 0 => (ftNfs tx tn (sp + (ftWs j)) nf (min (m9 + 1) (ftNs (nI j)))) | 1 => (u151.2.2 0) | 2 => (u151.2.2 1) | 3 => (u151.2.2 2) | 4 => (u151.2.2 3) | _ => (u151.2.2 4))) := ⟨_, rfl⟩
            have hw9 : ([(a0, .inr (5, [.ref ag, .ref am, .ref ad, .ref b0, .int (nI tn), .int 0, .int v2, .int v3, .int (nI ((ftNP tx tn (sp + (ftWs j)) (min (m9 + 1) (ftNs (nI j)))) + 1))])), (ag, .inl (cI, 120, .inl tx)), (am, .inl (cI, 3, .inl (ftNfs tx tn (sp + (ftWs j)) nf (min (m9 + 1) (ftNs (nI j)))))), (ad, .inl (cI, 3, .inl (u151.2.2 0))), (b0, .inr (4, [.int (u151.2.1 0), .int (u151.2.1 1), .int (u151.2.1 2), .int (nI u151.1), .ref bk, .ref bp, .ref bl, .ref br])), (bk, .inl (cI, 10, .inl (u151.2.2 1))), (bp, .inl (cI, 10, .inl (u151.2.2 2))), (bl, .inl (cI, 10, .inl (u151.2.2 3))), (br, .inl (cI, 10, .inl (u151.2.2 4)))] : va_W) = [(a0, .inr (5, [.ref ag, .ref am, .ref ad, .ref b0, .int (nI tn), .int (u9.2.1 0), .int (u9.2.1 1), .int (u9.2.1 2), .int (u9.2.1 3)])), (ag, .inl (cI, 120, .inl tx)), (am, .inl (cI, 3, .inl (u9.2.2 0))), (ad, .inl (cI, 3, .inl (u9.2.2 1))), (b0, .inr (4, [.int (u9.2.1 4), .int (u9.2.1 5), .int (u9.2.1 6), .int (nI u9.1), .ref bk, .ref bp, .ref bl, .ref br])), (bk, .inl (cI, 10, .inl (u9.2.2 2))), (bp, .inl (cI, 10, .inl (u9.2.2 3))), (bl, .inl (cI, 10, .inl (u9.2.2 4))), (br, .inl (cI, 10, .inl (u9.2.2 5)))] := by subst hu9; rfl
            rw [hw9] at hP hD
            have hf9_0 : ftItOk tx tn mm h sp → (u9.2.1 0 = 0 ∧ u9.2.1 3 = nI (ftItP tx tn sp) ∧ ftLR (ftItM tx tn mm sp) (u9.2.1 4) (u9.2.1 5) (u9.2.1 6) u9.1 (u9.2.2 2) (u9.2.2 3) (u9.2.2 4) (u9.2.2 5) ∧ ftTd (u9.2.2 1) (ftItH tx tn h sp)) := by intro q; first | exact absurd q hnok | (rw [hu9]; exact ⟨rfl, by rw [ftItP_j hrun hIw]; show nI (ftNP tx tn (sp + ftWs j) (min (m9 + 1) (ftNs (nI j))) + 1) = _; rw [hmin], by rw [← ftItM_j hj hrun hIw hcn hv0 (fun r => hval 1 (ftNs_2 r)) (fun r => hval 2 (by rw [ftNs_3 r]; omega))]; exact hlr151, by rw [ftItH_j hj hIw]; exact htd151⟩)
            have hf9_1 : ¬ ftItOk tx tn mm h sp → ¬ u9.2.1 0 = 0 := by intro q; first | exact absurd hall q | (rw [hu9]; first | exact (show ¬ ((1:Int32) = 0) by decide) | exact (show ¬ ((2:Int32) = 0) by decide) | exact (show ¬ ((3:Int32) = 0) by decide) | exact (show ¬ ((4:Int32) = 0) by decide) | exact (show ¬ ((5:Int32) = 0) by decide) | exact (show ¬ ((6:Int32) = 0) by decide) | exact (show ¬ ((7:Int32) = 0) by decide) | exact (show ¬ ((8:Int32) = 0) by decide))
            exact W.vret hx hb hr (fun t ht hW => ⟨⟨u9, rfl, ⟨hf9_0, hf9_1⟩, by rw [ht]; exact hP, by rw [hAe]; exact hD⟩, by rw [hAe]; exact hS.F ht⟩) hS.2.2 dX5_readItem_154
          · have hnok : ¬ ftItOk tx tn mm h sp := fun q => c126 (by rw [hmin]; exact (hIff.mp q).2.2.2)
            refine lv_aload_n hx hb dX5_readItem_129 rfl (lv_at hl 5 rfl) ?_
            refine lv_iload_n hx hb dX5_readItem_130 rfl (lv_at hl 4 rfl) ?_
            refine lv_iconst (v := 5) hx hb dX5_readItem_131 (by decide) ?_
            refine lv_iload_n hx hb dX5_readItem_132 rfl (lv_at hl 2 rfl) ?_
            refine ft_cv (wc := [(a0, .inr (5, [.ref ag, .ref am, .ref ad, .ref b0, .int (nI tn), .int 0, .int v2, .int v3, .int (nI (ftNP tx tn (sp + (ftWs j)) (min (m9 + 1) (ftNs (nI j)))))]))]) (wr := [(ag, .inl (cI, 120, .inl tx)), (am, .inl (cI, 3, .inl (ftNfs tx tn (sp + (ftWs j)) nf (min (m9 + 1) (ftNs (nI j)))))), (ad, .inl (cI, 3, .inl td)), (b0, .inr (4, [.int len, .int att, .int en, .int (nI n), .ref bk, .ref bp, .ref bl, .ref br])), (bk, .inl (cI, 10, .inl kf)), (bp, .inl (cI, 10, .inl pf)), (bl, .inl (cI, 10, .inl lf)), (br, .inl (cI, 10, .inl rf))]) (w1 := [(a0, .inr (5, [.ref ag, .ref am, .ref ad, .ref b0, .int (nI tn), .int 5, .int (nI sp), .int (nI (ftNs (nI j))), .int (nI (ftNP tx tn (sp + (ftWs j)) (min (m9 + 1) (ftNs (nI j)))))]))]) (ws1 := [(a0, .inr (5, [.ref ag, .ref am, .ref ad, .ref b0, .int (nI tn), .int 5, .int (nI sp), .int (nI (ftNs (nI j))), .int (nI (ftNP tx tn (sp + (ftWs j)) (min (m9 + 1) (ftNs (nI j)))))])), (ag, .inl (cI, 120, .inl tx)), (am, .inl (cI, 3, .inl (ftNfs tx tn (sp + (ftWs j)) nf (min (m9 + 1) (ftNs (nI j)))))), (ad, .inl (cI, 3, .inl td)), (b0, .inr (4, [.int len, .int att, .int en, .int (nI n), .ref bk, .ref bp, .ref bl, .ref br])), (bk, .inl (cI, 10, .inl kf)), (bp, .inl (cI, 10, .inl pf)), (bl, .inl (cI, 10, .inl lf)), (br, .inl (cI, 10, .inl rf))]) (va_runV (C := RX5) (As := [.int (nI sp), .int 5, .int (nI (ftNs (nI j)))]) (rest := []) ⟨hx, hb, hml, hown, hts⟩ (c_X5_blame l D cI cS H.size a0 ag am ad b0 tn 0 v2 v3 (nI (ftNP tx tn (sp + (ftWs j)) (min (m9 + 1) (ftNs (nI j))))) (nI sp) 5 (nI (ftNs (nI j)))) (cwV 3 hts gX5_readItem_X5_blame rfl rfl rfl (by decide +kernel) ⟨Nat.le_of_ble_eq_true rfl, Nat.le_of_ble_eq_true rfl⟩) (ft_preRWV (ci := 5) (q0 := 0) hP hD hKK [0] rfl rfl rfl rfl rfl) rfl rfl hl.1 rfl (lv_room (Nat.le_of_ble_eq_true rfl)) dX5_readItem_133 ⟨Nat.le_of_ble_eq_true rfl, Nat.le_of_ble_eq_true rfl⟩) hP hD hS hA [0] [1, 2, 3, 4, 5, 6, 7, 8] [8, 0, 1, 2, 3, 4, 5, 6, 7] rfl rfl (by decide) (by decide) (by decide) rfl rfl (fun H locs hP hD hS => ?_)
            have hP : va_P D vwCl [(a0, .inr (5, [.ref ag, .ref am, .ref ad, .ref b0, .int (nI tn), .int 5, .int (nI sp), .int (nI (ftNs (nI j))), .int (nI (ftNP tx tn (sp + (ftWs j)) (min (m9 + 1) (ftNs (nI j)))))])), (ag, .inl (cI, 120, .inl tx)), (am, .inl (cI, 3, .inl (ftNfs tx tn (sp + (ftWs j)) nf (min (m9 + 1) (ftNs (nI j)))))), (ad, .inl (cI, 3, .inl td)), (b0, .inr (4, [.int len, .int att, .int en, .int (nI n), .ref bk, .ref bp, .ref bl, .ref br])), (bk, .inl (cI, 10, .inl kf)), (bp, .inl (cI, 10, .inl pf)), (bl, .inl (cI, 10, .inl lf)), (br, .inl (cI, 10, .inl rf))] H := hP
            have hD : va_D A [(a0, .inr (5, [.ref ag, .ref am, .ref ad, .ref b0, .int (nI tn), .int 5, .int (nI sp), .int (nI (ftNs (nI j))), .int (nI (ftNP tx tn (sp + (ftWs j)) (min (m9 + 1) (ftNs (nI j)))))])), (ag, .inl (cI, 120, .inl tx)), (am, .inl (cI, 3, .inl (ftNfs tx tn (sp + (ftWs j)) nf (min (m9 + 1) (ftNs (nI j)))))), (ad, .inl (cI, 3, .inl td)), (b0, .inr (4, [.int len, .int att, .int en, .int (nI n), .ref bk, .ref bp, .ref bl, .ref br])), (bk, .inl (cI, 10, .inl kf)), (bp, .inl (cI, 10, .inl pf)), (bl, .inl (cI, 10, .inl lf)), (br, .inl (cI, 10, .inl rf))] := hD
            refine lv_goto (tgt := 154) hx hb dX5_readItem_136 (by decide) ?_
            obtain ⟨u9, hu9⟩ : ∃ u9 : Nat × (Nat → Int32) × (Nat → Nat → Int32), u9 = (n, (fun k => match k with | 0 => 5 | 1 => (nI sp) | 2 => (nI (ftNs (nI j))) | 3 => (nI (ftNP tx tn (sp + (ftWs j)) (min (m9 + 1) (ftNs (nI j))))) | 4 => len | 5 => att | _ => en), (fun k => match k with | 0 => (ftNfs tx tn (sp + (ftWs j)) nf (min (m9 + 1) (ftNs (nI j)))) | 1 => td | 2 => kf | 3 => pf | 4 => lf | _ => rf)) := ⟨_, rfl⟩
            have hw9 : ([(a0, .inr (5, [.ref ag, .ref am, .ref ad, .ref b0, .int (nI tn), .int 5, .int (nI sp), .int (nI (ftNs (nI j))), .int (nI (ftNP tx tn (sp + (ftWs j)) (min (m9 + 1) (ftNs (nI j)))))])), (ag, .inl (cI, 120, .inl tx)), (am, .inl (cI, 3, .inl (ftNfs tx tn (sp + (ftWs j)) nf (min (m9 + 1) (ftNs (nI j)))))), (ad, .inl (cI, 3, .inl td)), (b0, .inr (4, [.int len, .int att, .int en, .int (nI n), .ref bk, .ref bp, .ref bl, .ref br])), (bk, .inl (cI, 10, .inl kf)), (bp, .inl (cI, 10, .inl pf)), (bl, .inl (cI, 10, .inl lf)), (br, .inl (cI, 10, .inl rf))] : va_W) = [(a0, .inr (5, [.ref ag, .ref am, .ref ad, .ref b0, .int (nI tn), .int (u9.2.1 0), .int (u9.2.1 1), .int (u9.2.1 2), .int (u9.2.1 3)])), (ag, .inl (cI, 120, .inl tx)), (am, .inl (cI, 3, .inl (u9.2.2 0))), (ad, .inl (cI, 3, .inl (u9.2.2 1))), (b0, .inr (4, [.int (u9.2.1 4), .int (u9.2.1 5), .int (u9.2.1 6), .int (nI u9.1), .ref bk, .ref bp, .ref bl, .ref br])), (bk, .inl (cI, 10, .inl (u9.2.2 2))), (bp, .inl (cI, 10, .inl (u9.2.2 3))), (bl, .inl (cI, 10, .inl (u9.2.2 4))), (br, .inl (cI, 10, .inl (u9.2.2 5)))] := by subst hu9; rfl
            rw [hw9] at hP hD
            have hf9_0 : ftItOk tx tn mm h sp → (u9.2.1 0 = 0 ∧ u9.2.1 3 = nI (ftItP tx tn sp) ∧ ftLR (ftItM tx tn mm sp) (u9.2.1 4) (u9.2.1 5) (u9.2.1 6) u9.1 (u9.2.2 2) (u9.2.2 3) (u9.2.2 4) (u9.2.2 5) ∧ ftTd (u9.2.2 1) (ftItH tx tn h sp)) := by intro q; first | exact absurd q hnok | (rw [hu9]; exact ⟨rfl, by rw [ftItP_j hrun hIw]; show nI (ftNP tx tn (sp + ftWs j) (min (m9 + 1) (ftNs (nI j))) + 1) = _; rw [hmin], by rw [← ftItM_j hj hrun hIw hcn hv0 (fun r => hval 1 (ftNs_2 r)) (fun r => hval 2 (by rw [ftNs_3 r]; omega))]; exact hlr151, by rw [ftItH_j hj hIw]; exact htd151⟩)
            have hf9_1 : ¬ ftItOk tx tn mm h sp → ¬ u9.2.1 0 = 0 := by intro q; first | exact absurd hall q | (rw [hu9]; first | exact (show ¬ ((1:Int32) = 0) by decide) | exact (show ¬ ((2:Int32) = 0) by decide) | exact (show ¬ ((3:Int32) = 0) by decide) | exact (show ¬ ((4:Int32) = 0) by decide) | exact (show ¬ ((5:Int32) = 0) by decide) | exact (show ¬ ((6:Int32) = 0) by decide) | exact (show ¬ ((7:Int32) = 0) by decide) | exact (show ¬ ((8:Int32) = 0) by decide))
            exact W.vret hx hb hr (fun t ht hW => ⟨⟨u9, rfl, ⟨hf9_0, hf9_1⟩, by rw [ht]; exact hP, by rw [hAe]; exact hD⟩, by rw [hAe]; exact hS.F ht⟩) hS.2.2 dX5_readItem_154
        · replace c103 := ftB_eq c103
          have hnok : ¬ ftItOk tx tn mm h sp := fun q => c103 (by rw [hv0]; exact (hIff.mp q).2.2.1)
          refine lv_aload_n hx hb dX5_readItem_106 rfl (lv_at hl 5 rfl) ?_
          refine lv_iload_n hx hb dX5_readItem_107 rfl (lv_at hl 4 rfl) ?_
          refine lv_iconst (v := 4) hx hb dX5_readItem_108 (by decide) ?_
          refine lv_iload_n hx hb dX5_readItem_109 rfl (lv_at hl 2 rfl) ?_
          refine ft_cv (wc := [(a0, .inr (5, [.ref ag, .ref am, .ref ad, .ref b0, .int (nI tn), .int 0, .int v2, .int v3, .int (nI (ftNP tx tn (sp + (ftWs j)) (min (m9 + 1) (ftNs (nI j)))))]))]) (wr := [(ag, .inl (cI, 120, .inl tx)), (am, .inl (cI, 3, .inl (ftNfs tx tn (sp + (ftWs j)) nf (min (m9 + 1) (ftNs (nI j)))))), (ad, .inl (cI, 3, .inl td)), (b0, .inr (4, [.int len, .int att, .int en, .int (nI n), .ref bk, .ref bp, .ref bl, .ref br])), (bk, .inl (cI, 10, .inl kf)), (bp, .inl (cI, 10, .inl pf)), (bl, .inl (cI, 10, .inl lf)), (br, .inl (cI, 10, .inl rf))]) (w1 := [(a0, .inr (5, [.ref ag, .ref am, .ref ad, .ref b0, .int (nI tn), .int 4, .int (nI sp), .int (nI (ftNs (nI j))), .int (nI (ftNP tx tn (sp + (ftWs j)) (min (m9 + 1) (ftNs (nI j)))))]))]) (ws1 := [(a0, .inr (5, [.ref ag, .ref am, .ref ad, .ref b0, .int (nI tn), .int 4, .int (nI sp), .int (nI (ftNs (nI j))), .int (nI (ftNP tx tn (sp + (ftWs j)) (min (m9 + 1) (ftNs (nI j)))))])), (ag, .inl (cI, 120, .inl tx)), (am, .inl (cI, 3, .inl (ftNfs tx tn (sp + (ftWs j)) nf (min (m9 + 1) (ftNs (nI j)))))), (ad, .inl (cI, 3, .inl td)), (b0, .inr (4, [.int len, .int att, .int en, .int (nI n), .ref bk, .ref bp, .ref bl, .ref br])), (bk, .inl (cI, 10, .inl kf)), (bp, .inl (cI, 10, .inl pf)), (bl, .inl (cI, 10, .inl lf)), (br, .inl (cI, 10, .inl rf))]) (va_runV (C := RX5) (As := [.int (nI sp), .int 4, .int (nI (ftNs (nI j)))]) (rest := []) ⟨hx, hb, hml, hown, hts⟩ (c_X5_blame l D cI cS H.size a0 ag am ad b0 tn 0 v2 v3 (nI (ftNP tx tn (sp + (ftWs j)) (min (m9 + 1) (ftNs (nI j))))) (nI sp) 4 (nI (ftNs (nI j)))) (cwV 3 hts gX5_readItem_X5_blame rfl rfl rfl (by decide +kernel) ⟨Nat.le_of_ble_eq_true rfl, Nat.le_of_ble_eq_true rfl⟩) (ft_preRWV (ci := 5) (q0 := 0) hP hD hKK [0] rfl rfl rfl rfl rfl) rfl rfl hl.1 rfl (lv_room (Nat.le_of_ble_eq_true rfl)) dX5_readItem_110 ⟨Nat.le_of_ble_eq_true rfl, Nat.le_of_ble_eq_true rfl⟩) hP hD hS hA [0] [1, 2, 3, 4, 5, 6, 7, 8] [8, 0, 1, 2, 3, 4, 5, 6, 7] rfl rfl (by decide) (by decide) (by decide) rfl rfl (fun H locs hP hD hS => ?_)
          have hP : va_P D vwCl [(a0, .inr (5, [.ref ag, .ref am, .ref ad, .ref b0, .int (nI tn), .int 4, .int (nI sp), .int (nI (ftNs (nI j))), .int (nI (ftNP tx tn (sp + (ftWs j)) (min (m9 + 1) (ftNs (nI j)))))])), (ag, .inl (cI, 120, .inl tx)), (am, .inl (cI, 3, .inl (ftNfs tx tn (sp + (ftWs j)) nf (min (m9 + 1) (ftNs (nI j)))))), (ad, .inl (cI, 3, .inl td)), (b0, .inr (4, [.int len, .int att, .int en, .int (nI n), .ref bk, .ref bp, .ref bl, .ref br])), (bk, .inl (cI, 10, .inl kf)), (bp, .inl (cI, 10, .inl pf)), (bl, .inl (cI, 10, .inl lf)), (br, .inl (cI, 10, .inl rf))] H := hP
          have hD : va_D A [(a0, .inr (5, [.ref ag, .ref am, .ref ad, .ref b0, .int (nI tn), .int 4, .int (nI sp), .int (nI (ftNs (nI j))), .int (nI (ftNP tx tn (sp + (ftWs j)) (min (m9 + 1) (ftNs (nI j)))))])), (ag, .inl (cI, 120, .inl tx)), (am, .inl (cI, 3, .inl (ftNfs tx tn (sp + (ftWs j)) nf (min (m9 + 1) (ftNs (nI j)))))), (ad, .inl (cI, 3, .inl td)), (b0, .inr (4, [.int len, .int att, .int en, .int (nI n), .ref bk, .ref bp, .ref bl, .ref br])), (bk, .inl (cI, 10, .inl kf)), (bp, .inl (cI, 10, .inl pf)), (bl, .inl (cI, 10, .inl lf)), (br, .inl (cI, 10, .inl rf))] := hD
          refine lv_goto (tgt := 154) hx hb dX5_readItem_113 (by decide) ?_
          obtain ⟨u9, hu9⟩ : ∃ u9 : Nat × (Nat → Int32) × (Nat → Nat → Int32), u9 = (n, (fun k => match k with | 0 => 4 | 1 => (nI sp) | 2 => (nI (ftNs (nI j))) | 3 => (nI (ftNP tx tn (sp + (ftWs j)) (min (m9 + 1) (ftNs (nI j))))) | 4 => len | 5 => att | _ => en), (fun k => match k with | 0 => (ftNfs tx tn (sp + (ftWs j)) nf (min (m9 + 1) (ftNs (nI j)))) | 1 => td | 2 => kf | 3 => pf | 4 => lf | _ => rf)) := ⟨_, rfl⟩
          have hw9 : ([(a0, .inr (5, [.ref ag, .ref am, .ref ad, .ref b0, .int (nI tn), .int 4, .int (nI sp), .int (nI (ftNs (nI j))), .int (nI (ftNP tx tn (sp + (ftWs j)) (min (m9 + 1) (ftNs (nI j)))))])), (ag, .inl (cI, 120, .inl tx)), (am, .inl (cI, 3, .inl (ftNfs tx tn (sp + (ftWs j)) nf (min (m9 + 1) (ftNs (nI j)))))), (ad, .inl (cI, 3, .inl td)), (b0, .inr (4, [.int len, .int att, .int en, .int (nI n), .ref bk, .ref bp, .ref bl, .ref br])), (bk, .inl (cI, 10, .inl kf)), (bp, .inl (cI, 10, .inl pf)), (bl, .inl (cI, 10, .inl lf)), (br, .inl (cI, 10, .inl rf))] : va_W) = [(a0, .inr (5, [.ref ag, .ref am, .ref ad, .ref b0, .int (nI tn), .int (u9.2.1 0), .int (u9.2.1 1), .int (u9.2.1 2), .int (u9.2.1 3)])), (ag, .inl (cI, 120, .inl tx)), (am, .inl (cI, 3, .inl (u9.2.2 0))), (ad, .inl (cI, 3, .inl (u9.2.2 1))), (b0, .inr (4, [.int (u9.2.1 4), .int (u9.2.1 5), .int (u9.2.1 6), .int (nI u9.1), .ref bk, .ref bp, .ref bl, .ref br])), (bk, .inl (cI, 10, .inl (u9.2.2 2))), (bp, .inl (cI, 10, .inl (u9.2.2 3))), (bl, .inl (cI, 10, .inl (u9.2.2 4))), (br, .inl (cI, 10, .inl (u9.2.2 5)))] := by subst hu9; rfl
          rw [hw9] at hP hD
          have hf9_0 : ftItOk tx tn mm h sp → (u9.2.1 0 = 0 ∧ u9.2.1 3 = nI (ftItP tx tn sp) ∧ ftLR (ftItM tx tn mm sp) (u9.2.1 4) (u9.2.1 5) (u9.2.1 6) u9.1 (u9.2.2 2) (u9.2.2 3) (u9.2.2 4) (u9.2.2 5) ∧ ftTd (u9.2.2 1) (ftItH tx tn h sp)) := by intro q; first | exact absurd q hnok | (rw [hu9]; exact ⟨rfl, by rw [ftItP_j hrun hIw]; show nI (ftNP tx tn (sp + ftWs j) (min (m9 + 1) (ftNs (nI j))) + 1) = _; rw [hmin], by rw [← ftItM_j hj hrun hIw hcn hv0 (fun r => hval 1 (ftNs_2 r)) (fun r => hval 2 (by rw [ftNs_3 r]; omega))]; exact hlr151, by rw [ftItH_j hj hIw]; exact htd151⟩)
          have hf9_1 : ¬ ftItOk tx tn mm h sp → ¬ u9.2.1 0 = 0 := by intro q; first | exact absurd hall q | (rw [hu9]; first | exact (show ¬ ((1:Int32) = 0) by decide) | exact (show ¬ ((2:Int32) = 0) by decide) | exact (show ¬ ((3:Int32) = 0) by decide) | exact (show ¬ ((4:Int32) = 0) by decide) | exact (show ¬ ((5:Int32) = 0) by decide) | exact (show ¬ ((6:Int32) = 0) by decide) | exact (show ¬ ((7:Int32) = 0) by decide) | exact (show ¬ ((8:Int32) = 0) by decide))
          exact W.vret hx hb hr (fun t ht hW => ⟨⟨u9, rfl, ⟨hf9_0, hf9_1⟩, by rw [ht]; exact hP, by rw [hAe]; exact hD⟩, by rw [hAe]; exact hS.F ht⟩) hS.2.2 dX5_readItem_154
      · have hnok : ¬ ftItOk tx tn mm h sp := by
          intro q
          have q2 := (hIff.mp q).2.1
          refine c82 (ftFst_none (fun t ht r => r ?_))
          rw [hval t ht, ← hLR.1]; exact q2 t ht
        refine lv_aload_n hx hb dX5_readItem_85 rfl (lv_at hl 5 rfl) ?_
        refine lv_iload_n hx hb dX5_readItem_86 rfl (lv_at hl 4 rfl) ?_
        refine lv_iconst (v := 3) hx hb dX5_readItem_87 (by decide) ?_
        refine lv_iload hx hb dX5_readItem_88 (lv_at hl 0 rfl) ?_
        refine lv_iconst (v := 1) hx hb dX5_readItem_90 (by decide) ?_
        refine lv_iadd hx hb dX5_readItem_91 ?_
        refine ft_cv (wc := [(a0, .inr (5, [.ref ag, .ref am, .ref ad, .ref b0, .int (nI tn), .int 0, .int v2, .int v3, .int (nI (ftNP tx tn (sp + (ftWs j)) (min (m9 + 1) (ftNs (nI j)))))]))]) (wr := [(ag, .inl (cI, 120, .inl tx)), (am, .inl (cI, 3, .inl (ftNfs tx tn (sp + (ftWs j)) nf (min (m9 + 1) (ftNs (nI j)))))), (ad, .inl (cI, 3, .inl td)), (b0, .inr (4, [.int len, .int att, .int en, .int (nI n), .ref bk, .ref bp, .ref bl, .ref br])), (bk, .inl (cI, 10, .inl kf)), (bp, .inl (cI, 10, .inl pf)), (bl, .inl (cI, 10, .inl lf)), (br, .inl (cI, 10, .inl rf))]) (w1 := [(a0, .inr (5, [.ref ag, .ref am, .ref ad, .ref b0, .int (nI tn), .int 3, .int (nI sp), .int ((ftFst (fun i => ¬ ftRt (nI j) i ((ftNfs tx tn (sp + (ftWs j)) nf (min (m9 + 1) (ftNs (nI j)))) i) len) (ftNs (nI j))) + 1), .int (nI (ftNP tx tn (sp + (ftWs j)) (min (m9 + 1) (ftNs (nI j)))))]))]) (ws1 := [(a0, .inr (5, [.ref ag, .ref am, .ref ad, .ref b0, .int (nI tn), .int 3, .int (nI sp), .int ((ftFst (fun i => ¬ ftRt (nI j) i ((ftNfs tx tn (sp + (ftWs j)) nf (min (m9 + 1) (ftNs (nI j)))) i) len) (ftNs (nI j))) + 1), .int (nI (ftNP tx tn (sp + (ftWs j)) (min (m9 + 1) (ftNs (nI j)))))])), (ag, .inl (cI, 120, .inl tx)), (am, .inl (cI, 3, .inl (ftNfs tx tn (sp + (ftWs j)) nf (min (m9 + 1) (ftNs (nI j)))))), (ad, .inl (cI, 3, .inl td)), (b0, .inr (4, [.int len, .int att, .int en, .int (nI n), .ref bk, .ref bp, .ref bl, .ref br])), (bk, .inl (cI, 10, .inl kf)), (bp, .inl (cI, 10, .inl pf)), (bl, .inl (cI, 10, .inl lf)), (br, .inl (cI, 10, .inl rf))]) (va_runV (C := RX5) (As := [.int (nI sp), .int 3, .int ((ftFst (fun i => ¬ ftRt (nI j) i ((ftNfs tx tn (sp + (ftWs j)) nf (min (m9 + 1) (ftNs (nI j)))) i) len) (ftNs (nI j))) + 1)]) (rest := []) ⟨hx, hb, hml, hown, hts⟩ (c_X5_blame l D cI cS H.size a0 ag am ad b0 tn 0 v2 v3 (nI (ftNP tx tn (sp + (ftWs j)) (min (m9 + 1) (ftNs (nI j))))) (nI sp) 3 ((ftFst (fun i => ¬ ftRt (nI j) i ((ftNfs tx tn (sp + (ftWs j)) nf (min (m9 + 1) (ftNs (nI j)))) i) len) (ftNs (nI j))) + 1)) (cwV 3 hts gX5_readItem_X5_blame rfl rfl rfl (by decide +kernel) ⟨Nat.le_of_ble_eq_true rfl, Nat.le_of_ble_eq_true rfl⟩) (ft_preRWV (ci := 5) (q0 := 0) hP hD hKK [0] rfl rfl rfl rfl rfl) rfl rfl hl.1 rfl (lv_room (Nat.le_of_ble_eq_true rfl)) dX5_readItem_92 ⟨Nat.le_of_ble_eq_true rfl, Nat.le_of_ble_eq_true rfl⟩) hP hD hS hA [0] [1, 2, 3, 4, 5, 6, 7, 8] [8, 0, 1, 2, 3, 4, 5, 6, 7] rfl rfl (by decide) (by decide) (by decide) rfl rfl (fun H locs hP hD hS => ?_)
        have hP : va_P D vwCl [(a0, .inr (5, [.ref ag, .ref am, .ref ad, .ref b0, .int (nI tn), .int 3, .int (nI sp), .int ((ftFst (fun i => ¬ ftRt (nI j) i ((ftNfs tx tn (sp + (ftWs j)) nf (min (m9 + 1) (ftNs (nI j)))) i) len) (ftNs (nI j))) + 1), .int (nI (ftNP tx tn (sp + (ftWs j)) (min (m9 + 1) (ftNs (nI j)))))])), (ag, .inl (cI, 120, .inl tx)), (am, .inl (cI, 3, .inl (ftNfs tx tn (sp + (ftWs j)) nf (min (m9 + 1) (ftNs (nI j)))))), (ad, .inl (cI, 3, .inl td)), (b0, .inr (4, [.int len, .int att, .int en, .int (nI n), .ref bk, .ref bp, .ref bl, .ref br])), (bk, .inl (cI, 10, .inl kf)), (bp, .inl (cI, 10, .inl pf)), (bl, .inl (cI, 10, .inl lf)), (br, .inl (cI, 10, .inl rf))] H := hP
        have hD : va_D A [(a0, .inr (5, [.ref ag, .ref am, .ref ad, .ref b0, .int (nI tn), .int 3, .int (nI sp), .int ((ftFst (fun i => ¬ ftRt (nI j) i ((ftNfs tx tn (sp + (ftWs j)) nf (min (m9 + 1) (ftNs (nI j)))) i) len) (ftNs (nI j))) + 1), .int (nI (ftNP tx tn (sp + (ftWs j)) (min (m9 + 1) (ftNs (nI j)))))])), (ag, .inl (cI, 120, .inl tx)), (am, .inl (cI, 3, .inl (ftNfs tx tn (sp + (ftWs j)) nf (min (m9 + 1) (ftNs (nI j)))))), (ad, .inl (cI, 3, .inl td)), (b0, .inr (4, [.int len, .int att, .int en, .int (nI n), .ref bk, .ref bp, .ref bl, .ref br])), (bk, .inl (cI, 10, .inl kf)), (bp, .inl (cI, 10, .inl pf)), (bl, .inl (cI, 10, .inl lf)), (br, .inl (cI, 10, .inl rf))] := hD
        refine lv_goto (tgt := 154) hx hb dX5_readItem_95 (by decide) ?_
        obtain ⟨u9, hu9⟩ : ∃ u9 : Nat × (Nat → Int32) × (Nat → Nat → Int32), u9 = (n, (fun k => match k with | 0 => 3 | 1 => (nI sp) | 2 => ((ftFst (fun i => ¬ ftRt (nI j) i ((ftNfs tx tn (sp + (ftWs j)) nf (min (m9 + 1) (ftNs (nI j)))) i) len) (ftNs (nI j))) + 1) | 3 => (nI (ftNP tx tn (sp + (ftWs j)) (min (m9 + 1) (ftNs (nI j))))) | 4 => len | 5 => att | _ => en), (fun k => match k with | 0 => (ftNfs tx tn (sp + (ftWs j)) nf (min (m9 + 1) (ftNs (nI j)))) | 1 => td | 2 => kf | 3 => pf | 4 => lf | _ => rf)) := ⟨_, rfl⟩
        have hw9 : ([(a0, .inr (5, [.ref ag, .ref am, .ref ad, .ref b0, .int (nI tn), .int 3, .int (nI sp), .int ((ftFst (fun i => ¬ ftRt (nI j) i ((ftNfs tx tn (sp + (ftWs j)) nf (min (m9 + 1) (ftNs (nI j)))) i) len) (ftNs (nI j))) + 1), .int (nI (ftNP tx tn (sp + (ftWs j)) (min (m9 + 1) (ftNs (nI j)))))])), (ag, .inl (cI, 120, .inl tx)), (am, .inl (cI, 3, .inl (ftNfs tx tn (sp + (ftWs j)) nf (min (m9 + 1) (ftNs (nI j)))))), (ad, .inl (cI, 3, .inl td)), (b0, .inr (4, [.int len, .int att, .int en, .int (nI n), .ref bk, .ref bp, .ref bl, .ref br])), (bk, .inl (cI, 10, .inl kf)), (bp, .inl (cI, 10, .inl pf)), (bl, .inl (cI, 10, .inl lf)), (br, .inl (cI, 10, .inl rf))] : va_W) = [(a0, .inr (5, [.ref ag, .ref am, .ref ad, .ref b0, .int (nI tn), .int (u9.2.1 0), .int (u9.2.1 1), .int (u9.2.1 2), .int (u9.2.1 3)])), (ag, .inl (cI, 120, .inl tx)), (am, .inl (cI, 3, .inl (u9.2.2 0))), (ad, .inl (cI, 3, .inl (u9.2.2 1))), (b0, .inr (4, [.int (u9.2.1 4), .int (u9.2.1 5), .int (u9.2.1 6), .int (nI u9.1), .ref bk, .ref bp, .ref bl, .ref br])), (bk, .inl (cI, 10, .inl (u9.2.2 2))), (bp, .inl (cI, 10, .inl (u9.2.2 3))), (bl, .inl (cI, 10, .inl (u9.2.2 4))), (br, .inl (cI, 10, .inl (u9.2.2 5)))] := by subst hu9; rfl
        rw [hw9] at hP hD
        have hf9_0 : ftItOk tx tn mm h sp → (u9.2.1 0 = 0 ∧ u9.2.1 3 = nI (ftItP tx tn sp) ∧ ftLR (ftItM tx tn mm sp) (u9.2.1 4) (u9.2.1 5) (u9.2.1 6) u9.1 (u9.2.2 2) (u9.2.2 3) (u9.2.2 4) (u9.2.2 5) ∧ ftTd (u9.2.2 1) (ftItH tx tn h sp)) := by intro q; first | exact absurd q hnok | (rw [hu9]; exact ⟨rfl, by rw [ftItP_j hrun hIw]; show nI (ftNP tx tn (sp + ftWs j) (min (m9 + 1) (ftNs (nI j))) + 1) = _; rw [hmin], by rw [← ftItM_j hj hrun hIw hcn hv0 (fun r => hval 1 (ftNs_2 r)) (fun r => hval 2 (by rw [ftNs_3 r]; omega))]; exact hlr151, by rw [ftItH_j hj hIw]; exact htd151⟩)
        have hf9_1 : ¬ ftItOk tx tn mm h sp → ¬ u9.2.1 0 = 0 := by intro q; first | exact absurd hall q | (rw [hu9]; first | exact (show ¬ ((1:Int32) = 0) by decide) | exact (show ¬ ((2:Int32) = 0) by decide) | exact (show ¬ ((3:Int32) = 0) by decide) | exact (show ¬ ((4:Int32) = 0) by decide) | exact (show ¬ ((5:Int32) = 0) by decide) | exact (show ¬ ((6:Int32) = 0) by decide) | exact (show ¬ ((7:Int32) = 0) by decide) | exact (show ¬ ((8:Int32) = 0) by decide))
        exact W.vret hx hb hr (fun t ht hW => ⟨⟨u9, rfl, ⟨hf9_0, hf9_1⟩, by rw [ht]; exact hP, by rw [hAe]; exact hD⟩, by rw [hAe]; exact hS.F ht⟩) hS.2.2 dX5_readItem_154
    · have hmn : m9 ≠ ftNs (nI j) := fun q => c63 (if_pos q)
      have hnok : ¬ ftItOk tx tn mm h sp := by
        intro q
        have q1 := (hIff.mp q).1
        exact hmn (hm9.trans (ftIni_all q1))
      refine lv_aload_n hx hb dX5_readItem_66 rfl (lv_at hl 5 rfl) ?_
      refine lv_iload_n hx hb dX5_readItem_67 rfl (lv_at hl 4 rfl) ?_
      refine lv_iconst (v := 2) hx hb dX5_readItem_68 (by decide) ?_
      refine lv_iload hx hb dX5_readItem_69 (lv_at hl 1 rfl) ?_
      refine lv_iconst (v := 1) hx hb dX5_readItem_71 (by decide) ?_
      refine lv_iadd hx hb dX5_readItem_72 ?_
      refine ft_cv (wc := [(a0, .inr (5, [.ref ag, .ref am, .ref ad, .ref b0, .int (nI tn), .int 0, .int v2, .int v3, .int (nI (ftNP tx tn (sp + (ftWs j)) (min (m9 + 1) (ftNs (nI j)))))]))]) (wr := [(ag, .inl (cI, 120, .inl tx)), (am, .inl (cI, 3, .inl (ftNfs tx tn (sp + (ftWs j)) nf (min (m9 + 1) (ftNs (nI j)))))), (ad, .inl (cI, 3, .inl td)), (b0, .inr (4, [.int len, .int att, .int en, .int (nI n), .ref bk, .ref bp, .ref bl, .ref br])), (bk, .inl (cI, 10, .inl kf)), (bp, .inl (cI, 10, .inl pf)), (bl, .inl (cI, 10, .inl lf)), (br, .inl (cI, 10, .inl rf))]) (w1 := [(a0, .inr (5, [.ref ag, .ref am, .ref ad, .ref b0, .int (nI tn), .int 2, .int (nI sp), .int ((if m9 = (ftNs (nI j)) then -1 else nI (m9)) + 1), .int (nI (ftNP tx tn (sp + (ftWs j)) (min (m9 + 1) (ftNs (nI j)))))]))]) (ws1 := [(a0, .inr (5, [.ref ag, .ref am, .ref ad, .ref b0, .int (nI tn), .int 2, .int (nI sp), .int ((if m9 = (ftNs (nI j)) then -1 else nI (m9)) + 1), .int (nI (ftNP tx tn (sp + (ftWs j)) (min (m9 + 1) (ftNs (nI j)))))])), (ag, .inl (cI, 120, .inl tx)), (am, .inl (cI, 3, .inl (ftNfs tx tn (sp + (ftWs j)) nf (min (m9 + 1) (ftNs (nI j)))))), (ad, .inl (cI, 3, .inl td)), (b0, .inr (4, [.int len, .int att, .int en, .int (nI n), .ref bk, .ref bp, .ref bl, .ref br])), (bk, .inl (cI, 10, .inl kf)), (bp, .inl (cI, 10, .inl pf)), (bl, .inl (cI, 10, .inl lf)), (br, .inl (cI, 10, .inl rf))]) (va_runV (C := RX5) (As := [.int (nI sp), .int 2, .int ((if m9 = (ftNs (nI j)) then -1 else nI (m9)) + 1)]) (rest := []) ⟨hx, hb, hml, hown, hts⟩ (c_X5_blame l D cI cS H.size a0 ag am ad b0 tn 0 v2 v3 (nI (ftNP tx tn (sp + (ftWs j)) (min (m9 + 1) (ftNs (nI j))))) (nI sp) 2 ((if m9 = (ftNs (nI j)) then -1 else nI (m9)) + 1)) (cwV 3 hts gX5_readItem_X5_blame rfl rfl rfl (by decide +kernel) ⟨Nat.le_of_ble_eq_true rfl, Nat.le_of_ble_eq_true rfl⟩) (ft_preRWV (ci := 5) (q0 := 0) hP hD hKK [0] rfl rfl rfl rfl rfl) rfl rfl hl.1 rfl (lv_room (Nat.le_of_ble_eq_true rfl)) dX5_readItem_73 ⟨Nat.le_of_ble_eq_true rfl, Nat.le_of_ble_eq_true rfl⟩) hP hD hS hA [0] [1, 2, 3, 4, 5, 6, 7, 8] [8, 0, 1, 2, 3, 4, 5, 6, 7] rfl rfl (by decide) (by decide) (by decide) rfl rfl (fun H locs hP hD hS => ?_)
      have hP : va_P D vwCl [(a0, .inr (5, [.ref ag, .ref am, .ref ad, .ref b0, .int (nI tn), .int 2, .int (nI sp), .int ((if m9 = (ftNs (nI j)) then -1 else nI (m9)) + 1), .int (nI (ftNP tx tn (sp + (ftWs j)) (min (m9 + 1) (ftNs (nI j)))))])), (ag, .inl (cI, 120, .inl tx)), (am, .inl (cI, 3, .inl (ftNfs tx tn (sp + (ftWs j)) nf (min (m9 + 1) (ftNs (nI j)))))), (ad, .inl (cI, 3, .inl td)), (b0, .inr (4, [.int len, .int att, .int en, .int (nI n), .ref bk, .ref bp, .ref bl, .ref br])), (bk, .inl (cI, 10, .inl kf)), (bp, .inl (cI, 10, .inl pf)), (bl, .inl (cI, 10, .inl lf)), (br, .inl (cI, 10, .inl rf))] H := hP
      have hD : va_D A [(a0, .inr (5, [.ref ag, .ref am, .ref ad, .ref b0, .int (nI tn), .int 2, .int (nI sp), .int ((if m9 = (ftNs (nI j)) then -1 else nI (m9)) + 1), .int (nI (ftNP tx tn (sp + (ftWs j)) (min (m9 + 1) (ftNs (nI j)))))])), (ag, .inl (cI, 120, .inl tx)), (am, .inl (cI, 3, .inl (ftNfs tx tn (sp + (ftWs j)) nf (min (m9 + 1) (ftNs (nI j)))))), (ad, .inl (cI, 3, .inl td)), (b0, .inr (4, [.int len, .int att, .int en, .int (nI n), .ref bk, .ref bp, .ref bl, .ref br])), (bk, .inl (cI, 10, .inl kf)), (bp, .inl (cI, 10, .inl pf)), (bl, .inl (cI, 10, .inl lf)), (br, .inl (cI, 10, .inl rf))] := hD
      refine lv_goto (tgt := 154) hx hb dX5_readItem_76 (by decide) ?_
      obtain ⟨u9, hu9⟩ : ∃ u9 : Nat × (Nat → Int32) × (Nat → Nat → Int32), u9 = (n, (fun k => match k with | 0 => 2 | 1 => (nI sp) | 2 => ((if m9 = (ftNs (nI j)) then -1 else nI (m9)) + 1) | 3 => (nI (ftNP tx tn (sp + (ftWs j)) (min (m9 + 1) (ftNs (nI j))))) | 4 => len | 5 => att | _ => en), (fun k => match k with | 0 => (ftNfs tx tn (sp + (ftWs j)) nf (min (m9 + 1) (ftNs (nI j)))) | 1 => td | 2 => kf | 3 => pf | 4 => lf | _ => rf)) := ⟨_, rfl⟩
      have hw9 : ([(a0, .inr (5, [.ref ag, .ref am, .ref ad, .ref b0, .int (nI tn), .int 2, .int (nI sp), .int ((if m9 = (ftNs (nI j)) then -1 else nI (m9)) + 1), .int (nI (ftNP tx tn (sp + (ftWs j)) (min (m9 + 1) (ftNs (nI j)))))])), (ag, .inl (cI, 120, .inl tx)), (am, .inl (cI, 3, .inl (ftNfs tx tn (sp + (ftWs j)) nf (min (m9 + 1) (ftNs (nI j)))))), (ad, .inl (cI, 3, .inl td)), (b0, .inr (4, [.int len, .int att, .int en, .int (nI n), .ref bk, .ref bp, .ref bl, .ref br])), (bk, .inl (cI, 10, .inl kf)), (bp, .inl (cI, 10, .inl pf)), (bl, .inl (cI, 10, .inl lf)), (br, .inl (cI, 10, .inl rf))] : va_W) = [(a0, .inr (5, [.ref ag, .ref am, .ref ad, .ref b0, .int (nI tn), .int (u9.2.1 0), .int (u9.2.1 1), .int (u9.2.1 2), .int (u9.2.1 3)])), (ag, .inl (cI, 120, .inl tx)), (am, .inl (cI, 3, .inl (u9.2.2 0))), (ad, .inl (cI, 3, .inl (u9.2.2 1))), (b0, .inr (4, [.int (u9.2.1 4), .int (u9.2.1 5), .int (u9.2.1 6), .int (nI u9.1), .ref bk, .ref bp, .ref bl, .ref br])), (bk, .inl (cI, 10, .inl (u9.2.2 2))), (bp, .inl (cI, 10, .inl (u9.2.2 3))), (bl, .inl (cI, 10, .inl (u9.2.2 4))), (br, .inl (cI, 10, .inl (u9.2.2 5)))] := by subst hu9; rfl
      rw [hw9] at hP hD
      have hf9_0 : ftItOk tx tn mm h sp → (u9.2.1 0 = 0 ∧ u9.2.1 3 = nI (ftItP tx tn sp) ∧ ftLR (ftItM tx tn mm sp) (u9.2.1 4) (u9.2.1 5) (u9.2.1 6) u9.1 (u9.2.2 2) (u9.2.2 3) (u9.2.2 4) (u9.2.2 5) ∧ ftTd (u9.2.2 1) (ftItH tx tn h sp)) := by intro q; first | exact absurd q hnok | (rw [hu9]; exact ⟨rfl, by rw [ftItP_j hrun hIw]; show nI (ftNP tx tn (sp + ftWs j) (min (m9 + 1) (ftNs (nI j))) + 1) = _; rw [hmin], by rw [← ftItM_j hj hrun hIw hcn hv0 (fun r => hval 1 (ftNs_2 r)) (fun r => hval 2 (by rw [ftNs_3 r]; omega))]; exact hlr151, by rw [ftItH_j hj hIw]; exact htd151⟩)
      have hf9_1 : ¬ ftItOk tx tn mm h sp → ¬ u9.2.1 0 = 0 := by intro q; first | exact absurd hall q | (rw [hu9]; first | exact (show ¬ ((1:Int32) = 0) by decide) | exact (show ¬ ((2:Int32) = 0) by decide) | exact (show ¬ ((3:Int32) = 0) by decide) | exact (show ¬ ((4:Int32) = 0) by decide) | exact (show ¬ ((5:Int32) = 0) by decide) | exact (show ¬ ((6:Int32) = 0) by decide) | exact (show ¬ ((7:Int32) = 0) by decide) | exact (show ¬ ((8:Int32) = 0) by decide))
      exact W.vret hx hb hr (fun t ht hW => ⟨⟨u9, rfl, ⟨hf9_0, hf9_1⟩, by rw [ht]; exact hP, by rw [hAe]; exact hD⟩, by rw [hAe]; exact hS.F ht⟩) hS.2.2 dX5_readItem_154
  · have hnok : ¬ ftItOk tx tn mm h sp := by
      intro q
      obtain ⟨j, hj, -, hcw⟩ := ftIt_cw q
      rcases ftFst_c (ftCW9 tx tn sp) 6 (by omega) with ⟨-, r⟩ | ⟨t, r1, -, r3⟩
      · exact r j hj hcw
      · rw [r3] at c18; exact ft_nIm1 (by omega) c18
    refine lv_aload_n hx hb dX5_readItem_21 rfl (lv_at hl 3 rfl) ?_
    refine lv_iload_n hx hb dX5_readItem_22 rfl (lv_at hl 2 rfl) ?_
    refine lv_iconst (v := 1) hx hb dX5_readItem_23 (by decide) ?_
    refine lv_iconst (v := 0) hx hb dX5_readItem_24 (by decide) ?_
    refine ft_cv (wc := [(a0, .inr (5, [.ref ag, .ref am, .ref ad, .ref b0, .int (nI tn), .int 0, .int v2, .int v3, .int (nI sp)]))]) (wr := [(ag, .inl (cI, 120, .inl tx)), (am, .inl (cI, 3, .inl nf)), (ad, .inl (cI, 3, .inl td)), (b0, .inr (4, [.int len, .int att, .int en, .int (nI n), .ref bk, .ref bp, .ref bl, .ref br])), (bk, .inl (cI, 10, .inl kf)), (bp, .inl (cI, 10, .inl pf)), (bl, .inl (cI, 10, .inl lf)), (br, .inl (cI, 10, .inl rf))]) (w1 := [(a0, .inr (5, [.ref ag, .ref am, .ref ad, .ref b0, .int (nI tn), .int 1, .int (nI sp), .int 0, .int (nI sp)]))]) (ws1 := [(a0, .inr (5, [.ref ag, .ref am, .ref ad, .ref b0, .int (nI tn), .int 1, .int (nI sp), .int 0, .int (nI sp)])), (ag, .inl (cI, 120, .inl tx)), (am, .inl (cI, 3, .inl nf)), (ad, .inl (cI, 3, .inl td)), (b0, .inr (4, [.int len, .int att, .int en, .int (nI n), .ref bk, .ref bp, .ref bl, .ref br])), (bk, .inl (cI, 10, .inl kf)), (bp, .inl (cI, 10, .inl pf)), (bl, .inl (cI, 10, .inl lf)), (br, .inl (cI, 10, .inl rf))]) (va_runV (C := RX5) (As := [.int (nI sp), .int 1, .int 0]) (rest := []) ⟨hx, hb, hml, hown, hts⟩ (c_X5_blame l D cI cS s.heap.size a0 ag am ad b0 tn 0 v2 v3 (nI sp) (nI sp) 1 0) (cwV 3 hts gX5_readItem_X5_blame rfl rfl rfl (by decide +kernel) ⟨Nat.le_of_ble_eq_true rfl, Nat.le_of_ble_eq_true rfl⟩) (ft_preRWV (ci := 5) (q0 := 0) hP hD hKK [0] rfl rfl rfl rfl rfl) rfl rfl hl.1 rfl (lv_room (Nat.le_of_ble_eq_true rfl)) dX5_readItem_25 ⟨Nat.le_of_ble_eq_true rfl, Nat.le_of_ble_eq_true rfl⟩) hP hD hS hA [0] [1, 2, 3, 4, 5, 6, 7, 8] [8, 0, 1, 2, 3, 4, 5, 6, 7] rfl rfl (by decide) (by decide) (by decide) rfl rfl (fun H locs hP hD hS => ?_)
    have hP : va_P D vwCl [(a0, .inr (5, [.ref ag, .ref am, .ref ad, .ref b0, .int (nI tn), .int 1, .int (nI sp), .int 0, .int (nI sp)])), (ag, .inl (cI, 120, .inl tx)), (am, .inl (cI, 3, .inl nf)), (ad, .inl (cI, 3, .inl td)), (b0, .inr (4, [.int len, .int att, .int en, .int (nI n), .ref bk, .ref bp, .ref bl, .ref br])), (bk, .inl (cI, 10, .inl kf)), (bp, .inl (cI, 10, .inl pf)), (bl, .inl (cI, 10, .inl lf)), (br, .inl (cI, 10, .inl rf))] H := hP
    have hD : va_D A [(a0, .inr (5, [.ref ag, .ref am, .ref ad, .ref b0, .int (nI tn), .int 1, .int (nI sp), .int 0, .int (nI sp)])), (ag, .inl (cI, 120, .inl tx)), (am, .inl (cI, 3, .inl nf)), (ad, .inl (cI, 3, .inl td)), (b0, .inr (4, [.int len, .int att, .int en, .int (nI n), .ref bk, .ref bp, .ref bl, .ref br])), (bk, .inl (cI, 10, .inl kf)), (bp, .inl (cI, 10, .inl pf)), (bl, .inl (cI, 10, .inl lf)), (br, .inl (cI, 10, .inl rf))] := hD
    obtain ⟨u9, hu9⟩ : ∃ u9 : Nat × (Nat → Int32) × (Nat → Nat → Int32), u9 = (n, (fun k => match k with | 0 => 1 | 1 => (nI sp) | 2 => 0 | 3 => (nI sp) | 4 => len | 5 => att | _ => en), (fun k => match k with | 0 => nf | 1 => td | 2 => kf | 3 => pf | 4 => lf | _ => rf)) := ⟨_, rfl⟩
    have hw9 : ([(a0, .inr (5, [.ref ag, .ref am, .ref ad, .ref b0, .int (nI tn), .int 1, .int (nI sp), .int 0, .int (nI sp)])), (ag, .inl (cI, 120, .inl tx)), (am, .inl (cI, 3, .inl nf)), (ad, .inl (cI, 3, .inl td)), (b0, .inr (4, [.int len, .int att, .int en, .int (nI n), .ref bk, .ref bp, .ref bl, .ref br])), (bk, .inl (cI, 10, .inl kf)), (bp, .inl (cI, 10, .inl pf)), (bl, .inl (cI, 10, .inl lf)), (br, .inl (cI, 10, .inl rf))] : va_W) = [(a0, .inr (5, [.ref ag, .ref am, .ref ad, .ref b0, .int (nI tn), .int (u9.2.1 0), .int (u9.2.1 1), .int (u9.2.1 2), .int (u9.2.1 3)])), (ag, .inl (cI, 120, .inl tx)), (am, .inl (cI, 3, .inl (u9.2.2 0))), (ad, .inl (cI, 3, .inl (u9.2.2 1))), (b0, .inr (4, [.int (u9.2.1 4), .int (u9.2.1 5), .int (u9.2.1 6), .int (nI u9.1), .ref bk, .ref bp, .ref bl, .ref br])), (bk, .inl (cI, 10, .inl (u9.2.2 2))), (bp, .inl (cI, 10, .inl (u9.2.2 3))), (bl, .inl (cI, 10, .inl (u9.2.2 4))), (br, .inl (cI, 10, .inl (u9.2.2 5)))] := by subst hu9; rfl
    rw [hw9] at hP hD
    have hf9_0 : ftItOk tx tn mm h sp → (u9.2.1 0 = 0 ∧ u9.2.1 3 = nI (ftItP tx tn sp) ∧ ftLR (ftItM tx tn mm sp) (u9.2.1 4) (u9.2.1 5) (u9.2.1 6) u9.1 (u9.2.2 2) (u9.2.2 3) (u9.2.2 4) (u9.2.2 5) ∧ ftTd (u9.2.2 1) (ftItH tx tn h sp)) := by intro q; exact absurd q hnok
    have hf9_1 : ¬ ftItOk tx tn mm h sp → ¬ u9.2.1 0 = 0 := by intro _; rw [hu9]; first | exact (show ¬ ((1:Int32) = 0) by decide) | exact (show ¬ ((2:Int32) = 0) by decide) | exact (show ¬ ((3:Int32) = 0) by decide) | exact (show ¬ ((4:Int32) = 0) by decide) | exact (show ¬ ((5:Int32) = 0) by decide) | exact (show ¬ ((6:Int32) = 0) by decide) | exact (show ¬ ((7:Int32) = 0) by decide) | exact (show ¬ ((8:Int32) = 0) by decide)
    exact W.vret hx hb hr (fun t ht hW => ⟨⟨u9, rfl, ⟨hf9_0, hf9_1⟩, by rw [ht]; exact hP, by rw [hAe]; exact hD⟩, by rw [hAe]; exact hS.F ht⟩) hS.2.2 dX5_readItem_28
end
section
/-! the class's texts: the reading of a text -/
theorem ftItP_le {tx : Nat → Int32} {tn h p : Nat} {m : Nat → Int32} (q : ftItOk tx tn m h p) : ftItP tx tn p ≤ tn := by
  unfold ftItP; exact q.2.2.2.2.1
theorem ftItH_lt {tx : Nat → Int32} {tn h p : Nat} {m : Nat → Int32} (hh : h < 64) (q : ftItOk tx tn m h p) : ftItH tx tn h p < 64 := by
  obtain ⟨j, hj, hW, -⟩ := ftIt_cw q
  rw [ftItH_j hj hW]
  exact Nat.or_lt_two_pow (n := 6) hh (Nat.pow_lt_pow_right (by omega) hj)
theorem ftCPm_of {tx : Nat → Int32} {tn : Nat} {m : Nat → Int32} (h : ftCPar tx tn = some m) : ftCPm tx tn = m := by unfold ftCPm; rw [h]; rfl
theorem ftMd0_lr (m : Nat → Int32) (kf pf lf rf : Nat → Int32) : ftLR (ftMd0 m) 200 10 12000 0 kf pf lf rf := ⟨rfl, rfl, rfl, rfl, by omega, fun k hk => absurd hk (Nat.not_lt_zero k)⟩
/-- where the reading stands: either all went well, or a fault is told -/
def ftRdI (tx : Nat → Int32) (tn : Nat) (i sq hg : Nat) (mq : Nat → Int32) (rs ps le at9 en : Int32) (nq : Nat) (td kf pf lf rf : Nat → Int32) : Prop :=
  (rs = 0 ∧ ps = nI sq ∧ ftLR mq le at9 en nq kf pf lf rf ∧ ftTd td hg ∧ ftLf mq ∧ hg < 64 ∧ i ≤ sq ∧ sq ≤ tn ∧ ftCPar tx tn = ftPar tx tn (tn - sq + 1) sq hg mq) ∨ (¬ rs = 0 ∧ ftCPar tx tn = none)
set_option maxHeartbeats 4000000 in
set_option maxRecDepth 100000 in
theorem c_X5_read (l : Launch) (D : va_G) (cI cS : ClassId) (sz : Nat) (sK sV : Nat → Nat) (a0 ag am ad b0 : Nat) (tn : Nat) (v1 v2 v3 : Int32) (v4 : Int32) (len att en : Int32) (n bk bp bl br : Nat) (kf pf lf rf : Nat → Int32) (tx nf td : Nat → Int32) (htn : tn ≤ 120) : Met l yX5_read wsX5_read ({ frames := 8, cells := 0, slots := 0, locals := 186 }) (ftRWS D cI cS sK sV [.ref a0] [(a0, .inr (5, [.ref ag, .ref am, .ref ad, .ref b0, .int (nI tn), .int v1, .int v2, .int v3, .int v4])), (ag, .inl (cI, 120, .inl tx)), (am, .inl (cI, 3, .inl nf)), (ad, .inl (cI, 3, .inl td)), (b0, .inr (4, [.int len, .int att, .int en, .int (nI n), .ref bk, .ref bp, .ref bl, .ref br])), (bk, .inl (cI, 10, .inl kf)), (bp, .inl (cI, 10, .inl pf)), (bl, .inl (cI, 10, .inl lf)), (br, .inl (cI, 10, .inl rf))] sz) (ftXv D [(a0, .inr (5, [.ref ag, .ref am, .ref ad, .ref b0, .int (nI tn), .int v1, .int v2, .int v3, .int v4])), (ag, .inl (cI, 120, .inl tx)), (am, .inl (cI, 3, .inl nf)), (ad, .inl (cI, 3, .inl td)), (b0, .inr (4, [.int len, .int att, .int en, .int (nI n), .ref bk, .ref bp, .ref bl, .ref br])), (bk, .inl (cI, 10, .inl kf)), (bp, .inl (cI, 10, .inl pf)), (bl, .inl (cI, 10, .inl lf)), (br, .inl (cI, 10, .inl rf))] sz (fun (u : Nat × (Nat → Int32) × (Nat → Nat → Int32)) => (¬ ftCPar tx tn = none → (u.2.1 0 = 0 ∧ ftLR (ftCPm tx tn) (u.2.1 4) (u.2.1 5) (u.2.1 6) u.1 (u.2.2 2) (u.2.2 3) (u.2.2 4) (u.2.2 5))) ∧ (ftCPar tx tn = none → ¬ u.2.1 0 = 0)) (fun (u : Nat × (Nat → Int32) × (Nat → Nat → Int32)) => [(a0, .inr (5, [.ref ag, .ref am, .ref ad, .ref b0, .int (nI tn), .int (u.2.1 0), .int (u.2.1 1), .int (u.2.1 2), .int (u.2.1 3)])), (ag, .inl (cI, 120, .inl tx)), (am, .inl (cI, 3, .inl (u.2.2 0))), (ad, .inl (cI, 3, .inl (u.2.2 1))), (b0, .inr (4, [.int (u.2.1 4), .int (u.2.1 5), .int (u.2.1 6), .int (nI u.1), .ref bk, .ref bp, .ref bl, .ref br])), (bk, .inl (cI, 10, .inl (u.2.2 2))), (bp, .inl (cI, 10, .inl (u.2.2 3))), (bl, .inl (cI, 10, .inl (u.2.2 4))), (br, .inl (cI, 10, .inl (u.2.2 5)))])) 0 0 (va_A [(a0, .inr (5, [.ref ag, .ref am, .ref ad, .ref b0, .int (nI tn), .int v1, .int v2, .int v3, .int v4])), (ag, .inl (cI, 120, .inl tx)), (am, .inl (cI, 3, .inl nf)), (ad, .inl (cI, 3, .inl td)), (b0, .inr (4, [.int len, .int att, .int en, .int (nI n), .ref bk, .ref bp, .ref bl, .ref br])), (bk, .inl (cI, 10, .inl kf)), (bp, .inl (cI, 10, .inl pf)), (bl, .inl (cI, 10, .inl lf)), (br, .inl (cI, 10, .inl rf))] sz) := by
  refine Met.ofW (cc := cX5_read) (maxL := 2) (ret := none) (by decide) rfl ?_
  intro p e s m args below meth c s₁ B hml hv
  obtain ⟨rfl, hsz, hP, hKK, hD0, hSt⟩ := hv
  have hK := hKK.1
  have hx := B.exec
  have hb := B.bytes
  have hr := B.returns
  have hts := atoms_spec (ws := wsX5_read) B.pre
  have hown : s.vm.findClass RX5 = some m.cls := findClass_of_methodNamed B.named
  have hlocks := B.notSynchronized
  subst hsz
  have hD := hD0.self (sz := s.heap.size)
  generalize hAe : va_A [(a0, .inr (5, [.ref ag, .ref am, .ref ad, .ref b0, .int (nI tn), .int v1, .int v2, .int v3, .int v4])), (ag, .inl (cI, 120, .inl tx)), (am, .inl (cI, 3, .inl nf)), (ad, .inl (cI, 3, .inl td)), (b0, .inr (4, [.int len, .int att, .int en, .int (nI n), .ref bk, .ref bp, .ref bl, .ref br])), (bk, .inl (cI, 10, .inl kf)), (bp, .inl (cI, 10, .inl pf)), (bl, .inl (cI, 10, .inl lf)), (br, .inl (cI, 10, .inl rf))] s.heap.size = A at hD hSt ⊢
  have hA : ∀ q : Nat, s.heap.size ≤ q → A q := fun q h => by rw [← hAe]; exact Or.inr h
  have hS : va_S A s.heap s.heap [] := va_S.rf
  have hD : va_D A [(a0, .inr (5, [.ref ag, .ref am, .ref ad, .ref b0, .int (nI tn), .int v1, .int v2, .int v3, .int v4])), (ag, .inl (cI, 120, .inl tx)), (am, .inl (cI, 3, .inl nf)), (ad, .inl (cI, 3, .inl td)), (b0, .inr (4, [.int len, .int att, .int en, .int (nI n), .ref bk, .ref bp, .ref bl, .ref br])), (bk, .inl (cI, 10, .inl kf)), (bp, .inl (cI, 10, .inl pf)), (bl, .inl (cI, 10, .inl lf)), (br, .inl (cI, 10, .inl rf))] := hD
  have hP : va_P D vwCl [(a0, .inr (5, [.ref ag, .ref am, .ref ad, .ref b0, .int (nI tn), .int v1, .int v2, .int v3, .int v4])), (ag, .inl (cI, 120, .inl tx)), (am, .inl (cI, 3, .inl nf)), (ad, .inl (cI, 3, .inl td)), (b0, .inr (4, [.int len, .int att, .int en, .int (nI n), .ref bk, .ref bp, .ref bl, .ref br])), (bk, .inl (cI, 10, .inl kf)), (bp, .inl (cI, 10, .inl pf)), (bl, .inl (cI, 10, .inl lf)), (br, .inl (cI, 10, .inl rf))] s.heap := hP
  have hl := lv_entry ([.ref a0]) (n := 2) (Nat.le_of_ble_eq_true rfl)
  rw [lg_entry_eq]
  generalize (lg_sl ([.ref a0]) ++ List.replicate (2 - (lg_sl ([.ref a0])).length) Slot.unset).toArray = ls at hl ⊢
  have hl : lv_has ls 2 [(0, .ref a0)] := hl
  refine lv_aload_n hx hb dX5_read_0 rfl (lv_at hl 0 rfl) ?_
  refine va_get (D := D) (ci := 5) (v := .ref b0) (C := RX5) (T := TX5) (N := 9) hx hb hts (by decide +kernel) hown hK hP 0 rfl rfl 3 (by decide) (hts (.fieldLink RX5 24 "FiberTrace$LinkText" "link" "LFiberTrace$Link;") (by decide +kernel)) (fun _ h9 => h9) rfl dX5_read_1 ?_
  refine ft_cv (wc := [(b0, .inr (4, [.int len, .int att, .int en, .int (nI n), .ref bk, .ref bp, .ref bl, .ref br]))]) (wr := [(a0, .inr (5, [.ref ag, .ref am, .ref ad, .ref b0, .int (nI tn), .int v1, .int v2, .int v3, .int v4])), (ag, .inl (cI, 120, .inl tx)), (am, .inl (cI, 3, .inl nf)), (ad, .inl (cI, 3, .inl td)), (bk, .inl (cI, 10, .inl kf)), (bp, .inl (cI, 10, .inl pf)), (bl, .inl (cI, 10, .inl lf)), (br, .inl (cI, 10, .inl rf))]) (w1 := [(b0, .inr (4, [.int 200, .int 10, .int 12000, .int 0, .ref bk, .ref bp, .ref bl, .ref br]))]) (ws1 := [(a0, .inr (5, [.ref ag, .ref am, .ref ad, .ref b0, .int (nI tn), .int v1, .int v2, .int v3, .int v4])), (ag, .inl (cI, 120, .inl tx)), (am, .inl (cI, 3, .inl nf)), (ad, .inl (cI, 3, .inl td)), (b0, .inr (4, [.int 200, .int 10, .int 12000, .int 0, .ref bk, .ref bp, .ref bl, .ref br])), (bk, .inl (cI, 10, .inl kf)), (bp, .inl (cI, 10, .inl pf)), (bl, .inl (cI, 10, .inl lf)), (br, .inl (cI, 10, .inl rf))]) (va_runV (C := RX4) (As := []) (rest := []) ⟨hx, hb, hml, hown, hts⟩ (c_X4_reset l D cI cS s.heap.size b0 len att en n bk bp bl br) (cwV 0 hts gX5_read_X4_reset rfl rfl rfl (by decide +kernel) ⟨Nat.le_of_ble_eq_true rfl, Nat.le_of_ble_eq_true rfl⟩) (ft_preRWV (ci := 4) (q0 := 4) hP hD hKK [4] rfl rfl rfl rfl rfl) rfl rfl hl.1 rfl (lv_room (Nat.le_of_ble_eq_true rfl)) dX5_read_4 ⟨Nat.le_of_ble_eq_true rfl, Nat.le_of_ble_eq_true rfl⟩) hP hD hS hA [4] [0, 1, 2, 3, 5, 6, 7, 8] [0, 1, 2, 3, 8, 4, 5, 6, 7] rfl rfl (by decide) (by decide) (by decide) rfl rfl (fun H locs hP hD hS => ?_)
  have hP : va_P D vwCl [(a0, .inr (5, [.ref ag, .ref am, .ref ad, .ref b0, .int (nI tn), .int v1, .int v2, .int v3, .int v4])), (ag, .inl (cI, 120, .inl tx)), (am, .inl (cI, 3, .inl nf)), (ad, .inl (cI, 3, .inl td)), (b0, .inr (4, [.int 200, .int 10, .int 12000, .int 0, .ref bk, .ref bp, .ref bl, .ref br])), (bk, .inl (cI, 10, .inl kf)), (bp, .inl (cI, 10, .inl pf)), (bl, .inl (cI, 10, .inl lf)), (br, .inl (cI, 10, .inl rf))] H := hP
  have hD : va_D A [(a0, .inr (5, [.ref ag, .ref am, .ref ad, .ref b0, .int (nI tn), .int v1, .int v2, .int v3, .int v4])), (ag, .inl (cI, 120, .inl tx)), (am, .inl (cI, 3, .inl nf)), (ad, .inl (cI, 3, .inl td)), (b0, .inr (4, [.int 200, .int 10, .int 12000, .int 0, .ref bk, .ref bp, .ref bl, .ref br])), (bk, .inl (cI, 10, .inl kf)), (bp, .inl (cI, 10, .inl pf)), (bl, .inl (cI, 10, .inl lf)), (br, .inl (cI, 10, .inl rf))] := hD
  refine lv_iconst (v := 0) hx hb dX5_read_7 (by decide) ?_
  refine lv_istore_n (lv' := [(1, .int 0), (0, .ref a0)]) hx hb dX5_read_8 rfl hl (by decide) rfl (fun ls hl => ?_)
  have lp9 : ∀ (n9 : Nat) (i : Nat) (t9 : Nat → Int32) (x9_1 : Int32) (g9_ad : Nat → Int32), 3 - i < n9 → (i ≤ 3) → (∀ t, t < i → t9 t = 0) → x9_1 = nI i → g9_ad = t9 → ∀ (H : Heap) (locs : List Loc), va_P D vwCl [(a0, .inr (5, [.ref ag, .ref am, .ref ad, .ref b0, .int (nI tn), .int v1, .int v2, .int v3, .int v4])), (ag, .inl (cI, 120, .inl tx)), (am, .inl (cI, 3, .inl nf)), (ad, .inl (cI, 3, .inl g9_ad)), (b0, .inr (4, [.int 200, .int 10, .int 12000, .int 0, .ref bk, .ref bp, .ref bl, .ref br])), (bk, .inl (cI, 10, .inl kf)), (bp, .inl (cI, 10, .inl pf)), (bl, .inl (cI, 10, .inl lf)), (br, .inl (cI, 10, .inl rf))] H → va_D A [(a0, .inr (5, [.ref ag, .ref am, .ref ad, .ref b0, .int (nI tn), .int v1, .int v2, .int v3, .int v4])), (ag, .inl (cI, 120, .inl tx)), (am, .inl (cI, 3, .inl nf)), (ad, .inl (cI, 3, .inl g9_ad)), (b0, .inr (4, [.int 200, .int 10, .int 12000, .int 0, .ref bk, .ref bp, .ref bl, .ref br])), (bk, .inl (cI, 10, .inl kf)), (bp, .inl (cI, 10, .inl pf)), (bl, .inl (cI, 10, .inl lf)), (br, .inl (cI, 10, .inl rf))] → va_S A s.heap H locs → ∀ ls : Array Slot, lv_has ls 2 [(0, .ref a0), (1, .int x9_1)] → W p l e (headSpec wsX5_read { frames := 8, cells := 0, slots := 0, locals := 186 }).room s m ([.ref a0] : List Value).toArray below meth c H locs 0 0 (MQ below (ftXv D [(a0, .inr (5, [.ref ag, .ref am, .ref ad, .ref b0, .int (nI tn), .int v1, .int v2, .int v3, .int v4])), (ag, .inl (cI, 120, .inl tx)), (am, .inl (cI, 3, .inl nf)), (ad, .inl (cI, 3, .inl td)), (b0, .inr (4, [.int len, .int att, .int en, .int (nI n), .ref bk, .ref bp, .ref bl, .ref br])), (bk, .inl (cI, 10, .inl kf)), (bp, .inl (cI, 10, .inl pf)), (bl, .inl (cI, 10, .inl lf)), (br, .inl (cI, 10, .inl rf))] s.heap.size (fun (u : Nat × (Nat → Int32) × (Nat → Nat → Int32)) => (¬ ftCPar tx tn = none → (u.2.1 0 = 0 ∧ ftLR (ftCPm tx tn) (u.2.1 4) (u.2.1 5) (u.2.1 6) u.1 (u.2.2 2) (u.2.2 3) (u.2.2 4) (u.2.2 5))) ∧ (ftCPar tx tn = none → ¬ u.2.1 0 = 0)) (fun (u : Nat × (Nat → Int32) × (Nat → Nat → Int32)) => [(a0, .inr (5, [.ref ag, .ref am, .ref ad, .ref b0, .int (nI tn), .int (u.2.1 0), .int (u.2.1 1), .int (u.2.1 2), .int (u.2.1 3)])), (ag, .inl (cI, 120, .inl tx)), (am, .inl (cI, 3, .inl (u.2.2 0))), (ad, .inl (cI, 3, .inl (u.2.2 1))), (b0, .inr (4, [.int (u.2.1 4), .int (u.2.1 5), .int (u.2.1 6), .int (nI u.1), .ref bk, .ref bp, .ref bl, .ref br])), (bk, .inl (cI, 10, .inl (u.2.2 2))), (bp, .inl (cI, 10, .inl (u.2.2 3))), (bl, .inl (cI, 10, .inl (u.2.2 4))), (br, .inl (cI, 10, .inl (u.2.2 5)))])) ([.ref a0] : List Value).toArray s 0 0 A) (F0 m 9 ls []) := by
    intro n9
    induction n9 with
    | zero =>
      intro i t9 x9_1 g9_ad hm9
      exact absurd hm9 (Nat.not_lt_zero _)
    | succ n9 ih9 =>
      intro i t9 x9_1 g9_ad hm9 hi3 hz ex9_1 eg9_ad H locs hP hD hS ls hl
      subst ex9_1
      replace eg9_ad := eg9_ad.symm; subst eg9_ad
      refine lv_iload_n hx hb dX5_read_9 rfl (lv_at hl 1 rfl) ?_
      refine lv_iconst (v := 3) hx hb dX5_read_10 (by decide) ?_
      refine lv_icmp_ge (tgt := 29) hx hb dX5_read_11 (by decide) (fun c11 => ?_) (fun c11 => ?_)
      · have c11n : 3 ≤ i := ft_leN (by omega) (by omega) c11
        refine lv_aload_n hx hb dX5_read_29 rfl (lv_at hl 0 rfl) ?_
        refine lv_iconst (v := 0) hx hb dX5_read_30 (by decide) ?_
        refine va_put (D := D) (ci := 5) (v := .int 0) (ty := .int) (C := RX5) (T := TX5) (N := 9) hx hb hts (by decide +kernel) tyX5 tyX5_ok nmX5 hown hK hP hD hS 0 rfl rfl 5 (by decide) (hts (.fieldLink RX5 39 "FiberTrace$LinkText" "reason" "I") (by decide +kernel)) (fun _ h9 => h9) rfl (by decide +kernel) rfl rfl (Nat.le_of_ble_eq_true rfl) dX5_read_31 (fun H locs hP hD hS => ?_)
        have hP : va_P D vwCl [(a0, .inr (5, [.ref ag, .ref am, .ref ad, .ref b0, .int (nI tn), .int 0, .int v2, .int v3, .int v4])), (ag, .inl (cI, 120, .inl tx)), (am, .inl (cI, 3, .inl nf)), (ad, .inl (cI, 3, .inl t9)), (b0, .inr (4, [.int 200, .int 10, .int 12000, .int 0, .ref bk, .ref bp, .ref bl, .ref br])), (bk, .inl (cI, 10, .inl kf)), (bp, .inl (cI, 10, .inl pf)), (bl, .inl (cI, 10, .inl lf)), (br, .inl (cI, 10, .inl rf))] H := hP
        have hD : va_D A [(a0, .inr (5, [.ref ag, .ref am, .ref ad, .ref b0, .int (nI tn), .int 0, .int v2, .int v3, .int v4])), (ag, .inl (cI, 120, .inl tx)), (am, .inl (cI, 3, .inl nf)), (ad, .inl (cI, 3, .inl t9)), (b0, .inr (4, [.int 200, .int 10, .int 12000, .int 0, .ref bk, .ref bp, .ref bl, .ref br])), (bk, .inl (cI, 10, .inl kf)), (bp, .inl (cI, 10, .inl pf)), (bl, .inl (cI, 10, .inl lf)), (br, .inl (cI, 10, .inl rf))] := hD
        refine lv_aload_n hx hb dX5_read_34 rfl (lv_at hl 0 rfl) ?_
        refine lv_iconst (v := 0) hx hb dX5_read_35 (by decide) ?_
        refine va_put (D := D) (ci := 5) (v := .int 0) (ty := .int) (C := RX5) (T := TX5) (N := 9) hx hb hts (by decide +kernel) tyX5 tyX5_ok nmX5 hown hK hP hD hS 0 rfl rfl 8 (by decide) (hts (.fieldLink RX5 42 "FiberTrace$LinkText" "position" "I") (by decide +kernel)) (fun _ h9 => h9) rfl (by decide +kernel) rfl rfl (Nat.le_of_ble_eq_true rfl) dX5_read_36 (fun H locs hP hD hS => ?_)
        have hP : va_P D vwCl [(a0, .inr (5, [.ref ag, .ref am, .ref ad, .ref b0, .int (nI tn), .int 0, .int v2, .int v3, .int 0])), (ag, .inl (cI, 120, .inl tx)), (am, .inl (cI, 3, .inl nf)), (ad, .inl (cI, 3, .inl t9)), (b0, .inr (4, [.int 200, .int 10, .int 12000, .int 0, .ref bk, .ref bp, .ref bl, .ref br])), (bk, .inl (cI, 10, .inl kf)), (bp, .inl (cI, 10, .inl pf)), (bl, .inl (cI, 10, .inl lf)), (br, .inl (cI, 10, .inl rf))] H := hP
        have hD : va_D A [(a0, .inr (5, [.ref ag, .ref am, .ref ad, .ref b0, .int (nI tn), .int 0, .int v2, .int v3, .int 0])), (ag, .inl (cI, 120, .inl tx)), (am, .inl (cI, 3, .inl nf)), (ad, .inl (cI, 3, .inl t9)), (b0, .inr (4, [.int 200, .int 10, .int 12000, .int 0, .ref bk, .ref bp, .ref bl, .ref br])), (bk, .inl (cI, 10, .inl kf)), (bp, .inl (cI, 10, .inl pf)), (bl, .inl (cI, 10, .inl lf)), (br, .inl (cI, 10, .inl rf))] := hD
        refine lv_iconst (v := 0) hx hb dX5_read_39 (by decide) ?_
        refine lv_istore_n (lv' := [(1, .int 0), (0, .ref a0)]) hx hb dX5_read_40 rfl hl (by decide) rfl (fun ls hl => ?_)
        have lp41 : ∀ (n41 : Nat) (i sq hg nq : Nat) (rs9 f9 g9 ps9 le9 at9 en9 : Int32) (mq y2 y3 k9 p9 l9 r9 : Nat → Int32) (x41_1 : Int32) (g41_a0_5 : Int32) (g41_a0_6 : Int32) (g41_a0_7 : Int32) (g41_a0_8 : Int32) (g41_b0_0 : Int32) (g41_b0_1 : Int32) (g41_b0_2 : Int32) (g41_b0_3 : Int32) (g41_am : Nat → Int32) (g41_ad : Nat → Int32) (g41_bk : Nat → Int32) (g41_bp : Nat → Int32) (g41_bl : Nat → Int32) (g41_br : Nat → Int32), 120 - i < n41 → (i ≤ 120) → (ftRdI tx tn i sq hg mq rs9 ps9 le9 at9 en9 nq y3 k9 p9 l9 r9) → x41_1 = nI i → g41_a0_5 = rs9 → g41_a0_6 = f9 → g41_a0_7 = g9 → g41_a0_8 = ps9 → g41_b0_0 = le9 → g41_b0_1 = at9 → g41_b0_2 = en9 → g41_b0_3 = nI nq → g41_am = y2 → g41_ad = y3 → g41_bk = k9 → g41_bp = p9 → g41_bl = l9 → g41_br = r9 → ∀ (H : Heap) (locs : List Loc), va_P D vwCl [(a0, .inr (5, [.ref ag, .ref am, .ref ad, .ref b0, .int (nI tn), .int g41_a0_5, .int g41_a0_6, .int g41_a0_7, .int g41_a0_8])), (ag, .inl (cI, 120, .inl tx)), (am, .inl (cI, 3, .inl g41_am)), (ad, .inl (cI, 3, .inl g41_ad)), (b0, .inr (4, [.int g41_b0_0, .int g41_b0_1, .int g41_b0_2, .int g41_b0_3, .ref bk, .ref bp, .ref bl, .ref br])), (bk, .inl (cI, 10, .inl g41_bk)), (bp, .inl (cI, 10, .inl g41_bp)), (bl, .inl (cI, 10, .inl g41_bl)), (br, .inl (cI, 10, .inl g41_br))] H → va_D A [(a0, .inr (5, [.ref ag, .ref am, .ref ad, .ref b0, .int (nI tn), .int g41_a0_5, .int g41_a0_6, .int g41_a0_7, .int g41_a0_8])), (ag, .inl (cI, 120, .inl tx)), (am, .inl (cI, 3, .inl g41_am)), (ad, .inl (cI, 3, .inl g41_ad)), (b0, .inr (4, [.int g41_b0_0, .int g41_b0_1, .int g41_b0_2, .int g41_b0_3, .ref bk, .ref bp, .ref bl, .ref br])), (bk, .inl (cI, 10, .inl g41_bk)), (bp, .inl (cI, 10, .inl g41_bp)), (bl, .inl (cI, 10, .inl g41_bl)), (br, .inl (cI, 10, .inl g41_br))] → va_S A s.heap H locs → ∀ ls : Array Slot, lv_has ls 2 [(0, .ref a0), (1, .int x41_1)] → W p l e (headSpec wsX5_read { frames := 8, cells := 0, slots := 0, locals := 186 }).room s m ([.ref a0] : List Value).toArray below meth c H locs 0 0 (MQ below (ftXv D [(a0, .inr (5, [.ref ag, .ref am, .ref ad, .ref b0, .int (nI tn), .int v1, .int v2, .int v3, .int v4])), (ag, .inl (cI, 120, .inl tx)), (am, .inl (cI, 3, .inl nf)), (ad, .inl (cI, 3, .inl td)), (b0, .inr (4, [.int len, .int att, .int en, .int (nI n), .ref bk, .ref bp, .ref bl, .ref br])), (bk, .inl (cI, 10, .inl kf)), (bp, .inl (cI, 10, .inl pf)), (bl, .inl (cI, 10, .inl lf)), (br, .inl (cI, 10, .inl rf))] s.heap.size (fun (u : Nat × (Nat → Int32) × (Nat → Nat → Int32)) => (¬ ftCPar tx tn = none → (u.2.1 0 = 0 ∧ ftLR (ftCPm tx tn) (u.2.1 4) (u.2.1 5) (u.2.1 6) u.1 (u.2.2 2) (u.2.2 3) (u.2.2 4) (u.2.2 5))) ∧ (ftCPar tx tn = none → ¬ u.2.1 0 = 0)) (fun (u : Nat × (Nat → Int32) × (Nat → Nat → Int32)) => [(a0, .inr (5, [.ref ag, .ref am, .ref ad, .ref b0, .int (nI tn), .int (u.2.1 0), .int (u.2.1 1), .int (u.2.1 2), .int (u.2.1 3)])), (ag, .inl (cI, 120, .inl tx)), (am, .inl (cI, 3, .inl (u.2.2 0))), (ad, .inl (cI, 3, .inl (u.2.2 1))), (b0, .inr (4, [.int (u.2.1 4), .int (u.2.1 5), .int (u.2.1 6), .int (nI u.1), .ref bk, .ref bp, .ref bl, .ref br])), (bk, .inl (cI, 10, .inl (u.2.2 2))), (bp, .inl (cI, 10, .inl (u.2.2 3))), (bl, .inl (cI, 10, .inl (u.2.2 4))), (br, .inl (cI, 10, .inl (u.2.2 5)))])) ([.ref a0] : List Value).toArray s 0 0 A) (F0 m 41 ls []) := by
          intro n41
          induction n41 with
          | zero =>
            intro i sq hg nq rs9 f9 g9 ps9 le9 at9 en9 mq y2 y3 k9 p9 l9 r9 x41_1 g41_a0_5 g41_a0_6 g41_a0_7 g41_a0_8 g41_b0_0 g41_b0_1 g41_b0_2 g41_b0_3 g41_am g41_ad g41_bk g41_bp g41_bl g41_br hm41
            exact absurd hm41 (Nat.not_lt_zero _)
          | succ n41 ih41 =>
            intro i sq hg nq rs9 f9 g9 ps9 le9 at9 en9 mq y2 y3 k9 p9 l9 r9 x41_1 g41_a0_5 g41_a0_6 g41_a0_7 g41_a0_8 g41_b0_0 g41_b0_1 g41_b0_2 g41_b0_3 g41_am g41_ad g41_bk g41_bp g41_bl g41_br hm41 hiL hDs ex41_1 eg41_a0_5 eg41_a0_6 eg41_a0_7 eg41_a0_8 eg41_b0_0 eg41_b0_1 eg41_b0_2 eg41_b0_3 eg41_am eg41_ad eg41_bk eg41_bp eg41_bl eg41_br H locs hP hD hS ls hl
            subst ex41_1
            replace eg41_a0_5 := eg41_a0_5.symm; subst eg41_a0_5
            replace eg41_a0_6 := eg41_a0_6.symm; subst eg41_a0_6
            replace eg41_a0_7 := eg41_a0_7.symm; subst eg41_a0_7
            replace eg41_a0_8 := eg41_a0_8.symm; subst eg41_a0_8
            replace eg41_b0_0 := eg41_b0_0.symm; subst eg41_b0_0
            replace eg41_b0_1 := eg41_b0_1.symm; subst eg41_b0_1
            replace eg41_b0_2 := eg41_b0_2.symm; subst eg41_b0_2
            subst eg41_b0_3
            replace eg41_am := eg41_am.symm; subst eg41_am
            replace eg41_ad := eg41_ad.symm; subst eg41_ad
            replace eg41_bk := eg41_bk.symm; subst eg41_bk
            replace eg41_bp := eg41_bp.symm; subst eg41_bp
            replace eg41_bl := eg41_bl.symm; subst eg41_bl
            replace eg41_br := eg41_br.symm; subst eg41_br
            refine lv_iload_n hx hb dX5_read_41 rfl (lv_at hl 1 rfl) ?_
            refine lv_bipush (v := 120) hx hb dX5_read_42 (by decide) ?_
            refine lv_icmp_ge (tgt := 75) hx hb dX5_read_44 (by decide) (fun c44 => ?_) (fun c44 => ?_)
            · have c44n : 120 ≤ i := ft_leN (by omega) (by omega) c44
              have hE9 : (rs9 = 0 ∧ ftLR mq le9 at9 en9 nq k9 p9 l9 r9 ∧ ftCPar tx tn = some mq) ∨ (¬ rs9 = 0 ∧ ftCPar tx tn = none) := by
                rcases hDs with ⟨e1, e2, e3, e4, e5, e6, e7, e8, e9⟩ | ⟨e1, e2⟩
                · exact Or.inl ⟨e1, e3, e9.trans (ftPar_e (by omega))⟩
                · exact Or.inr ⟨e1, e2⟩
              obtain ⟨u9, hu9⟩ : ∃ u9 : Nat × (Nat → Int32) × (Nat → Nat → Int32), u9 = (nq, (fun k => match k with | 0 => rs9 | 1 => f9 | 2 => g9 | 3 => ps9 | 4 => le9 | 5 => at9 | _ => en9), (fun k => match k with | 0 => y2 | 1 => y3 | 2 => k9 | 3 => p9 | 4 => l9 | _ => r9)) := ⟨_, rfl⟩
              have hw9 : ([(a0, .inr (5, [.ref ag, .ref am, .ref ad, .ref b0, .int (nI tn), .int rs9, .int f9, .int g9, .int ps9])), (ag, .inl (cI, 120, .inl tx)), (am, .inl (cI, 3, .inl y2)), (ad, .inl (cI, 3, .inl y3)), (b0, .inr (4, [.int le9, .int at9, .int en9, .int (nI nq), .ref bk, .ref bp, .ref bl, .ref br])), (bk, .inl (cI, 10, .inl k9)), (bp, .inl (cI, 10, .inl p9)), (bl, .inl (cI, 10, .inl l9)), (br, .inl (cI, 10, .inl r9))] : va_W) = [(a0, .inr (5, [.ref ag, .ref am, .ref ad, .ref b0, .int (nI tn), .int (u9.2.1 0), .int (u9.2.1 1), .int (u9.2.1 2), .int (u9.2.1 3)])), (ag, .inl (cI, 120, .inl tx)), (am, .inl (cI, 3, .inl (u9.2.2 0))), (ad, .inl (cI, 3, .inl (u9.2.2 1))), (b0, .inr (4, [.int (u9.2.1 4), .int (u9.2.1 5), .int (u9.2.1 6), .int (nI u9.1), .ref bk, .ref bp, .ref bl, .ref br])), (bk, .inl (cI, 10, .inl (u9.2.2 2))), (bp, .inl (cI, 10, .inl (u9.2.2 3))), (bl, .inl (cI, 10, .inl (u9.2.2 4))), (br, .inl (cI, 10, .inl (u9.2.2 5)))] := by subst hu9; rfl
              rw [hw9] at hP hD
              have hf9_0 : ¬ ftCPar tx tn = none → (u9.2.1 0 = 0 ∧ ftLR (ftCPm tx tn) (u9.2.1 4) (u9.2.1 5) (u9.2.1 6) u9.1 (u9.2.2 2) (u9.2.2 3) (u9.2.2 4) (u9.2.2 5)) := by intro q; rw [hu9]; rcases hE9 with ⟨e1, e2, e3⟩ | ⟨e1, e2⟩; exact ⟨e1, by rw [ftCPm_of e3]; exact e2⟩; exact absurd e2 q
              have hf9_1 : ftCPar tx tn = none → ¬ u9.2.1 0 = 0 := by intro q; rw [hu9]; rcases hE9 with ⟨e1, e2, e3⟩ | ⟨e1, e2⟩; (rw [e3] at q; exact absurd q (by simp)); exact e1
              exact W.vret hx hb hr (fun t ht hW => ⟨⟨u9, rfl, ⟨hf9_0, hf9_1⟩, by rw [ht]; exact hP, by rw [hAe]; exact hD⟩, by rw [hAe]; exact hS.F ht⟩) hS.2.2 dX5_read_75
            · have c44n : i < 120 := ft_nleN (by omega) (by omega) c44
              refine lv_aload_n hx hb dX5_read_47 rfl (lv_at hl 0 rfl) ?_
              refine va_get (D := D) (ci := 5) (v := .int ps9) (C := RX5) (T := TX5) (N := 9) hx hb hts (by decide +kernel) hown hK hP 0 rfl rfl 8 (by decide) (hts (.fieldLink RX5 42 "FiberTrace$LinkText" "position" "I") (by decide +kernel)) (fun _ h9 => h9) rfl dX5_read_48 ?_
              refine lv_aload_n hx hb dX5_read_51 rfl (lv_at hl 0 rfl) ?_
              refine va_get (D := D) (ci := 5) (v := .int (nI tn)) (C := RX5) (T := TX5) (N := 9) hx hb hts (by decide +kernel) hown hK hP 0 rfl rfl 4 (by decide) (hts (.fieldLink RX5 28 "FiberTrace$LinkText" "size" "I") (by decide +kernel)) (fun _ h9 => h9) rfl dX5_read_52 ?_
              refine lv_icmp_ge (tgt := 75) hx hb dX5_read_55 (by decide) (fun c55 => ?_) (fun c55 => ?_)
              · have hE9 : (rs9 = 0 ∧ ftLR mq le9 at9 en9 nq k9 p9 l9 r9 ∧ ftCPar tx tn = some mq) ∨ (¬ rs9 = 0 ∧ ftCPar tx tn = none) := by
                  rcases hDs with ⟨e1, e2, e3, e4, e5, e6, e7, e8, e9⟩ | ⟨e1, e2⟩
                  · exact Or.inl ⟨e1, e3, e9.trans (ftPar_e (fun r => by rw [e2] at c55; exact absurd (nI_ltI (by omega) (by omega) |>.mpr r) (Int32.not_lt.mpr c55)))⟩
                  · exact Or.inr ⟨e1, e2⟩
                obtain ⟨u9, hu9⟩ : ∃ u9 : Nat × (Nat → Int32) × (Nat → Nat → Int32), u9 = (nq, (fun k => match k with | 0 => rs9 | 1 => f9 | 2 => g9 | 3 => ps9 | 4 => le9 | 5 => at9 | _ => en9), (fun k => match k with | 0 => y2 | 1 => y3 | 2 => k9 | 3 => p9 | 4 => l9 | _ => r9)) := ⟨_, rfl⟩
                have hw9 : ([(a0, .inr (5, [.ref ag, .ref am, .ref ad, .ref b0, .int (nI tn), .int rs9, .int f9, .int g9, .int ps9])), (ag, .inl (cI, 120, .inl tx)), (am, .inl (cI, 3, .inl y2)), (ad, .inl (cI, 3, .inl y3)), (b0, .inr (4, [.int le9, .int at9, .int en9, .int (nI nq), .ref bk, .ref bp, .ref bl, .ref br])), (bk, .inl (cI, 10, .inl k9)), (bp, .inl (cI, 10, .inl p9)), (bl, .inl (cI, 10, .inl l9)), (br, .inl (cI, 10, .inl r9))] : va_W) = [(a0, .inr (5, [.ref ag, .ref am, .ref ad, .ref b0, .int (nI tn), .int (u9.2.1 0), .int (u9.2.1 1), .int (u9.2.1 2), .int (u9.2.1 3)])), (ag, .inl (cI, 120, .inl tx)), (am, .inl (cI, 3, .inl (u9.2.2 0))), (ad, .inl (cI, 3, .inl (u9.2.2 1))), (b0, .inr (4, [.int (u9.2.1 4), .int (u9.2.1 5), .int (u9.2.1 6), .int (nI u9.1), .ref bk, .ref bp, .ref bl, .ref br])), (bk, .inl (cI, 10, .inl (u9.2.2 2))), (bp, .inl (cI, 10, .inl (u9.2.2 3))), (bl, .inl (cI, 10, .inl (u9.2.2 4))), (br, .inl (cI, 10, .inl (u9.2.2 5)))] := by subst hu9; rfl
                rw [hw9] at hP hD
                have hf9_0 : ¬ ftCPar tx tn = none → (u9.2.1 0 = 0 ∧ ftLR (ftCPm tx tn) (u9.2.1 4) (u9.2.1 5) (u9.2.1 6) u9.1 (u9.2.2 2) (u9.2.2 3) (u9.2.2 4) (u9.2.2 5)) := by intro q; rw [hu9]; rcases hE9 with ⟨e1, e2, e3⟩ | ⟨e1, e2⟩; exact ⟨e1, by rw [ftCPm_of e3]; exact e2⟩; exact absurd e2 q
                have hf9_1 : ftCPar tx tn = none → ¬ u9.2.1 0 = 0 := by intro q; rw [hu9]; rcases hE9 with ⟨e1, e2, e3⟩ | ⟨e1, e2⟩; (rw [e3] at q; exact absurd q (by simp)); exact e1
                exact W.vret hx hb hr (fun t ht hW => ⟨⟨u9, rfl, ⟨hf9_0, hf9_1⟩, by rw [ht]; exact hP, by rw [hAe]; exact hD⟩, by rw [hAe]; exact hS.F ht⟩) hS.2.2 dX5_read_75
              · refine lv_aload_n hx hb dX5_read_58 rfl (lv_at hl 0 rfl) ?_
                refine va_get (D := D) (ci := 5) (v := .int rs9) (C := RX5) (T := TX5) (N := 9) hx hb hts (by decide +kernel) hown hK hP 0 rfl rfl 5 (by decide) (hts (.fieldLink RX5 39 "FiberTrace$LinkText" "reason" "I") (by decide +kernel)) (fun _ h9 => h9) rfl dX5_read_59 ?_
                refine lv_if_ne (tgt := 75) hx hb dX5_read_62 (by decide) (fun c62 => ?_) (fun c62 => ?_)
                · have hE9 : (rs9 = 0 ∧ ftLR mq le9 at9 en9 nq k9 p9 l9 r9 ∧ ftCPar tx tn = some mq) ∨ (¬ rs9 = 0 ∧ ftCPar tx tn = none) := by
                    rcases hDs with ⟨e1, e2, e3, e4, e5, e6, e7, e8, e9⟩ | ⟨e1, e2⟩
                    · exact absurd e1 c62
                    · exact Or.inr ⟨e1, e2⟩
                  obtain ⟨u9, hu9⟩ : ∃ u9 : Nat × (Nat → Int32) × (Nat → Nat → Int32), u9 = (nq, (fun k => match k with | 0 => rs9 | 1 => f9 | 2 => g9 | 3 => ps9 | 4 => le9 | 5 => at9 | _ => en9), (fun k => match k with | 0 => y2 | 1 => y3 | 2 => k9 | 3 => p9 | 4 => l9 | _ => r9)) := ⟨_, rfl⟩
                  have hw9 : ([(a0, .inr (5, [.ref ag, .ref am, .ref ad, .ref b0, .int (nI tn), .int rs9, .int f9, .int g9, .int ps9])), (ag, .inl (cI, 120, .inl tx)), (am, .inl (cI, 3, .inl y2)), (ad, .inl (cI, 3, .inl y3)), (b0, .inr (4, [.int le9, .int at9, .int en9, .int (nI nq), .ref bk, .ref bp, .ref bl, .ref br])), (bk, .inl (cI, 10, .inl k9)), (bp, .inl (cI, 10, .inl p9)), (bl, .inl (cI, 10, .inl l9)), (br, .inl (cI, 10, .inl r9))] : va_W) = [(a0, .inr (5, [.ref ag, .ref am, .ref ad, .ref b0, .int (nI tn), .int (u9.2.1 0), .int (u9.2.1 1), .int (u9.2.1 2), .int (u9.2.1 3)])), (ag, .inl (cI, 120, .inl tx)), (am, .inl (cI, 3, .inl (u9.2.2 0))), (ad, .inl (cI, 3, .inl (u9.2.2 1))), (b0, .inr (4, [.int (u9.2.1 4), .int (u9.2.1 5), .int (u9.2.1 6), .int (nI u9.1), .ref bk, .ref bp, .ref bl, .ref br])), (bk, .inl (cI, 10, .inl (u9.2.2 2))), (bp, .inl (cI, 10, .inl (u9.2.2 3))), (bl, .inl (cI, 10, .inl (u9.2.2 4))), (br, .inl (cI, 10, .inl (u9.2.2 5)))] := by subst hu9; rfl
                  rw [hw9] at hP hD
                  have hf9_0 : ¬ ftCPar tx tn = none → (u9.2.1 0 = 0 ∧ ftLR (ftCPm tx tn) (u9.2.1 4) (u9.2.1 5) (u9.2.1 6) u9.1 (u9.2.2 2) (u9.2.2 3) (u9.2.2 4) (u9.2.2 5)) := by intro q; rw [hu9]; rcases hE9 with ⟨e1, e2, e3⟩ | ⟨e1, e2⟩; exact ⟨e1, by rw [ftCPm_of e3]; exact e2⟩; exact absurd e2 q
                  have hf9_1 : ftCPar tx tn = none → ¬ u9.2.1 0 = 0 := by intro q; rw [hu9]; rcases hE9 with ⟨e1, e2, e3⟩ | ⟨e1, e2⟩; (rw [e3] at q; exact absurd q (by simp)); exact e1
                  exact W.vret hx hb hr (fun t ht hW => ⟨⟨u9, rfl, ⟨hf9_0, hf9_1⟩, by rw [ht]; exact hP, by rw [hAe]; exact hD⟩, by rw [hAe]; exact hS.F ht⟩) hS.2.2 dX5_read_75
                · refine lv_aload_n hx hb dX5_read_65 rfl (lv_at hl 0 rfl) ?_
                  obtain ⟨hr0, hp0, hLq, hTq, hLfq, hhq, hiq, hsq, hCq⟩ := hDs.resolve_right (fun q => q.1 c62)
                  have hltq : sq < tn := by
                    rw [hp0] at c55; exact ft_ltN (by omega) (by omega) (Int32.not_le.mp c55)
                  subst hr0
                  subst hp0
                  have hP : va_P D vwCl [(a0, .inr (5, [.ref ag, .ref am, .ref ad, .ref b0, .int (nI tn), .int 0, .int f9, .int g9, .int (nI sq)])), (ag, .inl (cI, 120, .inl tx)), (am, .inl (cI, 3, .inl y2)), (ad, .inl (cI, 3, .inl y3)), (b0, .inr (4, [.int le9, .int at9, .int en9, .int (nI nq), .ref bk, .ref bp, .ref bl, .ref br])), (bk, .inl (cI, 10, .inl k9)), (bp, .inl (cI, 10, .inl p9)), (bl, .inl (cI, 10, .inl l9)), (br, .inl (cI, 10, .inl r9))] H := hP
                  have hD : va_D A [(a0, .inr (5, [.ref ag, .ref am, .ref ad, .ref b0, .int (nI tn), .int 0, .int f9, .int g9, .int (nI sq)])), (ag, .inl (cI, 120, .inl tx)), (am, .inl (cI, 3, .inl y2)), (ad, .inl (cI, 3, .inl y3)), (b0, .inr (4, [.int le9, .int at9, .int en9, .int (nI nq), .ref bk, .ref bp, .ref bl, .ref br])), (bk, .inl (cI, 10, .inl k9)), (bp, .inl (cI, 10, .inl p9)), (bl, .inl (cI, 10, .inl l9)), (br, .inl (cI, 10, .inl r9))] := hD
                  refine ft_cxv (S := Nat × (Nat → Int32) × (Nat → Nat → Int32)) (wc := [(a0, .inr (5, [.ref ag, .ref am, .ref ad, .ref b0, .int (nI tn), .int 0, .int f9, .int g9, .int (nI sq)])), (ag, .inl (cI, 120, .inl tx)), (am, .inl (cI, 3, .inl y2)), (ad, .inl (cI, 3, .inl y3)), (b0, .inr (4, [.int le9, .int at9, .int en9, .int (nI nq), .ref bk, .ref bp, .ref bl, .ref br])), (bk, .inl (cI, 10, .inl k9)), (bp, .inl (cI, 10, .inl p9)), (bl, .inl (cI, 10, .inl l9)), (br, .inl (cI, 10, .inl r9))]) (wr := []) (w1 := (fun (u66 : Nat × (Nat → Int32) × (Nat → Nat → Int32)) => [(a0, .inr (5, [.ref ag, .ref am, .ref ad, .ref b0, .int (nI tn), .int (u66.2.1 0), .int (u66.2.1 1), .int (u66.2.1 2), .int (u66.2.1 3)])), (ag, .inl (cI, 120, .inl tx)), (am, .inl (cI, 3, .inl (u66.2.2 0))), (ad, .inl (cI, 3, .inl (u66.2.2 1))), (b0, .inr (4, [.int (u66.2.1 4), .int (u66.2.1 5), .int (u66.2.1 6), .int (nI u66.1), .ref bk, .ref bp, .ref bl, .ref br])), (bk, .inl (cI, 10, .inl (u66.2.2 2))), (bp, .inl (cI, 10, .inl (u66.2.2 3))), (bl, .inl (cI, 10, .inl (u66.2.2 4))), (br, .inl (cI, 10, .inl (u66.2.2 5)))])) (ws1 := (fun (u66 : Nat × (Nat → Int32) × (Nat → Nat → Int32)) => [(a0, .inr (5, [.ref ag, .ref am, .ref ad, .ref b0, .int (nI tn), .int (u66.2.1 0), .int (u66.2.1 1), .int (u66.2.1 2), .int (u66.2.1 3)])), (ag, .inl (cI, 120, .inl tx)), (am, .inl (cI, 3, .inl (u66.2.2 0))), (ad, .inl (cI, 3, .inl (u66.2.2 1))), (b0, .inr (4, [.int (u66.2.1 4), .int (u66.2.1 5), .int (u66.2.1 6), .int (nI u66.1), .ref bk, .ref bp, .ref bl, .ref br])), (bk, .inl (cI, 10, .inl (u66.2.2 2))), (bp, .inl (cI, 10, .inl (u66.2.2 3))), (bl, .inl (cI, 10, .inl (u66.2.2 4))), (br, .inl (cI, 10, .inl (u66.2.2 5)))])) (va_runV (C := RX5) (As := []) (rest := []) ⟨hx, hb, hml, hown, hts⟩ (c_X5_readItem l D cI cS H.size sK sV a0 ag am ad b0 tn 0 f9 g9 sq le9 at9 en9 nq bk bp bl br k9 p9 l9 r9 tx y2 y3 mq hg htn hsq hhq hLq hTq hLfq) (cwV 0 hts gX5_read_X5_readItem rfl rfl rfl (by decide +kernel) ⟨Nat.le_of_ble_eq_true rfl, Nat.le_of_ble_eq_true rfl⟩) (ft_preRWVS (ci := 5) (q0 := 0) hP hD hKK hSt hS hA [0, 1, 2, 3, 4, 5, 6, 7, 8] rfl rfl rfl rfl rfl) rfl rfl hl.1 rfl (lv_room (Nat.le_of_ble_eq_true rfl)) dX5_read_66 ⟨Nat.le_of_ble_eq_true rfl, Nat.le_of_ble_eq_true rfl⟩) hP hD hS hA [0, 1, 2, 3, 4, 5, 6, 7, 8] [] [0, 1, 2, 3, 4, 5, 6, 7, 8] rfl rfl (by decide) (by decide) (by decide) (fun _ => rfl) (fun _ => rfl) (fun u66 hu66 H locs hP hD hS => ?_)
                  obtain ⟨hyes66, hnoo66⟩ := hu66
                  have hP : va_P D vwCl [(a0, .inr (5, [.ref ag, .ref am, .ref ad, .ref b0, .int (nI tn), .int (u66.2.1 0), .int (u66.2.1 1), .int (u66.2.1 2), .int (u66.2.1 3)])), (ag, .inl (cI, 120, .inl tx)), (am, .inl (cI, 3, .inl (u66.2.2 0))), (ad, .inl (cI, 3, .inl (u66.2.2 1))), (b0, .inr (4, [.int (u66.2.1 4), .int (u66.2.1 5), .int (u66.2.1 6), .int (nI u66.1), .ref bk, .ref bp, .ref bl, .ref br])), (bk, .inl (cI, 10, .inl (u66.2.2 2))), (bp, .inl (cI, 10, .inl (u66.2.2 3))), (bl, .inl (cI, 10, .inl (u66.2.2 4))), (br, .inl (cI, 10, .inl (u66.2.2 5)))] H := hP
                  have hD : va_D A [(a0, .inr (5, [.ref ag, .ref am, .ref ad, .ref b0, .int (nI tn), .int (u66.2.1 0), .int (u66.2.1 1), .int (u66.2.1 2), .int (u66.2.1 3)])), (ag, .inl (cI, 120, .inl tx)), (am, .inl (cI, 3, .inl (u66.2.2 0))), (ad, .inl (cI, 3, .inl (u66.2.2 1))), (b0, .inr (4, [.int (u66.2.1 4), .int (u66.2.1 5), .int (u66.2.1 6), .int (nI u66.1), .ref bk, .ref bp, .ref bl, .ref br])), (bk, .inl (cI, 10, .inl (u66.2.2 2))), (bp, .inl (cI, 10, .inl (u66.2.2 3))), (bl, .inl (cI, 10, .inl (u66.2.2 4))), (br, .inl (cI, 10, .inl (u66.2.2 5)))] := hD
                  obtain ⟨sq2, hg2, mq2, hD2⟩ : ∃ (sq2 hg2 : Nat) (mq2 : Nat → Int32), ftRdI tx tn (i + 1) sq2 hg2 mq2 (u66.2.1 0) (u66.2.1 3) (u66.2.1 4) (u66.2.1 5) (u66.2.1 6) u66.1 (u66.2.2 1) (u66.2.2 2) (u66.2.2 3) (u66.2.2 4) (u66.2.2 5) := by
                    rcases Classical.em (ftItOk tx tn mq hg sq) with q | q
                    · obtain ⟨e1, e2, e3, e4⟩ := hyes66 q
                      have hgt := ftItP_gt (tx := tx) (tn := tn) (p := sq)
                      exact ⟨ftItP tx tn sq, ftItH tx tn hg sq, ftItM tx tn mq sq, Or.inl ⟨e1, e2, e3, e4, ftItM_lf hLfq q, ftItH_lt hhq q, by omega, ftItP_le q, hCq.trans (ftPar_t hltq q)⟩⟩
                    · exact ⟨sq, hg, mq, Or.inr ⟨hnoo66 q, hCq.trans (ftPar_f hltq q)⟩⟩
                  refine lv_iinc (v := nI (i + 1)) (lv' := [(1, .int (nI (i + 1))), (0, .ref a0)]) hx hb dX5_read_69 hl (k := 1) rfl (ft_inc i) (by decide) rfl (fun ls hl => ?_)
                  refine lv_goto (tgt := 41) hx hb dX5_read_72 (by decide) ?_
                  exact ih41 (i + 1) sq2 hg2 u66.1 (u66.2.1 0) (u66.2.1 1) (u66.2.1 2) (u66.2.1 3) (u66.2.1 4) (u66.2.1 5) (u66.2.1 6) mq2 (u66.2.2 0) (u66.2.2 1) (u66.2.2 2) (u66.2.2 3) (u66.2.2 4) (u66.2.2 5) (nI (i + 1)) (u66.2.1 0) (u66.2.1 1) (u66.2.1 2) (u66.2.1 3) (u66.2.1 4) (u66.2.1 5) (u66.2.1 6) (nI u66.1) (u66.2.2 0) (u66.2.2 1) (u66.2.2 2) (u66.2.2 3) (u66.2.2 4) (u66.2.2 5) (by omega) (by omega) (by exact hD2) (by first | rfl | assumption) (by first | rfl | assumption) (by first | rfl | assumption) (by first | rfl | assumption) (by first | rfl | assumption) (by first | rfl | assumption) (by first | rfl | assumption) (by first | rfl | assumption) (by first | rfl | assumption) (by first | rfl | assumption) (by first | rfl | assumption) (by first | rfl | assumption) (by first | rfl | assumption) (by first | rfl | assumption) (by first | rfl | assumption) _ _ hP hD hS ls (lv_sub hl [1, 0] rfl)
        exact lp41 _ 0 0 0 0 0 v2 v3 0 200 10 12000 (ftMd0 (fun _ => 0)) nf t9 kf pf lf rf 0 0 v2 v3 0 200 10 12000 0 nf t9 kf pf lf rf (Nat.lt_succ_self _) (by omega) (by exact Or.inl ⟨rfl, rfl, ftMd0_lr _ kf pf lf rf, fun j hj => by rw [hz j (by omega), Nat.zero_div]; rfl, ftMd0_lf _, by omega, by omega, by omega, rfl⟩) (by rfl) (by rfl) (by rfl) (by rfl) (by rfl) (by rfl) (by rfl) (by rfl) (by rfl) (by rfl) (by rfl) (by rfl) (by rfl) (by rfl) (by rfl) _ _ hP hD hS ls (lv_sub hl [1, 0] rfl)
      · have c11n : i < 3 := ft_nleN (by omega) (by omega) c11
        refine lv_aload_n hx hb dX5_read_14 rfl (lv_at hl 0 rfl) ?_
        refine va_get (D := D) (ci := 5) (v := .ref ad) (C := RX5) (T := TX5) (N := 9) hx hb hts (by decide +kernel) hown hK hP 0 rfl rfl 2 (by decide) (hts (.fieldLink RX5 18 "FiberTrace$LinkText" "told" "[I") (by decide +kernel)) (fun _ h9 => h9) rfl dX5_read_15 ?_
        refine lv_iload_n hx hb dX5_read_18 rfl (lv_at hl 1 rfl) ?_
        refine lv_iconst (v := 0) hx hb dX5_read_19 (by decide) ?_
        refine ft_cv (wc := [(ad, .inl (cI, 3, .inl t9))]) (wr := [(a0, .inr (5, [.ref ag, .ref am, .ref ad, .ref b0, .int (nI tn), .int v1, .int v2, .int v3, .int v4])), (ag, .inl (cI, 120, .inl tx)), (am, .inl (cI, 3, .inl nf)), (b0, .inr (4, [.int 200, .int 10, .int 12000, .int 0, .ref bk, .ref bp, .ref bl, .ref br])), (bk, .inl (cI, 10, .inl kf)), (bp, .inl (cI, 10, .inl pf)), (bl, .inl (cI, 10, .inl lf)), (br, .inl (cI, 10, .inl rf))]) (w1 := [(ad, .inl (cI, 3, .inl (ftPut 3 t9 (nI i) 0)))]) (ws1 := [(a0, .inr (5, [.ref ag, .ref am, .ref ad, .ref b0, .int (nI tn), .int v1, .int v2, .int v3, .int v4])), (ag, .inl (cI, 120, .inl tx)), (am, .inl (cI, 3, .inl nf)), (ad, .inl (cI, 3, .inl (ftPut 3 t9 (nI i) 0))), (b0, .inr (4, [.int 200, .int 10, .int 12000, .int 0, .ref bk, .ref bp, .ref bl, .ref br])), (bk, .inl (cI, 10, .inl kf)), (bp, .inl (cI, 10, .inl pf)), (bl, .inl (cI, 10, .inl lf)), (br, .inl (cI, 10, .inl rf))]) (va_runSN (As := [.ref ad, .int (nI i), .int 0]) (rest := []) ⟨hx, hb, hml, hown, hts⟩ (c_X10_put l D cI cS H.size ad 3 t9 (nI i) 0 (by first | assumption | omega)) ⟨va_cnB 3 hts gX5_read_X10_put_n32 rfl rfl rfl (hKK.2 _ (List.mem_of_getElem? (i := 7) rfl)) (hts (.initialized RX10) (by decide +kernel)) (by decide +kernel) ⟨Nat.le_of_ble_eq_true rfl, Nat.le_of_ble_eq_true rfl⟩, hts (.static yX10_put) (by decide +kernel), trivial⟩ (ft_preRW hP hD hKK [3] rfl rfl rfl) rfl rfl hl.1 rfl (lv_room (Nat.le_of_ble_eq_true rfl)) dX5_read_20 ⟨Nat.le_of_ble_eq_true rfl, Nat.le_of_ble_eq_true rfl⟩) hP hD hS hA [3] [0, 1, 2, 4, 5, 6, 7, 8] [0, 1, 2, 8, 3, 4, 5, 6, 7] rfl rfl (by decide) (by decide) (by decide) rfl rfl (fun H locs hP hD hS => ?_)
        rw [ftPut_N (k := i) (by omega) (by omega)] at hP hD
        have hP : va_P D vwCl [(a0, .inr (5, [.ref ag, .ref am, .ref ad, .ref b0, .int (nI tn), .int v1, .int v2, .int v3, .int v4])), (ag, .inl (cI, 120, .inl tx)), (am, .inl (cI, 3, .inl nf)), (ad, .inl (cI, 3, .inl (upd t9 i 0))), (b0, .inr (4, [.int 200, .int 10, .int 12000, .int 0, .ref bk, .ref bp, .ref bl, .ref br])), (bk, .inl (cI, 10, .inl kf)), (bp, .inl (cI, 10, .inl pf)), (bl, .inl (cI, 10, .inl lf)), (br, .inl (cI, 10, .inl rf))] H := hP
        have hD : va_D A [(a0, .inr (5, [.ref ag, .ref am, .ref ad, .ref b0, .int (nI tn), .int v1, .int v2, .int v3, .int v4])), (ag, .inl (cI, 120, .inl tx)), (am, .inl (cI, 3, .inl nf)), (ad, .inl (cI, 3, .inl (upd t9 i 0))), (b0, .inr (4, [.int 200, .int 10, .int 12000, .int 0, .ref bk, .ref bp, .ref bl, .ref br])), (bk, .inl (cI, 10, .inl kf)), (bp, .inl (cI, 10, .inl pf)), (bl, .inl (cI, 10, .inl lf)), (br, .inl (cI, 10, .inl rf))] := hD
        refine lv_iinc (v := nI (i + 1)) (lv' := [(1, .int (nI (i + 1))), (0, .ref a0)]) hx hb dX5_read_23 hl (k := 1) rfl (ft_inc i) (by decide) rfl (fun ls hl => ?_)
        refine lv_goto (tgt := 9) hx hb dX5_read_26 (by decide) ?_
        exact ih9 (i + 1) (upd t9 i 0) (nI (i + 1)) (upd t9 i 0) (by omega) (by omega) (by intro t ht; rcases Nat.lt_succ_iff_lt_or_eq.mp ht with q | q; exact (ftUpd_ne (by omega)).trans (hz t q); subst q; exact ftUpd_at0) (by first | rfl | assumption) (by first | rfl | assumption) _ _ hP hD hS ls (lv_sub hl [1, 0] rfl)
  exact lp9 _ 0 td 0 td (Nat.lt_succ_self _) (by omega) (by intro t ht; exact absurd ht (Nat.not_lt_zero t)) (by rfl) (by rfl) _ _ hP hD hS ls (lv_sub hl [1, 0] rfl)
end
section
/-! the class's rows and a row of the reference: base, peaks, joints -/
theorem ft_subsub (a b c : Int32) : a - b - c = a - (b + c) := by
  simp only [Int32.sub_eq_add_neg, Int32.neg_add, Int32.add_assoc]
/-- the parts of a link are a row's -/
def ftLRk (w : Nat → Int32) (n : Nat) (kf pf lf rf : Nat → Int32) : Prop := ∀ k, k < n → w (4 + 4 * k + 0) = kf k ∧ w (4 + 4 * k + 1) = pf k ∧ w (4 + 4 * k + 2) = lf k ∧ w (4 + 4 * k + 3) = rf k
theorem ftFade_w {w kf pf lf rf : Nat → Int32} {att x : Int32} {n : Nat} (ha : w 1 = att) (h : ftLRk w n kf pf lf rf) : ∀ m, m ≤ n → ftFade kf pf lf att x m = ftFw w x m := by
  intro m
  induction m with
  | zero => intro _; exact ha.symm
  | succ m ih =>
    intro hm
    obtain ⟨a, b, c, -⟩ := h m (by omega)
    rw [ftFade, ftFw, a, b, c, ih (by omega)]
theorem ftLv_sum {w : Nat → Int32} {n : Nat} : ∀ X, ftLv w n X = 50000 - ftSum (fun x => ftFw w (nI x) n) X := by
  intro X
  induction X with
  | zero => show (50000 : Int32) = 50000 - 0; decide
  | succ X ih =>
    show ftLv w n X - ftFw w (nI X) n = 50000 - (ftSum (fun x => ftFw w (nI x) n) X + ftFw w (nI X) n)
    rw [ih, ft_subsub]
theorem ftKd_lt {w : Nat → Int32} (h : ftLf w) {k : Nat} (hk : k < ftCN w) : ¬ w (4 + 4 * k + 0) = 2 ↔ w (4 + 4 * k + 0) < 2 := by
  rcases (h.2.2.2.2.1 k hk).1 with q | q | q
  · rw [q.1]; decide
  · rw [q.1]; decide
  · rw [q.1]; decide
theorem ftJoints_w {w kf pf lf rf : Nat → Int32} {x s0 : Int32} {n : Nat} (h : ftLRk w n kf pf lf rf) (hk : ∀ k, k < n → (¬ w (4 + 4 * k + 0) = 2 ↔ w (4 + 4 * k + 0) < 2)) : ∀ m, m ≤ n → s0 + ftJoints kf pf lf x m = ftLj w x s0 m := by
  intro m
  induction m with
  | zero => intro _; show s0 + 0 = s0; exact Int32.add_zero s0
  | succ m ih =>
    intro hm
    obtain ⟨a, b, c, -⟩ := h m (by omega)
    have hq := hk m (by omega)
    rw [ftJoints, ftLj, ← ih (by omega), ← a, ← b, ← c, ← Int32.add_assoc]
    by_cases d : w (4 + 4 * m + 0) < 2 ∧ w (4 + 4 * m + 1) < x
    · rw [if_pos d, if_pos ⟨hq.mpr d.1, d.2⟩]
    · rw [if_neg d, if_neg (fun r => d ⟨hq.mp r.1, r.2⟩)]
theorem ftSpr_w {w kf pf lf rf : Nat → Int32} {x b0 : Int32} {n : Nat} (hw : ¬ w (44 + 0) = 0) (h : ftLRk w n kf pf lf rf) (hk : ∀ k, k < n → (¬ w (4 + 4 * k + 0) = 2 ↔ w (4 + 4 * k + 0) < 2)) : ∀ m, m ≤ n → b0 - ftSpr kf pf lf x (w (44 + 0)) m = ftBi w x b0 m := by
  intro m
  induction m with
  | zero => intro _; show b0 - 0 = b0; exact Int32.sub_zero b0
  | succ m ih =>
    intro hm
    obtain ⟨a, b, c, -⟩ := h m (by omega)
    have hq := hk m (by omega)
    have es : ftSpr1 (lf m) (pf m) x (w (44 + 0)) = ftSp1 w x m := by
      unfold ftSpr1 ftSp1 ftQuot
      rw [if_neg hw, b, c]
    rw [ftSpr, ftBi, ← ih (by omega), es, ← a, ← b]
    by_cases d : w (4 + 4 * m + 0) < 2 ∧ w (4 + 4 * m + 1) ≤ x
    · rw [if_pos d, if_pos ⟨hq.mpr d.1, d.2⟩, ft_subsub]
    · rw [if_neg d, if_neg (fun r => d ⟨hq.mp r.1, r.2⟩), Int32.add_zero]
theorem ftLR_ln {w : Nat → Int32} {ln : Nat} {att en : Int32} {n : Nat} {kf pf lf rf : Nat → Int32} (h : ftLR w (nI ln) att en n kf pf lf rf) (hl : ln ≤ 400) : ftCL w = ln := by
  unfold ftCL; rw [h.1, nI_clamp (by omega)]
theorem ftLR_pos {w : Nat → Int32} {len att en : Int32} {n : Nat} {kf pf lf rf : Nat → Int32} (hf : ftLf w) (h : ftLR w len att en n kf pf lf rf) : ftPos pf n (fun k => (pf k).toNatClampNeg) := by
  have hn := ftLR_n h
  refine ⟨h.2.2.2.2.1, fun t ht => ?_, fun t ht => ?_, fun a b hab hb => ?_⟩
  · have q := (hf.2.2.2.2.1 t (by omega)).2
    rw [(h.2.2.2.2.2 t ht).2.1] at q
    exact (ftI_nat (ftI_ge0 (N := 1) q.1 (by omega))).1
  · have q := (hf.2.2.2.2.1 t (by omega)).2
    have q4 := hf.2.1.2
    rw [(h.2.2.2.2.2 t ht).2.1] at q
    have q0 := ftI_ge0 (N := 1) q.1 (by omega)
    obtain ⟨e1, e2⟩ := ftI_nat q0
    have l0 := ftLf_0 hf
    have l1 := ftLf_ln hf
    rw [l0, e1] at q
    have := ft_ltN e2 (by omega) q.2
    show (pf t).toNatClampNeg < 400
    omega
  · have qa := (hf.2.2.2.2.1 a (by omega)).2
    have qb := (hf.2.2.2.2.1 b (by omega)).2
    have q := hf.2.2.2.2.2 a b hab (by omega)
    rw [(h.2.2.2.2.2 a (by omega)).2.1] at q qa
    rw [(h.2.2.2.2.2 b (by omega)).2.1] at q qb
    obtain ⟨e1, e2⟩ := ftI_nat (ftI_ge0 (N := 1) qa.1 (by omega))
    obtain ⟨e3, e4⟩ := ftI_nat (ftI_ge0 (N := 1) qb.1 (by omega))
    rw [e1, e3] at q
    exact ft_ltN e2 e4 q
theorem ftWf_s0z {w : Nat → Int32} (h : ftWf w) : ¬ w (44 + 0) = 0 := by
  rw [ftWf_s0 h]
  have := ftWf_wd h
  exact nI_ne0 (ftWf_wd1 h) (by omega)
theorem ftBase_w {w : Nat → Int32} {ln : Nat} {att en : Int32} {n : Nat} {kf pf lf rf : Nat → Int32} (hf : ftWf w) (h : ftLR w (nI ln) att en n kf pf lf rf) (hl : ln ≤ 400) {ws : Int32} (hs : ws = w (44 + 0)) (x : Nat) : ftBase ln kf pf lf att n ws x = ftCB w x := by
  have hn := ftLR_n h
  have hc := ftLR_ln h hl
  subst hs
  unfold ftBase ftCB ftBsM
  rw [hc, hn]
  by_cases c : nI x < nI ln
  · rw [if_pos c, if_pos c, ← ftSpr_w (ftWf_s0z hf) h.2.2.2.2.2 (fun k hk => ftKd_lt hf.1 (by omega)) n (Nat.le_refl n), ftLv_sum, ftFades, ftSum_congr (fun y _ => ftFade_w h.2.1 h.2.2.2.2.2 n (Nat.le_refl n))]
  · rw [if_neg c, if_neg c]
theorem ftPks_I {PP HH : Nat → Nat} {wd d N t : Nat} {f : Nat → Int32} (ht : t < N) (h0 : ∀ t, t < N → 0 ≤ f t) : ∀ i, ftPks PP HH wd d N f i t = ftPkI PP HH wd d t (f t) i := by
  intro i
  induction i with
  | zero => rfl
  | succ i ih =>
    have hp := ftPks_pos (PP := PP) (HH := HH) (w := wd) (d := d) h0 i t ht
    show ftRaiseG (ftPks PP HH wd d N f i) (PP i) (HH i) wd d N t = _
    rw [ftPkI, ← ih]
    unfold ftRaiseG
    by_cases c : PP i ≤ t
    · rw [if_pos ⟨c, ht⟩]
      unfold ftMax
      by_cases q : nI (ftPk (PP i) (HH i) wd d t) < ftPks PP HH wd d N f i t
      · rw [if_pos q, if_neg (fun r => Int32.lt_irrefl (Int32.lt_trans q r))]
      · rw [if_neg q]
        by_cases r : ftPks PP HH wd d N f i t < nI (ftPk (PP i) (HH i) wd d t)
        · rw [if_pos r]
        · rw [if_neg r]; exact Int32.le_antisymm (Int32.not_lt.mp r) (Int32.not_lt.mp q)
    · have e : ftPk (PP i) (HH i) wd d t = 0 := by unfold ftPk; rw [if_pos (by omega)]
      rw [if_neg (fun q => c q.1), e, nI_0, if_neg (Int32.not_lt.mpr hp)]
theorem ftPeaks_w {PP HH PG HG : Nat → Nat} {r g wd d N x : Nat} {fp : Nat → Int32} (hx : x < N) : ftPeaks PP HH PG HG r g wd d N fp x = ftPkM PP HH PG HG r g wd d x := by
  have h0 : ∀ t, t < N → 0 ≤ ftFill (fun _ => 0) fp N t := fun t ht => by rw [ftFill_at ht]; decide
  unfold ftPeaks ftPkM
  rw [ftPks_I hx (ftPks_pos h0 r), ftPks_I hx h0, ftFill_at hx]
/-! flashes and ghosts of the class -/
theorem ftFl_w {w : Nat → Int32} {len att en : Int32} {n : Nat} {kf pf lf rf : Nat → Int32} (h : ftLR w len att en n kf pf lf rf) (p0 h0 : Nat → Int32) : (ftFlE len en kf pf rf p0 h0 n).1 = (ftCF w).1 ∧ ∀ t, t < (ftFlE len en kf pf rf p0 h0 n).1 → (ftFlE len en kf pf rf p0 h0 n).2.1 t = (ftCF w).2.1 t ∧ (ftFlE len en kf pf rf p0 h0 n).2.2 t = (ftCF w).2.2 t := by
  unfold ftCF ftFW
  rw [ftLR_n h]
  exact ftFlE_cong h.1.symm h.2.2.1.symm (fun t ht => ⟨(h.2.2.2.2.2 t ht).1.symm, (h.2.2.2.2.2 t ht).2.1.symm, (h.2.2.2.2.2 t ht).2.2.2.symm⟩)
/-- flashes that are those of w -/
def ftFle (w : Nat → Int32) (R : Nat × (Nat → Int32) × (Nat → Int32)) : Prop := R.1 = (ftCF w).1 ∧ ∀ t, t < R.1 → R.2.1 t = (ftCF w).2.1 t ∧ R.2.2 t = (ftCF w).2.2 t
theorem ftFle_gh {w : Nat → Int32} (hf : ftLf w) {R : Nat × (Nat → Int32) × (Nat → Int32)} (h : ftFle w R) {gl : Int32} (hg : gl = w (44 + 2)) (f1 f2 f3 : Nat → Int32) : ftGrel (ftGhs R gl f1 f2 f3) (ftCG w) := by
  subst hg
  have hk := (ftFW_ok hf (fun _ => 0) (fun _ => 0)).2.2
  exact ftGrel_run h.1 h.2 (fun a b hab hb => by rw [(h.2 a (by omega)).1, (h.2 b hb).1]; exact hk a b hab (by show b < (ftCF w).1; rw [← h.1]; exact hb))
theorem ftFle_le {w : Nat → Int32} (hf : ftLf w) {R : Nat × (Nat → Int32) × (Nat → Int32)} (h : ftFle w R) : R.1 ≤ 11 := by rw [h.1]; exact (ftFW_ok hf (fun _ => 0) (fun _ => 0)).1
theorem ftFle_rf {w : Nat → Int32} (hf : ftLf w) {R : Nat × (Nat → Int32) × (Nat → Int32)} (h : ftFle w R) : ∀ i, i < R.1 → R.2.1 i = nI (ftTn (ftCF w).2.1 i) ∧ R.2.2 i = nI (ftTn (ftCF w).2.2 i) ∧ ftTn (ftCF w).2.1 i ≤ 1000 ∧ 0 < ftTn (ftCF w).2.2 i ∧ ftTn (ftCF w).2.2 i ≤ 40000 := by
  intro i hi
  obtain ⟨a1, a2⟩ := h.2 i hi
  obtain ⟨b1, b2, b3, b4, b5, b6⟩ := (ftFW_ok hf (fun _ => 0) (fun _ => 0)).2.1 i (by show i < (ftCF w).1; rw [← h.1]; exact hi)
  exact ⟨a1.trans b1, a2.trans b2, Nat.le_trans b4 (by omega), b5, Nat.le_trans b6 (by omega)⟩
theorem ftCG_ok {w : Nat → Int32} (h : ftWf w) : ftGok (ftCG w) := ftGms_ok (ftFW_ok h.1 _ _) (ftWf_b2 h).1 (ftWf_b2 h).2 _ _ _ _
theorem ftGrel_gh {w : Nat → Int32} (hf : ftWf w) {q : ftGs} (h : ftGrel q (ftCG w)) : q.1 ≤ 55 ∧ ∀ i, i < q.1 → ftGhPl q.2.1 q.2.2.1 i = nI (ftTn (ftCG w).2.1 i) ∧ q.2.2.2 i = nI (ftTn (ftCG w).2.2.1 i) ∧ ftTn (ftCG w).2.1 i ≤ 1000 ∧ 0 < ftTn (ftCG w).2.2.1 i ∧ ftTn (ftCG w).2.2.1 i ≤ 40000 := by
  have hk := ftCG_ok hf
  refine ⟨by rw [h.1]; exact hk.1, fun i hi => ?_⟩
  obtain ⟨a1, a2, -, -⟩ := h.2 i hi
  obtain ⟨b1, b2, b3, b4, b5⟩ := hk.2 i (by rw [← h.1]; exact hi)
  exact ⟨a1.symm.trans b1, a2.symm.trans b3, Nat.le_trans b2 (by omega), b4, Nat.le_trans b5 (by omega)⟩
/-! what measuring leaves -/
abbrev ftUm : Type := (Nat → Nat) × (Nat → Int32) × (Nat → Nat → Int32) × (Nat → Nat → Int32)
/-- events that are those of w -/
def ftRdd (w : Nat → Int32) (k : Nat) (ro : Nat → Nat → Int32) : Prop := ∃ (v : Nat → Int32) (rr : Nat → Nat → Int32), (∀ t, t < ftCL w + 60 → v t = ftCV w t) ∧ k = (ftRd v (ftCL w + 60) (ftCW w) (w (44 + 6)) (w (44 + 7)) (w (44 + 8)) rr).1 ∧ ∀ c, c < 8 → ro c = ftGhosts (ftRd v (ftCL w + 60) (ftCW w) (w (44 + 6)) (w (44 + 7)) (w (44 + 8)) rr).2.2 (w (44 + 9)) (w (44 + 10)) k c
def ftMs (w : Nat → Int32) (u : ftUm) : Prop := u.1 2 = ftCL w + 60 ∧ (∀ x, x < ftCL w + 60 → u.2.2.1 5 x = ftCB w x ∧ u.2.2.1 6 x = ftCQ w x ∧ u.2.2.1 7 x = ftCZ w x ∧ u.2.2.1 8 x = ftCV w x) ∧ ftGrel (u.1 1, u.2.2.1 2, u.2.2.1 3, u.2.2.1 4) (ftCG w) ∧ u.2.1 6 = w (44 + 9) ∧ ftRdd w (u.1 3) u.2.2.2
/-- the noise that is drawn -/
def ftNc (u : ftUm) : Prop := ∀ N pu, N < 2 ^ 31 → pu < 2 ^ 31 → u.2.1 2 = nI N → u.2.1 4 = nI pu → ∀ x, x < N → u.2.2.1 7 x = ftNoise (u.2.1 3) (u.2.1 5) pu x
theorem ftErel_rdd {w : Nat → Int32} (hf : ftWf w) {k : Nat} {ro : Nat → Nat → Int32} (h : ftRdd w k ro) : k = (ftCE w).1 ∧ k ≤ 30 ∧ ∀ t, t < k → (∀ c, c < 6 → ro c t = (ftCE w).2.2 c t) ∧ (∃ e, e < ftCL w + 60 ∧ (ftCE w).2.2 1 t = nI e) ∧ (((ftCE w).2.2 4 t = 2 ∧ (∃ i j, i < 30 ∧ j < 30 ∧ (ftCE w).2.2 6 t = nI i ∧ (ftCE w).2.2 7 t = nI j) ∧ ro 6 t = (ftCE w).2.2 6 t ∧ ro 7 t = (ftCE w).2.2 7 t) ∨ (¬ (ftCE w).2.2 4 t = 2 ∧ ro 6 t = -1 ∧ ro 7 t = -1)) := by
  obtain ⟨v, rr, hv, hk, hro⟩ := h
  have hE : ftErel (ftCL w + 60) (w (44 + 9)) (w (44 + 10)) _ (ftCE w) := ftErel_of (ro := rr) (rm := fun _ _ => 0) (by omega) (ftWf_wd1 hf) hv
  obtain ⟨e1, -, e3, e4⟩ := hE
  rw [← hk] at e1 e3 e4
  refine ⟨e1, e3, fun t ht => ?_⟩
  obtain ⟨a1, a2, a3⟩ := e4 t ht
  refine ⟨fun c hc => by rw [hro c (by omega)]; exact a1 c hc, a2, ?_⟩
  rw [hro 6 (by omega), hro 7 (by omega)]
  exact a3
end
section
/-! the class's own methods -/
theorem ftNc_of {u : ftUm} {M pu0 : Nat} (hM : M < 2 ^ 31) (hp : pu0 < 2 ^ 31) (h2 : u.2.1 2 = nI M) (h4 : u.2.1 4 = nI pu0) (h7 : ∀ x, x < M → u.2.2.1 7 x = ftNoise (u.2.1 3) (u.2.1 5) pu0 x) : ftNc u := by
  intro N pu hN hpu e1 e2 x hx
  obtain rfl : M = N := ft_eqN hM hN (h2.symm.trans e1)
  obtain rfl : pu0 = pu := ft_eqN hp hpu (h4.symm.trans e2)
  exact h7 x hx
set_option maxHeartbeats 4000000 in
set_option maxRecDepth 100000 in
theorem c_X10_isTracePlace (l : Launch) (D : va_G) (cI cS : ClassId) (o0 t0 h0 tt kt cp n0 c0 x0 y0 ts : Nat) (me : Int32) (l0 g0 ke : Nat) (len att en : Int32) (n ak ap al ar : Nat) (x : Int32)  : Met l yX10_isTracePlace wsX10_isTracePlace ({ frames := 1, cells := 0, slots := 0, locals := 22 }) (ftRO D cI cS [.ref o0, .int x] [(o0, .inr (10, [.ref t0, .ref h0, .ref tt, .ref kt, .ref cp, .ref n0, .ref c0, .ref x0, .ref y0, .ref ts, .int me])), (t0, .inr (8, [.ref l0, .ref g0, .int (nI ke)])), (l0, .inr (4, [.int len, .int att, .int en, .int (nI n), .ref ak, .ref ap, .ref al, .ref ar]))]) (vp_Si (fun o9 => o9 = ftB (0 ≤ x ∧ x ≤ len + 60 - 1))) 0 0 (fun _ => False) := by
  refine Met.ofW (cc := cX10_isTracePlace) (maxL := 2) (ret := (some .boolean)) (by decide) rfl ?_
  intro p e s m args below meth c s₁ B hml hv
  obtain ⟨rfl, hP, hKK⟩ := hv
  have hK := hKK.1
  have hx := B.exec
  have hb := B.bytes
  have hr := B.returns
  have hts := atoms_spec (ws := wsX10_isTracePlace) B.pre
  have hown : s.vm.findClass RX10 = some m.cls := findClass_of_methodNamed B.named
  have hlocks := B.notSynchronized
  have hP : va_P D vwCl [(o0, .inr (10, [.ref t0, .ref h0, .ref tt, .ref kt, .ref cp, .ref n0, .ref c0, .ref x0, .ref y0, .ref ts, .int me])), (t0, .inr (8, [.ref l0, .ref g0, .int (nI ke)])), (l0, .inr (4, [.int len, .int att, .int en, .int (nI n), .ref ak, .ref ap, .ref al, .ref ar]))] s.heap := hP
  have hl := lv_entry ([.ref o0, .int x]) (n := 2) (Nat.le_of_ble_eq_true rfl)
  rw [lg_entry_eq]
  generalize (lg_sl ([.ref o0, .int x]) ++ List.replicate (2 - (lg_sl ([.ref o0, .int x])).length) Slot.unset).toArray = ls at hl ⊢
  have hl : lv_has ls 2 [(0, .ref o0), (1, .int x)] := hl
  refine lv_iload_n hx hb dX10_isTracePlace_0 rfl (lv_at hl 1 rfl) ?_
  refine lv_iconst (v := 0) hx hb dX10_isTracePlace_1 (by decide) ?_
  refine lv_aload_n hx hb dX10_isTracePlace_2 rfl (lv_at hl 0 rfl) ?_
  refine va_get (D := D) (ci := 10) (v := .ref t0) (C := RX10) (T := TX10) (N := 11) hx hb hts (by decide +kernel) hown hK hP 0 rfl rfl 0 (by decide) (hts (.fieldLink RX10 12 "FiberTrace" "state" "LFiberTrace$State;") (by decide +kernel)) (fun _ h9 => h9) rfl dX10_isTracePlace_3 ?_
  refine va_get (D := D) (ci := 8) (v := .ref l0) (C := RX8) (T := TX8) (N := 3) hx hb hts (by decide +kernel) hown hK hP 1 rfl rfl 0 (by decide) (hts (.fieldLink RX10 115 "FiberTrace$State" "link" "LFiberTrace$Link;") (by decide +kernel)) (fun _ h9 => h9) rfl dX10_isTracePlace_6 ?_
  refine va_get (D := D) (ci := 4) (v := .int len) (C := RX4) (T := TX4) (N := 8) hx hb hts (by decide +kernel) hown hK hP 2 rfl rfl 0 (by decide) (hts (.fieldLink RX10 170 "FiberTrace$Link" "length" "I") (by decide +kernel)) (fun _ h9 => h9) rfl dX10_isTracePlace_9 ?_
  refine lv_bipush (v := 60) hx hb dX10_isTracePlace_12 (by decide) ?_
  refine lv_iadd hx hb dX10_isTracePlace_14 ?_
  refine lv_iconst (v := 1) hx hb dX10_isTracePlace_15 (by decide) ?_
  refine lv_isub hx hb dX10_isTracePlace_16 ?_
  refine ft_csi (r := ftB (0 ≤ x ∧ x ≤ ((len + 60) - 1))) (va_runS (As := [.int x, .int 0, .int ((len + 60) - 1)]) (rest := []) ⟨hx, hb, hml, hown, hts⟩ (c_X10_isWithin l D cI cS x 0 ((len + 60) - 1)) (va_cwS 3 hts gX10_isTracePlace_X10_isWithin rfl rfl rfl (by decide +kernel) ⟨Nat.le_of_ble_eq_true rfl, Nat.le_of_ble_eq_true rfl⟩) (ft_preRO hP hKK [] rfl) rfl rfl hl.1 rfl (lv_room (Nat.le_of_ble_eq_true rfl)) dX10_isTracePlace_17 ⟨Nat.le_of_ble_eq_true rfl, Nat.le_of_ble_eq_true rfl⟩) ?_
  exact W.zret (v := ftB (0 ≤ x ∧ x ≤ ((len + 60) - 1))) hx hb hr (by first | rfl | exact ftB_nar) (fun t ht hW => ⟨ftB (0 ≤ x ∧ x ≤ ((len + 60) - 1)), rfl, rfl, ht⟩) (fun _ h9 => absurd h9 List.not_mem_nil) dX10_isTracePlace_20
set_option maxHeartbeats 4000000 in
set_option maxRecDepth 100000 in
theorem c_X10_measureWith (l : Launch) (D : va_G) (cI cS : ClassId) (sz : Nat) (o0 t0 h0 tt kt cp n0 c0 x0 y0 ts : Nat) (me : Int32) (l0 g0 ke : Nat) (ln : Nat) (att en : Int32) (n ak ap al ar : Nat) (ep eh ef es eg xb xp xn xs r0 r1 r2 r3 r4 r5 r6 r7 : Nat) (kf pf lf rf : Nat → Int32) (s0 : Nat) (sf : Nat → Int32) (mu : ftUm) (w : Nat → Int32) (hWf : ftWf w) (hL : ftLR w (nI ln) att en n kf pf lf rf) (hln : ln ≤ 400) (hsf : ∀ j, j < 11 → sf j = w (44 + j)) (hnc : ftNc mu) : Met l yX10_measureWith wsX10_measureWith ({ frames := 4, cells := 0, slots := 0, locals := 109 }) (ftRW D cI cS [.ref o0, .ref s0] [(o0, .inr (10, [.ref t0, .ref h0, .ref tt, .ref kt, .ref cp, .ref n0, .ref c0, .ref x0, .ref y0, .ref ts, .int me])), (t0, .inr (8, [.ref l0, .ref g0, .int (nI ke)])), (l0, .inr (4, [.int (nI ln), .int att, .int en, .int (nI n), .ref ak, .ref ap, .ref al, .ref ar])), (ak, .inl (cI, 10, .inl kf)), (ap, .inl (cI, 10, .inl pf)), (al, .inl (cI, 10, .inl lf)), (ar, .inl (cI, 10, .inl rf)), (s0, .inl (cI, 11, .inl sf)), (n0, .inr (6, [.int (mu.2.1 0), .int (mu.2.1 1)])), (c0, .inr (1, [.ref ep, .ref eh, .int (nI (mu.1 0)), .ref ef, .ref es, .ref eg, .int (nI (mu.1 1))])), (ep, .inl (cI, 11, .inl (mu.2.2.1 0))), (eh, .inl (cI, 11, .inl (mu.2.2.1 1))), (ef, .inl (cI, 55, .inl (mu.2.2.1 2))), (es, .inl (cI, 55, .inl (mu.2.2.1 3))), (eg, .inl (cI, 55, .inl (mu.2.2.1 4))), (x0, .inr (9, [.ref xb, .ref xp, .ref xn, .ref xs, .int (nI (mu.1 2)), .int (mu.2.1 2), .int (mu.2.1 3), .int (mu.2.1 4), .int (mu.2.1 5)])), (xb, .inl (cI, 460, .inl (mu.2.2.1 5))), (xp, .inl (cI, 460, .inl (mu.2.2.1 6))), (xn, .inl (cI, 460, .inl (mu.2.2.1 7))), (xs, .inl (cI, 460, .inl (mu.2.2.1 8))), (y0, .inr (7, [.ref r0, .ref r1, .ref r2, .ref r3, .ref r4, .ref r5, .ref r6, .ref r7, .int (nI (mu.1 3)), .int (mu.2.1 6)])), (r0, .inl (cI, 30, .inl (mu.2.2.2 0))), (r1, .inl (cI, 30, .inl (mu.2.2.2 1))), (r2, .inl (cI, 30, .inl (mu.2.2.2 2))), (r3, .inl (cI, 30, .inl (mu.2.2.2 3))), (r4, .inl (cI, 30, .inl (mu.2.2.2 4))), (r5, .inl (cI, 30, .inl (mu.2.2.2 5))), (r6, .inl (cI, 30, .inl (mu.2.2.2 6))), (r7, .inl (cI, 30, .inl (mu.2.2.2 7)))] sz) (ftXv D [(o0, .inr (10, [.ref t0, .ref h0, .ref tt, .ref kt, .ref cp, .ref n0, .ref c0, .ref x0, .ref y0, .ref ts, .int me])), (t0, .inr (8, [.ref l0, .ref g0, .int (nI ke)])), (l0, .inr (4, [.int (nI ln), .int att, .int en, .int (nI n), .ref ak, .ref ap, .ref al, .ref ar])), (ak, .inl (cI, 10, .inl kf)), (ap, .inl (cI, 10, .inl pf)), (al, .inl (cI, 10, .inl lf)), (ar, .inl (cI, 10, .inl rf)), (s0, .inl (cI, 11, .inl sf)), (n0, .inr (6, [.int (mu.2.1 0), .int (mu.2.1 1)])), (c0, .inr (1, [.ref ep, .ref eh, .int (nI (mu.1 0)), .ref ef, .ref es, .ref eg, .int (nI (mu.1 1))])), (ep, .inl (cI, 11, .inl (mu.2.2.1 0))), (eh, .inl (cI, 11, .inl (mu.2.2.1 1))), (ef, .inl (cI, 55, .inl (mu.2.2.1 2))), (es, .inl (cI, 55, .inl (mu.2.2.1 3))), (eg, .inl (cI, 55, .inl (mu.2.2.1 4))), (x0, .inr (9, [.ref xb, .ref xp, .ref xn, .ref xs, .int (nI (mu.1 2)), .int (mu.2.1 2), .int (mu.2.1 3), .int (mu.2.1 4), .int (mu.2.1 5)])), (xb, .inl (cI, 460, .inl (mu.2.2.1 5))), (xp, .inl (cI, 460, .inl (mu.2.2.1 6))), (xn, .inl (cI, 460, .inl (mu.2.2.1 7))), (xs, .inl (cI, 460, .inl (mu.2.2.1 8))), (y0, .inr (7, [.ref r0, .ref r1, .ref r2, .ref r3, .ref r4, .ref r5, .ref r6, .ref r7, .int (nI (mu.1 3)), .int (mu.2.1 6)])), (r0, .inl (cI, 30, .inl (mu.2.2.2 0))), (r1, .inl (cI, 30, .inl (mu.2.2.2 1))), (r2, .inl (cI, 30, .inl (mu.2.2.2 2))), (r3, .inl (cI, 30, .inl (mu.2.2.2 3))), (r4, .inl (cI, 30, .inl (mu.2.2.2 4))), (r5, .inl (cI, 30, .inl (mu.2.2.2 5))), (r6, .inl (cI, 30, .inl (mu.2.2.2 6))), (r7, .inl (cI, 30, .inl (mu.2.2.2 7)))] sz (fun (u : ftUm) => (ftMs w u) ∧ (ftNc u)) (fun (u : ftUm) => [(o0, .inr (10, [.ref t0, .ref h0, .ref tt, .ref kt, .ref cp, .ref n0, .ref c0, .ref x0, .ref y0, .ref ts, .int me])), (t0, .inr (8, [.ref l0, .ref g0, .int (nI ke)])), (l0, .inr (4, [.int (nI ln), .int att, .int en, .int (nI n), .ref ak, .ref ap, .ref al, .ref ar])), (ak, .inl (cI, 10, .inl kf)), (ap, .inl (cI, 10, .inl pf)), (al, .inl (cI, 10, .inl lf)), (ar, .inl (cI, 10, .inl rf)), (s0, .inl (cI, 11, .inl sf)), (n0, .inr (6, [.int (u.2.1 0), .int (u.2.1 1)])), (c0, .inr (1, [.ref ep, .ref eh, .int (nI (u.1 0)), .ref ef, .ref es, .ref eg, .int (nI (u.1 1))])), (ep, .inl (cI, 11, .inl (u.2.2.1 0))), (eh, .inl (cI, 11, .inl (u.2.2.1 1))), (ef, .inl (cI, 55, .inl (u.2.2.1 2))), (es, .inl (cI, 55, .inl (u.2.2.1 3))), (eg, .inl (cI, 55, .inl (u.2.2.1 4))), (x0, .inr (9, [.ref xb, .ref xp, .ref xn, .ref xs, .int (nI (u.1 2)), .int (u.2.1 2), .int (u.2.1 3), .int (u.2.1 4), .int (u.2.1 5)])), (xb, .inl (cI, 460, .inl (u.2.2.1 5))), (xp, .inl (cI, 460, .inl (u.2.2.1 6))), (xn, .inl (cI, 460, .inl (u.2.2.1 7))), (xs, .inl (cI, 460, .inl (u.2.2.1 8))), (y0, .inr (7, [.ref r0, .ref r1, .ref r2, .ref r3, .ref r4, .ref r5, .ref r6, .ref r7, .int (nI (u.1 3)), .int (u.2.1 6)])), (r0, .inl (cI, 30, .inl (u.2.2.2 0))), (r1, .inl (cI, 30, .inl (u.2.2.2 1))), (r2, .inl (cI, 30, .inl (u.2.2.2 2))), (r3, .inl (cI, 30, .inl (u.2.2.2 3))), (r4, .inl (cI, 30, .inl (u.2.2.2 4))), (r5, .inl (cI, 30, .inl (u.2.2.2 5))), (r6, .inl (cI, 30, .inl (u.2.2.2 6))), (r7, .inl (cI, 30, .inl (u.2.2.2 7)))])) 0 0 (va_A [(o0, .inr (10, [.ref t0, .ref h0, .ref tt, .ref kt, .ref cp, .ref n0, .ref c0, .ref x0, .ref y0, .ref ts, .int me])), (t0, .inr (8, [.ref l0, .ref g0, .int (nI ke)])), (l0, .inr (4, [.int (nI ln), .int att, .int en, .int (nI n), .ref ak, .ref ap, .ref al, .ref ar])), (ak, .inl (cI, 10, .inl kf)), (ap, .inl (cI, 10, .inl pf)), (al, .inl (cI, 10, .inl lf)), (ar, .inl (cI, 10, .inl rf)), (s0, .inl (cI, 11, .inl sf)), (n0, .inr (6, [.int (mu.2.1 0), .int (mu.2.1 1)])), (c0, .inr (1, [.ref ep, .ref eh, .int (nI (mu.1 0)), .ref ef, .ref es, .ref eg, .int (nI (mu.1 1))])), (ep, .inl (cI, 11, .inl (mu.2.2.1 0))), (eh, .inl (cI, 11, .inl (mu.2.2.1 1))), (ef, .inl (cI, 55, .inl (mu.2.2.1 2))), (es, .inl (cI, 55, .inl (mu.2.2.1 3))), (eg, .inl (cI, 55, .inl (mu.2.2.1 4))), (x0, .inr (9, [.ref xb, .ref xp, .ref xn, .ref xs, .int (nI (mu.1 2)), .int (mu.2.1 2), .int (mu.2.1 3), .int (mu.2.1 4), .int (mu.2.1 5)])), (xb, .inl (cI, 460, .inl (mu.2.2.1 5))), (xp, .inl (cI, 460, .inl (mu.2.2.1 6))), (xn, .inl (cI, 460, .inl (mu.2.2.1 7))), (xs, .inl (cI, 460, .inl (mu.2.2.1 8))), (y0, .inr (7, [.ref r0, .ref r1, .ref r2, .ref r3, .ref r4, .ref r5, .ref r6, .ref r7, .int (nI (mu.1 3)), .int (mu.2.1 6)])), (r0, .inl (cI, 30, .inl (mu.2.2.2 0))), (r1, .inl (cI, 30, .inl (mu.2.2.2 1))), (r2, .inl (cI, 30, .inl (mu.2.2.2 2))), (r3, .inl (cI, 30, .inl (mu.2.2.2 3))), (r4, .inl (cI, 30, .inl (mu.2.2.2 4))), (r5, .inl (cI, 30, .inl (mu.2.2.2 5))), (r6, .inl (cI, 30, .inl (mu.2.2.2 6))), (r7, .inl (cI, 30, .inl (mu.2.2.2 7)))] sz) := by
  refine Met.ofW (cc := cX10_measureWith) (maxL := 2) (ret := none) (by decide) rfl ?_
  intro p e s m args below meth c s₁ B hml hv
  obtain ⟨rfl, hsz, hP, hKK, hD0⟩ := hv
  have hK := hKK.1
  have hx := B.exec
  have hb := B.bytes
  have hr := B.returns
  have hts := atoms_spec (ws := wsX10_measureWith) B.pre
  have hown : s.vm.findClass RX10 = some m.cls := findClass_of_methodNamed B.named
  have hlocks := B.notSynchronized
  subst hsz
  have hD := hD0.self (sz := s.heap.size)
  generalize hAe : va_A [(o0, .inr (10, [.ref t0, .ref h0, .ref tt, .ref kt, .ref cp, .ref n0, .ref c0, .ref x0, .ref y0, .ref ts, .int me])), (t0, .inr (8, [.ref l0, .ref g0, .int (nI ke)])), (l0, .inr (4, [.int (nI ln), .int att, .int en, .int (nI n), .ref ak, .ref ap, .ref al, .ref ar])), (ak, .inl (cI, 10, .inl kf)), (ap, .inl (cI, 10, .inl pf)), (al, .inl (cI, 10, .inl lf)), (ar, .inl (cI, 10, .inl rf)), (s0, .inl (cI, 11, .inl sf)), (n0, .inr (6, [.int (mu.2.1 0), .int (mu.2.1 1)])), (c0, .inr (1, [.ref ep, .ref eh, .int (nI (mu.1 0)), .ref ef, .ref es, .ref eg, .int (nI (mu.1 1))])), (ep, .inl (cI, 11, .inl (mu.2.2.1 0))), (eh, .inl (cI, 11, .inl (mu.2.2.1 1))), (ef, .inl (cI, 55, .inl (mu.2.2.1 2))), (es, .inl (cI, 55, .inl (mu.2.2.1 3))), (eg, .inl (cI, 55, .inl (mu.2.2.1 4))), (x0, .inr (9, [.ref xb, .ref xp, .ref xn, .ref xs, .int (nI (mu.1 2)), .int (mu.2.1 2), .int (mu.2.1 3), .int (mu.2.1 4), .int (mu.2.1 5)])), (xb, .inl (cI, 460, .inl (mu.2.2.1 5))), (xp, .inl (cI, 460, .inl (mu.2.2.1 6))), (xn, .inl (cI, 460, .inl (mu.2.2.1 7))), (xs, .inl (cI, 460, .inl (mu.2.2.1 8))), (y0, .inr (7, [.ref r0, .ref r1, .ref r2, .ref r3, .ref r4, .ref r5, .ref r6, .ref r7, .int (nI (mu.1 3)), .int (mu.2.1 6)])), (r0, .inl (cI, 30, .inl (mu.2.2.2 0))), (r1, .inl (cI, 30, .inl (mu.2.2.2 1))), (r2, .inl (cI, 30, .inl (mu.2.2.2 2))), (r3, .inl (cI, 30, .inl (mu.2.2.2 3))), (r4, .inl (cI, 30, .inl (mu.2.2.2 4))), (r5, .inl (cI, 30, .inl (mu.2.2.2 5))), (r6, .inl (cI, 30, .inl (mu.2.2.2 6))), (r7, .inl (cI, 30, .inl (mu.2.2.2 7)))] s.heap.size = A at hD ⊢
  have hA : ∀ q : Nat, s.heap.size ≤ q → A q := fun q h => by rw [← hAe]; exact Or.inr h
  have hS : va_S A s.heap s.heap [] := va_S.rf
  have hD : va_D A [(o0, .inr (10, [.ref t0, .ref h0, .ref tt, .ref kt, .ref cp, .ref n0, .ref c0, .ref x0, .ref y0, .ref ts, .int me])), (t0, .inr (8, [.ref l0, .ref g0, .int (nI ke)])), (l0, .inr (4, [.int (nI ln), .int att, .int en, .int (nI n), .ref ak, .ref ap, .ref al, .ref ar])), (ak, .inl (cI, 10, .inl kf)), (ap, .inl (cI, 10, .inl pf)), (al, .inl (cI, 10, .inl lf)), (ar, .inl (cI, 10, .inl rf)), (s0, .inl (cI, 11, .inl sf)), (n0, .inr (6, [.int (mu.2.1 0), .int (mu.2.1 1)])), (c0, .inr (1, [.ref ep, .ref eh, .int (nI (mu.1 0)), .ref ef, .ref es, .ref eg, .int (nI (mu.1 1))])), (ep, .inl (cI, 11, .inl (mu.2.2.1 0))), (eh, .inl (cI, 11, .inl (mu.2.2.1 1))), (ef, .inl (cI, 55, .inl (mu.2.2.1 2))), (es, .inl (cI, 55, .inl (mu.2.2.1 3))), (eg, .inl (cI, 55, .inl (mu.2.2.1 4))), (x0, .inr (9, [.ref xb, .ref xp, .ref xn, .ref xs, .int (nI (mu.1 2)), .int (mu.2.1 2), .int (mu.2.1 3), .int (mu.2.1 4), .int (mu.2.1 5)])), (xb, .inl (cI, 460, .inl (mu.2.2.1 5))), (xp, .inl (cI, 460, .inl (mu.2.2.1 6))), (xn, .inl (cI, 460, .inl (mu.2.2.1 7))), (xs, .inl (cI, 460, .inl (mu.2.2.1 8))), (y0, .inr (7, [.ref r0, .ref r1, .ref r2, .ref r3, .ref r4, .ref r5, .ref r6, .ref r7, .int (nI (mu.1 3)), .int (mu.2.1 6)])), (r0, .inl (cI, 30, .inl (mu.2.2.2 0))), (r1, .inl (cI, 30, .inl (mu.2.2.2 1))), (r2, .inl (cI, 30, .inl (mu.2.2.2 2))), (r3, .inl (cI, 30, .inl (mu.2.2.2 3))), (r4, .inl (cI, 30, .inl (mu.2.2.2 4))), (r5, .inl (cI, 30, .inl (mu.2.2.2 5))), (r6, .inl (cI, 30, .inl (mu.2.2.2 6))), (r7, .inl (cI, 30, .inl (mu.2.2.2 7)))] := hD
  have hP : va_P D vwCl [(o0, .inr (10, [.ref t0, .ref h0, .ref tt, .ref kt, .ref cp, .ref n0, .ref c0, .ref x0, .ref y0, .ref ts, .int me])), (t0, .inr (8, [.ref l0, .ref g0, .int (nI ke)])), (l0, .inr (4, [.int (nI ln), .int att, .int en, .int (nI n), .ref ak, .ref ap, .ref al, .ref ar])), (ak, .inl (cI, 10, .inl kf)), (ap, .inl (cI, 10, .inl pf)), (al, .inl (cI, 10, .inl lf)), (ar, .inl (cI, 10, .inl rf)), (s0, .inl (cI, 11, .inl sf)), (n0, .inr (6, [.int (mu.2.1 0), .int (mu.2.1 1)])), (c0, .inr (1, [.ref ep, .ref eh, .int (nI (mu.1 0)), .ref ef, .ref es, .ref eg, .int (nI (mu.1 1))])), (ep, .inl (cI, 11, .inl (mu.2.2.1 0))), (eh, .inl (cI, 11, .inl (mu.2.2.1 1))), (ef, .inl (cI, 55, .inl (mu.2.2.1 2))), (es, .inl (cI, 55, .inl (mu.2.2.1 3))), (eg, .inl (cI, 55, .inl (mu.2.2.1 4))), (x0, .inr (9, [.ref xb, .ref xp, .ref xn, .ref xs, .int (nI (mu.1 2)), .int (mu.2.1 2), .int (mu.2.1 3), .int (mu.2.1 4), .int (mu.2.1 5)])), (xb, .inl (cI, 460, .inl (mu.2.2.1 5))), (xp, .inl (cI, 460, .inl (mu.2.2.1 6))), (xn, .inl (cI, 460, .inl (mu.2.2.1 7))), (xs, .inl (cI, 460, .inl (mu.2.2.1 8))), (y0, .inr (7, [.ref r0, .ref r1, .ref r2, .ref r3, .ref r4, .ref r5, .ref r6, .ref r7, .int (nI (mu.1 3)), .int (mu.2.1 6)])), (r0, .inl (cI, 30, .inl (mu.2.2.2 0))), (r1, .inl (cI, 30, .inl (mu.2.2.2 1))), (r2, .inl (cI, 30, .inl (mu.2.2.2 2))), (r3, .inl (cI, 30, .inl (mu.2.2.2 3))), (r4, .inl (cI, 30, .inl (mu.2.2.2 4))), (r5, .inl (cI, 30, .inl (mu.2.2.2 5))), (r6, .inl (cI, 30, .inl (mu.2.2.2 6))), (r7, .inl (cI, 30, .inl (mu.2.2.2 7)))] s.heap := hP
  have hl := lv_entry ([.ref o0, .ref s0]) (n := 2) (Nat.le_of_ble_eq_true rfl)
  rw [lg_entry_eq]
  generalize (lg_sl ([.ref o0, .ref s0]) ++ List.replicate (2 - (lg_sl ([.ref o0, .ref s0])).length) Slot.unset).toArray = ls at hl ⊢
  have hl : lv_has ls 2 [(0, .ref o0), (1, .ref s0)] := hl
  have hn := hL.2.2.2.2.1
  have hcl := ftLR_ln hL hln
  have hs0 : sf 0 = nI (ftCW w) := (hsf 0 (by omega)).trans (ftWf_s0 hWf)
  have hs1 : sf 1 = nI (ftCD w) := (hsf 1 (by omega)).trans (ftWf_s1 hWf)
  have hpu : sf 4 = nI (ftCP w) := (hsf 4 (by omega)).trans (ftWf_s4 hWf)
  have hca9 : (mu.2.1 2 = nI (ln + 60) ∧ mu.2.1 3 = sf 3 ∧ mu.2.1 4 = sf 4 ∧ mu.2.1 5 = sf 5) → ∀ x, x < ln + 60 → mu.2.2.1 7 x = ftNoise (sf 3) (sf 5) (ftCP w) x := fun q x hx => by rw [← q.2.1, ← q.2.2.2]; exact hnc (ln + 60) (ftCP w) (by omega) (ftWf_pu2 hWf) q.1 (q.2.2.1.trans hpu) x hx
  refine lv_aload_n hx hb dX10_measureWith_0 rfl (lv_at hl 0 rfl) ?_
  refine va_get (D := D) (ci := 10) (v := .ref c0) (C := RX10) (T := TX10) (N := 11) hx hb hts (by decide +kernel) hown hK hP 0 rfl rfl 6 (by decide) (hts (.fieldLink RX10 54 "FiberTrace" "echoes" "LFiberTrace$Echoes;") (by decide +kernel)) (fun _ h9 => h9) rfl dX10_measureWith_1 ?_
  refine lv_aload_n hx hb dX10_measureWith_4 rfl (lv_at hl 0 rfl) ?_
  refine va_get (D := D) (ci := 10) (v := .ref t0) (C := RX10) (T := TX10) (N := 11) hx hb hts (by decide +kernel) hown hK hP 0 rfl rfl 0 (by decide) (hts (.fieldLink RX10 12 "FiberTrace" "state" "LFiberTrace$State;") (by decide +kernel)) (fun _ h9 => h9) rfl dX10_measureWith_5 ?_
  refine va_get (D := D) (ci := 8) (v := .ref l0) (C := RX8) (T := TX8) (N := 3) hx hb hts (by decide +kernel) hown hK hP 1 rfl rfl 0 (by decide) (hts (.fieldLink RX10 115 "FiberTrace$State" "link" "LFiberTrace$Link;") (by decide +kernel)) (fun _ h9 => h9) rfl dX10_measureWith_8 ?_
  refine lv_aload_n hx hb dX10_measureWith_11 rfl (lv_at hl 1 rfl) ?_
  refine lv_iconst (v := 2) hx hb dX10_measureWith_12 (by decide) ?_
  refine ft_csi (r := ftAt 11 sf 2) (va_runS (As := [.ref s0, .int 2]) (rest := [.ref l0, .ref c0]) ⟨hx, hb, hml, hown, hts⟩ (c_X10_at l D cI cS s0 11 sf 2 (by first | assumption | omega)) (va_cwS 2 hts gX10_measureWith_X10_at rfl rfl rfl (by decide +kernel) ⟨Nat.le_of_ble_eq_true rfl, Nat.le_of_ble_eq_true rfl⟩) (ft_preRO hP hKK [7] rfl) rfl rfl hl.1 rfl (lv_room (Nat.le_of_ble_eq_true rfl)) dX10_measureWith_13 ⟨Nat.le_of_ble_eq_true rfl, Nat.le_of_ble_eq_true rfl⟩) ?_
  refine ft_top (y := sf 2) (ftAt_N (k := 2) (by omega) (by omega)) ?_
  refine ft_cv (wc := [(c0, .inr (1, [.ref ep, .ref eh, .int (nI (mu.1 0)), .ref ef, .ref es, .ref eg, .int (nI (mu.1 1))])), (ep, .inl (cI, 11, .inl (mu.2.2.1 0))), (eh, .inl (cI, 11, .inl (mu.2.2.1 1))), (ef, .inl (cI, 55, .inl (mu.2.2.1 2))), (es, .inl (cI, 55, .inl (mu.2.2.1 3))), (eg, .inl (cI, 55, .inl (mu.2.2.1 4))), (l0, .inr (4, [.int (nI ln), .int att, .int en, .int (nI n), .ref ak, .ref ap, .ref al, .ref ar])), (ak, .inl (cI, 10, .inl kf)), (ap, .inl (cI, 10, .inl pf)), (ar, .inl (cI, 10, .inl rf))]) (wr := [(o0, .inr (10, [.ref t0, .ref h0, .ref tt, .ref kt, .ref cp, .ref n0, .ref c0, .ref x0, .ref y0, .ref ts, .int me])), (t0, .inr (8, [.ref l0, .ref g0, .int (nI ke)])), (al, .inl (cI, 10, .inl lf)), (s0, .inl (cI, 11, .inl sf)), (n0, .inr (6, [.int (mu.2.1 0), .int (mu.2.1 1)])), (x0, .inr (9, [.ref xb, .ref xp, .ref xn, .ref xs, .int (nI (mu.1 2)), .int (mu.2.1 2), .int (mu.2.1 3), .int (mu.2.1 4), .int (mu.2.1 5)])), (xb, .inl (cI, 460, .inl (mu.2.2.1 5))), (xp, .inl (cI, 460, .inl (mu.2.2.1 6))), (xn, .inl (cI, 460, .inl (mu.2.2.1 7))), (xs, .inl (cI, 460, .inl (mu.2.2.1 8))), (y0, .inr (7, [.ref r0, .ref r1, .ref r2, .ref r3, .ref r4, .ref r5, .ref r6, .ref r7, .int (nI (mu.1 3)), .int (mu.2.1 6)])), (r0, .inl (cI, 30, .inl (mu.2.2.2 0))), (r1, .inl (cI, 30, .inl (mu.2.2.2 1))), (r2, .inl (cI, 30, .inl (mu.2.2.2 2))), (r3, .inl (cI, 30, .inl (mu.2.2.2 3))), (r4, .inl (cI, 30, .inl (mu.2.2.2 4))), (r5, .inl (cI, 30, .inl (mu.2.2.2 5))), (r6, .inl (cI, 30, .inl (mu.2.2.2 6))), (r7, .inl (cI, 30, .inl (mu.2.2.2 7)))]) (w1 := [(c0, .inr (1, [.ref ep, .ref eh, .int (nI (ftFlE (nI ln) en kf pf rf (mu.2.2.1 0) (mu.2.2.1 1) n).1), .ref ef, .ref es, .ref eg, .int (nI (ftGhs (ftFlE (nI ln) en kf pf rf (mu.2.2.1 0) (mu.2.2.1 1) n) (sf 2) (mu.2.2.1 2) (mu.2.2.1 3) (mu.2.2.1 4)).1)])), (ep, .inl (cI, 11, .inl ((ftFlE (nI ln) en kf pf rf (mu.2.2.1 0) (mu.2.2.1 1) n).2.1))), (eh, .inl (cI, 11, .inl ((ftFlE (nI ln) en kf pf rf (mu.2.2.1 0) (mu.2.2.1 1) n).2.2))), (ef, .inl (cI, 55, .inl ((ftGhs (ftFlE (nI ln) en kf pf rf (mu.2.2.1 0) (mu.2.2.1 1) n) (sf 2) (mu.2.2.1 2) (mu.2.2.1 3) (mu.2.2.1 4)).2.1))), (es, .inl (cI, 55, .inl ((ftGhs (ftFlE (nI ln) en kf pf rf (mu.2.2.1 0) (mu.2.2.1 1) n) (sf 2) (mu.2.2.1 2) (mu.2.2.1 3) (mu.2.2.1 4)).2.2.1))), (eg, .inl (cI, 55, .inl ((ftGhs (ftFlE (nI ln) en kf pf rf (mu.2.2.1 0) (mu.2.2.1 1) n) (sf 2) (mu.2.2.1 2) (mu.2.2.1 3) (mu.2.2.1 4)).2.2.2))), (l0, .inr (4, [.int (nI ln), .int att, .int en, .int (nI n), .ref ak, .ref ap, .ref al, .ref ar])), (ak, .inl (cI, 10, .inl kf)), (ap, .inl (cI, 10, .inl pf)), (ar, .inl (cI, 10, .inl rf))]) (ws1 := [(o0, .inr (10, [.ref t0, .ref h0, .ref tt, .ref kt, .ref cp, .ref n0, .ref c0, .ref x0, .ref y0, .ref ts, .int me])), (t0, .inr (8, [.ref l0, .ref g0, .int (nI ke)])), (l0, .inr (4, [.int (nI ln), .int att, .int en, .int (nI n), .ref ak, .ref ap, .ref al, .ref ar])), (ak, .inl (cI, 10, .inl kf)), (ap, .inl (cI, 10, .inl pf)), (al, .inl (cI, 10, .inl lf)), (ar, .inl (cI, 10, .inl rf)), (s0, .inl (cI, 11, .inl sf)), (n0, .inr (6, [.int (mu.2.1 0), .int (mu.2.1 1)])), (c0, .inr (1, [.ref ep, .ref eh, .int (nI (ftFlE (nI ln) en kf pf rf (mu.2.2.1 0) (mu.2.2.1 1) n).1), .ref ef, .ref es, .ref eg, .int (nI (ftGhs (ftFlE (nI ln) en kf pf rf (mu.2.2.1 0) (mu.2.2.1 1) n) (sf 2) (mu.2.2.1 2) (mu.2.2.1 3) (mu.2.2.1 4)).1)])), (ep, .inl (cI, 11, .inl ((ftFlE (nI ln) en kf pf rf (mu.2.2.1 0) (mu.2.2.1 1) n).2.1))), (eh, .inl (cI, 11, .inl ((ftFlE (nI ln) en kf pf rf (mu.2.2.1 0) (mu.2.2.1 1) n).2.2))), (ef, .inl (cI, 55, .inl ((ftGhs (ftFlE (nI ln) en kf pf rf (mu.2.2.1 0) (mu.2.2.1 1) n) (sf 2) (mu.2.2.1 2) (mu.2.2.1 3) (mu.2.2.1 4)).2.1))), (es, .inl (cI, 55, .inl ((ftGhs (ftFlE (nI ln) en kf pf rf (mu.2.2.1 0) (mu.2.2.1 1) n) (sf 2) (mu.2.2.1 2) (mu.2.2.1 3) (mu.2.2.1 4)).2.2.1))), (eg, .inl (cI, 55, .inl ((ftGhs (ftFlE (nI ln) en kf pf rf (mu.2.2.1 0) (mu.2.2.1 1) n) (sf 2) (mu.2.2.1 2) (mu.2.2.1 3) (mu.2.2.1 4)).2.2.2))), (x0, .inr (9, [.ref xb, .ref xp, .ref xn, .ref xs, .int (nI (mu.1 2)), .int (mu.2.1 2), .int (mu.2.1 3), .int (mu.2.1 4), .int (mu.2.1 5)])), (xb, .inl (cI, 460, .inl (mu.2.2.1 5))), (xp, .inl (cI, 460, .inl (mu.2.2.1 6))), (xn, .inl (cI, 460, .inl (mu.2.2.1 7))), (xs, .inl (cI, 460, .inl (mu.2.2.1 8))), (y0, .inr (7, [.ref r0, .ref r1, .ref r2, .ref r3, .ref r4, .ref r5, .ref r6, .ref r7, .int (nI (mu.1 3)), .int (mu.2.1 6)])), (r0, .inl (cI, 30, .inl (mu.2.2.2 0))), (r1, .inl (cI, 30, .inl (mu.2.2.2 1))), (r2, .inl (cI, 30, .inl (mu.2.2.2 2))), (r3, .inl (cI, 30, .inl (mu.2.2.2 3))), (r4, .inl (cI, 30, .inl (mu.2.2.2 4))), (r5, .inl (cI, 30, .inl (mu.2.2.2 5))), (r6, .inl (cI, 30, .inl (mu.2.2.2 6))), (r7, .inl (cI, 30, .inl (mu.2.2.2 7)))]) (va_runV (C := RX1) (As := [.ref l0, .int (sf 2)]) (rest := []) ⟨hx, hb, hml, hown, hts⟩ (c_X1_find l D cI cS s.heap.size c0 ep eh ef es eg (mu.1 0) (mu.1 1) (mu.2.2.1 0) (mu.2.2.1 1) (mu.2.2.1 2) (mu.2.2.1 3) (mu.2.2.1 4) l0 (nI ln) att en n ak ap al ar kf pf rf (sf 2) hn) (cwV 2 hts gX10_measureWith_X1_find rfl rfl rfl (by decide +kernel) ⟨Nat.le_of_ble_eq_true rfl, Nat.le_of_ble_eq_true rfl⟩) (ft_preRWV (ci := 1) (q0 := 9) hP hD hKK [9, 10, 11, 12, 13, 14, 2, 3, 4, 6] rfl rfl rfl rfl rfl) rfl rfl hl.1 rfl (lv_room (Nat.le_of_ble_eq_true rfl)) dX10_measureWith_16 ⟨Nat.le_of_ble_eq_true rfl, Nat.le_of_ble_eq_true rfl⟩) hP hD hS hA [9, 10, 11, 12, 13, 14, 2, 3, 4, 6] [0, 1, 5, 7, 8, 15, 16, 17, 18, 19, 20, 21, 22, 23, 24, 25, 26, 27, 28] [0, 1, 25, 26, 27, 2, 28, 3, 4, 19, 20, 21, 22, 23, 24, 5, 6, 7, 8, 9, 10, 11, 12, 13, 14, 15, 16, 17, 18] rfl rfl (by decide) (by decide) (by decide) rfl rfl (fun H locs hP hD hS => ?_)
  have hP : va_P D vwCl [(o0, .inr (10, [.ref t0, .ref h0, .ref tt, .ref kt, .ref cp, .ref n0, .ref c0, .ref x0, .ref y0, .ref ts, .int me])), (t0, .inr (8, [.ref l0, .ref g0, .int (nI ke)])), (l0, .inr (4, [.int (nI ln), .int att, .int en, .int (nI n), .ref ak, .ref ap, .ref al, .ref ar])), (ak, .inl (cI, 10, .inl kf)), (ap, .inl (cI, 10, .inl pf)), (al, .inl (cI, 10, .inl lf)), (ar, .inl (cI, 10, .inl rf)), (s0, .inl (cI, 11, .inl sf)), (n0, .inr (6, [.int (mu.2.1 0), .int (mu.2.1 1)])), (c0, .inr (1, [.ref ep, .ref eh, .int (nI (ftFlE (nI ln) en kf pf rf (mu.2.2.1 0) (mu.2.2.1 1) n).1), .ref ef, .ref es, .ref eg, .int (nI (ftGhs (ftFlE (nI ln) en kf pf rf (mu.2.2.1 0) (mu.2.2.1 1) n) (sf 2) (mu.2.2.1 2) (mu.2.2.1 3) (mu.2.2.1 4)).1)])), (ep, .inl (cI, 11, .inl ((ftFlE (nI ln) en kf pf rf (mu.2.2.1 0) (mu.2.2.1 1) n).2.1))), (eh, .inl (cI, 11, .inl ((ftFlE (nI ln) en kf pf rf (mu.2.2.1 0) (mu.2.2.1 1) n).2.2))), (ef, .inl (cI, 55, .inl ((ftGhs (ftFlE (nI ln) en kf pf rf (mu.2.2.1 0) (mu.2.2.1 1) n) (sf 2) (mu.2.2.1 2) (mu.2.2.1 3) (mu.2.2.1 4)).2.1))), (es, .inl (cI, 55, .inl ((ftGhs (ftFlE (nI ln) en kf pf rf (mu.2.2.1 0) (mu.2.2.1 1) n) (sf 2) (mu.2.2.1 2) (mu.2.2.1 3) (mu.2.2.1 4)).2.2.1))), (eg, .inl (cI, 55, .inl ((ftGhs (ftFlE (nI ln) en kf pf rf (mu.2.2.1 0) (mu.2.2.1 1) n) (sf 2) (mu.2.2.1 2) (mu.2.2.1 3) (mu.2.2.1 4)).2.2.2))), (x0, .inr (9, [.ref xb, .ref xp, .ref xn, .ref xs, .int (nI (mu.1 2)), .int (mu.2.1 2), .int (mu.2.1 3), .int (mu.2.1 4), .int (mu.2.1 5)])), (xb, .inl (cI, 460, .inl (mu.2.2.1 5))), (xp, .inl (cI, 460, .inl (mu.2.2.1 6))), (xn, .inl (cI, 460, .inl (mu.2.2.1 7))), (xs, .inl (cI, 460, .inl (mu.2.2.1 8))), (y0, .inr (7, [.ref r0, .ref r1, .ref r2, .ref r3, .ref r4, .ref r5, .ref r6, .ref r7, .int (nI (mu.1 3)), .int (mu.2.1 6)])), (r0, .inl (cI, 30, .inl (mu.2.2.2 0))), (r1, .inl (cI, 30, .inl (mu.2.2.2 1))), (r2, .inl (cI, 30, .inl (mu.2.2.2 2))), (r3, .inl (cI, 30, .inl (mu.2.2.2 3))), (r4, .inl (cI, 30, .inl (mu.2.2.2 4))), (r5, .inl (cI, 30, .inl (mu.2.2.2 5))), (r6, .inl (cI, 30, .inl (mu.2.2.2 6))), (r7, .inl (cI, 30, .inl (mu.2.2.2 7)))] H := hP
  have hD : va_D A [(o0, .inr (10, [.ref t0, .ref h0, .ref tt, .ref kt, .ref cp, .ref n0, .ref c0, .ref x0, .ref y0, .ref ts, .int me])), (t0, .inr (8, [.ref l0, .ref g0, .int (nI ke)])), (l0, .inr (4, [.int (nI ln), .int att, .int en, .int (nI n), .ref ak, .ref ap, .ref al, .ref ar])), (ak, .inl (cI, 10, .inl kf)), (ap, .inl (cI, 10, .inl pf)), (al, .inl (cI, 10, .inl lf)), (ar, .inl (cI, 10, .inl rf)), (s0, .inl (cI, 11, .inl sf)), (n0, .inr (6, [.int (mu.2.1 0), .int (mu.2.1 1)])), (c0, .inr (1, [.ref ep, .ref eh, .int (nI (ftFlE (nI ln) en kf pf rf (mu.2.2.1 0) (mu.2.2.1 1) n).1), .ref ef, .ref es, .ref eg, .int (nI (ftGhs (ftFlE (nI ln) en kf pf rf (mu.2.2.1 0) (mu.2.2.1 1) n) (sf 2) (mu.2.2.1 2) (mu.2.2.1 3) (mu.2.2.1 4)).1)])), (ep, .inl (cI, 11, .inl ((ftFlE (nI ln) en kf pf rf (mu.2.2.1 0) (mu.2.2.1 1) n).2.1))), (eh, .inl (cI, 11, .inl ((ftFlE (nI ln) en kf pf rf (mu.2.2.1 0) (mu.2.2.1 1) n).2.2))), (ef, .inl (cI, 55, .inl ((ftGhs (ftFlE (nI ln) en kf pf rf (mu.2.2.1 0) (mu.2.2.1 1) n) (sf 2) (mu.2.2.1 2) (mu.2.2.1 3) (mu.2.2.1 4)).2.1))), (es, .inl (cI, 55, .inl ((ftGhs (ftFlE (nI ln) en kf pf rf (mu.2.2.1 0) (mu.2.2.1 1) n) (sf 2) (mu.2.2.1 2) (mu.2.2.1 3) (mu.2.2.1 4)).2.2.1))), (eg, .inl (cI, 55, .inl ((ftGhs (ftFlE (nI ln) en kf pf rf (mu.2.2.1 0) (mu.2.2.1 1) n) (sf 2) (mu.2.2.1 2) (mu.2.2.1 3) (mu.2.2.1 4)).2.2.2))), (x0, .inr (9, [.ref xb, .ref xp, .ref xn, .ref xs, .int (nI (mu.1 2)), .int (mu.2.1 2), .int (mu.2.1 3), .int (mu.2.1 4), .int (mu.2.1 5)])), (xb, .inl (cI, 460, .inl (mu.2.2.1 5))), (xp, .inl (cI, 460, .inl (mu.2.2.1 6))), (xn, .inl (cI, 460, .inl (mu.2.2.1 7))), (xs, .inl (cI, 460, .inl (mu.2.2.1 8))), (y0, .inr (7, [.ref r0, .ref r1, .ref r2, .ref r3, .ref r4, .ref r5, .ref r6, .ref r7, .int (nI (mu.1 3)), .int (mu.2.1 6)])), (r0, .inl (cI, 30, .inl (mu.2.2.2 0))), (r1, .inl (cI, 30, .inl (mu.2.2.2 1))), (r2, .inl (cI, 30, .inl (mu.2.2.2 2))), (r3, .inl (cI, 30, .inl (mu.2.2.2 3))), (r4, .inl (cI, 30, .inl (mu.2.2.2 4))), (r5, .inl (cI, 30, .inl (mu.2.2.2 5))), (r6, .inl (cI, 30, .inl (mu.2.2.2 6))), (r7, .inl (cI, 30, .inl (mu.2.2.2 7)))] := hD
  obtain ⟨R9, hR9⟩ : ∃ R9, R9 = ftFlE (nI ln) en kf pf rf (mu.2.2.1 0) (mu.2.2.1 1) n := ⟨_, rfl⟩
  rw [← hR9] at hP hD
  obtain ⟨G9, hG9⟩ : ∃ G9, G9 = ftGhs (R9) (sf 2) (mu.2.2.1 2) (mu.2.2.1 3) (mu.2.2.1 4) := ⟨_, rfl⟩
  rw [← hG9] at hP hD
  have hP : va_P D vwCl [(o0, .inr (10, [.ref t0, .ref h0, .ref tt, .ref kt, .ref cp, .ref n0, .ref c0, .ref x0, .ref y0, .ref ts, .int me])), (t0, .inr (8, [.ref l0, .ref g0, .int (nI ke)])), (l0, .inr (4, [.int (nI ln), .int att, .int en, .int (nI n), .ref ak, .ref ap, .ref al, .ref ar])), (ak, .inl (cI, 10, .inl kf)), (ap, .inl (cI, 10, .inl pf)), (al, .inl (cI, 10, .inl lf)), (ar, .inl (cI, 10, .inl rf)), (s0, .inl (cI, 11, .inl sf)), (n0, .inr (6, [.int (mu.2.1 0), .int (mu.2.1 1)])), (c0, .inr (1, [.ref ep, .ref eh, .int (nI (R9).1), .ref ef, .ref es, .ref eg, .int (nI (G9).1)])), (ep, .inl (cI, 11, .inl ((R9).2.1))), (eh, .inl (cI, 11, .inl ((R9).2.2))), (ef, .inl (cI, 55, .inl ((G9).2.1))), (es, .inl (cI, 55, .inl ((G9).2.2.1))), (eg, .inl (cI, 55, .inl ((G9).2.2.2))), (x0, .inr (9, [.ref xb, .ref xp, .ref xn, .ref xs, .int (nI (mu.1 2)), .int (mu.2.1 2), .int (mu.2.1 3), .int (mu.2.1 4), .int (mu.2.1 5)])), (xb, .inl (cI, 460, .inl (mu.2.2.1 5))), (xp, .inl (cI, 460, .inl (mu.2.2.1 6))), (xn, .inl (cI, 460, .inl (mu.2.2.1 7))), (xs, .inl (cI, 460, .inl (mu.2.2.1 8))), (y0, .inr (7, [.ref r0, .ref r1, .ref r2, .ref r3, .ref r4, .ref r5, .ref r6, .ref r7, .int (nI (mu.1 3)), .int (mu.2.1 6)])), (r0, .inl (cI, 30, .inl (mu.2.2.2 0))), (r1, .inl (cI, 30, .inl (mu.2.2.2 1))), (r2, .inl (cI, 30, .inl (mu.2.2.2 2))), (r3, .inl (cI, 30, .inl (mu.2.2.2 3))), (r4, .inl (cI, 30, .inl (mu.2.2.2 4))), (r5, .inl (cI, 30, .inl (mu.2.2.2 5))), (r6, .inl (cI, 30, .inl (mu.2.2.2 6))), (r7, .inl (cI, 30, .inl (mu.2.2.2 7)))] H := hP
  have hD : va_D A [(o0, .inr (10, [.ref t0, .ref h0, .ref tt, .ref kt, .ref cp, .ref n0, .ref c0, .ref x0, .ref y0, .ref ts, .int me])), (t0, .inr (8, [.ref l0, .ref g0, .int (nI ke)])), (l0, .inr (4, [.int (nI ln), .int att, .int en, .int (nI n), .ref ak, .ref ap, .ref al, .ref ar])), (ak, .inl (cI, 10, .inl kf)), (ap, .inl (cI, 10, .inl pf)), (al, .inl (cI, 10, .inl lf)), (ar, .inl (cI, 10, .inl rf)), (s0, .inl (cI, 11, .inl sf)), (n0, .inr (6, [.int (mu.2.1 0), .int (mu.2.1 1)])), (c0, .inr (1, [.ref ep, .ref eh, .int (nI (R9).1), .ref ef, .ref es, .ref eg, .int (nI (G9).1)])), (ep, .inl (cI, 11, .inl ((R9).2.1))), (eh, .inl (cI, 11, .inl ((R9).2.2))), (ef, .inl (cI, 55, .inl ((G9).2.1))), (es, .inl (cI, 55, .inl ((G9).2.2.1))), (eg, .inl (cI, 55, .inl ((G9).2.2.2))), (x0, .inr (9, [.ref xb, .ref xp, .ref xn, .ref xs, .int (nI (mu.1 2)), .int (mu.2.1 2), .int (mu.2.1 3), .int (mu.2.1 4), .int (mu.2.1 5)])), (xb, .inl (cI, 460, .inl (mu.2.2.1 5))), (xp, .inl (cI, 460, .inl (mu.2.2.1 6))), (xn, .inl (cI, 460, .inl (mu.2.2.1 7))), (xs, .inl (cI, 460, .inl (mu.2.2.1 8))), (y0, .inr (7, [.ref r0, .ref r1, .ref r2, .ref r3, .ref r4, .ref r5, .ref r6, .ref r7, .int (nI (mu.1 3)), .int (mu.2.1 6)])), (r0, .inl (cI, 30, .inl (mu.2.2.2 0))), (r1, .inl (cI, 30, .inl (mu.2.2.2 1))), (r2, .inl (cI, 30, .inl (mu.2.2.2 2))), (r3, .inl (cI, 30, .inl (mu.2.2.2 3))), (r4, .inl (cI, 30, .inl (mu.2.2.2 4))), (r5, .inl (cI, 30, .inl (mu.2.2.2 5))), (r6, .inl (cI, 30, .inl (mu.2.2.2 6))), (r7, .inl (cI, 30, .inl (mu.2.2.2 7)))] := hD
  have hF9 : ftFle w R9 := by rw [hR9]; exact ftFl_w hL _ _
  have hG10 : ftGrel G9 (ftCG w) := by rw [hG9]; exact ftFle_gh hWf.1 hF9 (hsf 2 (by omega)) _ _ _
  obtain ⟨hg55, hgh9⟩ := ftGrel_gh hWf hG10
  refine lv_aload_n hx hb dX10_measureWith_19 rfl (lv_at hl 0 rfl) ?_
  refine va_get (D := D) (ci := 10) (v := .ref x0) (C := RX10) (T := TX10) (N := 11) hx hb hts (by decide +kernel) hown hK hP 0 rfl rfl 7 (by decide) (hts (.fieldLink RX10 61 "FiberTrace" "trace" "LFiberTrace$Trace;") (by decide +kernel)) (fun _ h9 => h9) rfl dX10_measureWith_20 ?_
  refine lv_aload_n hx hb dX10_measureWith_23 rfl (lv_at hl 0 rfl) ?_
  refine va_get (D := D) (ci := 10) (v := .ref t0) (C := RX10) (T := TX10) (N := 11) hx hb hts (by decide +kernel) hown hK hP 0 rfl rfl 0 (by decide) (hts (.fieldLink RX10 12 "FiberTrace" "state" "LFiberTrace$State;") (by decide +kernel)) (fun _ h9 => h9) rfl dX10_measureWith_24 ?_
  refine va_get (D := D) (ci := 8) (v := .ref l0) (C := RX8) (T := TX8) (N := 3) hx hb hts (by decide +kernel) hown hK hP 1 rfl rfl 0 (by decide) (hts (.fieldLink RX10 115 "FiberTrace$State" "link" "LFiberTrace$Link;") (by decide +kernel)) (fun _ h9 => h9) rfl dX10_measureWith_27 ?_
  refine lv_aload_n hx hb dX10_measureWith_30 rfl (lv_at hl 1 rfl) ?_
  refine lv_aload_n hx hb dX10_measureWith_31 rfl (lv_at hl 0 rfl) ?_
  refine va_get (D := D) (ci := 10) (v := .ref c0) (C := RX10) (T := TX10) (N := 11) hx hb hts (by decide +kernel) hown hK hP 0 rfl rfl 6 (by decide) (hts (.fieldLink RX10 54 "FiberTrace" "echoes" "LFiberTrace$Echoes;") (by decide +kernel)) (fun _ h9 => h9) rfl dX10_measureWith_32 ?_
  refine lv_aload_n hx hb dX10_measureWith_35 rfl (lv_at hl 0 rfl) ?_
  refine va_get (D := D) (ci := 10) (v := .ref n0) (C := RX10) (T := TX10) (N := 11) hx hb hts (by decide +kernel) hown hK hP 0 rfl rfl 5 (by decide) (hts (.fieldLink RX10 47 "FiberTrace" "noise" "LFiberTrace$Noise;") (by decide +kernel)) (fun _ h9 => h9) rfl dX10_measureWith_36 ?_
  refine ft_cv (wc := [(x0, .inr (9, [.ref xb, .ref xp, .ref xn, .ref xs, .int (nI (mu.1 2)), .int (mu.2.1 2), .int (mu.2.1 3), .int (mu.2.1 4), .int (mu.2.1 5)])), (xb, .inl (cI, 460, .inl (mu.2.2.1 5))), (xp, .inl (cI, 460, .inl (mu.2.2.1 6))), (xn, .inl (cI, 460, .inl (mu.2.2.1 7))), (xs, .inl (cI, 460, .inl (mu.2.2.1 8))), (l0, .inr (4, [.int (nI ln), .int att, .int en, .int (nI n), .ref ak, .ref ap, .ref al, .ref ar])), (ak, .inl (cI, 10, .inl kf)), (ap, .inl (cI, 10, .inl pf)), (al, .inl (cI, 10, .inl lf)), (c0, .inr (1, [.ref ep, .ref eh, .int (nI (R9).1), .ref ef, .ref es, .ref eg, .int (nI (G9).1)])), (ep, .inl (cI, 11, .inl ((R9).2.1))), (eh, .inl (cI, 11, .inl ((R9).2.2))), (ef, .inl (cI, 55, .inl ((G9).2.1))), (es, .inl (cI, 55, .inl ((G9).2.2.1))), (eg, .inl (cI, 55, .inl ((G9).2.2.2))), (s0, .inl (cI, 11, .inl sf)), (n0, .inr (6, [.int (mu.2.1 0), .int (mu.2.1 1)]))]) (wr := [(o0, .inr (10, [.ref t0, .ref h0, .ref tt, .ref kt, .ref cp, .ref n0, .ref c0, .ref x0, .ref y0, .ref ts, .int me])), (t0, .inr (8, [.ref l0, .ref g0, .int (nI ke)])), (ar, .inl (cI, 10, .inl rf)), (y0, .inr (7, [.ref r0, .ref r1, .ref r2, .ref r3, .ref r4, .ref r5, .ref r6, .ref r7, .int (nI (mu.1 3)), .int (mu.2.1 6)])), (r0, .inl (cI, 30, .inl (mu.2.2.2 0))), (r1, .inl (cI, 30, .inl (mu.2.2.2 1))), (r2, .inl (cI, 30, .inl (mu.2.2.2 2))), (r3, .inl (cI, 30, .inl (mu.2.2.2 3))), (r4, .inl (cI, 30, .inl (mu.2.2.2 4))), (r5, .inl (cI, 30, .inl (mu.2.2.2 5))), (r6, .inl (cI, 30, .inl (mu.2.2.2 6))), (r7, .inl (cI, 30, .inl (mu.2.2.2 7)))]) (w1 := [(x0, .inr (9, [.ref xb, .ref xp, .ref xn, .ref xs, .int (nI (ln + 60)), .int (nI (ln + 60)), .int (sf 3), .int (sf 4), .int (sf 5)])), (xb, .inl (cI, 460, .inl (ftFill (ftBase ln kf pf lf att n (sf 0)) (mu.2.2.1 5) (ln + 60)))), (xp, .inl (cI, 460, .inl (ftPeaks (ftTn (ftCF w).2.1) (ftTn (ftCF w).2.2) (ftTn (ftCG w).2.1) (ftTn (ftCG w).2.2.1) ((R9).1) ((G9).1) (ftCW w) (ftCD w) (ln + 60) (mu.2.2.1 6)))), (xn, .inl (cI, 460, .inl (ftFill (ftNoise (sf 3) (sf 5) (ftCP w)) (mu.2.2.1 7) (ln + 60)))), (xs, .inl (cI, 460, .inl (ftFill (ftSamp ln kf pf lf att n sf (ftPeaks (ftTn (ftCF w).2.1) (ftTn (ftCF w).2.2) (ftTn (ftCG w).2.1) (ftTn (ftCG w).2.2.1) ((R9).1) ((G9).1) (ftCW w) (ftCD w) (ln + 60) (mu.2.2.1 6)) (ftCP w)) (mu.2.2.1 8) (ln + 60)))), (l0, .inr (4, [.int (nI ln), .int att, .int en, .int (nI n), .ref ak, .ref ap, .ref al, .ref ar])), (ak, .inl (cI, 10, .inl kf)), (ap, .inl (cI, 10, .inl pf)), (al, .inl (cI, 10, .inl lf)), (c0, .inr (1, [.ref ep, .ref eh, .int (nI ((R9).1)), .ref ef, .ref es, .ref eg, .int (nI ((G9).1))])), (ep, .inl (cI, 11, .inl ((R9).2.1))), (eh, .inl (cI, 11, .inl ((R9).2.2))), (ef, .inl (cI, 55, .inl ((G9).2.1))), (es, .inl (cI, 55, .inl ((G9).2.2.1))), (eg, .inl (cI, 55, .inl ((G9).2.2.2))), (s0, .inl (cI, 11, .inl sf)), (n0, .inr (6, [.int (ftIte ((mu.2.1 2) = nI (ln + 60) ∧ (mu.2.1 3) = sf 3 ∧ (mu.2.1 4) = sf 4 ∧ (mu.2.1 5) = sf 5) (mu.2.1 0) (ftNzs (sf 3) (sf 5) (ftCP w) (ln + 60))), .int (ftIte ((mu.2.1 2) = nI (ln + 60) ∧ (mu.2.1 3) = sf 3 ∧ (mu.2.1 4) = sf 4 ∧ (mu.2.1 5) = sf 5) (mu.2.1 1) (sf 3))]))]) (ws1 := [(o0, .inr (10, [.ref t0, .ref h0, .ref tt, .ref kt, .ref cp, .ref n0, .ref c0, .ref x0, .ref y0, .ref ts, .int me])), (t0, .inr (8, [.ref l0, .ref g0, .int (nI ke)])), (l0, .inr (4, [.int (nI ln), .int att, .int en, .int (nI n), .ref ak, .ref ap, .ref al, .ref ar])), (ak, .inl (cI, 10, .inl kf)), (ap, .inl (cI, 10, .inl pf)), (al, .inl (cI, 10, .inl lf)), (ar, .inl (cI, 10, .inl rf)), (s0, .inl (cI, 11, .inl sf)), (n0, .inr (6, [.int (ftIte ((mu.2.1 2) = nI (ln + 60) ∧ (mu.2.1 3) = sf 3 ∧ (mu.2.1 4) = sf 4 ∧ (mu.2.1 5) = sf 5) (mu.2.1 0) (ftNzs (sf 3) (sf 5) (ftCP w) (ln + 60))), .int (ftIte ((mu.2.1 2) = nI (ln + 60) ∧ (mu.2.1 3) = sf 3 ∧ (mu.2.1 4) = sf 4 ∧ (mu.2.1 5) = sf 5) (mu.2.1 1) (sf 3))])), (c0, .inr (1, [.ref ep, .ref eh, .int (nI ((R9).1)), .ref ef, .ref es, .ref eg, .int (nI ((G9).1))])), (ep, .inl (cI, 11, .inl ((R9).2.1))), (eh, .inl (cI, 11, .inl ((R9).2.2))), (ef, .inl (cI, 55, .inl ((G9).2.1))), (es, .inl (cI, 55, .inl ((G9).2.2.1))), (eg, .inl (cI, 55, .inl ((G9).2.2.2))), (x0, .inr (9, [.ref xb, .ref xp, .ref xn, .ref xs, .int (nI (ln + 60)), .int (nI (ln + 60)), .int (sf 3), .int (sf 4), .int (sf 5)])), (xb, .inl (cI, 460, .inl (ftFill (ftBase ln kf pf lf att n (sf 0)) (mu.2.2.1 5) (ln + 60)))), (xp, .inl (cI, 460, .inl (ftPeaks (ftTn (ftCF w).2.1) (ftTn (ftCF w).2.2) (ftTn (ftCG w).2.1) (ftTn (ftCG w).2.2.1) ((R9).1) ((G9).1) (ftCW w) (ftCD w) (ln + 60) (mu.2.2.1 6)))), (xn, .inl (cI, 460, .inl (ftFill (ftNoise (sf 3) (sf 5) (ftCP w)) (mu.2.2.1 7) (ln + 60)))), (xs, .inl (cI, 460, .inl (ftFill (ftSamp ln kf pf lf att n sf (ftPeaks (ftTn (ftCF w).2.1) (ftTn (ftCF w).2.2) (ftTn (ftCG w).2.1) (ftTn (ftCG w).2.2.1) ((R9).1) ((G9).1) (ftCW w) (ftCD w) (ln + 60) (mu.2.2.1 6)) (ftCP w)) (mu.2.2.1 8) (ln + 60)))), (y0, .inr (7, [.ref r0, .ref r1, .ref r2, .ref r3, .ref r4, .ref r5, .ref r6, .ref r7, .int (nI (mu.1 3)), .int (mu.2.1 6)])), (r0, .inl (cI, 30, .inl (mu.2.2.2 0))), (r1, .inl (cI, 30, .inl (mu.2.2.2 1))), (r2, .inl (cI, 30, .inl (mu.2.2.2 2))), (r3, .inl (cI, 30, .inl (mu.2.2.2 3))), (r4, .inl (cI, 30, .inl (mu.2.2.2 4))), (r5, .inl (cI, 30, .inl (mu.2.2.2 5))), (r6, .inl (cI, 30, .inl (mu.2.2.2 6))), (r7, .inl (cI, 30, .inl (mu.2.2.2 7)))]) (va_runV (C := RX9) (As := [.ref l0, .ref s0, .ref c0, .ref n0]) (rest := []) ⟨hx, hb, hml, hown, hts⟩ (c_X9_make l D cI cS H.size x0 xb xp xn xs (mu.1 2) (mu.2.1 2) (mu.2.1 3) (mu.2.1 4) (mu.2.1 5) (mu.2.2.1 5) (mu.2.2.1 6) (mu.2.2.1 7) (mu.2.2.1 8) l0 ln att en n ak ap al ar kf pf lf (fun k => (pf k).toNatClampNeg) c0 ep eh ((R9).1) ef es eg ((G9).1) ((R9).2.1) ((R9).2.2) ((G9).2.1) ((G9).2.2.1) ((G9).2.2.2) (ftCW w) (ftCD w) (ftTn (ftCF w).2.1) (ftTn (ftCF w).2.2) (ftTn (ftCG w).2.1) (ftTn (ftCG w).2.2.1) s0 sf n0 (mu.2.1 0) (mu.2.1 1) (ftCP w) (ftLR_pos hWf.1 hL) hln (ftFle_le hWf.1 hF9) hg55 (ftWf_wd hWf) (ftWf_d hWf) (ftFle_rf hWf.1 hF9) hgh9 hs0 hs1 hpu (ftWf_pu2 hWf) hca9) (cwV 4 hts gX10_measureWith_X9_make rfl rfl rfl (by decide +kernel) ⟨Nat.le_of_ble_eq_true rfl, Nat.le_of_ble_eq_true rfl⟩) (ft_preRWV (ci := 9) (q0 := 15) hP hD hKK [15, 16, 17, 18, 19, 2, 3, 4, 5, 9, 10, 11, 12, 13, 14, 7, 8] rfl rfl rfl rfl rfl) rfl rfl hl.1 rfl (lv_room (Nat.le_of_ble_eq_true rfl)) dX10_measureWith_39 ⟨Nat.le_of_ble_eq_true rfl, Nat.le_of_ble_eq_true rfl⟩) hP hD hS hA [15, 16, 17, 18, 19, 2, 3, 4, 5, 9, 10, 11, 12, 13, 14, 7, 8] [0, 1, 6, 20, 21, 22, 23, 24, 25, 26, 27, 28] [0, 1, 17, 18, 19, 20, 2, 27, 28, 21, 22, 23, 24, 25, 26, 12, 13, 14, 15, 16, 3, 4, 5, 6, 7, 8, 9, 10, 11] rfl rfl (by decide) (by decide) (by decide) rfl rfl (fun H locs hP hD hS => ?_)
  have hP : va_P D vwCl [(o0, .inr (10, [.ref t0, .ref h0, .ref tt, .ref kt, .ref cp, .ref n0, .ref c0, .ref x0, .ref y0, .ref ts, .int me])), (t0, .inr (8, [.ref l0, .ref g0, .int (nI ke)])), (l0, .inr (4, [.int (nI ln), .int att, .int en, .int (nI n), .ref ak, .ref ap, .ref al, .ref ar])), (ak, .inl (cI, 10, .inl kf)), (ap, .inl (cI, 10, .inl pf)), (al, .inl (cI, 10, .inl lf)), (ar, .inl (cI, 10, .inl rf)), (s0, .inl (cI, 11, .inl sf)), (n0, .inr (6, [.int (ftIte ((mu.2.1 2) = nI (ln + 60) ∧ (mu.2.1 3) = sf 3 ∧ (mu.2.1 4) = sf 4 ∧ (mu.2.1 5) = sf 5) (mu.2.1 0) (ftNzs (sf 3) (sf 5) (ftCP w) (ln + 60))), .int (ftIte ((mu.2.1 2) = nI (ln + 60) ∧ (mu.2.1 3) = sf 3 ∧ (mu.2.1 4) = sf 4 ∧ (mu.2.1 5) = sf 5) (mu.2.1 1) (sf 3))])), (c0, .inr (1, [.ref ep, .ref eh, .int (nI ((R9).1)), .ref ef, .ref es, .ref eg, .int (nI ((G9).1))])), (ep, .inl (cI, 11, .inl ((R9).2.1))), (eh, .inl (cI, 11, .inl ((R9).2.2))), (ef, .inl (cI, 55, .inl ((G9).2.1))), (es, .inl (cI, 55, .inl ((G9).2.2.1))), (eg, .inl (cI, 55, .inl ((G9).2.2.2))), (x0, .inr (9, [.ref xb, .ref xp, .ref xn, .ref xs, .int (nI (ln + 60)), .int (nI (ln + 60)), .int (sf 3), .int (sf 4), .int (sf 5)])), (xb, .inl (cI, 460, .inl (ftFill (ftBase ln kf pf lf att n (sf 0)) (mu.2.2.1 5) (ln + 60)))), (xp, .inl (cI, 460, .inl (ftPeaks (ftTn (ftCF w).2.1) (ftTn (ftCF w).2.2) (ftTn (ftCG w).2.1) (ftTn (ftCG w).2.2.1) ((R9).1) ((G9).1) (ftCW w) (ftCD w) (ln + 60) (mu.2.2.1 6)))), (xn, .inl (cI, 460, .inl (ftFill (ftNoise (sf 3) (sf 5) (ftCP w)) (mu.2.2.1 7) (ln + 60)))), (xs, .inl (cI, 460, .inl (ftFill (ftSamp ln kf pf lf att n sf (ftPeaks (ftTn (ftCF w).2.1) (ftTn (ftCF w).2.2) (ftTn (ftCG w).2.1) (ftTn (ftCG w).2.2.1) ((R9).1) ((G9).1) (ftCW w) (ftCD w) (ln + 60) (mu.2.2.1 6)) (ftCP w)) (mu.2.2.1 8) (ln + 60)))), (y0, .inr (7, [.ref r0, .ref r1, .ref r2, .ref r3, .ref r4, .ref r5, .ref r6, .ref r7, .int (nI (mu.1 3)), .int (mu.2.1 6)])), (r0, .inl (cI, 30, .inl (mu.2.2.2 0))), (r1, .inl (cI, 30, .inl (mu.2.2.2 1))), (r2, .inl (cI, 30, .inl (mu.2.2.2 2))), (r3, .inl (cI, 30, .inl (mu.2.2.2 3))), (r4, .inl (cI, 30, .inl (mu.2.2.2 4))), (r5, .inl (cI, 30, .inl (mu.2.2.2 5))), (r6, .inl (cI, 30, .inl (mu.2.2.2 6))), (r7, .inl (cI, 30, .inl (mu.2.2.2 7)))] H := hP
  have hD : va_D A [(o0, .inr (10, [.ref t0, .ref h0, .ref tt, .ref kt, .ref cp, .ref n0, .ref c0, .ref x0, .ref y0, .ref ts, .int me])), (t0, .inr (8, [.ref l0, .ref g0, .int (nI ke)])), (l0, .inr (4, [.int (nI ln), .int att, .int en, .int (nI n), .ref ak, .ref ap, .ref al, .ref ar])), (ak, .inl (cI, 10, .inl kf)), (ap, .inl (cI, 10, .inl pf)), (al, .inl (cI, 10, .inl lf)), (ar, .inl (cI, 10, .inl rf)), (s0, .inl (cI, 11, .inl sf)), (n0, .inr (6, [.int (ftIte ((mu.2.1 2) = nI (ln + 60) ∧ (mu.2.1 3) = sf 3 ∧ (mu.2.1 4) = sf 4 ∧ (mu.2.1 5) = sf 5) (mu.2.1 0) (ftNzs (sf 3) (sf 5) (ftCP w) (ln + 60))), .int (ftIte ((mu.2.1 2) = nI (ln + 60) ∧ (mu.2.1 3) = sf 3 ∧ (mu.2.1 4) = sf 4 ∧ (mu.2.1 5) = sf 5) (mu.2.1 1) (sf 3))])), (c0, .inr (1, [.ref ep, .ref eh, .int (nI ((R9).1)), .ref ef, .ref es, .ref eg, .int (nI ((G9).1))])), (ep, .inl (cI, 11, .inl ((R9).2.1))), (eh, .inl (cI, 11, .inl ((R9).2.2))), (ef, .inl (cI, 55, .inl ((G9).2.1))), (es, .inl (cI, 55, .inl ((G9).2.2.1))), (eg, .inl (cI, 55, .inl ((G9).2.2.2))), (x0, .inr (9, [.ref xb, .ref xp, .ref xn, .ref xs, .int (nI (ln + 60)), .int (nI (ln + 60)), .int (sf 3), .int (sf 4), .int (sf 5)])), (xb, .inl (cI, 460, .inl (ftFill (ftBase ln kf pf lf att n (sf 0)) (mu.2.2.1 5) (ln + 60)))), (xp, .inl (cI, 460, .inl (ftPeaks (ftTn (ftCF w).2.1) (ftTn (ftCF w).2.2) (ftTn (ftCG w).2.1) (ftTn (ftCG w).2.2.1) ((R9).1) ((G9).1) (ftCW w) (ftCD w) (ln + 60) (mu.2.2.1 6)))), (xn, .inl (cI, 460, .inl (ftFill (ftNoise (sf 3) (sf 5) (ftCP w)) (mu.2.2.1 7) (ln + 60)))), (xs, .inl (cI, 460, .inl (ftFill (ftSamp ln kf pf lf att n sf (ftPeaks (ftTn (ftCF w).2.1) (ftTn (ftCF w).2.2) (ftTn (ftCG w).2.1) (ftTn (ftCG w).2.2.1) ((R9).1) ((G9).1) (ftCW w) (ftCD w) (ln + 60) (mu.2.2.1 6)) (ftCP w)) (mu.2.2.1 8) (ln + 60)))), (y0, .inr (7, [.ref r0, .ref r1, .ref r2, .ref r3, .ref r4, .ref r5, .ref r6, .ref r7, .int (nI (mu.1 3)), .int (mu.2.1 6)])), (r0, .inl (cI, 30, .inl (mu.2.2.2 0))), (r1, .inl (cI, 30, .inl (mu.2.2.2 1))), (r2, .inl (cI, 30, .inl (mu.2.2.2 2))), (r3, .inl (cI, 30, .inl (mu.2.2.2 3))), (r4, .inl (cI, 30, .inl (mu.2.2.2 4))), (r5, .inl (cI, 30, .inl (mu.2.2.2 5))), (r6, .inl (cI, 30, .inl (mu.2.2.2 6))), (r7, .inl (cI, 30, .inl (mu.2.2.2 7)))] := hD
  have hrows : ∀ x, x < ln + 60 → ((ftFill (ftBase ln kf pf lf att n (sf 0)) (mu.2.2.1 5) (ln + 60))) x = ftCB w x ∧ ((ftPeaks (ftTn (ftCF w).2.1) (ftTn (ftCF w).2.2) (ftTn (ftCG w).2.1) (ftTn (ftCG w).2.2.1) ((R9).1) ((G9).1) (ftCW w) (ftCD w) (ln + 60) (mu.2.2.1 6))) x = ftCQ w x ∧ ((ftFill (ftNoise (sf 3) (sf 5) (ftCP w)) (mu.2.2.1 7) (ln + 60))) x = ftCZ w x ∧ ((ftFill (ftSamp ln kf pf lf att n sf (ftPeaks (ftTn (ftCF w).2.1) (ftTn (ftCF w).2.2) (ftTn (ftCG w).2.1) (ftTn (ftCG w).2.2.1) ((R9).1) ((G9).1) (ftCW w) (ftCD w) (ln + 60) (mu.2.2.1 6)) (ftCP w)) (mu.2.2.1 8) (ln + 60))) x = ftCV w x := by
    intro x hx
    have e1 : ((ftFill (ftBase ln kf pf lf att n (sf 0)) (mu.2.2.1 5) (ln + 60))) x = ftCB w x := (ftFill_at hx).trans (ftBase_w hWf hL hln (hsf 0 (by omega)) x)
    have e2 : ((ftPeaks (ftTn (ftCF w).2.1) (ftTn (ftCF w).2.2) (ftTn (ftCG w).2.1) (ftTn (ftCG w).2.2.1) ((R9).1) ((G9).1) (ftCW w) (ftCD w) (ln + 60) (mu.2.2.1 6))) x = ftCQ w x := by
      rw [ftPeaks_w hx, hF9.1, hG10.1]; rfl
    have e3 : ((ftFill (ftNoise (sf 3) (sf 5) (ftCP w)) (mu.2.2.1 7) (ln + 60))) x = ftCZ w x := (ftFill_at hx).trans (by rw [hsf 3 (by omega), hsf 5 (by omega)]; rfl)
    refine ⟨e1, e2, e3, (ftFill_at hx).trans ?_⟩
    show ftBase ln kf pf lf att n (sf 0) x + ((ftPeaks (ftTn (ftCF w).2.1) (ftTn (ftCF w).2.2) (ftTn (ftCG w).2.1) (ftTn (ftCG w).2.2.1) ((R9).1) ((G9).1) (ftCW w) (ftCD w) (ln + 60) (mu.2.2.1 6))) x + ftNoise (sf 3) (sf 5) (ftCP w) x = _
    rw [e2, ftBase_w hWf hL hln (hsf 0 (by omega)) x, hsf 3 (by omega), hsf 5 (by omega)]
    rfl
  obtain ⟨V9, hV9⟩ : ∃ V9, V9 = (ftFill (ftSamp ln kf pf lf att n sf (ftPeaks (ftTn (ftCF w).2.1) (ftTn (ftCF w).2.2) (ftTn (ftCG w).2.1) (ftTn (ftCG w).2.2.1) ((R9).1) ((G9).1) (ftCW w) (ftCD w) (ln + 60) (mu.2.2.1 6)) (ftCP w)) (mu.2.2.1 8) (ln + 60)) := ⟨_, rfl⟩
  rw [← hV9] at hP hD hrows
  have hP : va_P D vwCl [(o0, .inr (10, [.ref t0, .ref h0, .ref tt, .ref kt, .ref cp, .ref n0, .ref c0, .ref x0, .ref y0, .ref ts, .int me])), (t0, .inr (8, [.ref l0, .ref g0, .int (nI ke)])), (l0, .inr (4, [.int (nI ln), .int att, .int en, .int (nI n), .ref ak, .ref ap, .ref al, .ref ar])), (ak, .inl (cI, 10, .inl kf)), (ap, .inl (cI, 10, .inl pf)), (al, .inl (cI, 10, .inl lf)), (ar, .inl (cI, 10, .inl rf)), (s0, .inl (cI, 11, .inl sf)), (n0, .inr (6, [.int (ftIte ((mu.2.1 2) = nI (ln + 60) ∧ (mu.2.1 3) = sf 3 ∧ (mu.2.1 4) = sf 4 ∧ (mu.2.1 5) = sf 5) (mu.2.1 0) (ftNzs (sf 3) (sf 5) (ftCP w) (ln + 60))), .int (ftIte ((mu.2.1 2) = nI (ln + 60) ∧ (mu.2.1 3) = sf 3 ∧ (mu.2.1 4) = sf 4 ∧ (mu.2.1 5) = sf 5) (mu.2.1 1) (sf 3))])), (c0, .inr (1, [.ref ep, .ref eh, .int (nI ((R9).1)), .ref ef, .ref es, .ref eg, .int (nI ((G9).1))])), (ep, .inl (cI, 11, .inl ((R9).2.1))), (eh, .inl (cI, 11, .inl ((R9).2.2))), (ef, .inl (cI, 55, .inl ((G9).2.1))), (es, .inl (cI, 55, .inl ((G9).2.2.1))), (eg, .inl (cI, 55, .inl ((G9).2.2.2))), (x0, .inr (9, [.ref xb, .ref xp, .ref xn, .ref xs, .int (nI (ln + 60)), .int (nI (ln + 60)), .int (sf 3), .int (sf 4), .int (sf 5)])), (xb, .inl (cI, 460, .inl (ftFill (ftBase ln kf pf lf att n (sf 0)) (mu.2.2.1 5) (ln + 60)))), (xp, .inl (cI, 460, .inl (ftPeaks (ftTn (ftCF w).2.1) (ftTn (ftCF w).2.2) (ftTn (ftCG w).2.1) (ftTn (ftCG w).2.2.1) ((R9).1) ((G9).1) (ftCW w) (ftCD w) (ln + 60) (mu.2.2.1 6)))), (xn, .inl (cI, 460, .inl (ftFill (ftNoise (sf 3) (sf 5) (ftCP w)) (mu.2.2.1 7) (ln + 60)))), (xs, .inl (cI, 460, .inl V9)), (y0, .inr (7, [.ref r0, .ref r1, .ref r2, .ref r3, .ref r4, .ref r5, .ref r6, .ref r7, .int (nI (mu.1 3)), .int (mu.2.1 6)])), (r0, .inl (cI, 30, .inl (mu.2.2.2 0))), (r1, .inl (cI, 30, .inl (mu.2.2.2 1))), (r2, .inl (cI, 30, .inl (mu.2.2.2 2))), (r3, .inl (cI, 30, .inl (mu.2.2.2 3))), (r4, .inl (cI, 30, .inl (mu.2.2.2 4))), (r5, .inl (cI, 30, .inl (mu.2.2.2 5))), (r6, .inl (cI, 30, .inl (mu.2.2.2 6))), (r7, .inl (cI, 30, .inl (mu.2.2.2 7)))] H := hP
  have hD : va_D A [(o0, .inr (10, [.ref t0, .ref h0, .ref tt, .ref kt, .ref cp, .ref n0, .ref c0, .ref x0, .ref y0, .ref ts, .int me])), (t0, .inr (8, [.ref l0, .ref g0, .int (nI ke)])), (l0, .inr (4, [.int (nI ln), .int att, .int en, .int (nI n), .ref ak, .ref ap, .ref al, .ref ar])), (ak, .inl (cI, 10, .inl kf)), (ap, .inl (cI, 10, .inl pf)), (al, .inl (cI, 10, .inl lf)), (ar, .inl (cI, 10, .inl rf)), (s0, .inl (cI, 11, .inl sf)), (n0, .inr (6, [.int (ftIte ((mu.2.1 2) = nI (ln + 60) ∧ (mu.2.1 3) = sf 3 ∧ (mu.2.1 4) = sf 4 ∧ (mu.2.1 5) = sf 5) (mu.2.1 0) (ftNzs (sf 3) (sf 5) (ftCP w) (ln + 60))), .int (ftIte ((mu.2.1 2) = nI (ln + 60) ∧ (mu.2.1 3) = sf 3 ∧ (mu.2.1 4) = sf 4 ∧ (mu.2.1 5) = sf 5) (mu.2.1 1) (sf 3))])), (c0, .inr (1, [.ref ep, .ref eh, .int (nI ((R9).1)), .ref ef, .ref es, .ref eg, .int (nI ((G9).1))])), (ep, .inl (cI, 11, .inl ((R9).2.1))), (eh, .inl (cI, 11, .inl ((R9).2.2))), (ef, .inl (cI, 55, .inl ((G9).2.1))), (es, .inl (cI, 55, .inl ((G9).2.2.1))), (eg, .inl (cI, 55, .inl ((G9).2.2.2))), (x0, .inr (9, [.ref xb, .ref xp, .ref xn, .ref xs, .int (nI (ln + 60)), .int (nI (ln + 60)), .int (sf 3), .int (sf 4), .int (sf 5)])), (xb, .inl (cI, 460, .inl (ftFill (ftBase ln kf pf lf att n (sf 0)) (mu.2.2.1 5) (ln + 60)))), (xp, .inl (cI, 460, .inl (ftPeaks (ftTn (ftCF w).2.1) (ftTn (ftCF w).2.2) (ftTn (ftCG w).2.1) (ftTn (ftCG w).2.2.1) ((R9).1) ((G9).1) (ftCW w) (ftCD w) (ln + 60) (mu.2.2.1 6)))), (xn, .inl (cI, 460, .inl (ftFill (ftNoise (sf 3) (sf 5) (ftCP w)) (mu.2.2.1 7) (ln + 60)))), (xs, .inl (cI, 460, .inl V9)), (y0, .inr (7, [.ref r0, .ref r1, .ref r2, .ref r3, .ref r4, .ref r5, .ref r6, .ref r7, .int (nI (mu.1 3)), .int (mu.2.1 6)])), (r0, .inl (cI, 30, .inl (mu.2.2.2 0))), (r1, .inl (cI, 30, .inl (mu.2.2.2 1))), (r2, .inl (cI, 30, .inl (mu.2.2.2 2))), (r3, .inl (cI, 30, .inl (mu.2.2.2 3))), (r4, .inl (cI, 30, .inl (mu.2.2.2 4))), (r5, .inl (cI, 30, .inl (mu.2.2.2 5))), (r6, .inl (cI, 30, .inl (mu.2.2.2 6))), (r7, .inl (cI, 30, .inl (mu.2.2.2 7)))] := hD
  have hv9 : ∀ t, t < ftCL w + 60 → V9 t = ftCV w t := fun t ht => (hrows t (by omega)).2.2.2
  refine lv_aload_n hx hb dX10_measureWith_42 rfl (lv_at hl 0 rfl) ?_
  refine va_get (D := D) (ci := 10) (v := .ref y0) (C := RX10) (T := TX10) (N := 11) hx hb hts (by decide +kernel) hown hK hP 0 rfl rfl 8 (by decide) (hts (.fieldLink RX10 68 "FiberTrace" "reading" "LFiberTrace$Reading;") (by decide +kernel)) (fun _ h9 => h9) rfl dX10_measureWith_43 ?_
  refine lv_aload_n hx hb dX10_measureWith_46 rfl (lv_at hl 0 rfl) ?_
  refine va_get (D := D) (ci := 10) (v := .ref x0) (C := RX10) (T := TX10) (N := 11) hx hb hts (by decide +kernel) hown hK hP 0 rfl rfl 7 (by decide) (hts (.fieldLink RX10 61 "FiberTrace" "trace" "LFiberTrace$Trace;") (by decide +kernel)) (fun _ h9 => h9) rfl dX10_measureWith_47 ?_
  refine va_get (D := D) (ci := 9) (v := .ref xs) (C := RX9) (T := TX9) (N := 9) hx hb hts (by decide +kernel) hown hK hP 15 rfl rfl 3 (by decide) (hts (.fieldLink RX10 213 "FiberTrace$Trace" "samples" "[I") (by decide +kernel)) (fun _ h9 => h9) rfl dX10_measureWith_50 ?_
  refine lv_aload_n hx hb dX10_measureWith_53 rfl (lv_at hl 0 rfl) ?_
  refine va_get (D := D) (ci := 10) (v := .ref x0) (C := RX10) (T := TX10) (N := 11) hx hb hts (by decide +kernel) hown hK hP 0 rfl rfl 7 (by decide) (hts (.fieldLink RX10 61 "FiberTrace" "trace" "LFiberTrace$Trace;") (by decide +kernel)) (fun _ h9 => h9) rfl dX10_measureWith_54 ?_
  refine va_get (D := D) (ci := 9) (v := .int (nI (ln + 60))) (C := RX9) (T := TX9) (N := 9) hx hb hts (by decide +kernel) hown hK hP 15 rfl rfl 4 (by decide) (hts (.fieldLink RX10 336 "FiberTrace$Trace" "size" "I") (by decide +kernel)) (fun _ h9 => h9) rfl dX10_measureWith_57 ?_
  refine lv_aload_n hx hb dX10_measureWith_60 rfl (lv_at hl 1 rfl) ?_
  refine ft_cv (wc := [(y0, .inr (7, [.ref r0, .ref r1, .ref r2, .ref r3, .ref r4, .ref r5, .ref r6, .ref r7, .int (nI (mu.1 3)), .int (mu.2.1 6)])), (r0, .inl (cI, 30, .inl (mu.2.2.2 0))), (r1, .inl (cI, 30, .inl (mu.2.2.2 1))), (r2, .inl (cI, 30, .inl (mu.2.2.2 2))), (r3, .inl (cI, 30, .inl (mu.2.2.2 3))), (r4, .inl (cI, 30, .inl (mu.2.2.2 4))), (r5, .inl (cI, 30, .inl (mu.2.2.2 5))), (r6, .inl (cI, 30, .inl (mu.2.2.2 6))), (r7, .inl (cI, 30, .inl (mu.2.2.2 7))), (xs, .inl (cI, 460, .inl V9)), (s0, .inl (cI, 11, .inl sf))]) (wr := [(o0, .inr (10, [.ref t0, .ref h0, .ref tt, .ref kt, .ref cp, .ref n0, .ref c0, .ref x0, .ref y0, .ref ts, .int me])), (t0, .inr (8, [.ref l0, .ref g0, .int (nI ke)])), (l0, .inr (4, [.int (nI ln), .int att, .int en, .int (nI n), .ref ak, .ref ap, .ref al, .ref ar])), (ak, .inl (cI, 10, .inl kf)), (ap, .inl (cI, 10, .inl pf)), (al, .inl (cI, 10, .inl lf)), (ar, .inl (cI, 10, .inl rf)), (n0, .inr (6, [.int (ftIte ((mu.2.1 2) = nI (ln + 60) ∧ (mu.2.1 3) = sf 3 ∧ (mu.2.1 4) = sf 4 ∧ (mu.2.1 5) = sf 5) (mu.2.1 0) (ftNzs (sf 3) (sf 5) (ftCP w) (ln + 60))), .int (ftIte ((mu.2.1 2) = nI (ln + 60) ∧ (mu.2.1 3) = sf 3 ∧ (mu.2.1 4) = sf 4 ∧ (mu.2.1 5) = sf 5) (mu.2.1 1) (sf 3))])), (c0, .inr (1, [.ref ep, .ref eh, .int (nI ((R9).1)), .ref ef, .ref es, .ref eg, .int (nI ((G9).1))])), (ep, .inl (cI, 11, .inl ((R9).2.1))), (eh, .inl (cI, 11, .inl ((R9).2.2))), (ef, .inl (cI, 55, .inl ((G9).2.1))), (es, .inl (cI, 55, .inl ((G9).2.2.1))), (eg, .inl (cI, 55, .inl ((G9).2.2.2))), (x0, .inr (9, [.ref xb, .ref xp, .ref xn, .ref xs, .int (nI (ln + 60)), .int (nI (ln + 60)), .int (sf 3), .int (sf 4), .int (sf 5)])), (xb, .inl (cI, 460, .inl (ftFill (ftBase ln kf pf lf att n (sf 0)) (mu.2.2.1 5) (ln + 60)))), (xp, .inl (cI, 460, .inl (ftPeaks (ftTn (ftCF w).2.1) (ftTn (ftCF w).2.2) (ftTn (ftCG w).2.1) (ftTn (ftCG w).2.2.1) ((R9).1) ((G9).1) (ftCW w) (ftCD w) (ln + 60) (mu.2.2.1 6)))), (xn, .inl (cI, 460, .inl (ftFill (ftNoise (sf 3) (sf 5) (ftCP w)) (mu.2.2.1 7) (ln + 60))))]) (w1 := [(y0, .inr (7, [.ref r0, .ref r1, .ref r2, .ref r3, .ref r4, .ref r5, .ref r6, .ref r7, .int (nI (ftRd V9 (ln + 60) (ftCW w) (sf 6) (sf 7) (sf 8) mu.2.2.2).1), .int (sf 9)])), (r0, .inl (cI, 30, .inl ((ftRd V9 (ln + 60) (ftCW w) (sf 6) (sf 7) (sf 8) mu.2.2.2).2.2 0))), (r1, .inl (cI, 30, .inl ((ftRd V9 (ln + 60) (ftCW w) (sf 6) (sf 7) (sf 8) mu.2.2.2).2.2 1))), (r2, .inl (cI, 30, .inl ((ftRd V9 (ln + 60) (ftCW w) (sf 6) (sf 7) (sf 8) mu.2.2.2).2.2 2))), (r3, .inl (cI, 30, .inl ((ftRd V9 (ln + 60) (ftCW w) (sf 6) (sf 7) (sf 8) mu.2.2.2).2.2 3))), (r4, .inl (cI, 30, .inl ((ftRd V9 (ln + 60) (ftCW w) (sf 6) (sf 7) (sf 8) mu.2.2.2).2.2 4))), (r5, .inl (cI, 30, .inl ((ftRd V9 (ln + 60) (ftCW w) (sf 6) (sf 7) (sf 8) mu.2.2.2).2.2 5))), (r6, .inl (cI, 30, .inl ((ftRd V9 (ln + 60) (ftCW w) (sf 6) (sf 7) (sf 8) mu.2.2.2).2.2 6))), (r7, .inl (cI, 30, .inl ((ftRd V9 (ln + 60) (ftCW w) (sf 6) (sf 7) (sf 8) mu.2.2.2).2.2 7))), (xs, .inl (cI, 460, .inl V9)), (s0, .inl (cI, 11, .inl sf))]) (ws1 := [(o0, .inr (10, [.ref t0, .ref h0, .ref tt, .ref kt, .ref cp, .ref n0, .ref c0, .ref x0, .ref y0, .ref ts, .int me])), (t0, .inr (8, [.ref l0, .ref g0, .int (nI ke)])), (l0, .inr (4, [.int (nI ln), .int att, .int en, .int (nI n), .ref ak, .ref ap, .ref al, .ref ar])), (ak, .inl (cI, 10, .inl kf)), (ap, .inl (cI, 10, .inl pf)), (al, .inl (cI, 10, .inl lf)), (ar, .inl (cI, 10, .inl rf)), (s0, .inl (cI, 11, .inl sf)), (n0, .inr (6, [.int (ftIte ((mu.2.1 2) = nI (ln + 60) ∧ (mu.2.1 3) = sf 3 ∧ (mu.2.1 4) = sf 4 ∧ (mu.2.1 5) = sf 5) (mu.2.1 0) (ftNzs (sf 3) (sf 5) (ftCP w) (ln + 60))), .int (ftIte ((mu.2.1 2) = nI (ln + 60) ∧ (mu.2.1 3) = sf 3 ∧ (mu.2.1 4) = sf 4 ∧ (mu.2.1 5) = sf 5) (mu.2.1 1) (sf 3))])), (c0, .inr (1, [.ref ep, .ref eh, .int (nI ((R9).1)), .ref ef, .ref es, .ref eg, .int (nI ((G9).1))])), (ep, .inl (cI, 11, .inl ((R9).2.1))), (eh, .inl (cI, 11, .inl ((R9).2.2))), (ef, .inl (cI, 55, .inl ((G9).2.1))), (es, .inl (cI, 55, .inl ((G9).2.2.1))), (eg, .inl (cI, 55, .inl ((G9).2.2.2))), (x0, .inr (9, [.ref xb, .ref xp, .ref xn, .ref xs, .int (nI (ln + 60)), .int (nI (ln + 60)), .int (sf 3), .int (sf 4), .int (sf 5)])), (xb, .inl (cI, 460, .inl (ftFill (ftBase ln kf pf lf att n (sf 0)) (mu.2.2.1 5) (ln + 60)))), (xp, .inl (cI, 460, .inl (ftPeaks (ftTn (ftCF w).2.1) (ftTn (ftCF w).2.2) (ftTn (ftCG w).2.1) (ftTn (ftCG w).2.2.1) ((R9).1) ((G9).1) (ftCW w) (ftCD w) (ln + 60) (mu.2.2.1 6)))), (xn, .inl (cI, 460, .inl (ftFill (ftNoise (sf 3) (sf 5) (ftCP w)) (mu.2.2.1 7) (ln + 60)))), (xs, .inl (cI, 460, .inl V9)), (y0, .inr (7, [.ref r0, .ref r1, .ref r2, .ref r3, .ref r4, .ref r5, .ref r6, .ref r7, .int (nI (ftRd V9 (ln + 60) (ftCW w) (sf 6) (sf 7) (sf 8) mu.2.2.2).1), .int (sf 9)])), (r0, .inl (cI, 30, .inl ((ftRd V9 (ln + 60) (ftCW w) (sf 6) (sf 7) (sf 8) mu.2.2.2).2.2 0))), (r1, .inl (cI, 30, .inl ((ftRd V9 (ln + 60) (ftCW w) (sf 6) (sf 7) (sf 8) mu.2.2.2).2.2 1))), (r2, .inl (cI, 30, .inl ((ftRd V9 (ln + 60) (ftCW w) (sf 6) (sf 7) (sf 8) mu.2.2.2).2.2 2))), (r3, .inl (cI, 30, .inl ((ftRd V9 (ln + 60) (ftCW w) (sf 6) (sf 7) (sf 8) mu.2.2.2).2.2 3))), (r4, .inl (cI, 30, .inl ((ftRd V9 (ln + 60) (ftCW w) (sf 6) (sf 7) (sf 8) mu.2.2.2).2.2 4))), (r5, .inl (cI, 30, .inl ((ftRd V9 (ln + 60) (ftCW w) (sf 6) (sf 7) (sf 8) mu.2.2.2).2.2 5))), (r6, .inl (cI, 30, .inl ((ftRd V9 (ln + 60) (ftCW w) (sf 6) (sf 7) (sf 8) mu.2.2.2).2.2 6))), (r7, .inl (cI, 30, .inl ((ftRd V9 (ln + 60) (ftCW w) (sf 6) (sf 7) (sf 8) mu.2.2.2).2.2 7)))]) (va_runV (C := RX7) (As := [.ref xs, .int (nI (ln + 60)), .ref s0]) (rest := []) ⟨hx, hb, hml, hown, hts⟩ (c_X7_read l D cI cS H.size y0 r0 r1 r2 r3 r4 r5 r6 r7 (mu.1 3) (mu.2.1 6) mu.2.2.2 xs V9 (ln + 60) s0 sf (ftCW w) (by omega) (by omega) (ftWf_wd1 hWf) (ftWf_wd hWf) hs0) (cwV 3 hts gX10_measureWith_X7_read rfl rfl rfl (by decide +kernel) ⟨Nat.le_of_ble_eq_true rfl, Nat.le_of_ble_eq_true rfl⟩) (ft_preRWV (ci := 7) (q0 := 20) hP hD hKK [20, 21, 22, 23, 24, 25, 26, 27, 28, 19, 7] rfl rfl rfl rfl rfl) rfl rfl hl.1 rfl (lv_room (Nat.le_of_ble_eq_true rfl)) dX10_measureWith_61 ⟨Nat.le_of_ble_eq_true rfl, Nat.le_of_ble_eq_true rfl⟩) hP hD hS hA [20, 21, 22, 23, 24, 25, 26, 27, 28, 19, 7] [0, 1, 2, 3, 4, 5, 6, 8, 9, 10, 11, 12, 13, 14, 15, 16, 17, 18] [0, 1, 2, 3, 4, 5, 6, 28, 7, 8, 9, 10, 11, 12, 13, 14, 15, 16, 17, 27, 18, 19, 20, 21, 22, 23, 24, 25, 26] rfl rfl (by decide) (by decide) (by decide) rfl rfl (fun H locs hP hD hS => ?_)
  have hP : va_P D vwCl [(o0, .inr (10, [.ref t0, .ref h0, .ref tt, .ref kt, .ref cp, .ref n0, .ref c0, .ref x0, .ref y0, .ref ts, .int me])), (t0, .inr (8, [.ref l0, .ref g0, .int (nI ke)])), (l0, .inr (4, [.int (nI ln), .int att, .int en, .int (nI n), .ref ak, .ref ap, .ref al, .ref ar])), (ak, .inl (cI, 10, .inl kf)), (ap, .inl (cI, 10, .inl pf)), (al, .inl (cI, 10, .inl lf)), (ar, .inl (cI, 10, .inl rf)), (s0, .inl (cI, 11, .inl sf)), (n0, .inr (6, [.int (ftIte ((mu.2.1 2) = nI (ln + 60) ∧ (mu.2.1 3) = sf 3 ∧ (mu.2.1 4) = sf 4 ∧ (mu.2.1 5) = sf 5) (mu.2.1 0) (ftNzs (sf 3) (sf 5) (ftCP w) (ln + 60))), .int (ftIte ((mu.2.1 2) = nI (ln + 60) ∧ (mu.2.1 3) = sf 3 ∧ (mu.2.1 4) = sf 4 ∧ (mu.2.1 5) = sf 5) (mu.2.1 1) (sf 3))])), (c0, .inr (1, [.ref ep, .ref eh, .int (nI ((R9).1)), .ref ef, .ref es, .ref eg, .int (nI ((G9).1))])), (ep, .inl (cI, 11, .inl ((R9).2.1))), (eh, .inl (cI, 11, .inl ((R9).2.2))), (ef, .inl (cI, 55, .inl ((G9).2.1))), (es, .inl (cI, 55, .inl ((G9).2.2.1))), (eg, .inl (cI, 55, .inl ((G9).2.2.2))), (x0, .inr (9, [.ref xb, .ref xp, .ref xn, .ref xs, .int (nI (ln + 60)), .int (nI (ln + 60)), .int (sf 3), .int (sf 4), .int (sf 5)])), (xb, .inl (cI, 460, .inl (ftFill (ftBase ln kf pf lf att n (sf 0)) (mu.2.2.1 5) (ln + 60)))), (xp, .inl (cI, 460, .inl (ftPeaks (ftTn (ftCF w).2.1) (ftTn (ftCF w).2.2) (ftTn (ftCG w).2.1) (ftTn (ftCG w).2.2.1) ((R9).1) ((G9).1) (ftCW w) (ftCD w) (ln + 60) (mu.2.2.1 6)))), (xn, .inl (cI, 460, .inl (ftFill (ftNoise (sf 3) (sf 5) (ftCP w)) (mu.2.2.1 7) (ln + 60)))), (xs, .inl (cI, 460, .inl V9)), (y0, .inr (7, [.ref r0, .ref r1, .ref r2, .ref r3, .ref r4, .ref r5, .ref r6, .ref r7, .int (nI (ftRd V9 (ln + 60) (ftCW w) (sf 6) (sf 7) (sf 8) mu.2.2.2).1), .int (sf 9)])), (r0, .inl (cI, 30, .inl ((ftRd V9 (ln + 60) (ftCW w) (sf 6) (sf 7) (sf 8) mu.2.2.2).2.2 0))), (r1, .inl (cI, 30, .inl ((ftRd V9 (ln + 60) (ftCW w) (sf 6) (sf 7) (sf 8) mu.2.2.2).2.2 1))), (r2, .inl (cI, 30, .inl ((ftRd V9 (ln + 60) (ftCW w) (sf 6) (sf 7) (sf 8) mu.2.2.2).2.2 2))), (r3, .inl (cI, 30, .inl ((ftRd V9 (ln + 60) (ftCW w) (sf 6) (sf 7) (sf 8) mu.2.2.2).2.2 3))), (r4, .inl (cI, 30, .inl ((ftRd V9 (ln + 60) (ftCW w) (sf 6) (sf 7) (sf 8) mu.2.2.2).2.2 4))), (r5, .inl (cI, 30, .inl ((ftRd V9 (ln + 60) (ftCW w) (sf 6) (sf 7) (sf 8) mu.2.2.2).2.2 5))), (r6, .inl (cI, 30, .inl ((ftRd V9 (ln + 60) (ftCW w) (sf 6) (sf 7) (sf 8) mu.2.2.2).2.2 6))), (r7, .inl (cI, 30, .inl ((ftRd V9 (ln + 60) (ftCW w) (sf 6) (sf 7) (sf 8) mu.2.2.2).2.2 7)))] H := hP
  have hD : va_D A [(o0, .inr (10, [.ref t0, .ref h0, .ref tt, .ref kt, .ref cp, .ref n0, .ref c0, .ref x0, .ref y0, .ref ts, .int me])), (t0, .inr (8, [.ref l0, .ref g0, .int (nI ke)])), (l0, .inr (4, [.int (nI ln), .int att, .int en, .int (nI n), .ref ak, .ref ap, .ref al, .ref ar])), (ak, .inl (cI, 10, .inl kf)), (ap, .inl (cI, 10, .inl pf)), (al, .inl (cI, 10, .inl lf)), (ar, .inl (cI, 10, .inl rf)), (s0, .inl (cI, 11, .inl sf)), (n0, .inr (6, [.int (ftIte ((mu.2.1 2) = nI (ln + 60) ∧ (mu.2.1 3) = sf 3 ∧ (mu.2.1 4) = sf 4 ∧ (mu.2.1 5) = sf 5) (mu.2.1 0) (ftNzs (sf 3) (sf 5) (ftCP w) (ln + 60))), .int (ftIte ((mu.2.1 2) = nI (ln + 60) ∧ (mu.2.1 3) = sf 3 ∧ (mu.2.1 4) = sf 4 ∧ (mu.2.1 5) = sf 5) (mu.2.1 1) (sf 3))])), (c0, .inr (1, [.ref ep, .ref eh, .int (nI ((R9).1)), .ref ef, .ref es, .ref eg, .int (nI ((G9).1))])), (ep, .inl (cI, 11, .inl ((R9).2.1))), (eh, .inl (cI, 11, .inl ((R9).2.2))), (ef, .inl (cI, 55, .inl ((G9).2.1))), (es, .inl (cI, 55, .inl ((G9).2.2.1))), (eg, .inl (cI, 55, .inl ((G9).2.2.2))), (x0, .inr (9, [.ref xb, .ref xp, .ref xn, .ref xs, .int (nI (ln + 60)), .int (nI (ln + 60)), .int (sf 3), .int (sf 4), .int (sf 5)])), (xb, .inl (cI, 460, .inl (ftFill (ftBase ln kf pf lf att n (sf 0)) (mu.2.2.1 5) (ln + 60)))), (xp, .inl (cI, 460, .inl (ftPeaks (ftTn (ftCF w).2.1) (ftTn (ftCF w).2.2) (ftTn (ftCG w).2.1) (ftTn (ftCG w).2.2.1) ((R9).1) ((G9).1) (ftCW w) (ftCD w) (ln + 60) (mu.2.2.1 6)))), (xn, .inl (cI, 460, .inl (ftFill (ftNoise (sf 3) (sf 5) (ftCP w)) (mu.2.2.1 7) (ln + 60)))), (xs, .inl (cI, 460, .inl V9)), (y0, .inr (7, [.ref r0, .ref r1, .ref r2, .ref r3, .ref r4, .ref r5, .ref r6, .ref r7, .int (nI (ftRd V9 (ln + 60) (ftCW w) (sf 6) (sf 7) (sf 8) mu.2.2.2).1), .int (sf 9)])), (r0, .inl (cI, 30, .inl ((ftRd V9 (ln + 60) (ftCW w) (sf 6) (sf 7) (sf 8) mu.2.2.2).2.2 0))), (r1, .inl (cI, 30, .inl ((ftRd V9 (ln + 60) (ftCW w) (sf 6) (sf 7) (sf 8) mu.2.2.2).2.2 1))), (r2, .inl (cI, 30, .inl ((ftRd V9 (ln + 60) (ftCW w) (sf 6) (sf 7) (sf 8) mu.2.2.2).2.2 2))), (r3, .inl (cI, 30, .inl ((ftRd V9 (ln + 60) (ftCW w) (sf 6) (sf 7) (sf 8) mu.2.2.2).2.2 3))), (r4, .inl (cI, 30, .inl ((ftRd V9 (ln + 60) (ftCW w) (sf 6) (sf 7) (sf 8) mu.2.2.2).2.2 4))), (r5, .inl (cI, 30, .inl ((ftRd V9 (ln + 60) (ftCW w) (sf 6) (sf 7) (sf 8) mu.2.2.2).2.2 5))), (r6, .inl (cI, 30, .inl ((ftRd V9 (ln + 60) (ftCW w) (sf 6) (sf 7) (sf 8) mu.2.2.2).2.2 6))), (r7, .inl (cI, 30, .inl ((ftRd V9 (ln + 60) (ftCW w) (sf 6) (sf 7) (sf 8) mu.2.2.2).2.2 7)))] := hD
  obtain ⟨E9, hE9⟩ : ∃ E9, E9 = ftRd V9 (ln + 60) (ftCW w) (sf 6) (sf 7) (sf 8) mu.2.2.2 := ⟨_, rfl⟩
  rw [← hE9] at hP hD
  have hP : va_P D vwCl [(o0, .inr (10, [.ref t0, .ref h0, .ref tt, .ref kt, .ref cp, .ref n0, .ref c0, .ref x0, .ref y0, .ref ts, .int me])), (t0, .inr (8, [.ref l0, .ref g0, .int (nI ke)])), (l0, .inr (4, [.int (nI ln), .int att, .int en, .int (nI n), .ref ak, .ref ap, .ref al, .ref ar])), (ak, .inl (cI, 10, .inl kf)), (ap, .inl (cI, 10, .inl pf)), (al, .inl (cI, 10, .inl lf)), (ar, .inl (cI, 10, .inl rf)), (s0, .inl (cI, 11, .inl sf)), (n0, .inr (6, [.int (ftIte ((mu.2.1 2) = nI (ln + 60) ∧ (mu.2.1 3) = sf 3 ∧ (mu.2.1 4) = sf 4 ∧ (mu.2.1 5) = sf 5) (mu.2.1 0) (ftNzs (sf 3) (sf 5) (ftCP w) (ln + 60))), .int (ftIte ((mu.2.1 2) = nI (ln + 60) ∧ (mu.2.1 3) = sf 3 ∧ (mu.2.1 4) = sf 4 ∧ (mu.2.1 5) = sf 5) (mu.2.1 1) (sf 3))])), (c0, .inr (1, [.ref ep, .ref eh, .int (nI ((R9).1)), .ref ef, .ref es, .ref eg, .int (nI ((G9).1))])), (ep, .inl (cI, 11, .inl ((R9).2.1))), (eh, .inl (cI, 11, .inl ((R9).2.2))), (ef, .inl (cI, 55, .inl ((G9).2.1))), (es, .inl (cI, 55, .inl ((G9).2.2.1))), (eg, .inl (cI, 55, .inl ((G9).2.2.2))), (x0, .inr (9, [.ref xb, .ref xp, .ref xn, .ref xs, .int (nI (ln + 60)), .int (nI (ln + 60)), .int (sf 3), .int (sf 4), .int (sf 5)])), (xb, .inl (cI, 460, .inl (ftFill (ftBase ln kf pf lf att n (sf 0)) (mu.2.2.1 5) (ln + 60)))), (xp, .inl (cI, 460, .inl (ftPeaks (ftTn (ftCF w).2.1) (ftTn (ftCF w).2.2) (ftTn (ftCG w).2.1) (ftTn (ftCG w).2.2.1) ((R9).1) ((G9).1) (ftCW w) (ftCD w) (ln + 60) (mu.2.2.1 6)))), (xn, .inl (cI, 460, .inl (ftFill (ftNoise (sf 3) (sf 5) (ftCP w)) (mu.2.2.1 7) (ln + 60)))), (xs, .inl (cI, 460, .inl V9)), (y0, .inr (7, [.ref r0, .ref r1, .ref r2, .ref r3, .ref r4, .ref r5, .ref r6, .ref r7, .int (nI (E9).1), .int (sf 9)])), (r0, .inl (cI, 30, .inl ((E9).2.2 0))), (r1, .inl (cI, 30, .inl ((E9).2.2 1))), (r2, .inl (cI, 30, .inl ((E9).2.2 2))), (r3, .inl (cI, 30, .inl ((E9).2.2 3))), (r4, .inl (cI, 30, .inl ((E9).2.2 4))), (r5, .inl (cI, 30, .inl ((E9).2.2 5))), (r6, .inl (cI, 30, .inl ((E9).2.2 6))), (r7, .inl (cI, 30, .inl ((E9).2.2 7)))] H := hP
  have hD : va_D A [(o0, .inr (10, [.ref t0, .ref h0, .ref tt, .ref kt, .ref cp, .ref n0, .ref c0, .ref x0, .ref y0, .ref ts, .int me])), (t0, .inr (8, [.ref l0, .ref g0, .int (nI ke)])), (l0, .inr (4, [.int (nI ln), .int att, .int en, .int (nI n), .ref ak, .ref ap, .ref al, .ref ar])), (ak, .inl (cI, 10, .inl kf)), (ap, .inl (cI, 10, .inl pf)), (al, .inl (cI, 10, .inl lf)), (ar, .inl (cI, 10, .inl rf)), (s0, .inl (cI, 11, .inl sf)), (n0, .inr (6, [.int (ftIte ((mu.2.1 2) = nI (ln + 60) ∧ (mu.2.1 3) = sf 3 ∧ (mu.2.1 4) = sf 4 ∧ (mu.2.1 5) = sf 5) (mu.2.1 0) (ftNzs (sf 3) (sf 5) (ftCP w) (ln + 60))), .int (ftIte ((mu.2.1 2) = nI (ln + 60) ∧ (mu.2.1 3) = sf 3 ∧ (mu.2.1 4) = sf 4 ∧ (mu.2.1 5) = sf 5) (mu.2.1 1) (sf 3))])), (c0, .inr (1, [.ref ep, .ref eh, .int (nI ((R9).1)), .ref ef, .ref es, .ref eg, .int (nI ((G9).1))])), (ep, .inl (cI, 11, .inl ((R9).2.1))), (eh, .inl (cI, 11, .inl ((R9).2.2))), (ef, .inl (cI, 55, .inl ((G9).2.1))), (es, .inl (cI, 55, .inl ((G9).2.2.1))), (eg, .inl (cI, 55, .inl ((G9).2.2.2))), (x0, .inr (9, [.ref xb, .ref xp, .ref xn, .ref xs, .int (nI (ln + 60)), .int (nI (ln + 60)), .int (sf 3), .int (sf 4), .int (sf 5)])), (xb, .inl (cI, 460, .inl (ftFill (ftBase ln kf pf lf att n (sf 0)) (mu.2.2.1 5) (ln + 60)))), (xp, .inl (cI, 460, .inl (ftPeaks (ftTn (ftCF w).2.1) (ftTn (ftCF w).2.2) (ftTn (ftCG w).2.1) (ftTn (ftCG w).2.2.1) ((R9).1) ((G9).1) (ftCW w) (ftCD w) (ln + 60) (mu.2.2.1 6)))), (xn, .inl (cI, 460, .inl (ftFill (ftNoise (sf 3) (sf 5) (ftCP w)) (mu.2.2.1 7) (ln + 60)))), (xs, .inl (cI, 460, .inl V9)), (y0, .inr (7, [.ref r0, .ref r1, .ref r2, .ref r3, .ref r4, .ref r5, .ref r6, .ref r7, .int (nI (E9).1), .int (sf 9)])), (r0, .inl (cI, 30, .inl ((E9).2.2 0))), (r1, .inl (cI, 30, .inl ((E9).2.2 1))), (r2, .inl (cI, 30, .inl ((E9).2.2 2))), (r3, .inl (cI, 30, .inl ((E9).2.2 3))), (r4, .inl (cI, 30, .inl ((E9).2.2 4))), (r5, .inl (cI, 30, .inl ((E9).2.2 5))), (r6, .inl (cI, 30, .inl ((E9).2.2 6))), (r7, .inl (cI, 30, .inl ((E9).2.2 7)))] := hD
  have hE10 : E9 = ftRd V9 (ftCL w + 60) (ftCW w) (w (44 + 6)) (w (44 + 7)) (w (44 + 8)) mu.2.2.2 := by rw [hE9, hcl, hsf 6 (by omega), hsf 7 (by omega), hsf 8 (by omega)]
  have hRd : ftRdd w E9.1 (ftGhosts E9.2.2 (sf 9) (sf 10) E9.1) := ⟨V9, mu.2.2.2, hv9, by rw [← hE10], fun c hc => by rw [← hE10, ← hsf 9 (by omega), ← hsf 10 (by omega)]⟩
  have hk30 : E9.1 ≤ 30 := (ftErel_rdd hWf hRd).2.1
  refine lv_aload_n hx hb dX10_measureWith_64 rfl (lv_at hl 0 rfl) ?_
  refine va_get (D := D) (ci := 10) (v := .ref y0) (C := RX10) (T := TX10) (N := 11) hx hb hts (by decide +kernel) hown hK hP 0 rfl rfl 8 (by decide) (hts (.fieldLink RX10 68 "FiberTrace" "reading" "LFiberTrace$Reading;") (by decide +kernel)) (fun _ h9 => h9) rfl dX10_measureWith_65 ?_
  refine lv_aload_n hx hb dX10_measureWith_68 rfl (lv_at hl 1 rfl) ?_
  refine lv_bipush (v := 10) hx hb dX10_measureWith_69 (by decide) ?_
  refine ft_csi (r := ftAt 11 sf 10) (va_runS (As := [.ref s0, .int 10]) (rest := [.ref y0]) ⟨hx, hb, hml, hown, hts⟩ (c_X10_at l D cI cS s0 11 sf 10 (by first | assumption | omega)) (va_cwS 2 hts gX10_measureWith_X10_at rfl rfl rfl (by decide +kernel) ⟨Nat.le_of_ble_eq_true rfl, Nat.le_of_ble_eq_true rfl⟩) (ft_preRO hP hKK [7] rfl) rfl rfl hl.1 rfl (lv_room (Nat.le_of_ble_eq_true rfl)) dX10_measureWith_71 ⟨Nat.le_of_ble_eq_true rfl, Nat.le_of_ble_eq_true rfl⟩) ?_
  refine ft_top (y := sf 10) (ftAt_N (k := 10) (by omega) (by omega)) ?_
  refine ft_cv (wc := [(y0, .inr (7, [.ref r0, .ref r1, .ref r2, .ref r3, .ref r4, .ref r5, .ref r6, .ref r7, .int (nI (E9).1), .int (sf 9)])), (r0, .inl (cI, 30, .inl ((E9).2.2 0))), (r1, .inl (cI, 30, .inl ((E9).2.2 1))), (r2, .inl (cI, 30, .inl ((E9).2.2 2))), (r3, .inl (cI, 30, .inl ((E9).2.2 3))), (r4, .inl (cI, 30, .inl ((E9).2.2 4))), (r5, .inl (cI, 30, .inl ((E9).2.2 5))), (r6, .inl (cI, 30, .inl ((E9).2.2 6))), (r7, .inl (cI, 30, .inl ((E9).2.2 7)))]) (wr := [(o0, .inr (10, [.ref t0, .ref h0, .ref tt, .ref kt, .ref cp, .ref n0, .ref c0, .ref x0, .ref y0, .ref ts, .int me])), (t0, .inr (8, [.ref l0, .ref g0, .int (nI ke)])), (l0, .inr (4, [.int (nI ln), .int att, .int en, .int (nI n), .ref ak, .ref ap, .ref al, .ref ar])), (ak, .inl (cI, 10, .inl kf)), (ap, .inl (cI, 10, .inl pf)), (al, .inl (cI, 10, .inl lf)), (ar, .inl (cI, 10, .inl rf)), (s0, .inl (cI, 11, .inl sf)), (n0, .inr (6, [.int (ftIte ((mu.2.1 2) = nI (ln + 60) ∧ (mu.2.1 3) = sf 3 ∧ (mu.2.1 4) = sf 4 ∧ (mu.2.1 5) = sf 5) (mu.2.1 0) (ftNzs (sf 3) (sf 5) (ftCP w) (ln + 60))), .int (ftIte ((mu.2.1 2) = nI (ln + 60) ∧ (mu.2.1 3) = sf 3 ∧ (mu.2.1 4) = sf 4 ∧ (mu.2.1 5) = sf 5) (mu.2.1 1) (sf 3))])), (c0, .inr (1, [.ref ep, .ref eh, .int (nI ((R9).1)), .ref ef, .ref es, .ref eg, .int (nI ((G9).1))])), (ep, .inl (cI, 11, .inl ((R9).2.1))), (eh, .inl (cI, 11, .inl ((R9).2.2))), (ef, .inl (cI, 55, .inl ((G9).2.1))), (es, .inl (cI, 55, .inl ((G9).2.2.1))), (eg, .inl (cI, 55, .inl ((G9).2.2.2))), (x0, .inr (9, [.ref xb, .ref xp, .ref xn, .ref xs, .int (nI (ln + 60)), .int (nI (ln + 60)), .int (sf 3), .int (sf 4), .int (sf 5)])), (xb, .inl (cI, 460, .inl (ftFill (ftBase ln kf pf lf att n (sf 0)) (mu.2.2.1 5) (ln + 60)))), (xp, .inl (cI, 460, .inl (ftPeaks (ftTn (ftCF w).2.1) (ftTn (ftCF w).2.2) (ftTn (ftCG w).2.1) (ftTn (ftCG w).2.2.1) ((R9).1) ((G9).1) (ftCW w) (ftCD w) (ln + 60) (mu.2.2.1 6)))), (xn, .inl (cI, 460, .inl (ftFill (ftNoise (sf 3) (sf 5) (ftCP w)) (mu.2.2.1 7) (ln + 60)))), (xs, .inl (cI, 460, .inl V9))]) (w1 := [(y0, .inr (7, [.ref r0, .ref r1, .ref r2, .ref r3, .ref r4, .ref r5, .ref r6, .ref r7, .int (nI ((E9).1)), .int (sf 9)])), (r0, .inl (cI, 30, .inl (ftGhosts ((E9).2.2) (sf 9) (sf 10) ((E9).1) 0))), (r1, .inl (cI, 30, .inl (ftGhosts ((E9).2.2) (sf 9) (sf 10) ((E9).1) 1))), (r2, .inl (cI, 30, .inl (ftGhosts ((E9).2.2) (sf 9) (sf 10) ((E9).1) 2))), (r3, .inl (cI, 30, .inl (ftGhosts ((E9).2.2) (sf 9) (sf 10) ((E9).1) 3))), (r4, .inl (cI, 30, .inl (ftGhosts ((E9).2.2) (sf 9) (sf 10) ((E9).1) 4))), (r5, .inl (cI, 30, .inl (ftGhosts ((E9).2.2) (sf 9) (sf 10) ((E9).1) 5))), (r6, .inl (cI, 30, .inl (ftGhosts ((E9).2.2) (sf 9) (sf 10) ((E9).1) 6))), (r7, .inl (cI, 30, .inl (ftGhosts ((E9).2.2) (sf 9) (sf 10) ((E9).1) 7)))]) (ws1 := [(o0, .inr (10, [.ref t0, .ref h0, .ref tt, .ref kt, .ref cp, .ref n0, .ref c0, .ref x0, .ref y0, .ref ts, .int me])), (t0, .inr (8, [.ref l0, .ref g0, .int (nI ke)])), (l0, .inr (4, [.int (nI ln), .int att, .int en, .int (nI n), .ref ak, .ref ap, .ref al, .ref ar])), (ak, .inl (cI, 10, .inl kf)), (ap, .inl (cI, 10, .inl pf)), (al, .inl (cI, 10, .inl lf)), (ar, .inl (cI, 10, .inl rf)), (s0, .inl (cI, 11, .inl sf)), (n0, .inr (6, [.int (ftIte ((mu.2.1 2) = nI (ln + 60) ∧ (mu.2.1 3) = sf 3 ∧ (mu.2.1 4) = sf 4 ∧ (mu.2.1 5) = sf 5) (mu.2.1 0) (ftNzs (sf 3) (sf 5) (ftCP w) (ln + 60))), .int (ftIte ((mu.2.1 2) = nI (ln + 60) ∧ (mu.2.1 3) = sf 3 ∧ (mu.2.1 4) = sf 4 ∧ (mu.2.1 5) = sf 5) (mu.2.1 1) (sf 3))])), (c0, .inr (1, [.ref ep, .ref eh, .int (nI ((R9).1)), .ref ef, .ref es, .ref eg, .int (nI ((G9).1))])), (ep, .inl (cI, 11, .inl ((R9).2.1))), (eh, .inl (cI, 11, .inl ((R9).2.2))), (ef, .inl (cI, 55, .inl ((G9).2.1))), (es, .inl (cI, 55, .inl ((G9).2.2.1))), (eg, .inl (cI, 55, .inl ((G9).2.2.2))), (x0, .inr (9, [.ref xb, .ref xp, .ref xn, .ref xs, .int (nI (ln + 60)), .int (nI (ln + 60)), .int (sf 3), .int (sf 4), .int (sf 5)])), (xb, .inl (cI, 460, .inl (ftFill (ftBase ln kf pf lf att n (sf 0)) (mu.2.2.1 5) (ln + 60)))), (xp, .inl (cI, 460, .inl (ftPeaks (ftTn (ftCF w).2.1) (ftTn (ftCF w).2.2) (ftTn (ftCG w).2.1) (ftTn (ftCG w).2.2.1) ((R9).1) ((G9).1) (ftCW w) (ftCD w) (ln + 60) (mu.2.2.1 6)))), (xn, .inl (cI, 460, .inl (ftFill (ftNoise (sf 3) (sf 5) (ftCP w)) (mu.2.2.1 7) (ln + 60)))), (xs, .inl (cI, 460, .inl V9)), (y0, .inr (7, [.ref r0, .ref r1, .ref r2, .ref r3, .ref r4, .ref r5, .ref r6, .ref r7, .int (nI ((E9).1)), .int (sf 9)])), (r0, .inl (cI, 30, .inl (ftGhosts ((E9).2.2) (sf 9) (sf 10) ((E9).1) 0))), (r1, .inl (cI, 30, .inl (ftGhosts ((E9).2.2) (sf 9) (sf 10) ((E9).1) 1))), (r2, .inl (cI, 30, .inl (ftGhosts ((E9).2.2) (sf 9) (sf 10) ((E9).1) 2))), (r3, .inl (cI, 30, .inl (ftGhosts ((E9).2.2) (sf 9) (sf 10) ((E9).1) 3))), (r4, .inl (cI, 30, .inl (ftGhosts ((E9).2.2) (sf 9) (sf 10) ((E9).1) 4))), (r5, .inl (cI, 30, .inl (ftGhosts ((E9).2.2) (sf 9) (sf 10) ((E9).1) 5))), (r6, .inl (cI, 30, .inl (ftGhosts ((E9).2.2) (sf 9) (sf 10) ((E9).1) 6))), (r7, .inl (cI, 30, .inl (ftGhosts ((E9).2.2) (sf 9) (sf 10) ((E9).1) 7)))]) (va_runV (C := RX7) (As := [.int (sf 10)]) (rest := []) ⟨hx, hb, hml, hown, hts⟩ (c_X7_findGhosts l D cI cS H.size y0 r0 r1 r2 r3 r4 r5 r6 r7 ((E9).1) (sf 9) ((E9).2.2) (sf 10) hk30) (cwV 1 hts gX10_measureWith_X7_findGhosts rfl rfl rfl (by decide +kernel) ⟨Nat.le_of_ble_eq_true rfl, Nat.le_of_ble_eq_true rfl⟩) (ft_preRWV (ci := 7) (q0 := 20) hP hD hKK [20, 21, 22, 23, 24, 25, 26, 27, 28] rfl rfl rfl rfl rfl) rfl rfl hl.1 rfl (lv_room (Nat.le_of_ble_eq_true rfl)) dX10_measureWith_74 ⟨Nat.le_of_ble_eq_true rfl, Nat.le_of_ble_eq_true rfl⟩) hP hD hS hA [20, 21, 22, 23, 24, 25, 26, 27, 28] [0, 1, 2, 3, 4, 5, 6, 7, 8, 9, 10, 11, 12, 13, 14, 15, 16, 17, 18, 19] [0, 1, 2, 3, 4, 5, 6, 7, 8, 9, 10, 11, 12, 13, 14, 15, 16, 17, 18, 19, 20, 21, 22, 23, 24, 25, 26, 27, 28] rfl rfl (by decide) (by decide) (by decide) rfl rfl (fun H locs hP hD hS => ?_)
  have hP : va_P D vwCl [(o0, .inr (10, [.ref t0, .ref h0, .ref tt, .ref kt, .ref cp, .ref n0, .ref c0, .ref x0, .ref y0, .ref ts, .int me])), (t0, .inr (8, [.ref l0, .ref g0, .int (nI ke)])), (l0, .inr (4, [.int (nI ln), .int att, .int en, .int (nI n), .ref ak, .ref ap, .ref al, .ref ar])), (ak, .inl (cI, 10, .inl kf)), (ap, .inl (cI, 10, .inl pf)), (al, .inl (cI, 10, .inl lf)), (ar, .inl (cI, 10, .inl rf)), (s0, .inl (cI, 11, .inl sf)), (n0, .inr (6, [.int (ftIte ((mu.2.1 2) = nI (ln + 60) ∧ (mu.2.1 3) = sf 3 ∧ (mu.2.1 4) = sf 4 ∧ (mu.2.1 5) = sf 5) (mu.2.1 0) (ftNzs (sf 3) (sf 5) (ftCP w) (ln + 60))), .int (ftIte ((mu.2.1 2) = nI (ln + 60) ∧ (mu.2.1 3) = sf 3 ∧ (mu.2.1 4) = sf 4 ∧ (mu.2.1 5) = sf 5) (mu.2.1 1) (sf 3))])), (c0, .inr (1, [.ref ep, .ref eh, .int (nI ((R9).1)), .ref ef, .ref es, .ref eg, .int (nI ((G9).1))])), (ep, .inl (cI, 11, .inl ((R9).2.1))), (eh, .inl (cI, 11, .inl ((R9).2.2))), (ef, .inl (cI, 55, .inl ((G9).2.1))), (es, .inl (cI, 55, .inl ((G9).2.2.1))), (eg, .inl (cI, 55, .inl ((G9).2.2.2))), (x0, .inr (9, [.ref xb, .ref xp, .ref xn, .ref xs, .int (nI (ln + 60)), .int (nI (ln + 60)), .int (sf 3), .int (sf 4), .int (sf 5)])), (xb, .inl (cI, 460, .inl (ftFill (ftBase ln kf pf lf att n (sf 0)) (mu.2.2.1 5) (ln + 60)))), (xp, .inl (cI, 460, .inl (ftPeaks (ftTn (ftCF w).2.1) (ftTn (ftCF w).2.2) (ftTn (ftCG w).2.1) (ftTn (ftCG w).2.2.1) ((R9).1) ((G9).1) (ftCW w) (ftCD w) (ln + 60) (mu.2.2.1 6)))), (xn, .inl (cI, 460, .inl (ftFill (ftNoise (sf 3) (sf 5) (ftCP w)) (mu.2.2.1 7) (ln + 60)))), (xs, .inl (cI, 460, .inl V9)), (y0, .inr (7, [.ref r0, .ref r1, .ref r2, .ref r3, .ref r4, .ref r5, .ref r6, .ref r7, .int (nI ((E9).1)), .int (sf 9)])), (r0, .inl (cI, 30, .inl (ftGhosts ((E9).2.2) (sf 9) (sf 10) ((E9).1) 0))), (r1, .inl (cI, 30, .inl (ftGhosts ((E9).2.2) (sf 9) (sf 10) ((E9).1) 1))), (r2, .inl (cI, 30, .inl (ftGhosts ((E9).2.2) (sf 9) (sf 10) ((E9).1) 2))), (r3, .inl (cI, 30, .inl (ftGhosts ((E9).2.2) (sf 9) (sf 10) ((E9).1) 3))), (r4, .inl (cI, 30, .inl (ftGhosts ((E9).2.2) (sf 9) (sf 10) ((E9).1) 4))), (r5, .inl (cI, 30, .inl (ftGhosts ((E9).2.2) (sf 9) (sf 10) ((E9).1) 5))), (r6, .inl (cI, 30, .inl (ftGhosts ((E9).2.2) (sf 9) (sf 10) ((E9).1) 6))), (r7, .inl (cI, 30, .inl (ftGhosts ((E9).2.2) (sf 9) (sf 10) ((E9).1) 7)))] H := hP
  have hD : va_D A [(o0, .inr (10, [.ref t0, .ref h0, .ref tt, .ref kt, .ref cp, .ref n0, .ref c0, .ref x0, .ref y0, .ref ts, .int me])), (t0, .inr (8, [.ref l0, .ref g0, .int (nI ke)])), (l0, .inr (4, [.int (nI ln), .int att, .int en, .int (nI n), .ref ak, .ref ap, .ref al, .ref ar])), (ak, .inl (cI, 10, .inl kf)), (ap, .inl (cI, 10, .inl pf)), (al, .inl (cI, 10, .inl lf)), (ar, .inl (cI, 10, .inl rf)), (s0, .inl (cI, 11, .inl sf)), (n0, .inr (6, [.int (ftIte ((mu.2.1 2) = nI (ln + 60) ∧ (mu.2.1 3) = sf 3 ∧ (mu.2.1 4) = sf 4 ∧ (mu.2.1 5) = sf 5) (mu.2.1 0) (ftNzs (sf 3) (sf 5) (ftCP w) (ln + 60))), .int (ftIte ((mu.2.1 2) = nI (ln + 60) ∧ (mu.2.1 3) = sf 3 ∧ (mu.2.1 4) = sf 4 ∧ (mu.2.1 5) = sf 5) (mu.2.1 1) (sf 3))])), (c0, .inr (1, [.ref ep, .ref eh, .int (nI ((R9).1)), .ref ef, .ref es, .ref eg, .int (nI ((G9).1))])), (ep, .inl (cI, 11, .inl ((R9).2.1))), (eh, .inl (cI, 11, .inl ((R9).2.2))), (ef, .inl (cI, 55, .inl ((G9).2.1))), (es, .inl (cI, 55, .inl ((G9).2.2.1))), (eg, .inl (cI, 55, .inl ((G9).2.2.2))), (x0, .inr (9, [.ref xb, .ref xp, .ref xn, .ref xs, .int (nI (ln + 60)), .int (nI (ln + 60)), .int (sf 3), .int (sf 4), .int (sf 5)])), (xb, .inl (cI, 460, .inl (ftFill (ftBase ln kf pf lf att n (sf 0)) (mu.2.2.1 5) (ln + 60)))), (xp, .inl (cI, 460, .inl (ftPeaks (ftTn (ftCF w).2.1) (ftTn (ftCF w).2.2) (ftTn (ftCG w).2.1) (ftTn (ftCG w).2.2.1) ((R9).1) ((G9).1) (ftCW w) (ftCD w) (ln + 60) (mu.2.2.1 6)))), (xn, .inl (cI, 460, .inl (ftFill (ftNoise (sf 3) (sf 5) (ftCP w)) (mu.2.2.1 7) (ln + 60)))), (xs, .inl (cI, 460, .inl V9)), (y0, .inr (7, [.ref r0, .ref r1, .ref r2, .ref r3, .ref r4, .ref r5, .ref r6, .ref r7, .int (nI ((E9).1)), .int (sf 9)])), (r0, .inl (cI, 30, .inl (ftGhosts ((E9).2.2) (sf 9) (sf 10) ((E9).1) 0))), (r1, .inl (cI, 30, .inl (ftGhosts ((E9).2.2) (sf 9) (sf 10) ((E9).1) 1))), (r2, .inl (cI, 30, .inl (ftGhosts ((E9).2.2) (sf 9) (sf 10) ((E9).1) 2))), (r3, .inl (cI, 30, .inl (ftGhosts ((E9).2.2) (sf 9) (sf 10) ((E9).1) 3))), (r4, .inl (cI, 30, .inl (ftGhosts ((E9).2.2) (sf 9) (sf 10) ((E9).1) 4))), (r5, .inl (cI, 30, .inl (ftGhosts ((E9).2.2) (sf 9) (sf 10) ((E9).1) 5))), (r6, .inl (cI, 30, .inl (ftGhosts ((E9).2.2) (sf 9) (sf 10) ((E9).1) 6))), (r7, .inl (cI, 30, .inl (ftGhosts ((E9).2.2) (sf 9) (sf 10) ((E9).1) 7)))] := hD
  obtain ⟨u9, hu9⟩ : ∃ u9 : ftUm, u9 = ((fun k => match k with | 0 => (R9).1 | 1 => (G9).1 | 2 => ln + 60 | _ => (E9).1), (fun k => match k with | 0 => (ftIte ((mu.2.1 2) = nI (ln + 60) ∧ (mu.2.1 3) = sf 3 ∧ (mu.2.1 4) = sf 4 ∧ (mu.2.1 5) = sf 5) (mu.2.1 0) (ftNzs (sf 3) (sf 5) (ftCP w) (ln + 60))) | 1 => (ftIte ((mu.2.1 2) = nI (ln + 60) ∧ (mu.2.1 3) = sf 3 ∧ (mu.2.1 4) = sf 4 ∧ (mu.2.1 5) = sf 5) (mu.2.1 1) (sf 3)) | 2 => (nI (ln + 60)) | 3 => (sf 3) | 4 => (sf 4) | 5 => (sf 5) | _ => (sf 9)), (fun k => match k with | 0 => ((R9).2.1) | 1 => ((R9).2.2) | 2 => ((G9).2.1) | 3 => ((G9).2.2.1) | 4 => ((G9).2.2.2) | 5 => (ftFill (ftBase ln kf pf lf att n (sf 0)) (mu.2.2.1 5) (ln + 60)) | 6 => (ftPeaks (ftTn (ftCF w).2.1) (ftTn (ftCF w).2.2) (ftTn (ftCG w).2.1) (ftTn (ftCG w).2.2.1) ((R9).1) ((G9).1) (ftCW w) (ftCD w) (ln + 60) (mu.2.2.1 6)) | 7 => (ftFill (ftNoise (sf 3) (sf 5) (ftCP w)) (mu.2.2.1 7) (ln + 60)) | _ => V9), ftGhosts E9.2.2 (sf 9) (sf 10) E9.1) := ⟨_, rfl⟩
  have hw9 : ([(o0, .inr (10, [.ref t0, .ref h0, .ref tt, .ref kt, .ref cp, .ref n0, .ref c0, .ref x0, .ref y0, .ref ts, .int me])), (t0, .inr (8, [.ref l0, .ref g0, .int (nI ke)])), (l0, .inr (4, [.int (nI ln), .int att, .int en, .int (nI n), .ref ak, .ref ap, .ref al, .ref ar])), (ak, .inl (cI, 10, .inl kf)), (ap, .inl (cI, 10, .inl pf)), (al, .inl (cI, 10, .inl lf)), (ar, .inl (cI, 10, .inl rf)), (s0, .inl (cI, 11, .inl sf)), (n0, .inr (6, [.int (ftIte ((mu.2.1 2) = nI (ln + 60) ∧ (mu.2.1 3) = sf 3 ∧ (mu.2.1 4) = sf 4 ∧ (mu.2.1 5) = sf 5) (mu.2.1 0) (ftNzs (sf 3) (sf 5) (ftCP w) (ln + 60))), .int (ftIte ((mu.2.1 2) = nI (ln + 60) ∧ (mu.2.1 3) = sf 3 ∧ (mu.2.1 4) = sf 4 ∧ (mu.2.1 5) = sf 5) (mu.2.1 1) (sf 3))])), (c0, .inr (1, [.ref ep, .ref eh, .int (nI ((R9).1)), .ref ef, .ref es, .ref eg, .int (nI ((G9).1))])), (ep, .inl (cI, 11, .inl ((R9).2.1))), (eh, .inl (cI, 11, .inl ((R9).2.2))), (ef, .inl (cI, 55, .inl ((G9).2.1))), (es, .inl (cI, 55, .inl ((G9).2.2.1))), (eg, .inl (cI, 55, .inl ((G9).2.2.2))), (x0, .inr (9, [.ref xb, .ref xp, .ref xn, .ref xs, .int (nI (ln + 60)), .int (nI (ln + 60)), .int (sf 3), .int (sf 4), .int (sf 5)])), (xb, .inl (cI, 460, .inl (ftFill (ftBase ln kf pf lf att n (sf 0)) (mu.2.2.1 5) (ln + 60)))), (xp, .inl (cI, 460, .inl (ftPeaks (ftTn (ftCF w).2.1) (ftTn (ftCF w).2.2) (ftTn (ftCG w).2.1) (ftTn (ftCG w).2.2.1) ((R9).1) ((G9).1) (ftCW w) (ftCD w) (ln + 60) (mu.2.2.1 6)))), (xn, .inl (cI, 460, .inl (ftFill (ftNoise (sf 3) (sf 5) (ftCP w)) (mu.2.2.1 7) (ln + 60)))), (xs, .inl (cI, 460, .inl V9)), (y0, .inr (7, [.ref r0, .ref r1, .ref r2, .ref r3, .ref r4, .ref r5, .ref r6, .ref r7, .int (nI ((E9).1)), .int (sf 9)])), (r0, .inl (cI, 30, .inl (ftGhosts ((E9).2.2) (sf 9) (sf 10) ((E9).1) 0))), (r1, .inl (cI, 30, .inl (ftGhosts ((E9).2.2) (sf 9) (sf 10) ((E9).1) 1))), (r2, .inl (cI, 30, .inl (ftGhosts ((E9).2.2) (sf 9) (sf 10) ((E9).1) 2))), (r3, .inl (cI, 30, .inl (ftGhosts ((E9).2.2) (sf 9) (sf 10) ((E9).1) 3))), (r4, .inl (cI, 30, .inl (ftGhosts ((E9).2.2) (sf 9) (sf 10) ((E9).1) 4))), (r5, .inl (cI, 30, .inl (ftGhosts ((E9).2.2) (sf 9) (sf 10) ((E9).1) 5))), (r6, .inl (cI, 30, .inl (ftGhosts ((E9).2.2) (sf 9) (sf 10) ((E9).1) 6))), (r7, .inl (cI, 30, .inl (ftGhosts ((E9).2.2) (sf 9) (sf 10) ((E9).1) 7)))] : va_W) = [(o0, .inr (10, [.ref t0, .ref h0, .ref tt, .ref kt, .ref cp, .ref n0, .ref c0, .ref x0, .ref y0, .ref ts, .int me])), (t0, .inr (8, [.ref l0, .ref g0, .int (nI ke)])), (l0, .inr (4, [.int (nI ln), .int att, .int en, .int (nI n), .ref ak, .ref ap, .ref al, .ref ar])), (ak, .inl (cI, 10, .inl kf)), (ap, .inl (cI, 10, .inl pf)), (al, .inl (cI, 10, .inl lf)), (ar, .inl (cI, 10, .inl rf)), (s0, .inl (cI, 11, .inl sf)), (n0, .inr (6, [.int (u9.2.1 0), .int (u9.2.1 1)])), (c0, .inr (1, [.ref ep, .ref eh, .int (nI (u9.1 0)), .ref ef, .ref es, .ref eg, .int (nI (u9.1 1))])), (ep, .inl (cI, 11, .inl (u9.2.2.1 0))), (eh, .inl (cI, 11, .inl (u9.2.2.1 1))), (ef, .inl (cI, 55, .inl (u9.2.2.1 2))), (es, .inl (cI, 55, .inl (u9.2.2.1 3))), (eg, .inl (cI, 55, .inl (u9.2.2.1 4))), (x0, .inr (9, [.ref xb, .ref xp, .ref xn, .ref xs, .int (nI (u9.1 2)), .int (u9.2.1 2), .int (u9.2.1 3), .int (u9.2.1 4), .int (u9.2.1 5)])), (xb, .inl (cI, 460, .inl (u9.2.2.1 5))), (xp, .inl (cI, 460, .inl (u9.2.2.1 6))), (xn, .inl (cI, 460, .inl (u9.2.2.1 7))), (xs, .inl (cI, 460, .inl (u9.2.2.1 8))), (y0, .inr (7, [.ref r0, .ref r1, .ref r2, .ref r3, .ref r4, .ref r5, .ref r6, .ref r7, .int (nI (u9.1 3)), .int (u9.2.1 6)])), (r0, .inl (cI, 30, .inl (u9.2.2.2 0))), (r1, .inl (cI, 30, .inl (u9.2.2.2 1))), (r2, .inl (cI, 30, .inl (u9.2.2.2 2))), (r3, .inl (cI, 30, .inl (u9.2.2.2 3))), (r4, .inl (cI, 30, .inl (u9.2.2.2 4))), (r5, .inl (cI, 30, .inl (u9.2.2.2 5))), (r6, .inl (cI, 30, .inl (u9.2.2.2 6))), (r7, .inl (cI, 30, .inl (u9.2.2.2 7)))] := by subst hu9; rfl
  rw [hw9] at hP hD
  have hf9_0 : ftMs w u9 := by rw [hu9]; exact ⟨by show ln + 60 = _; rw [hcl], fun x hx => hrows x (by omega), hG10, hsf 9 (by omega), hRd⟩
  have hf9_1 : ftNc u9 := by rw [hu9]; exact ftNc_of (M := ln + 60) (by omega) (ftWf_pu2 hWf) rfl hpu (fun x hx => ftFill_at hx)
  exact W.vret hx hb hr (fun t ht hW => ⟨⟨u9, rfl, ⟨hf9_0, hf9_1⟩, by rw [ht]; exact hP, by rw [hAe]; exact hD⟩, by rw [hAe]; exact hS.F ht⟩) hS.2.2 dX10_measureWith_77
end
section
/-! measured or not -/
def ftMi (w : Nat → Int32) (fl : Int32) (mu : ftUm) : Prop := (fl = 0 ∨ fl = 1) ∧ (¬ fl = 0 → ftMs w mu) ∧ ftNc mu
theorem ft_tp {w : Nat → Int32} {ln : Nat} {x : Int32} (hcl : ftCL w = ln) (hln : ln ≤ 400) : (0 ≤ x ∧ x ≤ nI ln + 60 - 1) ↔ (0 ≤ x ∧ x ≤ nI (ftCL w + 60 - 1)) := by
  have e : nI ln + 60 - 1 = nI (ftCL w + 60 - 1) := by
    rw [hcl, show nI ln + 60 = nI (ln + 60) from ft_addN ln 60]
    exact ft_subN (b := 1) (by omega)
  rw [e]
theorem ft_tpk {K : Nat} {x : Int32} (hK : 0 < K) (hK2 : K < 2 ^ 31) (h : 0 ≤ x ∧ x ≤ nI (K - 1)) : ∃ k, x = nI k ∧ k < K := by
  obtain ⟨e1, e2⟩ := ftI_nat h.1
  have h2 := h.2
  rw [e1] at h2
  have := ft_leN e2 (by omega) h2
  exact ⟨_, e1, by omega⟩
theorem ft_tpz {K : Nat} {x : Int32} (hK2 : K < 2 ^ 31) (h : 0 ≤ x ∧ x ≤ nI K - 1) : ∃ k, x = nI k ∧ k < K := by
  rcases Nat.eq_zero_or_pos K with q | q
  · subst q
    exact absurd (Int32.le_trans h.1 h.2) (by decide)
  · rw [show nI K - 1 = nI (K - 1) from ft_subN (b := 1) q] at h
    exact ft_tpk q hK2 h
theorem ft_orn {v : Int32} (h : v = -1 ∨ ∃ t, t < 2 ^ 31 ∧ v = nI t) : (if v = -1 then (-1000004 : Int32) else v) = if v < 0 then -1000004 else v := by
  rcases h with q | ⟨t, ht, q⟩
  · subst q; decide
  · subst q
    rw [if_neg (ft_nIm1 ht), if_neg (nI_pos ht)]
/-- the part of w's events that the class's rows say -/
def ftEv6 (w : Nat → Int32) (k : Nat) (ro : Nat → Nat → Int32) : Prop := k = (ftCE w).1 ∧ k ≤ 30 ∧ ∀ t, t < k → ∀ c, c < 6 → ro c t = (ftCE w).2.2 c t
theorem ftEv6_of {w : Nat → Int32} (hf : ftWf w) {k : Nat} {ro : Nat → Nat → Int32} (h : ftRdd w k ro) : ftEv6 w k ro := by
  obtain ⟨h1, h2, h3⟩ := ftErel_rdd hf h
  exact ⟨h1, h2, fun t ht => (h3 t ht).1⟩
theorem ftCov_w {w : Nat → Int32} {k : Nat} {ro : Nat → Nat → Int32} (h : ftEv6 w k ro) (x : Int32) : ftCov ro k x = ftCOn w x := by
  unfold ftCov ftCOn ftOnM
  rw [← h.1]
  exact ftFst_cong k (fun t ht => by rw [h.2.2 t ht 0 (by omega), h.2.2 t ht 1 (by omega)])
theorem ftFst_v (P : Nat → Prop) {k : Nat} (hk : k < 2 ^ 31) : ftFst P k = -1 ∨ ∃ t, t < 2 ^ 31 ∧ ftFst P k = nI t := by
  rcases ftFst_c P k hk with ⟨q, -⟩ | ⟨t, h1, -, h3⟩
  · exact Or.inl q
  · exact Or.inr ⟨t, by omega, h3⟩
/-- kinds of events; how many are the end -/
def ftKv (q : ftRs) : Prop := (∀ t, t < q.1 → q.2.2 4 t = 0 ∨ q.2.2 4 t = 1 ∨ q.2.2 4 t = 2 ∨ q.2.2 4 t = 3) ∧ ftCount (fun t => q.2.2 4 t = 3) q.1 = if q.2.1 = 0 then 0 else 1
theorem ftEvK_v (rb en : Int32) : (en = 0 ∧ (ftEvK rb en = 0 ∨ ftEvK rb en = 1)) ∨ (¬ en = 0 ∧ ftEvK rb en = 3) := by
  unfold ftEvK
  by_cases h : en = 0
  · rw [if_pos h]
    by_cases r : rb = 0
    · rw [if_pos r]; exact Or.inl ⟨h, Or.inl rfl⟩
    · rw [if_neg r]; exact Or.inl ⟨h, Or.inr rfl⟩
  · rw [if_neg h]; exact Or.inr ⟨h, rfl⟩
theorem ftEvQ_k {v : Nat → Int32} {tl gl : Int32} {x y : Nat} {rb en : Int32} {q : ftRs} : (en = 0 ∧ ((ftEvQ v tl gl x y rb en q).2.2 4 q.1 = 0 ∨ (ftEvQ v tl gl x y rb en q).2.2 4 q.1 = 1 ∨ (ftEvQ v tl gl x y rb en q).2.2 4 q.1 = 2)) ∨ (¬ en = 0 ∧ (ftEvQ v tl gl x y rb en q).2.2 4 q.1 = 3) := by
  have hn : ∀ O : Option (Nat × Nat), O = none → (ftEvS v O x y rb en q).2.2 4 q.1 = ftEvK rb en := by
    intro O h
    subst h
    show upd (q.2.2 4) q.1 (ftEvK rb en) q.1 = _
    exact ftUpd_at0
  have hs : ∀ O : Option (Nat × Nat), (∃ z, O = some z) → (ftEvS v O x y rb en q).2.2 4 q.1 = 2 := by
    rintro O ⟨z, h⟩
    subst h
    show upd (q.2.2 4) q.1 2 q.1 = _
    exact ftUpd_at0
  unfold ftEvQ
  have hE := ftEvK_v rb en
  by_cases c : ftEvK rb en = 1 ∧ ftAbs (v (x - 1) - v y) ≤ gl
  · have e0 : en = 0 := by
      rcases hE with q | q
      · exact q.1
      · rw [q.2] at c; exact absurd c.1 (by decide)
    refine Or.inl ⟨e0, ?_⟩
    cases hO : ftEvO v tl gl x y rb en q with
    | none => rw [hn _ rfl, c.1]; exact Or.inr (Or.inl rfl)
    | some z => rw [hs _ ⟨z, rfl⟩]; exact Or.inr (Or.inr rfl)
  · rw [hn _ (ftEvO_f c)]
    rcases hE with ⟨q1, q2 | q2⟩ | ⟨q1, q2⟩
    · exact Or.inl ⟨q1, Or.inl q2⟩
    · exact Or.inl ⟨q1, Or.inr (Or.inl q2)⟩
    · exact Or.inr ⟨q1, q2⟩
theorem ftKv_step {v : Nat → Int32} {tl gl : Int32} {x y : Nat} {rb en : Int32} {q : ftRs} (h : ftKv q) (h0 : q.2.1 = 0) : ftKv (ftEvQ v tl gl x y rb en q) := by
  have hk := ftEvQ_k (v := v) (tl := tl) (gl := gl) (x := x) (y := y) (rb := rb) (en := en) (q := q)
  have hold : ∀ t, t < q.1 → (ftEvQ v tl gl x y rb en q).2.2 4 t = q.2.2 4 t := fun t ht => ftEvS_at (by omega)
  have hc : ftCount (fun t => (ftEvQ v tl gl x y rb en q).2.2 4 t = 3) q.1 = 0 := by
    rw [ftCount_cong q.1 (fun t ht => by rw [hold t ht] : ∀ t, t < q.1 → ((ftEvQ v tl gl x y rb en q).2.2 4 t = 3 ↔ q.2.2 4 t = 3)), h.2, if_pos h0]
  refine ⟨fun t ht => ?_, ?_⟩
  · have ht : t < q.1 + 1 := ht
    rcases Nat.lt_succ_iff_lt_or_eq.mp ht with r | r
    · rw [hold t r]; exact h.1 t r
    · subst r
      rcases hk with ⟨-, r | r | r⟩ | ⟨-, r⟩
      · exact Or.inl r
      · exact Or.inr (Or.inl r)
      · exact Or.inr (Or.inr (Or.inl r))
      · exact Or.inr (Or.inr (Or.inr r))
  · show ftCount (fun t => (ftEvQ v tl gl x y rb en q).2.2 4 t = 3) (q.1 + 1) = if en = 0 then 0 else 1
    rw [ftCount, hc]
    rcases hk with ⟨e, r⟩ | ⟨e, r⟩
    · rw [if_pos e, ftB_f (by rcases r with r | r | r <;> (rw [r]; decide))]; rfl
    · rw [if_neg e, ftB_t r]; rfl
theorem ftKv_run {v : Nat → Int32} {N w : Nat} {ri st fl tl gl : Int32} : ∀ (f x : Nat) (q : ftRs), ftKv q → ftKv (ftRdM v N w ri st fl tl gl f x q) := by
  intro f
  induction f with
  | zero => intro x q h; exact h
  | succ f ih =>
    intro x q h
    rw [ftRdM]
    split
    · rename_i c
      split
      · exact ih _ _ (ftKv_step h c.2.2)
      · split
        · exact ih _ _ (ftKv_step h c.2.2)
        · exact ih _ _ h
    · exact h
theorem ftKv_ce (w : Nat → Int32) : ftKv (ftCE w) := ftKv_run _ _ _ ⟨fun t h => absurd h (Nat.not_lt_zero t), rfl⟩
theorem ftK3 (w : Nat → Int32) : ∀ t, t < (ftCE w).1 → (¬ (ftCE w).2.2 4 t = 3 ↔ (ftCE w).2.2 4 t < 3) := by
  intro t ht
  rcases (ftKv_ce w).1 t ht with q | q | q | q <;> (rw [q]; decide)
theorem ftWorst_w {w : Nat → Int32} {k : Nat} {ro : Nat → Nat → Int32} (h : ftEv6 w k ro) : ∀ m, m ≤ k → (ftWorst ro m = -1 ∧ ftWo (ftCE w) m = -1000004) ∨ ∃ b, b < m ∧ ftWorst ro m = nI b ∧ ftWo (ftCE w) m = nI b := by
  intro m
  induction m with
  | zero => intro _; exact Or.inl ⟨rfl, rfl⟩
  | succ m ih =>
    intro hm
    have e4 : ro 4 m = (ftCE w).2.2 4 m := h.2.2 m (by omega) 4 (by omega)
    have e2 : ro 2 m = (ftCE w).2.2 2 m := h.2.2 m (by omega) 2 (by omega)
    have hk := ftK3 w m (by rw [← h.1]; omega)
    have h30 := h.2.1
    rw [ftWorst, ftWo, e4, e2]
    rcases ih (by omega) with ⟨a1, a2⟩ | ⟨b, b1, b2, b3⟩
    · rw [a1, a2]
      by_cases c : (ftCE w).2.2 4 m < 3
      · rw [if_pos ⟨hk.mpr c, Or.inl rfl⟩, if_pos ⟨c, Or.inl (by decide)⟩]
        exact Or.inr ⟨m, by omega, rfl, rfl⟩
      · rw [if_neg (fun q => c (hk.mp q.1)), if_neg (fun q => c q.1)]
        exact Or.inl ⟨rfl, rfl⟩
    · have eb : ftAt 30 (ro 2) (nI b) = (ftCE w).2.2 2 b := by
        rw [ftAt_N (k := b) (by omega) (by omega)]
        exact h.2.2 b (by omega) 2 (by omega)
      rw [b2, b3, eb, nI_clamp (show b < 2 ^ 31 by omega)]
      by_cases c : (ftCE w).2.2 4 m < 3 ∧ (ftCE w).2.2 2 b < (ftCE w).2.2 2 m
      · rw [if_pos ⟨hk.mpr c.1, Or.inr c.2⟩, if_pos ⟨c.1, Or.inr c.2⟩]
        exact Or.inr ⟨m, by omega, rfl, rfl⟩
      · rw [if_neg (fun q => c ⟨hk.mp q.1, q.2.resolve_left (ft_nIm1 (by omega))⟩), if_neg (fun q => c ⟨q.1, q.2.resolve_left (nI_pos (by omega))⟩)]
        exact Or.inr ⟨b, by omega, rfl, rfl⟩
theorem ftWorst_or {w : Nat → Int32} {k : Nat} {ro : Nat → Nat → Int32} (h : ftEv6 w k ro) : (if ftWorst ro k = -1 then -1000004 else ftWorst ro k) = ftWo (ftCE w) (ftCE w).1 := by
  have h30 := h.2.1
  rw [← h.1]
  rcases ftWorst_w h k (Nat.le_refl k) with ⟨a1, a2⟩ | ⟨b, b1, b2, b3⟩
  · rw [a1, a2, if_pos rfl]
  · rw [b2, b3, if_neg (ft_nIm1 (by omega))]
end
section
set_option maxHeartbeats 4000000 in
set_option maxRecDepth 100000 in
theorem c_X10_measure (l : Launch) (D : va_G) (cI cS : ClassId) (sz : Nat) (o0 t0 h0 tt kt cp n0 c0 x0 y0 ts : Nat) (mef9 : Int32) (l0 g0 ke : Nat) (ln : Nat) (att en : Int32) (n ak ap al ar : Nat) (ep eh ef es eg xb xp xn xs r0 r1 r2 r3 r4 r5 r6 r7 : Nat) (kf pf lf rf : Nat → Int32) (sf : Nat → Int32) (mu : ftUm) (w : Nat → Int32) (hWf : ftWf w) (hL : ftLR w (nI ln) att en n kf pf lf rf) (hln : ln ≤ 400) (hsf : ∀ j, j < 11 → sf j = w (44 + j)) (hmi : ftMi w mef9 mu) : Met l yX10_measure wsX10_measure ({ frames := 5, cells := 0, slots := 0, locals := 130 }) (ftRW D cI cS [.ref o0] [(o0, .inr (10, [.ref t0, .ref h0, .ref tt, .ref kt, .ref cp, .ref n0, .ref c0, .ref x0, .ref y0, .ref ts, .int mef9])), (t0, .inr (8, [.ref l0, .ref g0, .int (nI ke)])), (l0, .inr (4, [.int (nI ln), .int att, .int en, .int (nI n), .ref ak, .ref ap, .ref al, .ref ar])), (ak, .inl (cI, 10, .inl kf)), (ap, .inl (cI, 10, .inl pf)), (al, .inl (cI, 10, .inl lf)), (ar, .inl (cI, 10, .inl rf)), (g0, .inl (cI, 11, .inl sf)), (n0, .inr (6, [.int (mu.2.1 0), .int (mu.2.1 1)])), (c0, .inr (1, [.ref ep, .ref eh, .int (nI (mu.1 0)), .ref ef, .ref es, .ref eg, .int (nI (mu.1 1))])), (ep, .inl (cI, 11, .inl (mu.2.2.1 0))), (eh, .inl (cI, 11, .inl (mu.2.2.1 1))), (ef, .inl (cI, 55, .inl (mu.2.2.1 2))), (es, .inl (cI, 55, .inl (mu.2.2.1 3))), (eg, .inl (cI, 55, .inl (mu.2.2.1 4))), (x0, .inr (9, [.ref xb, .ref xp, .ref xn, .ref xs, .int (nI (mu.1 2)), .int (mu.2.1 2), .int (mu.2.1 3), .int (mu.2.1 4), .int (mu.2.1 5)])), (xb, .inl (cI, 460, .inl (mu.2.2.1 5))), (xp, .inl (cI, 460, .inl (mu.2.2.1 6))), (xn, .inl (cI, 460, .inl (mu.2.2.1 7))), (xs, .inl (cI, 460, .inl (mu.2.2.1 8))), (y0, .inr (7, [.ref r0, .ref r1, .ref r2, .ref r3, .ref r4, .ref r5, .ref r6, .ref r7, .int (nI (mu.1 3)), .int (mu.2.1 6)])), (r0, .inl (cI, 30, .inl (mu.2.2.2 0))), (r1, .inl (cI, 30, .inl (mu.2.2.2 1))), (r2, .inl (cI, 30, .inl (mu.2.2.2 2))), (r3, .inl (cI, 30, .inl (mu.2.2.2 3))), (r4, .inl (cI, 30, .inl (mu.2.2.2 4))), (r5, .inl (cI, 30, .inl (mu.2.2.2 5))), (r6, .inl (cI, 30, .inl (mu.2.2.2 6))), (r7, .inl (cI, 30, .inl (mu.2.2.2 7)))] sz) (ftXv D [(o0, .inr (10, [.ref t0, .ref h0, .ref tt, .ref kt, .ref cp, .ref n0, .ref c0, .ref x0, .ref y0, .ref ts, .int mef9])), (t0, .inr (8, [.ref l0, .ref g0, .int (nI ke)])), (l0, .inr (4, [.int (nI ln), .int att, .int en, .int (nI n), .ref ak, .ref ap, .ref al, .ref ar])), (ak, .inl (cI, 10, .inl kf)), (ap, .inl (cI, 10, .inl pf)), (al, .inl (cI, 10, .inl lf)), (ar, .inl (cI, 10, .inl rf)), (g0, .inl (cI, 11, .inl sf)), (n0, .inr (6, [.int (mu.2.1 0), .int (mu.2.1 1)])), (c0, .inr (1, [.ref ep, .ref eh, .int (nI (mu.1 0)), .ref ef, .ref es, .ref eg, .int (nI (mu.1 1))])), (ep, .inl (cI, 11, .inl (mu.2.2.1 0))), (eh, .inl (cI, 11, .inl (mu.2.2.1 1))), (ef, .inl (cI, 55, .inl (mu.2.2.1 2))), (es, .inl (cI, 55, .inl (mu.2.2.1 3))), (eg, .inl (cI, 55, .inl (mu.2.2.1 4))), (x0, .inr (9, [.ref xb, .ref xp, .ref xn, .ref xs, .int (nI (mu.1 2)), .int (mu.2.1 2), .int (mu.2.1 3), .int (mu.2.1 4), .int (mu.2.1 5)])), (xb, .inl (cI, 460, .inl (mu.2.2.1 5))), (xp, .inl (cI, 460, .inl (mu.2.2.1 6))), (xn, .inl (cI, 460, .inl (mu.2.2.1 7))), (xs, .inl (cI, 460, .inl (mu.2.2.1 8))), (y0, .inr (7, [.ref r0, .ref r1, .ref r2, .ref r3, .ref r4, .ref r5, .ref r6, .ref r7, .int (nI (mu.1 3)), .int (mu.2.1 6)])), (r0, .inl (cI, 30, .inl (mu.2.2.2 0))), (r1, .inl (cI, 30, .inl (mu.2.2.2 1))), (r2, .inl (cI, 30, .inl (mu.2.2.2 2))), (r3, .inl (cI, 30, .inl (mu.2.2.2 3))), (r4, .inl (cI, 30, .inl (mu.2.2.2 4))), (r5, .inl (cI, 30, .inl (mu.2.2.2 5))), (r6, .inl (cI, 30, .inl (mu.2.2.2 6))), (r7, .inl (cI, 30, .inl (mu.2.2.2 7)))] sz (fun (u : ftUm) => (ftMs w u) ∧ (ftNc u)) (fun (u : ftUm) => [(o0, .inr (10, [.ref t0, .ref h0, .ref tt, .ref kt, .ref cp, .ref n0, .ref c0, .ref x0, .ref y0, .ref ts, .int 1])), (t0, .inr (8, [.ref l0, .ref g0, .int (nI ke)])), (l0, .inr (4, [.int (nI ln), .int att, .int en, .int (nI n), .ref ak, .ref ap, .ref al, .ref ar])), (ak, .inl (cI, 10, .inl kf)), (ap, .inl (cI, 10, .inl pf)), (al, .inl (cI, 10, .inl lf)), (ar, .inl (cI, 10, .inl rf)), (g0, .inl (cI, 11, .inl sf)), (n0, .inr (6, [.int (u.2.1 0), .int (u.2.1 1)])), (c0, .inr (1, [.ref ep, .ref eh, .int (nI (u.1 0)), .ref ef, .ref es, .ref eg, .int (nI (u.1 1))])), (ep, .inl (cI, 11, .inl (u.2.2.1 0))), (eh, .inl (cI, 11, .inl (u.2.2.1 1))), (ef, .inl (cI, 55, .inl (u.2.2.1 2))), (es, .inl (cI, 55, .inl (u.2.2.1 3))), (eg, .inl (cI, 55, .inl (u.2.2.1 4))), (x0, .inr (9, [.ref xb, .ref xp, .ref xn, .ref xs, .int (nI (u.1 2)), .int (u.2.1 2), .int (u.2.1 3), .int (u.2.1 4), .int (u.2.1 5)])), (xb, .inl (cI, 460, .inl (u.2.2.1 5))), (xp, .inl (cI, 460, .inl (u.2.2.1 6))), (xn, .inl (cI, 460, .inl (u.2.2.1 7))), (xs, .inl (cI, 460, .inl (u.2.2.1 8))), (y0, .inr (7, [.ref r0, .ref r1, .ref r2, .ref r3, .ref r4, .ref r5, .ref r6, .ref r7, .int (nI (u.1 3)), .int (u.2.1 6)])), (r0, .inl (cI, 30, .inl (u.2.2.2 0))), (r1, .inl (cI, 30, .inl (u.2.2.2 1))), (r2, .inl (cI, 30, .inl (u.2.2.2 2))), (r3, .inl (cI, 30, .inl (u.2.2.2 3))), (r4, .inl (cI, 30, .inl (u.2.2.2 4))), (r5, .inl (cI, 30, .inl (u.2.2.2 5))), (r6, .inl (cI, 30, .inl (u.2.2.2 6))), (r7, .inl (cI, 30, .inl (u.2.2.2 7)))])) 0 0 (va_A [(o0, .inr (10, [.ref t0, .ref h0, .ref tt, .ref kt, .ref cp, .ref n0, .ref c0, .ref x0, .ref y0, .ref ts, .int mef9])), (t0, .inr (8, [.ref l0, .ref g0, .int (nI ke)])), (l0, .inr (4, [.int (nI ln), .int att, .int en, .int (nI n), .ref ak, .ref ap, .ref al, .ref ar])), (ak, .inl (cI, 10, .inl kf)), (ap, .inl (cI, 10, .inl pf)), (al, .inl (cI, 10, .inl lf)), (ar, .inl (cI, 10, .inl rf)), (g0, .inl (cI, 11, .inl sf)), (n0, .inr (6, [.int (mu.2.1 0), .int (mu.2.1 1)])), (c0, .inr (1, [.ref ep, .ref eh, .int (nI (mu.1 0)), .ref ef, .ref es, .ref eg, .int (nI (mu.1 1))])), (ep, .inl (cI, 11, .inl (mu.2.2.1 0))), (eh, .inl (cI, 11, .inl (mu.2.2.1 1))), (ef, .inl (cI, 55, .inl (mu.2.2.1 2))), (es, .inl (cI, 55, .inl (mu.2.2.1 3))), (eg, .inl (cI, 55, .inl (mu.2.2.1 4))), (x0, .inr (9, [.ref xb, .ref xp, .ref xn, .ref xs, .int (nI (mu.1 2)), .int (mu.2.1 2), .int (mu.2.1 3), .int (mu.2.1 4), .int (mu.2.1 5)])), (xb, .inl (cI, 460, .inl (mu.2.2.1 5))), (xp, .inl (cI, 460, .inl (mu.2.2.1 6))), (xn, .inl (cI, 460, .inl (mu.2.2.1 7))), (xs, .inl (cI, 460, .inl (mu.2.2.1 8))), (y0, .inr (7, [.ref r0, .ref r1, .ref r2, .ref r3, .ref r4, .ref r5, .ref r6, .ref r7, .int (nI (mu.1 3)), .int (mu.2.1 6)])), (r0, .inl (cI, 30, .inl (mu.2.2.2 0))), (r1, .inl (cI, 30, .inl (mu.2.2.2 1))), (r2, .inl (cI, 30, .inl (mu.2.2.2 2))), (r3, .inl (cI, 30, .inl (mu.2.2.2 3))), (r4, .inl (cI, 30, .inl (mu.2.2.2 4))), (r5, .inl (cI, 30, .inl (mu.2.2.2 5))), (r6, .inl (cI, 30, .inl (mu.2.2.2 6))), (r7, .inl (cI, 30, .inl (mu.2.2.2 7)))] sz) := by
  refine Met.ofW (cc := cX10_measure) (maxL := 1) (ret := none) (by decide) rfl ?_
  intro p e s m args below meth c s₁ B hml hv
  obtain ⟨rfl, hsz, hP, hKK, hD0⟩ := hv
  have hK := hKK.1
  have hx := B.exec
  have hb := B.bytes
  have hr := B.returns
  have hts := atoms_spec (ws := wsX10_measure) B.pre
  have hown : s.vm.findClass RX10 = some m.cls := findClass_of_methodNamed B.named
  have hlocks := B.notSynchronized
  subst hsz
  have hD := hD0.self (sz := s.heap.size)
  generalize hAe : va_A [(o0, .inr (10, [.ref t0, .ref h0, .ref tt, .ref kt, .ref cp, .ref n0, .ref c0, .ref x0, .ref y0, .ref ts, .int mef9])), (t0, .inr (8, [.ref l0, .ref g0, .int (nI ke)])), (l0, .inr (4, [.int (nI ln), .int att, .int en, .int (nI n), .ref ak, .ref ap, .ref al, .ref ar])), (ak, .inl (cI, 10, .inl kf)), (ap, .inl (cI, 10, .inl pf)), (al, .inl (cI, 10, .inl lf)), (ar, .inl (cI, 10, .inl rf)), (g0, .inl (cI, 11, .inl sf)), (n0, .inr (6, [.int (mu.2.1 0), .int (mu.2.1 1)])), (c0, .inr (1, [.ref ep, .ref eh, .int (nI (mu.1 0)), .ref ef, .ref es, .ref eg, .int (nI (mu.1 1))])), (ep, .inl (cI, 11, .inl (mu.2.2.1 0))), (eh, .inl (cI, 11, .inl (mu.2.2.1 1))), (ef, .inl (cI, 55, .inl (mu.2.2.1 2))), (es, .inl (cI, 55, .inl (mu.2.2.1 3))), (eg, .inl (cI, 55, .inl (mu.2.2.1 4))), (x0, .inr (9, [.ref xb, .ref xp, .ref xn, .ref xs, .int (nI (mu.1 2)), .int (mu.2.1 2), .int (mu.2.1 3), .int (mu.2.1 4), .int (mu.2.1 5)])), (xb, .inl (cI, 460, .inl (mu.2.2.1 5))), (xp, .inl (cI, 460, .inl (mu.2.2.1 6))), (xn, .inl (cI, 460, .inl (mu.2.2.1 7))), (xs, .inl (cI, 460, .inl (mu.2.2.1 8))), (y0, .inr (7, [.ref r0, .ref r1, .ref r2, .ref r3, .ref r4, .ref r5, .ref r6, .ref r7, .int (nI (mu.1 3)), .int (mu.2.1 6)])), (r0, .inl (cI, 30, .inl (mu.2.2.2 0))), (r1, .inl (cI, 30, .inl (mu.2.2.2 1))), (r2, .inl (cI, 30, .inl (mu.2.2.2 2))), (r3, .inl (cI, 30, .inl (mu.2.2.2 3))), (r4, .inl (cI, 30, .inl (mu.2.2.2 4))), (r5, .inl (cI, 30, .inl (mu.2.2.2 5))), (r6, .inl (cI, 30, .inl (mu.2.2.2 6))), (r7, .inl (cI, 30, .inl (mu.2.2.2 7)))] s.heap.size = A at hD ⊢
  have hA : ∀ q : Nat, s.heap.size ≤ q → A q := fun q h => by rw [← hAe]; exact Or.inr h
  have hS : va_S A s.heap s.heap [] := va_S.rf
  have hD : va_D A [(o0, .inr (10, [.ref t0, .ref h0, .ref tt, .ref kt, .ref cp, .ref n0, .ref c0, .ref x0, .ref y0, .ref ts, .int mef9])), (t0, .inr (8, [.ref l0, .ref g0, .int (nI ke)])), (l0, .inr (4, [.int (nI ln), .int att, .int en, .int (nI n), .ref ak, .ref ap, .ref al, .ref ar])), (ak, .inl (cI, 10, .inl kf)), (ap, .inl (cI, 10, .inl pf)), (al, .inl (cI, 10, .inl lf)), (ar, .inl (cI, 10, .inl rf)), (g0, .inl (cI, 11, .inl sf)), (n0, .inr (6, [.int (mu.2.1 0), .int (mu.2.1 1)])), (c0, .inr (1, [.ref ep, .ref eh, .int (nI (mu.1 0)), .ref ef, .ref es, .ref eg, .int (nI (mu.1 1))])), (ep, .inl (cI, 11, .inl (mu.2.2.1 0))), (eh, .inl (cI, 11, .inl (mu.2.2.1 1))), (ef, .inl (cI, 55, .inl (mu.2.2.1 2))), (es, .inl (cI, 55, .inl (mu.2.2.1 3))), (eg, .inl (cI, 55, .inl (mu.2.2.1 4))), (x0, .inr (9, [.ref xb, .ref xp, .ref xn, .ref xs, .int (nI (mu.1 2)), .int (mu.2.1 2), .int (mu.2.1 3), .int (mu.2.1 4), .int (mu.2.1 5)])), (xb, .inl (cI, 460, .inl (mu.2.2.1 5))), (xp, .inl (cI, 460, .inl (mu.2.2.1 6))), (xn, .inl (cI, 460, .inl (mu.2.2.1 7))), (xs, .inl (cI, 460, .inl (mu.2.2.1 8))), (y0, .inr (7, [.ref r0, .ref r1, .ref r2, .ref r3, .ref r4, .ref r5, .ref r6, .ref r7, .int (nI (mu.1 3)), .int (mu.2.1 6)])), (r0, .inl (cI, 30, .inl (mu.2.2.2 0))), (r1, .inl (cI, 30, .inl (mu.2.2.2 1))), (r2, .inl (cI, 30, .inl (mu.2.2.2 2))), (r3, .inl (cI, 30, .inl (mu.2.2.2 3))), (r4, .inl (cI, 30, .inl (mu.2.2.2 4))), (r5, .inl (cI, 30, .inl (mu.2.2.2 5))), (r6, .inl (cI, 30, .inl (mu.2.2.2 6))), (r7, .inl (cI, 30, .inl (mu.2.2.2 7)))] := hD
  have hP : va_P D vwCl [(o0, .inr (10, [.ref t0, .ref h0, .ref tt, .ref kt, .ref cp, .ref n0, .ref c0, .ref x0, .ref y0, .ref ts, .int mef9])), (t0, .inr (8, [.ref l0, .ref g0, .int (nI ke)])), (l0, .inr (4, [.int (nI ln), .int att, .int en, .int (nI n), .ref ak, .ref ap, .ref al, .ref ar])), (ak, .inl (cI, 10, .inl kf)), (ap, .inl (cI, 10, .inl pf)), (al, .inl (cI, 10, .inl lf)), (ar, .inl (cI, 10, .inl rf)), (g0, .inl (cI, 11, .inl sf)), (n0, .inr (6, [.int (mu.2.1 0), .int (mu.2.1 1)])), (c0, .inr (1, [.ref ep, .ref eh, .int (nI (mu.1 0)), .ref ef, .ref es, .ref eg, .int (nI (mu.1 1))])), (ep, .inl (cI, 11, .inl (mu.2.2.1 0))), (eh, .inl (cI, 11, .inl (mu.2.2.1 1))), (ef, .inl (cI, 55, .inl (mu.2.2.1 2))), (es, .inl (cI, 55, .inl (mu.2.2.1 3))), (eg, .inl (cI, 55, .inl (mu.2.2.1 4))), (x0, .inr (9, [.ref xb, .ref xp, .ref xn, .ref xs, .int (nI (mu.1 2)), .int (mu.2.1 2), .int (mu.2.1 3), .int (mu.2.1 4), .int (mu.2.1 5)])), (xb, .inl (cI, 460, .inl (mu.2.2.1 5))), (xp, .inl (cI, 460, .inl (mu.2.2.1 6))), (xn, .inl (cI, 460, .inl (mu.2.2.1 7))), (xs, .inl (cI, 460, .inl (mu.2.2.1 8))), (y0, .inr (7, [.ref r0, .ref r1, .ref r2, .ref r3, .ref r4, .ref r5, .ref r6, .ref r7, .int (nI (mu.1 3)), .int (mu.2.1 6)])), (r0, .inl (cI, 30, .inl (mu.2.2.2 0))), (r1, .inl (cI, 30, .inl (mu.2.2.2 1))), (r2, .inl (cI, 30, .inl (mu.2.2.2 2))), (r3, .inl (cI, 30, .inl (mu.2.2.2 3))), (r4, .inl (cI, 30, .inl (mu.2.2.2 4))), (r5, .inl (cI, 30, .inl (mu.2.2.2 5))), (r6, .inl (cI, 30, .inl (mu.2.2.2 6))), (r7, .inl (cI, 30, .inl (mu.2.2.2 7)))] s.heap := hP
  have hl := lv_entry ([.ref o0]) (n := 1) (Nat.le_of_ble_eq_true rfl)
  rw [lg_entry_eq]
  generalize (lg_sl ([.ref o0]) ++ List.replicate (1 - (lg_sl ([.ref o0])).length) Slot.unset).toArray = ls at hl ⊢
  have hl : lv_has ls 1 [(0, .ref o0)] := hl
  refine lv_aload_n hx hb dX10_measure_0 rfl (lv_at hl 0 rfl) ?_
  refine va_get (D := D) (ci := 10) (v := .int mef9) (C := RX10) (T := TX10) (N := 11) hx hb hts (by decide +kernel) hown hK hP 0 rfl rfl 10 (by decide) (hts (.fieldLink RX10 76 "FiberTrace" "measured" "Z") (by decide +kernel)) (fun _ h9 => h9) rfl dX10_measure_1 ?_
  refine lv_if_ne (tgt := 23) hx hb dX10_measure_4 (by decide) (fun c4 => ?_) (fun c4 => ?_)
  · have hm1 : mef9 = 1 := hmi.1.resolve_left c4
    have hms0 := hmi.2.1 c4
    subst hm1
    obtain ⟨v9, hv9⟩ : ∃ v9 : ftUm, v9 = mu := ⟨_, rfl⟩
    obtain ⟨u9, hu9⟩ : ∃ u9 : ftUm, u9 = v9 := ⟨_, rfl⟩
    have hw9 : ([(o0, .inr (10, [.ref t0, .ref h0, .ref tt, .ref kt, .ref cp, .ref n0, .ref c0, .ref x0, .ref y0, .ref ts, .int 1])), (t0, .inr (8, [.ref l0, .ref g0, .int (nI ke)])), (l0, .inr (4, [.int (nI ln), .int att, .int en, .int (nI n), .ref ak, .ref ap, .ref al, .ref ar])), (ak, .inl (cI, 10, .inl kf)), (ap, .inl (cI, 10, .inl pf)), (al, .inl (cI, 10, .inl lf)), (ar, .inl (cI, 10, .inl rf)), (g0, .inl (cI, 11, .inl sf)), (n0, .inr (6, [.int (mu.2.1 0), .int (mu.2.1 1)])), (c0, .inr (1, [.ref ep, .ref eh, .int (nI (mu.1 0)), .ref ef, .ref es, .ref eg, .int (nI (mu.1 1))])), (ep, .inl (cI, 11, .inl (mu.2.2.1 0))), (eh, .inl (cI, 11, .inl (mu.2.2.1 1))), (ef, .inl (cI, 55, .inl (mu.2.2.1 2))), (es, .inl (cI, 55, .inl (mu.2.2.1 3))), (eg, .inl (cI, 55, .inl (mu.2.2.1 4))), (x0, .inr (9, [.ref xb, .ref xp, .ref xn, .ref xs, .int (nI (mu.1 2)), .int (mu.2.1 2), .int (mu.2.1 3), .int (mu.2.1 4), .int (mu.2.1 5)])), (xb, .inl (cI, 460, .inl (mu.2.2.1 5))), (xp, .inl (cI, 460, .inl (mu.2.2.1 6))), (xn, .inl (cI, 460, .inl (mu.2.2.1 7))), (xs, .inl (cI, 460, .inl (mu.2.2.1 8))), (y0, .inr (7, [.ref r0, .ref r1, .ref r2, .ref r3, .ref r4, .ref r5, .ref r6, .ref r7, .int (nI (mu.1 3)), .int (mu.2.1 6)])), (r0, .inl (cI, 30, .inl (mu.2.2.2 0))), (r1, .inl (cI, 30, .inl (mu.2.2.2 1))), (r2, .inl (cI, 30, .inl (mu.2.2.2 2))), (r3, .inl (cI, 30, .inl (mu.2.2.2 3))), (r4, .inl (cI, 30, .inl (mu.2.2.2 4))), (r5, .inl (cI, 30, .inl (mu.2.2.2 5))), (r6, .inl (cI, 30, .inl (mu.2.2.2 6))), (r7, .inl (cI, 30, .inl (mu.2.2.2 7)))] : va_W) = [(o0, .inr (10, [.ref t0, .ref h0, .ref tt, .ref kt, .ref cp, .ref n0, .ref c0, .ref x0, .ref y0, .ref ts, .int 1])), (t0, .inr (8, [.ref l0, .ref g0, .int (nI ke)])), (l0, .inr (4, [.int (nI ln), .int att, .int en, .int (nI n), .ref ak, .ref ap, .ref al, .ref ar])), (ak, .inl (cI, 10, .inl kf)), (ap, .inl (cI, 10, .inl pf)), (al, .inl (cI, 10, .inl lf)), (ar, .inl (cI, 10, .inl rf)), (g0, .inl (cI, 11, .inl sf)), (n0, .inr (6, [.int (u9.2.1 0), .int (u9.2.1 1)])), (c0, .inr (1, [.ref ep, .ref eh, .int (nI (u9.1 0)), .ref ef, .ref es, .ref eg, .int (nI (u9.1 1))])), (ep, .inl (cI, 11, .inl (u9.2.2.1 0))), (eh, .inl (cI, 11, .inl (u9.2.2.1 1))), (ef, .inl (cI, 55, .inl (u9.2.2.1 2))), (es, .inl (cI, 55, .inl (u9.2.2.1 3))), (eg, .inl (cI, 55, .inl (u9.2.2.1 4))), (x0, .inr (9, [.ref xb, .ref xp, .ref xn, .ref xs, .int (nI (u9.1 2)), .int (u9.2.1 2), .int (u9.2.1 3), .int (u9.2.1 4), .int (u9.2.1 5)])), (xb, .inl (cI, 460, .inl (u9.2.2.1 5))), (xp, .inl (cI, 460, .inl (u9.2.2.1 6))), (xn, .inl (cI, 460, .inl (u9.2.2.1 7))), (xs, .inl (cI, 460, .inl (u9.2.2.1 8))), (y0, .inr (7, [.ref r0, .ref r1, .ref r2, .ref r3, .ref r4, .ref r5, .ref r6, .ref r7, .int (nI (u9.1 3)), .int (u9.2.1 6)])), (r0, .inl (cI, 30, .inl (u9.2.2.2 0))), (r1, .inl (cI, 30, .inl (u9.2.2.2 1))), (r2, .inl (cI, 30, .inl (u9.2.2.2 2))), (r3, .inl (cI, 30, .inl (u9.2.2.2 3))), (r4, .inl (cI, 30, .inl (u9.2.2.2 4))), (r5, .inl (cI, 30, .inl (u9.2.2.2 5))), (r6, .inl (cI, 30, .inl (u9.2.2.2 6))), (r7, .inl (cI, 30, .inl (u9.2.2.2 7)))] := by rw [hu9, hv9]
    rw [hw9] at hP hD
    have hf9_0 : ftMs w u9 := by rw [hu9, hv9]; first | exact hms15 | exact hms0
    have hf9_1 : ftNc u9 := by rw [hu9, hv9]; first | exact hnc15 | exact hmi.2.2
    exact W.vret hx hb hr (fun t ht hW => ⟨⟨u9, rfl, ⟨hf9_0, hf9_1⟩, by rw [ht]; exact hP, by rw [hAe]; exact hD⟩, by rw [hAe]; exact hS.F ht⟩) hS.2.2 dX10_measure_23
  · refine lv_aload_n hx hb dX10_measure_7 rfl (lv_at hl 0 rfl) ?_
    refine lv_aload_n hx hb dX10_measure_8 rfl (lv_at hl 0 rfl) ?_
    refine va_get (D := D) (ci := 10) (v := .ref t0) (C := RX10) (T := TX10) (N := 11) hx hb hts (by decide +kernel) hown hK hP 0 rfl rfl 0 (by decide) (hts (.fieldLink RX10 12 "FiberTrace" "state" "LFiberTrace$State;") (by decide +kernel)) (fun _ h9 => h9) rfl dX10_measure_9 ?_
    refine va_get (D := D) (ci := 8) (v := .ref g0) (C := RX8) (T := TX8) (N := 3) hx hb hts (by decide +kernel) hown hK hP 1 rfl rfl 1 (by decide) (hts (.fieldLink RX10 158 "FiberTrace$State" "settings" "[I") (by decide +kernel)) (fun _ h9 => h9) rfl dX10_measure_12 ?_
    refine ft_cxv (S := ftUm) (wc := [(o0, .inr (10, [.ref t0, .ref h0, .ref tt, .ref kt, .ref cp, .ref n0, .ref c0, .ref x0, .ref y0, .ref ts, .int mef9])), (t0, .inr (8, [.ref l0, .ref g0, .int (nI ke)])), (l0, .inr (4, [.int (nI ln), .int att, .int en, .int (nI n), .ref ak, .ref ap, .ref al, .ref ar])), (ak, .inl (cI, 10, .inl kf)), (ap, .inl (cI, 10, .inl pf)), (al, .inl (cI, 10, .inl lf)), (ar, .inl (cI, 10, .inl rf)), (g0, .inl (cI, 11, .inl sf)), (n0, .inr (6, [.int (mu.2.1 0), .int (mu.2.1 1)])), (c0, .inr (1, [.ref ep, .ref eh, .int (nI (mu.1 0)), .ref ef, .ref es, .ref eg, .int (nI (mu.1 1))])), (ep, .inl (cI, 11, .inl (mu.2.2.1 0))), (eh, .inl (cI, 11, .inl (mu.2.2.1 1))), (ef, .inl (cI, 55, .inl (mu.2.2.1 2))), (es, .inl (cI, 55, .inl (mu.2.2.1 3))), (eg, .inl (cI, 55, .inl (mu.2.2.1 4))), (x0, .inr (9, [.ref xb, .ref xp, .ref xn, .ref xs, .int (nI (mu.1 2)), .int (mu.2.1 2), .int (mu.2.1 3), .int (mu.2.1 4), .int (mu.2.1 5)])), (xb, .inl (cI, 460, .inl (mu.2.2.1 5))), (xp, .inl (cI, 460, .inl (mu.2.2.1 6))), (xn, .inl (cI, 460, .inl (mu.2.2.1 7))), (xs, .inl (cI, 460, .inl (mu.2.2.1 8))), (y0, .inr (7, [.ref r0, .ref r1, .ref r2, .ref r3, .ref r4, .ref r5, .ref r6, .ref r7, .int (nI (mu.1 3)), .int (mu.2.1 6)])), (r0, .inl (cI, 30, .inl (mu.2.2.2 0))), (r1, .inl (cI, 30, .inl (mu.2.2.2 1))), (r2, .inl (cI, 30, .inl (mu.2.2.2 2))), (r3, .inl (cI, 30, .inl (mu.2.2.2 3))), (r4, .inl (cI, 30, .inl (mu.2.2.2 4))), (r5, .inl (cI, 30, .inl (mu.2.2.2 5))), (r6, .inl (cI, 30, .inl (mu.2.2.2 6))), (r7, .inl (cI, 30, .inl (mu.2.2.2 7)))]) (wr := []) (w1 := (fun (u15 : ftUm) => [(o0, .inr (10, [.ref t0, .ref h0, .ref tt, .ref kt, .ref cp, .ref n0, .ref c0, .ref x0, .ref y0, .ref ts, .int mef9])), (t0, .inr (8, [.ref l0, .ref g0, .int (nI ke)])), (l0, .inr (4, [.int (nI ln), .int att, .int en, .int (nI n), .ref ak, .ref ap, .ref al, .ref ar])), (ak, .inl (cI, 10, .inl kf)), (ap, .inl (cI, 10, .inl pf)), (al, .inl (cI, 10, .inl lf)), (ar, .inl (cI, 10, .inl rf)), (g0, .inl (cI, 11, .inl sf)), (n0, .inr (6, [.int (u15.2.1 0), .int (u15.2.1 1)])), (c0, .inr (1, [.ref ep, .ref eh, .int (nI (u15.1 0)), .ref ef, .ref es, .ref eg, .int (nI (u15.1 1))])), (ep, .inl (cI, 11, .inl (u15.2.2.1 0))), (eh, .inl (cI, 11, .inl (u15.2.2.1 1))), (ef, .inl (cI, 55, .inl (u15.2.2.1 2))), (es, .inl (cI, 55, .inl (u15.2.2.1 3))), (eg, .inl (cI, 55, .inl (u15.2.2.1 4))), (x0, .inr (9, [.ref xb, .ref xp, .ref xn, .ref xs, .int (nI (u15.1 2)), .int (u15.2.1 2), .int (u15.2.1 3), .int (u15.2.1 4), .int (u15.2.1 5)])), (xb, .inl (cI, 460, .inl (u15.2.2.1 5))), (xp, .inl (cI, 460, .inl (u15.2.2.1 6))), (xn, .inl (cI, 460, .inl (u15.2.2.1 7))), (xs, .inl (cI, 460, .inl (u15.2.2.1 8))), (y0, .inr (7, [.ref r0, .ref r1, .ref r2, .ref r3, .ref r4, .ref r5, .ref r6, .ref r7, .int (nI (u15.1 3)), .int (u15.2.1 6)])), (r0, .inl (cI, 30, .inl (u15.2.2.2 0))), (r1, .inl (cI, 30, .inl (u15.2.2.2 1))), (r2, .inl (cI, 30, .inl (u15.2.2.2 2))), (r3, .inl (cI, 30, .inl (u15.2.2.2 3))), (r4, .inl (cI, 30, .inl (u15.2.2.2 4))), (r5, .inl (cI, 30, .inl (u15.2.2.2 5))), (r6, .inl (cI, 30, .inl (u15.2.2.2 6))), (r7, .inl (cI, 30, .inl (u15.2.2.2 7)))])) (ws1 := (fun (u15 : ftUm) => [(o0, .inr (10, [.ref t0, .ref h0, .ref tt, .ref kt, .ref cp, .ref n0, .ref c0, .ref x0, .ref y0, .ref ts, .int mef9])), (t0, .inr (8, [.ref l0, .ref g0, .int (nI ke)])), (l0, .inr (4, [.int (nI ln), .int att, .int en, .int (nI n), .ref ak, .ref ap, .ref al, .ref ar])), (ak, .inl (cI, 10, .inl kf)), (ap, .inl (cI, 10, .inl pf)), (al, .inl (cI, 10, .inl lf)), (ar, .inl (cI, 10, .inl rf)), (g0, .inl (cI, 11, .inl sf)), (n0, .inr (6, [.int (u15.2.1 0), .int (u15.2.1 1)])), (c0, .inr (1, [.ref ep, .ref eh, .int (nI (u15.1 0)), .ref ef, .ref es, .ref eg, .int (nI (u15.1 1))])), (ep, .inl (cI, 11, .inl (u15.2.2.1 0))), (eh, .inl (cI, 11, .inl (u15.2.2.1 1))), (ef, .inl (cI, 55, .inl (u15.2.2.1 2))), (es, .inl (cI, 55, .inl (u15.2.2.1 3))), (eg, .inl (cI, 55, .inl (u15.2.2.1 4))), (x0, .inr (9, [.ref xb, .ref xp, .ref xn, .ref xs, .int (nI (u15.1 2)), .int (u15.2.1 2), .int (u15.2.1 3), .int (u15.2.1 4), .int (u15.2.1 5)])), (xb, .inl (cI, 460, .inl (u15.2.2.1 5))), (xp, .inl (cI, 460, .inl (u15.2.2.1 6))), (xn, .inl (cI, 460, .inl (u15.2.2.1 7))), (xs, .inl (cI, 460, .inl (u15.2.2.1 8))), (y0, .inr (7, [.ref r0, .ref r1, .ref r2, .ref r3, .ref r4, .ref r5, .ref r6, .ref r7, .int (nI (u15.1 3)), .int (u15.2.1 6)])), (r0, .inl (cI, 30, .inl (u15.2.2.2 0))), (r1, .inl (cI, 30, .inl (u15.2.2.2 1))), (r2, .inl (cI, 30, .inl (u15.2.2.2 2))), (r3, .inl (cI, 30, .inl (u15.2.2.2 3))), (r4, .inl (cI, 30, .inl (u15.2.2.2 4))), (r5, .inl (cI, 30, .inl (u15.2.2.2 5))), (r6, .inl (cI, 30, .inl (u15.2.2.2 6))), (r7, .inl (cI, 30, .inl (u15.2.2.2 7)))])) (va_runV (C := RX10) (As := [.ref g0]) (rest := []) ⟨hx, hb, hml, hown, hts⟩ (c_X10_measureWith l D cI cS s.heap.size o0 t0 h0 tt kt cp n0 c0 x0 y0 ts mef9 l0 g0 ke ln att en n ak ap al ar ep eh ef es eg xb xp xn xs r0 r1 r2 r3 r4 r5 r6 r7 kf pf lf rf g0 sf mu w hWf hL hln hsf hmi.2.2) (cwV 1 hts gX10_measure_X10_measureWith rfl rfl rfl (by decide +kernel) ⟨Nat.le_of_ble_eq_true rfl, Nat.le_of_ble_eq_true rfl⟩) (ft_preRWV (ci := 10) (q0 := 0) hP hD hKK [0, 1, 2, 3, 4, 5, 6, 7, 8, 9, 10, 11, 12, 13, 14, 15, 16, 17, 18, 19, 20, 21, 22, 23, 24, 25, 26, 27, 28] rfl rfl rfl rfl rfl) rfl rfl hl.1 rfl (lv_room (Nat.le_of_ble_eq_true rfl)) dX10_measure_15 ⟨Nat.le_of_ble_eq_true rfl, Nat.le_of_ble_eq_true rfl⟩) hP hD hS hA [0, 1, 2, 3, 4, 5, 6, 7, 8, 9, 10, 11, 12, 13, 14, 15, 16, 17, 18, 19, 20, 21, 22, 23, 24, 25, 26, 27, 28] [] [0, 1, 2, 3, 4, 5, 6, 7, 8, 9, 10, 11, 12, 13, 14, 15, 16, 17, 18, 19, 20, 21, 22, 23, 24, 25, 26, 27, 28] rfl rfl (by decide) (by decide) (by decide) (fun _ => rfl) (fun _ => rfl) (fun u15 hu15 H locs hP hD hS => ?_)
    obtain ⟨hms15, hnc15⟩ := hu15
    have hP : va_P D vwCl [(o0, .inr (10, [.ref t0, .ref h0, .ref tt, .ref kt, .ref cp, .ref n0, .ref c0, .ref x0, .ref y0, .ref ts, .int mef9])), (t0, .inr (8, [.ref l0, .ref g0, .int (nI ke)])), (l0, .inr (4, [.int (nI ln), .int att, .int en, .int (nI n), .ref ak, .ref ap, .ref al, .ref ar])), (ak, .inl (cI, 10, .inl kf)), (ap, .inl (cI, 10, .inl pf)), (al, .inl (cI, 10, .inl lf)), (ar, .inl (cI, 10, .inl rf)), (g0, .inl (cI, 11, .inl sf)), (n0, .inr (6, [.int (u15.2.1 0), .int (u15.2.1 1)])), (c0, .inr (1, [.ref ep, .ref eh, .int (nI (u15.1 0)), .ref ef, .ref es, .ref eg, .int (nI (u15.1 1))])), (ep, .inl (cI, 11, .inl (u15.2.2.1 0))), (eh, .inl (cI, 11, .inl (u15.2.2.1 1))), (ef, .inl (cI, 55, .inl (u15.2.2.1 2))), (es, .inl (cI, 55, .inl (u15.2.2.1 3))), (eg, .inl (cI, 55, .inl (u15.2.2.1 4))), (x0, .inr (9, [.ref xb, .ref xp, .ref xn, .ref xs, .int (nI (u15.1 2)), .int (u15.2.1 2), .int (u15.2.1 3), .int (u15.2.1 4), .int (u15.2.1 5)])), (xb, .inl (cI, 460, .inl (u15.2.2.1 5))), (xp, .inl (cI, 460, .inl (u15.2.2.1 6))), (xn, .inl (cI, 460, .inl (u15.2.2.1 7))), (xs, .inl (cI, 460, .inl (u15.2.2.1 8))), (y0, .inr (7, [.ref r0, .ref r1, .ref r2, .ref r3, .ref r4, .ref r5, .ref r6, .ref r7, .int (nI (u15.1 3)), .int (u15.2.1 6)])), (r0, .inl (cI, 30, .inl (u15.2.2.2 0))), (r1, .inl (cI, 30, .inl (u15.2.2.2 1))), (r2, .inl (cI, 30, .inl (u15.2.2.2 2))), (r3, .inl (cI, 30, .inl (u15.2.2.2 3))), (r4, .inl (cI, 30, .inl (u15.2.2.2 4))), (r5, .inl (cI, 30, .inl (u15.2.2.2 5))), (r6, .inl (cI, 30, .inl (u15.2.2.2 6))), (r7, .inl (cI, 30, .inl (u15.2.2.2 7)))] H := hP
    have hD : va_D A [(o0, .inr (10, [.ref t0, .ref h0, .ref tt, .ref kt, .ref cp, .ref n0, .ref c0, .ref x0, .ref y0, .ref ts, .int mef9])), (t0, .inr (8, [.ref l0, .ref g0, .int (nI ke)])), (l0, .inr (4, [.int (nI ln), .int att, .int en, .int (nI n), .ref ak, .ref ap, .ref al, .ref ar])), (ak, .inl (cI, 10, .inl kf)), (ap, .inl (cI, 10, .inl pf)), (al, .inl (cI, 10, .inl lf)), (ar, .inl (cI, 10, .inl rf)), (g0, .inl (cI, 11, .inl sf)), (n0, .inr (6, [.int (u15.2.1 0), .int (u15.2.1 1)])), (c0, .inr (1, [.ref ep, .ref eh, .int (nI (u15.1 0)), .ref ef, .ref es, .ref eg, .int (nI (u15.1 1))])), (ep, .inl (cI, 11, .inl (u15.2.2.1 0))), (eh, .inl (cI, 11, .inl (u15.2.2.1 1))), (ef, .inl (cI, 55, .inl (u15.2.2.1 2))), (es, .inl (cI, 55, .inl (u15.2.2.1 3))), (eg, .inl (cI, 55, .inl (u15.2.2.1 4))), (x0, .inr (9, [.ref xb, .ref xp, .ref xn, .ref xs, .int (nI (u15.1 2)), .int (u15.2.1 2), .int (u15.2.1 3), .int (u15.2.1 4), .int (u15.2.1 5)])), (xb, .inl (cI, 460, .inl (u15.2.2.1 5))), (xp, .inl (cI, 460, .inl (u15.2.2.1 6))), (xn, .inl (cI, 460, .inl (u15.2.2.1 7))), (xs, .inl (cI, 460, .inl (u15.2.2.1 8))), (y0, .inr (7, [.ref r0, .ref r1, .ref r2, .ref r3, .ref r4, .ref r5, .ref r6, .ref r7, .int (nI (u15.1 3)), .int (u15.2.1 6)])), (r0, .inl (cI, 30, .inl (u15.2.2.2 0))), (r1, .inl (cI, 30, .inl (u15.2.2.2 1))), (r2, .inl (cI, 30, .inl (u15.2.2.2 2))), (r3, .inl (cI, 30, .inl (u15.2.2.2 3))), (r4, .inl (cI, 30, .inl (u15.2.2.2 4))), (r5, .inl (cI, 30, .inl (u15.2.2.2 5))), (r6, .inl (cI, 30, .inl (u15.2.2.2 6))), (r7, .inl (cI, 30, .inl (u15.2.2.2 7)))] := hD
    obtain ⟨v9, hv9⟩ : ∃ v9 : ftUm, v9 = u15 := ⟨_, rfl⟩
    refine lv_aload_n hx hb dX10_measure_18 rfl (lv_at hl 0 rfl) ?_
    refine lv_iconst (v := 1) hx hb dX10_measure_19 (by decide) ?_
    refine va_put (D := D) (ci := 10) (v := .int 1) (ty := .boolean) (C := RX10) (T := TX10) (N := 11) hx hb hts (by decide +kernel) tyX10 tyX10_ok nmX10 hown hK hP hD hS 0 rfl rfl 10 (by decide) (hts (.fieldLink RX10 76 "FiberTrace" "measured" "Z") (by decide +kernel)) (fun _ h9 => h9) rfl (by decide +kernel) (by first | rfl | exact ftB_nar) rfl (Nat.le_of_ble_eq_true rfl) dX10_measure_20 (fun H locs hP hD hS => ?_)
    have hP : va_P D vwCl [(o0, .inr (10, [.ref t0, .ref h0, .ref tt, .ref kt, .ref cp, .ref n0, .ref c0, .ref x0, .ref y0, .ref ts, .int 1])), (t0, .inr (8, [.ref l0, .ref g0, .int (nI ke)])), (l0, .inr (4, [.int (nI ln), .int att, .int en, .int (nI n), .ref ak, .ref ap, .ref al, .ref ar])), (ak, .inl (cI, 10, .inl kf)), (ap, .inl (cI, 10, .inl pf)), (al, .inl (cI, 10, .inl lf)), (ar, .inl (cI, 10, .inl rf)), (g0, .inl (cI, 11, .inl sf)), (n0, .inr (6, [.int (u15.2.1 0), .int (u15.2.1 1)])), (c0, .inr (1, [.ref ep, .ref eh, .int (nI (u15.1 0)), .ref ef, .ref es, .ref eg, .int (nI (u15.1 1))])), (ep, .inl (cI, 11, .inl (u15.2.2.1 0))), (eh, .inl (cI, 11, .inl (u15.2.2.1 1))), (ef, .inl (cI, 55, .inl (u15.2.2.1 2))), (es, .inl (cI, 55, .inl (u15.2.2.1 3))), (eg, .inl (cI, 55, .inl (u15.2.2.1 4))), (x0, .inr (9, [.ref xb, .ref xp, .ref xn, .ref xs, .int (nI (u15.1 2)), .int (u15.2.1 2), .int (u15.2.1 3), .int (u15.2.1 4), .int (u15.2.1 5)])), (xb, .inl (cI, 460, .inl (u15.2.2.1 5))), (xp, .inl (cI, 460, .inl (u15.2.2.1 6))), (xn, .inl (cI, 460, .inl (u15.2.2.1 7))), (xs, .inl (cI, 460, .inl (u15.2.2.1 8))), (y0, .inr (7, [.ref r0, .ref r1, .ref r2, .ref r3, .ref r4, .ref r5, .ref r6, .ref r7, .int (nI (u15.1 3)), .int (u15.2.1 6)])), (r0, .inl (cI, 30, .inl (u15.2.2.2 0))), (r1, .inl (cI, 30, .inl (u15.2.2.2 1))), (r2, .inl (cI, 30, .inl (u15.2.2.2 2))), (r3, .inl (cI, 30, .inl (u15.2.2.2 3))), (r4, .inl (cI, 30, .inl (u15.2.2.2 4))), (r5, .inl (cI, 30, .inl (u15.2.2.2 5))), (r6, .inl (cI, 30, .inl (u15.2.2.2 6))), (r7, .inl (cI, 30, .inl (u15.2.2.2 7)))] H := hP
    have hD : va_D A [(o0, .inr (10, [.ref t0, .ref h0, .ref tt, .ref kt, .ref cp, .ref n0, .ref c0, .ref x0, .ref y0, .ref ts, .int 1])), (t0, .inr (8, [.ref l0, .ref g0, .int (nI ke)])), (l0, .inr (4, [.int (nI ln), .int att, .int en, .int (nI n), .ref ak, .ref ap, .ref al, .ref ar])), (ak, .inl (cI, 10, .inl kf)), (ap, .inl (cI, 10, .inl pf)), (al, .inl (cI, 10, .inl lf)), (ar, .inl (cI, 10, .inl rf)), (g0, .inl (cI, 11, .inl sf)), (n0, .inr (6, [.int (u15.2.1 0), .int (u15.2.1 1)])), (c0, .inr (1, [.ref ep, .ref eh, .int (nI (u15.1 0)), .ref ef, .ref es, .ref eg, .int (nI (u15.1 1))])), (ep, .inl (cI, 11, .inl (u15.2.2.1 0))), (eh, .inl (cI, 11, .inl (u15.2.2.1 1))), (ef, .inl (cI, 55, .inl (u15.2.2.1 2))), (es, .inl (cI, 55, .inl (u15.2.2.1 3))), (eg, .inl (cI, 55, .inl (u15.2.2.1 4))), (x0, .inr (9, [.ref xb, .ref xp, .ref xn, .ref xs, .int (nI (u15.1 2)), .int (u15.2.1 2), .int (u15.2.1 3), .int (u15.2.1 4), .int (u15.2.1 5)])), (xb, .inl (cI, 460, .inl (u15.2.2.1 5))), (xp, .inl (cI, 460, .inl (u15.2.2.1 6))), (xn, .inl (cI, 460, .inl (u15.2.2.1 7))), (xs, .inl (cI, 460, .inl (u15.2.2.1 8))), (y0, .inr (7, [.ref r0, .ref r1, .ref r2, .ref r3, .ref r4, .ref r5, .ref r6, .ref r7, .int (nI (u15.1 3)), .int (u15.2.1 6)])), (r0, .inl (cI, 30, .inl (u15.2.2.2 0))), (r1, .inl (cI, 30, .inl (u15.2.2.2 1))), (r2, .inl (cI, 30, .inl (u15.2.2.2 2))), (r3, .inl (cI, 30, .inl (u15.2.2.2 3))), (r4, .inl (cI, 30, .inl (u15.2.2.2 4))), (r5, .inl (cI, 30, .inl (u15.2.2.2 5))), (r6, .inl (cI, 30, .inl (u15.2.2.2 6))), (r7, .inl (cI, 30, .inl (u15.2.2.2 7)))] := hD
    obtain ⟨u9, hu9⟩ : ∃ u9 : ftUm, u9 = v9 := ⟨_, rfl⟩
    have hw9 : ([(o0, .inr (10, [.ref t0, .ref h0, .ref tt, .ref kt, .ref cp, .ref n0, .ref c0, .ref x0, .ref y0, .ref ts, .int 1])), (t0, .inr (8, [.ref l0, .ref g0, .int (nI ke)])), (l0, .inr (4, [.int (nI ln), .int att, .int en, .int (nI n), .ref ak, .ref ap, .ref al, .ref ar])), (ak, .inl (cI, 10, .inl kf)), (ap, .inl (cI, 10, .inl pf)), (al, .inl (cI, 10, .inl lf)), (ar, .inl (cI, 10, .inl rf)), (g0, .inl (cI, 11, .inl sf)), (n0, .inr (6, [.int (u15.2.1 0), .int (u15.2.1 1)])), (c0, .inr (1, [.ref ep, .ref eh, .int (nI (u15.1 0)), .ref ef, .ref es, .ref eg, .int (nI (u15.1 1))])), (ep, .inl (cI, 11, .inl (u15.2.2.1 0))), (eh, .inl (cI, 11, .inl (u15.2.2.1 1))), (ef, .inl (cI, 55, .inl (u15.2.2.1 2))), (es, .inl (cI, 55, .inl (u15.2.2.1 3))), (eg, .inl (cI, 55, .inl (u15.2.2.1 4))), (x0, .inr (9, [.ref xb, .ref xp, .ref xn, .ref xs, .int (nI (u15.1 2)), .int (u15.2.1 2), .int (u15.2.1 3), .int (u15.2.1 4), .int (u15.2.1 5)])), (xb, .inl (cI, 460, .inl (u15.2.2.1 5))), (xp, .inl (cI, 460, .inl (u15.2.2.1 6))), (xn, .inl (cI, 460, .inl (u15.2.2.1 7))), (xs, .inl (cI, 460, .inl (u15.2.2.1 8))), (y0, .inr (7, [.ref r0, .ref r1, .ref r2, .ref r3, .ref r4, .ref r5, .ref r6, .ref r7, .int (nI (u15.1 3)), .int (u15.2.1 6)])), (r0, .inl (cI, 30, .inl (u15.2.2.2 0))), (r1, .inl (cI, 30, .inl (u15.2.2.2 1))), (r2, .inl (cI, 30, .inl (u15.2.2.2 2))), (r3, .inl (cI, 30, .inl (u15.2.2.2 3))), (r4, .inl (cI, 30, .inl (u15.2.2.2 4))), (r5, .inl (cI, 30, .inl (u15.2.2.2 5))), (r6, .inl (cI, 30, .inl (u15.2.2.2 6))), (r7, .inl (cI, 30, .inl (u15.2.2.2 7)))] : va_W) = [(o0, .inr (10, [.ref t0, .ref h0, .ref tt, .ref kt, .ref cp, .ref n0, .ref c0, .ref x0, .ref y0, .ref ts, .int 1])), (t0, .inr (8, [.ref l0, .ref g0, .int (nI ke)])), (l0, .inr (4, [.int (nI ln), .int att, .int en, .int (nI n), .ref ak, .ref ap, .ref al, .ref ar])), (ak, .inl (cI, 10, .inl kf)), (ap, .inl (cI, 10, .inl pf)), (al, .inl (cI, 10, .inl lf)), (ar, .inl (cI, 10, .inl rf)), (g0, .inl (cI, 11, .inl sf)), (n0, .inr (6, [.int (u9.2.1 0), .int (u9.2.1 1)])), (c0, .inr (1, [.ref ep, .ref eh, .int (nI (u9.1 0)), .ref ef, .ref es, .ref eg, .int (nI (u9.1 1))])), (ep, .inl (cI, 11, .inl (u9.2.2.1 0))), (eh, .inl (cI, 11, .inl (u9.2.2.1 1))), (ef, .inl (cI, 55, .inl (u9.2.2.1 2))), (es, .inl (cI, 55, .inl (u9.2.2.1 3))), (eg, .inl (cI, 55, .inl (u9.2.2.1 4))), (x0, .inr (9, [.ref xb, .ref xp, .ref xn, .ref xs, .int (nI (u9.1 2)), .int (u9.2.1 2), .int (u9.2.1 3), .int (u9.2.1 4), .int (u9.2.1 5)])), (xb, .inl (cI, 460, .inl (u9.2.2.1 5))), (xp, .inl (cI, 460, .inl (u9.2.2.1 6))), (xn, .inl (cI, 460, .inl (u9.2.2.1 7))), (xs, .inl (cI, 460, .inl (u9.2.2.1 8))), (y0, .inr (7, [.ref r0, .ref r1, .ref r2, .ref r3, .ref r4, .ref r5, .ref r6, .ref r7, .int (nI (u9.1 3)), .int (u9.2.1 6)])), (r0, .inl (cI, 30, .inl (u9.2.2.2 0))), (r1, .inl (cI, 30, .inl (u9.2.2.2 1))), (r2, .inl (cI, 30, .inl (u9.2.2.2 2))), (r3, .inl (cI, 30, .inl (u9.2.2.2 3))), (r4, .inl (cI, 30, .inl (u9.2.2.2 4))), (r5, .inl (cI, 30, .inl (u9.2.2.2 5))), (r6, .inl (cI, 30, .inl (u9.2.2.2 6))), (r7, .inl (cI, 30, .inl (u9.2.2.2 7)))] := by rw [hu9, hv9]
    rw [hw9] at hP hD
    have hf9_0 : ftMs w u9 := by rw [hu9, hv9]; first | exact hms15 | exact hms0
    have hf9_1 : ftNc u9 := by rw [hu9, hv9]; first | exact hnc15 | exact hmi.2.2
    exact W.vret hx hb hr (fun t ht hW => ⟨⟨u9, rfl, ⟨hf9_0, hf9_1⟩, by rw [ht]; exact hP, by rw [hAe]; exact hD⟩, by rw [hAe]; exact hS.F ht⟩) hS.2.2 dX10_measure_23
set_option maxHeartbeats 4000000 in
set_option maxRecDepth 100000 in
theorem c_X10_readLoss (l : Launch) (D : va_G) (cI cS : ClassId) (o0 t0 h0 tt kt cp n0 c0 x0 y0 ts : Nat) (mef9 : Int32) (l0 g0 ke : Nat) (ln : Nat) (att en : Int32) (n ak ap al ar : Nat) (ep eh ef es eg xb xp xn xs r0 r1 r2 r3 r4 r5 r6 r7 : Nat) (kf pf lf rf : Nat → Int32) (sf : Nat → Int32) (mu : ftUm) (w : Nat → Int32) (hWf : ftWf w) (hL : ftLR w (nI ln) att en n kf pf lf rf) (hln : ln ≤ 400) (hsf : ∀ j, j < 11 → sf j = w (44 + j)) (hms : ftMs w mu) : Met l yX10_readLoss wsX10_readLoss ({ frames := 1, cells := 0, slots := 0, locals := 21 }) (ftRO D cI cS [.ref o0] [(o0, .inr (10, [.ref t0, .ref h0, .ref tt, .ref kt, .ref cp, .ref n0, .ref c0, .ref x0, .ref y0, .ref ts, .int mef9])), (t0, .inr (8, [.ref l0, .ref g0, .int (nI ke)])), (l0, .inr (4, [.int (nI ln), .int att, .int en, .int (nI n), .ref ak, .ref ap, .ref al, .ref ar])), (ak, .inl (cI, 10, .inl kf)), (ap, .inl (cI, 10, .inl pf)), (al, .inl (cI, 10, .inl lf)), (ar, .inl (cI, 10, .inl rf)), (g0, .inl (cI, 11, .inl sf)), (n0, .inr (6, [.int (mu.2.1 0), .int (mu.2.1 1)])), (c0, .inr (1, [.ref ep, .ref eh, .int (nI (mu.1 0)), .ref ef, .ref es, .ref eg, .int (nI (mu.1 1))])), (ep, .inl (cI, 11, .inl (mu.2.2.1 0))), (eh, .inl (cI, 11, .inl (mu.2.2.1 1))), (ef, .inl (cI, 55, .inl (mu.2.2.1 2))), (es, .inl (cI, 55, .inl (mu.2.2.1 3))), (eg, .inl (cI, 55, .inl (mu.2.2.1 4))), (x0, .inr (9, [.ref xb, .ref xp, .ref xn, .ref xs, .int (nI (mu.1 2)), .int (mu.2.1 2), .int (mu.2.1 3), .int (mu.2.1 4), .int (mu.2.1 5)])), (xb, .inl (cI, 460, .inl (mu.2.2.1 5))), (xp, .inl (cI, 460, .inl (mu.2.2.1 6))), (xn, .inl (cI, 460, .inl (mu.2.2.1 7))), (xs, .inl (cI, 460, .inl (mu.2.2.1 8))), (y0, .inr (7, [.ref r0, .ref r1, .ref r2, .ref r3, .ref r4, .ref r5, .ref r6, .ref r7, .int (nI (mu.1 3)), .int (mu.2.1 6)])), (r0, .inl (cI, 30, .inl (mu.2.2.2 0))), (r1, .inl (cI, 30, .inl (mu.2.2.2 1))), (r2, .inl (cI, 30, .inl (mu.2.2.2 2))), (r3, .inl (cI, 30, .inl (mu.2.2.2 3))), (r4, .inl (cI, 30, .inl (mu.2.2.2 4))), (r5, .inl (cI, 30, .inl (mu.2.2.2 5))), (r6, .inl (cI, 30, .inl (mu.2.2.2 6))), (r7, .inl (cI, 30, .inl (mu.2.2.2 7)))]) (vp_Si (fun o9 => o9 = if (ftCE w).1 = 0 then 0 else ftCV w 0 - ftCV w ((ftCE w).2.2 1 ((ftCE w).1 - 1)).toNatClampNeg)) 0 0 (fun _ => False) := by
  refine Met.ofW (cc := cX10_readLoss) (maxL := 1) (ret := (some .int)) (by decide) rfl ?_
  intro p e s m args below meth c s₁ B hml hv
  obtain ⟨rfl, hP, hKK⟩ := hv
  have hK := hKK.1
  have hx := B.exec
  have hb := B.bytes
  have hr := B.returns
  have hts := atoms_spec (ws := wsX10_readLoss) B.pre
  have hown : s.vm.findClass RX10 = some m.cls := findClass_of_methodNamed B.named
  have hlocks := B.notSynchronized
  have hP : va_P D vwCl [(o0, .inr (10, [.ref t0, .ref h0, .ref tt, .ref kt, .ref cp, .ref n0, .ref c0, .ref x0, .ref y0, .ref ts, .int mef9])), (t0, .inr (8, [.ref l0, .ref g0, .int (nI ke)])), (l0, .inr (4, [.int (nI ln), .int att, .int en, .int (nI n), .ref ak, .ref ap, .ref al, .ref ar])), (ak, .inl (cI, 10, .inl kf)), (ap, .inl (cI, 10, .inl pf)), (al, .inl (cI, 10, .inl lf)), (ar, .inl (cI, 10, .inl rf)), (g0, .inl (cI, 11, .inl sf)), (n0, .inr (6, [.int (mu.2.1 0), .int (mu.2.1 1)])), (c0, .inr (1, [.ref ep, .ref eh, .int (nI (mu.1 0)), .ref ef, .ref es, .ref eg, .int (nI (mu.1 1))])), (ep, .inl (cI, 11, .inl (mu.2.2.1 0))), (eh, .inl (cI, 11, .inl (mu.2.2.1 1))), (ef, .inl (cI, 55, .inl (mu.2.2.1 2))), (es, .inl (cI, 55, .inl (mu.2.2.1 3))), (eg, .inl (cI, 55, .inl (mu.2.2.1 4))), (x0, .inr (9, [.ref xb, .ref xp, .ref xn, .ref xs, .int (nI (mu.1 2)), .int (mu.2.1 2), .int (mu.2.1 3), .int (mu.2.1 4), .int (mu.2.1 5)])), (xb, .inl (cI, 460, .inl (mu.2.2.1 5))), (xp, .inl (cI, 460, .inl (mu.2.2.1 6))), (xn, .inl (cI, 460, .inl (mu.2.2.1 7))), (xs, .inl (cI, 460, .inl (mu.2.2.1 8))), (y0, .inr (7, [.ref r0, .ref r1, .ref r2, .ref r3, .ref r4, .ref r5, .ref r6, .ref r7, .int (nI (mu.1 3)), .int (mu.2.1 6)])), (r0, .inl (cI, 30, .inl (mu.2.2.2 0))), (r1, .inl (cI, 30, .inl (mu.2.2.2 1))), (r2, .inl (cI, 30, .inl (mu.2.2.2 2))), (r3, .inl (cI, 30, .inl (mu.2.2.2 3))), (r4, .inl (cI, 30, .inl (mu.2.2.2 4))), (r5, .inl (cI, 30, .inl (mu.2.2.2 5))), (r6, .inl (cI, 30, .inl (mu.2.2.2 6))), (r7, .inl (cI, 30, .inl (mu.2.2.2 7)))] s.heap := hP
  have hl := lv_entry ([.ref o0]) (n := 1) (Nat.le_of_ble_eq_true rfl)
  rw [lg_entry_eq]
  generalize (lg_sl ([.ref o0]) ++ List.replicate (1 - (lg_sl ([.ref o0])).length) Slot.unset).toArray = ls at hl ⊢
  have hl : lv_has ls 1 [(0, .ref o0)] := hl
  have hn := hL.2.2.2.2.1
  have hcl := ftLR_ln hL hln
  have hev := ftEv6_of hWf hms.2.2.2.2
  have hk30 := hev.2.1
  have hkE := hev.1
  refine lv_aload_n hx hb dX10_readLoss_0 rfl (lv_at hl 0 rfl) ?_
  refine va_get (D := D) (ci := 10) (v := .ref y0) (C := RX10) (T := TX10) (N := 11) hx hb hts (by decide +kernel) hown hK hP 0 rfl rfl 8 (by decide) (hts (.fieldLink RX10 68 "FiberTrace" "reading" "LFiberTrace$Reading;") (by decide +kernel)) (fun _ h9 => h9) rfl dX10_readLoss_1 ?_
  refine va_get (D := D) (ci := 7) (v := .int (nI (mu.1 3))) (C := RX7) (T := TX7) (N := 10) hx hb hts (by decide +kernel) hown hK hP 20 rfl rfl 8 (by decide) (hts (.fieldLink RX10 242 "FiberTrace$Reading" "size" "I") (by decide +kernel)) (fun _ h9 => h9) rfl dX10_readLoss_4 ?_
  refine lv_if_ne (tgt := 12) hx hb dX10_readLoss_7 (by decide) (fun c7 => ?_) (fun c7 => ?_)
  · have c7n : (mu.1 3) ≠ 0 := ft_neN (by omega) (by omega) c7
    have hk0 : 0 < mu.1 3 := by
      rcases Nat.eq_zero_or_pos (mu.1 3) with q | q
      · exact absurd (by rw [q]; rfl) c7
      · exact q
    obtain ⟨e9, he1, he2⟩ := ftCE_end hWf (t := mu.1 3 - 1) (by omega)
    have he3 : mu.2.2.2 1 (mu.1 3 - 1) = nI e9 := (hev.2.2 (mu.1 3 - 1) (by omega) 1 (by omega)).trans he2
    have hr0 := (hms.2.1 0 (by omega)).2.2.2
    have hr1 := (hms.2.1 e9 he1).2.2.2
    refine lv_aload_n hx hb dX10_readLoss_12 rfl (lv_at hl 0 rfl) ?_
    refine va_get (D := D) (ci := 10) (v := .ref x0) (C := RX10) (T := TX10) (N := 11) hx hb hts (by decide +kernel) hown hK hP 0 rfl rfl 7 (by decide) (hts (.fieldLink RX10 61 "FiberTrace" "trace" "LFiberTrace$Trace;") (by decide +kernel)) (fun _ h9 => h9) rfl dX10_readLoss_13 ?_
    refine va_get (D := D) (ci := 9) (v := .ref xs) (C := RX9) (T := TX9) (N := 9) hx hb hts (by decide +kernel) hown hK hP 15 rfl rfl 3 (by decide) (hts (.fieldLink RX10 213 "FiberTrace$Trace" "samples" "[I") (by decide +kernel)) (fun _ h9 => h9) rfl dX10_readLoss_16 ?_
    refine lv_iconst (v := 0) hx hb dX10_readLoss_19 (by decide) ?_
    refine ft_csi (r := ftAt 460 (mu.2.2.1 8) 0) (va_runS (As := [.ref xs, .int 0]) (rest := []) ⟨hx, hb, hml, hown, hts⟩ (c_X10_at l D cI cS xs 460 (mu.2.2.1 8) 0 (by first | assumption | omega)) (va_cwS 2 hts gX10_readLoss_X10_at rfl rfl rfl (by decide +kernel) ⟨Nat.le_of_ble_eq_true rfl, Nat.le_of_ble_eq_true rfl⟩) (ft_preRO hP hKK [19] rfl) rfl rfl hl.1 rfl (lv_room (Nat.le_of_ble_eq_true rfl)) dX10_readLoss_20 ⟨Nat.le_of_ble_eq_true rfl, Nat.le_of_ble_eq_true rfl⟩) ?_
    refine ft_top (y := (mu.2.2.1 8) 0) (ftAt_N (k := 0) (by omega) (by omega)) ?_
    refine lv_aload_n hx hb dX10_readLoss_23 rfl (lv_at hl 0 rfl) ?_
    refine va_get (D := D) (ci := 10) (v := .ref x0) (C := RX10) (T := TX10) (N := 11) hx hb hts (by decide +kernel) hown hK hP 0 rfl rfl 7 (by decide) (hts (.fieldLink RX10 61 "FiberTrace" "trace" "LFiberTrace$Trace;") (by decide +kernel)) (fun _ h9 => h9) rfl dX10_readLoss_24 ?_
    refine va_get (D := D) (ci := 9) (v := .ref xs) (C := RX9) (T := TX9) (N := 9) hx hb hts (by decide +kernel) hown hK hP 15 rfl rfl 3 (by decide) (hts (.fieldLink RX10 213 "FiberTrace$Trace" "samples" "[I") (by decide +kernel)) (fun _ h9 => h9) rfl dX10_readLoss_27 ?_
    refine lv_aload_n hx hb dX10_readLoss_30 rfl (lv_at hl 0 rfl) ?_
    refine va_get (D := D) (ci := 10) (v := .ref y0) (C := RX10) (T := TX10) (N := 11) hx hb hts (by decide +kernel) hown hK hP 0 rfl rfl 8 (by decide) (hts (.fieldLink RX10 68 "FiberTrace" "reading" "LFiberTrace$Reading;") (by decide +kernel)) (fun _ h9 => h9) rfl dX10_readLoss_31 ?_
    refine va_get (D := D) (ci := 7) (v := .ref r1) (C := RX7) (T := TX7) (N := 10) hx hb hts (by decide +kernel) hown hK hP 20 rfl rfl 1 (by decide) (hts (.fieldLink RX10 246 "FiberTrace$Reading" "ends" "[I") (by decide +kernel)) (fun _ h9 => h9) rfl dX10_readLoss_34 ?_
    refine lv_aload_n hx hb dX10_readLoss_37 rfl (lv_at hl 0 rfl) ?_
    refine va_get (D := D) (ci := 10) (v := .ref y0) (C := RX10) (T := TX10) (N := 11) hx hb hts (by decide +kernel) hown hK hP 0 rfl rfl 8 (by decide) (hts (.fieldLink RX10 68 "FiberTrace" "reading" "LFiberTrace$Reading;") (by decide +kernel)) (fun _ h9 => h9) rfl dX10_readLoss_38 ?_
    refine va_get (D := D) (ci := 7) (v := .int (nI (mu.1 3))) (C := RX7) (T := TX7) (N := 10) hx hb hts (by decide +kernel) hown hK hP 20 rfl rfl 8 (by decide) (hts (.fieldLink RX10 242 "FiberTrace$Reading" "size" "I") (by decide +kernel)) (fun _ h9 => h9) rfl dX10_readLoss_41 ?_
    refine lv_iconst (v := 1) hx hb dX10_readLoss_44 (by decide) ?_
    refine lv_isub hx hb dX10_readLoss_45 ?_
    refine ft_top (y := nI ((mu.1 3) - 1)) (ft_subN (a := mu.1 3) (b := 1) (by omega)) ?_
    refine ft_csi (r := ftAt 30 (mu.2.2.2 1) (nI ((mu.1 3) - 1))) (va_runS (As := [.ref r1, .int (nI ((mu.1 3) - 1))]) (rest := [.ref xs, .int ((mu.2.2.1 8) 0)]) ⟨hx, hb, hml, hown, hts⟩ (c_X10_at l D cI cS r1 30 (mu.2.2.2 1) (nI ((mu.1 3) - 1)) (by first | assumption | omega)) (va_cwS 2 hts gX10_readLoss_X10_at rfl rfl rfl (by decide +kernel) ⟨Nat.le_of_ble_eq_true rfl, Nat.le_of_ble_eq_true rfl⟩) (ft_preRO hP hKK [22] rfl) rfl rfl hl.1 rfl (lv_room (Nat.le_of_ble_eq_true rfl)) dX10_readLoss_46 ⟨Nat.le_of_ble_eq_true rfl, Nat.le_of_ble_eq_true rfl⟩) ?_
    refine ft_top (y := (mu.2.2.2 1) ((mu.1 3) - 1)) (ftAt_N (by omega) (by omega)) ?_
    refine ft_top (y := nI e9) he3 ?_
    refine ft_csi (r := ftAt 460 (mu.2.2.1 8) (nI e9)) (va_runS (As := [.ref xs, .int (nI e9)]) (rest := [.int ((mu.2.2.1 8) 0)]) ⟨hx, hb, hml, hown, hts⟩ (c_X10_at l D cI cS xs 460 (mu.2.2.1 8) (nI e9) (by first | assumption | omega)) (va_cwS 2 hts gX10_readLoss_X10_at rfl rfl rfl (by decide +kernel) ⟨Nat.le_of_ble_eq_true rfl, Nat.le_of_ble_eq_true rfl⟩) (ft_preRO hP hKK [19] rfl) rfl rfl hl.1 rfl (lv_room (Nat.le_of_ble_eq_true rfl)) dX10_readLoss_49 ⟨Nat.le_of_ble_eq_true rfl, Nat.le_of_ble_eq_true rfl⟩) ?_
    refine ft_top (y := (mu.2.2.1 8) e9) (ftAt_N (by omega) (by omega)) ?_
    refine lv_isub hx hb dX10_readLoss_52 ?_
    exact W.iret (v := ((mu.2.2.1 8) 0) - ((mu.2.2.1 8) e9)) hx hb hr (fun t ht hW => ⟨((mu.2.2.1 8) 0) - ((mu.2.2.1 8) e9), rfl, (by show (((mu.2.2.1 8) 0) - ((mu.2.2.1 8) e9) : Int32) = if (ftCE w).1 = 0 then 0 else ftCV w 0 - ftCV w ((ftCE w).2.2 1 ((ftCE w).1 - 1)).toNatClampNeg; rw [if_neg (by omega), ← hkE, he2, nI_clamp (by omega), hr0, hr1]), ht⟩) (fun _ h9 => absurd h9 List.not_mem_nil) dX10_readLoss_53
  · have c7n : (mu.1 3) = 0 := ft_eqN (by omega) (by omega) c7
    refine lv_iconst (v := 0) hx hb dX10_readLoss_10 (by decide) ?_
    exact W.iret (v := 0) hx hb hr (fun t ht hW => ⟨0, rfl, (by show (0 : Int32) = if (ftCE w).1 = 0 then 0 else ftCV w 0 - ftCV w ((ftCE w).2.2 1 ((ftCE w).1 - 1)).toNatClampNeg; rw [if_pos]; rw [← hkE]; exact ft_eq0N (by omega) c7), ht⟩) (fun _ h9 => absurd h9 List.not_mem_nil) dX10_readLoss_11
set_option maxHeartbeats 4000000 in
set_option maxRecDepth 100000 in
theorem c_X10_sample (l : Launch) (D : va_G) (cI cS : ClassId) (sz : Nat) (o0 t0 h0 tt kt cp n0 c0 x0 y0 ts : Nat) (mef9 : Int32) (l0 g0 ke : Nat) (ln : Nat) (att en : Int32) (n ak ap al ar : Nat) (ep eh ef es eg xb xp xn xs r0 r1 r2 r3 r4 r5 r6 r7 : Nat) (kf pf lf rf : Nat → Int32) (sf : Nat → Int32) (mu : ftUm) (w : Nat → Int32) (xq9 yq9 : Int32) (hWf : ftWf w) (hL : ftLR w (nI ln) att en n kf pf lf rf) (hln : ln ≤ 400) (hsf : ∀ j, j < 11 → sf j = w (44 + j)) (hmi : ftMi w mef9 mu) : Met l yX10_sample wsX10_sample ({ frames := 6, cells := 0, slots := 0, locals := 150 }) (ftRW D cI cS [.ref o0, .int xq9, .int yq9] [(o0, .inr (10, [.ref t0, .ref h0, .ref tt, .ref kt, .ref cp, .ref n0, .ref c0, .ref x0, .ref y0, .ref ts, .int mef9])), (t0, .inr (8, [.ref l0, .ref g0, .int (nI ke)])), (l0, .inr (4, [.int (nI ln), .int att, .int en, .int (nI n), .ref ak, .ref ap, .ref al, .ref ar])), (ak, .inl (cI, 10, .inl kf)), (ap, .inl (cI, 10, .inl pf)), (al, .inl (cI, 10, .inl lf)), (ar, .inl (cI, 10, .inl rf)), (g0, .inl (cI, 11, .inl sf)), (n0, .inr (6, [.int (mu.2.1 0), .int (mu.2.1 1)])), (c0, .inr (1, [.ref ep, .ref eh, .int (nI (mu.1 0)), .ref ef, .ref es, .ref eg, .int (nI (mu.1 1))])), (ep, .inl (cI, 11, .inl (mu.2.2.1 0))), (eh, .inl (cI, 11, .inl (mu.2.2.1 1))), (ef, .inl (cI, 55, .inl (mu.2.2.1 2))), (es, .inl (cI, 55, .inl (mu.2.2.1 3))), (eg, .inl (cI, 55, .inl (mu.2.2.1 4))), (x0, .inr (9, [.ref xb, .ref xp, .ref xn, .ref xs, .int (nI (mu.1 2)), .int (mu.2.1 2), .int (mu.2.1 3), .int (mu.2.1 4), .int (mu.2.1 5)])), (xb, .inl (cI, 460, .inl (mu.2.2.1 5))), (xp, .inl (cI, 460, .inl (mu.2.2.1 6))), (xn, .inl (cI, 460, .inl (mu.2.2.1 7))), (xs, .inl (cI, 460, .inl (mu.2.2.1 8))), (y0, .inr (7, [.ref r0, .ref r1, .ref r2, .ref r3, .ref r4, .ref r5, .ref r6, .ref r7, .int (nI (mu.1 3)), .int (mu.2.1 6)])), (r0, .inl (cI, 30, .inl (mu.2.2.2 0))), (r1, .inl (cI, 30, .inl (mu.2.2.2 1))), (r2, .inl (cI, 30, .inl (mu.2.2.2 2))), (r3, .inl (cI, 30, .inl (mu.2.2.2 3))), (r4, .inl (cI, 30, .inl (mu.2.2.2 4))), (r5, .inl (cI, 30, .inl (mu.2.2.2 5))), (r6, .inl (cI, 30, .inl (mu.2.2.2 6))), (r7, .inl (cI, 30, .inl (mu.2.2.2 7)))] sz) (ftXi D [(o0, .inr (10, [.ref t0, .ref h0, .ref tt, .ref kt, .ref cp, .ref n0, .ref c0, .ref x0, .ref y0, .ref ts, .int mef9])), (t0, .inr (8, [.ref l0, .ref g0, .int (nI ke)])), (l0, .inr (4, [.int (nI ln), .int att, .int en, .int (nI n), .ref ak, .ref ap, .ref al, .ref ar])), (ak, .inl (cI, 10, .inl kf)), (ap, .inl (cI, 10, .inl pf)), (al, .inl (cI, 10, .inl lf)), (ar, .inl (cI, 10, .inl rf)), (g0, .inl (cI, 11, .inl sf)), (n0, .inr (6, [.int (mu.2.1 0), .int (mu.2.1 1)])), (c0, .inr (1, [.ref ep, .ref eh, .int (nI (mu.1 0)), .ref ef, .ref es, .ref eg, .int (nI (mu.1 1))])), (ep, .inl (cI, 11, .inl (mu.2.2.1 0))), (eh, .inl (cI, 11, .inl (mu.2.2.1 1))), (ef, .inl (cI, 55, .inl (mu.2.2.1 2))), (es, .inl (cI, 55, .inl (mu.2.2.1 3))), (eg, .inl (cI, 55, .inl (mu.2.2.1 4))), (x0, .inr (9, [.ref xb, .ref xp, .ref xn, .ref xs, .int (nI (mu.1 2)), .int (mu.2.1 2), .int (mu.2.1 3), .int (mu.2.1 4), .int (mu.2.1 5)])), (xb, .inl (cI, 460, .inl (mu.2.2.1 5))), (xp, .inl (cI, 460, .inl (mu.2.2.1 6))), (xn, .inl (cI, 460, .inl (mu.2.2.1 7))), (xs, .inl (cI, 460, .inl (mu.2.2.1 8))), (y0, .inr (7, [.ref r0, .ref r1, .ref r2, .ref r3, .ref r4, .ref r5, .ref r6, .ref r7, .int (nI (mu.1 3)), .int (mu.2.1 6)])), (r0, .inl (cI, 30, .inl (mu.2.2.2 0))), (r1, .inl (cI, 30, .inl (mu.2.2.2 1))), (r2, .inl (cI, 30, .inl (mu.2.2.2 2))), (r3, .inl (cI, 30, .inl (mu.2.2.2 3))), (r4, .inl (cI, 30, .inl (mu.2.2.2 4))), (r5, .inl (cI, 30, .inl (mu.2.2.2 5))), (r6, .inl (cI, 30, .inl (mu.2.2.2 6))), (r7, .inl (cI, 30, .inl (mu.2.2.2 7)))] sz (fun (o9 : Int32) (u : Int32 × ftUm) => o9 = ftSmA w xq9 yq9 ∧ (ftMi w u.1 u.2)) (fun (u : Int32 × ftUm) => [(o0, .inr (10, [.ref t0, .ref h0, .ref tt, .ref kt, .ref cp, .ref n0, .ref c0, .ref x0, .ref y0, .ref ts, .int u.1])), (t0, .inr (8, [.ref l0, .ref g0, .int (nI ke)])), (l0, .inr (4, [.int (nI ln), .int att, .int en, .int (nI n), .ref ak, .ref ap, .ref al, .ref ar])), (ak, .inl (cI, 10, .inl kf)), (ap, .inl (cI, 10, .inl pf)), (al, .inl (cI, 10, .inl lf)), (ar, .inl (cI, 10, .inl rf)), (g0, .inl (cI, 11, .inl sf)), (n0, .inr (6, [.int (u.2.2.1 0), .int (u.2.2.1 1)])), (c0, .inr (1, [.ref ep, .ref eh, .int (nI (u.2.1 0)), .ref ef, .ref es, .ref eg, .int (nI (u.2.1 1))])), (ep, .inl (cI, 11, .inl (u.2.2.2.1 0))), (eh, .inl (cI, 11, .inl (u.2.2.2.1 1))), (ef, .inl (cI, 55, .inl (u.2.2.2.1 2))), (es, .inl (cI, 55, .inl (u.2.2.2.1 3))), (eg, .inl (cI, 55, .inl (u.2.2.2.1 4))), (x0, .inr (9, [.ref xb, .ref xp, .ref xn, .ref xs, .int (nI (u.2.1 2)), .int (u.2.2.1 2), .int (u.2.2.1 3), .int (u.2.2.1 4), .int (u.2.2.1 5)])), (xb, .inl (cI, 460, .inl (u.2.2.2.1 5))), (xp, .inl (cI, 460, .inl (u.2.2.2.1 6))), (xn, .inl (cI, 460, .inl (u.2.2.2.1 7))), (xs, .inl (cI, 460, .inl (u.2.2.2.1 8))), (y0, .inr (7, [.ref r0, .ref r1, .ref r2, .ref r3, .ref r4, .ref r5, .ref r6, .ref r7, .int (nI (u.2.1 3)), .int (u.2.2.1 6)])), (r0, .inl (cI, 30, .inl (u.2.2.2.2 0))), (r1, .inl (cI, 30, .inl (u.2.2.2.2 1))), (r2, .inl (cI, 30, .inl (u.2.2.2.2 2))), (r3, .inl (cI, 30, .inl (u.2.2.2.2 3))), (r4, .inl (cI, 30, .inl (u.2.2.2.2 4))), (r5, .inl (cI, 30, .inl (u.2.2.2.2 5))), (r6, .inl (cI, 30, .inl (u.2.2.2.2 6))), (r7, .inl (cI, 30, .inl (u.2.2.2.2 7)))])) 0 0 (va_A [(o0, .inr (10, [.ref t0, .ref h0, .ref tt, .ref kt, .ref cp, .ref n0, .ref c0, .ref x0, .ref y0, .ref ts, .int mef9])), (t0, .inr (8, [.ref l0, .ref g0, .int (nI ke)])), (l0, .inr (4, [.int (nI ln), .int att, .int en, .int (nI n), .ref ak, .ref ap, .ref al, .ref ar])), (ak, .inl (cI, 10, .inl kf)), (ap, .inl (cI, 10, .inl pf)), (al, .inl (cI, 10, .inl lf)), (ar, .inl (cI, 10, .inl rf)), (g0, .inl (cI, 11, .inl sf)), (n0, .inr (6, [.int (mu.2.1 0), .int (mu.2.1 1)])), (c0, .inr (1, [.ref ep, .ref eh, .int (nI (mu.1 0)), .ref ef, .ref es, .ref eg, .int (nI (mu.1 1))])), (ep, .inl (cI, 11, .inl (mu.2.2.1 0))), (eh, .inl (cI, 11, .inl (mu.2.2.1 1))), (ef, .inl (cI, 55, .inl (mu.2.2.1 2))), (es, .inl (cI, 55, .inl (mu.2.2.1 3))), (eg, .inl (cI, 55, .inl (mu.2.2.1 4))), (x0, .inr (9, [.ref xb, .ref xp, .ref xn, .ref xs, .int (nI (mu.1 2)), .int (mu.2.1 2), .int (mu.2.1 3), .int (mu.2.1 4), .int (mu.2.1 5)])), (xb, .inl (cI, 460, .inl (mu.2.2.1 5))), (xp, .inl (cI, 460, .inl (mu.2.2.1 6))), (xn, .inl (cI, 460, .inl (mu.2.2.1 7))), (xs, .inl (cI, 460, .inl (mu.2.2.1 8))), (y0, .inr (7, [.ref r0, .ref r1, .ref r2, .ref r3, .ref r4, .ref r5, .ref r6, .ref r7, .int (nI (mu.1 3)), .int (mu.2.1 6)])), (r0, .inl (cI, 30, .inl (mu.2.2.2 0))), (r1, .inl (cI, 30, .inl (mu.2.2.2 1))), (r2, .inl (cI, 30, .inl (mu.2.2.2 2))), (r3, .inl (cI, 30, .inl (mu.2.2.2 3))), (r4, .inl (cI, 30, .inl (mu.2.2.2 4))), (r5, .inl (cI, 30, .inl (mu.2.2.2 5))), (r6, .inl (cI, 30, .inl (mu.2.2.2 6))), (r7, .inl (cI, 30, .inl (mu.2.2.2 7)))] sz) := by
  refine Met.ofW (cc := cX10_sample) (maxL := 3) (ret := (some .int)) (by decide) rfl ?_
  intro p e s m args below meth c s₁ B hml hv
  obtain ⟨rfl, hsz, hP, hKK, hD0⟩ := hv
  have hK := hKK.1
  have hx := B.exec
  have hb := B.bytes
  have hr := B.returns
  have hts := atoms_spec (ws := wsX10_sample) B.pre
  have hown : s.vm.findClass RX10 = some m.cls := findClass_of_methodNamed B.named
  have hlocks := B.notSynchronized
  subst hsz
  have hD := hD0.self (sz := s.heap.size)
  generalize hAe : va_A [(o0, .inr (10, [.ref t0, .ref h0, .ref tt, .ref kt, .ref cp, .ref n0, .ref c0, .ref x0, .ref y0, .ref ts, .int mef9])), (t0, .inr (8, [.ref l0, .ref g0, .int (nI ke)])), (l0, .inr (4, [.int (nI ln), .int att, .int en, .int (nI n), .ref ak, .ref ap, .ref al, .ref ar])), (ak, .inl (cI, 10, .inl kf)), (ap, .inl (cI, 10, .inl pf)), (al, .inl (cI, 10, .inl lf)), (ar, .inl (cI, 10, .inl rf)), (g0, .inl (cI, 11, .inl sf)), (n0, .inr (6, [.int (mu.2.1 0), .int (mu.2.1 1)])), (c0, .inr (1, [.ref ep, .ref eh, .int (nI (mu.1 0)), .ref ef, .ref es, .ref eg, .int (nI (mu.1 1))])), (ep, .inl (cI, 11, .inl (mu.2.2.1 0))), (eh, .inl (cI, 11, .inl (mu.2.2.1 1))), (ef, .inl (cI, 55, .inl (mu.2.2.1 2))), (es, .inl (cI, 55, .inl (mu.2.2.1 3))), (eg, .inl (cI, 55, .inl (mu.2.2.1 4))), (x0, .inr (9, [.ref xb, .ref xp, .ref xn, .ref xs, .int (nI (mu.1 2)), .int (mu.2.1 2), .int (mu.2.1 3), .int (mu.2.1 4), .int (mu.2.1 5)])), (xb, .inl (cI, 460, .inl (mu.2.2.1 5))), (xp, .inl (cI, 460, .inl (mu.2.2.1 6))), (xn, .inl (cI, 460, .inl (mu.2.2.1 7))), (xs, .inl (cI, 460, .inl (mu.2.2.1 8))), (y0, .inr (7, [.ref r0, .ref r1, .ref r2, .ref r3, .ref r4, .ref r5, .ref r6, .ref r7, .int (nI (mu.1 3)), .int (mu.2.1 6)])), (r0, .inl (cI, 30, .inl (mu.2.2.2 0))), (r1, .inl (cI, 30, .inl (mu.2.2.2 1))), (r2, .inl (cI, 30, .inl (mu.2.2.2 2))), (r3, .inl (cI, 30, .inl (mu.2.2.2 3))), (r4, .inl (cI, 30, .inl (mu.2.2.2 4))), (r5, .inl (cI, 30, .inl (mu.2.2.2 5))), (r6, .inl (cI, 30, .inl (mu.2.2.2 6))), (r7, .inl (cI, 30, .inl (mu.2.2.2 7)))] s.heap.size = A at hD ⊢
  have hA : ∀ q : Nat, s.heap.size ≤ q → A q := fun q h => by rw [← hAe]; exact Or.inr h
  have hS : va_S A s.heap s.heap [] := va_S.rf
  have hD : va_D A [(o0, .inr (10, [.ref t0, .ref h0, .ref tt, .ref kt, .ref cp, .ref n0, .ref c0, .ref x0, .ref y0, .ref ts, .int mef9])), (t0, .inr (8, [.ref l0, .ref g0, .int (nI ke)])), (l0, .inr (4, [.int (nI ln), .int att, .int en, .int (nI n), .ref ak, .ref ap, .ref al, .ref ar])), (ak, .inl (cI, 10, .inl kf)), (ap, .inl (cI, 10, .inl pf)), (al, .inl (cI, 10, .inl lf)), (ar, .inl (cI, 10, .inl rf)), (g0, .inl (cI, 11, .inl sf)), (n0, .inr (6, [.int (mu.2.1 0), .int (mu.2.1 1)])), (c0, .inr (1, [.ref ep, .ref eh, .int (nI (mu.1 0)), .ref ef, .ref es, .ref eg, .int (nI (mu.1 1))])), (ep, .inl (cI, 11, .inl (mu.2.2.1 0))), (eh, .inl (cI, 11, .inl (mu.2.2.1 1))), (ef, .inl (cI, 55, .inl (mu.2.2.1 2))), (es, .inl (cI, 55, .inl (mu.2.2.1 3))), (eg, .inl (cI, 55, .inl (mu.2.2.1 4))), (x0, .inr (9, [.ref xb, .ref xp, .ref xn, .ref xs, .int (nI (mu.1 2)), .int (mu.2.1 2), .int (mu.2.1 3), .int (mu.2.1 4), .int (mu.2.1 5)])), (xb, .inl (cI, 460, .inl (mu.2.2.1 5))), (xp, .inl (cI, 460, .inl (mu.2.2.1 6))), (xn, .inl (cI, 460, .inl (mu.2.2.1 7))), (xs, .inl (cI, 460, .inl (mu.2.2.1 8))), (y0, .inr (7, [.ref r0, .ref r1, .ref r2, .ref r3, .ref r4, .ref r5, .ref r6, .ref r7, .int (nI (mu.1 3)), .int (mu.2.1 6)])), (r0, .inl (cI, 30, .inl (mu.2.2.2 0))), (r1, .inl (cI, 30, .inl (mu.2.2.2 1))), (r2, .inl (cI, 30, .inl (mu.2.2.2 2))), (r3, .inl (cI, 30, .inl (mu.2.2.2 3))), (r4, .inl (cI, 30, .inl (mu.2.2.2 4))), (r5, .inl (cI, 30, .inl (mu.2.2.2 5))), (r6, .inl (cI, 30, .inl (mu.2.2.2 6))), (r7, .inl (cI, 30, .inl (mu.2.2.2 7)))] := hD
  have hP : va_P D vwCl [(o0, .inr (10, [.ref t0, .ref h0, .ref tt, .ref kt, .ref cp, .ref n0, .ref c0, .ref x0, .ref y0, .ref ts, .int mef9])), (t0, .inr (8, [.ref l0, .ref g0, .int (nI ke)])), (l0, .inr (4, [.int (nI ln), .int att, .int en, .int (nI n), .ref ak, .ref ap, .ref al, .ref ar])), (ak, .inl (cI, 10, .inl kf)), (ap, .inl (cI, 10, .inl pf)), (al, .inl (cI, 10, .inl lf)), (ar, .inl (cI, 10, .inl rf)), (g0, .inl (cI, 11, .inl sf)), (n0, .inr (6, [.int (mu.2.1 0), .int (mu.2.1 1)])), (c0, .inr (1, [.ref ep, .ref eh, .int (nI (mu.1 0)), .ref ef, .ref es, .ref eg, .int (nI (mu.1 1))])), (ep, .inl (cI, 11, .inl (mu.2.2.1 0))), (eh, .inl (cI, 11, .inl (mu.2.2.1 1))), (ef, .inl (cI, 55, .inl (mu.2.2.1 2))), (es, .inl (cI, 55, .inl (mu.2.2.1 3))), (eg, .inl (cI, 55, .inl (mu.2.2.1 4))), (x0, .inr (9, [.ref xb, .ref xp, .ref xn, .ref xs, .int (nI (mu.1 2)), .int (mu.2.1 2), .int (mu.2.1 3), .int (mu.2.1 4), .int (mu.2.1 5)])), (xb, .inl (cI, 460, .inl (mu.2.2.1 5))), (xp, .inl (cI, 460, .inl (mu.2.2.1 6))), (xn, .inl (cI, 460, .inl (mu.2.2.1 7))), (xs, .inl (cI, 460, .inl (mu.2.2.1 8))), (y0, .inr (7, [.ref r0, .ref r1, .ref r2, .ref r3, .ref r4, .ref r5, .ref r6, .ref r7, .int (nI (mu.1 3)), .int (mu.2.1 6)])), (r0, .inl (cI, 30, .inl (mu.2.2.2 0))), (r1, .inl (cI, 30, .inl (mu.2.2.2 1))), (r2, .inl (cI, 30, .inl (mu.2.2.2 2))), (r3, .inl (cI, 30, .inl (mu.2.2.2 3))), (r4, .inl (cI, 30, .inl (mu.2.2.2 4))), (r5, .inl (cI, 30, .inl (mu.2.2.2 5))), (r6, .inl (cI, 30, .inl (mu.2.2.2 6))), (r7, .inl (cI, 30, .inl (mu.2.2.2 7)))] s.heap := hP
  have hl := lv_entry ([.ref o0, .int xq9, .int yq9]) (n := 3) (Nat.le_of_ble_eq_true rfl)
  rw [lg_entry_eq]
  generalize (lg_sl ([.ref o0, .int xq9, .int yq9]) ++ List.replicate (3 - (lg_sl ([.ref o0, .int xq9, .int yq9])).length) Slot.unset).toArray = ls at hl ⊢
  have hl : lv_has ls 3 [(0, .ref o0), (1, .int xq9), (2, .int yq9)] := hl
  have hn := hL.2.2.2.2.1
  have hcl := ftLR_ln hL hln
  have htp := ft_tp (w := w) (x := xq9) hcl hln
  refine lv_aload_n hx hb dX10_sample_0 rfl (lv_at hl 0 rfl) ?_
  refine lv_iload_n hx hb dX10_sample_1 rfl (lv_at hl 1 rfl) ?_
  refine ft_csi (r := ftB (0 ≤ xq9 ∧ xq9 ≤ (nI ln) + 60 - 1)) (va_runV (C := RX10) (As := [.int xq9]) (rest := []) ⟨hx, hb, hml, hown, hts⟩ (c_X10_isTracePlace l D cI cS o0 t0 h0 tt kt cp n0 c0 x0 y0 ts mef9 l0 g0 ke (nI ln) att en n ak ap al ar xq9) (cwV 1 hts gX10_sample_X10_isTracePlace rfl rfl rfl (by decide +kernel) ⟨Nat.le_of_ble_eq_true rfl, Nat.le_of_ble_eq_true rfl⟩) (ft_preROV (ci := 10) (q0 := 0) hP hKK [0, 1, 2] rfl rfl rfl) rfl rfl hl.1 rfl (lv_room (Nat.le_of_ble_eq_true rfl)) dX10_sample_2 ⟨Nat.le_of_ble_eq_true rfl, Nat.le_of_ble_eq_true rfl⟩) ?_
  refine lv_if_eq (tgt := 17) hx hb dX10_sample_5 (by decide) (fun c5 => ?_) (fun c5 => ?_)
  · replace c5 := ftB_eq c5
    have hv9 : (-1000001 : Int32) = ftSmA w xq9 yq9 := (ftIte_f (fun q => c5 (htp.mpr q.1))).symm
    refine lv_ldc (v := (-1000001)) hx hb hown (hts (.constant RX10 84 (-1000001)) (by decide +kernel)) dX10_sample_17 ?_
    obtain ⟨u9, hu9⟩ : ∃ u9 : Int32 × ftUm, u9 = (mef9, mu) := ⟨_, rfl⟩
    have hw9 : ([(o0, .inr (10, [.ref t0, .ref h0, .ref tt, .ref kt, .ref cp, .ref n0, .ref c0, .ref x0, .ref y0, .ref ts, .int mef9])), (t0, .inr (8, [.ref l0, .ref g0, .int (nI ke)])), (l0, .inr (4, [.int (nI ln), .int att, .int en, .int (nI n), .ref ak, .ref ap, .ref al, .ref ar])), (ak, .inl (cI, 10, .inl kf)), (ap, .inl (cI, 10, .inl pf)), (al, .inl (cI, 10, .inl lf)), (ar, .inl (cI, 10, .inl rf)), (g0, .inl (cI, 11, .inl sf)), (n0, .inr (6, [.int (mu.2.1 0), .int (mu.2.1 1)])), (c0, .inr (1, [.ref ep, .ref eh, .int (nI (mu.1 0)), .ref ef, .ref es, .ref eg, .int (nI (mu.1 1))])), (ep, .inl (cI, 11, .inl (mu.2.2.1 0))), (eh, .inl (cI, 11, .inl (mu.2.2.1 1))), (ef, .inl (cI, 55, .inl (mu.2.2.1 2))), (es, .inl (cI, 55, .inl (mu.2.2.1 3))), (eg, .inl (cI, 55, .inl (mu.2.2.1 4))), (x0, .inr (9, [.ref xb, .ref xp, .ref xn, .ref xs, .int (nI (mu.1 2)), .int (mu.2.1 2), .int (mu.2.1 3), .int (mu.2.1 4), .int (mu.2.1 5)])), (xb, .inl (cI, 460, .inl (mu.2.2.1 5))), (xp, .inl (cI, 460, .inl (mu.2.2.1 6))), (xn, .inl (cI, 460, .inl (mu.2.2.1 7))), (xs, .inl (cI, 460, .inl (mu.2.2.1 8))), (y0, .inr (7, [.ref r0, .ref r1, .ref r2, .ref r3, .ref r4, .ref r5, .ref r6, .ref r7, .int (nI (mu.1 3)), .int (mu.2.1 6)])), (r0, .inl (cI, 30, .inl (mu.2.2.2 0))), (r1, .inl (cI, 30, .inl (mu.2.2.2 1))), (r2, .inl (cI, 30, .inl (mu.2.2.2 2))), (r3, .inl (cI, 30, .inl (mu.2.2.2 3))), (r4, .inl (cI, 30, .inl (mu.2.2.2 4))), (r5, .inl (cI, 30, .inl (mu.2.2.2 5))), (r6, .inl (cI, 30, .inl (mu.2.2.2 6))), (r7, .inl (cI, 30, .inl (mu.2.2.2 7)))] : va_W) = [(o0, .inr (10, [.ref t0, .ref h0, .ref tt, .ref kt, .ref cp, .ref n0, .ref c0, .ref x0, .ref y0, .ref ts, .int u9.1])), (t0, .inr (8, [.ref l0, .ref g0, .int (nI ke)])), (l0, .inr (4, [.int (nI ln), .int att, .int en, .int (nI n), .ref ak, .ref ap, .ref al, .ref ar])), (ak, .inl (cI, 10, .inl kf)), (ap, .inl (cI, 10, .inl pf)), (al, .inl (cI, 10, .inl lf)), (ar, .inl (cI, 10, .inl rf)), (g0, .inl (cI, 11, .inl sf)), (n0, .inr (6, [.int (u9.2.2.1 0), .int (u9.2.2.1 1)])), (c0, .inr (1, [.ref ep, .ref eh, .int (nI (u9.2.1 0)), .ref ef, .ref es, .ref eg, .int (nI (u9.2.1 1))])), (ep, .inl (cI, 11, .inl (u9.2.2.2.1 0))), (eh, .inl (cI, 11, .inl (u9.2.2.2.1 1))), (ef, .inl (cI, 55, .inl (u9.2.2.2.1 2))), (es, .inl (cI, 55, .inl (u9.2.2.2.1 3))), (eg, .inl (cI, 55, .inl (u9.2.2.2.1 4))), (x0, .inr (9, [.ref xb, .ref xp, .ref xn, .ref xs, .int (nI (u9.2.1 2)), .int (u9.2.2.1 2), .int (u9.2.2.1 3), .int (u9.2.2.1 4), .int (u9.2.2.1 5)])), (xb, .inl (cI, 460, .inl (u9.2.2.2.1 5))), (xp, .inl (cI, 460, .inl (u9.2.2.2.1 6))), (xn, .inl (cI, 460, .inl (u9.2.2.2.1 7))), (xs, .inl (cI, 460, .inl (u9.2.2.2.1 8))), (y0, .inr (7, [.ref r0, .ref r1, .ref r2, .ref r3, .ref r4, .ref r5, .ref r6, .ref r7, .int (nI (u9.2.1 3)), .int (u9.2.2.1 6)])), (r0, .inl (cI, 30, .inl (u9.2.2.2.2 0))), (r1, .inl (cI, 30, .inl (u9.2.2.2.2 1))), (r2, .inl (cI, 30, .inl (u9.2.2.2.2 2))), (r3, .inl (cI, 30, .inl (u9.2.2.2.2 3))), (r4, .inl (cI, 30, .inl (u9.2.2.2.2 4))), (r5, .inl (cI, 30, .inl (u9.2.2.2.2 5))), (r6, .inl (cI, 30, .inl (u9.2.2.2.2 6))), (r7, .inl (cI, 30, .inl (u9.2.2.2.2 7)))] := by subst hu9; rfl
    rw [hw9] at hP hD
    have hf9_0 : ftMi w u9.1 u9.2 := by rw [hu9]; exact hmi
    have hr9 : ((-1000001) : Int32) = ftSmA w xq9 yq9 := by exact hv9
    exact W.iret (v := (-1000001)) hx hb hr (fun t ht hW => ⟨⟨(-1000001), u9, rfl, ⟨hr9, hf9_0⟩, by rw [ht]; exact hP, by rw [hAe]; exact hD⟩, by rw [hAe]; exact hS.F ht⟩) hS.2.2 dX10_sample_19
  · replace c5 := ftB_ne c5
    refine lv_iload_n hx hb dX10_sample_8 rfl (lv_at hl 2 rfl) ?_
    refine lv_iconst (v := 0) hx hb dX10_sample_9 (by decide) ?_
    refine lv_iconst (v := 3) hx hb dX10_sample_10 (by decide) ?_
    refine ft_csi (r := ftB (0 ≤ yq9 ∧ yq9 ≤ 3)) (va_runS (As := [.int yq9, .int 0, .int 3]) (rest := []) ⟨hx, hb, hml, hown, hts⟩ (c_X10_isWithin l D cI cS yq9 0 3) (va_cwS 3 hts gX10_sample_X10_isWithin rfl rfl rfl (by decide +kernel) ⟨Nat.le_of_ble_eq_true rfl, Nat.le_of_ble_eq_true rfl⟩) (ft_preRO hP hKK [] rfl) rfl rfl hl.1 rfl (lv_room (Nat.le_of_ble_eq_true rfl)) dX10_sample_11 ⟨Nat.le_of_ble_eq_true rfl, Nat.le_of_ble_eq_true rfl⟩) ?_
    refine lv_if_ne (tgt := 20) hx hb dX10_sample_14 (by decide) (fun c14 => ?_) (fun c14 => ?_)
    · replace c14 := ftB_ne c14
      refine lv_aload_n hx hb dX10_sample_20 rfl (lv_at hl 0 rfl) ?_
      refine ft_cxv (S := ftUm) (wc := [(o0, .inr (10, [.ref t0, .ref h0, .ref tt, .ref kt, .ref cp, .ref n0, .ref c0, .ref x0, .ref y0, .ref ts, .int mef9])), (t0, .inr (8, [.ref l0, .ref g0, .int (nI ke)])), (l0, .inr (4, [.int (nI ln), .int att, .int en, .int (nI n), .ref ak, .ref ap, .ref al, .ref ar])), (ak, .inl (cI, 10, .inl kf)), (ap, .inl (cI, 10, .inl pf)), (al, .inl (cI, 10, .inl lf)), (ar, .inl (cI, 10, .inl rf)), (g0, .inl (cI, 11, .inl sf)), (n0, .inr (6, [.int (mu.2.1 0), .int (mu.2.1 1)])), (c0, .inr (1, [.ref ep, .ref eh, .int (nI (mu.1 0)), .ref ef, .ref es, .ref eg, .int (nI (mu.1 1))])), (ep, .inl (cI, 11, .inl (mu.2.2.1 0))), (eh, .inl (cI, 11, .inl (mu.2.2.1 1))), (ef, .inl (cI, 55, .inl (mu.2.2.1 2))), (es, .inl (cI, 55, .inl (mu.2.2.1 3))), (eg, .inl (cI, 55, .inl (mu.2.2.1 4))), (x0, .inr (9, [.ref xb, .ref xp, .ref xn, .ref xs, .int (nI (mu.1 2)), .int (mu.2.1 2), .int (mu.2.1 3), .int (mu.2.1 4), .int (mu.2.1 5)])), (xb, .inl (cI, 460, .inl (mu.2.2.1 5))), (xp, .inl (cI, 460, .inl (mu.2.2.1 6))), (xn, .inl (cI, 460, .inl (mu.2.2.1 7))), (xs, .inl (cI, 460, .inl (mu.2.2.1 8))), (y0, .inr (7, [.ref r0, .ref r1, .ref r2, .ref r3, .ref r4, .ref r5, .ref r6, .ref r7, .int (nI (mu.1 3)), .int (mu.2.1 6)])), (r0, .inl (cI, 30, .inl (mu.2.2.2 0))), (r1, .inl (cI, 30, .inl (mu.2.2.2 1))), (r2, .inl (cI, 30, .inl (mu.2.2.2 2))), (r3, .inl (cI, 30, .inl (mu.2.2.2 3))), (r4, .inl (cI, 30, .inl (mu.2.2.2 4))), (r5, .inl (cI, 30, .inl (mu.2.2.2 5))), (r6, .inl (cI, 30, .inl (mu.2.2.2 6))), (r7, .inl (cI, 30, .inl (mu.2.2.2 7)))]) (wr := []) (w1 := (fun (u21 : ftUm) => [(o0, .inr (10, [.ref t0, .ref h0, .ref tt, .ref kt, .ref cp, .ref n0, .ref c0, .ref x0, .ref y0, .ref ts, .int 1])), (t0, .inr (8, [.ref l0, .ref g0, .int (nI ke)])), (l0, .inr (4, [.int (nI ln), .int att, .int en, .int (nI n), .ref ak, .ref ap, .ref al, .ref ar])), (ak, .inl (cI, 10, .inl kf)), (ap, .inl (cI, 10, .inl pf)), (al, .inl (cI, 10, .inl lf)), (ar, .inl (cI, 10, .inl rf)), (g0, .inl (cI, 11, .inl sf)), (n0, .inr (6, [.int (u21.2.1 0), .int (u21.2.1 1)])), (c0, .inr (1, [.ref ep, .ref eh, .int (nI (u21.1 0)), .ref ef, .ref es, .ref eg, .int (nI (u21.1 1))])), (ep, .inl (cI, 11, .inl (u21.2.2.1 0))), (eh, .inl (cI, 11, .inl (u21.2.2.1 1))), (ef, .inl (cI, 55, .inl (u21.2.2.1 2))), (es, .inl (cI, 55, .inl (u21.2.2.1 3))), (eg, .inl (cI, 55, .inl (u21.2.2.1 4))), (x0, .inr (9, [.ref xb, .ref xp, .ref xn, .ref xs, .int (nI (u21.1 2)), .int (u21.2.1 2), .int (u21.2.1 3), .int (u21.2.1 4), .int (u21.2.1 5)])), (xb, .inl (cI, 460, .inl (u21.2.2.1 5))), (xp, .inl (cI, 460, .inl (u21.2.2.1 6))), (xn, .inl (cI, 460, .inl (u21.2.2.1 7))), (xs, .inl (cI, 460, .inl (u21.2.2.1 8))), (y0, .inr (7, [.ref r0, .ref r1, .ref r2, .ref r3, .ref r4, .ref r5, .ref r6, .ref r7, .int (nI (u21.1 3)), .int (u21.2.1 6)])), (r0, .inl (cI, 30, .inl (u21.2.2.2 0))), (r1, .inl (cI, 30, .inl (u21.2.2.2 1))), (r2, .inl (cI, 30, .inl (u21.2.2.2 2))), (r3, .inl (cI, 30, .inl (u21.2.2.2 3))), (r4, .inl (cI, 30, .inl (u21.2.2.2 4))), (r5, .inl (cI, 30, .inl (u21.2.2.2 5))), (r6, .inl (cI, 30, .inl (u21.2.2.2 6))), (r7, .inl (cI, 30, .inl (u21.2.2.2 7)))])) (ws1 := (fun (u21 : ftUm) => [(o0, .inr (10, [.ref t0, .ref h0, .ref tt, .ref kt, .ref cp, .ref n0, .ref c0, .ref x0, .ref y0, .ref ts, .int 1])), (t0, .inr (8, [.ref l0, .ref g0, .int (nI ke)])), (l0, .inr (4, [.int (nI ln), .int att, .int en, .int (nI n), .ref ak, .ref ap, .ref al, .ref ar])), (ak, .inl (cI, 10, .inl kf)), (ap, .inl (cI, 10, .inl pf)), (al, .inl (cI, 10, .inl lf)), (ar, .inl (cI, 10, .inl rf)), (g0, .inl (cI, 11, .inl sf)), (n0, .inr (6, [.int (u21.2.1 0), .int (u21.2.1 1)])), (c0, .inr (1, [.ref ep, .ref eh, .int (nI (u21.1 0)), .ref ef, .ref es, .ref eg, .int (nI (u21.1 1))])), (ep, .inl (cI, 11, .inl (u21.2.2.1 0))), (eh, .inl (cI, 11, .inl (u21.2.2.1 1))), (ef, .inl (cI, 55, .inl (u21.2.2.1 2))), (es, .inl (cI, 55, .inl (u21.2.2.1 3))), (eg, .inl (cI, 55, .inl (u21.2.2.1 4))), (x0, .inr (9, [.ref xb, .ref xp, .ref xn, .ref xs, .int (nI (u21.1 2)), .int (u21.2.1 2), .int (u21.2.1 3), .int (u21.2.1 4), .int (u21.2.1 5)])), (xb, .inl (cI, 460, .inl (u21.2.2.1 5))), (xp, .inl (cI, 460, .inl (u21.2.2.1 6))), (xn, .inl (cI, 460, .inl (u21.2.2.1 7))), (xs, .inl (cI, 460, .inl (u21.2.2.1 8))), (y0, .inr (7, [.ref r0, .ref r1, .ref r2, .ref r3, .ref r4, .ref r5, .ref r6, .ref r7, .int (nI (u21.1 3)), .int (u21.2.1 6)])), (r0, .inl (cI, 30, .inl (u21.2.2.2 0))), (r1, .inl (cI, 30, .inl (u21.2.2.2 1))), (r2, .inl (cI, 30, .inl (u21.2.2.2 2))), (r3, .inl (cI, 30, .inl (u21.2.2.2 3))), (r4, .inl (cI, 30, .inl (u21.2.2.2 4))), (r5, .inl (cI, 30, .inl (u21.2.2.2 5))), (r6, .inl (cI, 30, .inl (u21.2.2.2 6))), (r7, .inl (cI, 30, .inl (u21.2.2.2 7)))])) (va_runV (C := RX10) (As := []) (rest := []) ⟨hx, hb, hml, hown, hts⟩ (c_X10_measure l D cI cS s.heap.size o0 t0 h0 tt kt cp n0 c0 x0 y0 ts mef9 l0 g0 ke ln att en n ak ap al ar ep eh ef es eg xb xp xn xs r0 r1 r2 r3 r4 r5 r6 r7 kf pf lf rf sf mu w hWf hL hln hsf hmi) (cwV 0 hts gX10_sample_X10_measure rfl rfl rfl (by decide +kernel) ⟨Nat.le_of_ble_eq_true rfl, Nat.le_of_ble_eq_true rfl⟩) (ft_preRWV (ci := 10) (q0 := 0) hP hD hKK [0, 1, 2, 3, 4, 5, 6, 7, 8, 9, 10, 11, 12, 13, 14, 15, 16, 17, 18, 19, 20, 21, 22, 23, 24, 25, 26, 27, 28] rfl rfl rfl rfl rfl) rfl rfl hl.1 rfl (lv_room (Nat.le_of_ble_eq_true rfl)) dX10_sample_21 ⟨Nat.le_of_ble_eq_true rfl, Nat.le_of_ble_eq_true rfl⟩) hP hD hS hA [0, 1, 2, 3, 4, 5, 6, 7, 8, 9, 10, 11, 12, 13, 14, 15, 16, 17, 18, 19, 20, 21, 22, 23, 24, 25, 26, 27, 28] [] [0, 1, 2, 3, 4, 5, 6, 7, 8, 9, 10, 11, 12, 13, 14, 15, 16, 17, 18, 19, 20, 21, 22, 23, 24, 25, 26, 27, 28] rfl rfl (by decide) (by decide) (by decide) (fun _ => rfl) (fun _ => rfl) (fun u21 hu21 H locs hP hD hS => ?_)
      obtain ⟨hms21, hnc21⟩ := hu21
      have hP : va_P D vwCl [(o0, .inr (10, [.ref t0, .ref h0, .ref tt, .ref kt, .ref cp, .ref n0, .ref c0, .ref x0, .ref y0, .ref ts, .int 1])), (t0, .inr (8, [.ref l0, .ref g0, .int (nI ke)])), (l0, .inr (4, [.int (nI ln), .int att, .int en, .int (nI n), .ref ak, .ref ap, .ref al, .ref ar])), (ak, .inl (cI, 10, .inl kf)), (ap, .inl (cI, 10, .inl pf)), (al, .inl (cI, 10, .inl lf)), (ar, .inl (cI, 10, .inl rf)), (g0, .inl (cI, 11, .inl sf)), (n0, .inr (6, [.int (u21.2.1 0), .int (u21.2.1 1)])), (c0, .inr (1, [.ref ep, .ref eh, .int (nI (u21.1 0)), .ref ef, .ref es, .ref eg, .int (nI (u21.1 1))])), (ep, .inl (cI, 11, .inl (u21.2.2.1 0))), (eh, .inl (cI, 11, .inl (u21.2.2.1 1))), (ef, .inl (cI, 55, .inl (u21.2.2.1 2))), (es, .inl (cI, 55, .inl (u21.2.2.1 3))), (eg, .inl (cI, 55, .inl (u21.2.2.1 4))), (x0, .inr (9, [.ref xb, .ref xp, .ref xn, .ref xs, .int (nI (u21.1 2)), .int (u21.2.1 2), .int (u21.2.1 3), .int (u21.2.1 4), .int (u21.2.1 5)])), (xb, .inl (cI, 460, .inl (u21.2.2.1 5))), (xp, .inl (cI, 460, .inl (u21.2.2.1 6))), (xn, .inl (cI, 460, .inl (u21.2.2.1 7))), (xs, .inl (cI, 460, .inl (u21.2.2.1 8))), (y0, .inr (7, [.ref r0, .ref r1, .ref r2, .ref r3, .ref r4, .ref r5, .ref r6, .ref r7, .int (nI (u21.1 3)), .int (u21.2.1 6)])), (r0, .inl (cI, 30, .inl (u21.2.2.2 0))), (r1, .inl (cI, 30, .inl (u21.2.2.2 1))), (r2, .inl (cI, 30, .inl (u21.2.2.2 2))), (r3, .inl (cI, 30, .inl (u21.2.2.2 3))), (r4, .inl (cI, 30, .inl (u21.2.2.2 4))), (r5, .inl (cI, 30, .inl (u21.2.2.2 5))), (r6, .inl (cI, 30, .inl (u21.2.2.2 6))), (r7, .inl (cI, 30, .inl (u21.2.2.2 7)))] H := hP
      have hD : va_D A [(o0, .inr (10, [.ref t0, .ref h0, .ref tt, .ref kt, .ref cp, .ref n0, .ref c0, .ref x0, .ref y0, .ref ts, .int 1])), (t0, .inr (8, [.ref l0, .ref g0, .int (nI ke)])), (l0, .inr (4, [.int (nI ln), .int att, .int en, .int (nI n), .ref ak, .ref ap, .ref al, .ref ar])), (ak, .inl (cI, 10, .inl kf)), (ap, .inl (cI, 10, .inl pf)), (al, .inl (cI, 10, .inl lf)), (ar, .inl (cI, 10, .inl rf)), (g0, .inl (cI, 11, .inl sf)), (n0, .inr (6, [.int (u21.2.1 0), .int (u21.2.1 1)])), (c0, .inr (1, [.ref ep, .ref eh, .int (nI (u21.1 0)), .ref ef, .ref es, .ref eg, .int (nI (u21.1 1))])), (ep, .inl (cI, 11, .inl (u21.2.2.1 0))), (eh, .inl (cI, 11, .inl (u21.2.2.1 1))), (ef, .inl (cI, 55, .inl (u21.2.2.1 2))), (es, .inl (cI, 55, .inl (u21.2.2.1 3))), (eg, .inl (cI, 55, .inl (u21.2.2.1 4))), (x0, .inr (9, [.ref xb, .ref xp, .ref xn, .ref xs, .int (nI (u21.1 2)), .int (u21.2.1 2), .int (u21.2.1 3), .int (u21.2.1 4), .int (u21.2.1 5)])), (xb, .inl (cI, 460, .inl (u21.2.2.1 5))), (xp, .inl (cI, 460, .inl (u21.2.2.1 6))), (xn, .inl (cI, 460, .inl (u21.2.2.1 7))), (xs, .inl (cI, 460, .inl (u21.2.2.1 8))), (y0, .inr (7, [.ref r0, .ref r1, .ref r2, .ref r3, .ref r4, .ref r5, .ref r6, .ref r7, .int (nI (u21.1 3)), .int (u21.2.1 6)])), (r0, .inl (cI, 30, .inl (u21.2.2.2 0))), (r1, .inl (cI, 30, .inl (u21.2.2.2 1))), (r2, .inl (cI, 30, .inl (u21.2.2.2 2))), (r3, .inl (cI, 30, .inl (u21.2.2.2 3))), (r4, .inl (cI, 30, .inl (u21.2.2.2 4))), (r5, .inl (cI, 30, .inl (u21.2.2.2 5))), (r6, .inl (cI, 30, .inl (u21.2.2.2 6))), (r7, .inl (cI, 30, .inl (u21.2.2.2 7)))] := hD
      obtain ⟨k9, hxk, hkl⟩ := ft_tpk (by omega) (by omega) (htp.mp c5)
      have hin : ftSmA w xq9 yq9 = ftSmK w k9 yq9 := by
        unfold ftSmA
        rw [ftIte_t ⟨htp.mp c5, c14⟩, hxk, nI_clamp (by omega)]
      have hrow := hms21.2.1 k9 (by omega)
      rw [hxk] at hl
      refine lv_iload_n hx hb dX10_sample_24 rfl (lv_at hl 2 rfl) ?_
      by_cases c25_0 : yq9 = 0
      · refine lv_tableIn (off := 27) (tgt := 52) hx hb dX10_sample_25 (by rw [c25_0]; decide) (by rw [c25_0]; decide) (by rw [c25_0]; decide) (by decide) ?_
        refine lv_aload_n hx hb dX10_sample_52 rfl (lv_at hl 0 rfl) ?_
        refine va_get (D := D) (ci := 10) (v := .ref x0) (C := RX10) (T := TX10) (N := 11) hx hb hts (by decide +kernel) hown hK hP 0 rfl rfl 7 (by decide) (hts (.fieldLink RX10 61 "FiberTrace" "trace" "LFiberTrace$Trace;") (by decide +kernel)) (fun _ h9 => h9) rfl dX10_sample_53 ?_
        refine va_get (D := D) (ci := 9) (v := .ref xs) (C := RX9) (T := TX9) (N := 9) hx hb hts (by decide +kernel) hown hK hP 15 rfl rfl 3 (by decide) (hts (.fieldLink RX10 213 "FiberTrace$Trace" "samples" "[I") (by decide +kernel)) (fun _ h9 => h9) rfl dX10_sample_56 ?_
        refine lv_iload_n hx hb dX10_sample_59 rfl (lv_at hl 1 rfl) ?_
        refine ft_csi (r := ftAt 460 (u21.2.2.1 8) (nI k9)) (va_runS (As := [.ref xs, .int (nI k9)]) (rest := []) ⟨hx, hb, hml, hown, hts⟩ (c_X10_at l D cI cS xs 460 (u21.2.2.1 8) (nI k9) (by first | assumption | omega)) (va_cwS 2 hts gX10_sample_X10_at rfl rfl rfl (by decide +kernel) ⟨Nat.le_of_ble_eq_true rfl, Nat.le_of_ble_eq_true rfl⟩) (ft_preRO hP hKK [19] rfl) rfl rfl hl.1 rfl (lv_room (Nat.le_of_ble_eq_true rfl)) dX10_sample_60 ⟨Nat.le_of_ble_eq_true rfl, Nat.le_of_ble_eq_true rfl⟩) ?_
        refine ft_top (y := (u21.2.2.1 8) k9) (ftAt_N (by omega) (by omega)) ?_
        obtain ⟨u9, hu9⟩ : ∃ u9 : Int32 × ftUm, u9 = ((1 : Int32), u21) := ⟨_, rfl⟩
        have hw9 : ([(o0, .inr (10, [.ref t0, .ref h0, .ref tt, .ref kt, .ref cp, .ref n0, .ref c0, .ref x0, .ref y0, .ref ts, .int 1])), (t0, .inr (8, [.ref l0, .ref g0, .int (nI ke)])), (l0, .inr (4, [.int (nI ln), .int att, .int en, .int (nI n), .ref ak, .ref ap, .ref al, .ref ar])), (ak, .inl (cI, 10, .inl kf)), (ap, .inl (cI, 10, .inl pf)), (al, .inl (cI, 10, .inl lf)), (ar, .inl (cI, 10, .inl rf)), (g0, .inl (cI, 11, .inl sf)), (n0, .inr (6, [.int (u21.2.1 0), .int (u21.2.1 1)])), (c0, .inr (1, [.ref ep, .ref eh, .int (nI (u21.1 0)), .ref ef, .ref es, .ref eg, .int (nI (u21.1 1))])), (ep, .inl (cI, 11, .inl (u21.2.2.1 0))), (eh, .inl (cI, 11, .inl (u21.2.2.1 1))), (ef, .inl (cI, 55, .inl (u21.2.2.1 2))), (es, .inl (cI, 55, .inl (u21.2.2.1 3))), (eg, .inl (cI, 55, .inl (u21.2.2.1 4))), (x0, .inr (9, [.ref xb, .ref xp, .ref xn, .ref xs, .int (nI (u21.1 2)), .int (u21.2.1 2), .int (u21.2.1 3), .int (u21.2.1 4), .int (u21.2.1 5)])), (xb, .inl (cI, 460, .inl (u21.2.2.1 5))), (xp, .inl (cI, 460, .inl (u21.2.2.1 6))), (xn, .inl (cI, 460, .inl (u21.2.2.1 7))), (xs, .inl (cI, 460, .inl (u21.2.2.1 8))), (y0, .inr (7, [.ref r0, .ref r1, .ref r2, .ref r3, .ref r4, .ref r5, .ref r6, .ref r7, .int (nI (u21.1 3)), .int (u21.2.1 6)])), (r0, .inl (cI, 30, .inl (u21.2.2.2 0))), (r1, .inl (cI, 30, .inl (u21.2.2.2 1))), (r2, .inl (cI, 30, .inl (u21.2.2.2 2))), (r3, .inl (cI, 30, .inl (u21.2.2.2 3))), (r4, .inl (cI, 30, .inl (u21.2.2.2 4))), (r5, .inl (cI, 30, .inl (u21.2.2.2 5))), (r6, .inl (cI, 30, .inl (u21.2.2.2 6))), (r7, .inl (cI, 30, .inl (u21.2.2.2 7)))] : va_W) = [(o0, .inr (10, [.ref t0, .ref h0, .ref tt, .ref kt, .ref cp, .ref n0, .ref c0, .ref x0, .ref y0, .ref ts, .int u9.1])), (t0, .inr (8, [.ref l0, .ref g0, .int (nI ke)])), (l0, .inr (4, [.int (nI ln), .int att, .int en, .int (nI n), .ref ak, .ref ap, .ref al, .ref ar])), (ak, .inl (cI, 10, .inl kf)), (ap, .inl (cI, 10, .inl pf)), (al, .inl (cI, 10, .inl lf)), (ar, .inl (cI, 10, .inl rf)), (g0, .inl (cI, 11, .inl sf)), (n0, .inr (6, [.int (u9.2.2.1 0), .int (u9.2.2.1 1)])), (c0, .inr (1, [.ref ep, .ref eh, .int (nI (u9.2.1 0)), .ref ef, .ref es, .ref eg, .int (nI (u9.2.1 1))])), (ep, .inl (cI, 11, .inl (u9.2.2.2.1 0))), (eh, .inl (cI, 11, .inl (u9.2.2.2.1 1))), (ef, .inl (cI, 55, .inl (u9.2.2.2.1 2))), (es, .inl (cI, 55, .inl (u9.2.2.2.1 3))), (eg, .inl (cI, 55, .inl (u9.2.2.2.1 4))), (x0, .inr (9, [.ref xb, .ref xp, .ref xn, .ref xs, .int (nI (u9.2.1 2)), .int (u9.2.2.1 2), .int (u9.2.2.1 3), .int (u9.2.2.1 4), .int (u9.2.2.1 5)])), (xb, .inl (cI, 460, .inl (u9.2.2.2.1 5))), (xp, .inl (cI, 460, .inl (u9.2.2.2.1 6))), (xn, .inl (cI, 460, .inl (u9.2.2.2.1 7))), (xs, .inl (cI, 460, .inl (u9.2.2.2.1 8))), (y0, .inr (7, [.ref r0, .ref r1, .ref r2, .ref r3, .ref r4, .ref r5, .ref r6, .ref r7, .int (nI (u9.2.1 3)), .int (u9.2.2.1 6)])), (r0, .inl (cI, 30, .inl (u9.2.2.2.2 0))), (r1, .inl (cI, 30, .inl (u9.2.2.2.2 1))), (r2, .inl (cI, 30, .inl (u9.2.2.2.2 2))), (r3, .inl (cI, 30, .inl (u9.2.2.2.2 3))), (r4, .inl (cI, 30, .inl (u9.2.2.2.2 4))), (r5, .inl (cI, 30, .inl (u9.2.2.2.2 5))), (r6, .inl (cI, 30, .inl (u9.2.2.2.2 6))), (r7, .inl (cI, 30, .inl (u9.2.2.2.2 7)))] := by subst hu9; rfl
        rw [hw9] at hP hD
        have hf9_0 : ftMi w u9.1 u9.2 := by rw [hu9]; exact ⟨Or.inr rfl, fun _ => hms21, hnc21⟩
        have hr9 : ((u21.2.2.1 8) k9 : Int32) = ftSmA w xq9 yq9 := by rw [hin, ftSmK, if_pos c25_0]; exact hrow.2.2.2
        exact W.iret (v := (u21.2.2.1 8) k9) hx hb hr (fun t ht hW => ⟨⟨(u21.2.2.1 8) k9, u9, rfl, ⟨hr9, hf9_0⟩, by rw [ht]; exact hP, by rw [hAe]; exact hD⟩, by rw [hAe]; exact hS.F ht⟩) hS.2.2 dX10_sample_63
      by_cases c25_1 : yq9 = 1
      · refine lv_tableIn (off := 39) (tgt := 64) hx hb dX10_sample_25 (by rw [c25_1]; decide) (by rw [c25_1]; decide) (by rw [c25_1]; decide) (by decide) ?_
        refine lv_aload_n hx hb dX10_sample_64 rfl (lv_at hl 0 rfl) ?_
        refine va_get (D := D) (ci := 10) (v := .ref x0) (C := RX10) (T := TX10) (N := 11) hx hb hts (by decide +kernel) hown hK hP 0 rfl rfl 7 (by decide) (hts (.fieldLink RX10 61 "FiberTrace" "trace" "LFiberTrace$Trace;") (by decide +kernel)) (fun _ h9 => h9) rfl dX10_sample_65 ?_
        refine va_get (D := D) (ci := 9) (v := .ref xb) (C := RX9) (T := TX9) (N := 9) hx hb hts (by decide +kernel) hown hK hP 15 rfl rfl 0 (by decide) (hts (.fieldLink RX10 216 "FiberTrace$Trace" "base" "[I") (by decide +kernel)) (fun _ h9 => h9) rfl dX10_sample_68 ?_
        refine lv_iload_n hx hb dX10_sample_71 rfl (lv_at hl 1 rfl) ?_
        refine ft_csi (r := ftAt 460 (u21.2.2.1 5) (nI k9)) (va_runS (As := [.ref xb, .int (nI k9)]) (rest := []) ⟨hx, hb, hml, hown, hts⟩ (c_X10_at l D cI cS xb 460 (u21.2.2.1 5) (nI k9) (by first | assumption | omega)) (va_cwS 2 hts gX10_sample_X10_at rfl rfl rfl (by decide +kernel) ⟨Nat.le_of_ble_eq_true rfl, Nat.le_of_ble_eq_true rfl⟩) (ft_preRO hP hKK [16] rfl) rfl rfl hl.1 rfl (lv_room (Nat.le_of_ble_eq_true rfl)) dX10_sample_72 ⟨Nat.le_of_ble_eq_true rfl, Nat.le_of_ble_eq_true rfl⟩) ?_
        refine ft_top (y := (u21.2.2.1 5) k9) (ftAt_N (by omega) (by omega)) ?_
        obtain ⟨u9, hu9⟩ : ∃ u9 : Int32 × ftUm, u9 = ((1 : Int32), u21) := ⟨_, rfl⟩
        have hw9 : ([(o0, .inr (10, [.ref t0, .ref h0, .ref tt, .ref kt, .ref cp, .ref n0, .ref c0, .ref x0, .ref y0, .ref ts, .int 1])), (t0, .inr (8, [.ref l0, .ref g0, .int (nI ke)])), (l0, .inr (4, [.int (nI ln), .int att, .int en, .int (nI n), .ref ak, .ref ap, .ref al, .ref ar])), (ak, .inl (cI, 10, .inl kf)), (ap, .inl (cI, 10, .inl pf)), (al, .inl (cI, 10, .inl lf)), (ar, .inl (cI, 10, .inl rf)), (g0, .inl (cI, 11, .inl sf)), (n0, .inr (6, [.int (u21.2.1 0), .int (u21.2.1 1)])), (c0, .inr (1, [.ref ep, .ref eh, .int (nI (u21.1 0)), .ref ef, .ref es, .ref eg, .int (nI (u21.1 1))])), (ep, .inl (cI, 11, .inl (u21.2.2.1 0))), (eh, .inl (cI, 11, .inl (u21.2.2.1 1))), (ef, .inl (cI, 55, .inl (u21.2.2.1 2))), (es, .inl (cI, 55, .inl (u21.2.2.1 3))), (eg, .inl (cI, 55, .inl (u21.2.2.1 4))), (x0, .inr (9, [.ref xb, .ref xp, .ref xn, .ref xs, .int (nI (u21.1 2)), .int (u21.2.1 2), .int (u21.2.1 3), .int (u21.2.1 4), .int (u21.2.1 5)])), (xb, .inl (cI, 460, .inl (u21.2.2.1 5))), (xp, .inl (cI, 460, .inl (u21.2.2.1 6))), (xn, .inl (cI, 460, .inl (u21.2.2.1 7))), (xs, .inl (cI, 460, .inl (u21.2.2.1 8))), (y0, .inr (7, [.ref r0, .ref r1, .ref r2, .ref r3, .ref r4, .ref r5, .ref r6, .ref r7, .int (nI (u21.1 3)), .int (u21.2.1 6)])), (r0, .inl (cI, 30, .inl (u21.2.2.2 0))), (r1, .inl (cI, 30, .inl (u21.2.2.2 1))), (r2, .inl (cI, 30, .inl (u21.2.2.2 2))), (r3, .inl (cI, 30, .inl (u21.2.2.2 3))), (r4, .inl (cI, 30, .inl (u21.2.2.2 4))), (r5, .inl (cI, 30, .inl (u21.2.2.2 5))), (r6, .inl (cI, 30, .inl (u21.2.2.2 6))), (r7, .inl (cI, 30, .inl (u21.2.2.2 7)))] : va_W) = [(o0, .inr (10, [.ref t0, .ref h0, .ref tt, .ref kt, .ref cp, .ref n0, .ref c0, .ref x0, .ref y0, .ref ts, .int u9.1])), (t0, .inr (8, [.ref l0, .ref g0, .int (nI ke)])), (l0, .inr (4, [.int (nI ln), .int att, .int en, .int (nI n), .ref ak, .ref ap, .ref al, .ref ar])), (ak, .inl (cI, 10, .inl kf)), (ap, .inl (cI, 10, .inl pf)), (al, .inl (cI, 10, .inl lf)), (ar, .inl (cI, 10, .inl rf)), (g0, .inl (cI, 11, .inl sf)), (n0, .inr (6, [.int (u9.2.2.1 0), .int (u9.2.2.1 1)])), (c0, .inr (1, [.ref ep, .ref eh, .int (nI (u9.2.1 0)), .ref ef, .ref es, .ref eg, .int (nI (u9.2.1 1))])), (ep, .inl (cI, 11, .inl (u9.2.2.2.1 0))), (eh, .inl (cI, 11, .inl (u9.2.2.2.1 1))), (ef, .inl (cI, 55, .inl (u9.2.2.2.1 2))), (es, .inl (cI, 55, .inl (u9.2.2.2.1 3))), (eg, .inl (cI, 55, .inl (u9.2.2.2.1 4))), (x0, .inr (9, [.ref xb, .ref xp, .ref xn, .ref xs, .int (nI (u9.2.1 2)), .int (u9.2.2.1 2), .int (u9.2.2.1 3), .int (u9.2.2.1 4), .int (u9.2.2.1 5)])), (xb, .inl (cI, 460, .inl (u9.2.2.2.1 5))), (xp, .inl (cI, 460, .inl (u9.2.2.2.1 6))), (xn, .inl (cI, 460, .inl (u9.2.2.2.1 7))), (xs, .inl (cI, 460, .inl (u9.2.2.2.1 8))), (y0, .inr (7, [.ref r0, .ref r1, .ref r2, .ref r3, .ref r4, .ref r5, .ref r6, .ref r7, .int (nI (u9.2.1 3)), .int (u9.2.2.1 6)])), (r0, .inl (cI, 30, .inl (u9.2.2.2.2 0))), (r1, .inl (cI, 30, .inl (u9.2.2.2.2 1))), (r2, .inl (cI, 30, .inl (u9.2.2.2.2 2))), (r3, .inl (cI, 30, .inl (u9.2.2.2.2 3))), (r4, .inl (cI, 30, .inl (u9.2.2.2.2 4))), (r5, .inl (cI, 30, .inl (u9.2.2.2.2 5))), (r6, .inl (cI, 30, .inl (u9.2.2.2.2 6))), (r7, .inl (cI, 30, .inl (u9.2.2.2.2 7)))] := by subst hu9; rfl
        rw [hw9] at hP hD
        have hf9_0 : ftMi w u9.1 u9.2 := by rw [hu9]; exact ⟨Or.inr rfl, fun _ => hms21, hnc21⟩
        have hr9 : ((u21.2.2.1 5) k9 : Int32) = ftSmA w xq9 yq9 := by rw [hin, ftSmK, if_neg c25_0, if_pos c25_1]; exact hrow.1
        exact W.iret (v := (u21.2.2.1 5) k9) hx hb hr (fun t ht hW => ⟨⟨(u21.2.2.1 5) k9, u9, rfl, ⟨hr9, hf9_0⟩, by rw [ht]; exact hP, by rw [hAe]; exact hD⟩, by rw [hAe]; exact hS.F ht⟩) hS.2.2 dX10_sample_75
      by_cases c25_2 : yq9 = 2
      · refine lv_tableIn (off := 51) (tgt := 76) hx hb dX10_sample_25 (by rw [c25_2]; decide) (by rw [c25_2]; decide) (by rw [c25_2]; decide) (by decide) ?_
        refine lv_aload_n hx hb dX10_sample_76 rfl (lv_at hl 0 rfl) ?_
        refine va_get (D := D) (ci := 10) (v := .ref x0) (C := RX10) (T := TX10) (N := 11) hx hb hts (by decide +kernel) hown hK hP 0 rfl rfl 7 (by decide) (hts (.fieldLink RX10 61 "FiberTrace" "trace" "LFiberTrace$Trace;") (by decide +kernel)) (fun _ h9 => h9) rfl dX10_sample_77 ?_
        refine va_get (D := D) (ci := 9) (v := .ref xp) (C := RX9) (T := TX9) (N := 9) hx hb hts (by decide +kernel) hown hK hP 15 rfl rfl 1 (by decide) (hts (.fieldLink RX10 219 "FiberTrace$Trace" "peaks" "[I") (by decide +kernel)) (fun _ h9 => h9) rfl dX10_sample_80 ?_
        refine lv_iload_n hx hb dX10_sample_83 rfl (lv_at hl 1 rfl) ?_
        refine ft_csi (r := ftAt 460 (u21.2.2.1 6) (nI k9)) (va_runS (As := [.ref xp, .int (nI k9)]) (rest := []) ⟨hx, hb, hml, hown, hts⟩ (c_X10_at l D cI cS xp 460 (u21.2.2.1 6) (nI k9) (by first | assumption | omega)) (va_cwS 2 hts gX10_sample_X10_at rfl rfl rfl (by decide +kernel) ⟨Nat.le_of_ble_eq_true rfl, Nat.le_of_ble_eq_true rfl⟩) (ft_preRO hP hKK [17] rfl) rfl rfl hl.1 rfl (lv_room (Nat.le_of_ble_eq_true rfl)) dX10_sample_84 ⟨Nat.le_of_ble_eq_true rfl, Nat.le_of_ble_eq_true rfl⟩) ?_
        refine ft_top (y := (u21.2.2.1 6) k9) (ftAt_N (by omega) (by omega)) ?_
        obtain ⟨u9, hu9⟩ : ∃ u9 : Int32 × ftUm, u9 = ((1 : Int32), u21) := ⟨_, rfl⟩
        have hw9 : ([(o0, .inr (10, [.ref t0, .ref h0, .ref tt, .ref kt, .ref cp, .ref n0, .ref c0, .ref x0, .ref y0, .ref ts, .int 1])), (t0, .inr (8, [.ref l0, .ref g0, .int (nI ke)])), (l0, .inr (4, [.int (nI ln), .int att, .int en, .int (nI n), .ref ak, .ref ap, .ref al, .ref ar])), (ak, .inl (cI, 10, .inl kf)), (ap, .inl (cI, 10, .inl pf)), (al, .inl (cI, 10, .inl lf)), (ar, .inl (cI, 10, .inl rf)), (g0, .inl (cI, 11, .inl sf)), (n0, .inr (6, [.int (u21.2.1 0), .int (u21.2.1 1)])), (c0, .inr (1, [.ref ep, .ref eh, .int (nI (u21.1 0)), .ref ef, .ref es, .ref eg, .int (nI (u21.1 1))])), (ep, .inl (cI, 11, .inl (u21.2.2.1 0))), (eh, .inl (cI, 11, .inl (u21.2.2.1 1))), (ef, .inl (cI, 55, .inl (u21.2.2.1 2))), (es, .inl (cI, 55, .inl (u21.2.2.1 3))), (eg, .inl (cI, 55, .inl (u21.2.2.1 4))), (x0, .inr (9, [.ref xb, .ref xp, .ref xn, .ref xs, .int (nI (u21.1 2)), .int (u21.2.1 2), .int (u21.2.1 3), .int (u21.2.1 4), .int (u21.2.1 5)])), (xb, .inl (cI, 460, .inl (u21.2.2.1 5))), (xp, .inl (cI, 460, .inl (u21.2.2.1 6))), (xn, .inl (cI, 460, .inl (u21.2.2.1 7))), (xs, .inl (cI, 460, .inl (u21.2.2.1 8))), (y0, .inr (7, [.ref r0, .ref r1, .ref r2, .ref r3, .ref r4, .ref r5, .ref r6, .ref r7, .int (nI (u21.1 3)), .int (u21.2.1 6)])), (r0, .inl (cI, 30, .inl (u21.2.2.2 0))), (r1, .inl (cI, 30, .inl (u21.2.2.2 1))), (r2, .inl (cI, 30, .inl (u21.2.2.2 2))), (r3, .inl (cI, 30, .inl (u21.2.2.2 3))), (r4, .inl (cI, 30, .inl (u21.2.2.2 4))), (r5, .inl (cI, 30, .inl (u21.2.2.2 5))), (r6, .inl (cI, 30, .inl (u21.2.2.2 6))), (r7, .inl (cI, 30, .inl (u21.2.2.2 7)))] : va_W) = [(o0, .inr (10, [.ref t0, .ref h0, .ref tt, .ref kt, .ref cp, .ref n0, .ref c0, .ref x0, .ref y0, .ref ts, .int u9.1])), (t0, .inr (8, [.ref l0, .ref g0, .int (nI ke)])), (l0, .inr (4, [.int (nI ln), .int att, .int en, .int (nI n), .ref ak, .ref ap, .ref al, .ref ar])), (ak, .inl (cI, 10, .inl kf)), (ap, .inl (cI, 10, .inl pf)), (al, .inl (cI, 10, .inl lf)), (ar, .inl (cI, 10, .inl rf)), (g0, .inl (cI, 11, .inl sf)), (n0, .inr (6, [.int (u9.2.2.1 0), .int (u9.2.2.1 1)])), (c0, .inr (1, [.ref ep, .ref eh, .int (nI (u9.2.1 0)), .ref ef, .ref es, .ref eg, .int (nI (u9.2.1 1))])), (ep, .inl (cI, 11, .inl (u9.2.2.2.1 0))), (eh, .inl (cI, 11, .inl (u9.2.2.2.1 1))), (ef, .inl (cI, 55, .inl (u9.2.2.2.1 2))), (es, .inl (cI, 55, .inl (u9.2.2.2.1 3))), (eg, .inl (cI, 55, .inl (u9.2.2.2.1 4))), (x0, .inr (9, [.ref xb, .ref xp, .ref xn, .ref xs, .int (nI (u9.2.1 2)), .int (u9.2.2.1 2), .int (u9.2.2.1 3), .int (u9.2.2.1 4), .int (u9.2.2.1 5)])), (xb, .inl (cI, 460, .inl (u9.2.2.2.1 5))), (xp, .inl (cI, 460, .inl (u9.2.2.2.1 6))), (xn, .inl (cI, 460, .inl (u9.2.2.2.1 7))), (xs, .inl (cI, 460, .inl (u9.2.2.2.1 8))), (y0, .inr (7, [.ref r0, .ref r1, .ref r2, .ref r3, .ref r4, .ref r5, .ref r6, .ref r7, .int (nI (u9.2.1 3)), .int (u9.2.2.1 6)])), (r0, .inl (cI, 30, .inl (u9.2.2.2.2 0))), (r1, .inl (cI, 30, .inl (u9.2.2.2.2 1))), (r2, .inl (cI, 30, .inl (u9.2.2.2.2 2))), (r3, .inl (cI, 30, .inl (u9.2.2.2.2 3))), (r4, .inl (cI, 30, .inl (u9.2.2.2.2 4))), (r5, .inl (cI, 30, .inl (u9.2.2.2.2 5))), (r6, .inl (cI, 30, .inl (u9.2.2.2.2 6))), (r7, .inl (cI, 30, .inl (u9.2.2.2.2 7)))] := by subst hu9; rfl
        rw [hw9] at hP hD
        have hf9_0 : ftMi w u9.1 u9.2 := by rw [hu9]; exact ⟨Or.inr rfl, fun _ => hms21, hnc21⟩
        have hr9 : ((u21.2.2.1 6) k9 : Int32) = ftSmA w xq9 yq9 := by rw [hin, ftSmK, if_neg c25_0, if_neg c25_1, if_pos c25_2]; exact hrow.2.1
        exact W.iret (v := (u21.2.2.1 6) k9) hx hb hr (fun t ht hW => ⟨⟨(u21.2.2.1 6) k9, u9, rfl, ⟨hr9, hf9_0⟩, by rw [ht]; exact hP, by rw [hAe]; exact hD⟩, by rw [hAe]; exact hS.F ht⟩) hS.2.2 dX10_sample_87
      have c25_0i := lv_neT (a := 0) c25_0 (by decide)
      have c25_1i := lv_neT (a := 1) c25_1 (by decide)
      have c25_2i := lv_neT (a := 2) c25_2 (by decide)
      refine lv_tableOut (tgt := 88) hx hb dX10_sample_25 (by omega) (by decide) ?_
      refine lv_aload_n hx hb dX10_sample_88 rfl (lv_at hl 0 rfl) ?_
      refine va_get (D := D) (ci := 10) (v := .ref x0) (C := RX10) (T := TX10) (N := 11) hx hb hts (by decide +kernel) hown hK hP 0 rfl rfl 7 (by decide) (hts (.fieldLink RX10 61 "FiberTrace" "trace" "LFiberTrace$Trace;") (by decide +kernel)) (fun _ h9 => h9) rfl dX10_sample_89 ?_
      refine va_get (D := D) (ci := 9) (v := .ref xn) (C := RX9) (T := TX9) (N := 9) hx hb hts (by decide +kernel) hown hK hP 15 rfl rfl 2 (by decide) (hts (.fieldLink RX10 222 "FiberTrace$Trace" "noise" "[I") (by decide +kernel)) (fun _ h9 => h9) rfl dX10_sample_92 ?_
      refine lv_iload_n hx hb dX10_sample_95 rfl (lv_at hl 1 rfl) ?_
      refine ft_csi (r := ftAt 460 (u21.2.2.1 7) (nI k9)) (va_runS (As := [.ref xn, .int (nI k9)]) (rest := []) ⟨hx, hb, hml, hown, hts⟩ (c_X10_at l D cI cS xn 460 (u21.2.2.1 7) (nI k9) (by first | assumption | omega)) (va_cwS 2 hts gX10_sample_X10_at rfl rfl rfl (by decide +kernel) ⟨Nat.le_of_ble_eq_true rfl, Nat.le_of_ble_eq_true rfl⟩) (ft_preRO hP hKK [18] rfl) rfl rfl hl.1 rfl (lv_room (Nat.le_of_ble_eq_true rfl)) dX10_sample_96 ⟨Nat.le_of_ble_eq_true rfl, Nat.le_of_ble_eq_true rfl⟩) ?_
      refine ft_top (y := (u21.2.2.1 7) k9) (ftAt_N (by omega) (by omega)) ?_
      obtain ⟨u9, hu9⟩ : ∃ u9 : Int32 × ftUm, u9 = ((1 : Int32), u21) := ⟨_, rfl⟩
      have hw9 : ([(o0, .inr (10, [.ref t0, .ref h0, .ref tt, .ref kt, .ref cp, .ref n0, .ref c0, .ref x0, .ref y0, .ref ts, .int 1])), (t0, .inr (8, [.ref l0, .ref g0, .int (nI ke)])), (l0, .inr (4, [.int (nI ln), .int att, .int en, .int (nI n), .ref ak, .ref ap, .ref al, .ref ar])), (ak, .inl (cI, 10, .inl kf)), (ap, .inl (cI, 10, .inl pf)), (al, .inl (cI, 10, .inl lf)), (ar, .inl (cI, 10, .inl rf)), (g0, .inl (cI, 11, .inl sf)), (n0, .inr (6, [.int (u21.2.1 0), .int (u21.2.1 1)])), (c0, .inr (1, [.ref ep, .ref eh, .int (nI (u21.1 0)), .ref ef, .ref es, .ref eg, .int (nI (u21.1 1))])), (ep, .inl (cI, 11, .inl (u21.2.2.1 0))), (eh, .inl (cI, 11, .inl (u21.2.2.1 1))), (ef, .inl (cI, 55, .inl (u21.2.2.1 2))), (es, .inl (cI, 55, .inl (u21.2.2.1 3))), (eg, .inl (cI, 55, .inl (u21.2.2.1 4))), (x0, .inr (9, [.ref xb, .ref xp, .ref xn, .ref xs, .int (nI (u21.1 2)), .int (u21.2.1 2), .int (u21.2.1 3), .int (u21.2.1 4), .int (u21.2.1 5)])), (xb, .inl (cI, 460, .inl (u21.2.2.1 5))), (xp, .inl (cI, 460, .inl (u21.2.2.1 6))), (xn, .inl (cI, 460, .inl (u21.2.2.1 7))), (xs, .inl (cI, 460, .inl (u21.2.2.1 8))), (y0, .inr (7, [.ref r0, .ref r1, .ref r2, .ref r3, .ref r4, .ref r5, .ref r6, .ref r7, .int (nI (u21.1 3)), .int (u21.2.1 6)])), (r0, .inl (cI, 30, .inl (u21.2.2.2 0))), (r1, .inl (cI, 30, .inl (u21.2.2.2 1))), (r2, .inl (cI, 30, .inl (u21.2.2.2 2))), (r3, .inl (cI, 30, .inl (u21.2.2.2 3))), (r4, .inl (cI, 30, .inl (u21.2.2.2 4))), (r5, .inl (cI, 30, .inl (u21.2.2.2 5))), (r6, .inl (cI, 30, .inl (u21.2.2.2 6))), (r7, .inl (cI, 30, .inl (u21.2.2.2 7)))] : va_W) = [(o0, .inr (10, [.ref t0, .ref h0, .ref tt, .ref kt, .ref cp, .ref n0, .ref c0, .ref x0, .ref y0, .ref ts, .int u9.1])), (t0, .inr (8, [.ref l0, .ref g0, .int (nI ke)])), (l0, .inr (4, [.int (nI ln), .int att, .int en, .int (nI n), .ref ak, .ref ap, .ref al, .ref ar])), (ak, .inl (cI, 10, .inl kf)), (ap, .inl (cI, 10, .inl pf)), (al, .inl (cI, 10, .inl lf)), (ar, .inl (cI, 10, .inl rf)), (g0, .inl (cI, 11, .inl sf)), (n0, .inr (6, [.int (u9.2.2.1 0), .int (u9.2.2.1 1)])), (c0, .inr (1, [.ref ep, .ref eh, .int (nI (u9.2.1 0)), .ref ef, .ref es, .ref eg, .int (nI (u9.2.1 1))])), (ep, .inl (cI, 11, .inl (u9.2.2.2.1 0))), (eh, .inl (cI, 11, .inl (u9.2.2.2.1 1))), (ef, .inl (cI, 55, .inl (u9.2.2.2.1 2))), (es, .inl (cI, 55, .inl (u9.2.2.2.1 3))), (eg, .inl (cI, 55, .inl (u9.2.2.2.1 4))), (x0, .inr (9, [.ref xb, .ref xp, .ref xn, .ref xs, .int (nI (u9.2.1 2)), .int (u9.2.2.1 2), .int (u9.2.2.1 3), .int (u9.2.2.1 4), .int (u9.2.2.1 5)])), (xb, .inl (cI, 460, .inl (u9.2.2.2.1 5))), (xp, .inl (cI, 460, .inl (u9.2.2.2.1 6))), (xn, .inl (cI, 460, .inl (u9.2.2.2.1 7))), (xs, .inl (cI, 460, .inl (u9.2.2.2.1 8))), (y0, .inr (7, [.ref r0, .ref r1, .ref r2, .ref r3, .ref r4, .ref r5, .ref r6, .ref r7, .int (nI (u9.2.1 3)), .int (u9.2.2.1 6)])), (r0, .inl (cI, 30, .inl (u9.2.2.2.2 0))), (r1, .inl (cI, 30, .inl (u9.2.2.2.2 1))), (r2, .inl (cI, 30, .inl (u9.2.2.2.2 2))), (r3, .inl (cI, 30, .inl (u9.2.2.2.2 3))), (r4, .inl (cI, 30, .inl (u9.2.2.2.2 4))), (r5, .inl (cI, 30, .inl (u9.2.2.2.2 5))), (r6, .inl (cI, 30, .inl (u9.2.2.2.2 6))), (r7, .inl (cI, 30, .inl (u9.2.2.2.2 7)))] := by subst hu9; rfl
      rw [hw9] at hP hD
      have hf9_0 : ftMi w u9.1 u9.2 := by rw [hu9]; exact ⟨Or.inr rfl, fun _ => hms21, hnc21⟩
      have hr9 : ((u21.2.2.1 7) k9 : Int32) = ftSmA w xq9 yq9 := by rw [hin, ftSmK, if_neg c25_0, if_neg c25_1, if_neg c25_2]; exact hrow.2.2.1
      exact W.iret (v := (u21.2.2.1 7) k9) hx hb hr (fun t ht hW => ⟨⟨(u21.2.2.1 7) k9, u9, rfl, ⟨hr9, hf9_0⟩, by rw [ht]; exact hP, by rw [hAe]; exact hD⟩, by rw [hAe]; exact hS.F ht⟩) hS.2.2 dX10_sample_99
    · replace c14 := ftB_eq c14
      have hv9 : (-1000001 : Int32) = ftSmA w xq9 yq9 := (ftIte_f (fun q => c14 q.2)).symm
      refine lv_ldc (v := (-1000001)) hx hb hown (hts (.constant RX10 84 (-1000001)) (by decide +kernel)) dX10_sample_17 ?_
      obtain ⟨u9, hu9⟩ : ∃ u9 : Int32 × ftUm, u9 = (mef9, mu) := ⟨_, rfl⟩
      have hw9 : ([(o0, .inr (10, [.ref t0, .ref h0, .ref tt, .ref kt, .ref cp, .ref n0, .ref c0, .ref x0, .ref y0, .ref ts, .int mef9])), (t0, .inr (8, [.ref l0, .ref g0, .int (nI ke)])), (l0, .inr (4, [.int (nI ln), .int att, .int en, .int (nI n), .ref ak, .ref ap, .ref al, .ref ar])), (ak, .inl (cI, 10, .inl kf)), (ap, .inl (cI, 10, .inl pf)), (al, .inl (cI, 10, .inl lf)), (ar, .inl (cI, 10, .inl rf)), (g0, .inl (cI, 11, .inl sf)), (n0, .inr (6, [.int (mu.2.1 0), .int (mu.2.1 1)])), (c0, .inr (1, [.ref ep, .ref eh, .int (nI (mu.1 0)), .ref ef, .ref es, .ref eg, .int (nI (mu.1 1))])), (ep, .inl (cI, 11, .inl (mu.2.2.1 0))), (eh, .inl (cI, 11, .inl (mu.2.2.1 1))), (ef, .inl (cI, 55, .inl (mu.2.2.1 2))), (es, .inl (cI, 55, .inl (mu.2.2.1 3))), (eg, .inl (cI, 55, .inl (mu.2.2.1 4))), (x0, .inr (9, [.ref xb, .ref xp, .ref xn, .ref xs, .int (nI (mu.1 2)), .int (mu.2.1 2), .int (mu.2.1 3), .int (mu.2.1 4), .int (mu.2.1 5)])), (xb, .inl (cI, 460, .inl (mu.2.2.1 5))), (xp, .inl (cI, 460, .inl (mu.2.2.1 6))), (xn, .inl (cI, 460, .inl (mu.2.2.1 7))), (xs, .inl (cI, 460, .inl (mu.2.2.1 8))), (y0, .inr (7, [.ref r0, .ref r1, .ref r2, .ref r3, .ref r4, .ref r5, .ref r6, .ref r7, .int (nI (mu.1 3)), .int (mu.2.1 6)])), (r0, .inl (cI, 30, .inl (mu.2.2.2 0))), (r1, .inl (cI, 30, .inl (mu.2.2.2 1))), (r2, .inl (cI, 30, .inl (mu.2.2.2 2))), (r3, .inl (cI, 30, .inl (mu.2.2.2 3))), (r4, .inl (cI, 30, .inl (mu.2.2.2 4))), (r5, .inl (cI, 30, .inl (mu.2.2.2 5))), (r6, .inl (cI, 30, .inl (mu.2.2.2 6))), (r7, .inl (cI, 30, .inl (mu.2.2.2 7)))] : va_W) = [(o0, .inr (10, [.ref t0, .ref h0, .ref tt, .ref kt, .ref cp, .ref n0, .ref c0, .ref x0, .ref y0, .ref ts, .int u9.1])), (t0, .inr (8, [.ref l0, .ref g0, .int (nI ke)])), (l0, .inr (4, [.int (nI ln), .int att, .int en, .int (nI n), .ref ak, .ref ap, .ref al, .ref ar])), (ak, .inl (cI, 10, .inl kf)), (ap, .inl (cI, 10, .inl pf)), (al, .inl (cI, 10, .inl lf)), (ar, .inl (cI, 10, .inl rf)), (g0, .inl (cI, 11, .inl sf)), (n0, .inr (6, [.int (u9.2.2.1 0), .int (u9.2.2.1 1)])), (c0, .inr (1, [.ref ep, .ref eh, .int (nI (u9.2.1 0)), .ref ef, .ref es, .ref eg, .int (nI (u9.2.1 1))])), (ep, .inl (cI, 11, .inl (u9.2.2.2.1 0))), (eh, .inl (cI, 11, .inl (u9.2.2.2.1 1))), (ef, .inl (cI, 55, .inl (u9.2.2.2.1 2))), (es, .inl (cI, 55, .inl (u9.2.2.2.1 3))), (eg, .inl (cI, 55, .inl (u9.2.2.2.1 4))), (x0, .inr (9, [.ref xb, .ref xp, .ref xn, .ref xs, .int (nI (u9.2.1 2)), .int (u9.2.2.1 2), .int (u9.2.2.1 3), .int (u9.2.2.1 4), .int (u9.2.2.1 5)])), (xb, .inl (cI, 460, .inl (u9.2.2.2.1 5))), (xp, .inl (cI, 460, .inl (u9.2.2.2.1 6))), (xn, .inl (cI, 460, .inl (u9.2.2.2.1 7))), (xs, .inl (cI, 460, .inl (u9.2.2.2.1 8))), (y0, .inr (7, [.ref r0, .ref r1, .ref r2, .ref r3, .ref r4, .ref r5, .ref r6, .ref r7, .int (nI (u9.2.1 3)), .int (u9.2.2.1 6)])), (r0, .inl (cI, 30, .inl (u9.2.2.2.2 0))), (r1, .inl (cI, 30, .inl (u9.2.2.2.2 1))), (r2, .inl (cI, 30, .inl (u9.2.2.2.2 2))), (r3, .inl (cI, 30, .inl (u9.2.2.2.2 3))), (r4, .inl (cI, 30, .inl (u9.2.2.2.2 4))), (r5, .inl (cI, 30, .inl (u9.2.2.2.2 5))), (r6, .inl (cI, 30, .inl (u9.2.2.2.2 6))), (r7, .inl (cI, 30, .inl (u9.2.2.2.2 7)))] := by subst hu9; rfl
      rw [hw9] at hP hD
      have hf9_0 : ftMi w u9.1 u9.2 := by rw [hu9]; exact hmi
      have hr9 : ((-1000001) : Int32) = ftSmA w xq9 yq9 := by exact hv9
      exact W.iret (v := (-1000001)) hx hb hr (fun t ht hW => ⟨⟨(-1000001), u9, rfl, ⟨hr9, hf9_0⟩, by rw [ht]; exact hP, by rw [hAe]; exact hD⟩, by rw [hAe]; exact hS.F ht⟩) hS.2.2 dX10_sample_19
set_option maxHeartbeats 4000000 in
set_option maxRecDepth 100000 in
theorem c_X10_events (l : Launch) (D : va_G) (cI cS : ClassId) (sz : Nat) (o0 t0 h0 tt kt cp n0 c0 x0 y0 ts : Nat) (mef9 : Int32) (l0 g0 ke : Nat) (ln : Nat) (att en : Int32) (n ak ap al ar : Nat) (ep eh ef es eg xb xp xn xs r0 r1 r2 r3 r4 r5 r6 r7 : Nat) (kf pf lf rf : Nat → Int32) (sf : Nat → Int32) (mu : ftUm) (w : Nat → Int32) (hWf : ftWf w) (hL : ftLR w (nI ln) att en n kf pf lf rf) (hln : ln ≤ 400) (hsf : ∀ j, j < 11 → sf j = w (44 + j)) (hmi : ftMi w mef9 mu) : Met l yX10_events wsX10_events ({ frames := 6, cells := 0, slots := 0, locals := 150 }) (ftRW D cI cS [.ref o0] [(o0, .inr (10, [.ref t0, .ref h0, .ref tt, .ref kt, .ref cp, .ref n0, .ref c0, .ref x0, .ref y0, .ref ts, .int mef9])), (t0, .inr (8, [.ref l0, .ref g0, .int (nI ke)])), (l0, .inr (4, [.int (nI ln), .int att, .int en, .int (nI n), .ref ak, .ref ap, .ref al, .ref ar])), (ak, .inl (cI, 10, .inl kf)), (ap, .inl (cI, 10, .inl pf)), (al, .inl (cI, 10, .inl lf)), (ar, .inl (cI, 10, .inl rf)), (g0, .inl (cI, 11, .inl sf)), (n0, .inr (6, [.int (mu.2.1 0), .int (mu.2.1 1)])), (c0, .inr (1, [.ref ep, .ref eh, .int (nI (mu.1 0)), .ref ef, .ref es, .ref eg, .int (nI (mu.1 1))])), (ep, .inl (cI, 11, .inl (mu.2.2.1 0))), (eh, .inl (cI, 11, .inl (mu.2.2.1 1))), (ef, .inl (cI, 55, .inl (mu.2.2.1 2))), (es, .inl (cI, 55, .inl (mu.2.2.1 3))), (eg, .inl (cI, 55, .inl (mu.2.2.1 4))), (x0, .inr (9, [.ref xb, .ref xp, .ref xn, .ref xs, .int (nI (mu.1 2)), .int (mu.2.1 2), .int (mu.2.1 3), .int (mu.2.1 4), .int (mu.2.1 5)])), (xb, .inl (cI, 460, .inl (mu.2.2.1 5))), (xp, .inl (cI, 460, .inl (mu.2.2.1 6))), (xn, .inl (cI, 460, .inl (mu.2.2.1 7))), (xs, .inl (cI, 460, .inl (mu.2.2.1 8))), (y0, .inr (7, [.ref r0, .ref r1, .ref r2, .ref r3, .ref r4, .ref r5, .ref r6, .ref r7, .int (nI (mu.1 3)), .int (mu.2.1 6)])), (r0, .inl (cI, 30, .inl (mu.2.2.2 0))), (r1, .inl (cI, 30, .inl (mu.2.2.2 1))), (r2, .inl (cI, 30, .inl (mu.2.2.2 2))), (r3, .inl (cI, 30, .inl (mu.2.2.2 3))), (r4, .inl (cI, 30, .inl (mu.2.2.2 4))), (r5, .inl (cI, 30, .inl (mu.2.2.2 5))), (r6, .inl (cI, 30, .inl (mu.2.2.2 6))), (r7, .inl (cI, 30, .inl (mu.2.2.2 7)))] sz) (ftXi D [(o0, .inr (10, [.ref t0, .ref h0, .ref tt, .ref kt, .ref cp, .ref n0, .ref c0, .ref x0, .ref y0, .ref ts, .int mef9])), (t0, .inr (8, [.ref l0, .ref g0, .int (nI ke)])), (l0, .inr (4, [.int (nI ln), .int att, .int en, .int (nI n), .ref ak, .ref ap, .ref al, .ref ar])), (ak, .inl (cI, 10, .inl kf)), (ap, .inl (cI, 10, .inl pf)), (al, .inl (cI, 10, .inl lf)), (ar, .inl (cI, 10, .inl rf)), (g0, .inl (cI, 11, .inl sf)), (n0, .inr (6, [.int (mu.2.1 0), .int (mu.2.1 1)])), (c0, .inr (1, [.ref ep, .ref eh, .int (nI (mu.1 0)), .ref ef, .ref es, .ref eg, .int (nI (mu.1 1))])), (ep, .inl (cI, 11, .inl (mu.2.2.1 0))), (eh, .inl (cI, 11, .inl (mu.2.2.1 1))), (ef, .inl (cI, 55, .inl (mu.2.2.1 2))), (es, .inl (cI, 55, .inl (mu.2.2.1 3))), (eg, .inl (cI, 55, .inl (mu.2.2.1 4))), (x0, .inr (9, [.ref xb, .ref xp, .ref xn, .ref xs, .int (nI (mu.1 2)), .int (mu.2.1 2), .int (mu.2.1 3), .int (mu.2.1 4), .int (mu.2.1 5)])), (xb, .inl (cI, 460, .inl (mu.2.2.1 5))), (xp, .inl (cI, 460, .inl (mu.2.2.1 6))), (xn, .inl (cI, 460, .inl (mu.2.2.1 7))), (xs, .inl (cI, 460, .inl (mu.2.2.1 8))), (y0, .inr (7, [.ref r0, .ref r1, .ref r2, .ref r3, .ref r4, .ref r5, .ref r6, .ref r7, .int (nI (mu.1 3)), .int (mu.2.1 6)])), (r0, .inl (cI, 30, .inl (mu.2.2.2 0))), (r1, .inl (cI, 30, .inl (mu.2.2.2 1))), (r2, .inl (cI, 30, .inl (mu.2.2.2 2))), (r3, .inl (cI, 30, .inl (mu.2.2.2 3))), (r4, .inl (cI, 30, .inl (mu.2.2.2 4))), (r5, .inl (cI, 30, .inl (mu.2.2.2 5))), (r6, .inl (cI, 30, .inl (mu.2.2.2 6))), (r7, .inl (cI, 30, .inl (mu.2.2.2 7)))] sz (fun (o9 : Int32) (u : Int32 × ftUm) => o9 = nI (ftCE w).1 ∧ (ftMi w u.1 u.2)) (fun (u : Int32 × ftUm) => [(o0, .inr (10, [.ref t0, .ref h0, .ref tt, .ref kt, .ref cp, .ref n0, .ref c0, .ref x0, .ref y0, .ref ts, .int u.1])), (t0, .inr (8, [.ref l0, .ref g0, .int (nI ke)])), (l0, .inr (4, [.int (nI ln), .int att, .int en, .int (nI n), .ref ak, .ref ap, .ref al, .ref ar])), (ak, .inl (cI, 10, .inl kf)), (ap, .inl (cI, 10, .inl pf)), (al, .inl (cI, 10, .inl lf)), (ar, .inl (cI, 10, .inl rf)), (g0, .inl (cI, 11, .inl sf)), (n0, .inr (6, [.int (u.2.2.1 0), .int (u.2.2.1 1)])), (c0, .inr (1, [.ref ep, .ref eh, .int (nI (u.2.1 0)), .ref ef, .ref es, .ref eg, .int (nI (u.2.1 1))])), (ep, .inl (cI, 11, .inl (u.2.2.2.1 0))), (eh, .inl (cI, 11, .inl (u.2.2.2.1 1))), (ef, .inl (cI, 55, .inl (u.2.2.2.1 2))), (es, .inl (cI, 55, .inl (u.2.2.2.1 3))), (eg, .inl (cI, 55, .inl (u.2.2.2.1 4))), (x0, .inr (9, [.ref xb, .ref xp, .ref xn, .ref xs, .int (nI (u.2.1 2)), .int (u.2.2.1 2), .int (u.2.2.1 3), .int (u.2.2.1 4), .int (u.2.2.1 5)])), (xb, .inl (cI, 460, .inl (u.2.2.2.1 5))), (xp, .inl (cI, 460, .inl (u.2.2.2.1 6))), (xn, .inl (cI, 460, .inl (u.2.2.2.1 7))), (xs, .inl (cI, 460, .inl (u.2.2.2.1 8))), (y0, .inr (7, [.ref r0, .ref r1, .ref r2, .ref r3, .ref r4, .ref r5, .ref r6, .ref r7, .int (nI (u.2.1 3)), .int (u.2.2.1 6)])), (r0, .inl (cI, 30, .inl (u.2.2.2.2 0))), (r1, .inl (cI, 30, .inl (u.2.2.2.2 1))), (r2, .inl (cI, 30, .inl (u.2.2.2.2 2))), (r3, .inl (cI, 30, .inl (u.2.2.2.2 3))), (r4, .inl (cI, 30, .inl (u.2.2.2.2 4))), (r5, .inl (cI, 30, .inl (u.2.2.2.2 5))), (r6, .inl (cI, 30, .inl (u.2.2.2.2 6))), (r7, .inl (cI, 30, .inl (u.2.2.2.2 7)))])) 0 0 (va_A [(o0, .inr (10, [.ref t0, .ref h0, .ref tt, .ref kt, .ref cp, .ref n0, .ref c0, .ref x0, .ref y0, .ref ts, .int mef9])), (t0, .inr (8, [.ref l0, .ref g0, .int (nI ke)])), (l0, .inr (4, [.int (nI ln), .int att, .int en, .int (nI n), .ref ak, .ref ap, .ref al, .ref ar])), (ak, .inl (cI, 10, .inl kf)), (ap, .inl (cI, 10, .inl pf)), (al, .inl (cI, 10, .inl lf)), (ar, .inl (cI, 10, .inl rf)), (g0, .inl (cI, 11, .inl sf)), (n0, .inr (6, [.int (mu.2.1 0), .int (mu.2.1 1)])), (c0, .inr (1, [.ref ep, .ref eh, .int (nI (mu.1 0)), .ref ef, .ref es, .ref eg, .int (nI (mu.1 1))])), (ep, .inl (cI, 11, .inl (mu.2.2.1 0))), (eh, .inl (cI, 11, .inl (mu.2.2.1 1))), (ef, .inl (cI, 55, .inl (mu.2.2.1 2))), (es, .inl (cI, 55, .inl (mu.2.2.1 3))), (eg, .inl (cI, 55, .inl (mu.2.2.1 4))), (x0, .inr (9, [.ref xb, .ref xp, .ref xn, .ref xs, .int (nI (mu.1 2)), .int (mu.2.1 2), .int (mu.2.1 3), .int (mu.2.1 4), .int (mu.2.1 5)])), (xb, .inl (cI, 460, .inl (mu.2.2.1 5))), (xp, .inl (cI, 460, .inl (mu.2.2.1 6))), (xn, .inl (cI, 460, .inl (mu.2.2.1 7))), (xs, .inl (cI, 460, .inl (mu.2.2.1 8))), (y0, .inr (7, [.ref r0, .ref r1, .ref r2, .ref r3, .ref r4, .ref r5, .ref r6, .ref r7, .int (nI (mu.1 3)), .int (mu.2.1 6)])), (r0, .inl (cI, 30, .inl (mu.2.2.2 0))), (r1, .inl (cI, 30, .inl (mu.2.2.2 1))), (r2, .inl (cI, 30, .inl (mu.2.2.2 2))), (r3, .inl (cI, 30, .inl (mu.2.2.2 3))), (r4, .inl (cI, 30, .inl (mu.2.2.2 4))), (r5, .inl (cI, 30, .inl (mu.2.2.2 5))), (r6, .inl (cI, 30, .inl (mu.2.2.2 6))), (r7, .inl (cI, 30, .inl (mu.2.2.2 7)))] sz) := by
  refine Met.ofW (cc := cX10_events) (maxL := 1) (ret := (some .int)) (by decide) rfl ?_
  intro p e s m args below meth c s₁ B hml hv
  obtain ⟨rfl, hsz, hP, hKK, hD0⟩ := hv
  have hK := hKK.1
  have hx := B.exec
  have hb := B.bytes
  have hr := B.returns
  have hts := atoms_spec (ws := wsX10_events) B.pre
  have hown : s.vm.findClass RX10 = some m.cls := findClass_of_methodNamed B.named
  have hlocks := B.notSynchronized
  subst hsz
  have hD := hD0.self (sz := s.heap.size)
  generalize hAe : va_A [(o0, .inr (10, [.ref t0, .ref h0, .ref tt, .ref kt, .ref cp, .ref n0, .ref c0, .ref x0, .ref y0, .ref ts, .int mef9])), (t0, .inr (8, [.ref l0, .ref g0, .int (nI ke)])), (l0, .inr (4, [.int (nI ln), .int att, .int en, .int (nI n), .ref ak, .ref ap, .ref al, .ref ar])), (ak, .inl (cI, 10, .inl kf)), (ap, .inl (cI, 10, .inl pf)), (al, .inl (cI, 10, .inl lf)), (ar, .inl (cI, 10, .inl rf)), (g0, .inl (cI, 11, .inl sf)), (n0, .inr (6, [.int (mu.2.1 0), .int (mu.2.1 1)])), (c0, .inr (1, [.ref ep, .ref eh, .int (nI (mu.1 0)), .ref ef, .ref es, .ref eg, .int (nI (mu.1 1))])), (ep, .inl (cI, 11, .inl (mu.2.2.1 0))), (eh, .inl (cI, 11, .inl (mu.2.2.1 1))), (ef, .inl (cI, 55, .inl (mu.2.2.1 2))), (es, .inl (cI, 55, .inl (mu.2.2.1 3))), (eg, .inl (cI, 55, .inl (mu.2.2.1 4))), (x0, .inr (9, [.ref xb, .ref xp, .ref xn, .ref xs, .int (nI (mu.1 2)), .int (mu.2.1 2), .int (mu.2.1 3), .int (mu.2.1 4), .int (mu.2.1 5)])), (xb, .inl (cI, 460, .inl (mu.2.2.1 5))), (xp, .inl (cI, 460, .inl (mu.2.2.1 6))), (xn, .inl (cI, 460, .inl (mu.2.2.1 7))), (xs, .inl (cI, 460, .inl (mu.2.2.1 8))), (y0, .inr (7, [.ref r0, .ref r1, .ref r2, .ref r3, .ref r4, .ref r5, .ref r6, .ref r7, .int (nI (mu.1 3)), .int (mu.2.1 6)])), (r0, .inl (cI, 30, .inl (mu.2.2.2 0))), (r1, .inl (cI, 30, .inl (mu.2.2.2 1))), (r2, .inl (cI, 30, .inl (mu.2.2.2 2))), (r3, .inl (cI, 30, .inl (mu.2.2.2 3))), (r4, .inl (cI, 30, .inl (mu.2.2.2 4))), (r5, .inl (cI, 30, .inl (mu.2.2.2 5))), (r6, .inl (cI, 30, .inl (mu.2.2.2 6))), (r7, .inl (cI, 30, .inl (mu.2.2.2 7)))] s.heap.size = A at hD ⊢
  have hA : ∀ q : Nat, s.heap.size ≤ q → A q := fun q h => by rw [← hAe]; exact Or.inr h
  have hS : va_S A s.heap s.heap [] := va_S.rf
  have hD : va_D A [(o0, .inr (10, [.ref t0, .ref h0, .ref tt, .ref kt, .ref cp, .ref n0, .ref c0, .ref x0, .ref y0, .ref ts, .int mef9])), (t0, .inr (8, [.ref l0, .ref g0, .int (nI ke)])), (l0, .inr (4, [.int (nI ln), .int att, .int en, .int (nI n), .ref ak, .ref ap, .ref al, .ref ar])), (ak, .inl (cI, 10, .inl kf)), (ap, .inl (cI, 10, .inl pf)), (al, .inl (cI, 10, .inl lf)), (ar, .inl (cI, 10, .inl rf)), (g0, .inl (cI, 11, .inl sf)), (n0, .inr (6, [.int (mu.2.1 0), .int (mu.2.1 1)])), (c0, .inr (1, [.ref ep, .ref eh, .int (nI (mu.1 0)), .ref ef, .ref es, .ref eg, .int (nI (mu.1 1))])), (ep, .inl (cI, 11, .inl (mu.2.2.1 0))), (eh, .inl (cI, 11, .inl (mu.2.2.1 1))), (ef, .inl (cI, 55, .inl (mu.2.2.1 2))), (es, .inl (cI, 55, .inl (mu.2.2.1 3))), (eg, .inl (cI, 55, .inl (mu.2.2.1 4))), (x0, .inr (9, [.ref xb, .ref xp, .ref xn, .ref xs, .int (nI (mu.1 2)), .int (mu.2.1 2), .int (mu.2.1 3), .int (mu.2.1 4), .int (mu.2.1 5)])), (xb, .inl (cI, 460, .inl (mu.2.2.1 5))), (xp, .inl (cI, 460, .inl (mu.2.2.1 6))), (xn, .inl (cI, 460, .inl (mu.2.2.1 7))), (xs, .inl (cI, 460, .inl (mu.2.2.1 8))), (y0, .inr (7, [.ref r0, .ref r1, .ref r2, .ref r3, .ref r4, .ref r5, .ref r6, .ref r7, .int (nI (mu.1 3)), .int (mu.2.1 6)])), (r0, .inl (cI, 30, .inl (mu.2.2.2 0))), (r1, .inl (cI, 30, .inl (mu.2.2.2 1))), (r2, .inl (cI, 30, .inl (mu.2.2.2 2))), (r3, .inl (cI, 30, .inl (mu.2.2.2 3))), (r4, .inl (cI, 30, .inl (mu.2.2.2 4))), (r5, .inl (cI, 30, .inl (mu.2.2.2 5))), (r6, .inl (cI, 30, .inl (mu.2.2.2 6))), (r7, .inl (cI, 30, .inl (mu.2.2.2 7)))] := hD
  have hP : va_P D vwCl [(o0, .inr (10, [.ref t0, .ref h0, .ref tt, .ref kt, .ref cp, .ref n0, .ref c0, .ref x0, .ref y0, .ref ts, .int mef9])), (t0, .inr (8, [.ref l0, .ref g0, .int (nI ke)])), (l0, .inr (4, [.int (nI ln), .int att, .int en, .int (nI n), .ref ak, .ref ap, .ref al, .ref ar])), (ak, .inl (cI, 10, .inl kf)), (ap, .inl (cI, 10, .inl pf)), (al, .inl (cI, 10, .inl lf)), (ar, .inl (cI, 10, .inl rf)), (g0, .inl (cI, 11, .inl sf)), (n0, .inr (6, [.int (mu.2.1 0), .int (mu.2.1 1)])), (c0, .inr (1, [.ref ep, .ref eh, .int (nI (mu.1 0)), .ref ef, .ref es, .ref eg, .int (nI (mu.1 1))])), (ep, .inl (cI, 11, .inl (mu.2.2.1 0))), (eh, .inl (cI, 11, .inl (mu.2.2.1 1))), (ef, .inl (cI, 55, .inl (mu.2.2.1 2))), (es, .inl (cI, 55, .inl (mu.2.2.1 3))), (eg, .inl (cI, 55, .inl (mu.2.2.1 4))), (x0, .inr (9, [.ref xb, .ref xp, .ref xn, .ref xs, .int (nI (mu.1 2)), .int (mu.2.1 2), .int (mu.2.1 3), .int (mu.2.1 4), .int (mu.2.1 5)])), (xb, .inl (cI, 460, .inl (mu.2.2.1 5))), (xp, .inl (cI, 460, .inl (mu.2.2.1 6))), (xn, .inl (cI, 460, .inl (mu.2.2.1 7))), (xs, .inl (cI, 460, .inl (mu.2.2.1 8))), (y0, .inr (7, [.ref r0, .ref r1, .ref r2, .ref r3, .ref r4, .ref r5, .ref r6, .ref r7, .int (nI (mu.1 3)), .int (mu.2.1 6)])), (r0, .inl (cI, 30, .inl (mu.2.2.2 0))), (r1, .inl (cI, 30, .inl (mu.2.2.2 1))), (r2, .inl (cI, 30, .inl (mu.2.2.2 2))), (r3, .inl (cI, 30, .inl (mu.2.2.2 3))), (r4, .inl (cI, 30, .inl (mu.2.2.2 4))), (r5, .inl (cI, 30, .inl (mu.2.2.2 5))), (r6, .inl (cI, 30, .inl (mu.2.2.2 6))), (r7, .inl (cI, 30, .inl (mu.2.2.2 7)))] s.heap := hP
  have hl := lv_entry ([.ref o0]) (n := 1) (Nat.le_of_ble_eq_true rfl)
  rw [lg_entry_eq]
  generalize (lg_sl ([.ref o0]) ++ List.replicate (1 - (lg_sl ([.ref o0])).length) Slot.unset).toArray = ls at hl ⊢
  have hl : lv_has ls 1 [(0, .ref o0)] := hl
  have hn := hL.2.2.2.2.1
  have hcl := ftLR_ln hL hln
  refine lv_aload_n hx hb dX10_events_0 rfl (lv_at hl 0 rfl) ?_
  refine ft_cxv (S := ftUm) (wc := [(o0, .inr (10, [.ref t0, .ref h0, .ref tt, .ref kt, .ref cp, .ref n0, .ref c0, .ref x0, .ref y0, .ref ts, .int mef9])), (t0, .inr (8, [.ref l0, .ref g0, .int (nI ke)])), (l0, .inr (4, [.int (nI ln), .int att, .int en, .int (nI n), .ref ak, .ref ap, .ref al, .ref ar])), (ak, .inl (cI, 10, .inl kf)), (ap, .inl (cI, 10, .inl pf)), (al, .inl (cI, 10, .inl lf)), (ar, .inl (cI, 10, .inl rf)), (g0, .inl (cI, 11, .inl sf)), (n0, .inr (6, [.int (mu.2.1 0), .int (mu.2.1 1)])), (c0, .inr (1, [.ref ep, .ref eh, .int (nI (mu.1 0)), .ref ef, .ref es, .ref eg, .int (nI (mu.1 1))])), (ep, .inl (cI, 11, .inl (mu.2.2.1 0))), (eh, .inl (cI, 11, .inl (mu.2.2.1 1))), (ef, .inl (cI, 55, .inl (mu.2.2.1 2))), (es, .inl (cI, 55, .inl (mu.2.2.1 3))), (eg, .inl (cI, 55, .inl (mu.2.2.1 4))), (x0, .inr (9, [.ref xb, .ref xp, .ref xn, .ref xs, .int (nI (mu.1 2)), .int (mu.2.1 2), .int (mu.2.1 3), .int (mu.2.1 4), .int (mu.2.1 5)])), (xb, .inl (cI, 460, .inl (mu.2.2.1 5))), (xp, .inl (cI, 460, .inl (mu.2.2.1 6))), (xn, .inl (cI, 460, .inl (mu.2.2.1 7))), (xs, .inl (cI, 460, .inl (mu.2.2.1 8))), (y0, .inr (7, [.ref r0, .ref r1, .ref r2, .ref r3, .ref r4, .ref r5, .ref r6, .ref r7, .int (nI (mu.1 3)), .int (mu.2.1 6)])), (r0, .inl (cI, 30, .inl (mu.2.2.2 0))), (r1, .inl (cI, 30, .inl (mu.2.2.2 1))), (r2, .inl (cI, 30, .inl (mu.2.2.2 2))), (r3, .inl (cI, 30, .inl (mu.2.2.2 3))), (r4, .inl (cI, 30, .inl (mu.2.2.2 4))), (r5, .inl (cI, 30, .inl (mu.2.2.2 5))), (r6, .inl (cI, 30, .inl (mu.2.2.2 6))), (r7, .inl (cI, 30, .inl (mu.2.2.2 7)))]) (wr := []) (w1 := (fun (u1 : ftUm) => [(o0, .inr (10, [.ref t0, .ref h0, .ref tt, .ref kt, .ref cp, .ref n0, .ref c0, .ref x0, .ref y0, .ref ts, .int 1])), (t0, .inr (8, [.ref l0, .ref g0, .int (nI ke)])), (l0, .inr (4, [.int (nI ln), .int att, .int en, .int (nI n), .ref ak, .ref ap, .ref al, .ref ar])), (ak, .inl (cI, 10, .inl kf)), (ap, .inl (cI, 10, .inl pf)), (al, .inl (cI, 10, .inl lf)), (ar, .inl (cI, 10, .inl rf)), (g0, .inl (cI, 11, .inl sf)), (n0, .inr (6, [.int (u1.2.1 0), .int (u1.2.1 1)])), (c0, .inr (1, [.ref ep, .ref eh, .int (nI (u1.1 0)), .ref ef, .ref es, .ref eg, .int (nI (u1.1 1))])), (ep, .inl (cI, 11, .inl (u1.2.2.1 0))), (eh, .inl (cI, 11, .inl (u1.2.2.1 1))), (ef, .inl (cI, 55, .inl (u1.2.2.1 2))), (es, .inl (cI, 55, .inl (u1.2.2.1 3))), (eg, .inl (cI, 55, .inl (u1.2.2.1 4))), (x0, .inr (9, [.ref xb, .ref xp, .ref xn, .ref xs, .int (nI (u1.1 2)), .int (u1.2.1 2), .int (u1.2.1 3), .int (u1.2.1 4), .int (u1.2.1 5)])), (xb, .inl (cI, 460, .inl (u1.2.2.1 5))), (xp, .inl (cI, 460, .inl (u1.2.2.1 6))), (xn, .inl (cI, 460, .inl (u1.2.2.1 7))), (xs, .inl (cI, 460, .inl (u1.2.2.1 8))), (y0, .inr (7, [.ref r0, .ref r1, .ref r2, .ref r3, .ref r4, .ref r5, .ref r6, .ref r7, .int (nI (u1.1 3)), .int (u1.2.1 6)])), (r0, .inl (cI, 30, .inl (u1.2.2.2 0))), (r1, .inl (cI, 30, .inl (u1.2.2.2 1))), (r2, .inl (cI, 30, .inl (u1.2.2.2 2))), (r3, .inl (cI, 30, .inl (u1.2.2.2 3))), (r4, .inl (cI, 30, .inl (u1.2.2.2 4))), (r5, .inl (cI, 30, .inl (u1.2.2.2 5))), (r6, .inl (cI, 30, .inl (u1.2.2.2 6))), (r7, .inl (cI, 30, .inl (u1.2.2.2 7)))])) (ws1 := (fun (u1 : ftUm) => [(o0, .inr (10, [.ref t0, .ref h0, .ref tt, .ref kt, .ref cp, .ref n0, .ref c0, .ref x0, .ref y0, .ref ts, .int 1])), (t0, .inr (8, [.ref l0, .ref g0, .int (nI ke)])), (l0, .inr (4, [.int (nI ln), .int att, .int en, .int (nI n), .ref ak, .ref ap, .ref al, .ref ar])), (ak, .inl (cI, 10, .inl kf)), (ap, .inl (cI, 10, .inl pf)), (al, .inl (cI, 10, .inl lf)), (ar, .inl (cI, 10, .inl rf)), (g0, .inl (cI, 11, .inl sf)), (n0, .inr (6, [.int (u1.2.1 0), .int (u1.2.1 1)])), (c0, .inr (1, [.ref ep, .ref eh, .int (nI (u1.1 0)), .ref ef, .ref es, .ref eg, .int (nI (u1.1 1))])), (ep, .inl (cI, 11, .inl (u1.2.2.1 0))), (eh, .inl (cI, 11, .inl (u1.2.2.1 1))), (ef, .inl (cI, 55, .inl (u1.2.2.1 2))), (es, .inl (cI, 55, .inl (u1.2.2.1 3))), (eg, .inl (cI, 55, .inl (u1.2.2.1 4))), (x0, .inr (9, [.ref xb, .ref xp, .ref xn, .ref xs, .int (nI (u1.1 2)), .int (u1.2.1 2), .int (u1.2.1 3), .int (u1.2.1 4), .int (u1.2.1 5)])), (xb, .inl (cI, 460, .inl (u1.2.2.1 5))), (xp, .inl (cI, 460, .inl (u1.2.2.1 6))), (xn, .inl (cI, 460, .inl (u1.2.2.1 7))), (xs, .inl (cI, 460, .inl (u1.2.2.1 8))), (y0, .inr (7, [.ref r0, .ref r1, .ref r2, .ref r3, .ref r4, .ref r5, .ref r6, .ref r7, .int (nI (u1.1 3)), .int (u1.2.1 6)])), (r0, .inl (cI, 30, .inl (u1.2.2.2 0))), (r1, .inl (cI, 30, .inl (u1.2.2.2 1))), (r2, .inl (cI, 30, .inl (u1.2.2.2 2))), (r3, .inl (cI, 30, .inl (u1.2.2.2 3))), (r4, .inl (cI, 30, .inl (u1.2.2.2 4))), (r5, .inl (cI, 30, .inl (u1.2.2.2 5))), (r6, .inl (cI, 30, .inl (u1.2.2.2 6))), (r7, .inl (cI, 30, .inl (u1.2.2.2 7)))])) (va_runV (C := RX10) (As := []) (rest := []) ⟨hx, hb, hml, hown, hts⟩ (c_X10_measure l D cI cS s.heap.size o0 t0 h0 tt kt cp n0 c0 x0 y0 ts mef9 l0 g0 ke ln att en n ak ap al ar ep eh ef es eg xb xp xn xs r0 r1 r2 r3 r4 r5 r6 r7 kf pf lf rf sf mu w hWf hL hln hsf hmi) (cwV 0 hts gX10_events_X10_measure rfl rfl rfl (by decide +kernel) ⟨Nat.le_of_ble_eq_true rfl, Nat.le_of_ble_eq_true rfl⟩) (ft_preRWV (ci := 10) (q0 := 0) hP hD hKK [0, 1, 2, 3, 4, 5, 6, 7, 8, 9, 10, 11, 12, 13, 14, 15, 16, 17, 18, 19, 20, 21, 22, 23, 24, 25, 26, 27, 28] rfl rfl rfl rfl rfl) rfl rfl hl.1 rfl (lv_room (Nat.le_of_ble_eq_true rfl)) dX10_events_1 ⟨Nat.le_of_ble_eq_true rfl, Nat.le_of_ble_eq_true rfl⟩) hP hD hS hA [0, 1, 2, 3, 4, 5, 6, 7, 8, 9, 10, 11, 12, 13, 14, 15, 16, 17, 18, 19, 20, 21, 22, 23, 24, 25, 26, 27, 28] [] [0, 1, 2, 3, 4, 5, 6, 7, 8, 9, 10, 11, 12, 13, 14, 15, 16, 17, 18, 19, 20, 21, 22, 23, 24, 25, 26, 27, 28] rfl rfl (by decide) (by decide) (by decide) (fun _ => rfl) (fun _ => rfl) (fun u1 hu1 H locs hP hD hS => ?_)
  obtain ⟨hms1, hnc1⟩ := hu1
  have hP : va_P D vwCl [(o0, .inr (10, [.ref t0, .ref h0, .ref tt, .ref kt, .ref cp, .ref n0, .ref c0, .ref x0, .ref y0, .ref ts, .int 1])), (t0, .inr (8, [.ref l0, .ref g0, .int (nI ke)])), (l0, .inr (4, [.int (nI ln), .int att, .int en, .int (nI n), .ref ak, .ref ap, .ref al, .ref ar])), (ak, .inl (cI, 10, .inl kf)), (ap, .inl (cI, 10, .inl pf)), (al, .inl (cI, 10, .inl lf)), (ar, .inl (cI, 10, .inl rf)), (g0, .inl (cI, 11, .inl sf)), (n0, .inr (6, [.int (u1.2.1 0), .int (u1.2.1 1)])), (c0, .inr (1, [.ref ep, .ref eh, .int (nI (u1.1 0)), .ref ef, .ref es, .ref eg, .int (nI (u1.1 1))])), (ep, .inl (cI, 11, .inl (u1.2.2.1 0))), (eh, .inl (cI, 11, .inl (u1.2.2.1 1))), (ef, .inl (cI, 55, .inl (u1.2.2.1 2))), (es, .inl (cI, 55, .inl (u1.2.2.1 3))), (eg, .inl (cI, 55, .inl (u1.2.2.1 4))), (x0, .inr (9, [.ref xb, .ref xp, .ref xn, .ref xs, .int (nI (u1.1 2)), .int (u1.2.1 2), .int (u1.2.1 3), .int (u1.2.1 4), .int (u1.2.1 5)])), (xb, .inl (cI, 460, .inl (u1.2.2.1 5))), (xp, .inl (cI, 460, .inl (u1.2.2.1 6))), (xn, .inl (cI, 460, .inl (u1.2.2.1 7))), (xs, .inl (cI, 460, .inl (u1.2.2.1 8))), (y0, .inr (7, [.ref r0, .ref r1, .ref r2, .ref r3, .ref r4, .ref r5, .ref r6, .ref r7, .int (nI (u1.1 3)), .int (u1.2.1 6)])), (r0, .inl (cI, 30, .inl (u1.2.2.2 0))), (r1, .inl (cI, 30, .inl (u1.2.2.2 1))), (r2, .inl (cI, 30, .inl (u1.2.2.2 2))), (r3, .inl (cI, 30, .inl (u1.2.2.2 3))), (r4, .inl (cI, 30, .inl (u1.2.2.2 4))), (r5, .inl (cI, 30, .inl (u1.2.2.2 5))), (r6, .inl (cI, 30, .inl (u1.2.2.2 6))), (r7, .inl (cI, 30, .inl (u1.2.2.2 7)))] H := hP
  have hD : va_D A [(o0, .inr (10, [.ref t0, .ref h0, .ref tt, .ref kt, .ref cp, .ref n0, .ref c0, .ref x0, .ref y0, .ref ts, .int 1])), (t0, .inr (8, [.ref l0, .ref g0, .int (nI ke)])), (l0, .inr (4, [.int (nI ln), .int att, .int en, .int (nI n), .ref ak, .ref ap, .ref al, .ref ar])), (ak, .inl (cI, 10, .inl kf)), (ap, .inl (cI, 10, .inl pf)), (al, .inl (cI, 10, .inl lf)), (ar, .inl (cI, 10, .inl rf)), (g0, .inl (cI, 11, .inl sf)), (n0, .inr (6, [.int (u1.2.1 0), .int (u1.2.1 1)])), (c0, .inr (1, [.ref ep, .ref eh, .int (nI (u1.1 0)), .ref ef, .ref es, .ref eg, .int (nI (u1.1 1))])), (ep, .inl (cI, 11, .inl (u1.2.2.1 0))), (eh, .inl (cI, 11, .inl (u1.2.2.1 1))), (ef, .inl (cI, 55, .inl (u1.2.2.1 2))), (es, .inl (cI, 55, .inl (u1.2.2.1 3))), (eg, .inl (cI, 55, .inl (u1.2.2.1 4))), (x0, .inr (9, [.ref xb, .ref xp, .ref xn, .ref xs, .int (nI (u1.1 2)), .int (u1.2.1 2), .int (u1.2.1 3), .int (u1.2.1 4), .int (u1.2.1 5)])), (xb, .inl (cI, 460, .inl (u1.2.2.1 5))), (xp, .inl (cI, 460, .inl (u1.2.2.1 6))), (xn, .inl (cI, 460, .inl (u1.2.2.1 7))), (xs, .inl (cI, 460, .inl (u1.2.2.1 8))), (y0, .inr (7, [.ref r0, .ref r1, .ref r2, .ref r3, .ref r4, .ref r5, .ref r6, .ref r7, .int (nI (u1.1 3)), .int (u1.2.1 6)])), (r0, .inl (cI, 30, .inl (u1.2.2.2 0))), (r1, .inl (cI, 30, .inl (u1.2.2.2 1))), (r2, .inl (cI, 30, .inl (u1.2.2.2 2))), (r3, .inl (cI, 30, .inl (u1.2.2.2 3))), (r4, .inl (cI, 30, .inl (u1.2.2.2 4))), (r5, .inl (cI, 30, .inl (u1.2.2.2 5))), (r6, .inl (cI, 30, .inl (u1.2.2.2 6))), (r7, .inl (cI, 30, .inl (u1.2.2.2 7)))] := hD
  refine lv_aload_n hx hb dX10_events_4 rfl (lv_at hl 0 rfl) ?_
  refine va_get (D := D) (ci := 10) (v := .ref y0) (C := RX10) (T := TX10) (N := 11) hx hb hts (by decide +kernel) hown hK hP 0 rfl rfl 8 (by decide) (hts (.fieldLink RX10 68 "FiberTrace" "reading" "LFiberTrace$Reading;") (by decide +kernel)) (fun _ h9 => h9) rfl dX10_events_5 ?_
  refine va_get (D := D) (ci := 7) (v := .int (nI (u1.1 3))) (C := RX7) (T := TX7) (N := 10) hx hb hts (by decide +kernel) hown hK hP 20 rfl rfl 8 (by decide) (hts (.fieldLink RX10 242 "FiberTrace$Reading" "size" "I") (by decide +kernel)) (fun _ h9 => h9) rfl dX10_events_8 ?_
  obtain ⟨u9, hu9⟩ : ∃ u9 : Int32 × ftUm, u9 = ((1 : Int32), u1) := ⟨_, rfl⟩
  have hw9 : ([(o0, .inr (10, [.ref t0, .ref h0, .ref tt, .ref kt, .ref cp, .ref n0, .ref c0, .ref x0, .ref y0, .ref ts, .int 1])), (t0, .inr (8, [.ref l0, .ref g0, .int (nI ke)])), (l0, .inr (4, [.int (nI ln), .int att, .int en, .int (nI n), .ref ak, .ref ap, .ref al, .ref ar])), (ak, .inl (cI, 10, .inl kf)), (ap, .inl (cI, 10, .inl pf)), (al, .inl (cI, 10, .inl lf)), (ar, .inl (cI, 10, .inl rf)), (g0, .inl (cI, 11, .inl sf)), (n0, .inr (6, [.int (u1.2.1 0), .int (u1.2.1 1)])), (c0, .inr (1, [.ref ep, .ref eh, .int (nI (u1.1 0)), .ref ef, .ref es, .ref eg, .int (nI (u1.1 1))])), (ep, .inl (cI, 11, .inl (u1.2.2.1 0))), (eh, .inl (cI, 11, .inl (u1.2.2.1 1))), (ef, .inl (cI, 55, .inl (u1.2.2.1 2))), (es, .inl (cI, 55, .inl (u1.2.2.1 3))), (eg, .inl (cI, 55, .inl (u1.2.2.1 4))), (x0, .inr (9, [.ref xb, .ref xp, .ref xn, .ref xs, .int (nI (u1.1 2)), .int (u1.2.1 2), .int (u1.2.1 3), .int (u1.2.1 4), .int (u1.2.1 5)])), (xb, .inl (cI, 460, .inl (u1.2.2.1 5))), (xp, .inl (cI, 460, .inl (u1.2.2.1 6))), (xn, .inl (cI, 460, .inl (u1.2.2.1 7))), (xs, .inl (cI, 460, .inl (u1.2.2.1 8))), (y0, .inr (7, [.ref r0, .ref r1, .ref r2, .ref r3, .ref r4, .ref r5, .ref r6, .ref r7, .int (nI (u1.1 3)), .int (u1.2.1 6)])), (r0, .inl (cI, 30, .inl (u1.2.2.2 0))), (r1, .inl (cI, 30, .inl (u1.2.2.2 1))), (r2, .inl (cI, 30, .inl (u1.2.2.2 2))), (r3, .inl (cI, 30, .inl (u1.2.2.2 3))), (r4, .inl (cI, 30, .inl (u1.2.2.2 4))), (r5, .inl (cI, 30, .inl (u1.2.2.2 5))), (r6, .inl (cI, 30, .inl (u1.2.2.2 6))), (r7, .inl (cI, 30, .inl (u1.2.2.2 7)))] : va_W) = [(o0, .inr (10, [.ref t0, .ref h0, .ref tt, .ref kt, .ref cp, .ref n0, .ref c0, .ref x0, .ref y0, .ref ts, .int u9.1])), (t0, .inr (8, [.ref l0, .ref g0, .int (nI ke)])), (l0, .inr (4, [.int (nI ln), .int att, .int en, .int (nI n), .ref ak, .ref ap, .ref al, .ref ar])), (ak, .inl (cI, 10, .inl kf)), (ap, .inl (cI, 10, .inl pf)), (al, .inl (cI, 10, .inl lf)), (ar, .inl (cI, 10, .inl rf)), (g0, .inl (cI, 11, .inl sf)), (n0, .inr (6, [.int (u9.2.2.1 0), .int (u9.2.2.1 1)])), (c0, .inr (1, [.ref ep, .ref eh, .int (nI (u9.2.1 0)), .ref ef, .ref es, .ref eg, .int (nI (u9.2.1 1))])), (ep, .inl (cI, 11, .inl (u9.2.2.2.1 0))), (eh, .inl (cI, 11, .inl (u9.2.2.2.1 1))), (ef, .inl (cI, 55, .inl (u9.2.2.2.1 2))), (es, .inl (cI, 55, .inl (u9.2.2.2.1 3))), (eg, .inl (cI, 55, .inl (u9.2.2.2.1 4))), (x0, .inr (9, [.ref xb, .ref xp, .ref xn, .ref xs, .int (nI (u9.2.1 2)), .int (u9.2.2.1 2), .int (u9.2.2.1 3), .int (u9.2.2.1 4), .int (u9.2.2.1 5)])), (xb, .inl (cI, 460, .inl (u9.2.2.2.1 5))), (xp, .inl (cI, 460, .inl (u9.2.2.2.1 6))), (xn, .inl (cI, 460, .inl (u9.2.2.2.1 7))), (xs, .inl (cI, 460, .inl (u9.2.2.2.1 8))), (y0, .inr (7, [.ref r0, .ref r1, .ref r2, .ref r3, .ref r4, .ref r5, .ref r6, .ref r7, .int (nI (u9.2.1 3)), .int (u9.2.2.1 6)])), (r0, .inl (cI, 30, .inl (u9.2.2.2.2 0))), (r1, .inl (cI, 30, .inl (u9.2.2.2.2 1))), (r2, .inl (cI, 30, .inl (u9.2.2.2.2 2))), (r3, .inl (cI, 30, .inl (u9.2.2.2.2 3))), (r4, .inl (cI, 30, .inl (u9.2.2.2.2 4))), (r5, .inl (cI, 30, .inl (u9.2.2.2.2 5))), (r6, .inl (cI, 30, .inl (u9.2.2.2.2 6))), (r7, .inl (cI, 30, .inl (u9.2.2.2.2 7)))] := by subst hu9; rfl
  rw [hw9] at hP hD
  have hf9_0 : ftMi w u9.1 u9.2 := by rw [hu9]; exact ⟨Or.inr rfl, fun _ => hms1, hnc1⟩
  have hr9 : (nI (u1.1 3) : Int32) = nI (ftCE w).1 := by exact congrArg nI (ftEv6_of hWf hms1.2.2.2.2).1
  exact W.iret (v := nI (u1.1 3)) hx hb hr (fun t ht hW => ⟨⟨nI (u1.1 3), u9, rfl, ⟨hr9, hf9_0⟩, by rw [ht]; exact hP, by rw [hAe]; exact hD⟩, by rw [hAe]; exact hS.F ht⟩) hS.2.2 dX10_events_11
set_option maxHeartbeats 4000000 in
set_option maxRecDepth 100000 in
theorem c_X10_worst (l : Launch) (D : va_G) (cI cS : ClassId) (sz : Nat) (o0 t0 h0 tt kt cp n0 c0 x0 y0 ts : Nat) (mef9 : Int32) (l0 g0 ke : Nat) (ln : Nat) (att en : Int32) (n ak ap al ar : Nat) (ep eh ef es eg xb xp xn xs r0 r1 r2 r3 r4 r5 r6 r7 : Nat) (kf pf lf rf : Nat → Int32) (sf : Nat → Int32) (mu : ftUm) (w : Nat → Int32) (hWf : ftWf w) (hL : ftLR w (nI ln) att en n kf pf lf rf) (hln : ln ≤ 400) (hsf : ∀ j, j < 11 → sf j = w (44 + j)) (hmi : ftMi w mef9 mu) : Met l yX10_worst wsX10_worst ({ frames := 6, cells := 0, slots := 0, locals := 150 }) (ftRW D cI cS [.ref o0] [(o0, .inr (10, [.ref t0, .ref h0, .ref tt, .ref kt, .ref cp, .ref n0, .ref c0, .ref x0, .ref y0, .ref ts, .int mef9])), (t0, .inr (8, [.ref l0, .ref g0, .int (nI ke)])), (l0, .inr (4, [.int (nI ln), .int att, .int en, .int (nI n), .ref ak, .ref ap, .ref al, .ref ar])), (ak, .inl (cI, 10, .inl kf)), (ap, .inl (cI, 10, .inl pf)), (al, .inl (cI, 10, .inl lf)), (ar, .inl (cI, 10, .inl rf)), (g0, .inl (cI, 11, .inl sf)), (n0, .inr (6, [.int (mu.2.1 0), .int (mu.2.1 1)])), (c0, .inr (1, [.ref ep, .ref eh, .int (nI (mu.1 0)), .ref ef, .ref es, .ref eg, .int (nI (mu.1 1))])), (ep, .inl (cI, 11, .inl (mu.2.2.1 0))), (eh, .inl (cI, 11, .inl (mu.2.2.1 1))), (ef, .inl (cI, 55, .inl (mu.2.2.1 2))), (es, .inl (cI, 55, .inl (mu.2.2.1 3))), (eg, .inl (cI, 55, .inl (mu.2.2.1 4))), (x0, .inr (9, [.ref xb, .ref xp, .ref xn, .ref xs, .int (nI (mu.1 2)), .int (mu.2.1 2), .int (mu.2.1 3), .int (mu.2.1 4), .int (mu.2.1 5)])), (xb, .inl (cI, 460, .inl (mu.2.2.1 5))), (xp, .inl (cI, 460, .inl (mu.2.2.1 6))), (xn, .inl (cI, 460, .inl (mu.2.2.1 7))), (xs, .inl (cI, 460, .inl (mu.2.2.1 8))), (y0, .inr (7, [.ref r0, .ref r1, .ref r2, .ref r3, .ref r4, .ref r5, .ref r6, .ref r7, .int (nI (mu.1 3)), .int (mu.2.1 6)])), (r0, .inl (cI, 30, .inl (mu.2.2.2 0))), (r1, .inl (cI, 30, .inl (mu.2.2.2 1))), (r2, .inl (cI, 30, .inl (mu.2.2.2 2))), (r3, .inl (cI, 30, .inl (mu.2.2.2 3))), (r4, .inl (cI, 30, .inl (mu.2.2.2 4))), (r5, .inl (cI, 30, .inl (mu.2.2.2 5))), (r6, .inl (cI, 30, .inl (mu.2.2.2 6))), (r7, .inl (cI, 30, .inl (mu.2.2.2 7)))] sz) (ftXi D [(o0, .inr (10, [.ref t0, .ref h0, .ref tt, .ref kt, .ref cp, .ref n0, .ref c0, .ref x0, .ref y0, .ref ts, .int mef9])), (t0, .inr (8, [.ref l0, .ref g0, .int (nI ke)])), (l0, .inr (4, [.int (nI ln), .int att, .int en, .int (nI n), .ref ak, .ref ap, .ref al, .ref ar])), (ak, .inl (cI, 10, .inl kf)), (ap, .inl (cI, 10, .inl pf)), (al, .inl (cI, 10, .inl lf)), (ar, .inl (cI, 10, .inl rf)), (g0, .inl (cI, 11, .inl sf)), (n0, .inr (6, [.int (mu.2.1 0), .int (mu.2.1 1)])), (c0, .inr (1, [.ref ep, .ref eh, .int (nI (mu.1 0)), .ref ef, .ref es, .ref eg, .int (nI (mu.1 1))])), (ep, .inl (cI, 11, .inl (mu.2.2.1 0))), (eh, .inl (cI, 11, .inl (mu.2.2.1 1))), (ef, .inl (cI, 55, .inl (mu.2.2.1 2))), (es, .inl (cI, 55, .inl (mu.2.2.1 3))), (eg, .inl (cI, 55, .inl (mu.2.2.1 4))), (x0, .inr (9, [.ref xb, .ref xp, .ref xn, .ref xs, .int (nI (mu.1 2)), .int (mu.2.1 2), .int (mu.2.1 3), .int (mu.2.1 4), .int (mu.2.1 5)])), (xb, .inl (cI, 460, .inl (mu.2.2.1 5))), (xp, .inl (cI, 460, .inl (mu.2.2.1 6))), (xn, .inl (cI, 460, .inl (mu.2.2.1 7))), (xs, .inl (cI, 460, .inl (mu.2.2.1 8))), (y0, .inr (7, [.ref r0, .ref r1, .ref r2, .ref r3, .ref r4, .ref r5, .ref r6, .ref r7, .int (nI (mu.1 3)), .int (mu.2.1 6)])), (r0, .inl (cI, 30, .inl (mu.2.2.2 0))), (r1, .inl (cI, 30, .inl (mu.2.2.2 1))), (r2, .inl (cI, 30, .inl (mu.2.2.2 2))), (r3, .inl (cI, 30, .inl (mu.2.2.2 3))), (r4, .inl (cI, 30, .inl (mu.2.2.2 4))), (r5, .inl (cI, 30, .inl (mu.2.2.2 5))), (r6, .inl (cI, 30, .inl (mu.2.2.2 6))), (r7, .inl (cI, 30, .inl (mu.2.2.2 7)))] sz (fun (o9 : Int32) (u : Int32 × ftUm) => o9 = ftWo (ftCE w) (ftCE w).1 ∧ (ftMi w u.1 u.2)) (fun (u : Int32 × ftUm) => [(o0, .inr (10, [.ref t0, .ref h0, .ref tt, .ref kt, .ref cp, .ref n0, .ref c0, .ref x0, .ref y0, .ref ts, .int u.1])), (t0, .inr (8, [.ref l0, .ref g0, .int (nI ke)])), (l0, .inr (4, [.int (nI ln), .int att, .int en, .int (nI n), .ref ak, .ref ap, .ref al, .ref ar])), (ak, .inl (cI, 10, .inl kf)), (ap, .inl (cI, 10, .inl pf)), (al, .inl (cI, 10, .inl lf)), (ar, .inl (cI, 10, .inl rf)), (g0, .inl (cI, 11, .inl sf)), (n0, .inr (6, [.int (u.2.2.1 0), .int (u.2.2.1 1)])), (c0, .inr (1, [.ref ep, .ref eh, .int (nI (u.2.1 0)), .ref ef, .ref es, .ref eg, .int (nI (u.2.1 1))])), (ep, .inl (cI, 11, .inl (u.2.2.2.1 0))), (eh, .inl (cI, 11, .inl (u.2.2.2.1 1))), (ef, .inl (cI, 55, .inl (u.2.2.2.1 2))), (es, .inl (cI, 55, .inl (u.2.2.2.1 3))), (eg, .inl (cI, 55, .inl (u.2.2.2.1 4))), (x0, .inr (9, [.ref xb, .ref xp, .ref xn, .ref xs, .int (nI (u.2.1 2)), .int (u.2.2.1 2), .int (u.2.2.1 3), .int (u.2.2.1 4), .int (u.2.2.1 5)])), (xb, .inl (cI, 460, .inl (u.2.2.2.1 5))), (xp, .inl (cI, 460, .inl (u.2.2.2.1 6))), (xn, .inl (cI, 460, .inl (u.2.2.2.1 7))), (xs, .inl (cI, 460, .inl (u.2.2.2.1 8))), (y0, .inr (7, [.ref r0, .ref r1, .ref r2, .ref r3, .ref r4, .ref r5, .ref r6, .ref r7, .int (nI (u.2.1 3)), .int (u.2.2.1 6)])), (r0, .inl (cI, 30, .inl (u.2.2.2.2 0))), (r1, .inl (cI, 30, .inl (u.2.2.2.2 1))), (r2, .inl (cI, 30, .inl (u.2.2.2.2 2))), (r3, .inl (cI, 30, .inl (u.2.2.2.2 3))), (r4, .inl (cI, 30, .inl (u.2.2.2.2 4))), (r5, .inl (cI, 30, .inl (u.2.2.2.2 5))), (r6, .inl (cI, 30, .inl (u.2.2.2.2 6))), (r7, .inl (cI, 30, .inl (u.2.2.2.2 7)))])) 0 0 (va_A [(o0, .inr (10, [.ref t0, .ref h0, .ref tt, .ref kt, .ref cp, .ref n0, .ref c0, .ref x0, .ref y0, .ref ts, .int mef9])), (t0, .inr (8, [.ref l0, .ref g0, .int (nI ke)])), (l0, .inr (4, [.int (nI ln), .int att, .int en, .int (nI n), .ref ak, .ref ap, .ref al, .ref ar])), (ak, .inl (cI, 10, .inl kf)), (ap, .inl (cI, 10, .inl pf)), (al, .inl (cI, 10, .inl lf)), (ar, .inl (cI, 10, .inl rf)), (g0, .inl (cI, 11, .inl sf)), (n0, .inr (6, [.int (mu.2.1 0), .int (mu.2.1 1)])), (c0, .inr (1, [.ref ep, .ref eh, .int (nI (mu.1 0)), .ref ef, .ref es, .ref eg, .int (nI (mu.1 1))])), (ep, .inl (cI, 11, .inl (mu.2.2.1 0))), (eh, .inl (cI, 11, .inl (mu.2.2.1 1))), (ef, .inl (cI, 55, .inl (mu.2.2.1 2))), (es, .inl (cI, 55, .inl (mu.2.2.1 3))), (eg, .inl (cI, 55, .inl (mu.2.2.1 4))), (x0, .inr (9, [.ref xb, .ref xp, .ref xn, .ref xs, .int (nI (mu.1 2)), .int (mu.2.1 2), .int (mu.2.1 3), .int (mu.2.1 4), .int (mu.2.1 5)])), (xb, .inl (cI, 460, .inl (mu.2.2.1 5))), (xp, .inl (cI, 460, .inl (mu.2.2.1 6))), (xn, .inl (cI, 460, .inl (mu.2.2.1 7))), (xs, .inl (cI, 460, .inl (mu.2.2.1 8))), (y0, .inr (7, [.ref r0, .ref r1, .ref r2, .ref r3, .ref r4, .ref r5, .ref r6, .ref r7, .int (nI (mu.1 3)), .int (mu.2.1 6)])), (r0, .inl (cI, 30, .inl (mu.2.2.2 0))), (r1, .inl (cI, 30, .inl (mu.2.2.2 1))), (r2, .inl (cI, 30, .inl (mu.2.2.2 2))), (r3, .inl (cI, 30, .inl (mu.2.2.2 3))), (r4, .inl (cI, 30, .inl (mu.2.2.2 4))), (r5, .inl (cI, 30, .inl (mu.2.2.2 5))), (r6, .inl (cI, 30, .inl (mu.2.2.2 6))), (r7, .inl (cI, 30, .inl (mu.2.2.2 7)))] sz) := by
  refine Met.ofW (cc := cX10_worst) (maxL := 1) (ret := (some .int)) (by decide) rfl ?_
  intro p e s m args below meth c s₁ B hml hv
  obtain ⟨rfl, hsz, hP, hKK, hD0⟩ := hv
  have hK := hKK.1
  have hx := B.exec
  have hb := B.bytes
  have hr := B.returns
  have hts := atoms_spec (ws := wsX10_worst) B.pre
  have hown : s.vm.findClass RX10 = some m.cls := findClass_of_methodNamed B.named
  have hlocks := B.notSynchronized
  subst hsz
  have hD := hD0.self (sz := s.heap.size)
  generalize hAe : va_A [(o0, .inr (10, [.ref t0, .ref h0, .ref tt, .ref kt, .ref cp, .ref n0, .ref c0, .ref x0, .ref y0, .ref ts, .int mef9])), (t0, .inr (8, [.ref l0, .ref g0, .int (nI ke)])), (l0, .inr (4, [.int (nI ln), .int att, .int en, .int (nI n), .ref ak, .ref ap, .ref al, .ref ar])), (ak, .inl (cI, 10, .inl kf)), (ap, .inl (cI, 10, .inl pf)), (al, .inl (cI, 10, .inl lf)), (ar, .inl (cI, 10, .inl rf)), (g0, .inl (cI, 11, .inl sf)), (n0, .inr (6, [.int (mu.2.1 0), .int (mu.2.1 1)])), (c0, .inr (1, [.ref ep, .ref eh, .int (nI (mu.1 0)), .ref ef, .ref es, .ref eg, .int (nI (mu.1 1))])), (ep, .inl (cI, 11, .inl (mu.2.2.1 0))), (eh, .inl (cI, 11, .inl (mu.2.2.1 1))), (ef, .inl (cI, 55, .inl (mu.2.2.1 2))), (es, .inl (cI, 55, .inl (mu.2.2.1 3))), (eg, .inl (cI, 55, .inl (mu.2.2.1 4))), (x0, .inr (9, [.ref xb, .ref xp, .ref xn, .ref xs, .int (nI (mu.1 2)), .int (mu.2.1 2), .int (mu.2.1 3), .int (mu.2.1 4), .int (mu.2.1 5)])), (xb, .inl (cI, 460, .inl (mu.2.2.1 5))), (xp, .inl (cI, 460, .inl (mu.2.2.1 6))), (xn, .inl (cI, 460, .inl (mu.2.2.1 7))), (xs, .inl (cI, 460, .inl (mu.2.2.1 8))), (y0, .inr (7, [.ref r0, .ref r1, .ref r2, .ref r3, .ref r4, .ref r5, .ref r6, .ref r7, .int (nI (mu.1 3)), .int (mu.2.1 6)])), (r0, .inl (cI, 30, .inl (mu.2.2.2 0))), (r1, .inl (cI, 30, .inl (mu.2.2.2 1))), (r2, .inl (cI, 30, .inl (mu.2.2.2 2))), (r3, .inl (cI, 30, .inl (mu.2.2.2 3))), (r4, .inl (cI, 30, .inl (mu.2.2.2 4))), (r5, .inl (cI, 30, .inl (mu.2.2.2 5))), (r6, .inl (cI, 30, .inl (mu.2.2.2 6))), (r7, .inl (cI, 30, .inl (mu.2.2.2 7)))] s.heap.size = A at hD ⊢
  have hA : ∀ q : Nat, s.heap.size ≤ q → A q := fun q h => by rw [← hAe]; exact Or.inr h
  have hS : va_S A s.heap s.heap [] := va_S.rf
  have hD : va_D A [(o0, .inr (10, [.ref t0, .ref h0, .ref tt, .ref kt, .ref cp, .ref n0, .ref c0, .ref x0, .ref y0, .ref ts, .int mef9])), (t0, .inr (8, [.ref l0, .ref g0, .int (nI ke)])), (l0, .inr (4, [.int (nI ln), .int att, .int en, .int (nI n), .ref ak, .ref ap, .ref al, .ref ar])), (ak, .inl (cI, 10, .inl kf)), (ap, .inl (cI, 10, .inl pf)), (al, .inl (cI, 10, .inl lf)), (ar, .inl (cI, 10, .inl rf)), (g0, .inl (cI, 11, .inl sf)), (n0, .inr (6, [.int (mu.2.1 0), .int (mu.2.1 1)])), (c0, .inr (1, [.ref ep, .ref eh, .int (nI (mu.1 0)), .ref ef, .ref es, .ref eg, .int (nI (mu.1 1))])), (ep, .inl (cI, 11, .inl (mu.2.2.1 0))), (eh, .inl (cI, 11, .inl (mu.2.2.1 1))), (ef, .inl (cI, 55, .inl (mu.2.2.1 2))), (es, .inl (cI, 55, .inl (mu.2.2.1 3))), (eg, .inl (cI, 55, .inl (mu.2.2.1 4))), (x0, .inr (9, [.ref xb, .ref xp, .ref xn, .ref xs, .int (nI (mu.1 2)), .int (mu.2.1 2), .int (mu.2.1 3), .int (mu.2.1 4), .int (mu.2.1 5)])), (xb, .inl (cI, 460, .inl (mu.2.2.1 5))), (xp, .inl (cI, 460, .inl (mu.2.2.1 6))), (xn, .inl (cI, 460, .inl (mu.2.2.1 7))), (xs, .inl (cI, 460, .inl (mu.2.2.1 8))), (y0, .inr (7, [.ref r0, .ref r1, .ref r2, .ref r3, .ref r4, .ref r5, .ref r6, .ref r7, .int (nI (mu.1 3)), .int (mu.2.1 6)])), (r0, .inl (cI, 30, .inl (mu.2.2.2 0))), (r1, .inl (cI, 30, .inl (mu.2.2.2 1))), (r2, .inl (cI, 30, .inl (mu.2.2.2 2))), (r3, .inl (cI, 30, .inl (mu.2.2.2 3))), (r4, .inl (cI, 30, .inl (mu.2.2.2 4))), (r5, .inl (cI, 30, .inl (mu.2.2.2 5))), (r6, .inl (cI, 30, .inl (mu.2.2.2 6))), (r7, .inl (cI, 30, .inl (mu.2.2.2 7)))] := hD
  have hP : va_P D vwCl [(o0, .inr (10, [.ref t0, .ref h0, .ref tt, .ref kt, .ref cp, .ref n0, .ref c0, .ref x0, .ref y0, .ref ts, .int mef9])), (t0, .inr (8, [.ref l0, .ref g0, .int (nI ke)])), (l0, .inr (4, [.int (nI ln), .int att, .int en, .int (nI n), .ref ak, .ref ap, .ref al, .ref ar])), (ak, .inl (cI, 10, .inl kf)), (ap, .inl (cI, 10, .inl pf)), (al, .inl (cI, 10, .inl lf)), (ar, .inl (cI, 10, .inl rf)), (g0, .inl (cI, 11, .inl sf)), (n0, .inr (6, [.int (mu.2.1 0), .int (mu.2.1 1)])), (c0, .inr (1, [.ref ep, .ref eh, .int (nI (mu.1 0)), .ref ef, .ref es, .ref eg, .int (nI (mu.1 1))])), (ep, .inl (cI, 11, .inl (mu.2.2.1 0))), (eh, .inl (cI, 11, .inl (mu.2.2.1 1))), (ef, .inl (cI, 55, .inl (mu.2.2.1 2))), (es, .inl (cI, 55, .inl (mu.2.2.1 3))), (eg, .inl (cI, 55, .inl (mu.2.2.1 4))), (x0, .inr (9, [.ref xb, .ref xp, .ref xn, .ref xs, .int (nI (mu.1 2)), .int (mu.2.1 2), .int (mu.2.1 3), .int (mu.2.1 4), .int (mu.2.1 5)])), (xb, .inl (cI, 460, .inl (mu.2.2.1 5))), (xp, .inl (cI, 460, .inl (mu.2.2.1 6))), (xn, .inl (cI, 460, .inl (mu.2.2.1 7))), (xs, .inl (cI, 460, .inl (mu.2.2.1 8))), (y0, .inr (7, [.ref r0, .ref r1, .ref r2, .ref r3, .ref r4, .ref r5, .ref r6, .ref r7, .int (nI (mu.1 3)), .int (mu.2.1 6)])), (r0, .inl (cI, 30, .inl (mu.2.2.2 0))), (r1, .inl (cI, 30, .inl (mu.2.2.2 1))), (r2, .inl (cI, 30, .inl (mu.2.2.2 2))), (r3, .inl (cI, 30, .inl (mu.2.2.2 3))), (r4, .inl (cI, 30, .inl (mu.2.2.2 4))), (r5, .inl (cI, 30, .inl (mu.2.2.2 5))), (r6, .inl (cI, 30, .inl (mu.2.2.2 6))), (r7, .inl (cI, 30, .inl (mu.2.2.2 7)))] s.heap := hP
  have hl := lv_entry ([.ref o0]) (n := 1) (Nat.le_of_ble_eq_true rfl)
  rw [lg_entry_eq]
  generalize (lg_sl ([.ref o0]) ++ List.replicate (1 - (lg_sl ([.ref o0])).length) Slot.unset).toArray = ls at hl ⊢
  have hl : lv_has ls 1 [(0, .ref o0)] := hl
  have hn := hL.2.2.2.2.1
  have hcl := ftLR_ln hL hln
  refine lv_aload_n hx hb dX10_worst_0 rfl (lv_at hl 0 rfl) ?_
  refine ft_cxv (S := ftUm) (wc := [(o0, .inr (10, [.ref t0, .ref h0, .ref tt, .ref kt, .ref cp, .ref n0, .ref c0, .ref x0, .ref y0, .ref ts, .int mef9])), (t0, .inr (8, [.ref l0, .ref g0, .int (nI ke)])), (l0, .inr (4, [.int (nI ln), .int att, .int en, .int (nI n), .ref ak, .ref ap, .ref al, .ref ar])), (ak, .inl (cI, 10, .inl kf)), (ap, .inl (cI, 10, .inl pf)), (al, .inl (cI, 10, .inl lf)), (ar, .inl (cI, 10, .inl rf)), (g0, .inl (cI, 11, .inl sf)), (n0, .inr (6, [.int (mu.2.1 0), .int (mu.2.1 1)])), (c0, .inr (1, [.ref ep, .ref eh, .int (nI (mu.1 0)), .ref ef, .ref es, .ref eg, .int (nI (mu.1 1))])), (ep, .inl (cI, 11, .inl (mu.2.2.1 0))), (eh, .inl (cI, 11, .inl (mu.2.2.1 1))), (ef, .inl (cI, 55, .inl (mu.2.2.1 2))), (es, .inl (cI, 55, .inl (mu.2.2.1 3))), (eg, .inl (cI, 55, .inl (mu.2.2.1 4))), (x0, .inr (9, [.ref xb, .ref xp, .ref xn, .ref xs, .int (nI (mu.1 2)), .int (mu.2.1 2), .int (mu.2.1 3), .int (mu.2.1 4), .int (mu.2.1 5)])), (xb, .inl (cI, 460, .inl (mu.2.2.1 5))), (xp, .inl (cI, 460, .inl (mu.2.2.1 6))), (xn, .inl (cI, 460, .inl (mu.2.2.1 7))), (xs, .inl (cI, 460, .inl (mu.2.2.1 8))), (y0, .inr (7, [.ref r0, .ref r1, .ref r2, .ref r3, .ref r4, .ref r5, .ref r6, .ref r7, .int (nI (mu.1 3)), .int (mu.2.1 6)])), (r0, .inl (cI, 30, .inl (mu.2.2.2 0))), (r1, .inl (cI, 30, .inl (mu.2.2.2 1))), (r2, .inl (cI, 30, .inl (mu.2.2.2 2))), (r3, .inl (cI, 30, .inl (mu.2.2.2 3))), (r4, .inl (cI, 30, .inl (mu.2.2.2 4))), (r5, .inl (cI, 30, .inl (mu.2.2.2 5))), (r6, .inl (cI, 30, .inl (mu.2.2.2 6))), (r7, .inl (cI, 30, .inl (mu.2.2.2 7)))]) (wr := []) (w1 := (fun (u1 : ftUm) => [(o0, .inr (10, [.ref t0, .ref h0, .ref tt, .ref kt, .ref cp, .ref n0, .ref c0, .ref x0, .ref y0, .ref ts, .int 1])), (t0, .inr (8, [.ref l0, .ref g0, .int (nI ke)])), (l0, .inr (4, [.int (nI ln), .int att, .int en, .int (nI n), .ref ak, .ref ap, .ref al, .ref ar])), (ak, .inl (cI, 10, .inl kf)), (ap, .inl (cI, 10, .inl pf)), (al, .inl (cI, 10, .inl lf)), (ar, .inl (cI, 10, .inl rf)), (g0, .inl (cI, 11, .inl sf)), (n0, .inr (6, [.int (u1.2.1 0), .int (u1.2.1 1)])), (c0, .inr (1, [.ref ep, .ref eh, .int (nI (u1.1 0)), .ref ef, .ref es, .ref eg, .int (nI (u1.1 1))])), (ep, .inl (cI, 11, .inl (u1.2.2.1 0))), (eh, .inl (cI, 11, .inl (u1.2.2.1 1))), (ef, .inl (cI, 55, .inl (u1.2.2.1 2))), (es, .inl (cI, 55, .inl (u1.2.2.1 3))), (eg, .inl (cI, 55, .inl (u1.2.2.1 4))), (x0, .inr (9, [.ref xb, .ref xp, .ref xn, .ref xs, .int (nI (u1.1 2)), .int (u1.2.1 2), .int (u1.2.1 3), .int (u1.2.1 4), .int (u1.2.1 5)])), (xb, .inl (cI, 460, .inl (u1.2.2.1 5))), (xp, .inl (cI, 460, .inl (u1.2.2.1 6))), (xn, .inl (cI, 460, .inl (u1.2.2.1 7))), (xs, .inl (cI, 460, .inl (u1.2.2.1 8))), (y0, .inr (7, [.ref r0, .ref r1, .ref r2, .ref r3, .ref r4, .ref r5, .ref r6, .ref r7, .int (nI (u1.1 3)), .int (u1.2.1 6)])), (r0, .inl (cI, 30, .inl (u1.2.2.2 0))), (r1, .inl (cI, 30, .inl (u1.2.2.2 1))), (r2, .inl (cI, 30, .inl (u1.2.2.2 2))), (r3, .inl (cI, 30, .inl (u1.2.2.2 3))), (r4, .inl (cI, 30, .inl (u1.2.2.2 4))), (r5, .inl (cI, 30, .inl (u1.2.2.2 5))), (r6, .inl (cI, 30, .inl (u1.2.2.2 6))), (r7, .inl (cI, 30, .inl (u1.2.2.2 7)))])) (ws1 := (fun (u1 : ftUm) => [(o0, .inr (10, [.ref t0, .ref h0, .ref tt, .ref kt, .ref cp, .ref n0, .ref c0, .ref x0, .ref y0, .ref ts, .int 1])), (t0, .inr (8, [.ref l0, .ref g0, .int (nI ke)])), (l0, .inr (4, [.int (nI ln), .int att, .int en, .int (nI n), .ref ak, .ref ap, .ref al, .ref ar])), (ak, .inl (cI, 10, .inl kf)), (ap, .inl (cI, 10, .inl pf)), (al, .inl (cI, 10, .inl lf)), (ar, .inl (cI, 10, .inl rf)), (g0, .inl (cI, 11, .inl sf)), (n0, .inr (6, [.int (u1.2.1 0), .int (u1.2.1 1)])), (c0, .inr (1, [.ref ep, .ref eh, .int (nI (u1.1 0)), .ref ef, .ref es, .ref eg, .int (nI (u1.1 1))])), (ep, .inl (cI, 11, .inl (u1.2.2.1 0))), (eh, .inl (cI, 11, .inl (u1.2.2.1 1))), (ef, .inl (cI, 55, .inl (u1.2.2.1 2))), (es, .inl (cI, 55, .inl (u1.2.2.1 3))), (eg, .inl (cI, 55, .inl (u1.2.2.1 4))), (x0, .inr (9, [.ref xb, .ref xp, .ref xn, .ref xs, .int (nI (u1.1 2)), .int (u1.2.1 2), .int (u1.2.1 3), .int (u1.2.1 4), .int (u1.2.1 5)])), (xb, .inl (cI, 460, .inl (u1.2.2.1 5))), (xp, .inl (cI, 460, .inl (u1.2.2.1 6))), (xn, .inl (cI, 460, .inl (u1.2.2.1 7))), (xs, .inl (cI, 460, .inl (u1.2.2.1 8))), (y0, .inr (7, [.ref r0, .ref r1, .ref r2, .ref r3, .ref r4, .ref r5, .ref r6, .ref r7, .int (nI (u1.1 3)), .int (u1.2.1 6)])), (r0, .inl (cI, 30, .inl (u1.2.2.2 0))), (r1, .inl (cI, 30, .inl (u1.2.2.2 1))), (r2, .inl (cI, 30, .inl (u1.2.2.2 2))), (r3, .inl (cI, 30, .inl (u1.2.2.2 3))), (r4, .inl (cI, 30, .inl (u1.2.2.2 4))), (r5, .inl (cI, 30, .inl (u1.2.2.2 5))), (r6, .inl (cI, 30, .inl (u1.2.2.2 6))), (r7, .inl (cI, 30, .inl (u1.2.2.2 7)))])) (va_runV (C := RX10) (As := []) (rest := []) ⟨hx, hb, hml, hown, hts⟩ (c_X10_measure l D cI cS s.heap.size o0 t0 h0 tt kt cp n0 c0 x0 y0 ts mef9 l0 g0 ke ln att en n ak ap al ar ep eh ef es eg xb xp xn xs r0 r1 r2 r3 r4 r5 r6 r7 kf pf lf rf sf mu w hWf hL hln hsf hmi) (cwV 0 hts gX10_worst_X10_measure rfl rfl rfl (by decide +kernel) ⟨Nat.le_of_ble_eq_true rfl, Nat.le_of_ble_eq_true rfl⟩) (ft_preRWV (ci := 10) (q0 := 0) hP hD hKK [0, 1, 2, 3, 4, 5, 6, 7, 8, 9, 10, 11, 12, 13, 14, 15, 16, 17, 18, 19, 20, 21, 22, 23, 24, 25, 26, 27, 28] rfl rfl rfl rfl rfl) rfl rfl hl.1 rfl (lv_room (Nat.le_of_ble_eq_true rfl)) dX10_worst_1 ⟨Nat.le_of_ble_eq_true rfl, Nat.le_of_ble_eq_true rfl⟩) hP hD hS hA [0, 1, 2, 3, 4, 5, 6, 7, 8, 9, 10, 11, 12, 13, 14, 15, 16, 17, 18, 19, 20, 21, 22, 23, 24, 25, 26, 27, 28] [] [0, 1, 2, 3, 4, 5, 6, 7, 8, 9, 10, 11, 12, 13, 14, 15, 16, 17, 18, 19, 20, 21, 22, 23, 24, 25, 26, 27, 28] rfl rfl (by decide) (by decide) (by decide) (fun _ => rfl) (fun _ => rfl) (fun u1 hu1 H locs hP hD hS => ?_)
  obtain ⟨hms1, hnc1⟩ := hu1
  have hP : va_P D vwCl [(o0, .inr (10, [.ref t0, .ref h0, .ref tt, .ref kt, .ref cp, .ref n0, .ref c0, .ref x0, .ref y0, .ref ts, .int 1])), (t0, .inr (8, [.ref l0, .ref g0, .int (nI ke)])), (l0, .inr (4, [.int (nI ln), .int att, .int en, .int (nI n), .ref ak, .ref ap, .ref al, .ref ar])), (ak, .inl (cI, 10, .inl kf)), (ap, .inl (cI, 10, .inl pf)), (al, .inl (cI, 10, .inl lf)), (ar, .inl (cI, 10, .inl rf)), (g0, .inl (cI, 11, .inl sf)), (n0, .inr (6, [.int (u1.2.1 0), .int (u1.2.1 1)])), (c0, .inr (1, [.ref ep, .ref eh, .int (nI (u1.1 0)), .ref ef, .ref es, .ref eg, .int (nI (u1.1 1))])), (ep, .inl (cI, 11, .inl (u1.2.2.1 0))), (eh, .inl (cI, 11, .inl (u1.2.2.1 1))), (ef, .inl (cI, 55, .inl (u1.2.2.1 2))), (es, .inl (cI, 55, .inl (u1.2.2.1 3))), (eg, .inl (cI, 55, .inl (u1.2.2.1 4))), (x0, .inr (9, [.ref xb, .ref xp, .ref xn, .ref xs, .int (nI (u1.1 2)), .int (u1.2.1 2), .int (u1.2.1 3), .int (u1.2.1 4), .int (u1.2.1 5)])), (xb, .inl (cI, 460, .inl (u1.2.2.1 5))), (xp, .inl (cI, 460, .inl (u1.2.2.1 6))), (xn, .inl (cI, 460, .inl (u1.2.2.1 7))), (xs, .inl (cI, 460, .inl (u1.2.2.1 8))), (y0, .inr (7, [.ref r0, .ref r1, .ref r2, .ref r3, .ref r4, .ref r5, .ref r6, .ref r7, .int (nI (u1.1 3)), .int (u1.2.1 6)])), (r0, .inl (cI, 30, .inl (u1.2.2.2 0))), (r1, .inl (cI, 30, .inl (u1.2.2.2 1))), (r2, .inl (cI, 30, .inl (u1.2.2.2 2))), (r3, .inl (cI, 30, .inl (u1.2.2.2 3))), (r4, .inl (cI, 30, .inl (u1.2.2.2 4))), (r5, .inl (cI, 30, .inl (u1.2.2.2 5))), (r6, .inl (cI, 30, .inl (u1.2.2.2 6))), (r7, .inl (cI, 30, .inl (u1.2.2.2 7)))] H := hP
  have hD : va_D A [(o0, .inr (10, [.ref t0, .ref h0, .ref tt, .ref kt, .ref cp, .ref n0, .ref c0, .ref x0, .ref y0, .ref ts, .int 1])), (t0, .inr (8, [.ref l0, .ref g0, .int (nI ke)])), (l0, .inr (4, [.int (nI ln), .int att, .int en, .int (nI n), .ref ak, .ref ap, .ref al, .ref ar])), (ak, .inl (cI, 10, .inl kf)), (ap, .inl (cI, 10, .inl pf)), (al, .inl (cI, 10, .inl lf)), (ar, .inl (cI, 10, .inl rf)), (g0, .inl (cI, 11, .inl sf)), (n0, .inr (6, [.int (u1.2.1 0), .int (u1.2.1 1)])), (c0, .inr (1, [.ref ep, .ref eh, .int (nI (u1.1 0)), .ref ef, .ref es, .ref eg, .int (nI (u1.1 1))])), (ep, .inl (cI, 11, .inl (u1.2.2.1 0))), (eh, .inl (cI, 11, .inl (u1.2.2.1 1))), (ef, .inl (cI, 55, .inl (u1.2.2.1 2))), (es, .inl (cI, 55, .inl (u1.2.2.1 3))), (eg, .inl (cI, 55, .inl (u1.2.2.1 4))), (x0, .inr (9, [.ref xb, .ref xp, .ref xn, .ref xs, .int (nI (u1.1 2)), .int (u1.2.1 2), .int (u1.2.1 3), .int (u1.2.1 4), .int (u1.2.1 5)])), (xb, .inl (cI, 460, .inl (u1.2.2.1 5))), (xp, .inl (cI, 460, .inl (u1.2.2.1 6))), (xn, .inl (cI, 460, .inl (u1.2.2.1 7))), (xs, .inl (cI, 460, .inl (u1.2.2.1 8))), (y0, .inr (7, [.ref r0, .ref r1, .ref r2, .ref r3, .ref r4, .ref r5, .ref r6, .ref r7, .int (nI (u1.1 3)), .int (u1.2.1 6)])), (r0, .inl (cI, 30, .inl (u1.2.2.2 0))), (r1, .inl (cI, 30, .inl (u1.2.2.2 1))), (r2, .inl (cI, 30, .inl (u1.2.2.2 2))), (r3, .inl (cI, 30, .inl (u1.2.2.2 3))), (r4, .inl (cI, 30, .inl (u1.2.2.2 4))), (r5, .inl (cI, 30, .inl (u1.2.2.2 5))), (r6, .inl (cI, 30, .inl (u1.2.2.2 6))), (r7, .inl (cI, 30, .inl (u1.2.2.2 7)))] := hD
  have hev := ftEv6_of hWf hms1.2.2.2.2
  have hk30 := hev.2.1
  have hkE := hev.1
  refine lv_aload_n hx hb dX10_worst_4 rfl (lv_at hl 0 rfl) ?_
  refine va_get (D := D) (ci := 10) (v := .ref y0) (C := RX10) (T := TX10) (N := 11) hx hb hts (by decide +kernel) hown hK hP 0 rfl rfl 8 (by decide) (hts (.fieldLink RX10 68 "FiberTrace" "reading" "LFiberTrace$Reading;") (by decide +kernel)) (fun _ h9 => h9) rfl dX10_worst_5 ?_
  refine ft_csi (r := ftWorst u1.2.2.2 (u1.1 3)) (va_runV (C := RX7) (As := []) (rest := []) ⟨hx, hb, hml, hown, hts⟩ (c_X7_greatestLoss l D cI cS y0 r0 r1 r2 r3 r4 r5 r6 r7 (u1.1 3) (u1.2.1 6) u1.2.2.2 (by first | assumption | omega)) (cwV 0 hts gX10_worst_X7_greatestLoss rfl rfl rfl (by decide +kernel) ⟨Nat.le_of_ble_eq_true rfl, Nat.le_of_ble_eq_true rfl⟩) (ft_preROV (ci := 7) (q0 := 20) hP hKK [20, 23, 25] rfl rfl rfl) rfl rfl hl.1 rfl (lv_room (Nat.le_of_ble_eq_true rfl)) dX10_worst_8 ⟨Nat.le_of_ble_eq_true rfl, Nat.le_of_ble_eq_true rfl⟩) ?_
  refine ft_csi (r := if (ftWorst u1.2.2.2 (u1.1 3)) = -1 then -1000004 else (ftWorst u1.2.2.2 (u1.1 3))) (va_runS (As := [.int (ftWorst u1.2.2.2 (u1.1 3))]) (rest := []) ⟨hx, hb, hml, hown, hts⟩ (c_X10_orNotFound l D cI cS (ftWorst u1.2.2.2 (u1.1 3))) (va_cwS 1 hts gX10_worst_X10_orNotFound rfl rfl rfl (by decide +kernel) ⟨Nat.le_of_ble_eq_true rfl, Nat.le_of_ble_eq_true rfl⟩) (ft_preRO hP hKK [] rfl) rfl rfl hl.1 rfl (lv_room (Nat.le_of_ble_eq_true rfl)) dX10_worst_11 ⟨Nat.le_of_ble_eq_true rfl, Nat.le_of_ble_eq_true rfl⟩) ?_
  obtain ⟨u9, hu9⟩ : ∃ u9 : Int32 × ftUm, u9 = ((1 : Int32), u1) := ⟨_, rfl⟩
  have hw9 : ([(o0, .inr (10, [.ref t0, .ref h0, .ref tt, .ref kt, .ref cp, .ref n0, .ref c0, .ref x0, .ref y0, .ref ts, .int 1])), (t0, .inr (8, [.ref l0, .ref g0, .int (nI ke)])), (l0, .inr (4, [.int (nI ln), .int att, .int en, .int (nI n), .ref ak, .ref ap, .ref al, .ref ar])), (ak, .inl (cI, 10, .inl kf)), (ap, .inl (cI, 10, .inl pf)), (al, .inl (cI, 10, .inl lf)), (ar, .inl (cI, 10, .inl rf)), (g0, .inl (cI, 11, .inl sf)), (n0, .inr (6, [.int (u1.2.1 0), .int (u1.2.1 1)])), (c0, .inr (1, [.ref ep, .ref eh, .int (nI (u1.1 0)), .ref ef, .ref es, .ref eg, .int (nI (u1.1 1))])), (ep, .inl (cI, 11, .inl (u1.2.2.1 0))), (eh, .inl (cI, 11, .inl (u1.2.2.1 1))), (ef, .inl (cI, 55, .inl (u1.2.2.1 2))), (es, .inl (cI, 55, .inl (u1.2.2.1 3))), (eg, .inl (cI, 55, .inl (u1.2.2.1 4))), (x0, .inr (9, [.ref xb, .ref xp, .ref xn, .ref xs, .int (nI (u1.1 2)), .int (u1.2.1 2), .int (u1.2.1 3), .int (u1.2.1 4), .int (u1.2.1 5)])), (xb, .inl (cI, 460, .inl (u1.2.2.1 5))), (xp, .inl (cI, 460, .inl (u1.2.2.1 6))), (xn, .inl (cI, 460, .inl (u1.2.2.1 7))), (xs, .inl (cI, 460, .inl (u1.2.2.1 8))), (y0, .inr (7, [.ref r0, .ref r1, .ref r2, .ref r3, .ref r4, .ref r5, .ref r6, .ref r7, .int (nI (u1.1 3)), .int (u1.2.1 6)])), (r0, .inl (cI, 30, .inl (u1.2.2.2 0))), (r1, .inl (cI, 30, .inl (u1.2.2.2 1))), (r2, .inl (cI, 30, .inl (u1.2.2.2 2))), (r3, .inl (cI, 30, .inl (u1.2.2.2 3))), (r4, .inl (cI, 30, .inl (u1.2.2.2 4))), (r5, .inl (cI, 30, .inl (u1.2.2.2 5))), (r6, .inl (cI, 30, .inl (u1.2.2.2 6))), (r7, .inl (cI, 30, .inl (u1.2.2.2 7)))] : va_W) = [(o0, .inr (10, [.ref t0, .ref h0, .ref tt, .ref kt, .ref cp, .ref n0, .ref c0, .ref x0, .ref y0, .ref ts, .int u9.1])), (t0, .inr (8, [.ref l0, .ref g0, .int (nI ke)])), (l0, .inr (4, [.int (nI ln), .int att, .int en, .int (nI n), .ref ak, .ref ap, .ref al, .ref ar])), (ak, .inl (cI, 10, .inl kf)), (ap, .inl (cI, 10, .inl pf)), (al, .inl (cI, 10, .inl lf)), (ar, .inl (cI, 10, .inl rf)), (g0, .inl (cI, 11, .inl sf)), (n0, .inr (6, [.int (u9.2.2.1 0), .int (u9.2.2.1 1)])), (c0, .inr (1, [.ref ep, .ref eh, .int (nI (u9.2.1 0)), .ref ef, .ref es, .ref eg, .int (nI (u9.2.1 1))])), (ep, .inl (cI, 11, .inl (u9.2.2.2.1 0))), (eh, .inl (cI, 11, .inl (u9.2.2.2.1 1))), (ef, .inl (cI, 55, .inl (u9.2.2.2.1 2))), (es, .inl (cI, 55, .inl (u9.2.2.2.1 3))), (eg, .inl (cI, 55, .inl (u9.2.2.2.1 4))), (x0, .inr (9, [.ref xb, .ref xp, .ref xn, .ref xs, .int (nI (u9.2.1 2)), .int (u9.2.2.1 2), .int (u9.2.2.1 3), .int (u9.2.2.1 4), .int (u9.2.2.1 5)])), (xb, .inl (cI, 460, .inl (u9.2.2.2.1 5))), (xp, .inl (cI, 460, .inl (u9.2.2.2.1 6))), (xn, .inl (cI, 460, .inl (u9.2.2.2.1 7))), (xs, .inl (cI, 460, .inl (u9.2.2.2.1 8))), (y0, .inr (7, [.ref r0, .ref r1, .ref r2, .ref r3, .ref r4, .ref r5, .ref r6, .ref r7, .int (nI (u9.2.1 3)), .int (u9.2.2.1 6)])), (r0, .inl (cI, 30, .inl (u9.2.2.2.2 0))), (r1, .inl (cI, 30, .inl (u9.2.2.2.2 1))), (r2, .inl (cI, 30, .inl (u9.2.2.2.2 2))), (r3, .inl (cI, 30, .inl (u9.2.2.2.2 3))), (r4, .inl (cI, 30, .inl (u9.2.2.2.2 4))), (r5, .inl (cI, 30, .inl (u9.2.2.2.2 5))), (r6, .inl (cI, 30, .inl (u9.2.2.2.2 6))), (r7, .inl (cI, 30, .inl (u9.2.2.2.2 7)))] := by subst hu9; rfl
  rw [hw9] at hP hD
  have hf9_0 : ftMi w u9.1 u9.2 := by rw [hu9]; exact ⟨Or.inr rfl, fun _ => hms1, hnc1⟩
  have hr9 : (if (ftWorst u1.2.2.2 (u1.1 3)) = -1 then -1000004 else (ftWorst u1.2.2.2 (u1.1 3)) : Int32) = ftWo (ftCE w) (ftCE w).1 := by exact ftWorst_or hev
  exact W.iret (v := if (ftWorst u1.2.2.2 (u1.1 3)) = -1 then -1000004 else (ftWorst u1.2.2.2 (u1.1 3))) hx hb hr (fun t ht hW => ⟨⟨if (ftWorst u1.2.2.2 (u1.1 3)) = -1 then -1000004 else (ftWorst u1.2.2.2 (u1.1 3)), u9, rfl, ⟨hr9, hf9_0⟩, by rw [ht]; exact hP, by rw [hAe]; exact hD⟩, by rw [hAe]; exact hS.F ht⟩) hS.2.2 dX10_worst_14
set_option maxHeartbeats 4000000 in
set_option maxRecDepth 100000 in
theorem c_X10_eventAt (l : Launch) (D : va_G) (cI cS : ClassId) (sz : Nat) (o0 t0 h0 tt kt cp n0 c0 x0 y0 ts : Nat) (mef9 : Int32) (l0 g0 ke : Nat) (ln : Nat) (att en : Int32) (n ak ap al ar : Nat) (ep eh ef es eg xb xp xn xs r0 r1 r2 r3 r4 r5 r6 r7 : Nat) (kf pf lf rf : Nat → Int32) (sf : Nat → Int32) (mu : ftUm) (w : Nat → Int32) (xq9 : Int32) (hWf : ftWf w) (hL : ftLR w (nI ln) att en n kf pf lf rf) (hln : ln ≤ 400) (hsf : ∀ j, j < 11 → sf j = w (44 + j)) (hmi : ftMi w mef9 mu) : Met l yX10_eventAt wsX10_eventAt ({ frames := 6, cells := 0, slots := 0, locals := 150 }) (ftRW D cI cS [.ref o0, .int xq9] [(o0, .inr (10, [.ref t0, .ref h0, .ref tt, .ref kt, .ref cp, .ref n0, .ref c0, .ref x0, .ref y0, .ref ts, .int mef9])), (t0, .inr (8, [.ref l0, .ref g0, .int (nI ke)])), (l0, .inr (4, [.int (nI ln), .int att, .int en, .int (nI n), .ref ak, .ref ap, .ref al, .ref ar])), (ak, .inl (cI, 10, .inl kf)), (ap, .inl (cI, 10, .inl pf)), (al, .inl (cI, 10, .inl lf)), (ar, .inl (cI, 10, .inl rf)), (g0, .inl (cI, 11, .inl sf)), (n0, .inr (6, [.int (mu.2.1 0), .int (mu.2.1 1)])), (c0, .inr (1, [.ref ep, .ref eh, .int (nI (mu.1 0)), .ref ef, .ref es, .ref eg, .int (nI (mu.1 1))])), (ep, .inl (cI, 11, .inl (mu.2.2.1 0))), (eh, .inl (cI, 11, .inl (mu.2.2.1 1))), (ef, .inl (cI, 55, .inl (mu.2.2.1 2))), (es, .inl (cI, 55, .inl (mu.2.2.1 3))), (eg, .inl (cI, 55, .inl (mu.2.2.1 4))), (x0, .inr (9, [.ref xb, .ref xp, .ref xn, .ref xs, .int (nI (mu.1 2)), .int (mu.2.1 2), .int (mu.2.1 3), .int (mu.2.1 4), .int (mu.2.1 5)])), (xb, .inl (cI, 460, .inl (mu.2.2.1 5))), (xp, .inl (cI, 460, .inl (mu.2.2.1 6))), (xn, .inl (cI, 460, .inl (mu.2.2.1 7))), (xs, .inl (cI, 460, .inl (mu.2.2.1 8))), (y0, .inr (7, [.ref r0, .ref r1, .ref r2, .ref r3, .ref r4, .ref r5, .ref r6, .ref r7, .int (nI (mu.1 3)), .int (mu.2.1 6)])), (r0, .inl (cI, 30, .inl (mu.2.2.2 0))), (r1, .inl (cI, 30, .inl (mu.2.2.2 1))), (r2, .inl (cI, 30, .inl (mu.2.2.2 2))), (r3, .inl (cI, 30, .inl (mu.2.2.2 3))), (r4, .inl (cI, 30, .inl (mu.2.2.2 4))), (r5, .inl (cI, 30, .inl (mu.2.2.2 5))), (r6, .inl (cI, 30, .inl (mu.2.2.2 6))), (r7, .inl (cI, 30, .inl (mu.2.2.2 7)))] sz) (ftXi D [(o0, .inr (10, [.ref t0, .ref h0, .ref tt, .ref kt, .ref cp, .ref n0, .ref c0, .ref x0, .ref y0, .ref ts, .int mef9])), (t0, .inr (8, [.ref l0, .ref g0, .int (nI ke)])), (l0, .inr (4, [.int (nI ln), .int att, .int en, .int (nI n), .ref ak, .ref ap, .ref al, .ref ar])), (ak, .inl (cI, 10, .inl kf)), (ap, .inl (cI, 10, .inl pf)), (al, .inl (cI, 10, .inl lf)), (ar, .inl (cI, 10, .inl rf)), (g0, .inl (cI, 11, .inl sf)), (n0, .inr (6, [.int (mu.2.1 0), .int (mu.2.1 1)])), (c0, .inr (1, [.ref ep, .ref eh, .int (nI (mu.1 0)), .ref ef, .ref es, .ref eg, .int (nI (mu.1 1))])), (ep, .inl (cI, 11, .inl (mu.2.2.1 0))), (eh, .inl (cI, 11, .inl (mu.2.2.1 1))), (ef, .inl (cI, 55, .inl (mu.2.2.1 2))), (es, .inl (cI, 55, .inl (mu.2.2.1 3))), (eg, .inl (cI, 55, .inl (mu.2.2.1 4))), (x0, .inr (9, [.ref xb, .ref xp, .ref xn, .ref xs, .int (nI (mu.1 2)), .int (mu.2.1 2), .int (mu.2.1 3), .int (mu.2.1 4), .int (mu.2.1 5)])), (xb, .inl (cI, 460, .inl (mu.2.2.1 5))), (xp, .inl (cI, 460, .inl (mu.2.2.1 6))), (xn, .inl (cI, 460, .inl (mu.2.2.1 7))), (xs, .inl (cI, 460, .inl (mu.2.2.1 8))), (y0, .inr (7, [.ref r0, .ref r1, .ref r2, .ref r3, .ref r4, .ref r5, .ref r6, .ref r7, .int (nI (mu.1 3)), .int (mu.2.1 6)])), (r0, .inl (cI, 30, .inl (mu.2.2.2 0))), (r1, .inl (cI, 30, .inl (mu.2.2.2 1))), (r2, .inl (cI, 30, .inl (mu.2.2.2 2))), (r3, .inl (cI, 30, .inl (mu.2.2.2 3))), (r4, .inl (cI, 30, .inl (mu.2.2.2 4))), (r5, .inl (cI, 30, .inl (mu.2.2.2 5))), (r6, .inl (cI, 30, .inl (mu.2.2.2 6))), (r7, .inl (cI, 30, .inl (mu.2.2.2 7)))] sz (fun (o9 : Int32) (u : Int32 × ftUm) => o9 = ftEaA w xq9 ∧ (ftMi w u.1 u.2)) (fun (u : Int32 × ftUm) => [(o0, .inr (10, [.ref t0, .ref h0, .ref tt, .ref kt, .ref cp, .ref n0, .ref c0, .ref x0, .ref y0, .ref ts, .int u.1])), (t0, .inr (8, [.ref l0, .ref g0, .int (nI ke)])), (l0, .inr (4, [.int (nI ln), .int att, .int en, .int (nI n), .ref ak, .ref ap, .ref al, .ref ar])), (ak, .inl (cI, 10, .inl kf)), (ap, .inl (cI, 10, .inl pf)), (al, .inl (cI, 10, .inl lf)), (ar, .inl (cI, 10, .inl rf)), (g0, .inl (cI, 11, .inl sf)), (n0, .inr (6, [.int (u.2.2.1 0), .int (u.2.2.1 1)])), (c0, .inr (1, [.ref ep, .ref eh, .int (nI (u.2.1 0)), .ref ef, .ref es, .ref eg, .int (nI (u.2.1 1))])), (ep, .inl (cI, 11, .inl (u.2.2.2.1 0))), (eh, .inl (cI, 11, .inl (u.2.2.2.1 1))), (ef, .inl (cI, 55, .inl (u.2.2.2.1 2))), (es, .inl (cI, 55, .inl (u.2.2.2.1 3))), (eg, .inl (cI, 55, .inl (u.2.2.2.1 4))), (x0, .inr (9, [.ref xb, .ref xp, .ref xn, .ref xs, .int (nI (u.2.1 2)), .int (u.2.2.1 2), .int (u.2.2.1 3), .int (u.2.2.1 4), .int (u.2.2.1 5)])), (xb, .inl (cI, 460, .inl (u.2.2.2.1 5))), (xp, .inl (cI, 460, .inl (u.2.2.2.1 6))), (xn, .inl (cI, 460, .inl (u.2.2.2.1 7))), (xs, .inl (cI, 460, .inl (u.2.2.2.1 8))), (y0, .inr (7, [.ref r0, .ref r1, .ref r2, .ref r3, .ref r4, .ref r5, .ref r6, .ref r7, .int (nI (u.2.1 3)), .int (u.2.2.1 6)])), (r0, .inl (cI, 30, .inl (u.2.2.2.2 0))), (r1, .inl (cI, 30, .inl (u.2.2.2.2 1))), (r2, .inl (cI, 30, .inl (u.2.2.2.2 2))), (r3, .inl (cI, 30, .inl (u.2.2.2.2 3))), (r4, .inl (cI, 30, .inl (u.2.2.2.2 4))), (r5, .inl (cI, 30, .inl (u.2.2.2.2 5))), (r6, .inl (cI, 30, .inl (u.2.2.2.2 6))), (r7, .inl (cI, 30, .inl (u.2.2.2.2 7)))])) 0 0 (va_A [(o0, .inr (10, [.ref t0, .ref h0, .ref tt, .ref kt, .ref cp, .ref n0, .ref c0, .ref x0, .ref y0, .ref ts, .int mef9])), (t0, .inr (8, [.ref l0, .ref g0, .int (nI ke)])), (l0, .inr (4, [.int (nI ln), .int att, .int en, .int (nI n), .ref ak, .ref ap, .ref al, .ref ar])), (ak, .inl (cI, 10, .inl kf)), (ap, .inl (cI, 10, .inl pf)), (al, .inl (cI, 10, .inl lf)), (ar, .inl (cI, 10, .inl rf)), (g0, .inl (cI, 11, .inl sf)), (n0, .inr (6, [.int (mu.2.1 0), .int (mu.2.1 1)])), (c0, .inr (1, [.ref ep, .ref eh, .int (nI (mu.1 0)), .ref ef, .ref es, .ref eg, .int (nI (mu.1 1))])), (ep, .inl (cI, 11, .inl (mu.2.2.1 0))), (eh, .inl (cI, 11, .inl (mu.2.2.1 1))), (ef, .inl (cI, 55, .inl (mu.2.2.1 2))), (es, .inl (cI, 55, .inl (mu.2.2.1 3))), (eg, .inl (cI, 55, .inl (mu.2.2.1 4))), (x0, .inr (9, [.ref xb, .ref xp, .ref xn, .ref xs, .int (nI (mu.1 2)), .int (mu.2.1 2), .int (mu.2.1 3), .int (mu.2.1 4), .int (mu.2.1 5)])), (xb, .inl (cI, 460, .inl (mu.2.2.1 5))), (xp, .inl (cI, 460, .inl (mu.2.2.1 6))), (xn, .inl (cI, 460, .inl (mu.2.2.1 7))), (xs, .inl (cI, 460, .inl (mu.2.2.1 8))), (y0, .inr (7, [.ref r0, .ref r1, .ref r2, .ref r3, .ref r4, .ref r5, .ref r6, .ref r7, .int (nI (mu.1 3)), .int (mu.2.1 6)])), (r0, .inl (cI, 30, .inl (mu.2.2.2 0))), (r1, .inl (cI, 30, .inl (mu.2.2.2 1))), (r2, .inl (cI, 30, .inl (mu.2.2.2 2))), (r3, .inl (cI, 30, .inl (mu.2.2.2 3))), (r4, .inl (cI, 30, .inl (mu.2.2.2 4))), (r5, .inl (cI, 30, .inl (mu.2.2.2 5))), (r6, .inl (cI, 30, .inl (mu.2.2.2 6))), (r7, .inl (cI, 30, .inl (mu.2.2.2 7)))] sz) := by
  refine Met.ofW (cc := cX10_eventAt) (maxL := 2) (ret := (some .int)) (by decide) rfl ?_
  intro p e s m args below meth c s₁ B hml hv
  obtain ⟨rfl, hsz, hP, hKK, hD0⟩ := hv
  have hK := hKK.1
  have hx := B.exec
  have hb := B.bytes
  have hr := B.returns
  have hts := atoms_spec (ws := wsX10_eventAt) B.pre
  have hown : s.vm.findClass RX10 = some m.cls := findClass_of_methodNamed B.named
  have hlocks := B.notSynchronized
  subst hsz
  have hD := hD0.self (sz := s.heap.size)
  generalize hAe : va_A [(o0, .inr (10, [.ref t0, .ref h0, .ref tt, .ref kt, .ref cp, .ref n0, .ref c0, .ref x0, .ref y0, .ref ts, .int mef9])), (t0, .inr (8, [.ref l0, .ref g0, .int (nI ke)])), (l0, .inr (4, [.int (nI ln), .int att, .int en, .int (nI n), .ref ak, .ref ap, .ref al, .ref ar])), (ak, .inl (cI, 10, .inl kf)), (ap, .inl (cI, 10, .inl pf)), (al, .inl (cI, 10, .inl lf)), (ar, .inl (cI, 10, .inl rf)), (g0, .inl (cI, 11, .inl sf)), (n0, .inr (6, [.int (mu.2.1 0), .int (mu.2.1 1)])), (c0, .inr (1, [.ref ep, .ref eh, .int (nI (mu.1 0)), .ref ef, .ref es, .ref eg, .int (nI (mu.1 1))])), (ep, .inl (cI, 11, .inl (mu.2.2.1 0))), (eh, .inl (cI, 11, .inl (mu.2.2.1 1))), (ef, .inl (cI, 55, .inl (mu.2.2.1 2))), (es, .inl (cI, 55, .inl (mu.2.2.1 3))), (eg, .inl (cI, 55, .inl (mu.2.2.1 4))), (x0, .inr (9, [.ref xb, .ref xp, .ref xn, .ref xs, .int (nI (mu.1 2)), .int (mu.2.1 2), .int (mu.2.1 3), .int (mu.2.1 4), .int (mu.2.1 5)])), (xb, .inl (cI, 460, .inl (mu.2.2.1 5))), (xp, .inl (cI, 460, .inl (mu.2.2.1 6))), (xn, .inl (cI, 460, .inl (mu.2.2.1 7))), (xs, .inl (cI, 460, .inl (mu.2.2.1 8))), (y0, .inr (7, [.ref r0, .ref r1, .ref r2, .ref r3, .ref r4, .ref r5, .ref r6, .ref r7, .int (nI (mu.1 3)), .int (mu.2.1 6)])), (r0, .inl (cI, 30, .inl (mu.2.2.2 0))), (r1, .inl (cI, 30, .inl (mu.2.2.2 1))), (r2, .inl (cI, 30, .inl (mu.2.2.2 2))), (r3, .inl (cI, 30, .inl (mu.2.2.2 3))), (r4, .inl (cI, 30, .inl (mu.2.2.2 4))), (r5, .inl (cI, 30, .inl (mu.2.2.2 5))), (r6, .inl (cI, 30, .inl (mu.2.2.2 6))), (r7, .inl (cI, 30, .inl (mu.2.2.2 7)))] s.heap.size = A at hD ⊢
  have hA : ∀ q : Nat, s.heap.size ≤ q → A q := fun q h => by rw [← hAe]; exact Or.inr h
  have hS : va_S A s.heap s.heap [] := va_S.rf
  have hD : va_D A [(o0, .inr (10, [.ref t0, .ref h0, .ref tt, .ref kt, .ref cp, .ref n0, .ref c0, .ref x0, .ref y0, .ref ts, .int mef9])), (t0, .inr (8, [.ref l0, .ref g0, .int (nI ke)])), (l0, .inr (4, [.int (nI ln), .int att, .int en, .int (nI n), .ref ak, .ref ap, .ref al, .ref ar])), (ak, .inl (cI, 10, .inl kf)), (ap, .inl (cI, 10, .inl pf)), (al, .inl (cI, 10, .inl lf)), (ar, .inl (cI, 10, .inl rf)), (g0, .inl (cI, 11, .inl sf)), (n0, .inr (6, [.int (mu.2.1 0), .int (mu.2.1 1)])), (c0, .inr (1, [.ref ep, .ref eh, .int (nI (mu.1 0)), .ref ef, .ref es, .ref eg, .int (nI (mu.1 1))])), (ep, .inl (cI, 11, .inl (mu.2.2.1 0))), (eh, .inl (cI, 11, .inl (mu.2.2.1 1))), (ef, .inl (cI, 55, .inl (mu.2.2.1 2))), (es, .inl (cI, 55, .inl (mu.2.2.1 3))), (eg, .inl (cI, 55, .inl (mu.2.2.1 4))), (x0, .inr (9, [.ref xb, .ref xp, .ref xn, .ref xs, .int (nI (mu.1 2)), .int (mu.2.1 2), .int (mu.2.1 3), .int (mu.2.1 4), .int (mu.2.1 5)])), (xb, .inl (cI, 460, .inl (mu.2.2.1 5))), (xp, .inl (cI, 460, .inl (mu.2.2.1 6))), (xn, .inl (cI, 460, .inl (mu.2.2.1 7))), (xs, .inl (cI, 460, .inl (mu.2.2.1 8))), (y0, .inr (7, [.ref r0, .ref r1, .ref r2, .ref r3, .ref r4, .ref r5, .ref r6, .ref r7, .int (nI (mu.1 3)), .int (mu.2.1 6)])), (r0, .inl (cI, 30, .inl (mu.2.2.2 0))), (r1, .inl (cI, 30, .inl (mu.2.2.2 1))), (r2, .inl (cI, 30, .inl (mu.2.2.2 2))), (r3, .inl (cI, 30, .inl (mu.2.2.2 3))), (r4, .inl (cI, 30, .inl (mu.2.2.2 4))), (r5, .inl (cI, 30, .inl (mu.2.2.2 5))), (r6, .inl (cI, 30, .inl (mu.2.2.2 6))), (r7, .inl (cI, 30, .inl (mu.2.2.2 7)))] := hD
  have hP : va_P D vwCl [(o0, .inr (10, [.ref t0, .ref h0, .ref tt, .ref kt, .ref cp, .ref n0, .ref c0, .ref x0, .ref y0, .ref ts, .int mef9])), (t0, .inr (8, [.ref l0, .ref g0, .int (nI ke)])), (l0, .inr (4, [.int (nI ln), .int att, .int en, .int (nI n), .ref ak, .ref ap, .ref al, .ref ar])), (ak, .inl (cI, 10, .inl kf)), (ap, .inl (cI, 10, .inl pf)), (al, .inl (cI, 10, .inl lf)), (ar, .inl (cI, 10, .inl rf)), (g0, .inl (cI, 11, .inl sf)), (n0, .inr (6, [.int (mu.2.1 0), .int (mu.2.1 1)])), (c0, .inr (1, [.ref ep, .ref eh, .int (nI (mu.1 0)), .ref ef, .ref es, .ref eg, .int (nI (mu.1 1))])), (ep, .inl (cI, 11, .inl (mu.2.2.1 0))), (eh, .inl (cI, 11, .inl (mu.2.2.1 1))), (ef, .inl (cI, 55, .inl (mu.2.2.1 2))), (es, .inl (cI, 55, .inl (mu.2.2.1 3))), (eg, .inl (cI, 55, .inl (mu.2.2.1 4))), (x0, .inr (9, [.ref xb, .ref xp, .ref xn, .ref xs, .int (nI (mu.1 2)), .int (mu.2.1 2), .int (mu.2.1 3), .int (mu.2.1 4), .int (mu.2.1 5)])), (xb, .inl (cI, 460, .inl (mu.2.2.1 5))), (xp, .inl (cI, 460, .inl (mu.2.2.1 6))), (xn, .inl (cI, 460, .inl (mu.2.2.1 7))), (xs, .inl (cI, 460, .inl (mu.2.2.1 8))), (y0, .inr (7, [.ref r0, .ref r1, .ref r2, .ref r3, .ref r4, .ref r5, .ref r6, .ref r7, .int (nI (mu.1 3)), .int (mu.2.1 6)])), (r0, .inl (cI, 30, .inl (mu.2.2.2 0))), (r1, .inl (cI, 30, .inl (mu.2.2.2 1))), (r2, .inl (cI, 30, .inl (mu.2.2.2 2))), (r3, .inl (cI, 30, .inl (mu.2.2.2 3))), (r4, .inl (cI, 30, .inl (mu.2.2.2 4))), (r5, .inl (cI, 30, .inl (mu.2.2.2 5))), (r6, .inl (cI, 30, .inl (mu.2.2.2 6))), (r7, .inl (cI, 30, .inl (mu.2.2.2 7)))] s.heap := hP
  have hl := lv_entry ([.ref o0, .int xq9]) (n := 2) (Nat.le_of_ble_eq_true rfl)
  rw [lg_entry_eq]
  generalize (lg_sl ([.ref o0, .int xq9]) ++ List.replicate (2 - (lg_sl ([.ref o0, .int xq9])).length) Slot.unset).toArray = ls at hl ⊢
  have hl : lv_has ls 2 [(0, .ref o0), (1, .int xq9)] := hl
  have hn := hL.2.2.2.2.1
  have hcl := ftLR_ln hL hln
  have htp := ft_tp (w := w) (x := xq9) hcl hln
  refine lv_aload_n hx hb dX10_eventAt_0 rfl (lv_at hl 0 rfl) ?_
  refine lv_iload_n hx hb dX10_eventAt_1 rfl (lv_at hl 1 rfl) ?_
  refine ft_csi (r := ftB (0 ≤ xq9 ∧ xq9 ≤ (nI ln) + 60 - 1)) (va_runV (C := RX10) (As := [.int xq9]) (rest := []) ⟨hx, hb, hml, hown, hts⟩ (c_X10_isTracePlace l D cI cS o0 t0 h0 tt kt cp n0 c0 x0 y0 ts mef9 l0 g0 ke (nI ln) att en n ak ap al ar xq9) (cwV 1 hts gX10_eventAt_X10_isTracePlace rfl rfl rfl (by decide +kernel) ⟨Nat.le_of_ble_eq_true rfl, Nat.le_of_ble_eq_true rfl⟩) (ft_preROV (ci := 10) (q0 := 0) hP hKK [0, 1, 2] rfl rfl rfl) rfl rfl hl.1 rfl (lv_room (Nat.le_of_ble_eq_true rfl)) dX10_eventAt_2 ⟨Nat.le_of_ble_eq_true rfl, Nat.le_of_ble_eq_true rfl⟩) ?_
  refine lv_if_ne (tgt := 11) hx hb dX10_eventAt_5 (by decide) (fun c5 => ?_) (fun c5 => ?_)
  · replace c5 := ftB_ne c5
    refine lv_aload_n hx hb dX10_eventAt_11 rfl (lv_at hl 0 rfl) ?_
    refine ft_cxv (S := ftUm) (wc := [(o0, .inr (10, [.ref t0, .ref h0, .ref tt, .ref kt, .ref cp, .ref n0, .ref c0, .ref x0, .ref y0, .ref ts, .int mef9])), (t0, .inr (8, [.ref l0, .ref g0, .int (nI ke)])), (l0, .inr (4, [.int (nI ln), .int att, .int en, .int (nI n), .ref ak, .ref ap, .ref al, .ref ar])), (ak, .inl (cI, 10, .inl kf)), (ap, .inl (cI, 10, .inl pf)), (al, .inl (cI, 10, .inl lf)), (ar, .inl (cI, 10, .inl rf)), (g0, .inl (cI, 11, .inl sf)), (n0, .inr (6, [.int (mu.2.1 0), .int (mu.2.1 1)])), (c0, .inr (1, [.ref ep, .ref eh, .int (nI (mu.1 0)), .ref ef, .ref es, .ref eg, .int (nI (mu.1 1))])), (ep, .inl (cI, 11, .inl (mu.2.2.1 0))), (eh, .inl (cI, 11, .inl (mu.2.2.1 1))), (ef, .inl (cI, 55, .inl (mu.2.2.1 2))), (es, .inl (cI, 55, .inl (mu.2.2.1 3))), (eg, .inl (cI, 55, .inl (mu.2.2.1 4))), (x0, .inr (9, [.ref xb, .ref xp, .ref xn, .ref xs, .int (nI (mu.1 2)), .int (mu.2.1 2), .int (mu.2.1 3), .int (mu.2.1 4), .int (mu.2.1 5)])), (xb, .inl (cI, 460, .inl (mu.2.2.1 5))), (xp, .inl (cI, 460, .inl (mu.2.2.1 6))), (xn, .inl (cI, 460, .inl (mu.2.2.1 7))), (xs, .inl (cI, 460, .inl (mu.2.2.1 8))), (y0, .inr (7, [.ref r0, .ref r1, .ref r2, .ref r3, .ref r4, .ref r5, .ref r6, .ref r7, .int (nI (mu.1 3)), .int (mu.2.1 6)])), (r0, .inl (cI, 30, .inl (mu.2.2.2 0))), (r1, .inl (cI, 30, .inl (mu.2.2.2 1))), (r2, .inl (cI, 30, .inl (mu.2.2.2 2))), (r3, .inl (cI, 30, .inl (mu.2.2.2 3))), (r4, .inl (cI, 30, .inl (mu.2.2.2 4))), (r5, .inl (cI, 30, .inl (mu.2.2.2 5))), (r6, .inl (cI, 30, .inl (mu.2.2.2 6))), (r7, .inl (cI, 30, .inl (mu.2.2.2 7)))]) (wr := []) (w1 := (fun (u12 : ftUm) => [(o0, .inr (10, [.ref t0, .ref h0, .ref tt, .ref kt, .ref cp, .ref n0, .ref c0, .ref x0, .ref y0, .ref ts, .int 1])), (t0, .inr (8, [.ref l0, .ref g0, .int (nI ke)])), (l0, .inr (4, [.int (nI ln), .int att, .int en, .int (nI n), .ref ak, .ref ap, .ref al, .ref ar])), (ak, .inl (cI, 10, .inl kf)), (ap, .inl (cI, 10, .inl pf)), (al, .inl (cI, 10, .inl lf)), (ar, .inl (cI, 10, .inl rf)), (g0, .inl (cI, 11, .inl sf)), (n0, .inr (6, [.int (u12.2.1 0), .int (u12.2.1 1)])), (c0, .inr (1, [.ref ep, .ref eh, .int (nI (u12.1 0)), .ref ef, .ref es, .ref eg, .int (nI (u12.1 1))])), (ep, .inl (cI, 11, .inl (u12.2.2.1 0))), (eh, .inl (cI, 11, .inl (u12.2.2.1 1))), (ef, .inl (cI, 55, .inl (u12.2.2.1 2))), (es, .inl (cI, 55, .inl (u12.2.2.1 3))), (eg, .inl (cI, 55, .inl (u12.2.2.1 4))), (x0, .inr (9, [.ref xb, .ref xp, .ref xn, .ref xs, .int (nI (u12.1 2)), .int (u12.2.1 2), .int (u12.2.1 3), .int (u12.2.1 4), .int (u12.2.1 5)])), (xb, .inl (cI, 460, .inl (u12.2.2.1 5))), (xp, .inl (cI, 460, .inl (u12.2.2.1 6))), (xn, .inl (cI, 460, .inl (u12.2.2.1 7))), (xs, .inl (cI, 460, .inl (u12.2.2.1 8))), (y0, .inr (7, [.ref r0, .ref r1, .ref r2, .ref r3, .ref r4, .ref r5, .ref r6, .ref r7, .int (nI (u12.1 3)), .int (u12.2.1 6)])), (r0, .inl (cI, 30, .inl (u12.2.2.2 0))), (r1, .inl (cI, 30, .inl (u12.2.2.2 1))), (r2, .inl (cI, 30, .inl (u12.2.2.2 2))), (r3, .inl (cI, 30, .inl (u12.2.2.2 3))), (r4, .inl (cI, 30, .inl (u12.2.2.2 4))), (r5, .inl (cI, 30, .inl (u12.2.2.2 5))), (r6, .inl (cI, 30, .inl (u12.2.2.2 6))), (r7, .inl (cI, 30, .inl (u12.2.2.2 7)))])) (ws1 := (fun (u12 : ftUm) => [(o0, .inr (10, [.ref t0, .ref h0, .ref tt, .ref kt, .ref cp, .ref n0, .ref c0, .ref x0, .ref y0, .ref ts, .int 1])), (t0, .inr (8, [.ref l0, .ref g0, .int (nI ke)])), (l0, .inr (4, [.int (nI ln), .int att, .int en, .int (nI n), .ref ak, .ref ap, .ref al, .ref ar])), (ak, .inl (cI, 10, .inl kf)), (ap, .inl (cI, 10, .inl pf)), (al, .inl (cI, 10, .inl lf)), (ar, .inl (cI, 10, .inl rf)), (g0, .inl (cI, 11, .inl sf)), (n0, .inr (6, [.int (u12.2.1 0), .int (u12.2.1 1)])), (c0, .inr (1, [.ref ep, .ref eh, .int (nI (u12.1 0)), .ref ef, .ref es, .ref eg, .int (nI (u12.1 1))])), (ep, .inl (cI, 11, .inl (u12.2.2.1 0))), (eh, .inl (cI, 11, .inl (u12.2.2.1 1))), (ef, .inl (cI, 55, .inl (u12.2.2.1 2))), (es, .inl (cI, 55, .inl (u12.2.2.1 3))), (eg, .inl (cI, 55, .inl (u12.2.2.1 4))), (x0, .inr (9, [.ref xb, .ref xp, .ref xn, .ref xs, .int (nI (u12.1 2)), .int (u12.2.1 2), .int (u12.2.1 3), .int (u12.2.1 4), .int (u12.2.1 5)])), (xb, .inl (cI, 460, .inl (u12.2.2.1 5))), (xp, .inl (cI, 460, .inl (u12.2.2.1 6))), (xn, .inl (cI, 460, .inl (u12.2.2.1 7))), (xs, .inl (cI, 460, .inl (u12.2.2.1 8))), (y0, .inr (7, [.ref r0, .ref r1, .ref r2, .ref r3, .ref r4, .ref r5, .ref r6, .ref r7, .int (nI (u12.1 3)), .int (u12.2.1 6)])), (r0, .inl (cI, 30, .inl (u12.2.2.2 0))), (r1, .inl (cI, 30, .inl (u12.2.2.2 1))), (r2, .inl (cI, 30, .inl (u12.2.2.2 2))), (r3, .inl (cI, 30, .inl (u12.2.2.2 3))), (r4, .inl (cI, 30, .inl (u12.2.2.2 4))), (r5, .inl (cI, 30, .inl (u12.2.2.2 5))), (r6, .inl (cI, 30, .inl (u12.2.2.2 6))), (r7, .inl (cI, 30, .inl (u12.2.2.2 7)))])) (va_runV (C := RX10) (As := []) (rest := []) ⟨hx, hb, hml, hown, hts⟩ (c_X10_measure l D cI cS s.heap.size o0 t0 h0 tt kt cp n0 c0 x0 y0 ts mef9 l0 g0 ke ln att en n ak ap al ar ep eh ef es eg xb xp xn xs r0 r1 r2 r3 r4 r5 r6 r7 kf pf lf rf sf mu w hWf hL hln hsf hmi) (cwV 0 hts gX10_eventAt_X10_measure rfl rfl rfl (by decide +kernel) ⟨Nat.le_of_ble_eq_true rfl, Nat.le_of_ble_eq_true rfl⟩) (ft_preRWV (ci := 10) (q0 := 0) hP hD hKK [0, 1, 2, 3, 4, 5, 6, 7, 8, 9, 10, 11, 12, 13, 14, 15, 16, 17, 18, 19, 20, 21, 22, 23, 24, 25, 26, 27, 28] rfl rfl rfl rfl rfl) rfl rfl hl.1 rfl (lv_room (Nat.le_of_ble_eq_true rfl)) dX10_eventAt_12 ⟨Nat.le_of_ble_eq_true rfl, Nat.le_of_ble_eq_true rfl⟩) hP hD hS hA [0, 1, 2, 3, 4, 5, 6, 7, 8, 9, 10, 11, 12, 13, 14, 15, 16, 17, 18, 19, 20, 21, 22, 23, 24, 25, 26, 27, 28] [] [0, 1, 2, 3, 4, 5, 6, 7, 8, 9, 10, 11, 12, 13, 14, 15, 16, 17, 18, 19, 20, 21, 22, 23, 24, 25, 26, 27, 28] rfl rfl (by decide) (by decide) (by decide) (fun _ => rfl) (fun _ => rfl) (fun u12 hu12 H locs hP hD hS => ?_)
    obtain ⟨hms12, hnc12⟩ := hu12
    have hP : va_P D vwCl [(o0, .inr (10, [.ref t0, .ref h0, .ref tt, .ref kt, .ref cp, .ref n0, .ref c0, .ref x0, .ref y0, .ref ts, .int 1])), (t0, .inr (8, [.ref l0, .ref g0, .int (nI ke)])), (l0, .inr (4, [.int (nI ln), .int att, .int en, .int (nI n), .ref ak, .ref ap, .ref al, .ref ar])), (ak, .inl (cI, 10, .inl kf)), (ap, .inl (cI, 10, .inl pf)), (al, .inl (cI, 10, .inl lf)), (ar, .inl (cI, 10, .inl rf)), (g0, .inl (cI, 11, .inl sf)), (n0, .inr (6, [.int (u12.2.1 0), .int (u12.2.1 1)])), (c0, .inr (1, [.ref ep, .ref eh, .int (nI (u12.1 0)), .ref ef, .ref es, .ref eg, .int (nI (u12.1 1))])), (ep, .inl (cI, 11, .inl (u12.2.2.1 0))), (eh, .inl (cI, 11, .inl (u12.2.2.1 1))), (ef, .inl (cI, 55, .inl (u12.2.2.1 2))), (es, .inl (cI, 55, .inl (u12.2.2.1 3))), (eg, .inl (cI, 55, .inl (u12.2.2.1 4))), (x0, .inr (9, [.ref xb, .ref xp, .ref xn, .ref xs, .int (nI (u12.1 2)), .int (u12.2.1 2), .int (u12.2.1 3), .int (u12.2.1 4), .int (u12.2.1 5)])), (xb, .inl (cI, 460, .inl (u12.2.2.1 5))), (xp, .inl (cI, 460, .inl (u12.2.2.1 6))), (xn, .inl (cI, 460, .inl (u12.2.2.1 7))), (xs, .inl (cI, 460, .inl (u12.2.2.1 8))), (y0, .inr (7, [.ref r0, .ref r1, .ref r2, .ref r3, .ref r4, .ref r5, .ref r6, .ref r7, .int (nI (u12.1 3)), .int (u12.2.1 6)])), (r0, .inl (cI, 30, .inl (u12.2.2.2 0))), (r1, .inl (cI, 30, .inl (u12.2.2.2 1))), (r2, .inl (cI, 30, .inl (u12.2.2.2 2))), (r3, .inl (cI, 30, .inl (u12.2.2.2 3))), (r4, .inl (cI, 30, .inl (u12.2.2.2 4))), (r5, .inl (cI, 30, .inl (u12.2.2.2 5))), (r6, .inl (cI, 30, .inl (u12.2.2.2 6))), (r7, .inl (cI, 30, .inl (u12.2.2.2 7)))] H := hP
    have hD : va_D A [(o0, .inr (10, [.ref t0, .ref h0, .ref tt, .ref kt, .ref cp, .ref n0, .ref c0, .ref x0, .ref y0, .ref ts, .int 1])), (t0, .inr (8, [.ref l0, .ref g0, .int (nI ke)])), (l0, .inr (4, [.int (nI ln), .int att, .int en, .int (nI n), .ref ak, .ref ap, .ref al, .ref ar])), (ak, .inl (cI, 10, .inl kf)), (ap, .inl (cI, 10, .inl pf)), (al, .inl (cI, 10, .inl lf)), (ar, .inl (cI, 10, .inl rf)), (g0, .inl (cI, 11, .inl sf)), (n0, .inr (6, [.int (u12.2.1 0), .int (u12.2.1 1)])), (c0, .inr (1, [.ref ep, .ref eh, .int (nI (u12.1 0)), .ref ef, .ref es, .ref eg, .int (nI (u12.1 1))])), (ep, .inl (cI, 11, .inl (u12.2.2.1 0))), (eh, .inl (cI, 11, .inl (u12.2.2.1 1))), (ef, .inl (cI, 55, .inl (u12.2.2.1 2))), (es, .inl (cI, 55, .inl (u12.2.2.1 3))), (eg, .inl (cI, 55, .inl (u12.2.2.1 4))), (x0, .inr (9, [.ref xb, .ref xp, .ref xn, .ref xs, .int (nI (u12.1 2)), .int (u12.2.1 2), .int (u12.2.1 3), .int (u12.2.1 4), .int (u12.2.1 5)])), (xb, .inl (cI, 460, .inl (u12.2.2.1 5))), (xp, .inl (cI, 460, .inl (u12.2.2.1 6))), (xn, .inl (cI, 460, .inl (u12.2.2.1 7))), (xs, .inl (cI, 460, .inl (u12.2.2.1 8))), (y0, .inr (7, [.ref r0, .ref r1, .ref r2, .ref r3, .ref r4, .ref r5, .ref r6, .ref r7, .int (nI (u12.1 3)), .int (u12.2.1 6)])), (r0, .inl (cI, 30, .inl (u12.2.2.2 0))), (r1, .inl (cI, 30, .inl (u12.2.2.2 1))), (r2, .inl (cI, 30, .inl (u12.2.2.2 2))), (r3, .inl (cI, 30, .inl (u12.2.2.2 3))), (r4, .inl (cI, 30, .inl (u12.2.2.2 4))), (r5, .inl (cI, 30, .inl (u12.2.2.2 5))), (r6, .inl (cI, 30, .inl (u12.2.2.2 6))), (r7, .inl (cI, 30, .inl (u12.2.2.2 7)))] := hD
    have hev := ftEv6_of hWf hms12.2.2.2.2
    have hk30 := hev.2.1
    have hkE := hev.1
    refine lv_aload_n hx hb dX10_eventAt_15 rfl (lv_at hl 0 rfl) ?_
    refine va_get (D := D) (ci := 10) (v := .ref y0) (C := RX10) (T := TX10) (N := 11) hx hb hts (by decide +kernel) hown hK hP 0 rfl rfl 8 (by decide) (hts (.fieldLink RX10 68 "FiberTrace" "reading" "LFiberTrace$Reading;") (by decide +kernel)) (fun _ h9 => h9) rfl dX10_eventAt_16 ?_
    refine lv_iload_n hx hb dX10_eventAt_19 rfl (lv_at hl 1 rfl) ?_
    refine ft_csi (r := ftCov u12.2.2.2 (u12.1 3) xq9) (va_runV (C := RX7) (As := [.int xq9]) (rest := []) ⟨hx, hb, hml, hown, hts⟩ (c_X7_covering l D cI cS y0 r0 r1 r2 r3 r4 r5 r6 r7 (u12.1 3) (u12.2.1 6) u12.2.2.2 xq9 (by first | assumption | omega)) (cwV 1 hts gX10_eventAt_X7_covering rfl rfl rfl (by decide +kernel) ⟨Nat.le_of_ble_eq_true rfl, Nat.le_of_ble_eq_true rfl⟩) (ft_preROV (ci := 7) (q0 := 20) hP hKK [20, 21, 22] rfl rfl rfl) rfl rfl hl.1 rfl (lv_room (Nat.le_of_ble_eq_true rfl)) dX10_eventAt_20 ⟨Nat.le_of_ble_eq_true rfl, Nat.le_of_ble_eq_true rfl⟩) ?_
    refine ft_csi (r := if (ftCov u12.2.2.2 (u12.1 3) xq9) = -1 then -1000004 else (ftCov u12.2.2.2 (u12.1 3) xq9)) (va_runS (As := [.int (ftCov u12.2.2.2 (u12.1 3) xq9)]) (rest := []) ⟨hx, hb, hml, hown, hts⟩ (c_X10_orNotFound l D cI cS (ftCov u12.2.2.2 (u12.1 3) xq9)) (va_cwS 1 hts gX10_eventAt_X10_orNotFound rfl rfl rfl (by decide +kernel) ⟨Nat.le_of_ble_eq_true rfl, Nat.le_of_ble_eq_true rfl⟩) (ft_preRO hP hKK [] rfl) rfl rfl hl.1 rfl (lv_room (Nat.le_of_ble_eq_true rfl)) dX10_eventAt_23 ⟨Nat.le_of_ble_eq_true rfl, Nat.le_of_ble_eq_true rfl⟩) ?_
    obtain ⟨u9, hu9⟩ : ∃ u9 : Int32 × ftUm, u9 = ((1 : Int32), u12) := ⟨_, rfl⟩
    have hw9 : ([(o0, .inr (10, [.ref t0, .ref h0, .ref tt, .ref kt, .ref cp, .ref n0, .ref c0, .ref x0, .ref y0, .ref ts, .int 1])), (t0, .inr (8, [.ref l0, .ref g0, .int (nI ke)])), (l0, .inr (4, [.int (nI ln), .int att, .int en, .int (nI n), .ref ak, .ref ap, .ref al, .ref ar])), (ak, .inl (cI, 10, .inl kf)), (ap, .inl (cI, 10, .inl pf)), (al, .inl (cI, 10, .inl lf)), (ar, .inl (cI, 10, .inl rf)), (g0, .inl (cI, 11, .inl sf)), (n0, .inr (6, [.int (u12.2.1 0), .int (u12.2.1 1)])), (c0, .inr (1, [.ref ep, .ref eh, .int (nI (u12.1 0)), .ref ef, .ref es, .ref eg, .int (nI (u12.1 1))])), (ep, .inl (cI, 11, .inl (u12.2.2.1 0))), (eh, .inl (cI, 11, .inl (u12.2.2.1 1))), (ef, .inl (cI, 55, .inl (u12.2.2.1 2))), (es, .inl (cI, 55, .inl (u12.2.2.1 3))), (eg, .inl (cI, 55, .inl (u12.2.2.1 4))), (x0, .inr (9, [.ref xb, .ref xp, .ref xn, .ref xs, .int (nI (u12.1 2)), .int (u12.2.1 2), .int (u12.2.1 3), .int (u12.2.1 4), .int (u12.2.1 5)])), (xb, .inl (cI, 460, .inl (u12.2.2.1 5))), (xp, .inl (cI, 460, .inl (u12.2.2.1 6))), (xn, .inl (cI, 460, .inl (u12.2.2.1 7))), (xs, .inl (cI, 460, .inl (u12.2.2.1 8))), (y0, .inr (7, [.ref r0, .ref r1, .ref r2, .ref r3, .ref r4, .ref r5, .ref r6, .ref r7, .int (nI (u12.1 3)), .int (u12.2.1 6)])), (r0, .inl (cI, 30, .inl (u12.2.2.2 0))), (r1, .inl (cI, 30, .inl (u12.2.2.2 1))), (r2, .inl (cI, 30, .inl (u12.2.2.2 2))), (r3, .inl (cI, 30, .inl (u12.2.2.2 3))), (r4, .inl (cI, 30, .inl (u12.2.2.2 4))), (r5, .inl (cI, 30, .inl (u12.2.2.2 5))), (r6, .inl (cI, 30, .inl (u12.2.2.2 6))), (r7, .inl (cI, 30, .inl (u12.2.2.2 7)))] : va_W) = [(o0, .inr (10, [.ref t0, .ref h0, .ref tt, .ref kt, .ref cp, .ref n0, .ref c0, .ref x0, .ref y0, .ref ts, .int u9.1])), (t0, .inr (8, [.ref l0, .ref g0, .int (nI ke)])), (l0, .inr (4, [.int (nI ln), .int att, .int en, .int (nI n), .ref ak, .ref ap, .ref al, .ref ar])), (ak, .inl (cI, 10, .inl kf)), (ap, .inl (cI, 10, .inl pf)), (al, .inl (cI, 10, .inl lf)), (ar, .inl (cI, 10, .inl rf)), (g0, .inl (cI, 11, .inl sf)), (n0, .inr (6, [.int (u9.2.2.1 0), .int (u9.2.2.1 1)])), (c0, .inr (1, [.ref ep, .ref eh, .int (nI (u9.2.1 0)), .ref ef, .ref es, .ref eg, .int (nI (u9.2.1 1))])), (ep, .inl (cI, 11, .inl (u9.2.2.2.1 0))), (eh, .inl (cI, 11, .inl (u9.2.2.2.1 1))), (ef, .inl (cI, 55, .inl (u9.2.2.2.1 2))), (es, .inl (cI, 55, .inl (u9.2.2.2.1 3))), (eg, .inl (cI, 55, .inl (u9.2.2.2.1 4))), (x0, .inr (9, [.ref xb, .ref xp, .ref xn, .ref xs, .int (nI (u9.2.1 2)), .int (u9.2.2.1 2), .int (u9.2.2.1 3), .int (u9.2.2.1 4), .int (u9.2.2.1 5)])), (xb, .inl (cI, 460, .inl (u9.2.2.2.1 5))), (xp, .inl (cI, 460, .inl (u9.2.2.2.1 6))), (xn, .inl (cI, 460, .inl (u9.2.2.2.1 7))), (xs, .inl (cI, 460, .inl (u9.2.2.2.1 8))), (y0, .inr (7, [.ref r0, .ref r1, .ref r2, .ref r3, .ref r4, .ref r5, .ref r6, .ref r7, .int (nI (u9.2.1 3)), .int (u9.2.2.1 6)])), (r0, .inl (cI, 30, .inl (u9.2.2.2.2 0))), (r1, .inl (cI, 30, .inl (u9.2.2.2.2 1))), (r2, .inl (cI, 30, .inl (u9.2.2.2.2 2))), (r3, .inl (cI, 30, .inl (u9.2.2.2.2 3))), (r4, .inl (cI, 30, .inl (u9.2.2.2.2 4))), (r5, .inl (cI, 30, .inl (u9.2.2.2.2 5))), (r6, .inl (cI, 30, .inl (u9.2.2.2.2 6))), (r7, .inl (cI, 30, .inl (u9.2.2.2.2 7)))] := by subst hu9; rfl
    rw [hw9] at hP hD
    have hf9_0 : ftMi w u9.1 u9.2 := by rw [hu9]; exact ⟨Or.inr rfl, fun _ => hms12, hnc12⟩
    have hr9 : (if (ftCov u12.2.2.2 (u12.1 3) xq9) = -1 then -1000004 else (ftCov u12.2.2.2 (u12.1 3) xq9) : Int32) = ftEaA w xq9 := by unfold ftEaA; rw [ftIte_t (htp.mp c5), ftCov_w hev]; exact ft_orn (ftFst_v _ (by omega))
    exact W.iret (v := if (ftCov u12.2.2.2 (u12.1 3) xq9) = -1 then -1000004 else (ftCov u12.2.2.2 (u12.1 3) xq9)) hx hb hr (fun t ht hW => ⟨⟨if (ftCov u12.2.2.2 (u12.1 3) xq9) = -1 then -1000004 else (ftCov u12.2.2.2 (u12.1 3) xq9), u9, rfl, ⟨hr9, hf9_0⟩, by rw [ht]; exact hP, by rw [hAe]; exact hD⟩, by rw [hAe]; exact hS.F ht⟩) hS.2.2 dX10_eventAt_26
  · replace c5 := ftB_eq c5
    have hv9 : (-1000001 : Int32) = ftEaA w xq9 := (ftIte_f (fun q => c5 (htp.mpr q))).symm
    refine lv_ldc (v := (-1000001)) hx hb hown (hts (.constant RX10 84 (-1000001)) (by decide +kernel)) dX10_eventAt_8 ?_
    obtain ⟨u9, hu9⟩ : ∃ u9 : Int32 × ftUm, u9 = (mef9, mu) := ⟨_, rfl⟩
    have hw9 : ([(o0, .inr (10, [.ref t0, .ref h0, .ref tt, .ref kt, .ref cp, .ref n0, .ref c0, .ref x0, .ref y0, .ref ts, .int mef9])), (t0, .inr (8, [.ref l0, .ref g0, .int (nI ke)])), (l0, .inr (4, [.int (nI ln), .int att, .int en, .int (nI n), .ref ak, .ref ap, .ref al, .ref ar])), (ak, .inl (cI, 10, .inl kf)), (ap, .inl (cI, 10, .inl pf)), (al, .inl (cI, 10, .inl lf)), (ar, .inl (cI, 10, .inl rf)), (g0, .inl (cI, 11, .inl sf)), (n0, .inr (6, [.int (mu.2.1 0), .int (mu.2.1 1)])), (c0, .inr (1, [.ref ep, .ref eh, .int (nI (mu.1 0)), .ref ef, .ref es, .ref eg, .int (nI (mu.1 1))])), (ep, .inl (cI, 11, .inl (mu.2.2.1 0))), (eh, .inl (cI, 11, .inl (mu.2.2.1 1))), (ef, .inl (cI, 55, .inl (mu.2.2.1 2))), (es, .inl (cI, 55, .inl (mu.2.2.1 3))), (eg, .inl (cI, 55, .inl (mu.2.2.1 4))), (x0, .inr (9, [.ref xb, .ref xp, .ref xn, .ref xs, .int (nI (mu.1 2)), .int (mu.2.1 2), .int (mu.2.1 3), .int (mu.2.1 4), .int (mu.2.1 5)])), (xb, .inl (cI, 460, .inl (mu.2.2.1 5))), (xp, .inl (cI, 460, .inl (mu.2.2.1 6))), (xn, .inl (cI, 460, .inl (mu.2.2.1 7))), (xs, .inl (cI, 460, .inl (mu.2.2.1 8))), (y0, .inr (7, [.ref r0, .ref r1, .ref r2, .ref r3, .ref r4, .ref r5, .ref r6, .ref r7, .int (nI (mu.1 3)), .int (mu.2.1 6)])), (r0, .inl (cI, 30, .inl (mu.2.2.2 0))), (r1, .inl (cI, 30, .inl (mu.2.2.2 1))), (r2, .inl (cI, 30, .inl (mu.2.2.2 2))), (r3, .inl (cI, 30, .inl (mu.2.2.2 3))), (r4, .inl (cI, 30, .inl (mu.2.2.2 4))), (r5, .inl (cI, 30, .inl (mu.2.2.2 5))), (r6, .inl (cI, 30, .inl (mu.2.2.2 6))), (r7, .inl (cI, 30, .inl (mu.2.2.2 7)))] : va_W) = [(o0, .inr (10, [.ref t0, .ref h0, .ref tt, .ref kt, .ref cp, .ref n0, .ref c0, .ref x0, .ref y0, .ref ts, .int u9.1])), (t0, .inr (8, [.ref l0, .ref g0, .int (nI ke)])), (l0, .inr (4, [.int (nI ln), .int att, .int en, .int (nI n), .ref ak, .ref ap, .ref al, .ref ar])), (ak, .inl (cI, 10, .inl kf)), (ap, .inl (cI, 10, .inl pf)), (al, .inl (cI, 10, .inl lf)), (ar, .inl (cI, 10, .inl rf)), (g0, .inl (cI, 11, .inl sf)), (n0, .inr (6, [.int (u9.2.2.1 0), .int (u9.2.2.1 1)])), (c0, .inr (1, [.ref ep, .ref eh, .int (nI (u9.2.1 0)), .ref ef, .ref es, .ref eg, .int (nI (u9.2.1 1))])), (ep, .inl (cI, 11, .inl (u9.2.2.2.1 0))), (eh, .inl (cI, 11, .inl (u9.2.2.2.1 1))), (ef, .inl (cI, 55, .inl (u9.2.2.2.1 2))), (es, .inl (cI, 55, .inl (u9.2.2.2.1 3))), (eg, .inl (cI, 55, .inl (u9.2.2.2.1 4))), (x0, .inr (9, [.ref xb, .ref xp, .ref xn, .ref xs, .int (nI (u9.2.1 2)), .int (u9.2.2.1 2), .int (u9.2.2.1 3), .int (u9.2.2.1 4), .int (u9.2.2.1 5)])), (xb, .inl (cI, 460, .inl (u9.2.2.2.1 5))), (xp, .inl (cI, 460, .inl (u9.2.2.2.1 6))), (xn, .inl (cI, 460, .inl (u9.2.2.2.1 7))), (xs, .inl (cI, 460, .inl (u9.2.2.2.1 8))), (y0, .inr (7, [.ref r0, .ref r1, .ref r2, .ref r3, .ref r4, .ref r5, .ref r6, .ref r7, .int (nI (u9.2.1 3)), .int (u9.2.2.1 6)])), (r0, .inl (cI, 30, .inl (u9.2.2.2.2 0))), (r1, .inl (cI, 30, .inl (u9.2.2.2.2 1))), (r2, .inl (cI, 30, .inl (u9.2.2.2.2 2))), (r3, .inl (cI, 30, .inl (u9.2.2.2.2 3))), (r4, .inl (cI, 30, .inl (u9.2.2.2.2 4))), (r5, .inl (cI, 30, .inl (u9.2.2.2.2 5))), (r6, .inl (cI, 30, .inl (u9.2.2.2.2 6))), (r7, .inl (cI, 30, .inl (u9.2.2.2.2 7)))] := by subst hu9; rfl
    rw [hw9] at hP hD
    have hf9_0 : ftMi w u9.1 u9.2 := by rw [hu9]; exact hmi
    have hr9 : ((-1000001) : Int32) = ftEaA w xq9 := by exact hv9
    exact W.iret (v := (-1000001)) hx hb hr (fun t ht hW => ⟨⟨(-1000001), u9, rfl, ⟨hr9, hf9_0⟩, by rw [ht]; exact hP, by rw [hAe]; exact hD⟩, by rw [hAe]; exact hS.F ht⟩) hS.2.2 dX10_eventAt_10
end
section
/-! questions about events -/
theorem ft_negP (v : Int32) (h : 0 ≤ v) (h2 : 0 ≤ -v) : v = -v := by
  rw [Int32.le_iff_toInt_le] at h h2
  apply Int32.toInt_inj.mp
  rw [Int32.toInt_neg] at h2 ⊢
  have a := v.toInt_lt
  have b := v.le_toInt
  have c : (0 : Int32).toInt = 0 := rfl
  rw [c] at h h2
  unfold Int.bmod at h2 ⊢
  simp only [] at h2 ⊢
  split at h2 <;> split <;> omega
theorem ft_negN (v : Int32) (h : ¬ 0 ≤ v) (h2 : ¬ 0 ≤ -v) : v = -v := by
  rw [Int32.le_iff_toInt_le] at h h2
  apply Int32.toInt_inj.mp
  rw [Int32.toInt_neg] at h2 ⊢
  have a := v.toInt_lt
  have b := v.le_toInt
  have c : (0 : Int32).toInt = 0 := rfl
  rw [c] at h h2
  unfold Int.bmod at h2 ⊢
  simp only [] at h2 ⊢
  split at h2 <;> split <;> omega
theorem ftAbs_neg (v : Int32) : ftAbs (-v) = ftAbs v := by
  unfold ftAbs
  rw [Int32.zero_sub, Int32.zero_sub, Int32.neg_neg]
  by_cases h : 0 ≤ v
  · rw [if_pos h]
    by_cases h2 : 0 ≤ -v
    · rw [if_pos h2]; exact (ft_negP v h h2).symm
    · rw [if_neg h2]
  · rw [if_neg h]
    by_cases h2 : 0 ≤ -v
    · rw [if_pos h2]
    · rw [if_neg h2]; exact ft_negN v h h2
theorem ftAbs_sub (a b : Int32) : ftAbs (a - b) = ftAbs (b - a) := by rw [← Int32.neg_sub, ftAbs_neg]
theorem ft_7 {x : Int32} (h : 0 ≤ x ∧ x ≤ 7) (h0 : ¬ x = 0) (h1 : ¬ x = 1) (h2 : ¬ x = 2) (h3 : ¬ x = 3) (h4 : ¬ x = 4) (h5 : ¬ x = 5) (h6 : ¬ x = 6) : x = 7 := by
  obtain ⟨e2, e1⟩ := ft_btw2 (K := 7) (by omega) h.1 h.2
  generalize x.toNatClampNeg = k at e1 e2
  match k, e1, e2 with
  | 0, e1, _ => exact absurd e1 h0
  | 1, e1, _ => exact absurd e1 h1
  | 2, e1, _ => exact absurd e1 h2
  | 3, e1, _ => exact absurd e1 h3
  | 4, e1, _ => exact absurd e1 h4
  | 5, e1, _ => exact absurd e1 h5
  | 6, e1, _ => exact absurd e1 h6
  | 7, e1, _ => exact e1
  | k + 8, _, e2 => exact absurd e2 (by omega)
theorem ftTs_by {E : ftRs} {x : Int32} {f : Nat → Int32} {g : Nat → Int32} (h0 : f 0 = 0) (hs : ∀ m, f (m + 1) = f m + g m) : ∀ m, (∀ t, t < m → g t = ftT1 E x t) → f m = ftTs E x m := by
  intro m
  induction m with
  | zero => intro _; exact h0
  | succ m ih => intro h; rw [hs, ftTs, ih (fun t ht => h t (by omega)), h m (by omega)]
section FTEV7
variable {w : Nat → Int32} {k : Nat} {ro : Nat → Nat → Int32}
theorem ftTot_0 (h : ftEv6 w k ro) : ftSum (ro 2) k = ftToK w (ftCE w) 0 := by
  unfold ftToK
  rw [if_pos (by decide), ← h.1]
  exact ftTs_by (g := ro 2) rfl (fun _ => rfl) k (fun t ht => by rw [h.2.2 t ht 2 (by omega)]; rfl)
theorem ftTot_1 (h : ftEv6 w k ro) : ftSum (ro 5) k = ftToK w (ftCE w) 1 := by
  unfold ftToK
  rw [if_pos (by decide), ← h.1]
  exact ftTs_by (g := ro 5) rfl (fun _ => rfl) k (fun t ht => by rw [h.2.2 t ht 5 (by omega)]; rfl)
theorem ftTot_2 (h : ftEv6 w k ro) : ftLossG ro k = ftToK w (ftCE w) 2 := by
  unfold ftToK
  rw [if_pos (by decide), ← h.1]
  exact ftTs_by (f := ftLossG ro) (g := fun i => if ro 4 i = 2 then ro 2 i else 0) rfl (fun _ => rfl) k (fun t ht => by
    show (if ro 4 t = 2 then ro 2 t else 0) = _
    rw [h.2.2 t ht 2 (by omega), h.2.2 t ht 4 (by omega)]; rfl)
theorem ftTot_c (h : ftEv6 w k ro) {x kd : Int32} (h3 : 3 ≤ x ∧ x ≤ 5) (h6 : x < 6) (h0 : ¬ x = 0) (h1 : ¬ x = 1) (h2 : ¬ x = 2) (hk : x - 3 = kd) : ftCount (fun i => ro 4 i = kd) k = ftToK w (ftCE w) x := by
  unfold ftToK
  rw [if_pos h6, ← h.1]
  exact ftTs_by (f := ftCount (fun i => ro 4 i = kd)) (g := fun i => ftB (ro 4 i = kd)) rfl (fun _ => rfl) k (fun t ht => by
    show ftB (ro 4 t = kd) = ftT1 (ftCE w) x t
    rw [h.2.2 t ht 4 (by omega), ftT1, if_neg h0, if_neg h1, if_neg h2, hk]
    by_cases c : (ftCE w).2.2 4 t = kd
    · rw [ftB_t c, ftIte_t ⟨h3, c⟩]
    · rw [ftB_f c, ftIte_f (fun q => c q.2)])
theorem ftTot_6 : (if (ftCE w).1 = 0 then 0 else ftCV w 0 - ftCV w ((ftCE w).2.2 1 ((ftCE w).1 - 1)).toNatClampNeg) = ftToK w (ftCE w) 6 := by
  rw [ftToK, if_neg (show ¬ (6 : Int32) < 6 by decide), if_neg (show ¬ (6 : Int32) = 7 by decide)]
theorem ftTot_7 (h : ftEv6 w k ro) : ftCount (fun i => ro 4 i = 3) k = ftToK w (ftCE w) 7 := by
  rw [ftToK, if_neg (show ¬ (7 : Int32) < 6 by decide), if_pos rfl, ← (ftKv_ce w).2, ← h.1]
  exact ftCount_cong k (fun t ht => by rw [h.2.2 t ht 4 (by omega)])
theorem ftFinder_w (h : ftEv6 w k ro) {tl : Int32} (ht : tl = w (44 + 9)) (x : Int32) : ftFinder ro k tl x = ftCNe w x := by
  unfold ftFinder ftCNe ftNearM
  rw [← h.1, ht]
  exact ftFst_cong k (fun t ht => by rw [h.2.2 t ht 0 (by omega), h.2.2 t ht 4 (by omega)])
theorem ft_nn {v : Int32} (h : v = -1 ∨ ∃ t, t < 2 ^ 31 ∧ v = nI t) : 0 ≤ v ↔ ¬ v = -1 := by
  rcases h with q | ⟨t, ht, q⟩
  · subst q; decide
  · subst q
    exact ⟨fun _ => ft_nIm1 ht, fun _ => Int32.not_lt.mp (nI_pos ht)⟩
theorem ftCNe_v (hk : (ftCE w).1 < 2 ^ 31) (x : Int32) : ftCNe w x = -1 ∨ ∃ t, t < 2 ^ 31 ∧ ftCNe w x = nI t := ftFst_v _ hk
theorem ftCOn_v (hk : (ftCE w).1 < 2 ^ 31) (x : Int32) : ftCOn w x = -1 ∨ ∃ t, t < 2 ^ 31 ∧ ftCOn w x = nI t := ftFst_v _ hk
theorem ftCSt_v (w : Nat → Int32) (i : Nat) : ftCSt w i = if w (4 + 4 * i + 0) = 2 then 2 else if 0 ≤ ftCNe w (w (4 + 4 * i + 1)) then 0 else if 0 ≤ ftCOn w (w (4 + 4 * i + 1)) then 1 else 2 := rfl
theorem ftFinding_w (h : ftEv6 w k ro) {tl : Int32} (ht : tl = w (44 + 9)) {i : Nat} {pf kf : Int32} (hp : w (4 + 4 * i + 1) = pf) (hkf : w (4 + 4 * i + 0) = kf) : ftFinding ro k tl pf kf = ftCSt w i := by
  have h30 := h.2.1
  have hE := h.1
  rw [ftCSt_v, ftFinding, ftFinder_w h ht, ftCov_w h, hp, hkf]
  by_cases c : kf = 2
  · rw [if_pos c, if_pos c]
  · rw [if_neg c, if_neg c]
    by_cases a : ftCNe w pf = -1
    · rw [if_pos a, if_neg (fun q => (ft_nn (ftCNe_v (by omega) pf)).mp q a)]
      by_cases b : ftCOn w pf = -1
      · rw [if_pos b, if_neg (fun q => (ft_nn (ftCOn_v (by omega) pf)).mp q b)]
      · rw [if_neg b, if_pos ((ft_nn (ftCOn_v (by omega) pf)).mpr b)]
    · rw [if_neg a, if_pos ((ft_nn (ftCNe_v (by omega) pf)).mpr a)]
theorem ftWit_w (h : ftEv6 w k ro) {tl : Int32} (ht : tl = w (44 + 9)) {i : Nat} {pf kf : Int32} (hp : w (4 + 4 * i + 1) = pf) (hkf : w (4 + 4 * i + 0) = kf) : (if ftWitness ro k tl pf kf = -1 then -1000004 else ftWitness ro k tl pf kf) = if ftCSt w i = 0 then ftCNe w pf else if ftCSt w i = 1 then ftCOn w pf else -1000004 := by
  have h30 := h.2.1
  have hE := h.1
  have hF := ftFinding_w h ht hp hkf
  rw [ftWitness, hF, ftFinder_w h ht, ftCov_w h]
  by_cases a : ftCSt w i = 0
  · have hn : ¬ ftCNe w pf = -1 := by
      intro q
      rw [ftCSt_v, hp, hkf] at a
      by_cases c : kf = 2
      · rw [if_pos c] at a; exact absurd a (by decide)
      · rw [if_neg c, if_neg (fun r => (ft_nn (ftCNe_v (by omega) pf)).mp r q)] at a
        split at a
        · exact absurd a (by decide)
        · exact absurd a (by decide)
    rw [if_pos a, if_neg hn, if_pos a]
  · rw [if_neg a, if_neg a]
    by_cases b : ftCSt w i = 1
    · have hn : ¬ ftCOn w pf = -1 := by
        intro q
        rw [ftCSt_v, hp, hkf] at b
        by_cases c : kf = 2
        · rw [if_pos c] at b; exact absurd b (by decide)
        · rw [if_neg c] at b
          split at b
          · exact absurd b (by decide)
          · rw [if_neg (fun r => (ft_nn (ftCOn_v (by omega) pf)).mp r q)] at b
            exact absurd b (by decide)
      rw [if_pos b, if_neg hn, if_pos b]
    · rw [if_neg b, if_neg b, if_pos rfl]
theorem ftFindings_w (h : ftEv6 w k ro) {tl : Int32} (ht : tl = w (44 + 9)) {n : Nat} {kf pf lf rf : Nat → Int32} (hf : ftLf w) (hL : ftLRk w n kf pf lf rf) (hn : ftCN w = n) (ho : Int32) : ftFindings ro k tl kf pf ho n = ftCSs w ho := by
  unfold ftFindings ftCSs ftStandsM
  rw [hn]
  refine ftCount_cong n (fun i hi => ?_)
  have e := ftFinding_w h ht (hL i hi).2.1 (hL i hi).1
  unfold ftCSt at e
  rw [e, ← (hL i hi).1, ftKd_lt hf (by omega)]
theorem ftStrange_w (h : ftEv6 w k ro) {tl : Int32} (ht : tl = w (44 + 9)) {n : Nat} {kf pf lf rf : Nat → Int32} (hL : ftLRk w n kf pf lf rf) (hn : ftCN w = n) : ftStrange ro k tl kf pf n = ftCSg w (ftCE w).1 := by
  unfold ftStrange ftCSg
  rw [← h.1]
  refine ftCount_cong k (fun t htk => ?_)
  rw [h.2.2 t htk 0 (by omega), h.2.2 t htk 4 (by omega)]
  unfold ftStrM
  have hk := (ftKv_ce w).1 t (by rw [← h.1]; exact htk)
  have hlt : ((ftCE w).2.2 4 t = 0 ∨ (ftCE w).2.2 4 t = 1) ↔ (ftCE w).2.2 4 t < 2 := by
    rcases hk with q | q | q | q <;> (rw [q]; decide)
  rw [hlt, hn]
  refine and_congr_right (fun _ => ?_)
  unfold ftNearJ ftNear
  constructor
  · intro q i hi
    rcases Classical.em (w (4 + 4 * i + 0) = 2) with r | r
    · exact Or.inl r
    · refine Or.inr (Int32.not_le.mp (fun z => q ⟨i, hi, ?_, ?_⟩))
      · rw [← (hL i hi).1]; exact r
      · rw [ht, ← (hL i hi).2.1, ftAbs_sub, ← ftSz_abs]; exact z
  · rintro q ⟨i, hi, r1, r2⟩
    rcases q i hi with z | z
    · exact r1 ((hL i hi).1.symm.trans z)
    · rw [ht, ← (hL i hi).2.1, ftAbs_sub, ← ftSz_abs] at r2
      exact absurd r2 (Int32.not_le.mpr z)
end FTEV7
end
