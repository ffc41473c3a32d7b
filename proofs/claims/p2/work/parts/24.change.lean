/-! the reference: a change -/
theorem ftPush_n {w z : Nat → Int32} {hm : Nat} (h : hm ≠ 5) : ftPush w z hm = ftSeg w z (hm * 1439) 1439 := if_neg h
theorem ftPush_5 {w z : Nat → Int32} {hm : Nat} (h : hm = 5) : ftPush w z hm = ftSeg w (ftShift z 5756) ((hm - 1) * 1439) 1439 := by
  have e : (hm - 1) * 1439 = 5756 := by omega
  rw [e]; exact if_pos h
set_option maxHeartbeats 4000000 in
set_option maxRecDepth 100000 in
theorem c_X11_change (l : Launch) (D : va_G) (cI cS : ClassId) (sz : Nat) (m0 p0 p1 p3 p5 p10 p12 p13 p14 p16 p17 p19 p20 p21 p22 p25 p26 p27 p28 p29 p30 p31 p32 : Nat) (i4 i6 i7 i8 i9 i11 i15 i18 i23 i24 : Int32) (w z : Nat → Int32) (hm : Nat) (hhm : hm ≤ 5) : Met l yX11_change wsX11_change ({ frames := 0, cells := 0, slots := 0, locals := 0 }) (ftRW D cI cS [.ref m0] [(m0, .inr (11, [.ref p0, .ref p1, .int (nI hm), .ref p3, .int i4, .ref p5, .int i6, .int i7, .int i8, .int i9, .ref p10, .int i11, .ref p12, .ref p13, .ref p14, .int i15, .ref p16, .ref p17, .int i18, .ref p19, .ref p20, .ref p21, .ref p22, .int i23, .int i24, .ref p25, .ref p26, .ref p27, .ref p28, .ref p29, .ref p30, .ref p31, .ref p32])), (p0, .inl (cI, 1439, .inl w)), (p1, .inl (cI, 7195, .inl z))] sz) (ftQv D [(m0, .inr (11, [.ref p0, .ref p1, .int (nI hm), .ref p3, .int i4, .ref p5, .int i6, .int i7, .int i8, .int i9, .ref p10, .int i11, .ref p12, .ref p13, .ref p14, .int i15, .ref p16, .ref p17, .int i18, .ref p19, .ref p20, .ref p21, .ref p22, .int i23, .int i24, .ref p25, .ref p26, .ref p27, .ref p28, .ref p29, .ref p30, .ref p31, .ref p32])), (p0, .inl (cI, 1439, .inl w)), (p1, .inl (cI, 7195, .inl z))] [(m0, .inr (11, [.ref p0, .ref p1, .int (nI (min (hm + 1) 5)), .ref p3, .int i4, .ref p5, .int i6, .int i7, .int i8, .int i9, .ref p10, .int i11, .ref p12, .ref p13, .ref p14, .int i15, .ref p16, .ref p17, .int i18, .ref p19, .ref p20, .ref p21, .ref p22, .int i23, .int i24, .ref p25, .ref p26, .ref p27, .ref p28, .ref p29, .ref p30, .ref p31, .ref p32])), (p0, .inl (cI, 1439, .inl w)), (p1, .inl (cI, 7195, .inl (ftPush w z hm)))] sz) 0 0 (va_A [(m0, .inr (11, [.ref p0, .ref p1, .int (nI hm), .ref p3, .int i4, .ref p5, .int i6, .int i7, .int i8, .int i9, .ref p10, .int i11, .ref p12, .ref p13, .ref p14, .int i15, .ref p16, .ref p17, .int i18, .ref p19, .ref p20, .ref p21, .ref p22, .int i23, .int i24, .ref p25, .ref p26, .ref p27, .ref p28, .ref p29, .ref p30, .ref p31, .ref p32])), (p0, .inl (cI, 1439, .inl w)), (p1, .inl (cI, 7195, .inl z))] sz) := by
  refine Met.ofW (cc := cX11_change) (maxL := 2) (ret := none) (by decide) rfl ?_
  intro p e s m args below meth c s₁ B hml hv
  obtain ⟨rfl, hsz, hP, hKK, hD0⟩ := hv
  have hK := hKK.1
  have hx := B.exec
  have hb := B.bytes
  have hr := B.returns
  have hts := atoms_spec (ws := wsX11_change) B.pre
  have hown : s.vm.findClass RX11 = some m.cls := findClass_of_methodNamed B.named
  have hlocks := B.notSynchronized
  subst hsz
  have hD := hD0.self (sz := s.heap.size)
  generalize hAe : va_A [(m0, .inr (11, [.ref p0, .ref p1, .int (nI hm), .ref p3, .int i4, .ref p5, .int i6, .int i7, .int i8, .int i9, .ref p10, .int i11, .ref p12, .ref p13, .ref p14, .int i15, .ref p16, .ref p17, .int i18, .ref p19, .ref p20, .ref p21, .ref p22, .int i23, .int i24, .ref p25, .ref p26, .ref p27, .ref p28, .ref p29, .ref p30, .ref p31, .ref p32])), (p0, .inl (cI, 1439, .inl w)), (p1, .inl (cI, 7195, .inl z))] s.heap.size = A at hD ⊢
  have hA : ∀ q : Nat, s.heap.size ≤ q → A q := fun q h => by rw [← hAe]; exact Or.inr h
  have hS : va_S A s.heap s.heap [] := va_S.rf
  have hD : va_D A [(m0, .inr (11, [.ref p0, .ref p1, .int (nI hm), .ref p3, .int i4, .ref p5, .int i6, .int i7, .int i8, .int i9, .ref p10, .int i11, .ref p12, .ref p13, .ref p14, .int i15, .ref p16, .ref p17, .int i18, .ref p19, .ref p20, .ref p21, .ref p22, .int i23, .int i24, .ref p25, .ref p26, .ref p27, .ref p28, .ref p29, .ref p30, .ref p31, .ref p32])), (p0, .inl (cI, 1439, .inl w)), (p1, .inl (cI, 7195, .inl z))] := hD
  have hP : va_P D vwCl [(m0, .inr (11, [.ref p0, .ref p1, .int (nI hm), .ref p3, .int i4, .ref p5, .int i6, .int i7, .int i8, .int i9, .ref p10, .int i11, .ref p12, .ref p13, .ref p14, .int i15, .ref p16, .ref p17, .int i18, .ref p19, .ref p20, .ref p21, .ref p22, .int i23, .int i24, .ref p25, .ref p26, .ref p27, .ref p28, .ref p29, .ref p30, .ref p31, .ref p32])), (p0, .inl (cI, 1439, .inl w)), (p1, .inl (cI, 7195, .inl z))] s.heap := hP
  have hl := lv_entry ([.ref m0]) (n := 2) (Nat.le_of_ble_eq_true rfl)
  rw [lg_entry_eq]
  generalize (lg_sl ([.ref m0]) ++ List.replicate (2 - (lg_sl ([.ref m0])).length) Slot.unset).toArray = ls at hl ⊢
  have hl : lv_has ls 2 [(0, .ref m0)] := hl
  refine lv_aload_n hx hb dX11_change_0 rfl (lv_at hl 0 rfl) ?_
  refine va_get (D := D) (ci := 11) (v := .int (nI hm)) (C := RX11) (T := TX11) (N := 33) hx hb hts (by decide +kernel) hown hK hP 0 rfl rfl 2 (by decide) (hts (.fieldLink RX11 82 "FiberTraceModel" "stateMany" "I") (by decide +kernel)) (fun _ h9 => h9) rfl dX11_change_1 ?_
  refine lv_iconst (v := 5) hx hb dX11_change_4 (by decide) ?_
  refine lv_icmp_ne (tgt := 49) hx hb dX11_change_5 (by decide) (fun c5 => ?_) (fun c5 => ?_)
  · have c5n : hm ≠ 5 := ft_neN (by omega) (by omega) c5
    obtain ⟨zz, hzz⟩ : ∃ zz, zz = z := ⟨_, rfl⟩
    obtain ⟨hh, hhh⟩ : ∃ hh, hh = hm := ⟨_, rfl⟩
    refine lv_iconst (v := 0) hx hb dX11_change_49 (by decide) ?_
    refine lv_istore_n (lv' := [(1, .int 0), (0, .ref m0)]) hx hb dX11_change_50 rfl hl (by decide) rfl (fun ls hl => ?_)
    have lp51 : ∀ (n51 : Nat) (r : Nat) (x51_1 : Int32) (g51_p1 : Nat → Int32), 1439 - r < n51 → (r ≤ 1439) → x51_1 = nI r → g51_p1 = ftSeg w zz (hh * 1439) r → ∀ (H : Heap) (locs : List Loc), va_P D vwCl [(m0, .inr (11, [.ref p0, .ref p1, .int (nI hm), .ref p3, .int i4, .ref p5, .int i6, .int i7, .int i8, .int i9, .ref p10, .int i11, .ref p12, .ref p13, .ref p14, .int i15, .ref p16, .ref p17, .int i18, .ref p19, .ref p20, .ref p21, .ref p22, .int i23, .int i24, .ref p25, .ref p26, .ref p27, .ref p28, .ref p29, .ref p30, .ref p31, .ref p32])), (p0, .inl (cI, 1439, .inl w)), (p1, .inl (cI, 7195, .inl g51_p1))] H → va_D A [(m0, .inr (11, [.ref p0, .ref p1, .int (nI hm), .ref p3, .int i4, .ref p5, .int i6, .int i7, .int i8, .int i9, .ref p10, .int i11, .ref p12, .ref p13, .ref p14, .int i15, .ref p16, .ref p17, .int i18, .ref p19, .ref p20, .ref p21, .ref p22, .int i23, .int i24, .ref p25, .ref p26, .ref p27, .ref p28, .ref p29, .ref p30, .ref p31, .ref p32])), (p0, .inl (cI, 1439, .inl w)), (p1, .inl (cI, 7195, .inl g51_p1))] → va_S A s.heap H locs → ∀ ls : Array Slot, lv_has ls 2 [(0, .ref m0), (1, .int x51_1)] → W p l e (headSpec wsX11_change { frames := 0, cells := 0, slots := 0, locals := 0 }).room s m ([.ref m0] : List Value).toArray below meth c H locs 0 0 (MQ below (ftQv D [(m0, .inr (11, [.ref p0, .ref p1, .int (nI hm), .ref p3, .int i4, .ref p5, .int i6, .int i7, .int i8, .int i9, .ref p10, .int i11, .ref p12, .ref p13, .ref p14, .int i15, .ref p16, .ref p17, .int i18, .ref p19, .ref p20, .ref p21, .ref p22, .int i23, .int i24, .ref p25, .ref p26, .ref p27, .ref p28, .ref p29, .ref p30, .ref p31, .ref p32])), (p0, .inl (cI, 1439, .inl w)), (p1, .inl (cI, 7195, .inl z))] [(m0, .inr (11, [.ref p0, .ref p1, .int (nI (min (hm + 1) 5)), .ref p3, .int i4, .ref p5, .int i6, .int i7, .int i8, .int i9, .ref p10, .int i11, .ref p12, .ref p13, .ref p14, .int i15, .ref p16, .ref p17, .int i18, .ref p19, .ref p20, .ref p21, .ref p22, .int i23, .int i24, .ref p25, .ref p26, .ref p27, .ref p28, .ref p29, .ref p30, .ref p31, .ref p32])), (p0, .inl (cI, 1439, .inl w)), (p1, .inl (cI, 7195, .inl (ftPush w z hm)))] s.heap.size) ([.ref m0] : List Value).toArray s 0 0 A) (F0 m 51 ls []) := by
      intro n51
      induction n51 with
      | zero =>
        intro r x51_1 g51_p1 hm51
        exact absurd hm51 (Nat.not_lt_zero _)
      | succ n51 ih51 =>
        intro r x51_1 g51_p1 hm51 hr0 ex51_1 eg51_p1 H locs hP hD hS ls hl
        subst ex51_1
        refine lv_iload_n hx hb dX11_change_51 rfl (lv_at hl 1 rfl) ?_
        refine lv_sipush (v := 1439) hx hb dX11_change_52 (by decide) ?_
        refine lv_icmp_ge (tgt := 85) hx hb dX11_change_55 (by decide) (fun c55 => ?_) (fun c55 => ?_)
        · have c55n : 1439 ≤ r := ft_leN (by omega) (by omega) c55
          refine lv_aload_n hx hb dX11_change_85 rfl (lv_at hl 0 rfl) ?_
          refine lv_dup hx hb dX11_change_86 rfl ?_
          refine va_get (D := D) (ci := 11) (v := .int (nI hm)) (C := RX11) (T := TX11) (N := 33) hx hb hts (by decide +kernel) hown hK hP 0 rfl rfl 2 (by decide) (hts (.fieldLink RX11 82 "FiberTraceModel" "stateMany" "I") (by decide +kernel)) (fun _ h9 => h9) rfl dX11_change_87 ?_
          refine lv_iconst (v := 1) hx hb dX11_change_90 (by decide) ?_
          refine lv_iadd hx hb dX11_change_91 ?_
          refine ft_top (y := nI (hm + 1)) (ft_addN hm 1) ?_
          refine va_put (D := D) (ci := 11) (v := .int (nI (hm + 1))) (ty := .int) (C := RX11) (T := TX11) (N := 33) hx hb hts (by decide +kernel) tyX11 tyX11_ok nmX11 hown hK hP hD hS 0 rfl rfl 2 (by decide) (hts (.fieldLink RX11 82 "FiberTraceModel" "stateMany" "I") (by decide +kernel)) (fun _ h9 => h9) rfl (by decide +kernel) rfl rfl (Nat.le_of_ble_eq_true rfl) dX11_change_92 (fun H locs hP hD hS => ?_)
          have hP : va_P D vwCl [(m0, .inr (11, [.ref p0, .ref p1, .int (nI (hm + 1)), .ref p3, .int i4, .ref p5, .int i6, .int i7, .int i8, .int i9, .ref p10, .int i11, .ref p12, .ref p13, .ref p14, .int i15, .ref p16, .ref p17, .int i18, .ref p19, .ref p20, .ref p21, .ref p22, .int i23, .int i24, .ref p25, .ref p26, .ref p27, .ref p28, .ref p29, .ref p30, .ref p31, .ref p32])), (p0, .inl (cI, 1439, .inl w)), (p1, .inl (cI, 7195, .inl g51_p1))] H := hP
          have hD : va_D A [(m0, .inr (11, [.ref p0, .ref p1, .int (nI (hm + 1)), .ref p3, .int i4, .ref p5, .int i6, .int i7, .int i8, .int i9, .ref p10, .int i11, .ref p12, .ref p13, .ref p14, .int i15, .ref p16, .ref p17, .int i18, .ref p19, .ref p20, .ref p21, .ref p22, .int i23, .int i24, .ref p25, .ref p26, .ref p27, .ref p28, .ref p29, .ref p30, .ref p31, .ref p32])), (p0, .inl (cI, 1439, .inl w)), (p1, .inl (cI, 7195, .inl g51_p1))] := hD
          have hw9 : ([(m0, .inr (11, [.ref p0, .ref p1, .int (nI (hm + 1)), .ref p3, .int i4, .ref p5, .int i6, .int i7, .int i8, .int i9, .ref p10, .int i11, .ref p12, .ref p13, .ref p14, .int i15, .ref p16, .ref p17, .int i18, .ref p19, .ref p20, .ref p21, .ref p22, .int i23, .int i24, .ref p25, .ref p26, .ref p27, .ref p28, .ref p29, .ref p30, .ref p31, .ref p32])), (p0, .inl (cI, 1439, .inl w)), (p1, .inl (cI, 7195, .inl g51_p1))] : va_W) = [(m0, .inr (11, [.ref p0, .ref p1, .int (nI (min (hm + 1) 5)), .ref p3, .int i4, .ref p5, .int i6, .int i7, .int i8, .int i9, .ref p10, .int i11, .ref p12, .ref p13, .ref p14, .int i15, .ref p16, .ref p17, .int i18, .ref p19, .ref p20, .ref p21, .ref p22, .int i23, .int i24, .ref p25, .ref p26, .ref p27, .ref p28, .ref p29, .ref p30, .ref p31, .ref p32])), (p0, .inl (cI, 1439, .inl w)), (p1, .inl (cI, 7195, .inl (ftPush w z hm)))] := by (have ht9 : r = 1439 := by omega); rw [eg51_p1, hzz, hhh, ht9]; first | (rw [ftPush_n c5n, Nat.min_eq_left (by omega)]; done) | (rw [eg10_p1, show t = 5756 by omega, ftPush_5 c5n, show min (hm + 1) 5 = hm - 1 + 1 by omega]; done)
          rw [hw9] at hP hD
          exact W.vret hx hb hr (fun t ht hW => ⟨⟨(), rfl, trivial, by rw [ht]; exact hP, by rw [hAe]; exact hD⟩, by rw [hAe]; exact hS.F ht⟩) hS.2.2 dX11_change_95
        · have c55n : r < 1439 := ft_nleN (by omega) (by omega) c55
          refine lv_aload_n hx hb dX11_change_58 rfl (lv_at hl 0 rfl) ?_
          refine va_get (D := D) (ci := 11) (v := .ref p1) (C := RX11) (T := TX11) (N := 33) hx hb hts (by decide +kernel) hown hK hP 0 rfl rfl 1 (by decide) (hts (.fieldLink RX11 13 "FiberTraceModel" "states" "[I") (by decide +kernel)) (fun _ h9 => h9) rfl dX11_change_59 ?_
          refine lv_aload_n hx hb dX11_change_62 rfl (lv_at hl 0 rfl) ?_
          refine va_get (D := D) (ci := 11) (v := .int (nI hm)) (C := RX11) (T := TX11) (N := 33) hx hb hts (by decide +kernel) hown hK hP 0 rfl rfl 2 (by decide) (hts (.fieldLink RX11 82 "FiberTraceModel" "stateMany" "I") (by decide +kernel)) (fun _ h9 => h9) rfl dX11_change_63 ?_
          refine lv_sipush (v := 1439) hx hb dX11_change_66 (by decide) ?_
          refine lv_imul hx hb dX11_change_69 ?_
          refine ft_top (y := nI (hm * 1439)) (ft_mulN hm 1439) ?_
          refine lv_iload_n hx hb dX11_change_70 rfl (lv_at hl 1 rfl) ?_
          refine lv_iadd hx hb dX11_change_71 ?_
          refine ft_top (y := nI ((hm * 1439) + r)) (ft_addN (hm * 1439) r) ?_
          refine lv_aload_n hx hb dX11_change_72 rfl (lv_at hl 0 rfl) ?_
          refine va_get (D := D) (ci := 11) (v := .ref p0) (C := RX11) (T := TX11) (N := 33) hx hb hts (by decide +kernel) hown hK hP 0 rfl rfl 0 (by decide) (hts (.fieldLink RX11 7 "FiberTraceModel" "now" "[I") (by decide +kernel)) (fun _ h9 => h9) rfl dX11_change_73 ?_
          refine lv_iload_n hx hb dX11_change_76 rfl (lv_at hl 1 rfl) ?_
          refine va_iald hx hb hK hP 1 0 rfl rfl (vp_in_nI (by omega) (by omega)) dX11_change_77 ?_
          refine ft_top (y := w r) (ft_clampN (by omega)) ?_
          refine va_iast hx hb hK hP hD hS 2 0 rfl rfl (vp_in_nI (by omega) (by omega)) dX11_change_78 (fun H locs hP hD hS => ?_)
          rw [nI_clamp (show (hm * 1439) + r < 2 ^ 31 by omega)] at hP hD
          have hP : va_P D vwCl [(m0, .inr (11, [.ref p0, .ref p1, .int (nI hm), .ref p3, .int i4, .ref p5, .int i6, .int i7, .int i8, .int i9, .ref p10, .int i11, .ref p12, .ref p13, .ref p14, .int i15, .ref p16, .ref p17, .int i18, .ref p19, .ref p20, .ref p21, .ref p22, .int i23, .int i24, .ref p25, .ref p26, .ref p27, .ref p28, .ref p29, .ref p30, .ref p31, .ref p32])), (p0, .inl (cI, 1439, .inl w)), (p1, .inl (cI, 7195, .inl (upd g51_p1 ((hm * 1439) + r) (w r))))] H := hP
          have hD : va_D A [(m0, .inr (11, [.ref p0, .ref p1, .int (nI hm), .ref p3, .int i4, .ref p5, .int i6, .int i7, .int i8, .int i9, .ref p10, .int i11, .ref p12, .ref p13, .ref p14, .int i15, .ref p16, .ref p17, .int i18, .ref p19, .ref p20, .ref p21, .ref p22, .int i23, .int i24, .ref p25, .ref p26, .ref p27, .ref p28, .ref p29, .ref p30, .ref p31, .ref p32])), (p0, .inl (cI, 1439, .inl w)), (p1, .inl (cI, 7195, .inl (upd g51_p1 ((hm * 1439) + r) (w r))))] := hD
          refine lv_iinc (v := nI (r + 1)) (lv' := [(1, .int (nI (r + 1))), (0, .ref m0)]) hx hb dX11_change_79 hl (k := 1) rfl (ft_inc r) (by decide) rfl (fun ls hl => ?_)
          refine lv_goto (tgt := 51) hx hb dX11_change_82 (by decide) ?_
          exact ih51 (r + 1) (nI (r + 1)) (upd g51_p1 ((hm * 1439) + r) (w r)) (by omega) (by omega) (by first | rfl | assumption) (by rw [eg51_p1, hhh]; exact ftSeg_s) _ _ hP hD hS ls (lv_sub hl [1, 0] rfl)
    exact lp51 _ 0 0 z (Nat.lt_succ_self _) (by omega) (by rfl) (by rw [hzz]; exact ftSeg_0 _ _ _) _ _ hP hD hS ls (lv_sub hl [1, 0] rfl)
  · have c5n : hm = 5 := ft_eqN (by omega) (by omega) c5
    refine lv_iconst (v := 0) hx hb dX11_change_8 (by decide) ?_
    refine lv_istore_n (lv' := [(1, .int 0), (0, .ref m0)]) hx hb dX11_change_9 rfl hl (by decide) rfl (fun ls hl => ?_)
    have lp10 : ∀ (n10 : Nat) (t : Nat) (x10_1 : Int32) (g10_p1 : Nat → Int32), 5756 - t < n10 → (t ≤ 5756) → x10_1 = nI t → g10_p1 = ftShift z t → ∀ (H : Heap) (locs : List Loc), va_P D vwCl [(m0, .inr (11, [.ref p0, .ref p1, .int (nI hm), .ref p3, .int i4, .ref p5, .int i6, .int i7, .int i8, .int i9, .ref p10, .int i11, .ref p12, .ref p13, .ref p14, .int i15, .ref p16, .ref p17, .int i18, .ref p19, .ref p20, .ref p21, .ref p22, .int i23, .int i24, .ref p25, .ref p26, .ref p27, .ref p28, .ref p29, .ref p30, .ref p31, .ref p32])), (p0, .inl (cI, 1439, .inl w)), (p1, .inl (cI, 7195, .inl g10_p1))] H → va_D A [(m0, .inr (11, [.ref p0, .ref p1, .int (nI hm), .ref p3, .int i4, .ref p5, .int i6, .int i7, .int i8, .int i9, .ref p10, .int i11, .ref p12, .ref p13, .ref p14, .int i15, .ref p16, .ref p17, .int i18, .ref p19, .ref p20, .ref p21, .ref p22, .int i23, .int i24, .ref p25, .ref p26, .ref p27, .ref p28, .ref p29, .ref p30, .ref p31, .ref p32])), (p0, .inl (cI, 1439, .inl w)), (p1, .inl (cI, 7195, .inl g10_p1))] → va_S A s.heap H locs → ∀ ls : Array Slot, lv_has ls 2 [(0, .ref m0), (1, .int x10_1)] → W p l e (headSpec wsX11_change { frames := 0, cells := 0, slots := 0, locals := 0 }).room s m ([.ref m0] : List Value).toArray below meth c H locs 0 0 (MQ below (ftQv D [(m0, .inr (11, [.ref p0, .ref p1, .int (nI hm), .ref p3, .int i4, .ref p5, .int i6, .int i7, .int i8, .int i9, .ref p10, .int i11, .ref p12, .ref p13, .ref p14, .int i15, .ref p16, .ref p17, .int i18, .ref p19, .ref p20, .ref p21, .ref p22, .int i23, .int i24, .ref p25, .ref p26, .ref p27, .ref p28, .ref p29, .ref p30, .ref p31, .ref p32])), (p0, .inl (cI, 1439, .inl w)), (p1, .inl (cI, 7195, .inl z))] [(m0, .inr (11, [.ref p0, .ref p1, .int (nI (min (hm + 1) 5)), .ref p3, .int i4, .ref p5, .int i6, .int i7, .int i8, .int i9, .ref p10, .int i11, .ref p12, .ref p13, .ref p14, .int i15, .ref p16, .ref p17, .int i18, .ref p19, .ref p20, .ref p21, .ref p22, .int i23, .int i24, .ref p25, .ref p26, .ref p27, .ref p28, .ref p29, .ref p30, .ref p31, .ref p32])), (p0, .inl (cI, 1439, .inl w)), (p1, .inl (cI, 7195, .inl (ftPush w z hm)))] s.heap.size) ([.ref m0] : List Value).toArray s 0 0 A) (F0 m 10 ls []) := by
      intro n10
      induction n10 with
      | zero =>
        intro t x10_1 g10_p1 hm10
        exact absurd hm10 (Nat.not_lt_zero _)
      | succ n10 ih10 =>
        intro t x10_1 g10_p1 hm10 ht0 ex10_1 eg10_p1 H locs hP hD hS ls hl
        subst ex10_1
        refine lv_iload_n hx hb dX11_change_10 rfl (lv_at hl 1 rfl) ?_
        refine lv_sipush (v := 5756) hx hb dX11_change_11 (by decide) ?_
        refine lv_icmp_ge (tgt := 39) hx hb dX11_change_14 (by decide) (fun c14 => ?_) (fun c14 => ?_)
        · have c14n : 5756 ≤ t := ft_leN (by omega) (by omega) c14
          refine lv_aload_n hx hb dX11_change_39 rfl (lv_at hl 0 rfl) ?_
          refine lv_dup hx hb dX11_change_40 rfl ?_
          refine va_get (D := D) (ci := 11) (v := .int (nI hm)) (C := RX11) (T := TX11) (N := 33) hx hb hts (by decide +kernel) hown hK hP 0 rfl rfl 2 (by decide) (hts (.fieldLink RX11 82 "FiberTraceModel" "stateMany" "I") (by decide +kernel)) (fun _ h9 => h9) rfl dX11_change_41 ?_
          refine lv_iconst (v := 1) hx hb dX11_change_44 (by decide) ?_
          refine lv_isub hx hb dX11_change_45 ?_
          refine ft_top (y := nI (hm - 1)) (ft_subN (a := hm) (b := 1) (by omega)) ?_
          refine va_put (D := D) (ci := 11) (v := .int (nI (hm - 1))) (ty := .int) (C := RX11) (T := TX11) (N := 33) hx hb hts (by decide +kernel) tyX11 tyX11_ok nmX11 hown hK hP hD hS 0 rfl rfl 2 (by decide) (hts (.fieldLink RX11 82 "FiberTraceModel" "stateMany" "I") (by decide +kernel)) (fun _ h9 => h9) rfl (by decide +kernel) rfl rfl (Nat.le_of_ble_eq_true rfl) dX11_change_46 (fun H locs hP hD hS => ?_)
          have hP : va_P D vwCl [(m0, .inr (11, [.ref p0, .ref p1, .int (nI (hm - 1)), .ref p3, .int i4, .ref p5, .int i6, .int i7, .int i8, .int i9, .ref p10, .int i11, .ref p12, .ref p13, .ref p14, .int i15, .ref p16, .ref p17, .int i18, .ref p19, .ref p20, .ref p21, .ref p22, .int i23, .int i24, .ref p25, .ref p26, .ref p27, .ref p28, .ref p29, .ref p30, .ref p31, .ref p32])), (p0, .inl (cI, 1439, .inl w)), (p1, .inl (cI, 7195, .inl g10_p1))] H := hP
          have hD : va_D A [(m0, .inr (11, [.ref p0, .ref p1, .int (nI (hm - 1)), .ref p3, .int i4, .ref p5, .int i6, .int i7, .int i8, .int i9, .ref p10, .int i11, .ref p12, .ref p13, .ref p14, .int i15, .ref p16, .ref p17, .int i18, .ref p19, .ref p20, .ref p21, .ref p22, .int i23, .int i24, .ref p25, .ref p26, .ref p27, .ref p28, .ref p29, .ref p30, .ref p31, .ref p32])), (p0, .inl (cI, 1439, .inl w)), (p1, .inl (cI, 7195, .inl g10_p1))] := hD
          obtain ⟨zz, hzz⟩ : ∃ zz, zz = g10_p1 := ⟨_, rfl⟩
          obtain ⟨hh, hhh⟩ : ∃ hh, hh = hm - 1 := ⟨_, rfl⟩
          refine lv_iconst (v := 0) hx hb dX11_change_49 (by decide) ?_
          refine lv_istore_n (lv' := [(1, .int 0), (0, .ref m0)]) hx hb dX11_change_50 rfl hl (by decide) rfl (fun ls hl => ?_)
          have lp51 : ∀ (n51 : Nat) (r : Nat) (x51_1 : Int32) (g51_p1 : Nat → Int32), 1439 - r < n51 → (r ≤ 1439) → x51_1 = nI r → g51_p1 = ftSeg w zz (hh * 1439) r → ∀ (H : Heap) (locs : List Loc), va_P D vwCl [(m0, .inr (11, [.ref p0, .ref p1, .int (nI (hm - 1)), .ref p3, .int i4, .ref p5, .int i6, .int i7, .int i8, .int i9, .ref p10, .int i11, .ref p12, .ref p13, .ref p14, .int i15, .ref p16, .ref p17, .int i18, .ref p19, .ref p20, .ref p21, .ref p22, .int i23, .int i24, .ref p25, .ref p26, .ref p27, .ref p28, .ref p29, .ref p30, .ref p31, .ref p32])), (p0, .inl (cI, 1439, .inl w)), (p1, .inl (cI, 7195, .inl g51_p1))] H → va_D A [(m0, .inr (11, [.ref p0, .ref p1, .int (nI (hm - 1)), .ref p3, .int i4, .ref p5, .int i6, .int i7, .int i8, .int i9, .ref p10, .int i11, .ref p12, .ref p13, .ref p14, .int i15, .ref p16, .ref p17, .int i18, .ref p19, .ref p20, .ref p21, .ref p22, .int i23, .int i24, .ref p25, .ref p26, .ref p27, .ref p28, .ref p29, .ref p30, .ref p31, .ref p32])), (p0, .inl (cI, 1439, .inl w)), (p1, .inl (cI, 7195, .inl g51_p1))] → va_S A s.heap H locs → ∀ ls : Array Slot, lv_has ls 2 [(0, .ref m0), (1, .int x51_1)] → W p l e (headSpec wsX11_change { frames := 0, cells := 0, slots := 0, locals := 0 }).room s m ([.ref m0] : List Value).toArray below meth c H locs 0 0 (MQ below (ftQv D [(m0, .inr (11, [.ref p0, .ref p1, .int (nI hm), .ref p3, .int i4, .ref p5, .int i6, .int i7, .int i8, .int i9, .ref p10, .int i11, .ref p12, .ref p13, .ref p14, .int i15, .ref p16, .ref p17, .int i18, .ref p19, .ref p20, .ref p21, .ref p22, .int i23, .int i24, .ref p25, .ref p26, .ref p27, .ref p28, .ref p29, .ref p30, .ref p31, .ref p32])), (p0, .inl (cI, 1439, .inl w)), (p1, .inl (cI, 7195, .inl z))] [(m0, .inr (11, [.ref p0, .ref p1, .int (nI (min (hm + 1) 5)), .ref p3, .int i4, .ref p5, .int i6, .int i7, .int i8, .int i9, .ref p10, .int i11, .ref p12, .ref p13, .ref p14, .int i15, .ref p16, .ref p17, .int i18, .ref p19, .ref p20, .ref p21, .ref p22, .int i23, .int i24, .ref p25, .ref p26, .ref p27, .ref p28, .ref p29, .ref p30, .ref p31, .ref p32])), (p0, .inl (cI, 1439, .inl w)), (p1, .inl (cI, 7195, .inl (ftPush w z hm)))] s.heap.size) ([.ref m0] : List Value).toArray s 0 0 A) (F0 m 51 ls []) := by
            intro n51
            induction n51 with
            | zero =>
              intro r x51_1 g51_p1 hm51
              exact absurd hm51 (Nat.not_lt_zero _)
            | succ n51 ih51 =>
              intro r x51_1 g51_p1 hm51 hr0 ex51_1 eg51_p1 H locs hP hD hS ls hl
              subst ex51_1
              refine lv_iload_n hx hb dX11_change_51 rfl (lv_at hl 1 rfl) ?_
              refine lv_sipush (v := 1439) hx hb dX11_change_52 (by decide) ?_
              refine lv_icmp_ge (tgt := 85) hx hb dX11_change_55 (by decide) (fun c55 => ?_) (fun c55 => ?_)
              · have c55n : 1439 ≤ r := ft_leN (by omega) (by omega) c55
                refine lv_aload_n hx hb dX11_change_85 rfl (lv_at hl 0 rfl) ?_
                refine lv_dup hx hb dX11_change_86 rfl ?_
                refine va_get (D := D) (ci := 11) (v := .int (nI (hm - 1))) (C := RX11) (T := TX11) (N := 33) hx hb hts (by decide +kernel) hown hK hP 0 rfl rfl 2 (by decide) (hts (.fieldLink RX11 82 "FiberTraceModel" "stateMany" "I") (by decide +kernel)) (fun _ h9 => h9) rfl dX11_change_87 ?_
                refine lv_iconst (v := 1) hx hb dX11_change_90 (by decide) ?_
                refine lv_iadd hx hb dX11_change_91 ?_
                refine ft_top (y := nI ((hm - 1) + 1)) (ft_addN (hm - 1) 1) ?_
                refine va_put (D := D) (ci := 11) (v := .int (nI ((hm - 1) + 1))) (ty := .int) (C := RX11) (T := TX11) (N := 33) hx hb hts (by decide +kernel) tyX11 tyX11_ok nmX11 hown hK hP hD hS 0 rfl rfl 2 (by decide) (hts (.fieldLink RX11 82 "FiberTraceModel" "stateMany" "I") (by decide +kernel)) (fun _ h9 => h9) rfl (by decide +kernel) rfl rfl (Nat.le_of_ble_eq_true rfl) dX11_change_92 (fun H locs hP hD hS => ?_)
                have hP : va_P D vwCl [(m0, .inr (11, [.ref p0, .ref p1, .int (nI ((hm - 1) + 1)), .ref p3, .int i4, .ref p5, .int i6, .int i7, .int i8, .int i9, .ref p10, .int i11, .ref p12, .ref p13, .ref p14, .int i15, .ref p16, .ref p17, .int i18, .ref p19, .ref p20, .ref p21, .ref p22, .int i23, .int i24, .ref p25, .ref p26, .ref p27, .ref p28, .ref p29, .ref p30, .ref p31, .ref p32])), (p0, .inl (cI, 1439, .inl w)), (p1, .inl (cI, 7195, .inl g51_p1))] H := hP
                have hD : va_D A [(m0, .inr (11, [.ref p0, .ref p1, .int (nI ((hm - 1) + 1)), .ref p3, .int i4, .ref p5, .int i6, .int i7, .int i8, .int i9, .ref p10, .int i11, .ref p12, .ref p13, .ref p14, .int i15, .ref p16, .ref p17, .int i18, .ref p19, .ref p20, .ref p21, .ref p22, .int i23, .int i24, .ref p25, .ref p26, .ref p27, .ref p28, .ref p29, .ref p30, .ref p31, .ref p32])), (p0, .inl (cI, 1439, .inl w)), (p1, .inl (cI, 7195, .inl g51_p1))] := hD
                have hw9 : ([(m0, .inr (11, [.ref p0, .ref p1, .int (nI ((hm - 1) + 1)), .ref p3, .int i4, .ref p5, .int i6, .int i7, .int i8, .int i9, .ref p10, .int i11, .ref p12, .ref p13, .ref p14, .int i15, .ref p16, .ref p17, .int i18, .ref p19, .ref p20, .ref p21, .ref p22, .int i23, .int i24, .ref p25, .ref p26, .ref p27, .ref p28, .ref p29, .ref p30, .ref p31, .ref p32])), (p0, .inl (cI, 1439, .inl w)), (p1, .inl (cI, 7195, .inl g51_p1))] : va_W) = [(m0, .inr (11, [.ref p0, .ref p1, .int (nI (min (hm + 1) 5)), .ref p3, .int i4, .ref p5, .int i6, .int i7, .int i8, .int i9, .ref p10, .int i11, .ref p12, .ref p13, .ref p14, .int i15, .ref p16, .ref p17, .int i18, .ref p19, .ref p20, .ref p21, .ref p22, .int i23, .int i24, .ref p25, .ref p26, .ref p27, .ref p28, .ref p29, .ref p30, .ref p31, .ref p32])), (p0, .inl (cI, 1439, .inl w)), (p1, .inl (cI, 7195, .inl (ftPush w z hm)))] := by (have ht9 : r = 1439 := by omega); rw [eg51_p1, hzz, hhh, ht9]; first | (rw [ftPush_n c5n, Nat.min_eq_left (by omega)]; done) | (rw [eg10_p1, show t = 5756 by omega, ftPush_5 c5n, show min (hm + 1) 5 = hm - 1 + 1 by omega]; done)
                rw [hw9] at hP hD
                exact W.vret hx hb hr (fun t ht hW => ⟨⟨(), rfl, trivial, by rw [ht]; exact hP, by rw [hAe]; exact hD⟩, by rw [hAe]; exact hS.F ht⟩) hS.2.2 dX11_change_95
              · have c55n : r < 1439 := ft_nleN (by omega) (by omega) c55
                refine lv_aload_n hx hb dX11_change_58 rfl (lv_at hl 0 rfl) ?_
                refine va_get (D := D) (ci := 11) (v := .ref p1) (C := RX11) (T := TX11) (N := 33) hx hb hts (by decide +kernel) hown hK hP 0 rfl rfl 1 (by decide) (hts (.fieldLink RX11 13 "FiberTraceModel" "states" "[I") (by decide +kernel)) (fun _ h9 => h9) rfl dX11_change_59 ?_
                refine lv_aload_n hx hb dX11_change_62 rfl (lv_at hl 0 rfl) ?_
                refine va_get (D := D) (ci := 11) (v := .int (nI (hm - 1))) (C := RX11) (T := TX11) (N := 33) hx hb hts (by decide +kernel) hown hK hP 0 rfl rfl 2 (by decide) (hts (.fieldLink RX11 82 "FiberTraceModel" "stateMany" "I") (by decide +kernel)) (fun _ h9 => h9) rfl dX11_change_63 ?_
                refine lv_sipush (v := 1439) hx hb dX11_change_66 (by decide) ?_
                refine lv_imul hx hb dX11_change_69 ?_
                refine ft_top (y := nI ((hm - 1) * 1439)) (ft_mulN (hm - 1) 1439) ?_
                refine lv_iload_n hx hb dX11_change_70 rfl (lv_at hl 1 rfl) ?_
                refine lv_iadd hx hb dX11_change_71 ?_
                refine ft_top (y := nI (((hm - 1) * 1439) + r)) (ft_addN ((hm - 1) * 1439) r) ?_
                refine lv_aload_n hx hb dX11_change_72 rfl (lv_at hl 0 rfl) ?_
                refine va_get (D := D) (ci := 11) (v := .ref p0) (C := RX11) (T := TX11) (N := 33) hx hb hts (by decide +kernel) hown hK hP 0 rfl rfl 0 (by decide) (hts (.fieldLink RX11 7 "FiberTraceModel" "now" "[I") (by decide +kernel)) (fun _ h9 => h9) rfl dX11_change_73 ?_
                refine lv_iload_n hx hb dX11_change_76 rfl (lv_at hl 1 rfl) ?_
                refine va_iald hx hb hK hP 1 0 rfl rfl (vp_in_nI (by omega) (by omega)) dX11_change_77 ?_
                refine ft_top (y := w r) (ft_clampN (by omega)) ?_
                refine va_iast hx hb hK hP hD hS 2 0 rfl rfl (vp_in_nI (by omega) (by omega)) dX11_change_78 (fun H locs hP hD hS => ?_)
                rw [nI_clamp (show ((hm - 1) * 1439) + r < 2 ^ 31 by omega)] at hP hD
                have hP : va_P D vwCl [(m0, .inr (11, [.ref p0, .ref p1, .int (nI (hm - 1)), .ref p3, .int i4, .ref p5, .int i6, .int i7, .int i8, .int i9, .ref p10, .int i11, .ref p12, .ref p13, .ref p14, .int i15, .ref p16, .ref p17, .int i18, .ref p19, .ref p20, .ref p21, .ref p22, .int i23, .int i24, .ref p25, .ref p26, .ref p27, .ref p28, .ref p29, .ref p30, .ref p31, .ref p32])), (p0, .inl (cI, 1439, .inl w)), (p1, .inl (cI, 7195, .inl (upd g51_p1 (((hm - 1) * 1439) + r) (w r))))] H := hP
                have hD : va_D A [(m0, .inr (11, [.ref p0, .ref p1, .int (nI (hm - 1)), .ref p3, .int i4, .ref p5, .int i6, .int i7, .int i8, .int i9, .ref p10, .int i11, .ref p12, .ref p13, .ref p14, .int i15, .ref p16, .ref p17, .int i18, .ref p19, .ref p20, .ref p21, .ref p22, .int i23, .int i24, .ref p25, .ref p26, .ref p27, .ref p28, .ref p29, .ref p30, .ref p31, .ref p32])), (p0, .inl (cI, 1439, .inl w)), (p1, .inl (cI, 7195, .inl (upd g51_p1 (((hm - 1) * 1439) + r) (w r))))] := hD
                refine lv_iinc (v := nI (r + 1)) (lv' := [(1, .int (nI (r + 1))), (0, .ref m0)]) hx hb dX11_change_79 hl (k := 1) rfl (ft_inc r) (by decide) rfl (fun ls hl => ?_)
                refine lv_goto (tgt := 51) hx hb dX11_change_82 (by decide) ?_
                exact ih51 (r + 1) (nI (r + 1)) (upd g51_p1 (((hm - 1) * 1439) + r) (w r)) (by omega) (by omega) (by first | rfl | assumption) (by rw [eg51_p1, hhh]; exact ftSeg_s) _ _ hP hD hS ls (lv_sub hl [1, 0] rfl)
          exact lp51 _ 0 0 g10_p1 (Nat.lt_succ_self _) (by omega) (by rfl) (by rw [hzz]; exact ftSeg_0 _ _ _) _ _ hP hD hS ls (lv_sub hl [1, 0] rfl)
        · have c14n : t < 5756 := ft_nleN (by omega) (by omega) c14
          refine lv_aload_n hx hb dX11_change_17 rfl (lv_at hl 0 rfl) ?_
          refine va_get (D := D) (ci := 11) (v := .ref p1) (C := RX11) (T := TX11) (N := 33) hx hb hts (by decide +kernel) hown hK hP 0 rfl rfl 1 (by decide) (hts (.fieldLink RX11 13 "FiberTraceModel" "states" "[I") (by decide +kernel)) (fun _ h9 => h9) rfl dX11_change_18 ?_
          refine lv_iload_n hx hb dX11_change_21 rfl (lv_at hl 1 rfl) ?_
          refine lv_aload_n hx hb dX11_change_22 rfl (lv_at hl 0 rfl) ?_
          refine va_get (D := D) (ci := 11) (v := .ref p1) (C := RX11) (T := TX11) (N := 33) hx hb hts (by decide +kernel) hown hK hP 0 rfl rfl 1 (by decide) (hts (.fieldLink RX11 13 "FiberTraceModel" "states" "[I") (by decide +kernel)) (fun _ h9 => h9) rfl dX11_change_23 ?_
          refine lv_iload_n hx hb dX11_change_26 rfl (lv_at hl 1 rfl) ?_
          refine lv_sipush (v := 1439) hx hb dX11_change_27 (by decide) ?_
          refine lv_iadd hx hb dX11_change_30 ?_
          refine ft_top (y := nI (t + 1439)) (ft_addN t 1439) ?_
          refine va_iald hx hb hK hP 2 0 rfl rfl (vp_in_nI (by omega) (by omega)) dX11_change_31 ?_
          refine ft_top (y := g10_p1 (t + 1439)) (ft_clampN (by omega)) ?_
          refine va_iast hx hb hK hP hD hS 2 0 rfl rfl (vp_in_nI (by omega) (by omega)) dX11_change_32 (fun H locs hP hD hS => ?_)
          rw [nI_clamp (show t < 2 ^ 31 by omega)] at hP hD
          have hP : va_P D vwCl [(m0, .inr (11, [.ref p0, .ref p1, .int (nI hm), .ref p3, .int i4, .ref p5, .int i6, .int i7, .int i8, .int i9, .ref p10, .int i11, .ref p12, .ref p13, .ref p14, .int i15, .ref p16, .ref p17, .int i18, .ref p19, .ref p20, .ref p21, .ref p22, .int i23, .int i24, .ref p25, .ref p26, .ref p27, .ref p28, .ref p29, .ref p30, .ref p31, .ref p32])), (p0, .inl (cI, 1439, .inl w)), (p1, .inl (cI, 7195, .inl (upd g10_p1 t (g10_p1 (t + 1439)))))] H := hP
          have hD : va_D A [(m0, .inr (11, [.ref p0, .ref p1, .int (nI hm), .ref p3, .int i4, .ref p5, .int i6, .int i7, .int i8, .int i9, .ref p10, .int i11, .ref p12, .ref p13, .ref p14, .int i15, .ref p16, .ref p17, .int i18, .ref p19, .ref p20, .ref p21, .ref p22, .int i23, .int i24, .ref p25, .ref p26, .ref p27, .ref p28, .ref p29, .ref p30, .ref p31, .ref p32])), (p0, .inl (cI, 1439, .inl w)), (p1, .inl (cI, 7195, .inl (upd g10_p1 t (g10_p1 (t + 1439)))))] := hD
          refine lv_iinc (v := nI (t + 1)) (lv' := [(1, .int (nI (t + 1))), (0, .ref m0)]) hx hb dX11_change_33 hl (k := 1) rfl (ft_inc t) (by decide) rfl (fun ls hl => ?_)
          refine lv_goto (tgt := 10) hx hb dX11_change_36 (by decide) ?_
          exact ih10 (t + 1) (nI (t + 1)) (upd g10_p1 t (g10_p1 (t + 1439))) (by omega) (by omega) (by first | rfl | assumption) (by rw [eg10_p1]; exact ftShift_s) _ _ hP hD hS ls (lv_sub hl [1, 0] rfl)
    exact lp10 _ 0 0 z (Nat.lt_succ_self _) (by omega) (by rfl) (by exact ftShift_0 z) _ _ hP hD hS ls (lv_sub hl [1, 0] rfl)
