theorem ftNx_0 {a z : Int32} {pu : Nat} (h : a = 0) : ftNx a z pu = 0 := if_pos h
theorem ftNz_0 {a z : Int32} {pu : Nat} (h : a = 0) : ftNz a z pu = z := if_pos h
theorem ftNz_p {a z : Int32} {pu : Nat} (h : ¬ a = 0) : ftNz a z pu = (ftDraw a z pu).1 := if_neg h
theorem ftNx_p {a z : Int32} {pu : Nat} (h : ¬ a = 0) (hp : 0 < pu) (hp2 : pu < 2 ^ 31) : ftNx a z pu = (ftDraw a z pu).2 / nI pu := by
  unfold ftNx ftQuot
  rw [if_neg h, if_neg (nI_ne0 hp hp2)]
theorem ft_div0 (x : Int32) : (0 : Int32) / x = 0 := Int32.zero_div
theorem ft_ne0_of_pos {a : Int32} (h : 0 < a) : ¬ a = 0 := fun q => by rw [q] at h; exact absurd h (by decide)
set_option maxHeartbeats 4000000 in
set_option maxRecDepth 100000 in
theorem c_X11_layNoise (l : Launch) (D : va_G) (cI cS : ClassId) (sz : Nat) (m0 p0 p1 p3 p5 p10 p12 p13 p14 p16 p17 p19 p20 p21 p22 p25 p26 p27 p28 p29 p30 p31 p32 : Nat) (i2 i4 i6 i7 i8 i9 i11 i15 i18 i23 i24 : Int32) (w fn : Nat → Int32) (ln pu : Nat) (hw0 : w 0 = nI ln) (hln : ln ≤ 400) (hpu : w (44 + 4) = nI pu) (hpu0 : 0 < pu) (hpu2 : pu < 2 ^ 31) (hA0 : 0 ≤ w (44 + 3)) (h2a : ¬ 2 * w (44 + 3) + 1 = 0) : Met l yX11_layNoise wsX11_layNoise ({ frames := 1, cells := 0, slots := 0, locals := 21 }) (ftRW D cI cS [.ref m0] [(m0, .inr (11, [.ref p0, .ref p1, .int i2, .ref p3, .int i4, .ref p5, .int i6, .int i7, .int i8, .int i9, .ref p10, .int i11, .ref p12, .ref p13, .ref p14, .int i15, .ref p16, .ref p17, .int i18, .ref p19, .ref p20, .ref p21, .ref p22, .int i23, .int i24, .ref p25, .ref p26, .ref p27, .ref p28, .ref p29, .ref p30, .ref p31, .ref p32])), (p0, .inl (cI, 1439, .inl w)), (p14, .inl (cI, 460, .inl fn))] sz) (ftQv D [(m0, .inr (11, [.ref p0, .ref p1, .int i2, .ref p3, .int i4, .ref p5, .int i6, .int i7, .int i8, .int i9, .ref p10, .int i11, .ref p12, .ref p13, .ref p14, .int i15, .ref p16, .ref p17, .int i18, .ref p19, .ref p20, .ref p21, .ref p22, .int i23, .int i24, .ref p25, .ref p26, .ref p27, .ref p28, .ref p29, .ref p30, .ref p31, .ref p32])), (p0, .inl (cI, 1439, .inl w)), (p14, .inl (cI, 460, .inl fn))] [(m0, .inr (11, [.ref p0, .ref p1, .int i2, .ref p3, .int i4, .ref p5, .int i6, .int i7, .int i8, .int i9, .ref p10, .int i11, .ref p12, .ref p13, .ref p14, .int i15, .ref p16, .ref p17, .int i18, .ref p19, .ref p20, .ref p21, .ref p22, .int i23, .int i24, .ref p25, .ref p26, .ref p27, .ref p28, .ref p29, .ref p30, .ref p31, .ref p32])), (p0, .inl (cI, 1439, .inl w)), (p14, .inl (cI, 460, .inl (ftFill (ftNoise (w (44 + 3)) (w (44 + 5)) pu) fn (ln + 60))))] sz) 0 0 (va_A [(m0, .inr (11, [.ref p0, .ref p1, .int i2, .ref p3, .int i4, .ref p5, .int i6, .int i7, .int i8, .int i9, .ref p10, .int i11, .ref p12, .ref p13, .ref p14, .int i15, .ref p16, .ref p17, .int i18, .ref p19, .ref p20, .ref p21, .ref p22, .int i23, .int i24, .ref p25, .ref p26, .ref p27, .ref p28, .ref p29, .ref p30, .ref p31, .ref p32])), (p0, .inl (cI, 1439, .inl w)), (p14, .inl (cI, 460, .inl fn))] sz) := by
  refine Met.ofW (cc := cX11_layNoise) (maxL := 6) (ret := none) (by decide) rfl ?_
  intro p e s m args below meth c s₁ B hml hv
  obtain ⟨rfl, hsz, hP, hKK, hD0⟩ := hv
  have hK := hKK.1
  have hx := B.exec
  have hb := B.bytes
  have hr := B.returns
  have hts := atoms_spec (ws := wsX11_layNoise) B.pre
  have hown : s.vm.findClass RX11 = some m.cls := findClass_of_methodNamed B.named
  have hlocks := B.notSynchronized
  subst hsz
  have hD := hD0.self (sz := s.heap.size)
  generalize hAe : va_A [(m0, .inr (11, [.ref p0, .ref p1, .int i2, .ref p3, .int i4, .ref p5, .int i6, .int i7, .int i8, .int i9, .ref p10, .int i11, .ref p12, .ref p13, .ref p14, .int i15, .ref p16, .ref p17, .int i18, .ref p19, .ref p20, .ref p21, .ref p22, .int i23, .int i24, .ref p25, .ref p26, .ref p27, .ref p28, .ref p29, .ref p30, .ref p31, .ref p32])), (p0, .inl (cI, 1439, .inl w)), (p14, .inl (cI, 460, .inl fn))] s.heap.size = A at hD ⊢
  have hA : ∀ q : Nat, s.heap.size ≤ q → A q := fun q h => by rw [← hAe]; exact Or.inr h
  have hS : va_S A s.heap s.heap [] := va_S.rf
  have hD : va_D A [(m0, .inr (11, [.ref p0, .ref p1, .int i2, .ref p3, .int i4, .ref p5, .int i6, .int i7, .int i8, .int i9, .ref p10, .int i11, .ref p12, .ref p13, .ref p14, .int i15, .ref p16, .ref p17, .int i18, .ref p19, .ref p20, .ref p21, .ref p22, .int i23, .int i24, .ref p25, .ref p26, .ref p27, .ref p28, .ref p29, .ref p30, .ref p31, .ref p32])), (p0, .inl (cI, 1439, .inl w)), (p14, .inl (cI, 460, .inl fn))] := hD
  have hP : va_P D vwCl [(m0, .inr (11, [.ref p0, .ref p1, .int i2, .ref p3, .int i4, .ref p5, .int i6, .int i7, .int i8, .int i9, .ref p10, .int i11, .ref p12, .ref p13, .ref p14, .int i15, .ref p16, .ref p17, .int i18, .ref p19, .ref p20, .ref p21, .ref p22, .int i23, .int i24, .ref p25, .ref p26, .ref p27, .ref p28, .ref p29, .ref p30, .ref p31, .ref p32])), (p0, .inl (cI, 1439, .inl w)), (p14, .inl (cI, 460, .inl fn))] s.heap := hP
  have hl := lv_entry ([.ref m0]) (n := 6) (Nat.le_of_ble_eq_true rfl)
  rw [lg_entry_eq]
  generalize (lg_sl ([.ref m0]) ++ List.replicate (6 - (lg_sl ([.ref m0])).length) Slot.unset).toArray = ls at hl ⊢
  have hl : lv_has ls 6 [(0, .ref m0)] := hl
  have hmod : ∀ y, ftMod y (2 * w (44 + 3) + 1) = ftRemI y (2 * w (44 + 3) + 1) := fun y => if_neg h2a
  refine lv_aload_n hx hb dX11_layNoise_0 rfl (lv_at hl 0 rfl) ?_
  refine lv_iconst (v := 5) hx hb dX11_layNoise_1 (by decide) ?_
  refine ft_csi (r := w (44 + 5)) (va_runV (C := RX11) (As := [.int 5]) (rest := []) ⟨hx, hb, hml, hown, hts⟩ (c_X11_setting l D cI cS m0 p0 p1 p3 p5 p10 p12 p13 p14 p16 p17 p19 p20 p21 p22 p25 p26 p27 p28 p29 p30 p31 p32 i2 i4 i6 i7 i8 i9 i11 i15 i18 i23 i24 w 5 (by first | assumption | omega)) (cwV 1 hts gX11_layNoise_X11_setting rfl rfl rfl (by decide +kernel) ⟨Nat.le_of_ble_eq_true rfl, Nat.le_of_ble_eq_true rfl⟩) (ft_preROV (ci := 11) (q0 := 0) hP hKK [0, 1] rfl rfl rfl) rfl rfl hl.1 rfl (lv_room (Nat.le_of_ble_eq_true rfl)) dX11_layNoise_2 ⟨Nat.le_of_ble_eq_true rfl, Nat.le_of_ble_eq_true rfl⟩) ?_
  refine lv_istore_n (lv' := [(1, .int (w (44 + 5))), (0, .ref m0)]) hx hb dX11_layNoise_5 rfl hl (by decide) rfl (fun ls hl => ?_)
  refine lv_aload_n hx hb dX11_layNoise_6 rfl (lv_at hl 1 rfl) ?_
  refine lv_iconst (v := 3) hx hb dX11_layNoise_7 (by decide) ?_
  refine ft_csi (r := w (44 + 3)) (va_runV (C := RX11) (As := [.int 3]) (rest := []) ⟨hx, hb, hml, hown, hts⟩ (c_X11_setting l D cI cS m0 p0 p1 p3 p5 p10 p12 p13 p14 p16 p17 p19 p20 p21 p22 p25 p26 p27 p28 p29 p30 p31 p32 i2 i4 i6 i7 i8 i9 i11 i15 i18 i23 i24 w 3 (by first | assumption | omega)) (cwV 1 hts gX11_layNoise_X11_setting rfl rfl rfl (by decide +kernel) ⟨Nat.le_of_ble_eq_true rfl, Nat.le_of_ble_eq_true rfl⟩) (ft_preROV (ci := 11) (q0 := 0) hP hKK [0, 1] rfl rfl rfl) rfl rfl hl.1 rfl (lv_room (Nat.le_of_ble_eq_true rfl)) dX11_layNoise_8 ⟨Nat.le_of_ble_eq_true rfl, Nat.le_of_ble_eq_true rfl⟩) ?_
  refine lv_istore_n (lv' := [(2, .int (w (44 + 3))), (1, .int (w (44 + 5))), (0, .ref m0)]) hx hb dX11_layNoise_11 rfl hl (by decide) rfl (fun ls hl => ?_)
  refine lv_iconst (v := 0) hx hb dX11_layNoise_12 (by decide) ?_
  refine lv_istore_n (lv' := [(3, .int 0), (2, .int (w (44 + 3))), (1, .int (w (44 + 5))), (0, .ref m0)]) hx hb dX11_layNoise_13 rfl hl (by decide) rfl (fun ls hl => ?_)
  have lp14 : ∀ (n14 : Nat) (x : Nat) (x14_1 : Int32) (x14_3 : Int32) (g14_p14 : Nat → Int32), ln + 60 - x < n14 → (x ≤ ln + 60) → x14_1 = ftNzs (w (44 + 3)) (w (44 + 5)) pu x → x14_3 = nI x → g14_p14 = ftFill (ftNoise (w (44 + 3)) (w (44 + 5)) pu) fn x → ∀ (H : Heap) (locs : List Loc), va_P D vwCl [(m0, .inr (11, [.ref p0, .ref p1, .int i2, .ref p3, .int i4, .ref p5, .int i6, .int i7, .int i8, .int i9, .ref p10, .int i11, .ref p12, .ref p13, .ref p14, .int i15, .ref p16, .ref p17, .int i18, .ref p19, .ref p20, .ref p21, .ref p22, .int i23, .int i24, .ref p25, .ref p26, .ref p27, .ref p28, .ref p29, .ref p30, .ref p31, .ref p32])), (p0, .inl (cI, 1439, .inl w)), (p14, .inl (cI, 460, .inl g14_p14))] H → va_D A [(m0, .inr (11, [.ref p0, .ref p1, .int i2, .ref p3, .int i4, .ref p5, .int i6, .int i7, .int i8, .int i9, .ref p10, .int i11, .ref p12, .ref p13, .ref p14, .int i15, .ref p16, .ref p17, .int i18, .ref p19, .ref p20, .ref p21, .ref p22, .int i23, .int i24, .ref p25, .ref p26, .ref p27, .ref p28, .ref p29, .ref p30, .ref p31, .ref p32])), (p0, .inl (cI, 1439, .inl w)), (p14, .inl (cI, 460, .inl g14_p14))] → va_S A s.heap H locs → ∀ ls : Array Slot, lv_has ls 6 [(0, .ref m0), (1, .int x14_1), (2, .int (w (44 + 3))), (3, .int x14_3)] → W p l e (headSpec wsX11_layNoise { frames := 1, cells := 0, slots := 0, locals := 21 }).room s m ([.ref m0] : List Value).toArray below meth c H locs 0 0 (MQ below (ftQv D [(m0, .inr (11, [.ref p0, .ref p1, .int i2, .ref p3, .int i4, .ref p5, .int i6, .int i7, .int i8, .int i9, .ref p10, .int i11, .ref p12, .ref p13, .ref p14, .int i15, .ref p16, .ref p17, .int i18, .ref p19, .ref p20, .ref p21, .ref p22, .int i23, .int i24, .ref p25, .ref p26, .ref p27, .ref p28, .ref p29, .ref p30, .ref p31, .ref p32])), (p0, .inl (cI, 1439, .inl w)), (p14, .inl (cI, 460, .inl fn))] [(m0, .inr (11, [.ref p0, .ref p1, .int i2, .ref p3, .int i4, .ref p5, .int i6, .int i7, .int i8, .int i9, .ref p10, .int i11, .ref p12, .ref p13, .ref p14, .int i15, .ref p16, .ref p17, .int i18, .ref p19, .ref p20, .ref p21, .ref p22, .int i23, .int i24, .ref p25, .ref p26, .ref p27, .ref p28, .ref p29, .ref p30, .ref p31, .ref p32])), (p0, .inl (cI, 1439, .inl w)), (p14, .inl (cI, 460, .inl (ftFill (ftNoise (w (44 + 3)) (w (44 + 5)) pu) fn (ln + 60))))] s.heap.size) ([.ref m0] : List Value).toArray s 0 0 A) (F0 m 14 ls []) := by
    intro n14
    induction n14 with
    | zero =>
      intro x x14_1 x14_3 g14_p14 hm14
      exact absurd hm14 (Nat.not_lt_zero _)
    | succ n14 ih14 =>
      intro x x14_1 x14_3 g14_p14 hm14 hx0 ex14_1 ex14_3 eg14_p14 H locs hP hD hS ls hl
      subst ex14_3
      refine lv_iload_n hx hb dX11_layNoise_14 rfl (lv_at hl 3 rfl) ?_
      refine lv_aload_n hx hb dX11_layNoise_15 rfl (lv_at hl 0 rfl) ?_
      refine ft_csi (r := nI (ln + 60)) (va_runV (C := RX11) (As := []) (rest := [.int (nI x)]) ⟨hx, hb, hml, hown, hts⟩ (c_X11_samples l D cI cS m0 p0 p1 p3 p5 p10 p12 p13 p14 p16 p17 p19 p20 p21 p22 p25 p26 p27 p28 p29 p30 p31 p32 i2 i4 i6 i7 i8 i9 i11 i15 i18 i23 i24 w ln hw0) (cwV 0 hts gX11_layNoise_X11_samples rfl rfl rfl (by decide +kernel) ⟨Nat.le_of_ble_eq_true rfl, Nat.le_of_ble_eq_true rfl⟩) (ft_preROV (ci := 11) (q0 := 0) hP hKK [0, 1] rfl rfl rfl) rfl rfl hl.1 rfl (lv_room (Nat.le_of_ble_eq_true rfl)) dX11_layNoise_16 ⟨Nat.le_of_ble_eq_true rfl, Nat.le_of_ble_eq_true rfl⟩) ?_
      refine lv_icmp_ge (tgt := 93) hx hb dX11_layNoise_19 (by decide) (fun c19 => ?_) (fun c19 => ?_)
      · have c19n : (ln + 60) ≤ x := ft_leN (by omega) (by omega) c19
        have hw9 : ([(m0, .inr (11, [.ref p0, .ref p1, .int i2, .ref p3, .int i4, .ref p5, .int i6, .int i7, .int i8, .int i9, .ref p10, .int i11, .ref p12, .ref p13, .ref p14, .int i15, .ref p16, .ref p17, .int i18, .ref p19, .ref p20, .ref p21, .ref p22, .int i23, .int i24, .ref p25, .ref p26, .ref p27, .ref p28, .ref p29, .ref p30, .ref p31, .ref p32])), (p0, .inl (cI, 1439, .inl w)), (p14, .inl (cI, 460, .inl g14_p14))] : va_W) = [(m0, .inr (11, [.ref p0, .ref p1, .int i2, .ref p3, .int i4, .ref p5, .int i6, .int i7, .int i8, .int i9, .ref p10, .int i11, .ref p12, .ref p13, .ref p14, .int i15, .ref p16, .ref p17, .int i18, .ref p19, .ref p20, .ref p21, .ref p22, .int i23, .int i24, .ref p25, .ref p26, .ref p27, .ref p28, .ref p29, .ref p30, .ref p31, .ref p32])), (p0, .inl (cI, 1439, .inl w)), (p14, .inl (cI, 460, .inl (ftFill (ftNoise (w (44 + 3)) (w (44 + 5)) pu) fn (ln + 60))))] := by (have hx9 : x = ln + 60 := by omega); rw [eg14_p14, hx9]
        rw [hw9] at hP hD
        exact W.vret hx hb hr (fun t ht hW => ⟨⟨(), rfl, trivial, by rw [ht]; exact hP, by rw [hAe]; exact hD⟩, by rw [hAe]; exact hS.F ht⟩) hS.2.2 dX11_layNoise_93
      · have c19n : x < (ln + 60) := ft_nleN (by omega) (by omega) c19
        refine lv_iconst (v := 0) hx hb dX11_layNoise_22 (by decide) ?_
        refine lv_istore (lv' := [(4, .int 0), (0, .ref m0), (1, .int x14_1), (2, .int (w (44 + 3))), (3, .int (nI x))]) hx hb dX11_layNoise_23 hl (by decide) rfl (fun ls hl => ?_)
        refine lv_iconst (v := 0) hx hb dX11_layNoise_25 (by decide) ?_
        refine lv_istore (lv' := [(5, .int 0), (4, .int 0), (0, .ref m0), (1, .int x14_1), (2, .int (w (44 + 3))), (3, .int (nI x))]) hx hb dX11_layNoise_26 hl (by decide) rfl (fun ls hl => ?_)
        have lp28 : ∀ (n28 : Nat) (k : Nat) (x28_1 : Int32) (x28_4 : Int32) (x28_5 : Int32), pu - k < n28 → (k ≤ pu) → (k = 0 ∨ 0 < w (44 + 3)) → x28_1 = (ftDraw (w (44 + 3)) (ftNzs (w (44 + 3)) (w (44 + 5)) pu x) k).1 → x28_4 = (ftDraw (w (44 + 3)) (ftNzs (w (44 + 3)) (w (44 + 5)) pu x) k).2 → x28_5 = nI k → ∀ (H : Heap) (locs : List Loc), va_P D vwCl [(m0, .inr (11, [.ref p0, .ref p1, .int i2, .ref p3, .int i4, .ref p5, .int i6, .int i7, .int i8, .int i9, .ref p10, .int i11, .ref p12, .ref p13, .ref p14, .int i15, .ref p16, .ref p17, .int i18, .ref p19, .ref p20, .ref p21, .ref p22, .int i23, .int i24, .ref p25, .ref p26, .ref p27, .ref p28, .ref p29, .ref p30, .ref p31, .ref p32])), (p0, .inl (cI, 1439, .inl w)), (p14, .inl (cI, 460, .inl g14_p14))] H → va_D A [(m0, .inr (11, [.ref p0, .ref p1, .int i2, .ref p3, .int i4, .ref p5, .int i6, .int i7, .int i8, .int i9, .ref p10, .int i11, .ref p12, .ref p13, .ref p14, .int i15, .ref p16, .ref p17, .int i18, .ref p19, .ref p20, .ref p21, .ref p22, .int i23, .int i24, .ref p25, .ref p26, .ref p27, .ref p28, .ref p29, .ref p30, .ref p31, .ref p32])), (p0, .inl (cI, 1439, .inl w)), (p14, .inl (cI, 460, .inl g14_p14))] → va_S A s.heap H locs → ∀ ls : Array Slot, lv_has ls 6 [(0, .ref m0), (1, .int x28_1), (2, .int (w (44 + 3))), (3, .int (nI x)), (4, .int x28_4), (5, .int x28_5)] → W p l e (headSpec wsX11_layNoise { frames := 1, cells := 0, slots := 0, locals := 21 }).room s m ([.ref m0] : List Value).toArray below meth c H locs 0 0 (MQ below (ftQv D [(m0, .inr (11, [.ref p0, .ref p1, .int i2, .ref p3, .int i4, .ref p5, .int i6, .int i7, .int i8, .int i9, .ref p10, .int i11, .ref p12, .ref p13, .ref p14, .int i15, .ref p16, .ref p17, .int i18, .ref p19, .ref p20, .ref p21, .ref p22, .int i23, .int i24, .ref p25, .ref p26, .ref p27, .ref p28, .ref p29, .ref p30, .ref p31, .ref p32])), (p0, .inl (cI, 1439, .inl w)), (p14, .inl (cI, 460, .inl fn))] [(m0, .inr (11, [.ref p0, .ref p1, .int i2, .ref p3, .int i4, .ref p5, .int i6, .int i7, .int i8, .int i9, .ref p10, .int i11, .ref p12, .ref p13, .ref p14, .int i15, .ref p16, .ref p17, .int i18, .ref p19, .ref p20, .ref p21, .ref p22, .int i23, .int i24, .ref p25, .ref p26, .ref p27, .ref p28, .ref p29, .ref p30, .ref p31, .ref p32])), (p0, .inl (cI, 1439, .inl w)), (p14, .inl (cI, 460, .inl (ftFill (ftNoise (w (44 + 3)) (w (44 + 5)) pu) fn (ln + 60))))] s.heap.size) ([.ref m0] : List Value).toArray s 0 0 A) (F0 m 28 ls []) := by
          intro n28
          induction n28 with
          | zero =>
            intro k x28_1 x28_4 x28_5  hm28
            exact absurd hm28 (Nat.not_lt_zero _)
          | succ n28 ih28 =>
            intro k x28_1 x28_4 x28_5  hm28 hk hka ex28_1 ex28_4 ex28_5  H locs hP hD hS ls hl
            subst ex28_5
            refine lv_iload hx hb dX11_layNoise_28 (lv_at hl 5 rfl) ?_
            refine lv_aload_n hx hb dX11_layNoise_30 rfl (lv_at hl 0 rfl) ?_
            refine lv_iconst (v := 4) hx hb dX11_layNoise_31 (by decide) ?_
            refine ft_csi (r := w (44 + 4)) (va_runV (C := RX11) (As := [.int 4]) (rest := [.int (nI k)]) ⟨hx, hb, hml, hown, hts⟩ (c_X11_setting l D cI cS m0 p0 p1 p3 p5 p10 p12 p13 p14 p16 p17 p19 p20 p21 p22 p25 p26 p27 p28 p29 p30 p31 p32 i2 i4 i6 i7 i8 i9 i11 i15 i18 i23 i24 w 4 (by first | assumption | omega)) (cwV 1 hts gX11_layNoise_X11_setting rfl rfl rfl (by decide +kernel) ⟨Nat.le_of_ble_eq_true rfl, Nat.le_of_ble_eq_true rfl⟩) (ft_preROV (ci := 11) (q0 := 0) hP hKK [0, 1] rfl rfl rfl) rfl rfl hl.1 rfl (lv_room (Nat.le_of_ble_eq_true rfl)) dX11_layNoise_32 ⟨Nat.le_of_ble_eq_true rfl, Nat.le_of_ble_eq_true rfl⟩) ?_
            refine ft_top (y := nI pu) hpu ?_
            refine lv_icmp_ge (tgt := 73) hx hb dX11_layNoise_35 (by decide) (fun c35 => ?_) (fun c35 => ?_)
            · have c35n : pu ≤ k := ft_leN (by omega) (by omega) c35
              have hkp : k = pu := by omega
              have hAn : ¬ w (44 + 3) = 0 := ft_ne0_of_pos (hka.resolve_left (by omega))
              have hzz : x28_1 = ftNz (w (44 + 3)) (ftNzs (w (44 + 3)) (w (44 + 5)) pu x) pu := by rw [ex28_1, hkp, ftNz_p hAn]
              have hss : x28_4 / nI pu = ftNx (w (44 + 3)) (ftNzs (w (44 + 3)) (w (44 + 5)) pu x) pu := by rw [ex28_4, hkp, ftNx_p hAn hpu0 hpu2]
              refine lv_aload_n hx hb dX11_layNoise_73 rfl (lv_at hl 0 rfl) ?_
              refine va_get (D := D) (ci := 11) (v := .ref p14) (C := RX11) (T := TX11) (N := 33) hx hb hts (by decide +kernel) hown hK hP 0 rfl rfl 14 (by decide) (hts (.fieldLink RX11 31 "FiberTraceModel" "noise" "[I") (by decide +kernel)) (fun _ h9 => h9) rfl dX11_layNoise_74 ?_
              refine lv_iload_n hx hb dX11_layNoise_77 rfl (lv_at hl 3 rfl) ?_
              refine lv_iload hx hb dX11_layNoise_78 (lv_at hl 4 rfl) ?_
              refine lv_aload_n hx hb dX11_layNoise_80 rfl (lv_at hl 0 rfl) ?_
              refine lv_iconst (v := 4) hx hb dX11_layNoise_81 (by decide) ?_
              refine ft_csi (r := w (44 + 4)) (va_runV (C := RX11) (As := [.int 4]) (rest := [.int x28_4, .int (nI x), .ref p14]) ⟨hx, hb, hml, hown, hts⟩ (c_X11_setting l D cI cS m0 p0 p1 p3 p5 p10 p12 p13 p14 p16 p17 p19 p20 p21 p22 p25 p26 p27 p28 p29 p30 p31 p32 i2 i4 i6 i7 i8 i9 i11 i15 i18 i23 i24 w 4 (by first | assumption | omega)) (cwV 1 hts gX11_layNoise_X11_setting rfl rfl rfl (by decide +kernel) ⟨Nat.le_of_ble_eq_true rfl, Nat.le_of_ble_eq_true rfl⟩) (ft_preROV (ci := 11) (q0 := 0) hP hKK [0, 1] rfl rfl rfl) rfl rfl hl.1 rfl (lv_room (Nat.le_of_ble_eq_true rfl)) dX11_layNoise_82 ⟨Nat.le_of_ble_eq_true rfl, Nat.le_of_ble_eq_true rfl⟩) ?_
              refine ft_top (y := nI pu) hpu ?_
              refine lv_idiv hx hb dX11_layNoise_85 (nI_ne0 hpu0 hpu2) ?_
              refine va_iast hx hb hK hP hD hS 2 0 rfl rfl (vp_in_nI (by omega) (by omega)) dX11_layNoise_86 (fun H locs hP hD hS => ?_)
              rw [nI_clamp (show x < 2 ^ 31 by omega)] at hP hD
              have hP : va_P D vwCl [(m0, .inr (11, [.ref p0, .ref p1, .int i2, .ref p3, .int i4, .ref p5, .int i6, .int i7, .int i8, .int i9, .ref p10, .int i11, .ref p12, .ref p13, .ref p14, .int i15, .ref p16, .ref p17, .int i18, .ref p19, .ref p20, .ref p21, .ref p22, .int i23, .int i24, .ref p25, .ref p26, .ref p27, .ref p28, .ref p29, .ref p30, .ref p31, .ref p32])), (p0, .inl (cI, 1439, .inl w)), (p14, .inl (cI, 460, .inl (upd g14_p14 x (x28_4 / (nI pu)))))] H := hP
              have hD : va_D A [(m0, .inr (11, [.ref p0, .ref p1, .int i2, .ref p3, .int i4, .ref p5, .int i6, .int i7, .int i8, .int i9, .ref p10, .int i11, .ref p12, .ref p13, .ref p14, .int i15, .ref p16, .ref p17, .int i18, .ref p19, .ref p20, .ref p21, .ref p22, .int i23, .int i24, .ref p25, .ref p26, .ref p27, .ref p28, .ref p29, .ref p30, .ref p31, .ref p32])), (p0, .inl (cI, 1439, .inl w)), (p14, .inl (cI, 460, .inl (upd g14_p14 x (x28_4 / (nI pu)))))] := hD
              refine lv_iinc (v := nI (x + 1)) (lv' := [(3, .int (nI (x + 1))), (0, .ref m0), (1, .int x28_1), (2, .int (w (44 + 3))), (4, .int x28_4), (5, .int (nI k))]) hx hb dX11_layNoise_87 hl (k := 3) rfl (ft_inc x) (by decide) rfl (fun ls hl => ?_)
              refine lv_goto (tgt := 14) hx hb dX11_layNoise_90 (by decide) ?_
              exact ih14 (x + 1) x28_1 (nI (x + 1)) (upd g14_p14 x (x28_4 / (nI pu))) (by omega) (by omega) (by rw [hzz]; rfl) (by first | rfl | assumption) (by rw [eg14_p14]; refine ftFill_s ?_; exact hss) _ _ hP hD hS ls (lv_sub hl [1, 2, 3, 0] rfl)
            · have c35n : k < pu := ft_nleN (by omega) (by omega) c35
              refine lv_iload_n hx hb dX11_layNoise_38 rfl (lv_at hl 2 rfl) ?_
              refine lv_if_le (tgt := 73) hx hb dX11_layNoise_39 (by decide) (fun c39 => ?_) (fun c39 => ?_)
              · have hA9 : w (44 + 3) = 0 := Int32.le_antisymm c39 hA0
                have hk0 : k = 0 := hka.resolve_right (by rw [hA9]; decide)
                have hzz : x28_1 = ftNz (w (44 + 3)) (ftNzs (w (44 + 3)) (w (44 + 5)) pu x) pu := by rw [ex28_1, hk0, ftNz_0 hA9]; rfl
                have hss : x28_4 / nI pu = ftNx (w (44 + 3)) (ftNzs (w (44 + 3)) (w (44 + 5)) pu x) pu := by rw [ex28_4, hk0, ftNx_0 hA9]; exact ft_div0 _
                refine lv_aload_n hx hb dX11_layNoise_73 rfl (lv_at hl 0 rfl) ?_
                refine va_get (D := D) (ci := 11) (v := .ref p14) (C := RX11) (T := TX11) (N := 33) hx hb hts (by decide +kernel) hown hK hP 0 rfl rfl 14 (by decide) (hts (.fieldLink RX11 31 "FiberTraceModel" "noise" "[I") (by decide +kernel)) (fun _ h9 => h9) rfl dX11_layNoise_74 ?_
                refine lv_iload_n hx hb dX11_layNoise_77 rfl (lv_at hl 3 rfl) ?_
                refine lv_iload hx hb dX11_layNoise_78 (lv_at hl 4 rfl) ?_
                refine lv_aload_n hx hb dX11_layNoise_80 rfl (lv_at hl 0 rfl) ?_
                refine lv_iconst (v := 4) hx hb dX11_layNoise_81 (by decide) ?_
                refine ft_csi (r := w (44 + 4)) (va_runV (C := RX11) (As := [.int 4]) (rest := [.int x28_4, .int (nI x), .ref p14]) ⟨hx, hb, hml, hown, hts⟩ (c_X11_setting l D cI cS m0 p0 p1 p3 p5 p10 p12 p13 p14 p16 p17 p19 p20 p21 p22 p25 p26 p27 p28 p29 p30 p31 p32 i2 i4 i6 i7 i8 i9 i11 i15 i18 i23 i24 w 4 (by first | assumption | omega)) (cwV 1 hts gX11_layNoise_X11_setting rfl rfl rfl (by decide +kernel) ⟨Nat.le_of_ble_eq_true rfl, Nat.le_of_ble_eq_true rfl⟩) (ft_preROV (ci := 11) (q0 := 0) hP hKK [0, 1] rfl rfl rfl) rfl rfl hl.1 rfl (lv_room (Nat.le_of_ble_eq_true rfl)) dX11_layNoise_82 ⟨Nat.le_of_ble_eq_true rfl, Nat.le_of_ble_eq_true rfl⟩) ?_
                refine ft_top (y := nI pu) hpu ?_
                refine lv_idiv hx hb dX11_layNoise_85 (nI_ne0 hpu0 hpu2) ?_
                refine va_iast hx hb hK hP hD hS 2 0 rfl rfl (vp_in_nI (by omega) (by omega)) dX11_layNoise_86 (fun H locs hP hD hS => ?_)
                rw [nI_clamp (show x < 2 ^ 31 by omega)] at hP hD
                have hP : va_P D vwCl [(m0, .inr (11, [.ref p0, .ref p1, .int i2, .ref p3, .int i4, .ref p5, .int i6, .int i7, .int i8, .int i9, .ref p10, .int i11, .ref p12, .ref p13, .ref p14, .int i15, .ref p16, .ref p17, .int i18, .ref p19, .ref p20, .ref p21, .ref p22, .int i23, .int i24, .ref p25, .ref p26, .ref p27, .ref p28, .ref p29, .ref p30, .ref p31, .ref p32])), (p0, .inl (cI, 1439, .inl w)), (p14, .inl (cI, 460, .inl (upd g14_p14 x (x28_4 / (nI pu)))))] H := hP
                have hD : va_D A [(m0, .inr (11, [.ref p0, .ref p1, .int i2, .ref p3, .int i4, .ref p5, .int i6, .int i7, .int i8, .int i9, .ref p10, .int i11, .ref p12, .ref p13, .ref p14, .int i15, .ref p16, .ref p17, .int i18, .ref p19, .ref p20, .ref p21, .ref p22, .int i23, .int i24, .ref p25, .ref p26, .ref p27, .ref p28, .ref p29, .ref p30, .ref p31, .ref p32])), (p0, .inl (cI, 1439, .inl w)), (p14, .inl (cI, 460, .inl (upd g14_p14 x (x28_4 / (nI pu)))))] := hD
                refine lv_iinc (v := nI (x + 1)) (lv' := [(3, .int (nI (x + 1))), (0, .ref m0), (1, .int x28_1), (2, .int (w (44 + 3))), (4, .int x28_4), (5, .int (nI k))]) hx hb dX11_layNoise_87 hl (k := 3) rfl (ft_inc x) (by decide) rfl (fun ls hl => ?_)
                refine lv_goto (tgt := 14) hx hb dX11_layNoise_90 (by decide) ?_
                exact ih14 (x + 1) x28_1 (nI (x + 1)) (upd g14_p14 x (x28_4 / (nI pu))) (by omega) (by omega) (by rw [hzz]; rfl) (by first | rfl | assumption) (by rw [eg14_p14]; refine ftFill_s ?_; exact hss) _ _ hP hD hS ls (lv_sub hl [1, 2, 3, 0] rfl)
              · refine lv_iload_n hx hb dX11_layNoise_42 rfl (lv_at hl 1 rfl) ?_
                refine lv_bipush (v := 75) hx hb dX11_layNoise_43 (by decide) ?_
                refine lv_imul hx hb dX11_layNoise_45 ?_
                refine lv_bipush (v := 74) hx hb dX11_layNoise_46 (by decide) ?_
                refine lv_iadd hx hb dX11_layNoise_48 ?_
                refine lv_ldc (v := 65537) hx hb hown (hts (.constant RX11 215 65537) (by decide +kernel)) dX11_layNoise_49 ?_
                refine lv_irem hx hb dX11_layNoise_51 (by decide) ?_
                refine ft_top (y := ftRemI ((x28_1 * 75) + 74) 65537) rfl ?_
                refine lv_istore_n (lv' := [(1, .int (ftRemI ((x28_1 * 75) + 74) 65537)), (0, .ref m0), (2, .int (w (44 + 3))), (3, .int (nI x)), (4, .int x28_4), (5, .int (nI k))]) hx hb dX11_layNoise_52 rfl hl (by decide) rfl (fun ls hl => ?_)
                refine lv_iload hx hb dX11_layNoise_53 (lv_at hl 4 rfl) ?_
                refine lv_iload_n hx hb dX11_layNoise_55 rfl (lv_at hl 0 rfl) ?_
                refine lv_iconst (v := 2) hx hb dX11_layNoise_56 (by decide) ?_
                refine lv_iload_n hx hb dX11_layNoise_57 rfl (lv_at hl 2 rfl) ?_
                refine lv_imul hx hb dX11_layNoise_58 ?_
                refine lv_iconst (v := 1) hx hb dX11_layNoise_59 (by decide) ?_
                refine lv_iadd hx hb dX11_layNoise_60 ?_
                refine lv_irem hx hb dX11_layNoise_61 h2a ?_
                refine ft_top (y := ftRemI (ftRemI ((x28_1 * 75) + 74) 65537) ((2 * (w (44 + 3))) + 1)) rfl ?_
                refine lv_iload_n hx hb dX11_layNoise_62 rfl (lv_at hl 2 rfl) ?_
                refine lv_isub hx hb dX11_layNoise_63 ?_
                refine lv_iadd hx hb dX11_layNoise_64 ?_
                refine lv_istore (lv' := [(4, .int (x28_4 + ((ftRemI (ftRemI ((x28_1 * 75) + 74) 65537) ((2 * (w (44 + 3))) + 1)) - (w (44 + 3))))), (1, .int (ftRemI ((x28_1 * 75) + 74) 65537)), (0, .ref m0), (2, .int (w (44 + 3))), (3, .int (nI x)), (5, .int (nI k))]) hx hb dX11_layNoise_65 hl (by decide) rfl (fun ls hl => ?_)
                refine lv_iinc (v := nI (k + 1)) (lv' := [(5, .int (nI (k + 1))), (4, .int (x28_4 + ((ftRemI (ftRemI ((x28_1 * 75) + 74) 65537) ((2 * (w (44 + 3))) + 1)) - (w (44 + 3))))), (1, .int (ftRemI ((x28_1 * 75) + 74) 65537)), (0, .ref m0), (2, .int (w (44 + 3))), (3, .int (nI x))]) hx hb dX11_layNoise_67 hl (k := 5) rfl (ft_inc k) (by decide) rfl (fun ls hl => ?_)
                refine lv_goto (tgt := 28) hx hb dX11_layNoise_70 (by decide) ?_
                exact ih28 (k + 1) (ftRemI ((x28_1 * 75) + 74) 65537) (x28_4 + ((ftRemI (ftRemI ((x28_1 * 75) + 74) 65537) ((2 * (w (44 + 3))) + 1)) - (w (44 + 3)))) (nI (k + 1))  (by omega) (by omega) (by exact Or.inr (Int32.not_le.mp c39)) (by rw [ex28_1]; rfl) (by rw [ex28_4, ex28_1, ← hmod]; rfl) (by first | rfl | assumption)  _ _ hP hD hS ls (lv_sub hl [3, 2, 4, 5, 1, 0] rfl)
        exact lp28 _ 0 x14_1 0 0  (Nat.lt_succ_self _) (by omega) (by exact Or.inl rfl) (by exact ex14_1) (by rfl) (by rfl) _ _ hP hD hS ls (lv_sub hl [2, 3, 4, 5, 1, 0] rfl)
  exact lp14 _ 0 (w (44 + 5)) 0 fn (Nat.lt_succ_self _) (by omega) (by rfl) (by rfl) (by exact ftFill_0 _ fn) _ _ hP hD hS ls (lv_sub hl [3, 2, 1, 0] rfl)
