/-! the reference: reading -/
def ftV (fb fp fn : Nat → Int32) : Nat → Int32 := fun t => fb t + fp t + fn t
def ftRoM (eb ek : Nat → Int32) : Nat → Nat → Int32 := fun c => if c = 4 then ek else eb
def ftMk1 (o : Option (Nat × Nat)) (f : Nat → Int32) (e : Nat) : Nat → Int32 := match o with
  | none => f
  | some (i, _) => upd f e (nI i)
def ftMk2 (o : Option (Nat × Nat)) (f : Nat → Int32) (e : Nat) : Nat → Int32 := match o with
  | none => f
  | some (_, j) => upd f e (nI j)
theorem ftMkM {eb ek : Nat → Int32} {tl : Int32} {i j e : Nat} (h1 : ek i = 1) (h2 : ek j = 1) (h3 : ftSz (2 * eb j - eb i - eb e) ≤ tl) : ftMk (ftRoM eb ek) tl i j e := ⟨h1, h2, by rw [ftSz_abs] at h3; exact h3⟩
theorem ftMkM_1 {eb ek : Nat → Int32} {tl : Int32} {i j e : Nat} (h1 : ¬ ek i = 1) : ¬ ftMk (ftRoM eb ek) tl i j e := fun q => h1 q.1
theorem ftMkM_2 {eb ek : Nat → Int32} {tl : Int32} {i j e : Nat} (h1 : ¬ ek j = 1) : ¬ ftMk (ftRoM eb ek) tl i j e := fun q => h1 q.2.1
theorem ftMkM_3 {eb ek : Nat → Int32} {tl : Int32} {i j e : Nat} (h1 : tl < ftSz (2 * eb j - eb i - eb e)) : ¬ ftMk (ftRoM eb ek) tl i j e := fun q => absurd q.2.2 (by rw [ftSz_abs] at h1; exact Int32.not_le.mpr h1)
set_option maxHeartbeats 4000000 in
set_option maxRecDepth 100000 in
theorem c_X11_endOf (l : Launch) (D : va_G) (cI cS : ClassId) (m0 p0 p1 p3 p5 p10 p12 p13 p14 p16 p17 p19 p20 p21 p22 p25 p26 p27 p28 p29 p30 p31 p32 : Nat) (i2 i4 i6 i7 i8 i9 i11 i15 i18 i23 i24 : Int32) (w fb fp fn : Nat → Int32) (ln wd x : Nat) (rb : Int32) (hw0 : w 0 = nI ln) (hln : ln ≤ 400) (hs0 : w (44 + 0) = nI wd) (hwd : wd ≤ 20) (hwd1 : 1 ≤ wd) (hx4 : x ≤ 500) : Met l yX11_endOf wsX11_endOf ({ frames := 1, cells := 0, slots := 0, locals := 21 }) (ftRO D cI cS [.ref m0, .int (nI x), .int rb] [(m0, .inr (11, [.ref p0, .ref p1, .int i2, .ref p3, .int i4, .ref p5, .int i6, .int i7, .int i8, .int i9, .ref p10, .int i11, .ref p12, .ref p13, .ref p14, .int i15, .ref p16, .ref p17, .int i18, .ref p19, .ref p20, .ref p21, .ref p22, .int i23, .int i24, .ref p25, .ref p26, .ref p27, .ref p28, .ref p29, .ref p30, .ref p31, .ref p32])), (p0, .inl (cI, 1439, .inl w)), (p12, .inl (cI, 460, .inl fb)), (p13, .inl (cI, 460, .inl fp)), (p14, .inl (cI, 460, .inl fn))]) (vp_Si (fun o9 => o9 = nI (ftEnd (ftV fb fp fn) (w (44 + 7)) (ln + 60 - 1) (if rb = 0 then x else x + wd - 1)))) 0 0 (fun _ => False) := by
  refine Met.ofW (cc := cX11_endOf) (maxL := 5) (ret := (some .int)) (by decide) rfl ?_
  intro p e s m args below meth c s₁ B hml hv
  obtain ⟨rfl, hP, hKK⟩ := hv
  have hK := hKK.1
  have hx := B.exec
  have hb := B.bytes
  have hr := B.returns
  have hts := atoms_spec (ws := wsX11_endOf) B.pre
  have hown : s.vm.findClass RX11 = some m.cls := findClass_of_methodNamed B.named
  have hlocks := B.notSynchronized
  have hP : va_P D vwCl [(m0, .inr (11, [.ref p0, .ref p1, .int i2, .ref p3, .int i4, .ref p5, .int i6, .int i7, .int i8, .int i9, .ref p10, .int i11, .ref p12, .ref p13, .ref p14, .int i15, .ref p16, .ref p17, .int i18, .ref p19, .ref p20, .ref p21, .ref p22, .int i23, .int i24, .ref p25, .ref p26, .ref p27, .ref p28, .ref p29, .ref p30, .ref p31, .ref p32])), (p0, .inl (cI, 1439, .inl w)), (p12, .inl (cI, 460, .inl fb)), (p13, .inl (cI, 460, .inl fp)), (p14, .inl (cI, 460, .inl fn))] s.heap := hP
  have hl := lv_entry ([.ref m0, .int (nI x), .int rb]) (n := 5) (Nat.le_of_ble_eq_true rfl)
  rw [lg_entry_eq]
  generalize (lg_sl ([.ref m0, .int (nI x), .int rb]) ++ List.replicate (5 - (lg_sl ([.ref m0, .int (nI x), .int rb])).length) Slot.unset).toArray = ls at hl ⊢
  have hl : lv_has ls 5 [(0, .ref m0), (1, .int (nI x)), (2, .int rb)] := hl
  refine lv_aload_n hx hb dX11_endOf_0 rfl (lv_at hl 0 rfl) ?_
  refine ft_csi (r := nI (ln + 60)) (va_runV (C := RX11) (As := []) (rest := []) ⟨hx, hb, hml, hown, hts⟩ (c_X11_samples l D cI cS m0 p0 p1 p3 p5 p10 p12 p13 p14 p16 p17 p19 p20 p21 p22 p25 p26 p27 p28 p29 p30 p31 p32 i2 i4 i6 i7 i8 i9 i11 i15 i18 i23 i24 w ln hw0) (cwV 0 hts gX11_endOf_X11_samples rfl rfl rfl (by decide +kernel) ⟨Nat.le_of_ble_eq_true rfl, Nat.le_of_ble_eq_true rfl⟩) (ft_preROV (ci := 11) (q0 := 0) hP hKK [0, 1] rfl rfl rfl) rfl rfl hl.1 rfl (lv_room (Nat.le_of_ble_eq_true rfl)) dX11_endOf_1 ⟨Nat.le_of_ble_eq_true rfl, Nat.le_of_ble_eq_true rfl⟩) ?_
  refine lv_iconst (v := 1) hx hb dX11_endOf_4 (by decide) ?_
  refine lv_isub hx hb dX11_endOf_5 ?_
  refine ft_top (y := nI ((ln + 60) - 1)) (ft_subN (a := ln + 60) (b := 1) (by omega)) ?_
  refine lv_istore_n (lv' := [(3, .int (nI ((ln + 60) - 1))), (0, .ref m0), (1, .int (nI x)), (2, .int rb)]) hx hb dX11_endOf_6 rfl hl (by decide) rfl (fun ls hl => ?_)
  refine lv_iload_n hx hb dX11_endOf_7 rfl (lv_at hl 3 rfl) ?_
  refine lv_if_eq (tgt := 23) hx hb dX11_endOf_8 (by decide) (fun c8 => ?_) (fun c8 => ?_)
  · refine lv_iload_n hx hb dX11_endOf_23 rfl (lv_at hl 2 rfl) ?_
    refine lv_istore (lv' := [(4, .int (nI x)), (3, .int (nI ((ln + 60) - 1))), (0, .ref m0), (1, .int (nI x)), (2, .int rb)]) hx hb dX11_endOf_24 hl (by decide) rfl (fun ls hl => ?_)
    have lp26 : ∀ (n26 : Nat) (y : Nat) (x26_4 : Int32), 1001 - y < n26 → (y ≤ 1000) → (ftEnd (ftV fb fp fn) (w (44 + 7)) (ln + 60 - 1) (if rb = 0 then x else x + wd - 1) = ftEnd (ftV fb fp fn) (w (44 + 7)) (ln + 60 - 1) y) → x26_4 = nI y → ∀ ls : Array Slot, lv_has ls 5 [(0, .ref m0), (1, .int (nI x)), (2, .int rb), (3, .int (nI ((ln + 60) - 1))), (4, .int x26_4)] → W p l e (headSpec wsX11_endOf { frames := 1, cells := 0, slots := 0, locals := 21 }).room s m ([.ref m0, .int (nI x), .int rb] : List Value).toArray below meth c s.heap [] 0 0 (MQ below (vp_Si (fun o9 => o9 = nI (ftEnd (ftV fb fp fn) (w (44 + 7)) (ln + 60 - 1) (if rb = 0 then x else x + wd - 1)))) ([.ref m0, .int (nI x), .int rb] : List Value).toArray s 0 0 (fun _ => False)) (F0 m 26 ls []) := by
      intro n26
      induction n26 with
      | zero =>
        intro y x26_4  hm26
        exact absurd hm26 (Nat.not_lt_zero _)
      | succ n26 ih26 =>
        intro y x26_4  hm26 hy4 hres ex26_4  ls hl
        subst ex26_4
        refine lv_iload hx hb dX11_endOf_26 (lv_at hl 4 rfl) ?_
        refine lv_iload_n hx hb dX11_endOf_28 rfl (lv_at hl 3 rfl) ?_
        refine lv_icmp_ge (tgt := 68) hx hb dX11_endOf_29 (by decide) (fun c29 => ?_) (fun c29 => ?_)
        · have c29n : ((ln + 60) - 1) ≤ y := ft_leN (by omega) (by omega) c29
          refine lv_iload_n hx hb dX11_endOf_68 rfl (lv_at hl 3 rfl) ?_
          exact W.iret (v := nI ((ln + 60) - 1)) hx hb hr (fun t ht hW => ⟨nI ((ln + 60) - 1), rfl, (by show (nI ((ln + 60) - 1) : Int32) = nI (ftEnd (ftV fb fp fn) (w (44 + 7)) (ln + 60 - 1) (if rb = 0 then x else x + wd - 1)); rw [hres, ftEnd_last (by omega)]), ht⟩) (fun _ h9 => absurd h9 List.not_mem_nil) dX11_endOf_69
        · have c29n : y < ((ln + 60) - 1) := ft_nleN (by omega) (by omega) c29
          refine lv_aload_n hx hb dX11_endOf_32 rfl (lv_at hl 0 rfl) ?_
          refine lv_iload hx hb dX11_endOf_33 (lv_at hl 4 rfl) ?_
          refine lv_iconst (v := 1) hx hb dX11_endOf_35 (by decide) ?_
          refine lv_iadd hx hb dX11_endOf_36 ?_
          refine ft_top (y := nI (y + 1)) (ft_addN y 1) ?_
          refine ft_csi (r := fb (y + 1) + fp (y + 1) + fn (y + 1)) (va_runV (C := RX11) (As := [.int (nI (y + 1))]) (rest := []) ⟨hx, hb, hml, hown, hts⟩ (c_X11_v l D cI cS m0 p0 p1 p3 p5 p10 p12 p13 p14 p16 p17 p19 p20 p21 p22 p25 p26 p27 p28 p29 p30 p31 p32 i2 i4 i6 i7 i8 i9 i11 i15 i18 i23 i24 fb fp fn (y + 1) (by first | assumption | omega)) (cwV 1 hts gX11_endOf_X11_v rfl rfl rfl (by decide +kernel) ⟨Nat.le_of_ble_eq_true rfl, Nat.le_of_ble_eq_true rfl⟩) (ft_preROV (ci := 11) (q0 := 0) hP hKK [0, 2, 3, 4] rfl rfl rfl) rfl rfl hl.1 rfl (lv_room (Nat.le_of_ble_eq_true rfl)) dX11_endOf_37 ⟨Nat.le_of_ble_eq_true rfl, Nat.le_of_ble_eq_true rfl⟩) ?_
          refine lv_aload_n hx hb dX11_endOf_40 rfl (lv_at hl 0 rfl) ?_
          refine lv_iload hx hb dX11_endOf_41 (lv_at hl 4 rfl) ?_
          refine ft_csi (r := fb y + fp y + fn y) (va_runV (C := RX11) (As := [.int (nI y)]) (rest := [.int (fb (y + 1) + fp (y + 1) + fn (y + 1))]) ⟨hx, hb, hml, hown, hts⟩ (c_X11_v l D cI cS m0 p0 p1 p3 p5 p10 p12 p13 p14 p16 p17 p19 p20 p21 p22 p25 p26 p27 p28 p29 p30 p31 p32 i2 i4 i6 i7 i8 i9 i11 i15 i18 i23 i24 fb fp fn y (by first | assumption | omega)) (cwV 1 hts gX11_endOf_X11_v rfl rfl rfl (by decide +kernel) ⟨Nat.le_of_ble_eq_true rfl, Nat.le_of_ble_eq_true rfl⟩) (ft_preROV (ci := 11) (q0 := 0) hP hKK [0, 2, 3, 4] rfl rfl rfl) rfl rfl hl.1 rfl (lv_room (Nat.le_of_ble_eq_true rfl)) dX11_endOf_43 ⟨Nat.le_of_ble_eq_true rfl, Nat.le_of_ble_eq_true rfl⟩) ?_
          refine lv_isub hx hb dX11_endOf_46 ?_
          refine ft_csi (r := ftSz ((fb (y + 1) + fp (y + 1) + fn (y + 1)) - (fb y + fp y + fn y))) (va_runS (As := [.int ((fb (y + 1) + fp (y + 1) + fn (y + 1)) - (fb y + fp y + fn y))]) (rest := []) ⟨hx, hb, hml, hown, hts⟩ (c_X11_sizeOf l D cI cS ((fb (y + 1) + fp (y + 1) + fn (y + 1)) - (fb y + fp y + fn y))) (va_cwS 1 hts gX11_endOf_X11_sizeOf rfl rfl rfl (by decide +kernel) ⟨Nat.le_of_ble_eq_true rfl, Nat.le_of_ble_eq_true rfl⟩) (ft_preRO hP hKK [] rfl) rfl rfl hl.1 rfl (lv_room (Nat.le_of_ble_eq_true rfl)) dX11_endOf_47 ⟨Nat.le_of_ble_eq_true rfl, Nat.le_of_ble_eq_true rfl⟩) ?_
          refine lv_aload_n hx hb dX11_endOf_50 rfl (lv_at hl 0 rfl) ?_
          refine lv_bipush (v := 7) hx hb dX11_endOf_51 (by decide) ?_
          refine ft_csi (r := w (44 + 7)) (va_runV (C := RX11) (As := [.int 7]) (rest := [.int (ftSz ((fb (y + 1) + fp (y + 1) + fn (y + 1)) - (fb y + fp y + fn y)))]) ⟨hx, hb, hml, hown, hts⟩ (c_X11_setting l D cI cS m0 p0 p1 p3 p5 p10 p12 p13 p14 p16 p17 p19 p20 p21 p22 p25 p26 p27 p28 p29 p30 p31 p32 i2 i4 i6 i7 i8 i9 i11 i15 i18 i23 i24 w 7 (by first | assumption | omega)) (cwV 1 hts gX11_endOf_X11_setting rfl rfl rfl (by decide +kernel) ⟨Nat.le_of_ble_eq_true rfl, Nat.le_of_ble_eq_true rfl⟩) (ft_preROV (ci := 11) (q0 := 0) hP hKK [0, 1] rfl rfl rfl) rfl rfl hl.1 rfl (lv_room (Nat.le_of_ble_eq_true rfl)) dX11_endOf_53 ⟨Nat.le_of_ble_eq_true rfl, Nat.le_of_ble_eq_true rfl⟩) ?_
          refine lv_icmp_gt (tgt := 62) hx hb dX11_endOf_56 (by decide) (fun c56 => ?_) (fun c56 => ?_)
          · refine lv_iinc (v := nI (y + 1)) (lv' := [(4, .int (nI (y + 1))), (0, .ref m0), (1, .int (nI x)), (2, .int rb), (3, .int (nI ((ln + 60) - 1)))]) hx hb dX11_endOf_62 hl (k := 4) rfl (ft_inc y) (by decide) rfl (fun ls hl => ?_)
            refine lv_goto (tgt := 26) hx hb dX11_endOf_65 (by decide) ?_
            exact ih26 (y + 1) (nI (y + 1))  (by omega) (by omega) (by rw [hres]; exact ftEnd_go (by omega) (by rw [← ftSz_abs]; exact Int32.not_le.mpr c56)) (by first | rfl | assumption)  ls (lv_sub hl [1, 2, 3, 4, 0] rfl)
          · refine lv_iload hx hb dX11_endOf_59 (lv_at hl 4 rfl) ?_
            exact W.iret (v := nI y) hx hb hr (fun t ht hW => ⟨nI y, rfl, (by show (nI y : Int32) = nI (ftEnd (ftV fb fp fn) (w (44 + 7)) (ln + 60 - 1) (if rb = 0 then x else x + wd - 1)); rw [hres, ftEnd_hit (by omega) (by rw [← ftSz_abs]; exact Int32.not_lt.mp c56)]), ht⟩) (fun _ h9 => absurd h9 List.not_mem_nil) dX11_endOf_61
    exact lp26 _ x (nI x)  (Nat.lt_succ_self _) (by omega) (by first | (rw [if_pos c8]; done) | (rw [if_neg c8]; done)) (by rfl) ls (lv_sub hl [2, 3, 4, 1, 0] rfl)
  · refine lv_iload_n hx hb dX11_endOf_11 rfl (lv_at hl 2 rfl) ?_
    refine lv_aload_n hx hb dX11_endOf_12 rfl (lv_at hl 1 rfl) ?_
    refine lv_iconst (v := 0) hx hb dX11_endOf_13 (by decide) ?_
    refine ft_csi (r := w (44 + 0)) (va_runV (C := RX11) (As := [.int 0]) (rest := [.int (nI x)]) ⟨hx, hb, hml, hown, hts⟩ (c_X11_setting l D cI cS m0 p0 p1 p3 p5 p10 p12 p13 p14 p16 p17 p19 p20 p21 p22 p25 p26 p27 p28 p29 p30 p31 p32 i2 i4 i6 i7 i8 i9 i11 i15 i18 i23 i24 w 0 (by first | assumption | omega)) (cwV 1 hts gX11_endOf_X11_setting rfl rfl rfl (by decide +kernel) ⟨Nat.le_of_ble_eq_true rfl, Nat.le_of_ble_eq_true rfl⟩) (ft_preROV (ci := 11) (q0 := 0) hP hKK [0, 1] rfl rfl rfl) rfl rfl hl.1 rfl (lv_room (Nat.le_of_ble_eq_true rfl)) dX11_endOf_14 ⟨Nat.le_of_ble_eq_true rfl, Nat.le_of_ble_eq_true rfl⟩) ?_
    refine ft_top (y := nI wd) hs0 ?_
    refine lv_iadd hx hb dX11_endOf_17 ?_
    refine ft_top (y := nI (x + wd)) (ft_addN x wd) ?_
    refine lv_iconst (v := 1) hx hb dX11_endOf_18 (by decide) ?_
    refine lv_isub hx hb dX11_endOf_19 ?_
    refine ft_top (y := nI ((x + wd) - 1)) (ft_subN (a := x + wd) (b := 1) (by omega)) ?_
    refine lv_goto (tgt := 24) hx hb dX11_endOf_20 (by decide) ?_
    refine lv_istore (lv' := [(4, .int (nI ((x + wd) - 1))), (3, .int (nI ((ln + 60) - 1))), (0, .ref m0), (1, .int (nI x)), (2, .int rb)]) hx hb dX11_endOf_24 hl (by decide) rfl (fun ls hl => ?_)
    have lp26 : ∀ (n26 : Nat) (y : Nat) (x26_4 : Int32), 1001 - y < n26 → (y ≤ 1000) → (ftEnd (ftV fb fp fn) (w (44 + 7)) (ln + 60 - 1) (if rb = 0 then x else x + wd - 1) = ftEnd (ftV fb fp fn) (w (44 + 7)) (ln + 60 - 1) y) → x26_4 = nI y → ∀ ls : Array Slot, lv_has ls 5 [(0, .ref m0), (1, .int (nI x)), (2, .int rb), (3, .int (nI ((ln + 60) - 1))), (4, .int x26_4)] → W p l e (headSpec wsX11_endOf { frames := 1, cells := 0, slots := 0, locals := 21 }).room s m ([.ref m0, .int (nI x), .int rb] : List Value).toArray below meth c s.heap [] 0 0 (MQ below (vp_Si (fun o9 => o9 = nI (ftEnd (ftV fb fp fn) (w (44 + 7)) (ln + 60 - 1) (if rb = 0 then x else x + wd - 1)))) ([.ref m0, .int (nI x), .int rb] : List Value).toArray s 0 0 (fun _ => False)) (F0 m 26 ls []) := by
      intro n26
      induction n26 with
      | zero =>
        intro y x26_4  hm26
        exact absurd hm26 (Nat.not_lt_zero _)
      | succ n26 ih26 =>
        intro y x26_4  hm26 hy4 hres ex26_4  ls hl
        subst ex26_4
        refine lv_iload hx hb dX11_endOf_26 (lv_at hl 4 rfl) ?_
        refine lv_iload_n hx hb dX11_endOf_28 rfl (lv_at hl 3 rfl) ?_
        refine lv_icmp_ge (tgt := 68) hx hb dX11_endOf_29 (by decide) (fun c29 => ?_) (fun c29 => ?_)
        · have c29n : ((ln + 60) - 1) ≤ y := ft_leN (by omega) (by omega) c29
          refine lv_iload_n hx hb dX11_endOf_68 rfl (lv_at hl 3 rfl) ?_
          exact W.iret (v := nI ((ln + 60) - 1)) hx hb hr (fun t ht hW => ⟨nI ((ln + 60) - 1), rfl, (by show (nI ((ln + 60) - 1) : Int32) = nI (ftEnd (ftV fb fp fn) (w (44 + 7)) (ln + 60 - 1) (if rb = 0 then x else x + wd - 1)); rw [hres, ftEnd_last (by omega)]), ht⟩) (fun _ h9 => absurd h9 List.not_mem_nil) dX11_endOf_69
        · have c29n : y < ((ln + 60) - 1) := ft_nleN (by omega) (by omega) c29
          refine lv_aload_n hx hb dX11_endOf_32 rfl (lv_at hl 0 rfl) ?_
          refine lv_iload hx hb dX11_endOf_33 (lv_at hl 4 rfl) ?_
          refine lv_iconst (v := 1) hx hb dX11_endOf_35 (by decide) ?_
          refine lv_iadd hx hb dX11_endOf_36 ?_
          refine ft_top (y := nI (y + 1)) (ft_addN y 1) ?_
          refine ft_csi (r := fb (y + 1) + fp (y + 1) + fn (y + 1)) (va_runV (C := RX11) (As := [.int (nI (y + 1))]) (rest := []) ⟨hx, hb, hml, hown, hts⟩ (c_X11_v l D cI cS m0 p0 p1 p3 p5 p10 p12 p13 p14 p16 p17 p19 p20 p21 p22 p25 p26 p27 p28 p29 p30 p31 p32 i2 i4 i6 i7 i8 i9 i11 i15 i18 i23 i24 fb fp fn (y + 1) (by first | assumption | omega)) (cwV 1 hts gX11_endOf_X11_v rfl rfl rfl (by decide +kernel) ⟨Nat.le_of_ble_eq_true rfl, Nat.le_of_ble_eq_true rfl⟩) (ft_preROV (ci := 11) (q0 := 0) hP hKK [0, 2, 3, 4] rfl rfl rfl) rfl rfl hl.1 rfl (lv_room (Nat.le_of_ble_eq_true rfl)) dX11_endOf_37 ⟨Nat.le_of_ble_eq_true rfl, Nat.le_of_ble_eq_true rfl⟩) ?_
          refine lv_aload_n hx hb dX11_endOf_40 rfl (lv_at hl 0 rfl) ?_
          refine lv_iload hx hb dX11_endOf_41 (lv_at hl 4 rfl) ?_
          refine ft_csi (r := fb y + fp y + fn y) (va_runV (C := RX11) (As := [.int (nI y)]) (rest := [.int (fb (y + 1) + fp (y + 1) + fn (y + 1))]) ⟨hx, hb, hml, hown, hts⟩ (c_X11_v l D cI cS m0 p0 p1 p3 p5 p10 p12 p13 p14 p16 p17 p19 p20 p21 p22 p25 p26 p27 p28 p29 p30 p31 p32 i2 i4 i6 i7 i8 i9 i11 i15 i18 i23 i24 fb fp fn y (by first | assumption | omega)) (cwV 1 hts gX11_endOf_X11_v rfl rfl rfl (by decide +kernel) ⟨Nat.le_of_ble_eq_true rfl, Nat.le_of_ble_eq_true rfl⟩) (ft_preROV (ci := 11) (q0 := 0) hP hKK [0, 2, 3, 4] rfl rfl rfl) rfl rfl hl.1 rfl (lv_room (Nat.le_of_ble_eq_true rfl)) dX11_endOf_43 ⟨Nat.le_of_ble_eq_true rfl, Nat.le_of_ble_eq_true rfl⟩) ?_
          refine lv_isub hx hb dX11_endOf_46 ?_
          refine ft_csi (r := ftSz ((fb (y + 1) + fp (y + 1) + fn (y + 1)) - (fb y + fp y + fn y))) (va_runS (As := [.int ((fb (y + 1) + fp (y + 1) + fn (y + 1)) - (fb y + fp y + fn y))]) (rest := []) ⟨hx, hb, hml, hown, hts⟩ (c_X11_sizeOf l D cI cS ((fb (y + 1) + fp (y + 1) + fn (y + 1)) - (fb y + fp y + fn y))) (va_cwS 1 hts gX11_endOf_X11_sizeOf rfl rfl rfl (by decide +kernel) ⟨Nat.le_of_ble_eq_true rfl, Nat.le_of_ble_eq_true rfl⟩) (ft_preRO hP hKK [] rfl) rfl rfl hl.1 rfl (lv_room (Nat.le_of_ble_eq_true rfl)) dX11_endOf_47 ⟨Nat.le_of_ble_eq_true rfl, Nat.le_of_ble_eq_true rfl⟩) ?_
          refine lv_aload_n hx hb dX11_endOf_50 rfl (lv_at hl 0 rfl) ?_
          refine lv_bipush (v := 7) hx hb dX11_endOf_51 (by decide) ?_
          refine ft_csi (r := w (44 + 7)) (va_runV (C := RX11) (As := [.int 7]) (rest := [.int (ftSz ((fb (y + 1) + fp (y + 1) + fn (y + 1)) - (fb y + fp y + fn y)))]) ⟨hx, hb, hml, hown, hts⟩ (c_X11_setting l D cI cS m0 p0 p1 p3 p5 p10 p12 p13 p14 p16 p17 p19 p20 p21 p22 p25 p26 p27 p28 p29 p30 p31 p32 i2 i4 i6 i7 i8 i9 i11 i15 i18 i23 i24 w 7 (by first | assumption | omega)) (cwV 1 hts gX11_endOf_X11_setting rfl rfl rfl (by decide +kernel) ⟨Nat.le_of_ble_eq_true rfl, Nat.le_of_ble_eq_true rfl⟩) (ft_preROV (ci := 11) (q0 := 0) hP hKK [0, 1] rfl rfl rfl) rfl rfl hl.1 rfl (lv_room (Nat.le_of_ble_eq_true rfl)) dX11_endOf_53 ⟨Nat.le_of_ble_eq_true rfl, Nat.le_of_ble_eq_true rfl⟩) ?_
          refine lv_icmp_gt (tgt := 62) hx hb dX11_endOf_56 (by decide) (fun c56 => ?_) (fun c56 => ?_)
          · refine lv_iinc (v := nI (y + 1)) (lv' := [(4, .int (nI (y + 1))), (0, .ref m0), (1, .int (nI x)), (2, .int rb), (3, .int (nI ((ln + 60) - 1)))]) hx hb dX11_endOf_62 hl (k := 4) rfl (ft_inc y) (by decide) rfl (fun ls hl => ?_)
            refine lv_goto (tgt := 26) hx hb dX11_endOf_65 (by decide) ?_
            exact ih26 (y + 1) (nI (y + 1))  (by omega) (by omega) (by rw [hres]; exact ftEnd_go (by omega) (by rw [← ftSz_abs]; exact Int32.not_le.mpr c56)) (by first | rfl | assumption)  ls (lv_sub hl [1, 2, 3, 4, 0] rfl)
          · refine lv_iload hx hb dX11_endOf_59 (lv_at hl 4 rfl) ?_
            exact W.iret (v := nI y) hx hb hr (fun t ht hW => ⟨nI y, rfl, (by show (nI y : Int32) = nI (ftEnd (ftV fb fp fn) (w (44 + 7)) (ln + 60 - 1) (if rb = 0 then x else x + wd - 1)); rw [hres, ftEnd_hit (by omega) (by rw [← ftSz_abs]; exact Int32.not_lt.mp c56)]), ht⟩) (fun _ h9 => absurd h9 List.not_mem_nil) dX11_endOf_61
    exact lp26 _ ((x + wd) - 1) (nI ((x + wd) - 1))  (Nat.lt_succ_self _) (by omega) (by first | (rw [if_pos c8]; done) | (rw [if_neg c8]; done)) (by rfl) ls (lv_sub hl [2, 3, 4, 1, 0] rfl)
set_option maxHeartbeats 4000000 in
set_option maxRecDepth 100000 in
theorem c_X11_hasMakers (l : Launch) (D : va_G) (cI cS : ClassId) (sz : Nat) (m0 p0 p1 p3 p5 p10 p12 p13 p14 p16 p17 p19 p20 p21 p22 p25 p26 p27 p28 p29 p30 p31 p32 : Nat) (i2 i4 i6 i7 i8 i9 i11 i15 i18 i23 i24 : Int32) (w eb ek e1 e2 : Nat → Int32) (e9 : Nat) (he : e9 < 30) : Met l yX11_hasMakers wsX11_hasMakers ({ frames := 1, cells := 0, slots := 0, locals := 21 }) (ftRW D cI cS [.ref m0, .int (nI e9)] [(m0, .inr (11, [.ref p0, .ref p1, .int i2, .ref p3, .int i4, .ref p5, .int i6, .int i7, .int i8, .int i9, .ref p10, .int i11, .ref p12, .ref p13, .ref p14, .int i15, .ref p16, .ref p17, .int i18, .ref p19, .ref p20, .ref p21, .ref p22, .int i23, .int i24, .ref p25, .ref p26, .ref p27, .ref p28, .ref p29, .ref p30, .ref p31, .ref p32])), (p0, .inl (cI, 1439, .inl w)), (p25, .inl (cI, 30, .inl eb)), (p29, .inl (cI, 30, .inl ek)), (p31, .inl (cI, 30, .inl e1)), (p32, .inl (cI, 30, .inl e2))] sz) (ftQi D (ftB (¬ ftMkOut (ftRoM eb ek) (w (44 + 9)) e9 e9 = none)) [(m0, .inr (11, [.ref p0, .ref p1, .int i2, .ref p3, .int i4, .ref p5, .int i6, .int i7, .int i8, .int i9, .ref p10, .int i11, .ref p12, .ref p13, .ref p14, .int i15, .ref p16, .ref p17, .int i18, .ref p19, .ref p20, .ref p21, .ref p22, .int i23, .int i24, .ref p25, .ref p26, .ref p27, .ref p28, .ref p29, .ref p30, .ref p31, .ref p32])), (p0, .inl (cI, 1439, .inl w)), (p25, .inl (cI, 30, .inl eb)), (p29, .inl (cI, 30, .inl ek)), (p31, .inl (cI, 30, .inl e1)), (p32, .inl (cI, 30, .inl e2))] [(m0, .inr (11, [.ref p0, .ref p1, .int i2, .ref p3, .int i4, .ref p5, .int i6, .int i7, .int i8, .int i9, .ref p10, .int i11, .ref p12, .ref p13, .ref p14, .int i15, .ref p16, .ref p17, .int i18, .ref p19, .ref p20, .ref p21, .ref p22, .int i23, .int i24, .ref p25, .ref p26, .ref p27, .ref p28, .ref p29, .ref p30, .ref p31, .ref p32])), (p0, .inl (cI, 1439, .inl w)), (p25, .inl (cI, 30, .inl eb)), (p29, .inl (cI, 30, .inl ek)), (p31, .inl (cI, 30, .inl (ftMk1 (ftMkOut (ftRoM eb ek) (w (44 + 9)) e9 e9) e1 e9))), (p32, .inl (cI, 30, .inl (ftMk2 (ftMkOut (ftRoM eb ek) (w (44 + 9)) e9 e9) e2 e9)))] sz) 0 0 (va_A [(m0, .inr (11, [.ref p0, .ref p1, .int i2, .ref p3, .int i4, .ref p5, .int i6, .int i7, .int i8, .int i9, .ref p10, .int i11, .ref p12, .ref p13, .ref p14, .int i15, .ref p16, .ref p17, .int i18, .ref p19, .ref p20, .ref p21, .ref p22, .int i23, .int i24, .ref p25, .ref p26, .ref p27, .ref p28, .ref p29, .ref p30, .ref p31, .ref p32])), (p0, .inl (cI, 1439, .inl w)), (p25, .inl (cI, 30, .inl eb)), (p29, .inl (cI, 30, .inl ek)), (p31, .inl (cI, 30, .inl e1)), (p32, .inl (cI, 30, .inl e2))] sz) := by
  refine Met.ofW (cc := cX11_hasMakers) (maxL := 4) (ret := (some .boolean)) (by decide) rfl ?_
  intro p e s m args below meth c s₁ B hml hv
  obtain ⟨rfl, hsz, hP, hKK, hD0⟩ := hv
  have hK := hKK.1
  have hx := B.exec
  have hb := B.bytes
  have hr := B.returns
  have hts := atoms_spec (ws := wsX11_hasMakers) B.pre
  have hown : s.vm.findClass RX11 = some m.cls := findClass_of_methodNamed B.named
  have hlocks := B.notSynchronized
  subst hsz
  have hD := hD0.self (sz := s.heap.size)
  generalize hAe : va_A [(m0, .inr (11, [.ref p0, .ref p1, .int i2, .ref p3, .int i4, .ref p5, .int i6, .int i7, .int i8, .int i9, .ref p10, .int i11, .ref p12, .ref p13, .ref p14, .int i15, .ref p16, .ref p17, .int i18, .ref p19, .ref p20, .ref p21, .ref p22, .int i23, .int i24, .ref p25, .ref p26, .ref p27, .ref p28, .ref p29, .ref p30, .ref p31, .ref p32])), (p0, .inl (cI, 1439, .inl w)), (p25, .inl (cI, 30, .inl eb)), (p29, .inl (cI, 30, .inl ek)), (p31, .inl (cI, 30, .inl e1)), (p32, .inl (cI, 30, .inl e2))] s.heap.size = A at hD ⊢
  have hA : ∀ q : Nat, s.heap.size ≤ q → A q := fun q h => by rw [← hAe]; exact Or.inr h
  have hS : va_S A s.heap s.heap [] := va_S.rf
  have hD : va_D A [(m0, .inr (11, [.ref p0, .ref p1, .int i2, .ref p3, .int i4, .ref p5, .int i6, .int i7, .int i8, .int i9, .ref p10, .int i11, .ref p12, .ref p13, .ref p14, .int i15, .ref p16, .ref p17, .int i18, .ref p19, .ref p20, .ref p21, .ref p22, .int i23, .int i24, .ref p25, .ref p26, .ref p27, .ref p28, .ref p29, .ref p30, .ref p31, .ref p32])), (p0, .inl (cI, 1439, .inl w)), (p25, .inl (cI, 30, .inl eb)), (p29, .inl (cI, 30, .inl ek)), (p31, .inl (cI, 30, .inl e1)), (p32, .inl (cI, 30, .inl e2))] := hD
  have hP : va_P D vwCl [(m0, .inr (11, [.ref p0, .ref p1, .int i2, .ref p3, .int i4, .ref p5, .int i6, .int i7, .int i8, .int i9, .ref p10, .int i11, .ref p12, .ref p13, .ref p14, .int i15, .ref p16, .ref p17, .int i18, .ref p19, .ref p20, .ref p21, .ref p22, .int i23, .int i24, .ref p25, .ref p26, .ref p27, .ref p28, .ref p29, .ref p30, .ref p31, .ref p32])), (p0, .inl (cI, 1439, .inl w)), (p25, .inl (cI, 30, .inl eb)), (p29, .inl (cI, 30, .inl ek)), (p31, .inl (cI, 30, .inl e1)), (p32, .inl (cI, 30, .inl e2))] s.heap := hP
  have hl := lv_entry ([.ref m0, .int (nI e9)]) (n := 4) (Nat.le_of_ble_eq_true rfl)
  rw [lg_entry_eq]
  generalize (lg_sl ([.ref m0, .int (nI e9)]) ++ List.replicate (4 - (lg_sl ([.ref m0, .int (nI e9)])).length) Slot.unset).toArray = ls at hl ⊢
  have hl : lv_has ls 4 [(0, .ref m0), (1, .int (nI e9))] := hl
  refine lv_iconst (v := 0) hx hb dX11_hasMakers_0 (by decide) ?_
  refine lv_istore_n (lv' := [(2, .int 0), (0, .ref m0), (1, .int (nI e9))]) hx hb dX11_hasMakers_1 rfl hl (by decide) rfl (fun ls hl => ?_)
  have lp2 : ∀ (n2 : Nat) (i : Nat) (x2_2 : Int32), e9 - i < n2 → (i ≤ e9) → (ftMkOut (ftRoM eb ek) (w (44 + 9)) e9 e9 = ftMkOut (ftRoM eb ek) (w (44 + 9)) e9 (e9 - i)) → x2_2 = nI i → ∀ (H : Heap) (locs : List Loc), va_P D vwCl [(m0, .inr (11, [.ref p0, .ref p1, .int i2, .ref p3, .int i4, .ref p5, .int i6, .int i7, .int i8, .int i9, .ref p10, .int i11, .ref p12, .ref p13, .ref p14, .int i15, .ref p16, .ref p17, .int i18, .ref p19, .ref p20, .ref p21, .ref p22, .int i23, .int i24, .ref p25, .ref p26, .ref p27, .ref p28, .ref p29, .ref p30, .ref p31, .ref p32])), (p0, .inl (cI, 1439, .inl w)), (p25, .inl (cI, 30, .inl eb)), (p29, .inl (cI, 30, .inl ek)), (p31, .inl (cI, 30, .inl e1)), (p32, .inl (cI, 30, .inl e2))] H → va_D A [(m0, .inr (11, [.ref p0, .ref p1, .int i2, .ref p3, .int i4, .ref p5, .int i6, .int i7, .int i8, .int i9, .ref p10, .int i11, .ref p12, .ref p13, .ref p14, .int i15, .ref p16, .ref p17, .int i18, .ref p19, .ref p20, .ref p21, .ref p22, .int i23, .int i24, .ref p25, .ref p26, .ref p27, .ref p28, .ref p29, .ref p30, .ref p31, .ref p32])), (p0, .inl (cI, 1439, .inl w)), (p25, .inl (cI, 30, .inl eb)), (p29, .inl (cI, 30, .inl ek)), (p31, .inl (cI, 30, .inl e1)), (p32, .inl (cI, 30, .inl e2))] → va_S A s.heap H locs → ∀ ls : Array Slot, lv_has ls 4 [(0, .ref m0), (1, .int (nI e9)), (2, .int x2_2)] → W p l e (headSpec wsX11_hasMakers { frames := 1, cells := 0, slots := 0, locals := 21 }).room s m ([.ref m0, .int (nI e9)] : List Value).toArray below meth c H locs 0 0 (MQ below (ftQi D (ftB (¬ ftMkOut (ftRoM eb ek) (w (44 + 9)) e9 e9 = none)) [(m0, .inr (11, [.ref p0, .ref p1, .int i2, .ref p3, .int i4, .ref p5, .int i6, .int i7, .int i8, .int i9, .ref p10, .int i11, .ref p12, .ref p13, .ref p14, .int i15, .ref p16, .ref p17, .int i18, .ref p19, .ref p20, .ref p21, .ref p22, .int i23, .int i24, .ref p25, .ref p26, .ref p27, .ref p28, .ref p29, .ref p30, .ref p31, .ref p32])), (p0, .inl (cI, 1439, .inl w)), (p25, .inl (cI, 30, .inl eb)), (p29, .inl (cI, 30, .inl ek)), (p31, .inl (cI, 30, .inl e1)), (p32, .inl (cI, 30, .inl e2))] [(m0, .inr (11, [.ref p0, .ref p1, .int i2, .ref p3, .int i4, .ref p5, .int i6, .int i7, .int i8, .int i9, .ref p10, .int i11, .ref p12, .ref p13, .ref p14, .int i15, .ref p16, .ref p17, .int i18, .ref p19, .ref p20, .ref p21, .ref p22, .int i23, .int i24, .ref p25, .ref p26, .ref p27, .ref p28, .ref p29, .ref p30, .ref p31, .ref p32])), (p0, .inl (cI, 1439, .inl w)), (p25, .inl (cI, 30, .inl eb)), (p29, .inl (cI, 30, .inl ek)), (p31, .inl (cI, 30, .inl (ftMk1 (ftMkOut (ftRoM eb ek) (w (44 + 9)) e9 e9) e1 e9))), (p32, .inl (cI, 30, .inl (ftMk2 (ftMkOut (ftRoM eb ek) (w (44 + 9)) e9 e9) e2 e9)))] s.heap.size) ([.ref m0, .int (nI e9)] : List Value).toArray s 0 0 A) (F0 m 2 ls []) := by
    intro n2
    induction n2 with
    | zero =>
      intro i x2_2  hm2
      exact absurd hm2 (Nat.not_lt_zero _)
    | succ n2 ih2 =>
      intro i x2_2  hm2 hie ho ex2_2  H locs hP hD hS ls hl
      subst ex2_2
      refine lv_iload_n hx hb dX11_hasMakers_2 rfl (lv_at hl 2 rfl) ?_
      refine lv_iload_n hx hb dX11_hasMakers_3 rfl (lv_at hl 1 rfl) ?_
      refine lv_icmp_ge (tgt := 98) hx hb dX11_hasMakers_4 (by decide) (fun c4 => ?_) (fun c4 => ?_)
      · have c4n : e9 ≤ i := ft_leN (by omega) (by omega) c4
        have hM9 : ftMkOut (ftRoM eb ek) (w (44 + 9)) e9 e9 = none := ho.trans (ftMkOut_end (by omega))
        refine lv_iconst (v := 0) hx hb dX11_hasMakers_98 (by decide) ?_
        have hw9 : ([(m0, .inr (11, [.ref p0, .ref p1, .int i2, .ref p3, .int i4, .ref p5, .int i6, .int i7, .int i8, .int i9, .ref p10, .int i11, .ref p12, .ref p13, .ref p14, .int i15, .ref p16, .ref p17, .int i18, .ref p19, .ref p20, .ref p21, .ref p22, .int i23, .int i24, .ref p25, .ref p26, .ref p27, .ref p28, .ref p29, .ref p30, .ref p31, .ref p32])), (p0, .inl (cI, 1439, .inl w)), (p25, .inl (cI, 30, .inl eb)), (p29, .inl (cI, 30, .inl ek)), (p31, .inl (cI, 30, .inl e1)), (p32, .inl (cI, 30, .inl e2))] : va_W) = [(m0, .inr (11, [.ref p0, .ref p1, .int i2, .ref p3, .int i4, .ref p5, .int i6, .int i7, .int i8, .int i9, .ref p10, .int i11, .ref p12, .ref p13, .ref p14, .int i15, .ref p16, .ref p17, .int i18, .ref p19, .ref p20, .ref p21, .ref p22, .int i23, .int i24, .ref p25, .ref p26, .ref p27, .ref p28, .ref p29, .ref p30, .ref p31, .ref p32])), (p0, .inl (cI, 1439, .inl w)), (p25, .inl (cI, 30, .inl eb)), (p29, .inl (cI, 30, .inl ek)), (p31, .inl (cI, 30, .inl (ftMk1 (ftMkOut (ftRoM eb ek) (w (44 + 9)) e9 e9) e1 e9))), (p32, .inl (cI, 30, .inl (ftMk2 (ftMkOut (ftRoM eb ek) (w (44 + 9)) e9 e9) e2 e9)))] := by rw [hM9]; rfl
        rw [hw9] at hP hD
        exact W.zret (v := 0) hx hb hr (by rfl) (fun t ht hW => ⟨⟨0, (), rfl, (by show (0 : Int32) = ftB (¬ ftMkOut (ftRoM eb ek) (w (44 + 9)) e9 e9 = none); exact (ftB_f (fun q => q hM9)).symm), by rw [ht]; exact hP, by rw [hAe]; exact hD⟩, by rw [hAe]; exact hS.F ht⟩) hS.2.2 dX11_hasMakers_99
      · have c4n : i < e9 := ft_nleN (by omega) (by omega) c4
        refine lv_iload_n hx hb dX11_hasMakers_7 rfl (lv_at hl 2 rfl) ?_
        refine lv_iconst (v := 1) hx hb dX11_hasMakers_8 (by decide) ?_
        refine lv_iadd hx hb dX11_hasMakers_9 ?_
        refine ft_top (y := nI (i + 1)) (ft_addN i 1) ?_
        refine lv_istore_n (lv' := [(3, .int (nI (i + 1))), (0, .ref m0), (1, .int (nI e9)), (2, .int (nI i))]) hx hb dX11_hasMakers_10 rfl hl (by decide) rfl (fun ls hl => ?_)
        have lp11 : ∀ (n11 : Nat) (j : Nat) (x11_3 : Int32), e9 - j < n11 → (i + 1 ≤ j) → (j ≤ e9) → (ftMkIn (ftRoM eb ek) (w (44 + 9)) i e9 (e9 - (i + 1)) = ftMkIn (ftRoM eb ek) (w (44 + 9)) i e9 (e9 - j)) → x11_3 = nI j → ∀ (H : Heap) (locs : List Loc), va_P D vwCl [(m0, .inr (11, [.ref p0, .ref p1, .int i2, .ref p3, .int i4, .ref p5, .int i6, .int i7, .int i8, .int i9, .ref p10, .int i11, .ref p12, .ref p13, .ref p14, .int i15, .ref p16, .ref p17, .int i18, .ref p19, .ref p20, .ref p21, .ref p22, .int i23, .int i24, .ref p25, .ref p26, .ref p27, .ref p28, .ref p29, .ref p30, .ref p31, .ref p32])), (p0, .inl (cI, 1439, .inl w)), (p25, .inl (cI, 30, .inl eb)), (p29, .inl (cI, 30, .inl ek)), (p31, .inl (cI, 30, .inl e1)), (p32, .inl (cI, 30, .inl e2))] H → va_D A [(m0, .inr (11, [.ref p0, .ref p1, .int i2, .ref p3, .int i4, .ref p5, .int i6, .int i7, .int i8, .int i9, .ref p10, .int i11, .ref p12, .ref p13, .ref p14, .int i15, .ref p16, .ref p17, .int i18, .ref p19, .ref p20, .ref p21, .ref p22, .int i23, .int i24, .ref p25, .ref p26, .ref p27, .ref p28, .ref p29, .ref p30, .ref p31, .ref p32])), (p0, .inl (cI, 1439, .inl w)), (p25, .inl (cI, 30, .inl eb)), (p29, .inl (cI, 30, .inl ek)), (p31, .inl (cI, 30, .inl e1)), (p32, .inl (cI, 30, .inl e2))] → va_S A s.heap H locs → ∀ ls : Array Slot, lv_has ls 4 [(0, .ref m0), (1, .int (nI e9)), (2, .int (nI i)), (3, .int x11_3)] → W p l e (headSpec wsX11_hasMakers { frames := 1, cells := 0, slots := 0, locals := 21 }).room s m ([.ref m0, .int (nI e9)] : List Value).toArray below meth c H locs 0 0 (MQ below (ftQi D (ftB (¬ ftMkOut (ftRoM eb ek) (w (44 + 9)) e9 e9 = none)) [(m0, .inr (11, [.ref p0, .ref p1, .int i2, .ref p3, .int i4, .ref p5, .int i6, .int i7, .int i8, .int i9, .ref p10, .int i11, .ref p12, .ref p13, .ref p14, .int i15, .ref p16, .ref p17, .int i18, .ref p19, .ref p20, .ref p21, .ref p22, .int i23, .int i24, .ref p25, .ref p26, .ref p27, .ref p28, .ref p29, .ref p30, .ref p31, .ref p32])), (p0, .inl (cI, 1439, .inl w)), (p25, .inl (cI, 30, .inl eb)), (p29, .inl (cI, 30, .inl ek)), (p31, .inl (cI, 30, .inl e1)), (p32, .inl (cI, 30, .inl e2))] [(m0, .inr (11, [.ref p0, .ref p1, .int i2, .ref p3, .int i4, .ref p5, .int i6, .int i7, .int i8, .int i9, .ref p10, .int i11, .ref p12, .ref p13, .ref p14, .int i15, .ref p16, .ref p17, .int i18, .ref p19, .ref p20, .ref p21, .ref p22, .int i23, .int i24, .ref p25, .ref p26, .ref p27, .ref p28, .ref p29, .ref p30, .ref p31, .ref p32])), (p0, .inl (cI, 1439, .inl w)), (p25, .inl (cI, 30, .inl eb)), (p29, .inl (cI, 30, .inl ek)), (p31, .inl (cI, 30, .inl (ftMk1 (ftMkOut (ftRoM eb ek) (w (44 + 9)) e9 e9) e1 e9))), (p32, .inl (cI, 30, .inl (ftMk2 (ftMkOut (ftRoM eb ek) (w (44 + 9)) e9 e9) e2 e9)))] s.heap.size) ([.ref m0, .int (nI e9)] : List Value).toArray s 0 0 A) (F0 m 11 ls []) := by
          intro n11
          induction n11 with
          | zero =>
            intro j x11_3  hm11
            exact absurd hm11 (Nat.not_lt_zero _)
          | succ n11 ih11 =>
            intro j x11_3  hm11 hij hje hin ex11_3  H locs hP hD hS ls hl
            subst ex11_3
            refine lv_iload_n hx hb dX11_hasMakers_11 rfl (lv_at hl 3 rfl) ?_
            refine lv_iload_n hx hb dX11_hasMakers_12 rfl (lv_at hl 1 rfl) ?_
            refine lv_icmp_ge (tgt := 92) hx hb dX11_hasMakers_13 (by decide) (fun c13 => ?_) (fun c13 => ?_)
            · have c13n : e9 ≤ j := ft_leN (by omega) (by omega) c13
              refine lv_iinc (v := nI (i + 1)) (lv' := [(2, .int (nI (i + 1))), (0, .ref m0), (1, .int (nI e9)), (3, .int (nI j))]) hx hb dX11_hasMakers_92 hl (k := 2) rfl (ft_inc i) (by decide) rfl (fun ls hl => ?_)
              refine lv_goto (tgt := 2) hx hb dX11_hasMakers_95 (by decide) ?_
              exact ih2 (i + 1) (nI (i + 1))  (by omega) (by omega) (by rw [ho]; exact ftMkOut_go (by omega) (hin.trans (ftMkIn_end (by omega)))) (by first | rfl | assumption)  _ _ hP hD hS ls (lv_sub hl [1, 2, 0] rfl)
            · have c13n : j < e9 := ft_nleN (by omega) (by omega) c13
              refine lv_aload_n hx hb dX11_hasMakers_16 rfl (lv_at hl 0 rfl) ?_
              refine va_get (D := D) (ci := 11) (v := .ref p29) (C := RX11) (T := TX11) (N := 33) hx hb hts (by decide +kernel) hown hK hP 0 rfl rfl 29 (by decide) (hts (.fieldLink RX11 64 "FiberTraceModel" "kinds" "[I") (by decide +kernel)) (fun _ h9 => h9) rfl dX11_hasMakers_17 ?_
              refine lv_iload_n hx hb dX11_hasMakers_20 rfl (lv_at hl 2 rfl) ?_
              refine va_iald hx hb hK hP 3 0 rfl rfl (vp_in_nI (by omega) (by omega)) dX11_hasMakers_21 ?_
              refine ft_top (y := ek i) (ft_clampN (by omega)) ?_
              refine lv_iconst (v := 1) hx hb dX11_hasMakers_22 (by decide) ?_
              refine lv_icmp_ne (tgt := 86) hx hb dX11_hasMakers_23 (by decide) (fun c23 => ?_) (fun c23 => ?_)
              · refine lv_iinc (v := nI (j + 1)) (lv' := [(3, .int (nI (j + 1))), (0, .ref m0), (1, .int (nI e9)), (2, .int (nI i))]) hx hb dX11_hasMakers_86 hl (k := 3) rfl (ft_inc j) (by decide) rfl (fun ls hl => ?_)
                refine lv_goto (tgt := 11) hx hb dX11_hasMakers_89 (by decide) ?_
                exact ih11 (j + 1) (nI (j + 1))  (by omega) (by omega) (by omega) (by rw [hin]; first | exact ftMkIn_go (by omega) (ftMkM_3 c67) | exact ftMkIn_go (by omega) (ftMkM_2 c33) | exact ftMkIn_go (by omega) (ftMkM_1 c23)) (by first | rfl | assumption)  _ _ hP hD hS ls (lv_sub hl [1, 2, 3, 0] rfl)
              · refine lv_aload_n hx hb dX11_hasMakers_26 rfl (lv_at hl 0 rfl) ?_
                refine va_get (D := D) (ci := 11) (v := .ref p29) (C := RX11) (T := TX11) (N := 33) hx hb hts (by decide +kernel) hown hK hP 0 rfl rfl 29 (by decide) (hts (.fieldLink RX11 64 "FiberTraceModel" "kinds" "[I") (by decide +kernel)) (fun _ h9 => h9) rfl dX11_hasMakers_27 ?_
                refine lv_iload_n hx hb dX11_hasMakers_30 rfl (lv_at hl 3 rfl) ?_
                refine va_iald hx hb hK hP 3 0 rfl rfl (vp_in_nI (by omega) (by omega)) dX11_hasMakers_31 ?_
                refine ft_top (y := ek j) (ft_clampN (by omega)) ?_
                refine lv_iconst (v := 1) hx hb dX11_hasMakers_32 (by decide) ?_
                refine lv_icmp_ne (tgt := 86) hx hb dX11_hasMakers_33 (by decide) (fun c33 => ?_) (fun c33 => ?_)
                · refine lv_iinc (v := nI (j + 1)) (lv' := [(3, .int (nI (j + 1))), (0, .ref m0), (1, .int (nI e9)), (2, .int (nI i))]) hx hb dX11_hasMakers_86 hl (k := 3) rfl (ft_inc j) (by decide) rfl (fun ls hl => ?_)
                  refine lv_goto (tgt := 11) hx hb dX11_hasMakers_89 (by decide) ?_
                  exact ih11 (j + 1) (nI (j + 1))  (by omega) (by omega) (by omega) (by rw [hin]; first | exact ftMkIn_go (by omega) (ftMkM_3 c67) | exact ftMkIn_go (by omega) (ftMkM_2 c33) | exact ftMkIn_go (by omega) (ftMkM_1 c23)) (by first | rfl | assumption)  _ _ hP hD hS ls (lv_sub hl [1, 2, 3, 0] rfl)
                · refine lv_iconst (v := 2) hx hb dX11_hasMakers_36 (by decide) ?_
                  refine lv_aload_n hx hb dX11_hasMakers_37 rfl (lv_at hl 0 rfl) ?_
                  refine va_get (D := D) (ci := 11) (v := .ref p25) (C := RX11) (T := TX11) (N := 33) hx hb hts (by decide +kernel) hown hK hP 0 rfl rfl 25 (by decide) (hts (.fieldLink RX11 52 "FiberTraceModel" "begins" "[I") (by decide +kernel)) (fun _ h9 => h9) rfl dX11_hasMakers_38 ?_
                  refine lv_iload_n hx hb dX11_hasMakers_41 rfl (lv_at hl 3 rfl) ?_
                  refine va_iald hx hb hK hP 2 0 rfl rfl (vp_in_nI (by omega) (by omega)) dX11_hasMakers_42 ?_
                  refine ft_top (y := eb j) (ft_clampN (by omega)) ?_
                  refine lv_imul hx hb dX11_hasMakers_43 ?_
                  refine lv_aload_n hx hb dX11_hasMakers_44 rfl (lv_at hl 0 rfl) ?_
                  refine va_get (D := D) (ci := 11) (v := .ref p25) (C := RX11) (T := TX11) (N := 33) hx hb hts (by decide +kernel) hown hK hP 0 rfl rfl 25 (by decide) (hts (.fieldLink RX11 52 "FiberTraceModel" "begins" "[I") (by decide +kernel)) (fun _ h9 => h9) rfl dX11_hasMakers_45 ?_
                  refine lv_iload_n hx hb dX11_hasMakers_48 rfl (lv_at hl 2 rfl) ?_
                  refine va_iald hx hb hK hP 2 0 rfl rfl (vp_in_nI (by omega) (by omega)) dX11_hasMakers_49 ?_
                  refine ft_top (y := eb i) (ft_clampN (by omega)) ?_
                  refine lv_isub hx hb dX11_hasMakers_50 ?_
                  refine lv_aload_n hx hb dX11_hasMakers_51 rfl (lv_at hl 0 rfl) ?_
                  refine va_get (D := D) (ci := 11) (v := .ref p25) (C := RX11) (T := TX11) (N := 33) hx hb hts (by decide +kernel) hown hK hP 0 rfl rfl 25 (by decide) (hts (.fieldLink RX11 52 "FiberTraceModel" "begins" "[I") (by decide +kernel)) (fun _ h9 => h9) rfl dX11_hasMakers_52 ?_
                  refine lv_iload_n hx hb dX11_hasMakers_55 rfl (lv_at hl 1 rfl) ?_
                  refine va_iald hx hb hK hP 2 0 rfl rfl (vp_in_nI (by omega) (by omega)) dX11_hasMakers_56 ?_
                  refine ft_top (y := eb e9) (ft_clampN (by omega)) ?_
                  refine lv_isub hx hb dX11_hasMakers_57 ?_
                  refine ft_csi (r := ftSz (((2 * (eb j)) - (eb i)) - (eb e9))) (va_runS (As := [.int (((2 * (eb j)) - (eb i)) - (eb e9))]) (rest := []) ⟨hx, hb, hml, hown, hts⟩ (c_X11_sizeOf l D cI cS (((2 * (eb j)) - (eb i)) - (eb e9))) (va_cwS 1 hts gX11_hasMakers_X11_sizeOf rfl rfl rfl (by decide +kernel) ⟨Nat.le_of_ble_eq_true rfl, Nat.le_of_ble_eq_true rfl⟩) (ft_preRO hP hKK [] rfl) rfl rfl hl.1 rfl (lv_room (Nat.le_of_ble_eq_true rfl)) dX11_hasMakers_58 ⟨Nat.le_of_ble_eq_true rfl, Nat.le_of_ble_eq_true rfl⟩) ?_
                  refine lv_aload_n hx hb dX11_hasMakers_61 rfl (lv_at hl 0 rfl) ?_
                  refine lv_bipush (v := 9) hx hb dX11_hasMakers_62 (by decide) ?_
                  refine ft_csi (r := w (44 + 9)) (va_runV (C := RX11) (As := [.int 9]) (rest := [.int (ftSz (((2 * (eb j)) - (eb i)) - (eb e9)))]) ⟨hx, hb, hml, hown, hts⟩ (c_X11_setting l D cI cS m0 p0 p1 p3 p5 p10 p12 p13 p14 p16 p17 p19 p20 p21 p22 p25 p26 p27 p28 p29 p30 p31 p32 i2 i4 i6 i7 i8 i9 i11 i15 i18 i23 i24 w 9 (by first | assumption | omega)) (cwV 1 hts gX11_hasMakers_X11_setting rfl rfl rfl (by decide +kernel) ⟨Nat.le_of_ble_eq_true rfl, Nat.le_of_ble_eq_true rfl⟩) (ft_preROV (ci := 11) (q0 := 0) hP hKK [0, 1] rfl rfl rfl) rfl rfl hl.1 rfl (lv_room (Nat.le_of_ble_eq_true rfl)) dX11_hasMakers_64 ⟨Nat.le_of_ble_eq_true rfl, Nat.le_of_ble_eq_true rfl⟩) ?_
                  refine lv_icmp_gt (tgt := 86) hx hb dX11_hasMakers_67 (by decide) (fun c67 => ?_) (fun c67 => ?_)
                  · refine lv_iinc (v := nI (j + 1)) (lv' := [(3, .int (nI (j + 1))), (0, .ref m0), (1, .int (nI e9)), (2, .int (nI i))]) hx hb dX11_hasMakers_86 hl (k := 3) rfl (ft_inc j) (by decide) rfl (fun ls hl => ?_)
                    refine lv_goto (tgt := 11) hx hb dX11_hasMakers_89 (by decide) ?_
                    exact ih11 (j + 1) (nI (j + 1))  (by omega) (by omega) (by omega) (by rw [hin]; first | exact ftMkIn_go (by omega) (ftMkM_3 c67) | exact ftMkIn_go (by omega) (ftMkM_2 c33) | exact ftMkIn_go (by omega) (ftMkM_1 c23)) (by first | rfl | assumption)  _ _ hP hD hS ls (lv_sub hl [1, 2, 3, 0] rfl)
                  · have hM9 : ftMkOut (ftRoM eb ek) (w (44 + 9)) e9 e9 = some (i, j) := ho.trans (ftMkOut_hit (by omega) (hin.trans (ftMkIn_hit (by omega) (ftMkM c23 c33 (Int32.not_lt.mp c67)))))
                    refine lv_aload_n hx hb dX11_hasMakers_70 rfl (lv_at hl 0 rfl) ?_
                    refine va_get (D := D) (ci := 11) (v := .ref p31) (C := RX11) (T := TX11) (N := 33) hx hb hts (by decide +kernel) hown hK hP 0 rfl rfl 31 (by decide) (hts (.fieldLink RX11 70 "FiberTraceModel" "makerOne" "[I") (by decide +kernel)) (fun _ h9 => h9) rfl dX11_hasMakers_71 ?_
                    refine lv_iload_n hx hb dX11_hasMakers_74 rfl (lv_at hl 1 rfl) ?_
                    refine lv_iload_n hx hb dX11_hasMakers_75 rfl (lv_at hl 2 rfl) ?_
                    refine va_iast hx hb hK hP hD hS 4 0 rfl rfl (vp_in_nI (by omega) (by omega)) dX11_hasMakers_76 (fun H locs hP hD hS => ?_)
                    rw [nI_clamp (show e9 < 2 ^ 31 by omega)] at hP hD
                    have hP : va_P D vwCl [(m0, .inr (11, [.ref p0, .ref p1, .int i2, .ref p3, .int i4, .ref p5, .int i6, .int i7, .int i8, .int i9, .ref p10, .int i11, .ref p12, .ref p13, .ref p14, .int i15, .ref p16, .ref p17, .int i18, .ref p19, .ref p20, .ref p21, .ref p22, .int i23, .int i24, .ref p25, .ref p26, .ref p27, .ref p28, .ref p29, .ref p30, .ref p31, .ref p32])), (p0, .inl (cI, 1439, .inl w)), (p25, .inl (cI, 30, .inl eb)), (p29, .inl (cI, 30, .inl ek)), (p31, .inl (cI, 30, .inl (upd e1 e9 (nI i)))), (p32, .inl (cI, 30, .inl e2))] H := hP
                    have hD : va_D A [(m0, .inr (11, [.ref p0, .ref p1, .int i2, .ref p3, .int i4, .ref p5, .int i6, .int i7, .int i8, .int i9, .ref p10, .int i11, .ref p12, .ref p13, .ref p14, .int i15, .ref p16, .ref p17, .int i18, .ref p19, .ref p20, .ref p21, .ref p22, .int i23, .int i24, .ref p25, .ref p26, .ref p27, .ref p28, .ref p29, .ref p30, .ref p31, .ref p32])), (p0, .inl (cI, 1439, .inl w)), (p25, .inl (cI, 30, .inl eb)), (p29, .inl (cI, 30, .inl ek)), (p31, .inl (cI, 30, .inl (upd e1 e9 (nI i)))), (p32, .inl (cI, 30, .inl e2))] := hD
                    refine lv_aload_n hx hb dX11_hasMakers_77 rfl (lv_at hl 0 rfl) ?_
                    refine va_get (D := D) (ci := 11) (v := .ref p32) (C := RX11) (T := TX11) (N := 33) hx hb hts (by decide +kernel) hown hK hP 0 rfl rfl 32 (by decide) (hts (.fieldLink RX11 73 "FiberTraceModel" "makerTwo" "[I") (by decide +kernel)) (fun _ h9 => h9) rfl dX11_hasMakers_78 ?_
                    refine lv_iload_n hx hb dX11_hasMakers_81 rfl (lv_at hl 1 rfl) ?_
                    refine lv_iload_n hx hb dX11_hasMakers_82 rfl (lv_at hl 3 rfl) ?_
                    refine va_iast hx hb hK hP hD hS 5 0 rfl rfl (vp_in_nI (by omega) (by omega)) dX11_hasMakers_83 (fun H locs hP hD hS => ?_)
                    rw [nI_clamp (show e9 < 2 ^ 31 by omega)] at hP hD
                    have hP : va_P D vwCl [(m0, .inr (11, [.ref p0, .ref p1, .int i2, .ref p3, .int i4, .ref p5, .int i6, .int i7, .int i8, .int i9, .ref p10, .int i11, .ref p12, .ref p13, .ref p14, .int i15, .ref p16, .ref p17, .int i18, .ref p19, .ref p20, .ref p21, .ref p22, .int i23, .int i24, .ref p25, .ref p26, .ref p27, .ref p28, .ref p29, .ref p30, .ref p31, .ref p32])), (p0, .inl (cI, 1439, .inl w)), (p25, .inl (cI, 30, .inl eb)), (p29, .inl (cI, 30, .inl ek)), (p31, .inl (cI, 30, .inl (upd e1 e9 (nI i)))), (p32, .inl (cI, 30, .inl (upd e2 e9 (nI j))))] H := hP
                    have hD : va_D A [(m0, .inr (11, [.ref p0, .ref p1, .int i2, .ref p3, .int i4, .ref p5, .int i6, .int i7, .int i8, .int i9, .ref p10, .int i11, .ref p12, .ref p13, .ref p14, .int i15, .ref p16, .ref p17, .int i18, .ref p19, .ref p20, .ref p21, .ref p22, .int i23, .int i24, .ref p25, .ref p26, .ref p27, .ref p28, .ref p29, .ref p30, .ref p31, .ref p32])), (p0, .inl (cI, 1439, .inl w)), (p25, .inl (cI, 30, .inl eb)), (p29, .inl (cI, 30, .inl ek)), (p31, .inl (cI, 30, .inl (upd e1 e9 (nI i)))), (p32, .inl (cI, 30, .inl (upd e2 e9 (nI j))))] := hD
                    refine lv_iconst (v := 1) hx hb dX11_hasMakers_84 (by decide) ?_
                    have hw9 : ([(m0, .inr (11, [.ref p0, .ref p1, .int i2, .ref p3, .int i4, .ref p5, .int i6, .int i7, .int i8, .int i9, .ref p10, .int i11, .ref p12, .ref p13, .ref p14, .int i15, .ref p16, .ref p17, .int i18, .ref p19, .ref p20, .ref p21, .ref p22, .int i23, .int i24, .ref p25, .ref p26, .ref p27, .ref p28, .ref p29, .ref p30, .ref p31, .ref p32])), (p0, .inl (cI, 1439, .inl w)), (p25, .inl (cI, 30, .inl eb)), (p29, .inl (cI, 30, .inl ek)), (p31, .inl (cI, 30, .inl (upd e1 e9 (nI i)))), (p32, .inl (cI, 30, .inl (upd e2 e9 (nI j))))] : va_W) = [(m0, .inr (11, [.ref p0, .ref p1, .int i2, .ref p3, .int i4, .ref p5, .int i6, .int i7, .int i8, .int i9, .ref p10, .int i11, .ref p12, .ref p13, .ref p14, .int i15, .ref p16, .ref p17, .int i18, .ref p19, .ref p20, .ref p21, .ref p22, .int i23, .int i24, .ref p25, .ref p26, .ref p27, .ref p28, .ref p29, .ref p30, .ref p31, .ref p32])), (p0, .inl (cI, 1439, .inl w)), (p25, .inl (cI, 30, .inl eb)), (p29, .inl (cI, 30, .inl ek)), (p31, .inl (cI, 30, .inl (ftMk1 (ftMkOut (ftRoM eb ek) (w (44 + 9)) e9 e9) e1 e9))), (p32, .inl (cI, 30, .inl (ftMk2 (ftMkOut (ftRoM eb ek) (w (44 + 9)) e9 e9) e2 e9)))] := by rw [hM9]; rfl
                    rw [hw9] at hP hD
                    exact W.zret (v := 1) hx hb hr (by rfl) (fun t ht hW => ⟨⟨1, (), rfl, (by show (1 : Int32) = ftB (¬ ftMkOut (ftRoM eb ek) (w (44 + 9)) e9 e9 = none); exact (ftB_t (by rw [hM9]; exact fun q => by cases q)).symm), by rw [ht]; exact hP, by rw [hAe]; exact hD⟩, by rw [hAe]; exact hS.F ht⟩) hS.2.2 dX11_hasMakers_85
        exact lp11 _ (i + 1) (nI (i + 1))  (Nat.lt_succ_self _) (by omega) (by omega) (by rfl) (by rfl) _ _ hP hD hS ls (lv_sub hl [1, 2, 3, 0] rfl)
  exact lp2 _ 0 0  (Nat.lt_succ_self _) (by omega) (by rfl) (by rfl) _ _ hP hD hS ls (lv_sub hl [1, 2, 0] rfl)
