/-! the reference: parts and events -/
noncomputable def ftOnM (eb ee : Nat → Int32) (k : Nat) (x : Int32) : Int32 := ftFst (fun i => eb i ≤ x ∧ x ≤ ee i) k
noncomputable def ftNearM (eb ek : Nat → Int32) (tl : Int32) (k : Nat) (x : Int32) : Int32 := ftFst (fun i => ¬ ek i = 2 ∧ ftNear tl (eb i) x) k
noncomputable def ftStandM (eb ee ek w : Nat → Int32) (km k : Nat) : Int32 := if w (4 + 4 * k + 0) = 2 then 2 else if 0 ≤ ftNearM eb ek (w (44 + 9)) km (w (4 + 4 * k + 1)) then 0 else if 0 ≤ ftOnM eb ee km (w (4 + 4 * k + 1)) then 1 else 2
noncomputable def ftStandsM (eb ee ek w : Nat → Int32) (km : Nat) (ho : Int32) (n : Nat) : Int32 := ftCount (fun k => w (4 + 4 * k + 0) < 2 ∧ ftStandM eb ee ek w km k = ho) n
def ftStrM (eb ek w : Nat → Int32) (e n : Nat) : Prop := ek e < 2 ∧ ∀ t, t < n → (w (4 + 4 * t + 0) = 2 ∨ w (44 + 9) < ftSz (eb e - w (4 + 4 * t + 1)))
theorem ftStrM_s {eb ek w : Nat → Int32} {e k : Nat} (h : ftStrM eb ek w e k) (q : w (4 + 4 * k + 0) = 2 ∨ w (44 + 9) < ftSz (eb e - w (4 + 4 * k + 1))) : ftStrM eb ek w e (k + 1) :=
  ⟨h.1, fun t ht => by
    rcases Nat.lt_succ_iff_lt_or_eq.mp ht with r | r
    · exact h.2 t r
    · subst r; exact q⟩
theorem ftStrM_d {eb ek w : Nat → Int32} {e k : Nat} (h : ftStrM eb ek w e (k + 1)) : ftStrM eb ek w e k := ⟨h.1, fun t ht => h.2 t (by omega)⟩
theorem ftStrM_q {eb ek w : Nat → Int32} {e k : Nat} (h : ftStrM eb ek w e (k + 1)) : w (4 + 4 * k + 0) = 2 ∨ w (44 + 9) < ftSz (eb e - w (4 + 4 * k + 1)) := h.2 k (by omega)
set_option maxHeartbeats 4000000 in
set_option maxRecDepth 100000 in
theorem c_X11_eventOn (l : Launch) (D : va_G) (cI cS : ClassId) (m0 p0 p1 p3 p5 p10 p12 p13 p14 p16 p17 p19 p20 p21 p22 p25 p26 p27 p28 p29 p30 p31 p32 : Nat) (i2 i4 i6 i7 i8 i9 i11 i15 i18 i24 : Int32) (eb ee : Nat → Int32) (km : Nat) (x : Int32) (hk30 : km ≤ 30) : Met l yX11_eventOn wsX11_eventOn ({ frames := 1, cells := 0, slots := 0, locals := 25 }) (ftRO D cI cS [.ref m0, .int x] [(m0, .inr (11, [.ref p0, .ref p1, .int i2, .ref p3, .int i4, .ref p5, .int i6, .int i7, .int i8, .int i9, .ref p10, .int i11, .ref p12, .ref p13, .ref p14, .int i15, .ref p16, .ref p17, .int i18, .ref p19, .ref p20, .ref p21, .ref p22, .int (nI km), .int i24, .ref p25, .ref p26, .ref p27, .ref p28, .ref p29, .ref p30, .ref p31, .ref p32])), (p25, .inl (cI, 30, .inl eb)), (p26, .inl (cI, 30, .inl ee))]) (vp_Si (fun o9 => o9 = ftOnM eb ee km x)) 0 0 (fun _ => False) := by
  refine Met.ofW (cc := cX11_eventOn) (maxL := 3) (ret := (some .int)) (by decide) rfl ?_
  intro p e s m args below meth c s₁ B hml hv
  obtain ⟨rfl, hP, hKK⟩ := hv
  have hK := hKK.1
  have hx := B.exec
  have hb := B.bytes
  have hr := B.returns
  have hts := atoms_spec (ws := wsX11_eventOn) B.pre
  have hown : s.vm.findClass RX11 = some m.cls := findClass_of_methodNamed B.named
  have hlocks := B.notSynchronized
  have hP : va_P D vwCl [(m0, .inr (11, [.ref p0, .ref p1, .int i2, .ref p3, .int i4, .ref p5, .int i6, .int i7, .int i8, .int i9, .ref p10, .int i11, .ref p12, .ref p13, .ref p14, .int i15, .ref p16, .ref p17, .int i18, .ref p19, .ref p20, .ref p21, .ref p22, .int (nI km), .int i24, .ref p25, .ref p26, .ref p27, .ref p28, .ref p29, .ref p30, .ref p31, .ref p32])), (p25, .inl (cI, 30, .inl eb)), (p26, .inl (cI, 30, .inl ee))] s.heap := hP
  have hl := lv_entry ([.ref m0, .int x]) (n := 3) (Nat.le_of_ble_eq_true rfl)
  rw [lg_entry_eq]
  generalize (lg_sl ([.ref m0, .int x]) ++ List.replicate (3 - (lg_sl ([.ref m0, .int x])).length) Slot.unset).toArray = ls at hl ⊢
  have hl : lv_has ls 3 [(0, .ref m0), (1, .int x)] := hl
  refine lv_iconst (v := 0) hx hb dX11_eventOn_0 (by decide) ?_
  refine lv_istore_n (lv' := [(2, .int 0), (0, .ref m0), (1, .int x)]) hx hb dX11_eventOn_1 rfl hl (by decide) rfl (fun ls hl => ?_)
  have lp2 : ∀ (n2 : Nat) (i : Nat) (x2_2 : Int32), km - i < n2 → (i ≤ km) → (∀ t, t < i → ¬ (eb t ≤ x ∧ x ≤ ee t)) → x2_2 = nI i → ∀ ls : Array Slot, lv_has ls 3 [(0, .ref m0), (1, .int x), (2, .int x2_2)] → W p l e (headSpec wsX11_eventOn { frames := 1, cells := 0, slots := 0, locals := 25 }).room s m ([.ref m0, .int x] : List Value).toArray below meth c s.heap [] 0 0 (MQ below (vp_Si (fun o9 => o9 = ftOnM eb ee km x)) ([.ref m0, .int x] : List Value).toArray s 0 0 (fun _ => False)) (F0 m 2 ls []) := by
    intro n2
    induction n2 with
    | zero =>
      intro i x2_2  hm2
      exact absurd hm2 (Nat.not_lt_zero _)
    | succ n2 ih2 =>
      intro i x2_2  hm2 hik hno ex2_2  ls hl
      subst ex2_2
      refine lv_iload_n hx hb dX11_eventOn_2 rfl (lv_at hl 2 rfl) ?_
      refine lv_aload_n hx hb dX11_eventOn_3 rfl (lv_at hl 0 rfl) ?_
      refine va_get (D := D) (ci := 11) (v := .int (nI km)) (C := RX11) (T := TX11) (N := 33) hx hb hts (by decide +kernel) hown hK hP 0 rfl rfl 23 (by decide) (hts (.fieldLink RX11 238 "FiberTraceModel" "eventMany" "I") (by decide +kernel)) (fun _ h9 => h9) rfl dX11_eventOn_4 ?_
      refine lv_icmp_ge (tgt := 40) hx hb dX11_eventOn_7 (by decide) (fun c7 => ?_) (fun c7 => ?_)
      · have c7n : km ≤ i := ft_leN (by omega) (by omega) c7
        refine lv_iconst (v := (-1)) hx hb dX11_eventOn_40 (by decide) ?_
        exact W.iret (v := (-1)) hx hb hr (fun t ht hW => ⟨(-1), rfl, (by show ((-1) : Int32) = ftOnM eb ee km x; first | exact (ftFst_some (P := fun i => eb i ≤ x ∧ x ≤ ee i) (by omega) hc8 hno km (by omega)).symm | exact (ftFst_none (P := fun i => eb i ≤ x ∧ x ≤ ee i) (fun t ht => hno t (by omega))).symm), ht⟩) (fun _ h9 => absurd h9 List.not_mem_nil) dX11_eventOn_41
      · have c7n : i < km := ft_nleN (by omega) (by omega) c7
        refine lv_iload_n hx hb dX11_eventOn_10 rfl (lv_at hl 1 rfl) ?_
        refine lv_i2l (v := x.toInt64) hx hb dX11_eventOn_11 rfl ?_
        refine lv_aload_n hx hb dX11_eventOn_12 rfl (lv_at hl 0 rfl) ?_
        refine va_get (D := D) (ci := 11) (v := .ref p25) (C := RX11) (T := TX11) (N := 33) hx hb hts (by decide +kernel) hown hK hP 0 rfl rfl 25 (by decide) (hts (.fieldLink RX11 52 "FiberTraceModel" "begins" "[I") (by decide +kernel)) (fun _ h9 => h9) rfl dX11_eventOn_13 ?_
        refine lv_iload_n hx hb dX11_eventOn_16 rfl (lv_at hl 2 rfl) ?_
        refine va_iald hx hb hK hP 1 0 rfl rfl (vp_in_nI (by omega) (by omega)) dX11_eventOn_17 ?_
        refine ft_top (y := eb i) (ft_clampN (by omega)) ?_
        refine lv_i2l (v := (eb i).toInt64) hx hb dX11_eventOn_18 rfl ?_
        refine lv_aload_n hx hb dX11_eventOn_19 rfl (lv_at hl 0 rfl) ?_
        refine va_get (D := D) (ci := 11) (v := .ref p26) (C := RX11) (T := TX11) (N := 33) hx hb hts (by decide +kernel) hown hK hP 0 rfl rfl 26 (by decide) (hts (.fieldLink RX11 55 "FiberTraceModel" "ends" "[I") (by decide +kernel)) (fun _ h9 => h9) rfl dX11_eventOn_20 ?_
        refine lv_iload_n hx hb dX11_eventOn_23 rfl (lv_at hl 2 rfl) ?_
        refine va_iald hx hb hK hP 2 0 rfl rfl (vp_in_nI (by omega) (by omega)) dX11_eventOn_24 ?_
        refine ft_top (y := ee i) (ft_clampN (by omega)) ?_
        refine lv_i2l (v := (ee i).toInt64) hx hb dX11_eventOn_25 rfl ?_
        refine ft_csi (r := ftB (((eb i).toInt64) ≤ x.toInt64 ∧ x.toInt64 ≤ ((ee i).toInt64))) (va_runS (As := [.long x.toInt64, .long ((eb i).toInt64), .long ((ee i).toInt64)]) (rest := []) ⟨hx, hb, hml, hown, hts⟩ (c_X11_in l D cI cS x.toInt64 ((eb i).toInt64) ((ee i).toInt64)) (va_cwS 3 hts gX11_eventOn_X11_in rfl rfl rfl (by decide +kernel) ⟨Nat.le_of_ble_eq_true rfl, Nat.le_of_ble_eq_true rfl⟩) (ft_preRO hP hKK [] rfl) rfl rfl hl.1 rfl (lv_room (Nat.le_of_ble_eq_true rfl)) dX11_eventOn_26 ⟨Nat.le_of_ble_eq_true rfl, Nat.le_of_ble_eq_true rfl⟩) ?_
        refine ft_top (y := ftB ((eb i) ≤ x ∧ x ≤ (ee i))) (ft_in64 (Int32.toInt_toInt64 _) (Int32.toInt_toInt64 _)) ?_
        refine lv_if_eq (tgt := 34) hx hb dX11_eventOn_29 (by decide) (fun c29 => ?_) (fun c29 => ?_)
        · replace c29 := ftB_eq c29
          have hc9 := c29
          refine lv_iinc (v := nI (i + 1)) (lv' := [(2, .int (nI (i + 1))), (0, .ref m0), (1, .int x)]) hx hb dX11_eventOn_34 hl (k := 2) rfl (ft_inc i) (by decide) rfl (fun ls hl => ?_)
          refine lv_goto (tgt := 2) hx hb dX11_eventOn_37 (by decide) ?_
          exact ih2 (i + 1) (nI (i + 1))  (by omega) (by omega) (by intro t ht; rcases Nat.lt_succ_iff_lt_or_eq.mp ht with r | r; exact hno t r; subst r; exact hc9) (by first | rfl | assumption)  ls (lv_sub hl [1, 2, 0] rfl)
        · replace c29 := ftB_ne c29
          have hc8 := c29
          refine lv_iload_n hx hb dX11_eventOn_32 rfl (lv_at hl 2 rfl) ?_
          exact W.iret (v := nI i) hx hb hr (fun t ht hW => ⟨nI i, rfl, (by show (nI i : Int32) = ftOnM eb ee km x; first | exact (ftFst_some (P := fun i => eb i ≤ x ∧ x ≤ ee i) (by omega) hc8 hno km (by omega)).symm | exact (ftFst_none (P := fun i => eb i ≤ x ∧ x ≤ ee i) (fun t ht => hno t (by omega))).symm), ht⟩) (fun _ h9 => absurd h9 List.not_mem_nil) dX11_eventOn_33
  exact lp2 _ 0 0  (Nat.lt_succ_self _) (by omega) (by intro t ht; omega) (by rfl) ls (lv_sub hl [1, 2, 0] rfl)
set_option maxHeartbeats 4000000 in
set_option maxRecDepth 100000 in
theorem c_X11_eventNear (l : Launch) (D : va_G) (cI cS : ClassId) (m0 p0 p1 p3 p5 p10 p12 p13 p14 p16 p17 p19 p20 p21 p22 p25 p26 p27 p28 p29 p30 p31 p32 : Nat) (i2 i4 i6 i7 i8 i9 i11 i15 i18 i24 : Int32) (w eb ek : Nat → Int32) (km : Nat) (x : Int32) (hk30 : km ≤ 30) : Met l yX11_eventNear wsX11_eventNear ({ frames := 1, cells := 0, slots := 0, locals := 21 }) (ftRO D cI cS [.ref m0, .int x] [(m0, .inr (11, [.ref p0, .ref p1, .int i2, .ref p3, .int i4, .ref p5, .int i6, .int i7, .int i8, .int i9, .ref p10, .int i11, .ref p12, .ref p13, .ref p14, .int i15, .ref p16, .ref p17, .int i18, .ref p19, .ref p20, .ref p21, .ref p22, .int (nI km), .int i24, .ref p25, .ref p26, .ref p27, .ref p28, .ref p29, .ref p30, .ref p31, .ref p32])), (p0, .inl (cI, 1439, .inl w)), (p25, .inl (cI, 30, .inl eb)), (p29, .inl (cI, 30, .inl ek))]) (vp_Si (fun o9 => o9 = ftNearM eb ek (w (44 + 9)) km x)) 0 0 (fun _ => False) := by
  refine Met.ofW (cc := cX11_eventNear) (maxL := 3) (ret := (some .int)) (by decide) rfl ?_
  intro p e s m args below meth c s₁ B hml hv
  obtain ⟨rfl, hP, hKK⟩ := hv
  have hK := hKK.1
  have hx := B.exec
  have hb := B.bytes
  have hr := B.returns
  have hts := atoms_spec (ws := wsX11_eventNear) B.pre
  have hown : s.vm.findClass RX11 = some m.cls := findClass_of_methodNamed B.named
  have hlocks := B.notSynchronized
  have hP : va_P D vwCl [(m0, .inr (11, [.ref p0, .ref p1, .int i2, .ref p3, .int i4, .ref p5, .int i6, .int i7, .int i8, .int i9, .ref p10, .int i11, .ref p12, .ref p13, .ref p14, .int i15, .ref p16, .ref p17, .int i18, .ref p19, .ref p20, .ref p21, .ref p22, .int (nI km), .int i24, .ref p25, .ref p26, .ref p27, .ref p28, .ref p29, .ref p30, .ref p31, .ref p32])), (p0, .inl (cI, 1439, .inl w)), (p25, .inl (cI, 30, .inl eb)), (p29, .inl (cI, 30, .inl ek))] s.heap := hP
  have hl := lv_entry ([.ref m0, .int x]) (n := 3) (Nat.le_of_ble_eq_true rfl)
  rw [lg_entry_eq]
  generalize (lg_sl ([.ref m0, .int x]) ++ List.replicate (3 - (lg_sl ([.ref m0, .int x])).length) Slot.unset).toArray = ls at hl ⊢
  have hl : lv_has ls 3 [(0, .ref m0), (1, .int x)] := hl
  refine lv_iconst (v := 0) hx hb dX11_eventNear_0 (by decide) ?_
  refine lv_istore_n (lv' := [(2, .int 0), (0, .ref m0), (1, .int x)]) hx hb dX11_eventNear_1 rfl hl (by decide) rfl (fun ls hl => ?_)
  have lp2 : ∀ (n2 : Nat) (i : Nat) (x2_2 : Int32), km - i < n2 → (i ≤ km) → (∀ t, t < i → ¬ (¬ ek t = 2 ∧ ftNear (w (44 + 9)) (eb t) x)) → x2_2 = nI i → ∀ ls : Array Slot, lv_has ls 3 [(0, .ref m0), (1, .int x), (2, .int x2_2)] → W p l e (headSpec wsX11_eventNear { frames := 1, cells := 0, slots := 0, locals := 21 }).room s m ([.ref m0, .int x] : List Value).toArray below meth c s.heap [] 0 0 (MQ below (vp_Si (fun o9 => o9 = ftNearM eb ek (w (44 + 9)) km x)) ([.ref m0, .int x] : List Value).toArray s 0 0 (fun _ => False)) (F0 m 2 ls []) := by
    intro n2
    induction n2 with
    | zero =>
      intro i x2_2  hm2
      exact absurd hm2 (Nat.not_lt_zero _)
    | succ n2 ih2 =>
      intro i x2_2  hm2 hik hno ex2_2  ls hl
      subst ex2_2
      refine lv_iload_n hx hb dX11_eventNear_2 rfl (lv_at hl 2 rfl) ?_
      refine lv_aload_n hx hb dX11_eventNear_3 rfl (lv_at hl 0 rfl) ?_
      refine va_get (D := D) (ci := 11) (v := .int (nI km)) (C := RX11) (T := TX11) (N := 33) hx hb hts (by decide +kernel) hown hK hP 0 rfl rfl 23 (by decide) (hts (.fieldLink RX11 238 "FiberTraceModel" "eventMany" "I") (by decide +kernel)) (fun _ h9 => h9) rfl dX11_eventNear_4 ?_
      refine lv_icmp_ge (tgt := 48) hx hb dX11_eventNear_7 (by decide) (fun c7 => ?_) (fun c7 => ?_)
      · have c7n : km ≤ i := ft_leN (by omega) (by omega) c7
        refine lv_iconst (v := (-1)) hx hb dX11_eventNear_48 (by decide) ?_
        exact W.iret (v := (-1)) hx hb hr (fun t ht hW => ⟨(-1), rfl, (by show ((-1) : Int32) = ftNearM eb ek (w (44 + 9)) km x; first | exact (ftFst_some (P := fun i => ¬ ek i = 2 ∧ ftNear (w (44 + 9)) (eb i) x) (by omega) hc8 hno km (by omega)).symm | exact (ftFst_none (P := fun i => ¬ ek i = 2 ∧ ftNear (w (44 + 9)) (eb i) x) (fun t ht => hno t (by omega))).symm), ht⟩) (fun _ h9 => absurd h9 List.not_mem_nil) dX11_eventNear_49
      · have c7n : i < km := ft_nleN (by omega) (by omega) c7
        refine lv_aload_n hx hb dX11_eventNear_10 rfl (lv_at hl 0 rfl) ?_
        refine va_get (D := D) (ci := 11) (v := .ref p29) (C := RX11) (T := TX11) (N := 33) hx hb hts (by decide +kernel) hown hK hP 0 rfl rfl 29 (by decide) (hts (.fieldLink RX11 64 "FiberTraceModel" "kinds" "[I") (by decide +kernel)) (fun _ h9 => h9) rfl dX11_eventNear_11 ?_
        refine lv_iload_n hx hb dX11_eventNear_14 rfl (lv_at hl 2 rfl) ?_
        refine va_iald hx hb hK hP 3 0 rfl rfl (vp_in_nI (by omega) (by omega)) dX11_eventNear_15 ?_
        refine ft_top (y := ek i) (ft_clampN (by omega)) ?_
        refine lv_iconst (v := 2) hx hb dX11_eventNear_16 (by decide) ?_
        refine lv_icmp_eq (tgt := 42) hx hb dX11_eventNear_17 (by decide) (fun c17 => ?_) (fun c17 => ?_)
        · have hc9 : ¬ (¬ ek i = 2 ∧ ftNear (w (44 + 9)) (eb i) x) := fun q => q.1 c17
          refine lv_iinc (v := nI (i + 1)) (lv' := [(2, .int (nI (i + 1))), (0, .ref m0), (1, .int x)]) hx hb dX11_eventNear_42 hl (k := 2) rfl (ft_inc i) (by decide) rfl (fun ls hl => ?_)
          refine lv_goto (tgt := 2) hx hb dX11_eventNear_45 (by decide) ?_
          exact ih2 (i + 1) (nI (i + 1))  (by omega) (by omega) (by intro t ht; rcases Nat.lt_succ_iff_lt_or_eq.mp ht with r | r; exact hno t r; subst r; exact hc9) (by first | rfl | assumption)  ls (lv_sub hl [1, 2, 0] rfl)
        · refine lv_aload_n hx hb dX11_eventNear_20 rfl (lv_at hl 0 rfl) ?_
          refine va_get (D := D) (ci := 11) (v := .ref p25) (C := RX11) (T := TX11) (N := 33) hx hb hts (by decide +kernel) hown hK hP 0 rfl rfl 25 (by decide) (hts (.fieldLink RX11 52 "FiberTraceModel" "begins" "[I") (by decide +kernel)) (fun _ h9 => h9) rfl dX11_eventNear_21 ?_
          refine lv_iload_n hx hb dX11_eventNear_24 rfl (lv_at hl 2 rfl) ?_
          refine va_iald hx hb hK hP 2 0 rfl rfl (vp_in_nI (by omega) (by omega)) dX11_eventNear_25 ?_
          refine ft_top (y := eb i) (ft_clampN (by omega)) ?_
          refine lv_iload_n hx hb dX11_eventNear_26 rfl (lv_at hl 1 rfl) ?_
          refine lv_isub hx hb dX11_eventNear_27 ?_
          refine ft_csi (r := ftSz ((eb i) - x)) (va_runS (As := [.int ((eb i) - x)]) (rest := []) ⟨hx, hb, hml, hown, hts⟩ (c_X11_sizeOf l D cI cS ((eb i) - x)) (va_cwS 1 hts gX11_eventNear_X11_sizeOf rfl rfl rfl (by decide +kernel) ⟨Nat.le_of_ble_eq_true rfl, Nat.le_of_ble_eq_true rfl⟩) (ft_preRO hP hKK [] rfl) rfl rfl hl.1 rfl (lv_room (Nat.le_of_ble_eq_true rfl)) dX11_eventNear_28 ⟨Nat.le_of_ble_eq_true rfl, Nat.le_of_ble_eq_true rfl⟩) ?_
          refine lv_aload_n hx hb dX11_eventNear_31 rfl (lv_at hl 0 rfl) ?_
          refine lv_bipush (v := 9) hx hb dX11_eventNear_32 (by decide) ?_
          refine ft_csi (r := w (44 + 9)) (va_runV (C := RX11) (As := [.int 9]) (rest := [.int (ftSz ((eb i) - x))]) ⟨hx, hb, hml, hown, hts⟩ (c_X11_setting l D cI cS m0 p0 p1 p3 p5 p10 p12 p13 p14 p16 p17 p19 p20 p21 p22 p25 p26 p27 p28 p29 p30 p31 p32 i2 i4 i6 i7 i8 i9 i11 i15 i18 (nI km) i24 w 9 (by first | assumption | omega)) (cwV 1 hts gX11_eventNear_X11_setting rfl rfl rfl (by decide +kernel) ⟨Nat.le_of_ble_eq_true rfl, Nat.le_of_ble_eq_true rfl⟩) (ft_preROV (ci := 11) (q0 := 0) hP hKK [0, 1] rfl rfl rfl) rfl rfl hl.1 rfl (lv_room (Nat.le_of_ble_eq_true rfl)) dX11_eventNear_34 ⟨Nat.le_of_ble_eq_true rfl, Nat.le_of_ble_eq_true rfl⟩) ?_
          refine lv_icmp_gt (tgt := 42) hx hb dX11_eventNear_37 (by decide) (fun c37 => ?_) (fun c37 => ?_)
          · have hc9 : ¬ (¬ ek i = 2 ∧ ftNear (w (44 + 9)) (eb i) x) := fun q => absurd (ftSz_abs _ ▸ q.2) (Int32.not_le.mpr c37)
            refine lv_iinc (v := nI (i + 1)) (lv' := [(2, .int (nI (i + 1))), (0, .ref m0), (1, .int x)]) hx hb dX11_eventNear_42 hl (k := 2) rfl (ft_inc i) (by decide) rfl (fun ls hl => ?_)
            refine lv_goto (tgt := 2) hx hb dX11_eventNear_45 (by decide) ?_
            exact ih2 (i + 1) (nI (i + 1))  (by omega) (by omega) (by intro t ht; rcases Nat.lt_succ_iff_lt_or_eq.mp ht with r | r; exact hno t r; subst r; exact hc9) (by first | rfl | assumption)  ls (lv_sub hl [1, 2, 0] rfl)
          · have hc8 : ¬ ek i = 2 ∧ ftNear (w (44 + 9)) (eb i) x := ⟨c17, by unfold ftNear; rw [← ftSz_abs]; exact Int32.not_lt.mp c37⟩
            refine lv_iload_n hx hb dX11_eventNear_40 rfl (lv_at hl 2 rfl) ?_
            exact W.iret (v := nI i) hx hb hr (fun t ht hW => ⟨nI i, rfl, (by show (nI i : Int32) = ftNearM eb ek (w (44 + 9)) km x; first | exact (ftFst_some (P := fun i => ¬ ek i = 2 ∧ ftNear (w (44 + 9)) (eb i) x) (by omega) hc8 hno km (by omega)).symm | exact (ftFst_none (P := fun i => ¬ ek i = 2 ∧ ftNear (w (44 + 9)) (eb i) x) (fun t ht => hno t (by omega))).symm), ht⟩) (fun _ h9 => absurd h9 List.not_mem_nil) dX11_eventNear_41
  exact lp2 _ 0 0  (Nat.lt_succ_self _) (by omega) (by intro t ht; omega) (by rfl) ls (lv_sub hl [1, 2, 0] rfl)
set_option maxHeartbeats 4000000 in
set_option maxRecDepth 100000 in
theorem c_X11_stands (l : Launch) (D : va_G) (cI cS : ClassId) (m0 p0 p1 p3 p5 p10 p12 p13 p14 p16 p17 p19 p20 p21 p22 p25 p26 p27 p28 p29 p30 p31 p32 : Nat) (i2 i4 i6 i7 i8 i9 i11 i15 i18 i24 : Int32) (w eb ee ek : Nat → Int32) (km k : Nat) (hk30 : km ≤ 30) (hk10 : k < 10) : Met l yX11_stands wsX11_stands ({ frames := 2, cells := 0, slots := 0, locals := 47 }) (ftRO D cI cS [.ref m0, .int (nI k)] [(m0, .inr (11, [.ref p0, .ref p1, .int i2, .ref p3, .int i4, .ref p5, .int i6, .int i7, .int i8, .int i9, .ref p10, .int i11, .ref p12, .ref p13, .ref p14, .int i15, .ref p16, .ref p17, .int i18, .ref p19, .ref p20, .ref p21, .ref p22, .int (nI km), .int i24, .ref p25, .ref p26, .ref p27, .ref p28, .ref p29, .ref p30, .ref p31, .ref p32])), (p0, .inl (cI, 1439, .inl w)), (p25, .inl (cI, 30, .inl eb)), (p26, .inl (cI, 30, .inl ee)), (p29, .inl (cI, 30, .inl ek))]) (vp_Si (fun o9 => o9 = ftStandM eb ee ek w km k)) 0 0 (fun _ => False) := by
  refine Met.ofW (cc := cX11_stands) (maxL := 2) (ret := (some .int)) (by decide) rfl ?_
  intro p e s m args below meth c s₁ B hml hv
  obtain ⟨rfl, hP, hKK⟩ := hv
  have hK := hKK.1
  have hx := B.exec
  have hb := B.bytes
  have hr := B.returns
  have hts := atoms_spec (ws := wsX11_stands) B.pre
  have hown : s.vm.findClass RX11 = some m.cls := findClass_of_methodNamed B.named
  have hlocks := B.notSynchronized
  have hP : va_P D vwCl [(m0, .inr (11, [.ref p0, .ref p1, .int i2, .ref p3, .int i4, .ref p5, .int i6, .int i7, .int i8, .int i9, .ref p10, .int i11, .ref p12, .ref p13, .ref p14, .int i15, .ref p16, .ref p17, .int i18, .ref p19, .ref p20, .ref p21, .ref p22, .int (nI km), .int i24, .ref p25, .ref p26, .ref p27, .ref p28, .ref p29, .ref p30, .ref p31, .ref p32])), (p0, .inl (cI, 1439, .inl w)), (p25, .inl (cI, 30, .inl eb)), (p26, .inl (cI, 30, .inl ee)), (p29, .inl (cI, 30, .inl ek))] s.heap := hP
  have hl := lv_entry ([.ref m0, .int (nI k)]) (n := 2) (Nat.le_of_ble_eq_true rfl)
  rw [lg_entry_eq]
  generalize (lg_sl ([.ref m0, .int (nI k)]) ++ List.replicate (2 - (lg_sl ([.ref m0, .int (nI k)])).length) Slot.unset).toArray = ls at hl ⊢
  have hl : lv_has ls 2 [(0, .ref m0), (1, .int (nI k))] := hl
  refine lv_aload_n hx hb dX11_stands_0 rfl (lv_at hl 0 rfl) ?_
  refine lv_iload_n hx hb dX11_stands_1 rfl (lv_at hl 1 rfl) ?_
  refine lv_iconst (v := 0) hx hb dX11_stands_2 (by decide) ?_
  refine ft_csi (r := w (4 + 4 * k + 0)) (va_runV (C := RX11) (As := [.int (nI k), .int 0]) (rest := []) ⟨hx, hb, hml, hown, hts⟩ (c_X11_at l D cI cS m0 p0 p1 p3 p5 p10 p12 p13 p14 p16 p17 p19 p20 p21 p22 p25 p26 p27 p28 p29 p30 p31 p32 i2 i4 i6 i7 i8 i9 i11 i15 i18 (nI km) i24 w k 0 (by first | assumption | omega) (by first | assumption | omega)) (cwV 2 hts gX11_stands_X11_at rfl rfl rfl (by decide +kernel) ⟨Nat.le_of_ble_eq_true rfl, Nat.le_of_ble_eq_true rfl⟩) (ft_preROV (ci := 11) (q0 := 0) hP hKK [0, 1] rfl rfl rfl) rfl rfl hl.1 rfl (lv_room (Nat.le_of_ble_eq_true rfl)) dX11_stands_3 ⟨Nat.le_of_ble_eq_true rfl, Nat.le_of_ble_eq_true rfl⟩) ?_
  refine lv_iconst (v := 2) hx hb dX11_stands_6 (by decide) ?_
  refine lv_icmp_ne (tgt := 12) hx hb dX11_stands_7 (by decide) (fun c7 => ?_) (fun c7 => ?_)
  · refine lv_aload_n hx hb dX11_stands_12 rfl (lv_at hl 0 rfl) ?_
    refine lv_aload_n hx hb dX11_stands_13 rfl (lv_at hl 0 rfl) ?_
    refine lv_iload_n hx hb dX11_stands_14 rfl (lv_at hl 1 rfl) ?_
    refine lv_iconst (v := 1) hx hb dX11_stands_15 (by decide) ?_
    refine ft_csi (r := w (4 + 4 * k + 1)) (va_runV (C := RX11) (As := [.int (nI k), .int 1]) (rest := [.ref m0]) ⟨hx, hb, hml, hown, hts⟩ (c_X11_at l D cI cS m0 p0 p1 p3 p5 p10 p12 p13 p14 p16 p17 p19 p20 p21 p22 p25 p26 p27 p28 p29 p30 p31 p32 i2 i4 i6 i7 i8 i9 i11 i15 i18 (nI km) i24 w k 1 (by first | assumption | omega) (by first | assumption | omega)) (cwV 2 hts gX11_stands_X11_at rfl rfl rfl (by decide +kernel) ⟨Nat.le_of_ble_eq_true rfl, Nat.le_of_ble_eq_true rfl⟩) (ft_preROV (ci := 11) (q0 := 0) hP hKK [0, 1] rfl rfl rfl) rfl rfl hl.1 rfl (lv_room (Nat.le_of_ble_eq_true rfl)) dX11_stands_16 ⟨Nat.le_of_ble_eq_true rfl, Nat.le_of_ble_eq_true rfl⟩) ?_
    refine ft_csi (r := ftNearM eb ek (w (44 + 9)) km (w (4 + 4 * k + 1))) (va_runV (C := RX11) (As := [.int (w (4 + 4 * k + 1))]) (rest := []) ⟨hx, hb, hml, hown, hts⟩ (c_X11_eventNear l D cI cS m0 p0 p1 p3 p5 p10 p12 p13 p14 p16 p17 p19 p20 p21 p22 p25 p26 p27 p28 p29 p30 p31 p32 i2 i4 i6 i7 i8 i9 i11 i15 i18 i24 w eb ek km (w (4 + 4 * k + 1)) (by first | assumption | omega)) (cwV 1 hts gX11_stands_X11_eventNear rfl rfl rfl (by decide +kernel) ⟨Nat.le_of_ble_eq_true rfl, Nat.le_of_ble_eq_true rfl⟩) (ft_preROV (ci := 11) (q0 := 0) hP hKK [0, 1, 2, 4] rfl rfl rfl) rfl rfl hl.1 rfl (lv_room (Nat.le_of_ble_eq_true rfl)) dX11_stands_19 ⟨Nat.le_of_ble_eq_true rfl, Nat.le_of_ble_eq_true rfl⟩) ?_
    refine lv_if_lt (tgt := 29) hx hb dX11_stands_22 (by decide) (fun c22 => ?_) (fun c22 => ?_)
    · refine lv_aload_n hx hb dX11_stands_29 rfl (lv_at hl 0 rfl) ?_
      refine lv_aload_n hx hb dX11_stands_30 rfl (lv_at hl 0 rfl) ?_
      refine lv_iload_n hx hb dX11_stands_31 rfl (lv_at hl 1 rfl) ?_
      refine lv_iconst (v := 1) hx hb dX11_stands_32 (by decide) ?_
      refine ft_csi (r := w (4 + 4 * k + 1)) (va_runV (C := RX11) (As := [.int (nI k), .int 1]) (rest := [.ref m0]) ⟨hx, hb, hml, hown, hts⟩ (c_X11_at l D cI cS m0 p0 p1 p3 p5 p10 p12 p13 p14 p16 p17 p19 p20 p21 p22 p25 p26 p27 p28 p29 p30 p31 p32 i2 i4 i6 i7 i8 i9 i11 i15 i18 (nI km) i24 w k 1 (by first | assumption | omega) (by first | assumption | omega)) (cwV 2 hts gX11_stands_X11_at rfl rfl rfl (by decide +kernel) ⟨Nat.le_of_ble_eq_true rfl, Nat.le_of_ble_eq_true rfl⟩) (ft_preROV (ci := 11) (q0 := 0) hP hKK [0, 1] rfl rfl rfl) rfl rfl hl.1 rfl (lv_room (Nat.le_of_ble_eq_true rfl)) dX11_stands_33 ⟨Nat.le_of_ble_eq_true rfl, Nat.le_of_ble_eq_true rfl⟩) ?_
      refine ft_csi (r := ftOnM eb ee km (w (4 + 4 * k + 1))) (va_runV (C := RX11) (As := [.int (w (4 + 4 * k + 1))]) (rest := []) ⟨hx, hb, hml, hown, hts⟩ (c_X11_eventOn l D cI cS m0 p0 p1 p3 p5 p10 p12 p13 p14 p16 p17 p19 p20 p21 p22 p25 p26 p27 p28 p29 p30 p31 p32 i2 i4 i6 i7 i8 i9 i11 i15 i18 i24 eb ee km (w (4 + 4 * k + 1)) (by first | assumption | omega)) (cwV 1 hts gX11_stands_X11_eventOn rfl rfl rfl (by decide +kernel) ⟨Nat.le_of_ble_eq_true rfl, Nat.le_of_ble_eq_true rfl⟩) (ft_preROV (ci := 11) (q0 := 0) hP hKK [0, 2, 3] rfl rfl rfl) rfl rfl hl.1 rfl (lv_room (Nat.le_of_ble_eq_true rfl)) dX11_stands_36 ⟨Nat.le_of_ble_eq_true rfl, Nat.le_of_ble_eq_true rfl⟩) ?_
      refine lv_if_lt (tgt := 46) hx hb dX11_stands_39 (by decide) (fun c39 => ?_) (fun c39 => ?_)
      · refine lv_iconst (v := 2) hx hb dX11_stands_46 (by decide) ?_
        exact W.iret (v := 2) hx hb hr (fun t ht hW => ⟨2, rfl, (by show (2 : Int32) = ftStandM eb ee ek w km k; unfold ftStandM; first | (rw [if_pos c7]; done) | (rw [if_neg c7, if_pos (Int32.not_lt.mp c22)]; done) | (rw [if_neg c7, if_neg (Int32.not_le.mpr c22), if_pos (Int32.not_lt.mp c39)]; done) | (rw [if_neg c7, if_neg (Int32.not_le.mpr c22), if_neg (Int32.not_le.mpr c39)]; done)), ht⟩) (fun _ h9 => absurd h9 List.not_mem_nil) dX11_stands_47
      · refine lv_iconst (v := 1) hx hb dX11_stands_42 (by decide) ?_
        refine lv_goto (tgt := 47) hx hb dX11_stands_43 (by decide) ?_
        exact W.iret (v := 1) hx hb hr (fun t ht hW => ⟨1, rfl, (by show (1 : Int32) = ftStandM eb ee ek w km k; unfold ftStandM; first | (rw [if_pos c7]; done) | (rw [if_neg c7, if_pos (Int32.not_lt.mp c22)]; done) | (rw [if_neg c7, if_neg (Int32.not_le.mpr c22), if_pos (Int32.not_lt.mp c39)]; done) | (rw [if_neg c7, if_neg (Int32.not_le.mpr c22), if_neg (Int32.not_le.mpr c39)]; done)), ht⟩) (fun _ h9 => absurd h9 List.not_mem_nil) dX11_stands_47
    · refine lv_iconst (v := 0) hx hb dX11_stands_25 (by decide) ?_
      refine lv_goto (tgt := 47) hx hb dX11_stands_26 (by decide) ?_
      exact W.iret (v := 0) hx hb hr (fun t ht hW => ⟨0, rfl, (by show (0 : Int32) = ftStandM eb ee ek w km k; unfold ftStandM; first | (rw [if_pos c7]; done) | (rw [if_neg c7, if_pos (Int32.not_lt.mp c22)]; done) | (rw [if_neg c7, if_neg (Int32.not_le.mpr c22), if_pos (Int32.not_lt.mp c39)]; done) | (rw [if_neg c7, if_neg (Int32.not_le.mpr c22), if_neg (Int32.not_le.mpr c39)]; done)), ht⟩) (fun _ h9 => absurd h9 List.not_mem_nil) dX11_stands_47
  · refine lv_iconst (v := 2) hx hb dX11_stands_10 (by decide) ?_
    exact W.iret (v := 2) hx hb hr (fun t ht hW => ⟨2, rfl, (by show (2 : Int32) = ftStandM eb ee ek w km k; unfold ftStandM; first | (rw [if_pos c7]; done) | (rw [if_neg c7, if_pos (Int32.not_lt.mp c22)]; done) | (rw [if_neg c7, if_neg (Int32.not_le.mpr c22), if_pos (Int32.not_lt.mp c39)]; done) | (rw [if_neg c7, if_neg (Int32.not_le.mpr c22), if_neg (Int32.not_le.mpr c39)]; done)), ht⟩) (fun _ h9 => absurd h9 List.not_mem_nil) dX11_stands_11
set_option maxHeartbeats 4000000 in
set_option maxRecDepth 100000 in
theorem c_X11_standing (l : Launch) (D : va_G) (cI cS : ClassId) (m0 p0 p1 p3 p5 p10 p12 p13 p14 p16 p17 p19 p20 p21 p22 p25 p26 p27 p28 p29 p30 p31 p32 : Nat) (i2 i4 i6 i7 i8 i9 i11 i15 i18 i24 : Int32) (w eb ee ek : Nat → Int32) (km n : Nat) (ho : Int32) (hk30 : km ≤ 30) (hw3 : w 3 = nI n) (hn : n ≤ 10) : Met l yX11_standing wsX11_standing ({ frames := 3, cells := 0, slots := 0, locals := 68 }) (ftRO D cI cS [.ref m0, .int ho] [(m0, .inr (11, [.ref p0, .ref p1, .int i2, .ref p3, .int i4, .ref p5, .int i6, .int i7, .int i8, .int i9, .ref p10, .int i11, .ref p12, .ref p13, .ref p14, .int i15, .ref p16, .ref p17, .int i18, .ref p19, .ref p20, .ref p21, .ref p22, .int (nI km), .int i24, .ref p25, .ref p26, .ref p27, .ref p28, .ref p29, .ref p30, .ref p31, .ref p32])), (p0, .inl (cI, 1439, .inl w)), (p25, .inl (cI, 30, .inl eb)), (p26, .inl (cI, 30, .inl ee)), (p29, .inl (cI, 30, .inl ek))]) (vp_Si (fun o9 => o9 = ftStandsM eb ee ek w km ho n)) 0 0 (fun _ => False) := by
  refine Met.ofW (cc := cX11_standing) (maxL := 4) (ret := (some .int)) (by decide) rfl ?_
  intro p e s m args below meth c s₁ B hml hv
  obtain ⟨rfl, hP, hKK⟩ := hv
  have hK := hKK.1
  have hx := B.exec
  have hb := B.bytes
  have hr := B.returns
  have hts := atoms_spec (ws := wsX11_standing) B.pre
  have hown : s.vm.findClass RX11 = some m.cls := findClass_of_methodNamed B.named
  have hlocks := B.notSynchronized
  have hP : va_P D vwCl [(m0, .inr (11, [.ref p0, .ref p1, .int i2, .ref p3, .int i4, .ref p5, .int i6, .int i7, .int i8, .int i9, .ref p10, .int i11, .ref p12, .ref p13, .ref p14, .int i15, .ref p16, .ref p17, .int i18, .ref p19, .ref p20, .ref p21, .ref p22, .int (nI km), .int i24, .ref p25, .ref p26, .ref p27, .ref p28, .ref p29, .ref p30, .ref p31, .ref p32])), (p0, .inl (cI, 1439, .inl w)), (p25, .inl (cI, 30, .inl eb)), (p26, .inl (cI, 30, .inl ee)), (p29, .inl (cI, 30, .inl ek))] s.heap := hP
  have hl := lv_entry ([.ref m0, .int ho]) (n := 4) (Nat.le_of_ble_eq_true rfl)
  rw [lg_entry_eq]
  generalize (lg_sl ([.ref m0, .int ho]) ++ List.replicate (4 - (lg_sl ([.ref m0, .int ho])).length) Slot.unset).toArray = ls at hl ⊢
  have hl : lv_has ls 4 [(0, .ref m0), (1, .int ho)] := hl
  refine lv_iconst (v := 0) hx hb dX11_standing_0 (by decide) ?_
  refine lv_istore_n (lv' := [(2, .int 0), (0, .ref m0), (1, .int ho)]) hx hb dX11_standing_1 rfl hl (by decide) rfl (fun ls hl => ?_)
  refine lv_iconst (v := 0) hx hb dX11_standing_2 (by decide) ?_
  refine lv_istore_n (lv' := [(3, .int 0), (2, .int 0), (0, .ref m0), (1, .int ho)]) hx hb dX11_standing_3 rfl hl (by decide) rfl (fun ls hl => ?_)
  have lp4 : ∀ (n4 : Nat) (k : Nat) (x4_2 : Int32) (x4_3 : Int32), n - k < n4 → (k ≤ n) → x4_2 = ftStandsM eb ee ek w km ho k → x4_3 = nI k → ∀ ls : Array Slot, lv_has ls 4 [(0, .ref m0), (1, .int ho), (2, .int x4_2), (3, .int x4_3)] → W p l e (headSpec wsX11_standing { frames := 3, cells := 0, slots := 0, locals := 68 }).room s m ([.ref m0, .int ho] : List Value).toArray below meth c s.heap [] 0 0 (MQ below (vp_Si (fun o9 => o9 = ftStandsM eb ee ek w km ho n)) ([.ref m0, .int ho] : List Value).toArray s 0 0 (fun _ => False)) (F0 m 4 ls []) := by
    intro n4
    induction n4 with
    | zero =>
      intro k x4_2 x4_3  hm4
      exact absurd hm4 (Nat.not_lt_zero _)
    | succ n4 ih4 =>
      intro k x4_2 x4_3  hm4 hkn ex4_2 ex4_3  ls hl
      subst ex4_3
      refine lv_iload_n hx hb dX11_standing_4 rfl (lv_at hl 3 rfl) ?_
      refine lv_aload_n hx hb dX11_standing_5 rfl (lv_at hl 0 rfl) ?_
      refine va_get (D := D) (ci := 11) (v := .ref p0) (C := RX11) (T := TX11) (N := 33) hx hb hts (by decide +kernel) hown hK hP 0 rfl rfl 0 (by decide) (hts (.fieldLink RX11 7 "FiberTraceModel" "now" "[I") (by decide +kernel)) (fun _ h9 => h9) rfl dX11_standing_6 ?_
      refine lv_iconst (v := 3) hx hb dX11_standing_9 (by decide) ?_
      refine va_iald hx hb hK hP 1 0 rfl rfl (vp_in_nI (n := 3) (by omega) (by omega)) dX11_standing_10 ?_
      refine ft_top (y := w 3) rfl ?_
      refine ft_top (y := nI n) hw3 ?_
      refine lv_icmp_ge (tgt := 47) hx hb dX11_standing_11 (by decide) (fun c11 => ?_) (fun c11 => ?_)
      · have c11n : n ≤ k := ft_leN (by omega) (by omega) c11
        refine lv_iload_n hx hb dX11_standing_47 rfl (lv_at hl 2 rfl) ?_
        exact W.iret (v := x4_2) hx hb hr (fun t ht hW => ⟨x4_2, rfl, (by show (x4_2 : Int32) = ftStandsM eb ee ek w km ho n; (obtain rfl : k = n := by omega); exact ex4_2), ht⟩) (fun _ h9 => absurd h9 List.not_mem_nil) dX11_standing_48
      · have c11n : k < n := ft_nleN (by omega) (by omega) c11
        refine lv_iload_n hx hb dX11_standing_14 rfl (lv_at hl 2 rfl) ?_
        refine lv_aload_n hx hb dX11_standing_15 rfl (lv_at hl 0 rfl) ?_
        refine lv_iload_n hx hb dX11_standing_16 rfl (lv_at hl 3 rfl) ?_
        refine lv_iconst (v := 0) hx hb dX11_standing_17 (by decide) ?_
        refine ft_csi (r := w (4 + 4 * k + 0)) (va_runV (C := RX11) (As := [.int (nI k), .int 0]) (rest := [.int x4_2]) ⟨hx, hb, hml, hown, hts⟩ (c_X11_at l D cI cS m0 p0 p1 p3 p5 p10 p12 p13 p14 p16 p17 p19 p20 p21 p22 p25 p26 p27 p28 p29 p30 p31 p32 i2 i4 i6 i7 i8 i9 i11 i15 i18 (nI km) i24 w k 0 (by first | assumption | omega) (by first | assumption | omega)) (cwV 2 hts gX11_standing_X11_at rfl rfl rfl (by decide +kernel) ⟨Nat.le_of_ble_eq_true rfl, Nat.le_of_ble_eq_true rfl⟩) (ft_preROV (ci := 11) (q0 := 0) hP hKK [0, 1] rfl rfl rfl) rfl rfl hl.1 rfl (lv_room (Nat.le_of_ble_eq_true rfl)) dX11_standing_18 ⟨Nat.le_of_ble_eq_true rfl, Nat.le_of_ble_eq_true rfl⟩) ?_
        refine lv_iconst (v := 2) hx hb dX11_standing_21 (by decide) ?_
        refine lv_icmp_ge (tgt := 38) hx hb dX11_standing_22 (by decide) (fun c22 => ?_) (fun c22 => ?_)
        · have hc7 : ¬ (w (4 + 4 * k + 0) < 2 ∧ ftStandM eb ee ek w km k = ho) := fun q => absurd q.1 (Int32.not_lt.mpr c22)
          refine lv_iconst (v := 0) hx hb dX11_standing_38 (by decide) ?_
          refine lv_iadd hx hb dX11_standing_39 ?_
          refine lv_istore_n (lv' := [(2, .int (x4_2 + 0)), (0, .ref m0), (1, .int ho), (3, .int (nI k))]) hx hb dX11_standing_40 rfl hl (by decide) rfl (fun ls hl => ?_)
          refine lv_iinc (v := nI (k + 1)) (lv' := [(3, .int (nI (k + 1))), (2, .int (x4_2 + 0)), (0, .ref m0), (1, .int ho)]) hx hb dX11_standing_41 hl (k := 3) rfl (ft_inc k) (by decide) rfl (fun ls hl => ?_)
          refine lv_goto (tgt := 4) hx hb dX11_standing_44 (by decide) ?_
          exact ih4 (k + 1) (x4_2 + 0) (nI (k + 1))  (by omega) (by omega) (by first | exact ftCount_t ex4_2 ⟨Int32.not_le.mp c22, c31⟩ | exact ftCount_f ex4_2 hc7) (by first | rfl | assumption)  ls (lv_sub hl [2, 3, 1, 0] rfl)
        · refine lv_aload_n hx hb dX11_standing_25 rfl (lv_at hl 0 rfl) ?_
          refine lv_iload_n hx hb dX11_standing_26 rfl (lv_at hl 3 rfl) ?_
          refine ft_csi (r := ftStandM eb ee ek w km k) (va_runV (C := RX11) (As := [.int (nI k)]) (rest := [.int x4_2]) ⟨hx, hb, hml, hown, hts⟩ (c_X11_stands l D cI cS m0 p0 p1 p3 p5 p10 p12 p13 p14 p16 p17 p19 p20 p21 p22 p25 p26 p27 p28 p29 p30 p31 p32 i2 i4 i6 i7 i8 i9 i11 i15 i18 i24 w eb ee ek km k (by first | assumption | omega) (by first | assumption | omega)) (cwV 1 hts gX11_standing_X11_stands rfl rfl rfl (by decide +kernel) ⟨Nat.le_of_ble_eq_true rfl, Nat.le_of_ble_eq_true rfl⟩) (ft_preROV (ci := 11) (q0 := 0) hP hKK [0, 1, 2, 3, 4] rfl rfl rfl) rfl rfl hl.1 rfl (lv_room (Nat.le_of_ble_eq_true rfl)) dX11_standing_27 ⟨Nat.le_of_ble_eq_true rfl, Nat.le_of_ble_eq_true rfl⟩) ?_
          refine lv_iload_n hx hb dX11_standing_30 rfl (lv_at hl 1 rfl) ?_
          refine lv_icmp_ne (tgt := 38) hx hb dX11_standing_31 (by decide) (fun c31 => ?_) (fun c31 => ?_)
          · have hc7 : ¬ (w (4 + 4 * k + 0) < 2 ∧ ftStandM eb ee ek w km k = ho) := fun q => c31 q.2
            refine lv_iconst (v := 0) hx hb dX11_standing_38 (by decide) ?_
            refine lv_iadd hx hb dX11_standing_39 ?_
            refine lv_istore_n (lv' := [(2, .int (x4_2 + 0)), (0, .ref m0), (1, .int ho), (3, .int (nI k))]) hx hb dX11_standing_40 rfl hl (by decide) rfl (fun ls hl => ?_)
            refine lv_iinc (v := nI (k + 1)) (lv' := [(3, .int (nI (k + 1))), (2, .int (x4_2 + 0)), (0, .ref m0), (1, .int ho)]) hx hb dX11_standing_41 hl (k := 3) rfl (ft_inc k) (by decide) rfl (fun ls hl => ?_)
            refine lv_goto (tgt := 4) hx hb dX11_standing_44 (by decide) ?_
            exact ih4 (k + 1) (x4_2 + 0) (nI (k + 1))  (by omega) (by omega) (by first | exact ftCount_t ex4_2 ⟨Int32.not_le.mp c22, c31⟩ | exact ftCount_f ex4_2 hc7) (by first | rfl | assumption)  ls (lv_sub hl [2, 3, 1, 0] rfl)
          · refine lv_iconst (v := 1) hx hb dX11_standing_34 (by decide) ?_
            refine lv_goto (tgt := 39) hx hb dX11_standing_35 (by decide) ?_
            refine lv_iadd hx hb dX11_standing_39 ?_
            refine lv_istore_n (lv' := [(2, .int (x4_2 + 1)), (0, .ref m0), (1, .int ho), (3, .int (nI k))]) hx hb dX11_standing_40 rfl hl (by decide) rfl (fun ls hl => ?_)
            refine lv_iinc (v := nI (k + 1)) (lv' := [(3, .int (nI (k + 1))), (2, .int (x4_2 + 1)), (0, .ref m0), (1, .int ho)]) hx hb dX11_standing_41 hl (k := 3) rfl (ft_inc k) (by decide) rfl (fun ls hl => ?_)
            refine lv_goto (tgt := 4) hx hb dX11_standing_44 (by decide) ?_
            exact ih4 (k + 1) (x4_2 + 1) (nI (k + 1))  (by omega) (by omega) (by first | exact ftCount_t ex4_2 ⟨Int32.not_le.mp c22, c31⟩ | exact ftCount_f ex4_2 hc7) (by first | rfl | assumption)  ls (lv_sub hl [2, 3, 1, 0] rfl)
  exact lp4 _ 0 0 0  (Nat.lt_succ_self _) (by omega) (by rfl) (by rfl) ls (lv_sub hl [2, 3, 1, 0] rfl)
set_option maxHeartbeats 4000000 in
set_option maxRecDepth 100000 in
theorem c_X11_isStrange (l : Launch) (D : va_G) (cI cS : ClassId) (m0 p0 p1 p3 p5 p10 p12 p13 p14 p16 p17 p19 p20 p21 p22 p25 p26 p27 p28 p29 p30 p31 p32 : Nat) (i2 i4 i6 i7 i8 i9 i11 i15 i18 i23 i24 : Int32) (w eb ek : Nat → Int32) (e9 n : Nat) (he : e9 < 30) (hw3 : w 3 = nI n) (hn : n ≤ 10) : Met l yX11_isStrange wsX11_isStrange ({ frames := 1, cells := 0, slots := 0, locals := 22 }) (ftRO D cI cS [.ref m0, .int (nI e9)] [(m0, .inr (11, [.ref p0, .ref p1, .int i2, .ref p3, .int i4, .ref p5, .int i6, .int i7, .int i8, .int i9, .ref p10, .int i11, .ref p12, .ref p13, .ref p14, .int i15, .ref p16, .ref p17, .int i18, .ref p19, .ref p20, .ref p21, .ref p22, .int i23, .int i24, .ref p25, .ref p26, .ref p27, .ref p28, .ref p29, .ref p30, .ref p31, .ref p32])), (p0, .inl (cI, 1439, .inl w)), (p25, .inl (cI, 30, .inl eb)), (p29, .inl (cI, 30, .inl ek))]) (vp_Si (fun o9 => o9 = ftB (ftStrM eb ek w e9 n))) 0 0 (fun _ => False) := by
  refine Met.ofW (cc := cX11_isStrange) (maxL := 4) (ret := (some .boolean)) (by decide) rfl ?_
  intro p e s m args below meth c s₁ B hml hv
  obtain ⟨rfl, hP, hKK⟩ := hv
  have hK := hKK.1
  have hx := B.exec
  have hb := B.bytes
  have hr := B.returns
  have hts := atoms_spec (ws := wsX11_isStrange) B.pre
  have hown : s.vm.findClass RX11 = some m.cls := findClass_of_methodNamed B.named
  have hlocks := B.notSynchronized
  have hP : va_P D vwCl [(m0, .inr (11, [.ref p0, .ref p1, .int i2, .ref p3, .int i4, .ref p5, .int i6, .int i7, .int i8, .int i9, .ref p10, .int i11, .ref p12, .ref p13, .ref p14, .int i15, .ref p16, .ref p17, .int i18, .ref p19, .ref p20, .ref p21, .ref p22, .int i23, .int i24, .ref p25, .ref p26, .ref p27, .ref p28, .ref p29, .ref p30, .ref p31, .ref p32])), (p0, .inl (cI, 1439, .inl w)), (p25, .inl (cI, 30, .inl eb)), (p29, .inl (cI, 30, .inl ek))] s.heap := hP
  have hl := lv_entry ([.ref m0, .int (nI e9)]) (n := 4) (Nat.le_of_ble_eq_true rfl)
  rw [lg_entry_eq]
  generalize (lg_sl ([.ref m0, .int (nI e9)]) ++ List.replicate (4 - (lg_sl ([.ref m0, .int (nI e9)])).length) Slot.unset).toArray = ls at hl ⊢
  have hl : lv_has ls 4 [(0, .ref m0), (1, .int (nI e9))] := hl
  refine lv_aload_n hx hb dX11_isStrange_0 rfl (lv_at hl 0 rfl) ?_
  refine va_get (D := D) (ci := 11) (v := .ref p29) (C := RX11) (T := TX11) (N := 33) hx hb hts (by decide +kernel) hown hK hP 0 rfl rfl 29 (by decide) (hts (.fieldLink RX11 64 "FiberTraceModel" "kinds" "[I") (by decide +kernel)) (fun _ h9 => h9) rfl dX11_isStrange_1 ?_
  refine lv_iload_n hx hb dX11_isStrange_4 rfl (lv_at hl 1 rfl) ?_
  refine va_iald hx hb hK hP 3 0 rfl rfl (vp_in_nI (by omega) (by omega)) dX11_isStrange_5 ?_
  refine ft_top (y := ek e9) (ft_clampN (by omega)) ?_
  refine lv_iconst (v := 2) hx hb dX11_isStrange_6 (by decide) ?_
  refine lv_icmp_ge (tgt := 14) hx hb dX11_isStrange_7 (by decide) (fun c7 => ?_) (fun c7 => ?_)
  · have h70 : ftB (ftStrM eb ek w e9 0) = 0 := ftB_f (fun q => absurd q.1 (Int32.not_lt.mpr c7))
    refine lv_iconst (v := 0) hx hb dX11_isStrange_14 (by decide) ?_
    refine lv_istore_n (lv' := [(2, .int 0), (0, .ref m0), (1, .int (nI e9))]) hx hb dX11_isStrange_15 rfl hl (by decide) rfl (fun ls hl => ?_)
    refine lv_iconst (v := 0) hx hb dX11_isStrange_16 (by decide) ?_
    refine lv_istore_n (lv' := [(3, .int 0), (2, .int 0), (0, .ref m0), (1, .int (nI e9))]) hx hb dX11_isStrange_17 rfl hl (by decide) rfl (fun ls hl => ?_)
    have lp18 : ∀ (n18 : Nat) (k : Nat) (x18_2 : Int32) (x18_3 : Int32), n - k < n18 → (k ≤ n) → x18_2 = ftB (ftStrM eb ek w e9 k) → x18_3 = nI k → ∀ ls : Array Slot, lv_has ls 4 [(0, .ref m0), (1, .int (nI e9)), (2, .int x18_2), (3, .int x18_3)] → W p l e (headSpec wsX11_isStrange { frames := 1, cells := 0, slots := 0, locals := 22 }).room s m ([.ref m0, .int (nI e9)] : List Value).toArray below meth c s.heap [] 0 0 (MQ below (vp_Si (fun o9 => o9 = ftB (ftStrM eb ek w e9 n))) ([.ref m0, .int (nI e9)] : List Value).toArray s 0 0 (fun _ => False)) (F0 m 18 ls []) := by
      intro n18
      induction n18 with
      | zero =>
        intro k x18_2 x18_3  hm18
        exact absurd hm18 (Nat.not_lt_zero _)
      | succ n18 ih18 =>
        intro k x18_2 x18_3  hm18 hkn ex18_2 ex18_3  ls hl
        subst ex18_3
        refine lv_iload_n hx hb dX11_isStrange_18 rfl (lv_at hl 3 rfl) ?_
        refine lv_aload_n hx hb dX11_isStrange_19 rfl (lv_at hl 0 rfl) ?_
        refine va_get (D := D) (ci := 11) (v := .ref p0) (C := RX11) (T := TX11) (N := 33) hx hb hts (by decide +kernel) hown hK hP 0 rfl rfl 0 (by decide) (hts (.fieldLink RX11 7 "FiberTraceModel" "now" "[I") (by decide +kernel)) (fun _ h9 => h9) rfl dX11_isStrange_20 ?_
        refine lv_iconst (v := 3) hx hb dX11_isStrange_23 (by decide) ?_
        refine va_iald hx hb hK hP 1 0 rfl rfl (vp_in_nI (n := 3) (by omega) (by omega)) dX11_isStrange_24 ?_
        refine ft_top (y := w 3) rfl ?_
        refine ft_top (y := nI n) hw3 ?_
        refine lv_icmp_ge (tgt := 79) hx hb dX11_isStrange_25 (by decide) (fun c25 => ?_) (fun c25 => ?_)
        · have c25n : n ≤ k := ft_leN (by omega) (by omega) c25
          refine lv_iload_n hx hb dX11_isStrange_79 rfl (lv_at hl 2 rfl) ?_
          exact W.zret (v := x18_2) hx hb hr (by rw [ex18_2]; exact ftB_nar) (fun t ht hW => ⟨x18_2, rfl, (by show (x18_2 : Int32) = ftB (ftStrM eb ek w e9 n); (obtain rfl : k = n := by omega); exact ex18_2), ht⟩) (fun _ h9 => absurd h9 List.not_mem_nil) dX11_isStrange_80
        · have c25n : k < n := ft_nleN (by omega) (by omega) c25
          refine lv_iload_n hx hb dX11_isStrange_28 rfl (lv_at hl 2 rfl) ?_
          refine lv_if_eq (tgt := 71) hx hb dX11_isStrange_29 (by decide) (fun c29 => ?_) (fun c29 => ?_)
          · have h9 : ¬ ftStrM eb ek w e9 k := ftB_eq (by rw [← ex18_2]; exact c29)
            have h7 : ftB (ftStrM eb ek w e9 (k + 1)) = 0 := ftB_f (fun q => h9 (ftStrM_d q))
            refine lv_iconst (v := 0) hx hb dX11_isStrange_71 (by decide) ?_
            refine lv_istore_n (lv' := [(2, .int 0), (0, .ref m0), (1, .int (nI e9)), (3, .int (nI k))]) hx hb dX11_isStrange_72 rfl hl (by decide) rfl (fun ls hl => ?_)
            refine lv_iinc (v := nI (k + 1)) (lv' := [(3, .int (nI (k + 1))), (2, .int 0), (0, .ref m0), (1, .int (nI e9))]) hx hb dX11_isStrange_73 hl (k := 3) rfl (ft_inc k) (by decide) rfl (fun ls hl => ?_)
            refine lv_goto (tgt := 18) hx hb dX11_isStrange_76 (by decide) ?_
            exact ih18 (k + 1) 0 (nI (k + 1))  (by omega) (by omega) (by exact h7.symm) (by first | rfl | assumption)  ls (lv_sub hl [2, 3, 1, 0] rfl)
          · have h9 : ftStrM eb ek w e9 k := ftB_ne (by rw [← ex18_2]; exact c29)
            refine lv_aload_n hx hb dX11_isStrange_32 rfl (lv_at hl 0 rfl) ?_
            refine lv_iload_n hx hb dX11_isStrange_33 rfl (lv_at hl 3 rfl) ?_
            refine lv_iconst (v := 0) hx hb dX11_isStrange_34 (by decide) ?_
            refine ft_csi (r := w (4 + 4 * k + 0)) (va_runV (C := RX11) (As := [.int (nI k), .int 0]) (rest := []) ⟨hx, hb, hml, hown, hts⟩ (c_X11_at l D cI cS m0 p0 p1 p3 p5 p10 p12 p13 p14 p16 p17 p19 p20 p21 p22 p25 p26 p27 p28 p29 p30 p31 p32 i2 i4 i6 i7 i8 i9 i11 i15 i18 i23 i24 w k 0 (by first | assumption | omega) (by first | assumption | omega)) (cwV 2 hts gX11_isStrange_X11_at rfl rfl rfl (by decide +kernel) ⟨Nat.le_of_ble_eq_true rfl, Nat.le_of_ble_eq_true rfl⟩) (ft_preROV (ci := 11) (q0 := 0) hP hKK [0, 1] rfl rfl rfl) rfl rfl hl.1 rfl (lv_room (Nat.le_of_ble_eq_true rfl)) dX11_isStrange_35 ⟨Nat.le_of_ble_eq_true rfl, Nat.le_of_ble_eq_true rfl⟩) ?_
            refine lv_iconst (v := 2) hx hb dX11_isStrange_38 (by decide) ?_
            refine lv_icmp_eq (tgt := 67) hx hb dX11_isStrange_39 (by decide) (fun c39 => ?_) (fun c39 => ?_)
            · have h7 : ftB (ftStrM eb ek w e9 (k + 1)) = 1 := ftB_t (ftStrM_s h9 (Or.inl c39))
              refine lv_iconst (v := 1) hx hb dX11_isStrange_67 (by decide) ?_
              refine lv_goto (tgt := 72) hx hb dX11_isStrange_68 (by decide) ?_
              refine lv_istore_n (lv' := [(2, .int 1), (0, .ref m0), (1, .int (nI e9)), (3, .int (nI k))]) hx hb dX11_isStrange_72 rfl hl (by decide) rfl (fun ls hl => ?_)
              refine lv_iinc (v := nI (k + 1)) (lv' := [(3, .int (nI (k + 1))), (2, .int 1), (0, .ref m0), (1, .int (nI e9))]) hx hb dX11_isStrange_73 hl (k := 3) rfl (ft_inc k) (by decide) rfl (fun ls hl => ?_)
              refine lv_goto (tgt := 18) hx hb dX11_isStrange_76 (by decide) ?_
              exact ih18 (k + 1) 1 (nI (k + 1))  (by omega) (by omega) (by exact h7.symm) (by first | rfl | assumption)  ls (lv_sub hl [2, 3, 1, 0] rfl)
            · refine lv_aload_n hx hb dX11_isStrange_42 rfl (lv_at hl 0 rfl) ?_
              refine va_get (D := D) (ci := 11) (v := .ref p25) (C := RX11) (T := TX11) (N := 33) hx hb hts (by decide +kernel) hown hK hP 0 rfl rfl 25 (by decide) (hts (.fieldLink RX11 52 "FiberTraceModel" "begins" "[I") (by decide +kernel)) (fun _ h9 => h9) rfl dX11_isStrange_43 ?_
              refine lv_iload_n hx hb dX11_isStrange_46 rfl (lv_at hl 1 rfl) ?_
              refine va_iald hx hb hK hP 2 0 rfl rfl (vp_in_nI (by omega) (by omega)) dX11_isStrange_47 ?_
              refine ft_top (y := eb e9) (ft_clampN (by omega)) ?_
              refine lv_aload_n hx hb dX11_isStrange_48 rfl (lv_at hl 0 rfl) ?_
              refine lv_iload_n hx hb dX11_isStrange_49 rfl (lv_at hl 3 rfl) ?_
              refine lv_iconst (v := 1) hx hb dX11_isStrange_50 (by decide) ?_
              refine ft_csi (r := w (4 + 4 * k + 1)) (va_runV (C := RX11) (As := [.int (nI k), .int 1]) (rest := [.int (eb e9)]) ⟨hx, hb, hml, hown, hts⟩ (c_X11_at l D cI cS m0 p0 p1 p3 p5 p10 p12 p13 p14 p16 p17 p19 p20 p21 p22 p25 p26 p27 p28 p29 p30 p31 p32 i2 i4 i6 i7 i8 i9 i11 i15 i18 i23 i24 w k 1 (by first | assumption | omega) (by first | assumption | omega)) (cwV 2 hts gX11_isStrange_X11_at rfl rfl rfl (by decide +kernel) ⟨Nat.le_of_ble_eq_true rfl, Nat.le_of_ble_eq_true rfl⟩) (ft_preROV (ci := 11) (q0 := 0) hP hKK [0, 1] rfl rfl rfl) rfl rfl hl.1 rfl (lv_room (Nat.le_of_ble_eq_true rfl)) dX11_isStrange_51 ⟨Nat.le_of_ble_eq_true rfl, Nat.le_of_ble_eq_true rfl⟩) ?_
              refine lv_isub hx hb dX11_isStrange_54 ?_
              refine ft_csi (r := ftSz ((eb e9) - (w (4 + 4 * k + 1)))) (va_runS (As := [.int ((eb e9) - (w (4 + 4 * k + 1)))]) (rest := []) ⟨hx, hb, hml, hown, hts⟩ (c_X11_sizeOf l D cI cS ((eb e9) - (w (4 + 4 * k + 1)))) (va_cwS 1 hts gX11_isStrange_X11_sizeOf rfl rfl rfl (by decide +kernel) ⟨Nat.le_of_ble_eq_true rfl, Nat.le_of_ble_eq_true rfl⟩) (ft_preRO hP hKK [] rfl) rfl rfl hl.1 rfl (lv_room (Nat.le_of_ble_eq_true rfl)) dX11_isStrange_55 ⟨Nat.le_of_ble_eq_true rfl, Nat.le_of_ble_eq_true rfl⟩) ?_
              refine lv_aload_n hx hb dX11_isStrange_58 rfl (lv_at hl 0 rfl) ?_
              refine lv_bipush (v := 9) hx hb dX11_isStrange_59 (by decide) ?_
              refine ft_csi (r := w (44 + 9)) (va_runV (C := RX11) (As := [.int 9]) (rest := [.int (ftSz ((eb e9) - (w (4 + 4 * k + 1))))]) ⟨hx, hb, hml, hown, hts⟩ (c_X11_setting l D cI cS m0 p0 p1 p3 p5 p10 p12 p13 p14 p16 p17 p19 p20 p21 p22 p25 p26 p27 p28 p29 p30 p31 p32 i2 i4 i6 i7 i8 i9 i11 i15 i18 i23 i24 w 9 (by first | assumption | omega)) (cwV 1 hts gX11_isStrange_X11_setting rfl rfl rfl (by decide +kernel) ⟨Nat.le_of_ble_eq_true rfl, Nat.le_of_ble_eq_true rfl⟩) (ft_preROV (ci := 11) (q0 := 0) hP hKK [0, 1] rfl rfl rfl) rfl rfl hl.1 rfl (lv_room (Nat.le_of_ble_eq_true rfl)) dX11_isStrange_61 ⟨Nat.le_of_ble_eq_true rfl, Nat.le_of_ble_eq_true rfl⟩) ?_
              refine lv_icmp_le (tgt := 71) hx hb dX11_isStrange_64 (by decide) (fun c64 => ?_) (fun c64 => ?_)
              · have h7 : ftB (ftStrM eb ek w e9 (k + 1)) = 0 := ftB_f (fun q => (ftStrM_q q).elim c39 (fun r => absurd r (Int32.not_lt.mpr c64)))
                refine lv_iconst (v := 0) hx hb dX11_isStrange_71 (by decide) ?_
                refine lv_istore_n (lv' := [(2, .int 0), (0, .ref m0), (1, .int (nI e9)), (3, .int (nI k))]) hx hb dX11_isStrange_72 rfl hl (by decide) rfl (fun ls hl => ?_)
                refine lv_iinc (v := nI (k + 1)) (lv' := [(3, .int (nI (k + 1))), (2, .int 0), (0, .ref m0), (1, .int (nI e9))]) hx hb dX11_isStrange_73 hl (k := 3) rfl (ft_inc k) (by decide) rfl (fun ls hl => ?_)
                refine lv_goto (tgt := 18) hx hb dX11_isStrange_76 (by decide) ?_
                exact ih18 (k + 1) 0 (nI (k + 1))  (by omega) (by omega) (by exact h7.symm) (by first | rfl | assumption)  ls (lv_sub hl [2, 3, 1, 0] rfl)
              · have h7 : ftB (ftStrM eb ek w e9 (k + 1)) = 1 := ftB_t (ftStrM_s h9 (Or.inr (Int32.not_le.mp c64)))
                refine lv_iconst (v := 1) hx hb dX11_isStrange_67 (by decide) ?_
                refine lv_goto (tgt := 72) hx hb dX11_isStrange_68 (by decide) ?_
                refine lv_istore_n (lv' := [(2, .int 1), (0, .ref m0), (1, .int (nI e9)), (3, .int (nI k))]) hx hb dX11_isStrange_72 rfl hl (by decide) rfl (fun ls hl => ?_)
                refine lv_iinc (v := nI (k + 1)) (lv' := [(3, .int (nI (k + 1))), (2, .int 1), (0, .ref m0), (1, .int (nI e9))]) hx hb dX11_isStrange_73 hl (k := 3) rfl (ft_inc k) (by decide) rfl (fun ls hl => ?_)
                refine lv_goto (tgt := 18) hx hb dX11_isStrange_76 (by decide) ?_
                exact ih18 (k + 1) 1 (nI (k + 1))  (by omega) (by omega) (by exact h7.symm) (by first | rfl | assumption)  ls (lv_sub hl [2, 3, 1, 0] rfl)
    exact lp18 _ 0 0 0  (Nat.lt_succ_self _) (by omega) (by exact h70.symm) (by rfl) ls (lv_sub hl [2, 3, 1, 0] rfl)
  · have h70 : ftB (ftStrM eb ek w e9 0) = 1 := ftB_t ⟨Int32.not_le.mp c7, fun t ht => absurd ht (Nat.not_lt_zero t)⟩
    refine lv_iconst (v := 1) hx hb dX11_isStrange_10 (by decide) ?_
    refine lv_goto (tgt := 15) hx hb dX11_isStrange_11 (by decide) ?_
    refine lv_istore_n (lv' := [(2, .int 1), (0, .ref m0), (1, .int (nI e9))]) hx hb dX11_isStrange_15 rfl hl (by decide) rfl (fun ls hl => ?_)
    refine lv_iconst (v := 0) hx hb dX11_isStrange_16 (by decide) ?_
    refine lv_istore_n (lv' := [(3, .int 0), (2, .int 1), (0, .ref m0), (1, .int (nI e9))]) hx hb dX11_isStrange_17 rfl hl (by decide) rfl (fun ls hl => ?_)
    have lp18 : ∀ (n18 : Nat) (k : Nat) (x18_2 : Int32) (x18_3 : Int32), n - k < n18 → (k ≤ n) → x18_2 = ftB (ftStrM eb ek w e9 k) → x18_3 = nI k → ∀ ls : Array Slot, lv_has ls 4 [(0, .ref m0), (1, .int (nI e9)), (2, .int x18_2), (3, .int x18_3)] → W p l e (headSpec wsX11_isStrange { frames := 1, cells := 0, slots := 0, locals := 22 }).room s m ([.ref m0, .int (nI e9)] : List Value).toArray below meth c s.heap [] 0 0 (MQ below (vp_Si (fun o9 => o9 = ftB (ftStrM eb ek w e9 n))) ([.ref m0, .int (nI e9)] : List Value).toArray s 0 0 (fun _ => False)) (F0 m 18 ls []) := by
      intro n18
      induction n18 with
      | zero =>
        intro k x18_2 x18_3  hm18
        exact absurd hm18 (Nat.not_lt_zero _)
      | succ n18 ih18 =>
        intro k x18_2 x18_3  hm18 hkn ex18_2 ex18_3  ls hl
        subst ex18_3
        refine lv_iload_n hx hb dX11_isStrange_18 rfl (lv_at hl 3 rfl) ?_
        refine lv_aload_n hx hb dX11_isStrange_19 rfl (lv_at hl 0 rfl) ?_
        refine va_get (D := D) (ci := 11) (v := .ref p0) (C := RX11) (T := TX11) (N := 33) hx hb hts (by decide +kernel) hown hK hP 0 rfl rfl 0 (by decide) (hts (.fieldLink RX11 7 "FiberTraceModel" "now" "[I") (by decide +kernel)) (fun _ h9 => h9) rfl dX11_isStrange_20 ?_
        refine lv_iconst (v := 3) hx hb dX11_isStrange_23 (by decide) ?_
        refine va_iald hx hb hK hP 1 0 rfl rfl (vp_in_nI (n := 3) (by omega) (by omega)) dX11_isStrange_24 ?_
        refine ft_top (y := w 3) rfl ?_
        refine ft_top (y := nI n) hw3 ?_
        refine lv_icmp_ge (tgt := 79) hx hb dX11_isStrange_25 (by decide) (fun c25 => ?_) (fun c25 => ?_)
        · have c25n : n ≤ k := ft_leN (by omega) (by omega) c25
          refine lv_iload_n hx hb dX11_isStrange_79 rfl (lv_at hl 2 rfl) ?_
          exact W.zret (v := x18_2) hx hb hr (by rw [ex18_2]; exact ftB_nar) (fun t ht hW => ⟨x18_2, rfl, (by show (x18_2 : Int32) = ftB (ftStrM eb ek w e9 n); (obtain rfl : k = n := by omega); exact ex18_2), ht⟩) (fun _ h9 => absurd h9 List.not_mem_nil) dX11_isStrange_80
        · have c25n : k < n := ft_nleN (by omega) (by omega) c25
          refine lv_iload_n hx hb dX11_isStrange_28 rfl (lv_at hl 2 rfl) ?_
          refine lv_if_eq (tgt := 71) hx hb dX11_isStrange_29 (by decide) (fun c29 => ?_) (fun c29 => ?_)
          · have h9 : ¬ ftStrM eb ek w e9 k := ftB_eq (by rw [← ex18_2]; exact c29)
            have h7 : ftB (ftStrM eb ek w e9 (k + 1)) = 0 := ftB_f (fun q => h9 (ftStrM_d q))
            refine lv_iconst (v := 0) hx hb dX11_isStrange_71 (by decide) ?_
            refine lv_istore_n (lv' := [(2, .int 0), (0, .ref m0), (1, .int (nI e9)), (3, .int (nI k))]) hx hb dX11_isStrange_72 rfl hl (by decide) rfl (fun ls hl => ?_)
            refine lv_iinc (v := nI (k + 1)) (lv' := [(3, .int (nI (k + 1))), (2, .int 0), (0, .ref m0), (1, .int (nI e9))]) hx hb dX11_isStrange_73 hl (k := 3) rfl (ft_inc k) (by decide) rfl (fun ls hl => ?_)
            refine lv_goto (tgt := 18) hx hb dX11_isStrange_76 (by decide) ?_
            exact ih18 (k + 1) 0 (nI (k + 1))  (by omega) (by omega) (by exact h7.symm) (by first | rfl | assumption)  ls (lv_sub hl [2, 3, 1, 0] rfl)
          · have h9 : ftStrM eb ek w e9 k := ftB_ne (by rw [← ex18_2]; exact c29)
            refine lv_aload_n hx hb dX11_isStrange_32 rfl (lv_at hl 0 rfl) ?_
            refine lv_iload_n hx hb dX11_isStrange_33 rfl (lv_at hl 3 rfl) ?_
            refine lv_iconst (v := 0) hx hb dX11_isStrange_34 (by decide) ?_
            refine ft_csi (r := w (4 + 4 * k + 0)) (va_runV (C := RX11) (As := [.int (nI k), .int 0]) (rest := []) ⟨hx, hb, hml, hown, hts⟩ (c_X11_at l D cI cS m0 p0 p1 p3 p5 p10 p12 p13 p14 p16 p17 p19 p20 p21 p22 p25 p26 p27 p28 p29 p30 p31 p32 i2 i4 i6 i7 i8 i9 i11 i15 i18 i23 i24 w k 0 (by first | assumption | omega) (by first | assumption | omega)) (cwV 2 hts gX11_isStrange_X11_at rfl rfl rfl (by decide +kernel) ⟨Nat.le_of_ble_eq_true rfl, Nat.le_of_ble_eq_true rfl⟩) (ft_preROV (ci := 11) (q0 := 0) hP hKK [0, 1] rfl rfl rfl) rfl rfl hl.1 rfl (lv_room (Nat.le_of_ble_eq_true rfl)) dX11_isStrange_35 ⟨Nat.le_of_ble_eq_true rfl, Nat.le_of_ble_eq_true rfl⟩) ?_
            refine lv_iconst (v := 2) hx hb dX11_isStrange_38 (by decide) ?_
            refine lv_icmp_eq (tgt := 67) hx hb dX11_isStrange_39 (by decide) (fun c39 => ?_) (fun c39 => ?_)
            · have h7 : ftB (ftStrM eb ek w e9 (k + 1)) = 1 := ftB_t (ftStrM_s h9 (Or.inl c39))
              refine lv_iconst (v := 1) hx hb dX11_isStrange_67 (by decide) ?_
              refine lv_goto (tgt := 72) hx hb dX11_isStrange_68 (by decide) ?_
              refine lv_istore_n (lv' := [(2, .int 1), (0, .ref m0), (1, .int (nI e9)), (3, .int (nI k))]) hx hb dX11_isStrange_72 rfl hl (by decide) rfl (fun ls hl => ?_)
              refine lv_iinc (v := nI (k + 1)) (lv' := [(3, .int (nI (k + 1))), (2, .int 1), (0, .ref m0), (1, .int (nI e9))]) hx hb dX11_isStrange_73 hl (k := 3) rfl (ft_inc k) (by decide) rfl (fun ls hl => ?_)
              refine lv_goto (tgt := 18) hx hb dX11_isStrange_76 (by decide) ?_
              exact ih18 (k + 1) 1 (nI (k + 1))  (by omega) (by omega) (by exact h7.symm) (by first | rfl | assumption)  ls (lv_sub hl [2, 3, 1, 0] rfl)
            · refine lv_aload_n hx hb dX11_isStrange_42 rfl (lv_at hl 0 rfl) ?_
              refine va_get (D := D) (ci := 11) (v := .ref p25) (C := RX11) (T := TX11) (N := 33) hx hb hts (by decide +kernel) hown hK hP 0 rfl rfl 25 (by decide) (hts (.fieldLink RX11 52 "FiberTraceModel" "begins" "[I") (by decide +kernel)) (fun _ h9 => h9) rfl dX11_isStrange_43 ?_
              refine lv_iload_n hx hb dX11_isStrange_46 rfl (lv_at hl 1 rfl) ?_
              refine va_iald hx hb hK hP 2 0 rfl rfl (vp_in_nI (by omega) (by omega)) dX11_isStrange_47 ?_
              refine ft_top (y := eb e9) (ft_clampN (by omega)) ?_
              refine lv_aload_n hx hb dX11_isStrange_48 rfl (lv_at hl 0 rfl) ?_
              refine lv_iload_n hx hb dX11_isStrange_49 rfl (lv_at hl 3 rfl) ?_
              refine lv_iconst (v := 1) hx hb dX11_isStrange_50 (by decide) ?_
              refine ft_csi (r := w (4 + 4 * k + 1)) (va_runV (C := RX11) (As := [.int (nI k), .int 1]) (rest := [.int (eb e9)]) ⟨hx, hb, hml, hown, hts⟩ (c_X11_at l D cI cS m0 p0 p1 p3 p5 p10 p12 p13 p14 p16 p17 p19 p20 p21 p22 p25 p26 p27 p28 p29 p30 p31 p32 i2 i4 i6 i7 i8 i9 i11 i15 i18 i23 i24 w k 1 (by first | assumption | omega) (by first | assumption | omega)) (cwV 2 hts gX11_isStrange_X11_at rfl rfl rfl (by decide +kernel) ⟨Nat.le_of_ble_eq_true rfl, Nat.le_of_ble_eq_true rfl⟩) (ft_preROV (ci := 11) (q0 := 0) hP hKK [0, 1] rfl rfl rfl) rfl rfl hl.1 rfl (lv_room (Nat.le_of_ble_eq_true rfl)) dX11_isStrange_51 ⟨Nat.le_of_ble_eq_true rfl, Nat.le_of_ble_eq_true rfl⟩) ?_
              refine lv_isub hx hb dX11_isStrange_54 ?_
              refine ft_csi (r := ftSz ((eb e9) - (w (4 + 4 * k + 1)))) (va_runS (As := [.int ((eb e9) - (w (4 + 4 * k + 1)))]) (rest := []) ⟨hx, hb, hml, hown, hts⟩ (c_X11_sizeOf l D cI cS ((eb e9) - (w (4 + 4 * k + 1)))) (va_cwS 1 hts gX11_isStrange_X11_sizeOf rfl rfl rfl (by decide +kernel) ⟨Nat.le_of_ble_eq_true rfl, Nat.le_of_ble_eq_true rfl⟩) (ft_preRO hP hKK [] rfl) rfl rfl hl.1 rfl (lv_room (Nat.le_of_ble_eq_true rfl)) dX11_isStrange_55 ⟨Nat.le_of_ble_eq_true rfl, Nat.le_of_ble_eq_true rfl⟩) ?_
              refine lv_aload_n hx hb dX11_isStrange_58 rfl (lv_at hl 0 rfl) ?_
              refine lv_bipush (v := 9) hx hb dX11_isStrange_59 (by decide) ?_
              refine ft_csi (r := w (44 + 9)) (va_runV (C := RX11) (As := [.int 9]) (rest := [.int (ftSz ((eb e9) - (w (4 + 4 * k + 1))))]) ⟨hx, hb, hml, hown, hts⟩ (c_X11_setting l D cI cS m0 p0 p1 p3 p5 p10 p12 p13 p14 p16 p17 p19 p20 p21 p22 p25 p26 p27 p28 p29 p30 p31 p32 i2 i4 i6 i7 i8 i9 i11 i15 i18 i23 i24 w 9 (by first | assumption | omega)) (cwV 1 hts gX11_isStrange_X11_setting rfl rfl rfl (by decide +kernel) ⟨Nat.le_of_ble_eq_true rfl, Nat.le_of_ble_eq_true rfl⟩) (ft_preROV (ci := 11) (q0 := 0) hP hKK [0, 1] rfl rfl rfl) rfl rfl hl.1 rfl (lv_room (Nat.le_of_ble_eq_true rfl)) dX11_isStrange_61 ⟨Nat.le_of_ble_eq_true rfl, Nat.le_of_ble_eq_true rfl⟩) ?_
              refine lv_icmp_le (tgt := 71) hx hb dX11_isStrange_64 (by decide) (fun c64 => ?_) (fun c64 => ?_)
              · have h7 : ftB (ftStrM eb ek w e9 (k + 1)) = 0 := ftB_f (fun q => (ftStrM_q q).elim c39 (fun r => absurd r (Int32.not_lt.mpr c64)))
                refine lv_iconst (v := 0) hx hb dX11_isStrange_71 (by decide) ?_
                refine lv_istore_n (lv' := [(2, .int 0), (0, .ref m0), (1, .int (nI e9)), (3, .int (nI k))]) hx hb dX11_isStrange_72 rfl hl (by decide) rfl (fun ls hl => ?_)
                refine lv_iinc (v := nI (k + 1)) (lv' := [(3, .int (nI (k + 1))), (2, .int 0), (0, .ref m0), (1, .int (nI e9))]) hx hb dX11_isStrange_73 hl (k := 3) rfl (ft_inc k) (by decide) rfl (fun ls hl => ?_)
                refine lv_goto (tgt := 18) hx hb dX11_isStrange_76 (by decide) ?_
                exact ih18 (k + 1) 0 (nI (k + 1))  (by omega) (by omega) (by exact h7.symm) (by first | rfl | assumption)  ls (lv_sub hl [2, 3, 1, 0] rfl)
              · have h7 : ftB (ftStrM eb ek w e9 (k + 1)) = 1 := ftB_t (ftStrM_s h9 (Or.inr (Int32.not_le.mp c64)))
                refine lv_iconst (v := 1) hx hb dX11_isStrange_67 (by decide) ?_
                refine lv_goto (tgt := 72) hx hb dX11_isStrange_68 (by decide) ?_
                refine lv_istore_n (lv' := [(2, .int 1), (0, .ref m0), (1, .int (nI e9)), (3, .int (nI k))]) hx hb dX11_isStrange_72 rfl hl (by decide) rfl (fun ls hl => ?_)
                refine lv_iinc (v := nI (k + 1)) (lv' := [(3, .int (nI (k + 1))), (2, .int 1), (0, .ref m0), (1, .int (nI e9))]) hx hb dX11_isStrange_73 hl (k := 3) rfl (ft_inc k) (by decide) rfl (fun ls hl => ?_)
                refine lv_goto (tgt := 18) hx hb dX11_isStrange_76 (by decide) ?_
                exact ih18 (k + 1) 1 (nI (k + 1))  (by omega) (by omega) (by exact h7.symm) (by first | rfl | assumption)  ls (lv_sub hl [2, 3, 1, 0] rfl)
    exact lp18 _ 0 1 0  (Nat.lt_succ_self _) (by omega) (by exact h70.symm) (by rfl) ls (lv_sub hl [2, 3, 1, 0] rfl)
