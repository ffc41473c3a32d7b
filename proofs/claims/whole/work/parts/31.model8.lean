/-! the reference: parts and events -/
noncomputable def ftOnM (eb ee : Nat → Int32) (k : Nat) (x : Int32) : Int32 := ftFst (fun i => eb i ≤ x ∧ x ≤ ee i) k
noncomputable def ftNearM (eb ek : Nat → Int32) (tl : Int32) (k : Nat) (x : Int32) : Int32 := ftFst (fun i => ¬ ek i = 2 ∧ ftNear tl (eb i) x) k
noncomputable def ftStandM (eb ee ek w : Nat → Int32) (km k : Nat) : Int32 := if w (4 + 4 * k + 0) = 2 then 2 else if 0 ≤ ftNearM eb ek (w (44 + 9)) km (w (4 + 4 * k + 1)) then 0 else if 0 ≤ ftOnM eb ee km (w (4 + 4 * k + 1)) then 1 else 2
noncomputable def ftStandsM (eb ee ek w : Nat → Int32) (km : Nat) (ho : Int32) (n : Nat) : Int32 := ftCount (fun k => w (4 + 4 * k + 0) < 2 ∧ ftStandM eb ee ek w km k = ho) n
def ftStrM (eb ek w : Nat → Int32) (e n : Nat) : Prop := ek e < 2 ∧ ∀ t, t < n → (w (4 + 4 * t + 0) = 2 ∨ w (44 + 9) < ftSz (eb e - w (4 + 4 * t + 1)))
theorem ftStrM_s {eb ek w : Nat → Int32} {e k : Nat} (h : ftStrM eb ek w e k) (q : w (4 + 4 * k + 0) = 2 ∨ w (44 + 9) < ftSz (eb e - w (4 + 4 * k + 1))) : ftStrM eb ek w e (k + 1) :=
  ⟨h.1, fun t ht => by
    rcases Nat.lt_succ_iff_lt_or_eq.mp ht with r | r
    · exact h.2 t r
    · subst r; exact q⟩
theorem ftStrM_d {eb ek w : Nat → Int32} {e k : Nat} (h : ftStrM eb ek w e (k + 1)) : ftStrM eb ek w e k := ⟨h.1, fun t ht => h.2 t (by omega)⟩
theorem ftStrM_q {eb ek w : Nat → Int32} {e k : Nat} (h : ftStrM eb ek w e (k + 1)) : w (4 + 4 * k + 0) = 2 ∨ w (44 + 9) < ftSz (eb e - w (4 + 4 * k + 1)) := h.2 k (by omega)
set_option maxHeartbeats 4000000 in
set_option maxRecDepth 100000 in
theorem c_X11_eventOn (l : Launch) (D : va_G) (cI cS : ClassId) (m0 p0 p1 p3 p5 p10 p12 p13 p14 p16 p17 p19 p20 p21 p22 p25 p26 p27 p28 p29 p30 p31 p32 : Nat) (i2 i4 i6 i7 i8 i9 i11 i15 i18 i24 : Int32) (eb ee : Nat → Int32) (km : Nat) (x : Int32) (hk30 : km ≤ 30) : Met l yX11_eventOn wsX11_eventOn ({ frames := 1, cells := 0, slots := 0, locals := 25 }) (ftRO D cI cS [.ref m0, .int x] [(m0, .inr (11, [.ref p0, .ref p1, .int i2, .ref p3, .int i4, .ref p5, .int i6, .int i7, .int i8, .int i9, .ref p10, .int i11, .ref p12, .ref p13, .ref p14, .int i15, .ref p16, .ref p17, .int i18, .ref p19, .ref p20, .ref p21, .ref p22, .int (nI km), .int i24, .ref p25, .ref p26, .ref p27, .ref p28, .ref p29, .ref p30, .ref p31, .ref p32])), (p25, .inl (cI, 30, .inl eb)), (p26, .inl (cI, 30, .inl ee))]) (vp_Si (fun o9 => o9 = ftOnM eb ee km x)) 0 0 (fun _ => False) := by
  refine Met.ofW (cc := cX11_eventOn) (maxL := 3) (ret := (some .int)) (by decide) rfl ?_
  intro p e s m args below meth c s₁ B hml hv
  obtain ⟨rfl, hP, hKK⟩ := hv
  have hK := hKK.1
  have hx := B.exec
  have hb := B.bytes
  have hr := B.returns
  have hts := atoms_spec (ws := wsX11_eventOn) B.pre
  have hown : s.vm.findClass RX11 = some m.cls := findClass_of_methodNamed B.named
  have hlocks := B.notSynchronized
  have hP : va_P D vwCl [(m0, .inr (11, [.ref p0, .ref p1, .int i2, .ref p3, .int i4, .ref p5, .int i6, .int i7, .int i8, .int i9, .ref p10, .int i11, .ref p12, .ref p13, .ref p14, .int i15, .ref p16, .ref p17, .int i18, .ref p19, .ref p20, .ref p21, .ref p22, .int (nI km), .int i24, .ref p25, .ref p26, .ref p27, .ref p28, .ref p29, .ref p30, .ref p31, .ref p32])), (p25, .inl (cI, 30, .inl eb)), (p26, .inl (cI, 30, .inl ee))] s.heap := hP
  have hl := lv_entry ([.ref m0, .int x]) (n := 3) (Nat.le_of_ble_eq_true rfl)
  rw [lg_entry_eq]
  generalize (lg_sl ([.ref m0, .int x]) ++ List.replicate (3 - (lg_sl ([.ref m0, .int x])).length) Slot.unset).toArray = ls at hl ⊢
  have hl : lv_has ls 3 [(0, .ref m0), (1, .int x)] := hl
  refine lv_iconst (v := 0) hx hb dX11_eventOn_0 (by decide) ?_
  refine lv_istore_n (lv' := [(2, .int 0), (0, .ref m0), (1, .int x)]) hx hb dX11_eventOn_1 rfl hl (by decide) rfl (fun ls hl => ?_)
  have lp2 : ∀ (n2 : Nat) (i : Nat) (x2_2 : Int32), km - i < n2 → (i ≤ km) → (∀ t, t < i → ¬ (eb t ≤ x ∧ x ≤ ee t)) → x2_2 = nI i → ∀ ls : Array Slot, lv_has ls 3 [(0, .ref m0), (1, .int x), (2, .int x2_2)] → W p l e (headSpec wsX11_eventOn { frames := 1, cells := 0, slots := 0, locals := 25 }).room s m ([.ref m0, .int x] : List Value).toArray below meth c s.heap [] 0 0 (MQ below (vp_Si (fun o9 => o9 = ftOnM eb ee km x)) ([.ref m0, .int x] : List Value).toArray s 0 0 (fun _ => False)) (F0 m 2 ls []) := by
    intro n2
    induction n2 with
    | zero =>
      intro i x2_2  hm2
      exact absurd hm2 (Nat.not_lt_zero _)
    | succ n2 ih2 =>
      intro i x2_2  hm2 hik hno ex2_2  ls hl
      subst ex2_2
      refine lv_iload_n hx hb dX11_eventOn_2 rfl (lv_at hl 2 rfl) ?_
      refine lv_aload_n hx hb dX11_eventOn_3 rfl (lv_at hl 0 rfl) ?_
      refine va_get (D := D) (ci := 11) (v := .int (nI km)) (C := RX11) (T := TX11) (N := 33) hx hb hts (by decide +kernel) hown hK hP 0 rfl rfl 23 (by decide) (hts (.fieldLink RX11 238 "FiberTraceModel" "eventMany" "I") (by decide +kernel)) (fun _ h9 => h9) rfl dX11_eventOn_4 ?_
      refine lv_icmp_ge (tgt := 40) hx hb dX11_eventOn_7 (by decide) (fun c7 => ?_) (fun c7 => ?_)
      · have c7n : km ≤ i := ft_leN (by omega) (by omega) c7
        refine lv_iconst (v := (-1)) hx hb dX11_eventOn_40 (by decide) ?_
        exact W.iret (v := (-1)) hx hb hr (fun t ht hW => ⟨(-1), rfl, (by show ((-1) : Int32) = ftOnM eb ee km x; first | exact (ftFst_some (P := fun i => eb i ≤ x ∧ x ≤ ee i) (by omega) hc8 hno km (by omega)).symm | exact (ftFst_none (P := fun i => eb i ≤ x ∧ x ≤ ee i) (fun t ht => hno t (by omega))).symm), ht⟩) (fun _ h9 => absurd h9 List.not_mem_nil) dX11_eventOn_41
      · have c7n : i < km := ft_nleN (by omega) (by omega) c7
        refine lv_iload_n hx hb dX11_eventOn_10 rfl (lv_at hl 1 rfl) ?_
        refine lv_i2l (v := x.toInt64) hx hb dX11_eventOn_11 rfl ?_
        refine lv_aload_n hx hb dX11_eventOn_12 rfl (lv_at hl 0 rfl) ?_
        refine va_get (D := D) (ci := 11) (v := .ref p25) (C := RX11) (T := TX11) (N := 33) hx hb hts (by decide +kernel) hown hK hP 0 rfl rfl 25 (by decide) (hts (.fieldLink RX11 52 "FiberTraceModel" "begins" "[I") (by decide +kernel)) (fun _ h9 => h9) rfl dX11_eventOn_13 ?_
        refine lv_iload_n hx hb dX11_eventOn_16 rfl (lv_at hl 2 rfl) ?_
        refine va_iald hx hb hK hP 1 0 rfl rfl (vp_in_nI (by omega) (by omega)) dX11_eventOn_17 ?_
        refine ft_top (y := eb i) (ft_clampN (by omega)) ?_
        refine lv_i2l (v := (eb i).toInt64) hx hb dX11_eventOn_18 rfl ?_
        refine lv_aload_n hx hb dX11_eventOn_19 rfl (lv_at hl 0 rfl) ?_
        refine va_get (D := D) (ci := 11) (v := .ref p26) (C := RX11) (T := TX11) (N := 33) hx hb hts (by decide +kernel) hown hK hP 0 rfl rfl 26 (by decide) (hts (.fieldLink RX11 55 "FiberTraceModel" "ends" "[I") (by decide +kernel)) (fun _ h9 => h9) rfl dX11_eventOn_20 ?_
        refine lv_iload_n hx hb dX11_eventOn_23 rfl (lv_at hl 2 rfl) ?_
        refine va_iald hx hb hK hP 2 0 rfl rfl (vp_in_nI (by omega) (by omega)) dX11_eventOn_24 ?_
        refine ft_top (y := ee i) (ft_clampN (by omega)) ?_
        refine lv_i2l (v := (ee i).toInt64) hx hb dX11_eventOn_25 rfl ?_
        refine ft_csi (r := ftB (((eb i).toInt64) ≤ x.toInt64 ∧ x.toInt64 ≤ ((ee i).toInt64))) (va_runS (As := [.long x.toInt64, .long ((eb i).toInt64), .long ((ee i).toInt64)]) (rest := []) ⟨hx, hb, hml, hown, hts⟩ (c_X11_in l D cI cS x.toInt64 ((eb i).toInt64) ((ee i).toInt64)) (va_cwS 3 hts gX11_eventOn_X11_in rfl rfl rfl (by decide +kernel) ⟨Nat.le_of_ble_eq_true rfl, Nat.le_of_ble_eq_true rfl⟩) (ft_preRO hP hKK [] rfl) rfl rfl hl.1 rfl (lv_room (Nat.le_of_ble_eq_true rfl)) dX11_eventOn_26 ⟨Nat.le_of_ble_eq_true rfl, Nat.le_of_ble_eq_true rfl⟩) ?_
        refine ft_top (y := ftB ((eb i) ≤ x ∧ x ≤ (ee i))) (ft_in64 (Int32.toInt_toInt64 _) (Int32.toInt_toInt64 _)) ?_
        refine lv_if_eq (tgt := 34) hx hb dX11_eventOn_29 (by decide) (fun c29 => ?_) (fun c29 => ?_)
        · replace c29 := ftB_eq c29
          have hc9 := c29
          refine lv_iinc (v := nI (i + 1)) (lv' := [(2, .int (nI (i + 1))), (0, .ref m0), (1, .int x)]) hx hb dX11_eventOn_34 hl (k := 2) rfl (ft_inc i) (by decide) rfl (fun ls hl => ?_)
          refine lv_goto (tgt := 2) hx hb dX11_eventOn_37 (by decide) ?_
          exact ih2 (i + 1) (nI (i + 1))  (by omega) (by omega) (by intro t ht; rcases Nat.lt_succ_iff_lt_or_eq.mp ht with r | r; exact hno t r; subst r; exact hc9) (by first | rfl | assumption)  ls (lv_sub hl [1, 2, 0] rfl)
        · replace c29 := ftB_ne c29
          have hc8 := c29
          refine lv_iload_n hx hb dX11_eventOn_32 rfl (lv_at hl 2 rfl) ?_
          exact W.iret (v := nI i) hx hb hr (fun t ht hW => ⟨nI i, rfl, (by show (nI i : Int32) = ftOnM eb ee km x; first | exact (ftFst_some (P := fun i => eb i ≤ x ∧ x ≤ ee i) (by omega) hc8 hno km (by omega)).symm | exact (ftFst_none (P := fun i => eb i ≤ x ∧ x ≤ ee i) (fun t ht => hno t (by omega))).symm), ht⟩) (fun _ h9 => absurd h9 List.not_mem_nil) dX11_eventOn_33
  exact lp2 _ 0 0  (Nat.lt_succ_self _) (by omega) (by intro t ht; omega) (by rfl) ls (lv_sub hl [1, 2, 0] rfl)
