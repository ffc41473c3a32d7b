section
/-! the reference: changes, texts' ends, noise -/
/-- where a part at x comes among k parts of a row -/
def ftPosW (w : Nat → Int32) (x : Int32) : Nat → Nat
  | 0 => 0
  | k + 1 => if x < w (4 + 4 * k + 1) then ftPosW w x k else k + 1
theorem ftPosW_le (w : Nat → Int32) (x : Int32) (n : Nat) : ftPosW w x n ≤ n := by
  induction n with
  | zero => exact Nat.le_refl 0
  | succ n ih => unfold ftPosW; split <;> omega
theorem ftPosW_gt {w : Nat → Int32} {x : Int32} {k : Nat} (hk : 0 < k) (h : x < w (4 + 4 * (k - 1) + 1)) : ftPosW w x k = ftPosW w x (k - 1) := by
  obtain ⟨j, rfl⟩ : ∃ j, k = j + 1 := ⟨k - 1, by omega⟩
  exact if_pos h
theorem ftPosW_ge {w : Nat → Int32} {x : Int32} {k : Nat} (hk : 0 < k) (h : ¬ x < w (4 + 4 * (k - 1) + 1)) : ftPosW w x k = k := by
  obtain ⟨j, rfl⟩ : ∃ j, k = j + 1 := ⟨k - 1, by omega⟩
  exact if_neg h
/-- the parts from the k-th on, of n, a place further -/
def ftShP (w : Nat → Int32) (n k : Nat) : Nat → Int32 := fun t => if 4 + 4 * k + 4 ≤ t ∧ t < 4 + 4 * n + 4 then w (t - 4) else w t
def ftShI (w : Nat → Int32) (n k i : Nat) : Nat → Int32 := fun t => if 4 + 4 * k ≤ t ∧ t < 4 + 4 * k + i then w (t - 4) else ftShP w n k t
theorem ftShP_0 (w : Nat → Int32) (n : Nat) : w = ftShP w n n := funext fun t => (if_neg (by omega)).symm
theorem ftShI_0 (w : Nat → Int32) (n k : Nat) : ftShP w n k = ftShI w n k 0 := funext fun t => (if_neg (by omega)).symm
theorem ftShP_low {w : Nat → Int32} {n k t : Nat} (h : t < 4 + 4 * k + 4) : ftShP w n k t = w t := if_neg (by omega)
theorem ftShI_s {w : Nat → Int32} {n k i : Nat} (hk : 0 < k) (hi : i < 4) : upd (ftShI w n k i) (4 + 4 * k + i) (ftShI w n k i (4 + 4 * (k - 1) + i)) = ftShI w n k (i + 1) := by
  have e : ftShI w n k i (4 + 4 * (k - 1) + i) = w (4 + 4 * (k - 1) + i) := by
    unfold ftShI
    rw [if_neg (by omega), ftShP_low (by omega)]
  rw [e]
  funext t
  unfold upd ftShI
  by_cases q : t = 4 + 4 * k + i
  · rw [if_pos q, if_pos (by omega)]
    congr 1
    omega
  · rw [if_neg q]
    by_cases r : 4 + 4 * k ≤ t ∧ t < 4 + 4 * k + i
    · rw [if_pos r, if_pos (by omega)]
    · rw [if_neg r, if_neg (by omega)]
theorem ftShI_4 {w : Nat → Int32} {n k : Nat} (hk : 0 < k) (hkn : k ≤ n) : ftShI w n k 4 = ftShP w n (k - 1) := by
  funext t
  unfold ftShI ftShP
  by_cases q : 4 + 4 * k ≤ t ∧ t < 4 + 4 * k + 4
  · rw [if_pos q, if_pos (by omega)]
  · rw [if_neg q]
    by_cases r : 4 + 4 * k + 4 ≤ t ∧ t < 4 + 4 * n + 4
    · rw [if_pos r, if_pos (by omega)]
    · rw [if_neg r, if_neg (by omega)]
def ftAdd (w : Nat → Int32) (n : Nat) (kd x lo re : Int32) : Nat → Int32 := upd (ftComes (ftShP w n (ftPosW w x n)) (ftPosW w x n) kd x lo re) 3 (nI (n + 1))
theorem ftComes_3 {w : Nat → Int32} {n k : Nat} {kd x lo re : Int32} : ftComes (ftShP w n k) k kd x lo re 3 = w 3 := by
  unfold ftComes upd
  rw [if_neg (by omega), if_neg (by omega), if_neg (by omega), if_neg (by omega), ftShP_low (by omega)]
theorem ftUpd_ne {f : Nat → Int32} {k t : Nat} {x : Int32} (h : t ≠ k) : upd f k x t = f t := if_neg h
/-- the text behind a character typed -/
noncomputable def ftTl (tn : Nat) (x : Int32) : Nat := @ite _ ((32 ≤ x ∧ x ≤ 126) ∧ tn ≠ 120) (Classical.propDecidable _) (tn + 1) tn
noncomputable def ftTt (tx : Nat → Int32) (tn : Nat) (x : Int32) : Nat → Int32 := @ite _ ((32 ≤ x ∧ x ≤ 126) ∧ tn ≠ 120) (Classical.propDecidable _) (upd tx tn x) tx
theorem ftTl_t {tn : Nat} {x : Int32} (h : (32 ≤ x ∧ x ≤ 126) ∧ tn ≠ 120) : ftTl tn x = tn + 1 := if_pos h
theorem ftTl_f {tn : Nat} {x : Int32} (h : ¬ ((32 ≤ x ∧ x ≤ 126) ∧ tn ≠ 120)) : ftTl tn x = tn := if_neg h
theorem ftTt_t {tx : Nat → Int32} {tn : Nat} {x : Int32} (h : (32 ≤ x ∧ x ≤ 126) ∧ tn ≠ 120) : ftTt tx tn x = upd tx tn x := if_pos h
theorem ftTt_f {tx : Nat → Int32} {tn : Nat} {x : Int32} (h : ¬ ((32 ≤ x ∧ x ≤ 126) ∧ tn ≠ 120)) : ftTt tx tn x = tx := if_neg h
set_option maxHeartbeats 4000000 in
set_option maxRecDepth 100000 in
theorem c_X11_type (l : Launch) (D : va_G) (cI cS : ClassId) (sz : Nat) (m0 p0 p1 p3 p5 p10 p12 p13 p14 p16 p17 p19 p20 p21 p22 p25 p26 p27 p28 p29 p30 p31 p32 : Nat) (i2 i6 i7 i8 i9 i11 i15 i18 i23 i24 : Int32) (tx : Nat → Int32) (tn : Nat) (x : Int32) (htn : tn ≤ 120) : Met l yX11_type wsX11_type ({ frames := 1, cells := 0, slots := 0, locals := 25 }) (ftRW D cI cS [.ref m0, .int x] [(m0, .inr (11, [.ref p0, .ref p1, .int i2, .ref p3, .int (nI tn), .ref p5, .int i6, .int i7, .int i8, .int i9, .ref p10, .int i11, .ref p12, .ref p13, .ref p14, .int i15, .ref p16, .ref p17, .int i18, .ref p19, .ref p20, .ref p21, .ref p22, .int i23, .int i24, .ref p25, .ref p26, .ref p27, .ref p28, .ref p29, .ref p30, .ref p31, .ref p32])), (p3, .inl (cI, 120, .inl tx))] sz) (ftQi D (ftIte (32 ≤ x ∧ x ≤ 126) (if tn = 120 then -1000003 else nI (tn + 1)) (-1000001)) [(m0, .inr (11, [.ref p0, .ref p1, .int i2, .ref p3, .int (nI tn), .ref p5, .int i6, .int i7, .int i8, .int i9, .ref p10, .int i11, .ref p12, .ref p13, .ref p14, .int i15, .ref p16, .ref p17, .int i18, .ref p19, .ref p20, .ref p21, .ref p22, .int i23, .int i24, .ref p25, .ref p26, .ref p27, .ref p28, .ref p29, .ref p30, .ref p31, .ref p32])), (p3, .inl (cI, 120, .inl tx))] [(m0, .inr (11, [.ref p0, .ref p1, .int i2, .ref p3, .int (nI (ftTl tn x)), .ref p5, .int i6, .int i7, .int i8, .int i9, .ref p10, .int i11, .ref p12, .ref p13, .ref p14, .int i15, .ref p16, .ref p17, .int i18, .ref p19, .ref p20, .ref p21, .ref p22, .int i23, .int i24, .ref p25, .ref p26, .ref p27, .ref p28, .ref p29, .ref p30, .ref p31, .ref p32])), (p3, .inl (cI, 120, .inl (ftTt tx tn x)))] sz) 0 0 (va_A [(m0, .inr (11, [.ref p0, .ref p1, .int i2, .ref p3, .int (nI tn), .ref p5, .int i6, .int i7, .int i8, .int i9, .ref p10, .int i11, .ref p12, .ref p13, .ref p14, .int i15, .ref p16, .ref p17, .int i18, .ref p19, .ref p20, .ref p21, .ref p22, .int i23, .int i24, .ref p25, .ref p26, .ref p27, .ref p28, .ref p29, .ref p30, .ref p31, .ref p32])), (p3, .inl (cI, 120, .inl tx))] sz) := by
  refine Met.ofW (cc := cX11_type) (maxL := 2) (ret := (some .int)) (by decide) rfl ?_
  intro p e s m args below meth c s₁ B hml hv
  obtain ⟨rfl, hsz, hP, hKK, hD0⟩ := hv
  have hK := hKK.1
  have hx := B.exec
  have hb := B.bytes
  have hr := B.returns
  have hts := atoms_spec (ws := wsX11_type) B.pre
  have hown : s.vm.findClass RX11 = some m.cls := findClass_of_methodNamed B.named
  have hlocks := B.notSynchronized
  subst hsz
  have hD := hD0.self (sz := s.heap.size)
  generalize hAe : va_A [(m0, .inr (11, [.ref p0, .ref p1, .int i2, .ref p3, .int (nI tn), .ref p5, .int i6, .int i7, .int i8, .int i9, .ref p10, .int i11, .ref p12, .ref p13, .ref p14, .int i15, .ref p16, .ref p17, .int i18, .ref p19, .ref p20, .ref p21, .ref p22, .int i23, .int i24, .ref p25, .ref p26, .ref p27, .ref p28, .ref p29, .ref p30, .ref p31, .ref p32])), (p3, .inl (cI, 120, .inl tx))] s.heap.size = A at hD ⊢
  have hA : ∀ q : Nat, s.heap.size ≤ q → A q := fun q h => by rw [← hAe]; exact Or.inr h
  have hS : va_S A s.heap s.heap [] := va_S.rf
  have hD : va_D A [(m0, .inr (11, [.ref p0, .ref p1, .int i2, .ref p3, .int (nI tn), .ref p5, .int i6, .int i7, .int i8, .int i9, .ref p10, .int i11, .ref p12, .ref p13, .ref p14, .int i15, .ref p16, .ref p17, .int i18, .ref p19, .ref p20, .ref p21, .ref p22, .int i23, .int i24, .ref p25, .ref p26, .ref p27, .ref p28, .ref p29, .ref p30, .ref p31, .ref p32])), (p3, .inl (cI, 120, .inl tx))] := hD
  have hP : va_P D vwCl [(m0, .inr (11, [.ref p0, .ref p1, .int i2, .ref p3, .int (nI tn), .ref p5, .int i6, .int i7, .int i8, .int i9, .ref p10, .int i11, .ref p12, .ref p13, .ref p14, .int i15, .ref p16, .ref p17, .int i18, .ref p19, .ref p20, .ref p21, .ref p22, .int i23, .int i24, .ref p25, .ref p26, .ref p27, .ref p28, .ref p29, .ref p30, .ref p31, .ref p32])), (p3, .inl (cI, 120, .inl tx))] s.heap := hP
  have hl := lv_entry ([.ref m0, .int x]) (n := 2) (Nat.le_of_ble_eq_true rfl)
  rw [lg_entry_eq]
  generalize (lg_sl ([.ref m0, .int x]) ++ List.replicate (2 - (lg_sl ([.ref m0, .int x])).length) Slot.unset).toArray = ls at hl ⊢
  have hl : lv_has ls 2 [(0, .ref m0), (1, .int x)] := hl
  refine lv_iload_n hx hb dX11_type_0 rfl (lv_at hl 1 rfl) ?_
  refine lv_i2l (v := x.toInt64) hx hb dX11_type_1 rfl ?_
  refine lv_ldc2 (v := 32) hx hb hown (hts (.constantLong RX11 87 32) (by decide +kernel)) dX11_type_2 ?_
  refine lv_ldc2 (v := 126) hx hb hown (hts (.constantLong RX11 89 126) (by decide +kernel)) dX11_type_5 ?_
  refine ft_csi (r := ftB (32 ≤ x.toInt64 ∧ x.toInt64 ≤ 126)) (va_runS (As := [.long x.toInt64, .long 32, .long 126]) (rest := []) ⟨hx, hb, hml, hown, hts⟩ (c_X11_in l D cI cS x.toInt64 32 126) (va_cwS 3 hts gX11_type_X11_in rfl rfl rfl (by decide +kernel) ⟨Nat.le_of_ble_eq_true rfl, Nat.le_of_ble_eq_true rfl⟩) (ft_preRO hP hKK [] rfl) rfl rfl hl.1 rfl (lv_room (Nat.le_of_ble_eq_true rfl)) dX11_type_8 ⟨Nat.le_of_ble_eq_true rfl, Nat.le_of_ble_eq_true rfl⟩) ?_
  refine ft_top (y := ftB (32 ≤ x ∧ x ≤ 126)) (ft_in64 (by decide) (by decide)) ?_
  refine lv_if_ne (tgt := 17) hx hb dX11_type_11 (by decide) (fun c11 => ?_) (fun c11 => ?_)
  · replace c11 := ftB_ne c11
    refine lv_aload_n hx hb dX11_type_17 rfl (lv_at hl 0 rfl) ?_
    refine va_get (D := D) (ci := 11) (v := .int (nI tn)) (C := RX11) (T := TX11) (N := 33) hx hb hts (by decide +kernel) hown hK hP 0 rfl rfl 4 (by decide) (hts (.fieldLink RX11 96 "FiberTraceModel" "length" "I") (by decide +kernel)) (fun _ h9 => h9) rfl dX11_type_18 ?_
    refine lv_bipush (v := 120) hx hb dX11_type_21 (by decide) ?_
    refine lv_icmp_ne (tgt := 29) hx hb dX11_type_23 (by decide) (fun c23 => ?_) (fun c23 => ?_)
    · have c23n : tn ≠ 120 := ft_neN (by omega) (by omega) c23
      refine lv_aload_n hx hb dX11_type_29 rfl (lv_at hl 0 rfl) ?_
      refine va_get (D := D) (ci := 11) (v := .ref p3) (C := RX11) (T := TX11) (N := 33) hx hb hts (by decide +kernel) hown hK hP 0 rfl rfl 3 (by decide) (hts (.fieldLink RX11 16 "FiberTraceModel" "text" "[I") (by decide +kernel)) (fun _ h9 => h9) rfl dX11_type_30 ?_
      refine lv_aload_n hx hb dX11_type_33 rfl (lv_at hl 0 rfl) ?_
      refine va_get (D := D) (ci := 11) (v := .int (nI tn)) (C := RX11) (T := TX11) (N := 33) hx hb hts (by decide +kernel) hown hK hP 0 rfl rfl 4 (by decide) (hts (.fieldLink RX11 96 "FiberTraceModel" "length" "I") (by decide +kernel)) (fun _ h9 => h9) rfl dX11_type_34 ?_
      refine lv_iload_n hx hb dX11_type_37 rfl (lv_at hl 1 rfl) ?_
      refine va_iast hx hb hK hP hD hS 1 0 rfl rfl (vp_in_nI (by omega) (by omega)) dX11_type_38 (fun H locs hP hD hS => ?_)
      rw [nI_clamp (show tn < 2 ^ 31 by omega)] at hP hD
      have hP : va_P D vwCl [(m0, .inr (11, [.ref p0, .ref p1, .int i2, .ref p3, .int (nI tn), .ref p5, .int i6, .int i7, .int i8, .int i9, .ref p10, .int i11, .ref p12, .ref p13, .ref p14, .int i15, .ref p16, .ref p17, .int i18, .ref p19, .ref p20, .ref p21, .ref p22, .int i23, .int i24, .ref p25, .ref p26, .ref p27, .ref p28, .ref p29, .ref p30, .ref p31, .ref p32])), (p3, .inl (cI, 120, .inl (upd tx tn x)))] H := hP
      have hD : va_D A [(m0, .inr (11, [.ref p0, .ref p1, .int i2, .ref p3, .int (nI tn), .ref p5, .int i6, .int i7, .int i8, .int i9, .ref p10, .int i11, .ref p12, .ref p13, .ref p14, .int i15, .ref p16, .ref p17, .int i18, .ref p19, .ref p20, .ref p21, .ref p22, .int i23, .int i24, .ref p25, .ref p26, .ref p27, .ref p28, .ref p29, .ref p30, .ref p31, .ref p32])), (p3, .inl (cI, 120, .inl (upd tx tn x)))] := hD
      refine lv_aload_n hx hb dX11_type_39 rfl (lv_at hl 0 rfl) ?_
      refine lv_dup hx hb dX11_type_40 rfl ?_
      refine va_get (D := D) (ci := 11) (v := .int (nI tn)) (C := RX11) (T := TX11) (N := 33) hx hb hts (by decide +kernel) hown hK hP 0 rfl rfl 4 (by decide) (hts (.fieldLink RX11 96 "FiberTraceModel" "length" "I") (by decide +kernel)) (fun _ h9 => h9) rfl dX11_type_41 ?_
      refine lv_iconst (v := 1) hx hb dX11_type_44 (by decide) ?_
      refine lv_iadd hx hb dX11_type_45 ?_
      refine ft_top (y := nI (tn + 1)) (ft_addN tn 1) ?_
      refine va_put (D := D) (ci := 11) (v := .int (nI (tn + 1))) (ty := .int) (C := RX11) (T := TX11) (N := 33) hx hb hts (by decide +kernel) tyX11 tyX11_ok nmX11 hown hK hP hD hS 0 rfl rfl 4 (by decide) (hts (.fieldLink RX11 96 "FiberTraceModel" "length" "I") (by decide +kernel)) (fun _ h9 => h9) rfl (by decide +kernel) rfl rfl (Nat.le_of_ble_eq_true rfl) dX11_type_46 (fun H locs hP hD hS => ?_)
      have hP : va_P D vwCl [(m0, .inr (11, [.ref p0, .ref p1, .int i2, .ref p3, .int (nI (tn + 1)), .ref p5, .int i6, .int i7, .int i8, .int i9, .ref p10, .int i11, .ref p12, .ref p13, .ref p14, .int i15, .ref p16, .ref p17, .int i18, .ref p19, .ref p20, .ref p21, .ref p22, .int i23, .int i24, .ref p25, .ref p26, .ref p27, .ref p28, .ref p29, .ref p30, .ref p31, .ref p32])), (p3, .inl (cI, 120, .inl (upd tx tn x)))] H := hP
      have hD : va_D A [(m0, .inr (11, [.ref p0, .ref p1, .int i2, .ref p3, .int (nI (tn + 1)), .ref p5, .int i6, .int i7, .int i8, .int i9, .ref p10, .int i11, .ref p12, .ref p13, .ref p14, .int i15, .ref p16, .ref p17, .int i18, .ref p19, .ref p20, .ref p21, .ref p22, .int i23, .int i24, .ref p25, .ref p26, .ref p27, .ref p28, .ref p29, .ref p30, .ref p31, .ref p32])), (p3, .inl (cI, 120, .inl (upd tx tn x)))] := hD
      refine lv_aload_n hx hb dX11_type_49 rfl (lv_at hl 0 rfl) ?_
      refine va_get (D := D) (ci := 11) (v := .int (nI (tn + 1))) (C := RX11) (T := TX11) (N := 33) hx hb hts (by decide +kernel) hown hK hP 0 rfl rfl 4 (by decide) (hts (.fieldLink RX11 96 "FiberTraceModel" "length" "I") (by decide +kernel)) (fun _ h9 => h9) rfl dX11_type_50 ?_
      have hw9 : ([(m0, .inr (11, [.ref p0, .ref p1, .int i2, .ref p3, .int (nI (tn + 1)), .ref p5, .int i6, .int i7, .int i8, .int i9, .ref p10, .int i11, .ref p12, .ref p13, .ref p14, .int i15, .ref p16, .ref p17, .int i18, .ref p19, .ref p20, .ref p21, .ref p22, .int i23, .int i24, .ref p25, .ref p26, .ref p27, .ref p28, .ref p29, .ref p30, .ref p31, .ref p32])), (p3, .inl (cI, 120, .inl (upd tx tn x)))] : va_W) = [(m0, .inr (11, [.ref p0, .ref p1, .int i2, .ref p3, .int (nI (ftTl tn x)), .ref p5, .int i6, .int i7, .int i8, .int i9, .ref p10, .int i11, .ref p12, .ref p13, .ref p14, .int i15, .ref p16, .ref p17, .int i18, .ref p19, .ref p20, .ref p21, .ref p22, .int i23, .int i24, .ref p25, .ref p26, .ref p27, .ref p28, .ref p29, .ref p30, .ref p31, .ref p32])), (p3, .inl (cI, 120, .inl (ftTt tx tn x)))] := by rw [ftTl_t ⟨c11, c23n⟩, ftTt_t ⟨c11, c23n⟩]
      rw [hw9] at hP hD
      exact W.iret (v := nI (tn + 1)) hx hb hr (fun t ht hW => ⟨⟨nI (tn + 1), (), rfl, (by show (nI (tn + 1) : Int32) = ftIte (32 ≤ x ∧ x ≤ 126) (if tn = 120 then -1000003 else nI (tn + 1)) (-1000001); exact ((ftIte_t c11).trans (if_neg c23n)).symm), by rw [ht]; exact hP, by rw [hAe]; exact hD⟩, by rw [hAe]; exact hS.F ht⟩) hS.2.2 dX11_type_53
    · have c23n : tn = 120 := ft_eqN (by omega) (by omega) c23
      refine lv_ldc (v := (-1000003)) hx hb hown (hts (.constant RX11 99 (-1000003)) (by decide +kernel)) dX11_type_26 ?_
      have hw9 : ([(m0, .inr (11, [.ref p0, .ref p1, .int i2, .ref p3, .int (nI tn), .ref p5, .int i6, .int i7, .int i8, .int i9, .ref p10, .int i11, .ref p12, .ref p13, .ref p14, .int i15, .ref p16, .ref p17, .int i18, .ref p19, .ref p20, .ref p21, .ref p22, .int i23, .int i24, .ref p25, .ref p26, .ref p27, .ref p28, .ref p29, .ref p30, .ref p31, .ref p32])), (p3, .inl (cI, 120, .inl tx))] : va_W) = [(m0, .inr (11, [.ref p0, .ref p1, .int i2, .ref p3, .int (nI (ftTl tn x)), .ref p5, .int i6, .int i7, .int i8, .int i9, .ref p10, .int i11, .ref p12, .ref p13, .ref p14, .int i15, .ref p16, .ref p17, .int i18, .ref p19, .ref p20, .ref p21, .ref p22, .int i23, .int i24, .ref p25, .ref p26, .ref p27, .ref p28, .ref p29, .ref p30, .ref p31, .ref p32])), (p3, .inl (cI, 120, .inl (ftTt tx tn x)))] := by rw [ftTl_f (fun q => q.2 c23n), ftTt_f (fun q => q.2 c23n)]
      rw [hw9] at hP hD
      exact W.iret (v := (-1000003)) hx hb hr (fun t ht hW => ⟨⟨(-1000003), (), rfl, (by show ((-1000003) : Int32) = ftIte (32 ≤ x ∧ x ≤ 126) (if tn = 120 then -1000003 else nI (tn + 1)) (-1000001); exact ((ftIte_t c11).trans (if_pos c23n)).symm), by rw [ht]; exact hP, by rw [hAe]; exact hD⟩, by rw [hAe]; exact hS.F ht⟩) hS.2.2 dX11_type_28
  · replace c11 := ftB_eq c11
    refine lv_ldc (v := (-1000001)) hx hb hown (hts (.constant RX11 95 (-1000001)) (by decide +kernel)) dX11_type_14 ?_
    have hw9 : ([(m0, .inr (11, [.ref p0, .ref p1, .int i2, .ref p3, .int (nI tn), .ref p5, .int i6, .int i7, .int i8, .int i9, .ref p10, .int i11, .ref p12, .ref p13, .ref p14, .int i15, .ref p16, .ref p17, .int i18, .ref p19, .ref p20, .ref p21, .ref p22, .int i23, .int i24, .ref p25, .ref p26, .ref p27, .ref p28, .ref p29, .ref p30, .ref p31, .ref p32])), (p3, .inl (cI, 120, .inl tx))] : va_W) = [(m0, .inr (11, [.ref p0, .ref p1, .int i2, .ref p3, .int (nI (ftTl tn x)), .ref p5, .int i6, .int i7, .int i8, .int i9, .ref p10, .int i11, .ref p12, .ref p13, .ref p14, .int i15, .ref p16, .ref p17, .int i18, .ref p19, .ref p20, .ref p21, .ref p22, .int i23, .int i24, .ref p25, .ref p26, .ref p27, .ref p28, .ref p29, .ref p30, .ref p31, .ref p32])), (p3, .inl (cI, 120, .inl (ftTt tx tn x)))] := by rw [ftTl_f (fun q => c11 q.1), ftTt_f (fun q => c11 q.1)]
    rw [hw9] at hP hD
    exact W.iret (v := (-1000001)) hx hb hr (fun t ht hW => ⟨⟨(-1000001), (), rfl, (by show ((-1000001) : Int32) = ftIte (32 ≤ x ∧ x ≤ 126) (if tn = 120 then -1000003 else nI (tn + 1)) (-1000001); exact (ftIte_f c11).symm), by rw [ht]; exact hP, by rw [hAe]; exact hD⟩, by rw [hAe]; exact hS.F ht⟩) hS.2.2 dX11_type_16
set_option maxHeartbeats 4000000 in
set_option maxRecDepth 100000 in
theorem c_X11_undo (l : Launch) (D : va_G) (cI cS : ClassId) (sz : Nat) (m0 p0 p1 p3 p5 p10 p12 p13 p14 p16 p17 p19 p20 p21 p22 p25 p26 p27 p28 p29 p30 p31 p32 : Nat) (i4 i6 i7 i8 i9 i11 i15 i18 i23 i24 : Int32) (w z : Nat → Int32) (hm : Nat) (hhm : hm ≤ 5) : Met l yX11_undo wsX11_undo ({ frames := 0, cells := 0, slots := 0, locals := 0 }) (ftRW D cI cS [.ref m0] [(m0, .inr (11, [.ref p0, .ref p1, .int (nI hm), .ref p3, .int i4, .ref p5, .int i6, .int i7, .int i8, .int i9, .ref p10, .int i11, .ref p12, .ref p13, .ref p14, .int i15, .ref p16, .ref p17, .int i18, .ref p19, .ref p20, .ref p21, .ref p22, .int i23, .int i24, .ref p25, .ref p26, .ref p27, .ref p28, .ref p29, .ref p30, .ref p31, .ref p32])), (p0, .inl (cI, 1439, .inl w)), (p1, .inl (cI, 7195, .inl z))] sz) (ftQi D (if hm = 0 then -1000002 else nI (hm - 1)) [(m0, .inr (11, [.ref p0, .ref p1, .int (nI hm), .ref p3, .int i4, .ref p5, .int i6, .int i7, .int i8, .int i9, .ref p10, .int i11, .ref p12, .ref p13, .ref p14, .int i15, .ref p16, .ref p17, .int i18, .ref p19, .ref p20, .ref p21, .ref p22, .int i23, .int i24, .ref p25, .ref p26, .ref p27, .ref p28, .ref p29, .ref p30, .ref p31, .ref p32])), (p0, .inl (cI, 1439, .inl w)), (p1, .inl (cI, 7195, .inl z))] [(m0, .inr (11, [.ref p0, .ref p1, .int (nI (hm - 1)), .ref p3, .int i4, .ref p5, .int i6, .int i7, .int i8, .int i9, .ref p10, .int i11, .ref p12, .ref p13, .ref p14, .int i15, .ref p16, .ref p17, .int i18, .ref p19, .ref p20, .ref p21, .ref p22, .int i23, .int i24, .ref p25, .ref p26, .ref p27, .ref p28, .ref p29, .ref p30, .ref p31, .ref p32])), (p0, .inl (cI, 1439, .inl (if hm = 0 then w else ftFill (fun t => z ((hm - 1) * 1439 + t)) w 1439))), (p1, .inl (cI, 7195, .inl z))] sz) 0 0 (va_A [(m0, .inr (11, [.ref p0, .ref p1, .int (nI hm), .ref p3, .int i4, .ref p5, .int i6, .int i7, .int i8, .int i9, .ref p10, .int i11, .ref p12, .ref p13, .ref p14, .int i15, .ref p16, .ref p17, .int i18, .ref p19, .ref p20, .ref p21, .ref p22, .int i23, .int i24, .ref p25, .ref p26, .ref p27, .ref p28, .ref p29, .ref p30, .ref p31, .ref p32])), (p0, .inl (cI, 1439, .inl w)), (p1, .inl (cI, 7195, .inl z))] sz) := by
  refine Met.ofW (cc := cX11_undo) (maxL := 2) (ret := (some .int)) (by decide) rfl ?_
  intro p e s m args below meth c s₁ B hml hv
  obtain ⟨rfl, hsz, hP, hKK, hD0⟩ := hv
  have hK := hKK.1
  have hx := B.exec
  have hb := B.bytes
  have hr := B.returns
  have hts := atoms_spec (ws := wsX11_undo) B.pre
  have hown : s.vm.findClass RX11 = some m.cls := findClass_of_methodNamed B.named
  have hlocks := B.notSynchronized
  subst hsz
  have hD := hD0.self (sz := s.heap.size)
  generalize hAe : va_A [(m0, .inr (11, [.ref p0, .ref p1, .int (nI hm), .ref p3, .int i4, .ref p5, .int i6, .int i7, .int i8, .int i9, .ref p10, .int i11, .ref p12, .ref p13, .ref p14, .int i15, .ref p16, .ref p17, .int i18, .ref p19, .ref p20, .ref p21, .ref p22, .int i23, .int i24, .ref p25, .ref p26, .ref p27, .ref p28, .ref p29, .ref p30, .ref p31, .ref p32])), (p0, .inl (cI, 1439, .inl w)), (p1, .inl (cI, 7195, .inl z))] s.heap.size = A at hD ⊢
  have hA : ∀ q : Nat, s.heap.size ≤ q → A q := fun q h => by rw [← hAe]; exact Or.inr h
  have hS : va_S A s.heap s.heap [] := va_S.rf
  have hD : va_D A [(m0, .inr (11, [.ref p0, .ref p1, .int (nI hm), .ref p3, .int i4, .ref p5, .int i6, .int i7, .int i8, .int i9, .ref p10, .int i11, .ref p12, .ref p13, .ref p14, .int i15, .ref p16, .ref p17, .int i18, .ref p19, .ref p20, .ref p21, .ref p22, .int i23, .int i24, .ref p25, .ref p26, .ref p27, .ref p28, .ref p29, .ref p30, .ref p31, .ref p32])), (p0, .inl (cI, 1439, .inl w)), (p1, .inl (cI, 7195, .inl z))] := hD
  have hP : va_P D vwCl [(m0, .inr (11, [.ref p0, .ref p1, .int (nI hm), .ref p3, .int i4, .ref p5, .int i6, .int i7, .int i8, .int i9, .ref p10, .int i11, .ref p12, .ref p13, .ref p14, .int i15, .ref p16, .ref p17, .int i18, .ref p19, .ref p20, .ref p21, .ref p22, .int i23, .int i24, .ref p25, .ref p26, .ref p27, .ref p28, .ref p29, .ref p30, .ref p31, .ref p32])), (p0, .inl (cI, 1439, .inl w)), (p1, .inl (cI, 7195, .inl z))] s.heap := hP
  have hl := lv_entry ([.ref m0]) (n := 2) (Nat.le_of_ble_eq_true rfl)
  rw [lg_entry_eq]
  generalize (lg_sl ([.ref m0]) ++ List.replicate (2 - (lg_sl ([.ref m0])).length) Slot.unset).toArray = ls at hl ⊢
  have hl : lv_has ls 2 [(0, .ref m0)] := hl
  refine lv_aload_n hx hb dX11_undo_0 rfl (lv_at hl 0 rfl) ?_
  refine va_get (D := D) (ci := 11) (v := .int (nI hm)) (C := RX11) (T := TX11) (N := 33) hx hb hts (by decide +kernel) hown hK hP 0 rfl rfl 2 (by decide) (hts (.fieldLink RX11 82 "FiberTraceModel" "stateMany" "I") (by decide +kernel)) (fun _ h9 => h9) rfl dX11_undo_1 ?_
  refine lv_if_ne (tgt := 10) hx hb dX11_undo_4 (by decide) (fun c4 => ?_) (fun c4 => ?_)
  · have c4n : hm ≠ 0 := ft_neN (by omega) (by omega) c4
    refine lv_aload_n hx hb dX11_undo_10 rfl (lv_at hl 0 rfl) ?_
    refine lv_dup hx hb dX11_undo_11 rfl ?_
    refine va_get (D := D) (ci := 11) (v := .int (nI hm)) (C := RX11) (T := TX11) (N := 33) hx hb hts (by decide +kernel) hown hK hP 0 rfl rfl 2 (by decide) (hts (.fieldLink RX11 82 "FiberTraceModel" "stateMany" "I") (by decide +kernel)) (fun _ h9 => h9) rfl dX11_undo_12 ?_
    refine lv_iconst (v := 1) hx hb dX11_undo_15 (by decide) ?_
    refine lv_isub hx hb dX11_undo_16 ?_
    refine ft_top (y := nI (hm - 1)) (ft_subN (a := hm) (b := 1) (by omega)) ?_
    refine va_put (D := D) (ci := 11) (v := .int (nI (hm - 1))) (ty := .int) (C := RX11) (T := TX11) (N := 33) hx hb hts (by decide +kernel) tyX11 tyX11_ok nmX11 hown hK hP hD hS 0 rfl rfl 2 (by decide) (hts (.fieldLink RX11 82 "FiberTraceModel" "stateMany" "I") (by decide +kernel)) (fun _ h9 => h9) rfl (by decide +kernel) rfl rfl (Nat.le_of_ble_eq_true rfl) dX11_undo_17 (fun H locs hP hD hS => ?_)
    have hP : va_P D vwCl [(m0, .inr (11, [.ref p0, .ref p1, .int (nI (hm - 1)), .ref p3, .int i4, .ref p5, .int i6, .int i7, .int i8, .int i9, .ref p10, .int i11, .ref p12, .ref p13, .ref p14, .int i15, .ref p16, .ref p17, .int i18, .ref p19, .ref p20, .ref p21, .ref p22, .int i23, .int i24, .ref p25, .ref p26, .ref p27, .ref p28, .ref p29, .ref p30, .ref p31, .ref p32])), (p0, .inl (cI, 1439, .inl w)), (p1, .inl (cI, 7195, .inl z))] H := hP
    have hD : va_D A [(m0, .inr (11, [.ref p0, .ref p1, .int (nI (hm - 1)), .ref p3, .int i4, .ref p5, .int i6, .int i7, .int i8, .int i9, .ref p10, .int i11, .ref p12, .ref p13, .ref p14, .int i15, .ref p16, .ref p17, .int i18, .ref p19, .ref p20, .ref p21, .ref p22, .int i23, .int i24, .ref p25, .ref p26, .ref p27, .ref p28, .ref p29, .ref p30, .ref p31, .ref p32])), (p0, .inl (cI, 1439, .inl w)), (p1, .inl (cI, 7195, .inl z))] := hD
    refine lv_iconst (v := 0) hx hb dX11_undo_20 (by decide) ?_
    refine lv_istore_n (lv' := [(1, .int 0), (0, .ref m0)]) hx hb dX11_undo_21 rfl hl (by decide) rfl (fun ls hl => ?_)
    have lp22 : ∀ (n22 : Nat) (t : Nat) (x22_1 : Int32) (g22_p0 : Nat → Int32), 1439 - t < n22 → (t ≤ 1439) → x22_1 = nI t → g22_p0 = ftFill (fun t => z ((hm - 1) * 1439 + t)) w t → ∀ (H : Heap) (locs : List Loc), va_P D vwCl [(m0, .inr (11, [.ref p0, .ref p1, .int (nI (hm - 1)), .ref p3, .int i4, .ref p5, .int i6, .int i7, .int i8, .int i9, .ref p10, .int i11, .ref p12, .ref p13, .ref p14, .int i15, .ref p16, .ref p17, .int i18, .ref p19, .ref p20, .ref p21, .ref p22, .int i23, .int i24, .ref p25, .ref p26, .ref p27, .ref p28, .ref p29, .ref p30, .ref p31, .ref p32])), (p0, .inl (cI, 1439, .inl g22_p0)), (p1, .inl (cI, 7195, .inl z))] H → va_D A [(m0, .inr (11, [.ref p0, .ref p1, .int (nI (hm - 1)), .ref p3, .int i4, .ref p5, .int i6, .int i7, .int i8, .int i9, .ref p10, .int i11, .ref p12, .ref p13, .ref p14, .int i15, .ref p16, .ref p17, .int i18, .ref p19, .ref p20, .ref p21, .ref p22, .int i23, .int i24, .ref p25, .ref p26, .ref p27, .ref p28, .ref p29, .ref p30, .ref p31, .ref p32])), (p0, .inl (cI, 1439, .inl g22_p0)), (p1, .inl (cI, 7195, .inl z))] → va_S A s.heap H locs → ∀ ls : Array Slot, lv_has ls 2 [(0, .ref m0), (1, .int x22_1)] → W p l e (headSpec wsX11_undo { frames := 0, cells := 0, slots := 0, locals := 0 }).room s m ([.ref m0] : List Value).toArray below meth c H locs 0 0 (MQ below (ftQi D (if hm = 0 then -1000002 else nI (hm - 1)) [(m0, .inr (11, [.ref p0, .ref p1, .int (nI hm), .ref p3, .int i4, .ref p5, .int i6, .int i7, .int i8, .int i9, .ref p10, .int i11, .ref p12, .ref p13, .ref p14, .int i15, .ref p16, .ref p17, .int i18, .ref p19, .ref p20, .ref p21, .ref p22, .int i23, .int i24, .ref p25, .ref p26, .ref p27, .ref p28, .ref p29, .ref p30, .ref p31, .ref p32])), (p0, .inl (cI, 1439, .inl w)), (p1, .inl (cI, 7195, .inl z))] [(m0, .inr (11, [.ref p0, .ref p1, .int (nI (hm - 1)), .ref p3, .int i4, .ref p5, .int i6, .int i7, .int i8, .int i9, .ref p10, .int i11, .ref p12, .ref p13, .ref p14, .int i15, .ref p16, .ref p17, .int i18, .ref p19, .ref p20, .ref p21, .ref p22, .int i23, .int i24, .ref p25, .ref p26, .ref p27, .ref p28, .ref p29, .ref p30, .ref p31, .ref p32])), (p0, .inl (cI, 1439, .inl (if hm = 0 then w else ftFill (fun t => z ((hm - 1) * 1439 + t)) w 1439))), (p1, .inl (cI, 7195, .inl z))] s.heap.size) ([.ref m0] : List Value).toArray s 0 0 A) (F0 m 22 ls []) := by
      intro n22
      induction n22 with
      | zero =>
        intro t x22_1 g22_p0 hm22
        exact absurd hm22 (Nat.not_lt_zero _)
      | succ n22 ih22 =>
        intro t x22_1 g22_p0 hm22 ht0 ex22_1 eg22_p0 H locs hP hD hS ls hl
        subst ex22_1
        refine lv_iload_n hx hb dX11_undo_22 rfl (lv_at hl 1 rfl) ?_
        refine lv_sipush (v := 1439) hx hb dX11_undo_23 (by decide) ?_
        refine lv_icmp_ge (tgt := 56) hx hb dX11_undo_26 (by decide) (fun c26 => ?_) (fun c26 => ?_)
        · have c26n : 1439 ≤ t := ft_leN (by omega) (by omega) c26
          refine lv_aload_n hx hb dX11_undo_56 rfl (lv_at hl 0 rfl) ?_
          refine va_get (D := D) (ci := 11) (v := .int (nI (hm - 1))) (C := RX11) (T := TX11) (N := 33) hx hb hts (by decide +kernel) hown hK hP 0 rfl rfl 2 (by decide) (hts (.fieldLink RX11 82 "FiberTraceModel" "stateMany" "I") (by decide +kernel)) (fun _ h9 => h9) rfl dX11_undo_57 ?_
          have hw9 : ([(m0, .inr (11, [.ref p0, .ref p1, .int (nI (hm - 1)), .ref p3, .int i4, .ref p5, .int i6, .int i7, .int i8, .int i9, .ref p10, .int i11, .ref p12, .ref p13, .ref p14, .int i15, .ref p16, .ref p17, .int i18, .ref p19, .ref p20, .ref p21, .ref p22, .int i23, .int i24, .ref p25, .ref p26, .ref p27, .ref p28, .ref p29, .ref p30, .ref p31, .ref p32])), (p0, .inl (cI, 1439, .inl g22_p0)), (p1, .inl (cI, 7195, .inl z))] : va_W) = [(m0, .inr (11, [.ref p0, .ref p1, .int (nI (hm - 1)), .ref p3, .int i4, .ref p5, .int i6, .int i7, .int i8, .int i9, .ref p10, .int i11, .ref p12, .ref p13, .ref p14, .int i15, .ref p16, .ref p17, .int i18, .ref p19, .ref p20, .ref p21, .ref p22, .int i23, .int i24, .ref p25, .ref p26, .ref p27, .ref p28, .ref p29, .ref p30, .ref p31, .ref p32])), (p0, .inl (cI, 1439, .inl (if hm = 0 then w else ftFill (fun t => z ((hm - 1) * 1439 + t)) w 1439))), (p1, .inl (cI, 7195, .inl z))] := by (have ht9 : t = 1439 := by omega); rw [if_neg c4n, eg22_p0, ht9]
          rw [hw9] at hP hD
          exact W.iret (v := nI (hm - 1)) hx hb hr (fun t ht hW => ⟨⟨nI (hm - 1), (), rfl, (by show (nI (hm - 1) : Int32) = if hm = 0 then -1000002 else nI (hm - 1); exact (if_neg c4n).symm), by rw [ht]; exact hP, by rw [hAe]; exact hD⟩, by rw [hAe]; exact hS.F ht⟩) hS.2.2 dX11_undo_60
        · have c26n : t < 1439 := ft_nleN (by omega) (by omega) c26
          refine lv_aload_n hx hb dX11_undo_29 rfl (lv_at hl 0 rfl) ?_
          refine va_get (D := D) (ci := 11) (v := .ref p0) (C := RX11) (T := TX11) (N := 33) hx hb hts (by decide +kernel) hown hK hP 0 rfl rfl 0 (by decide) (hts (.fieldLink RX11 7 "FiberTraceModel" "now" "[I") (by decide +kernel)) (fun _ h9 => h9) rfl dX11_undo_30 ?_
          refine lv_iload_n hx hb dX11_undo_33 rfl (lv_at hl 1 rfl) ?_
          refine lv_aload_n hx hb dX11_undo_34 rfl (lv_at hl 0 rfl) ?_
          refine va_get (D := D) (ci := 11) (v := .ref p1) (C := RX11) (T := TX11) (N := 33) hx hb hts (by decide +kernel) hown hK hP 0 rfl rfl 1 (by decide) (hts (.fieldLink RX11 13 "FiberTraceModel" "states" "[I") (by decide +kernel)) (fun _ h9 => h9) rfl dX11_undo_35 ?_
          refine lv_aload_n hx hb dX11_undo_38 rfl (lv_at hl 0 rfl) ?_
          refine va_get (D := D) (ci := 11) (v := .int (nI (hm - 1))) (C := RX11) (T := TX11) (N := 33) hx hb hts (by decide +kernel) hown hK hP 0 rfl rfl 2 (by decide) (hts (.fieldLink RX11 82 "FiberTraceModel" "stateMany" "I") (by decide +kernel)) (fun _ h9 => h9) rfl dX11_undo_39 ?_
          refine lv_sipush (v := 1439) hx hb dX11_undo_42 (by decide) ?_
          refine lv_imul hx hb dX11_undo_45 ?_
          refine ft_top (y := nI ((hm - 1) * 1439)) (ft_mulN (hm - 1) 1439) ?_
          refine lv_iload_n hx hb dX11_undo_46 rfl (lv_at hl 1 rfl) ?_
          refine lv_iadd hx hb dX11_undo_47 ?_
          refine ft_top (y := nI (((hm - 1) * 1439) + t)) (ft_addN ((hm - 1) * 1439) t) ?_
          refine va_iald hx hb hK hP 2 0 rfl rfl (vp_in_nI (by omega) (by omega)) dX11_undo_48 ?_
          refine ft_top (y := z (((hm - 1) * 1439) + t)) (ft_clampN (by omega)) ?_
          refine va_iast hx hb hK hP hD hS 1 0 rfl rfl (vp_in_nI (by omega) (by omega)) dX11_undo_49 (fun H locs hP hD hS => ?_)
          rw [nI_clamp (show t < 2 ^ 31 by omega)] at hP hD
          have hP : va_P D vwCl [(m0, .inr (11, [.ref p0, .ref p1, .int (nI (hm - 1)), .ref p3, .int i4, .ref p5, .int i6, .int i7, .int i8, .int i9, .ref p10, .int i11, .ref p12, .ref p13, .ref p14, .int i15, .ref p16, .ref p17, .int i18, .ref p19, .ref p20, .ref p21, .ref p22, .int i23, .int i24, .ref p25, .ref p26, .ref p27, .ref p28, .ref p29, .ref p30, .ref p31, .ref p32])), (p0, .inl (cI, 1439, .inl (upd g22_p0 t (z (((hm - 1) * 1439) + t))))), (p1, .inl (cI, 7195, .inl z))] H := hP
          have hD : va_D A [(m0, .inr (11, [.ref p0, .ref p1, .int (nI (hm - 1)), .ref p3, .int i4, .ref p5, .int i6, .int i7, .int i8, .int i9, .ref p10, .int i11, .ref p12, .ref p13, .ref p14, .int i15, .ref p16, .ref p17, .int i18, .ref p19, .ref p20, .ref p21, .ref p22, .int i23, .int i24, .ref p25, .ref p26, .ref p27, .ref p28, .ref p29, .ref p30, .ref p31, .ref p32])), (p0, .inl (cI, 1439, .inl (upd g22_p0 t (z (((hm - 1) * 1439) + t))))), (p1, .inl (cI, 7195, .inl z))] := hD
          refine lv_iinc (v := nI (t + 1)) (lv' := [(1, .int (nI (t + 1))), (0, .ref m0)]) hx hb dX11_undo_50 hl (k := 1) rfl (ft_inc t) (by decide) rfl (fun ls hl => ?_)
          refine lv_goto (tgt := 22) hx hb dX11_undo_53 (by decide) ?_
          exact ih22 (t + 1) (nI (t + 1)) (upd g22_p0 t (z (((hm - 1) * 1439) + t))) (by omega) (by omega) (by first | rfl | assumption) (by rw [eg22_p0]; exact ftFill_s rfl) _ _ hP hD hS ls (lv_sub hl [1, 0] rfl)
    exact lp22 _ 0 0 w (Nat.lt_succ_self _) (by omega) (by rfl) (by exact ftFill_0 _ w) _ _ hP hD hS ls (lv_sub hl [1, 0] rfl)
  · have c4n : hm = 0 := ft_eqN (by omega) (by omega) c4
    refine lv_ldc (v := (-1000002)) hx hb hown (hts (.constant RX11 86 (-1000002)) (by decide +kernel)) dX11_undo_7 ?_
    have hw9 : ([(m0, .inr (11, [.ref p0, .ref p1, .int (nI hm), .ref p3, .int i4, .ref p5, .int i6, .int i7, .int i8, .int i9, .ref p10, .int i11, .ref p12, .ref p13, .ref p14, .int i15, .ref p16, .ref p17, .int i18, .ref p19, .ref p20, .ref p21, .ref p22, .int i23, .int i24, .ref p25, .ref p26, .ref p27, .ref p28, .ref p29, .ref p30, .ref p31, .ref p32])), (p0, .inl (cI, 1439, .inl w)), (p1, .inl (cI, 7195, .inl z))] : va_W) = [(m0, .inr (11, [.ref p0, .ref p1, .int (nI (hm - 1)), .ref p3, .int i4, .ref p5, .int i6, .int i7, .int i8, .int i9, .ref p10, .int i11, .ref p12, .ref p13, .ref p14, .int i15, .ref p16, .ref p17, .int i18, .ref p19, .ref p20, .ref p21, .ref p22, .int i23, .int i24, .ref p25, .ref p26, .ref p27, .ref p28, .ref p29, .ref p30, .ref p31, .ref p32])), (p0, .inl (cI, 1439, .inl (if hm = 0 then w else ftFill (fun t => z ((hm - 1) * 1439 + t)) w 1439))), (p1, .inl (cI, 7195, .inl z))] := by rw [if_pos c4n, c4n]
    rw [hw9] at hP hD
    exact W.iret (v := (-1000002)) hx hb hr (fun t ht hW => ⟨⟨(-1000002), (), rfl, (by show ((-1000002) : Int32) = if hm = 0 then -1000002 else nI (hm - 1); exact (if_pos c4n).symm), by rw [ht]; exact hP, by rw [hAe]; exact hD⟩, by rw [hAe]; exact hS.F ht⟩) hS.2.2 dX11_undo_9
set_option maxHeartbeats 4000000 in
set_option maxRecDepth 100000 in
theorem c_X11_comes (l : Launch) (D : va_G) (cI cS : ClassId) (sz : Nat) (p0 N : Nat) (w : Nat → Int32) (n : Nat) (kd x lo re : Int32) (hw3 : w 3 = nI n) (hn : n < 10) (hN : 44 ≤ N) (hN2 : N < 10000) : Met l yX11_comes wsX11_comes ({ frames := 0, cells := 0, slots := 0, locals := 0 }) (ftRW D cI cS [.ref p0, .int kd, .int x, .int lo, .int re] [(p0, .inl (cI, N, .inl w))] sz) (ftQi D (nI (ftPosW w x n)) [(p0, .inl (cI, N, .inl w))] [(p0, .inl (cI, N, .inl (ftAdd w n kd x lo re)))] sz) 0 0 (va_A [(p0, .inl (cI, N, .inl w))] sz) := by
  refine Met.ofW (cc := cX11_comes) (maxL := 7) (ret := (some .int)) (by decide) rfl ?_
  intro p e s m args below meth c s₁ B hml hv
  obtain ⟨rfl, hsz, hP, hKK, hD0⟩ := hv
  have hK := hKK.1
  have hx := B.exec
  have hb := B.bytes
  have hr := B.returns
  have hts := atoms_spec (ws := wsX11_comes) B.pre
  have hown : s.vm.findClass RX11 = some m.cls := findClass_of_methodNamed B.named
  have hlocks := B.notSynchronized
  subst hsz
  have hD := hD0.self (sz := s.heap.size)
  generalize hAe : va_A [(p0, .inl (cI, N, .inl w))] s.heap.size = A at hD ⊢
  have hA : ∀ q : Nat, s.heap.size ≤ q → A q := fun q h => by rw [← hAe]; exact Or.inr h
  have hS : va_S A s.heap s.heap [] := va_S.rf
  have hD : va_D A [(p0, .inl (cI, N, .inl w))] := hD
  have hP : va_P D vwCl [(p0, .inl (cI, N, .inl w))] s.heap := hP
  have hl := lv_entry ([.ref p0, .int kd, .int x, .int lo, .int re]) (n := 7) (Nat.le_of_ble_eq_true rfl)
  rw [lg_entry_eq]
  generalize (lg_sl ([.ref p0, .int kd, .int x, .int lo, .int re]) ++ List.replicate (7 - (lg_sl ([.ref p0, .int kd, .int x, .int lo, .int re])).length) Slot.unset).toArray = ls at hl ⊢
  have hl : lv_has ls 7 [(0, .ref p0), (1, .int kd), (2, .int x), (3, .int lo), (4, .int re)] := hl
  refine lv_aload_n hx hb dX11_comes_0 rfl (lv_at hl 0 rfl) ?_
  refine lv_iconst (v := 3) hx hb dX11_comes_1 (by decide) ?_
  refine va_iald hx hb hK hP 0 0 rfl rfl (vp_in_nI (n := 3) (by omega) (by omega)) dX11_comes_2 ?_
  refine ft_top (y := w 3) rfl ?_
  refine ft_top (y := nI n) hw3 ?_
  refine lv_istore (lv' := [(5, .int (nI n)), (0, .ref p0), (1, .int kd), (2, .int x), (3, .int lo), (4, .int re)]) hx hb dX11_comes_3 hl (by decide) rfl (fun ls hl => ?_)
  have lp5 : ∀ (n5 : Nat) (k : Nat) (x5_5 : Int32) (g5_p0 : Nat → Int32), k < n5 → (k ≤ n) → (ftPosW w x n = ftPosW w x k) → x5_5 = nI k → g5_p0 = ftShP w n k → ∀ (H : Heap) (locs : List Loc), va_P D vwCl [(p0, .inl (cI, N, .inl g5_p0))] H → va_D A [(p0, .inl (cI, N, .inl g5_p0))] → va_S A s.heap H locs → ∀ ls : Array Slot, lv_has ls 7 [(0, .ref p0), (1, .int kd), (2, .int x), (3, .int lo), (4, .int re), (5, .int x5_5)] → W p l e (headSpec wsX11_comes { frames := 0, cells := 0, slots := 0, locals := 0 }).room s m ([.ref p0, .int kd, .int x, .int lo, .int re] : List Value).toArray below meth c H locs 0 0 (MQ below (ftQi D (nI (ftPosW w x n)) [(p0, .inl (cI, N, .inl w))] [(p0, .inl (cI, N, .inl (ftAdd w n kd x lo re)))] s.heap.size) ([.ref p0, .int kd, .int x, .int lo, .int re] : List Value).toArray s 0 0 A) (F0 m 5 ls []) := by
    intro n5
    induction n5 with
    | zero =>
      intro k x5_5 g5_p0 hm5
      exact absurd hm5 (Nat.not_lt_zero _)
    | succ n5 ih5 =>
      intro k x5_5 g5_p0 hm5 hkn hd ex5_5 eg5_p0 H locs hP hD hS ls hl
      subst ex5_5
      refine lv_iload hx hb dX11_comes_5 (lv_at hl 5 rfl) ?_
      refine lv_if_le (tgt := 71) hx hb dX11_comes_7 (by decide) (fun c7 => ?_) (fun c7 => ?_)
      · have c7n : k ≤ 0 := ft_leN (by omega) (by omega) c7
        have hk0 : k = 0 := ft_le0 (by omega) c7
        have hix : ftPosW w x n = k := by rw [hd, hk0]; rfl
        refine lv_aload_n hx hb dX11_comes_71 rfl (lv_at hl 0 rfl) ?_
        refine lv_iconst (v := 4) hx hb dX11_comes_72 (by decide) ?_
        refine lv_iconst (v := 4) hx hb dX11_comes_73 (by decide) ?_
        refine lv_iload hx hb dX11_comes_74 (lv_at hl 5 rfl) ?_
        refine lv_imul hx hb dX11_comes_76 ?_
        refine ft_top (y := nI (4 * k)) (ft_mulN 4 k) ?_
        refine lv_iadd hx hb dX11_comes_77 ?_
        refine ft_top (y := nI (4 + (4 * k))) (ft_addN 4 (4 * k)) ?_
        refine lv_iconst (v := 0) hx hb dX11_comes_78 (by decide) ?_
        refine lv_iadd hx hb dX11_comes_79 ?_
        refine ft_top (y := nI ((4 + (4 * k)) + 0)) (ft_addN (4 + (4 * k)) 0) ?_
        refine lv_iload_n hx hb dX11_comes_80 rfl (lv_at hl 1 rfl) ?_
        refine va_iast hx hb hK hP hD hS 0 0 rfl rfl (vp_in_nI (by omega) (by omega)) dX11_comes_81 (fun H locs hP hD hS => ?_)
        rw [nI_clamp (show (4 + (4 * k)) + 0 < 2 ^ 31 by omega)] at hP hD
        have hP : va_P D vwCl [(p0, .inl (cI, N, .inl (upd g5_p0 ((4 + (4 * k)) + 0) kd)))] H := hP
        have hD : va_D A [(p0, .inl (cI, N, .inl (upd g5_p0 ((4 + (4 * k)) + 0) kd)))] := hD
        refine lv_aload_n hx hb dX11_comes_82 rfl (lv_at hl 0 rfl) ?_
        refine lv_iconst (v := 4) hx hb dX11_comes_83 (by decide) ?_
        refine lv_iconst (v := 4) hx hb dX11_comes_84 (by decide) ?_
        refine lv_iload hx hb dX11_comes_85 (lv_at hl 5 rfl) ?_
        refine lv_imul hx hb dX11_comes_87 ?_
        refine ft_top (y := nI (4 * k)) (ft_mulN 4 k) ?_
        refine lv_iadd hx hb dX11_comes_88 ?_
        refine ft_top (y := nI (4 + (4 * k))) (ft_addN 4 (4 * k)) ?_
        refine lv_iconst (v := 1) hx hb dX11_comes_89 (by decide) ?_
        refine lv_iadd hx hb dX11_comes_90 ?_
        refine ft_top (y := nI ((4 + (4 * k)) + 1)) (ft_addN (4 + (4 * k)) 1) ?_
        refine lv_iload_n hx hb dX11_comes_91 rfl (lv_at hl 2 rfl) ?_
        refine va_iast hx hb hK hP hD hS 0 0 rfl rfl (vp_in_nI (by omega) (by omega)) dX11_comes_92 (fun H locs hP hD hS => ?_)
        rw [nI_clamp (show (4 + (4 * k)) + 1 < 2 ^ 31 by omega)] at hP hD
        have hP : va_P D vwCl [(p0, .inl (cI, N, .inl (upd (upd g5_p0 ((4 + (4 * k)) + 0) kd) ((4 + (4 * k)) + 1) x)))] H := hP
        have hD : va_D A [(p0, .inl (cI, N, .inl (upd (upd g5_p0 ((4 + (4 * k)) + 0) kd) ((4 + (4 * k)) + 1) x)))] := hD
        refine lv_aload_n hx hb dX11_comes_93 rfl (lv_at hl 0 rfl) ?_
        refine lv_iconst (v := 4) hx hb dX11_comes_94 (by decide) ?_
        refine lv_iconst (v := 4) hx hb dX11_comes_95 (by decide) ?_
        refine lv_iload hx hb dX11_comes_96 (lv_at hl 5 rfl) ?_
        refine lv_imul hx hb dX11_comes_98 ?_
        refine ft_top (y := nI (4 * k)) (ft_mulN 4 k) ?_
        refine lv_iadd hx hb dX11_comes_99 ?_
        refine ft_top (y := nI (4 + (4 * k))) (ft_addN 4 (4 * k)) ?_
        refine lv_iconst (v := 2) hx hb dX11_comes_100 (by decide) ?_
        refine lv_iadd hx hb dX11_comes_101 ?_
        refine ft_top (y := nI ((4 + (4 * k)) + 2)) (ft_addN (4 + (4 * k)) 2) ?_
        refine lv_iload_n hx hb dX11_comes_102 rfl (lv_at hl 3 rfl) ?_
        refine va_iast hx hb hK hP hD hS 0 0 rfl rfl (vp_in_nI (by omega) (by omega)) dX11_comes_103 (fun H locs hP hD hS => ?_)
        rw [nI_clamp (show (4 + (4 * k)) + 2 < 2 ^ 31 by omega)] at hP hD
        have hP : va_P D vwCl [(p0, .inl (cI, N, .inl (upd (upd (upd g5_p0 ((4 + (4 * k)) + 0) kd) ((4 + (4 * k)) + 1) x) ((4 + (4 * k)) + 2) lo)))] H := hP
        have hD : va_D A [(p0, .inl (cI, N, .inl (upd (upd (upd g5_p0 ((4 + (4 * k)) + 0) kd) ((4 + (4 * k)) + 1) x) ((4 + (4 * k)) + 2) lo)))] := hD
        refine lv_aload_n hx hb dX11_comes_104 rfl (lv_at hl 0 rfl) ?_
        refine lv_iconst (v := 4) hx hb dX11_comes_105 (by decide) ?_
        refine lv_iconst (v := 4) hx hb dX11_comes_106 (by decide) ?_
        refine lv_iload hx hb dX11_comes_107 (lv_at hl 5 rfl) ?_
        refine lv_imul hx hb dX11_comes_109 ?_
        refine ft_top (y := nI (4 * k)) (ft_mulN 4 k) ?_
        refine lv_iadd hx hb dX11_comes_110 ?_
        refine ft_top (y := nI (4 + (4 * k))) (ft_addN 4 (4 * k)) ?_
        refine lv_iconst (v := 3) hx hb dX11_comes_111 (by decide) ?_
        refine lv_iadd hx hb dX11_comes_112 ?_
        refine ft_top (y := nI ((4 + (4 * k)) + 3)) (ft_addN (4 + (4 * k)) 3) ?_
        refine lv_iload hx hb dX11_comes_113 (lv_at hl 4 rfl) ?_
        refine va_iast hx hb hK hP hD hS 0 0 rfl rfl (vp_in_nI (by omega) (by omega)) dX11_comes_115 (fun H locs hP hD hS => ?_)
        rw [nI_clamp (show (4 + (4 * k)) + 3 < 2 ^ 31 by omega)] at hP hD
        have hP : va_P D vwCl [(p0, .inl (cI, N, .inl (upd (upd (upd (upd g5_p0 ((4 + (4 * k)) + 0) kd) ((4 + (4 * k)) + 1) x) ((4 + (4 * k)) + 2) lo) ((4 + (4 * k)) + 3) re)))] H := hP
        have hD : va_D A [(p0, .inl (cI, N, .inl (upd (upd (upd (upd g5_p0 ((4 + (4 * k)) + 0) kd) ((4 + (4 * k)) + 1) x) ((4 + (4 * k)) + 2) lo) ((4 + (4 * k)) + 3) re)))] := hD
        refine lv_aload_n hx hb dX11_comes_116 rfl (lv_at hl 0 rfl) ?_
        refine lv_iconst (v := 3) hx hb dX11_comes_117 (by decide) ?_
        refine lv_dup2_11 hx hb dX11_comes_118 rfl rfl ?_
        rw [eg5_p0] at hP hD
        refine va_iald hx hb hK hP 0 0 rfl rfl (vp_in_nI (n := 3) (by omega) (by omega)) dX11_comes_119 ?_
        refine ft_top (y := (upd (upd (upd (upd (ftShP w n k) ((4 + (4 * k)) + 0) kd) ((4 + (4 * k)) + 1) x) ((4 + (4 * k)) + 2) lo) ((4 + (4 * k)) + 3) re) 3) rfl ?_
        refine ft_top (y := nI n) (ftComes_3.trans hw3) ?_
        refine lv_iconst (v := 1) hx hb dX11_comes_120 (by decide) ?_
        refine lv_iadd hx hb dX11_comes_121 ?_
        refine ft_top (y := nI (n + 1)) (ft_addN n 1) ?_
        refine va_iast hx hb hK hP hD hS 0 0 rfl rfl (vp_in_nI (n := 3) (by omega) (by omega)) dX11_comes_122 (fun H locs hP hD hS => ?_)
        have hP : va_P D vwCl [(p0, .inl (cI, N, .inl (upd (upd (upd (upd (upd (ftShP w n k) ((4 + (4 * k)) + 0) kd) ((4 + (4 * k)) + 1) x) ((4 + (4 * k)) + 2) lo) ((4 + (4 * k)) + 3) re) 3 (nI (n + 1)))))] H := hP
        have hD : va_D A [(p0, .inl (cI, N, .inl (upd (upd (upd (upd (upd (ftShP w n k) ((4 + (4 * k)) + 0) kd) ((4 + (4 * k)) + 1) x) ((4 + (4 * k)) + 2) lo) ((4 + (4 * k)) + 3) re) 3 (nI (n + 1)))))] := hD
        refine lv_iload hx hb dX11_comes_123 (lv_at hl 5 rfl) ?_
        have hw9 : ([(p0, .inl (cI, N, .inl (upd (upd (upd (upd (upd (ftShP w n k) ((4 + (4 * k)) + 0) kd) ((4 + (4 * k)) + 1) x) ((4 + (4 * k)) + 2) lo) ((4 + (4 * k)) + 3) re) 3 (nI (n + 1)))))] : va_W) = [(p0, .inl (cI, N, .inl (ftAdd w n kd x lo re)))] := by rw [ftAdd, hix]; rfl
        rw [hw9] at hP hD
        exact W.iret (v := nI k) hx hb hr (fun t ht hW => ⟨⟨nI k, (), rfl, (by show (nI k : Int32) = nI (ftPosW w x n); rw [hix]), by rw [ht]; exact hP, by rw [hAe]; exact hD⟩, by rw [hAe]; exact hS.F ht⟩) hS.2.2 dX11_comes_125
      · have c7n : 0 < k := ft_nleN (by omega) (by omega) c7
        have hk1 : 0 < k := ft_gt0 c7
        have hlow : g5_p0 (4 + 4 * (k - 1) + 1) = w (4 + 4 * (k - 1) + 1) := by rw [eg5_p0]; exact ftShP_low (by omega)
        refine lv_aload_n hx hb dX11_comes_10 rfl (lv_at hl 0 rfl) ?_
        refine lv_iconst (v := 4) hx hb dX11_comes_11 (by decide) ?_
        refine lv_iconst (v := 4) hx hb dX11_comes_12 (by decide) ?_
        refine lv_iload hx hb dX11_comes_13 (lv_at hl 5 rfl) ?_
        refine lv_iconst (v := 1) hx hb dX11_comes_15 (by decide) ?_
        refine lv_isub hx hb dX11_comes_16 ?_
        refine ft_top (y := nI (k - 1)) (ft_subN (a := k) (b := 1) (by omega)) ?_
        refine lv_imul hx hb dX11_comes_17 ?_
        refine ft_top (y := nI (4 * (k - 1))) (ft_mulN 4 (k - 1)) ?_
        refine lv_iadd hx hb dX11_comes_18 ?_
        refine ft_top (y := nI (4 + (4 * (k - 1)))) (ft_addN 4 (4 * (k - 1))) ?_
        refine lv_iconst (v := 1) hx hb dX11_comes_19 (by decide) ?_
        refine lv_iadd hx hb dX11_comes_20 ?_
        refine ft_top (y := nI ((4 + (4 * (k - 1))) + 1)) (ft_addN (4 + (4 * (k - 1))) 1) ?_
        refine va_iald hx hb hK hP 0 0 rfl rfl (vp_in_nI (by omega) (by omega)) dX11_comes_21 ?_
        refine ft_top (y := g5_p0 ((4 + (4 * (k - 1))) + 1)) (ft_clampN (by omega)) ?_
        refine lv_iload_n hx hb dX11_comes_22 rfl (lv_at hl 2 rfl) ?_
        refine lv_icmp_le (tgt := 71) hx hb dX11_comes_23 (by decide) (fun c23 => ?_) (fun c23 => ?_)
        · have hix : ftPosW w x n = k := by rw [hd]; exact ftPosW_ge hk1 (by rw [← hlow]; exact Int32.not_lt.mpr c23)
          refine lv_aload_n hx hb dX11_comes_71 rfl (lv_at hl 0 rfl) ?_
          refine lv_iconst (v := 4) hx hb dX11_comes_72 (by decide) ?_
          refine lv_iconst (v := 4) hx hb dX11_comes_73 (by decide) ?_
          refine lv_iload hx hb dX11_comes_74 (lv_at hl 5 rfl) ?_
          refine lv_imul hx hb dX11_comes_76 ?_
          refine ft_top (y := nI (4 * k)) (ft_mulN 4 k) ?_
          refine lv_iadd hx hb dX11_comes_77 ?_
          refine ft_top (y := nI (4 + (4 * k))) (ft_addN 4 (4 * k)) ?_
          refine lv_iconst (v := 0) hx hb dX11_comes_78 (by decide) ?_
          refine lv_iadd hx hb dX11_comes_79 ?_
          refine ft_top (y := nI ((4 + (4 * k)) + 0)) (ft_addN (4 + (4 * k)) 0) ?_
          refine lv_iload_n hx hb dX11_comes_80 rfl (lv_at hl 1 rfl) ?_
          refine va_iast hx hb hK hP hD hS 0 0 rfl rfl (vp_in_nI (by omega) (by omega)) dX11_comes_81 (fun H locs hP hD hS => ?_)
          rw [nI_clamp (show (4 + (4 * k)) + 0 < 2 ^ 31 by omega)] at hP hD
          have hP : va_P D vwCl [(p0, .inl (cI, N, .inl (upd g5_p0 ((4 + (4 * k)) + 0) kd)))] H := hP
          have hD : va_D A [(p0, .inl (cI, N, .inl (upd g5_p0 ((4 + (4 * k)) + 0) kd)))] := hD
          refine lv_aload_n hx hb dX11_comes_82 rfl (lv_at hl 0 rfl) ?_
          refine lv_iconst (v := 4) hx hb dX11_comes_83 (by decide) ?_
          refine lv_iconst (v := 4) hx hb dX11_comes_84 (by decide) ?_
          refine lv_iload hx hb dX11_comes_85 (lv_at hl 5 rfl) ?_
          refine lv_imul hx hb dX11_comes_87 ?_
          refine ft_top (y := nI (4 * k)) (ft_mulN 4 k) ?_
          refine lv_iadd hx hb dX11_comes_88 ?_
          refine ft_top (y := nI (4 + (4 * k))) (ft_addN 4 (4 * k)) ?_
          refine lv_iconst (v := 1) hx hb dX11_comes_89 (by decide) ?_
          refine lv_iadd hx hb dX11_comes_90 ?_
          refine ft_top (y := nI ((4 + (4 * k)) + 1)) (ft_addN (4 + (4 * k)) 1) ?_
          refine lv_iload_n hx hb dX11_comes_91 rfl (lv_at hl 2 rfl) ?_
          refine va_iast hx hb hK hP hD hS 0 0 rfl rfl (vp_in_nI (by omega) (by omega)) dX11_comes_92 (fun H locs hP hD hS => ?_)
          rw [nI_clamp (show (4 + (4 * k)) + 1 < 2 ^ 31 by omega)] at hP hD
          have hP : va_P D vwCl [(p0, .inl (cI, N, .inl (upd (upd g5_p0 ((4 + (4 * k)) + 0) kd) ((4 + (4 * k)) + 1) x)))] H := hP
          have hD : va_D A [(p0, .inl (cI, N, .inl (upd (upd g5_p0 ((4 + (4 * k)) + 0) kd) ((4 + (4 * k)) + 1) x)))] := hD
          refine lv_aload_n hx hb dX11_comes_93 rfl (lv_at hl 0 rfl) ?_
          refine lv_iconst (v := 4) hx hb dX11_comes_94 (by decide) ?_
          refine lv_iconst (v := 4) hx hb dX11_comes_95 (by decide) ?_
          refine lv_iload hx hb dX11_comes_96 (lv_at hl 5 rfl) ?_
          refine lv_imul hx hb dX11_comes_98 ?_
          refine ft_top (y := nI (4 * k)) (ft_mulN 4 k) ?_
          refine lv_iadd hx hb dX11_comes_99 ?_
          refine ft_top (y := nI (4 + (4 * k))) (ft_addN 4 (4 * k)) ?_
          refine lv_iconst (v := 2) hx hb dX11_comes_100 (by decide) ?_
          refine lv_iadd hx hb dX11_comes_101 ?_
          refine ft_top (y := nI ((4 + (4 * k)) + 2)) (ft_addN (4 + (4 * k)) 2) ?_
          refine lv_iload_n hx hb dX11_comes_102 rfl (lv_at hl 3 rfl) ?_
          refine va_iast hx hb hK hP hD hS 0 0 rfl rfl (vp_in_nI (by omega) (by omega)) dX11_comes_103 (fun H locs hP hD hS => ?_)
          rw [nI_clamp (show (4 + (4 * k)) + 2 < 2 ^ 31 by omega)] at hP hD
          have hP : va_P D vwCl [(p0, .inl (cI, N, .inl (upd (upd (upd g5_p0 ((4 + (4 * k)) + 0) kd) ((4 + (4 * k)) + 1) x) ((4 + (4 * k)) + 2) lo)))] H := hP
          have hD : va_D A [(p0, .inl (cI, N, .inl (upd (upd (upd g5_p0 ((4 + (4 * k)) + 0) kd) ((4 + (4 * k)) + 1) x) ((4 + (4 * k)) + 2) lo)))] := hD
          refine lv_aload_n hx hb dX11_comes_104 rfl (lv_at hl 0 rfl) ?_
          refine lv_iconst (v := 4) hx hb dX11_comes_105 (by decide) ?_
          refine lv_iconst (v := 4) hx hb dX11_comes_106 (by decide) ?_
          refine lv_iload hx hb dX11_comes_107 (lv_at hl 5 rfl) ?_
          refine lv_imul hx hb dX11_comes_109 ?_
          refine ft_top (y := nI (4 * k)) (ft_mulN 4 k) ?_
          refine lv_iadd hx hb dX11_comes_110 ?_
          refine ft_top (y := nI (4 + (4 * k))) (ft_addN 4 (4 * k)) ?_
          refine lv_iconst (v := 3) hx hb dX11_comes_111 (by decide) ?_
          refine lv_iadd hx hb dX11_comes_112 ?_
          refine ft_top (y := nI ((4 + (4 * k)) + 3)) (ft_addN (4 + (4 * k)) 3) ?_
          refine lv_iload hx hb dX11_comes_113 (lv_at hl 4 rfl) ?_
          refine va_iast hx hb hK hP hD hS 0 0 rfl rfl (vp_in_nI (by omega) (by omega)) dX11_comes_115 (fun H locs hP hD hS => ?_)
          rw [nI_clamp (show (4 + (4 * k)) + 3 < 2 ^ 31 by omega)] at hP hD
          have hP : va_P D vwCl [(p0, .inl (cI, N, .inl (upd (upd (upd (upd g5_p0 ((4 + (4 * k)) + 0) kd) ((4 + (4 * k)) + 1) x) ((4 + (4 * k)) + 2) lo) ((4 + (4 * k)) + 3) re)))] H := hP
          have hD : va_D A [(p0, .inl (cI, N, .inl (upd (upd (upd (upd g5_p0 ((4 + (4 * k)) + 0) kd) ((4 + (4 * k)) + 1) x) ((4 + (4 * k)) + 2) lo) ((4 + (4 * k)) + 3) re)))] := hD
          refine lv_aload_n hx hb dX11_comes_116 rfl (lv_at hl 0 rfl) ?_
          refine lv_iconst (v := 3) hx hb dX11_comes_117 (by decide) ?_
          refine lv_dup2_11 hx hb dX11_comes_118 rfl rfl ?_
          rw [eg5_p0] at hP hD
          refine va_iald hx hb hK hP 0 0 rfl rfl (vp_in_nI (n := 3) (by omega) (by omega)) dX11_comes_119 ?_
          refine ft_top (y := (upd (upd (upd (upd (ftShP w n k) ((4 + (4 * k)) + 0) kd) ((4 + (4 * k)) + 1) x) ((4 + (4 * k)) + 2) lo) ((4 + (4 * k)) + 3) re) 3) rfl ?_
          refine ft_top (y := nI n) (ftComes_3.trans hw3) ?_
          refine lv_iconst (v := 1) hx hb dX11_comes_120 (by decide) ?_
          refine lv_iadd hx hb dX11_comes_121 ?_
          refine ft_top (y := nI (n + 1)) (ft_addN n 1) ?_
          refine va_iast hx hb hK hP hD hS 0 0 rfl rfl (vp_in_nI (n := 3) (by omega) (by omega)) dX11_comes_122 (fun H locs hP hD hS => ?_)
          have hP : va_P D vwCl [(p0, .inl (cI, N, .inl (upd (upd (upd (upd (upd (ftShP w n k) ((4 + (4 * k)) + 0) kd) ((4 + (4 * k)) + 1) x) ((4 + (4 * k)) + 2) lo) ((4 + (4 * k)) + 3) re) 3 (nI (n + 1)))))] H := hP
          have hD : va_D A [(p0, .inl (cI, N, .inl (upd (upd (upd (upd (upd (ftShP w n k) ((4 + (4 * k)) + 0) kd) ((4 + (4 * k)) + 1) x) ((4 + (4 * k)) + 2) lo) ((4 + (4 * k)) + 3) re) 3 (nI (n + 1)))))] := hD
          refine lv_iload hx hb dX11_comes_123 (lv_at hl 5 rfl) ?_
          have hw9 : ([(p0, .inl (cI, N, .inl (upd (upd (upd (upd (upd (ftShP w n k) ((4 + (4 * k)) + 0) kd) ((4 + (4 * k)) + 1) x) ((4 + (4 * k)) + 2) lo) ((4 + (4 * k)) + 3) re) 3 (nI (n + 1)))))] : va_W) = [(p0, .inl (cI, N, .inl (ftAdd w n kd x lo re)))] := by rw [ftAdd, hix]; rfl
          rw [hw9] at hP hD
          exact W.iret (v := nI k) hx hb hr (fun t ht hW => ⟨⟨nI k, (), rfl, (by show (nI k : Int32) = nI (ftPosW w x n); rw [hix]), by rw [ht]; exact hP, by rw [hAe]; exact hD⟩, by rw [hAe]; exact hS.F ht⟩) hS.2.2 dX11_comes_125
        · refine lv_iconst (v := 0) hx hb dX11_comes_26 (by decide) ?_
          refine lv_istore (lv' := [(6, .int 0), (0, .ref p0), (1, .int kd), (2, .int x), (3, .int lo), (4, .int re), (5, .int (nI k))]) hx hb dX11_comes_27 hl (by decide) rfl (fun ls hl => ?_)
          have lp29 : ∀ (n29 : Nat) (i : Nat) (x29_6 : Int32) (g29_p0 : Nat → Int32), 4 - i < n29 → (i ≤ 4) → x29_6 = nI i → g29_p0 = ftShI w n k i → ∀ (H : Heap) (locs : List Loc), va_P D vwCl [(p0, .inl (cI, N, .inl g29_p0))] H → va_D A [(p0, .inl (cI, N, .inl g29_p0))] → va_S A s.heap H locs → ∀ ls : Array Slot, lv_has ls 7 [(0, .ref p0), (1, .int kd), (2, .int x), (3, .int lo), (4, .int re), (5, .int (nI k)), (6, .int x29_6)] → W p l e (headSpec wsX11_comes { frames := 0, cells := 0, slots := 0, locals := 0 }).room s m ([.ref p0, .int kd, .int x, .int lo, .int re] : List Value).toArray below meth c H locs 0 0 (MQ below (ftQi D (nI (ftPosW w x n)) [(p0, .inl (cI, N, .inl w))] [(p0, .inl (cI, N, .inl (ftAdd w n kd x lo re)))] s.heap.size) ([.ref p0, .int kd, .int x, .int lo, .int re] : List Value).toArray s 0 0 A) (F0 m 29 ls []) := by
            intro n29
            induction n29 with
            | zero =>
              intro i x29_6 g29_p0 hm29
              exact absurd hm29 (Nat.not_lt_zero _)
            | succ n29 ih29 =>
              intro i x29_6 g29_p0 hm29 hi4 ex29_6 eg29_p0 H locs hP hD hS ls hl
              subst ex29_6
              refine lv_iload hx hb dX11_comes_29 (lv_at hl 6 rfl) ?_
              refine lv_iconst (v := 4) hx hb dX11_comes_31 (by decide) ?_
              refine lv_icmp_ge (tgt := 65) hx hb dX11_comes_32 (by decide) (fun c32 => ?_) (fun c32 => ?_)
              · have c32n : 4 ≤ i := ft_leN (by omega) (by omega) c32
                refine lv_iinc (v := nI (k - 1)) (lv' := [(5, .int (nI (k - 1))), (0, .ref p0), (1, .int kd), (2, .int x), (3, .int lo), (4, .int re), (6, .int (nI i))]) hx hb dX11_comes_65 hl (k := 5) rfl (ft_dec (by omega)) (by decide) rfl (fun ls hl => ?_)
                refine lv_goto (tgt := 5) hx hb dX11_comes_68 (by decide) ?_
                exact ih5 (k - 1) (nI (k - 1)) g29_p0 (by omega) (by omega) (by rw [hd]; exact ftPosW_gt hk1 (by rw [← hlow]; exact Int32.not_le.mp c23)) (by first | rfl | assumption) (by (have hi9 : i = 4 := by omega); rw [eg29_p0, hi9]; exact ftShI_4 hk1 hkn) _ _ hP hD hS ls (lv_sub hl [1, 2, 3, 4, 5, 0] rfl)
              · have c32n : i < 4 := ft_nleN (by omega) (by omega) c32
                refine lv_aload_n hx hb dX11_comes_35 rfl (lv_at hl 0 rfl) ?_
                refine lv_iconst (v := 4) hx hb dX11_comes_36 (by decide) ?_
                refine lv_iconst (v := 4) hx hb dX11_comes_37 (by decide) ?_
                refine lv_iload hx hb dX11_comes_38 (lv_at hl 5 rfl) ?_
                refine lv_imul hx hb dX11_comes_40 ?_
                refine ft_top (y := nI (4 * k)) (ft_mulN 4 k) ?_
                refine lv_iadd hx hb dX11_comes_41 ?_
                refine ft_top (y := nI (4 + (4 * k))) (ft_addN 4 (4 * k)) ?_
                refine lv_iload hx hb dX11_comes_42 (lv_at hl 6 rfl) ?_
                refine lv_iadd hx hb dX11_comes_44 ?_
                refine ft_top (y := nI ((4 + (4 * k)) + i)) (ft_addN (4 + (4 * k)) i) ?_
                refine lv_aload_n hx hb dX11_comes_45 rfl (lv_at hl 0 rfl) ?_
                refine lv_iconst (v := 4) hx hb dX11_comes_46 (by decide) ?_
                refine lv_iconst (v := 4) hx hb dX11_comes_47 (by decide) ?_
                refine lv_iload hx hb dX11_comes_48 (lv_at hl 5 rfl) ?_
                refine lv_iconst (v := 1) hx hb dX11_comes_50 (by decide) ?_
                refine lv_isub hx hb dX11_comes_51 ?_
                refine ft_top (y := nI (k - 1)) (ft_subN (a := k) (b := 1) (by omega)) ?_
                refine lv_imul hx hb dX11_comes_52 ?_
                refine ft_top (y := nI (4 * (k - 1))) (ft_mulN 4 (k - 1)) ?_
                refine lv_iadd hx hb dX11_comes_53 ?_
                refine ft_top (y := nI (4 + (4 * (k - 1)))) (ft_addN 4 (4 * (k - 1))) ?_
                refine lv_iload hx hb dX11_comes_54 (lv_at hl 6 rfl) ?_
                refine lv_iadd hx hb dX11_comes_56 ?_
                refine ft_top (y := nI ((4 + (4 * (k - 1))) + i)) (ft_addN (4 + (4 * (k - 1))) i) ?_
                refine va_iald hx hb hK hP 0 0 rfl rfl (vp_in_nI (by omega) (by omega)) dX11_comes_57 ?_
                refine ft_top (y := g29_p0 ((4 + (4 * (k - 1))) + i)) (ft_clampN (by omega)) ?_
                refine va_iast hx hb hK hP hD hS 0 0 rfl rfl (vp_in_nI (by omega) (by omega)) dX11_comes_58 (fun H locs hP hD hS => ?_)
                rw [nI_clamp (show (4 + (4 * k)) + i < 2 ^ 31 by omega)] at hP hD
                have hP : va_P D vwCl [(p0, .inl (cI, N, .inl (upd g29_p0 ((4 + (4 * k)) + i) (g29_p0 ((4 + (4 * (k - 1))) + i)))))] H := hP
                have hD : va_D A [(p0, .inl (cI, N, .inl (upd g29_p0 ((4 + (4 * k)) + i) (g29_p0 ((4 + (4 * (k - 1))) + i)))))] := hD
                refine lv_iinc (v := nI (i + 1)) (lv' := [(6, .int (nI (i + 1))), (0, .ref p0), (1, .int kd), (2, .int x), (3, .int lo), (4, .int re), (5, .int (nI k))]) hx hb dX11_comes_59 hl (k := 6) rfl (ft_inc i) (by decide) rfl (fun ls hl => ?_)
                refine lv_goto (tgt := 29) hx hb dX11_comes_62 (by decide) ?_
                exact ih29 (i + 1) (nI (i + 1)) (upd g29_p0 ((4 + (4 * k)) + i) (g29_p0 ((4 + (4 * (k - 1))) + i))) (by omega) (by omega) (by first | rfl | assumption) (by rw [eg29_p0]; exact ftShI_s hk1 (by omega)) _ _ hP hD hS ls (lv_sub hl [1, 2, 3, 4, 5, 6, 0] rfl)
          exact lp29 _ 0 0 g5_p0 (Nat.lt_succ_self _) (by omega) (by rfl) (by rw [eg5_p0]; exact ftShI_0 w n k) _ _ hP hD hS ls (lv_sub hl [1, 2, 3, 4, 5, 6, 0] rfl)
  exact lp5 _ n (nI n) w (Nat.lt_succ_self _) (by omega) (by rfl) (by rfl) (by exact ftShP_0 w n) _ _ hP hD hS ls (lv_sub hl [1, 2, 3, 4, 5, 0] rfl)
end
section
/-! the reference: noise, peaks, flashes, ghosts -/
theorem ft_pastI {x pl w : Nat} (hx : x ≤ 1000) (hp : pl ≤ 1000) (hw : w ≤ 20) : ((nI x - nI pl) - nI w + 1).toInt = (x : Int) - pl - w + 1 := by
  have h1 : (nI x - nI pl).toInt = (x : Int) - pl := ft_subI (by omega) (by omega)
  have h2 : ((nI x - nI pl) - nI w).toInt = (x : Int) - pl - w := by
    rw [Int32.toInt_sub, h1, nI_toInt (by omega)]
    exact Int.bmod_eq_of_le (by omega) (by omega)
  rw [Int32.toInt_add, h2]
  show ((x : Int) - pl - w + 1).bmod (2 ^ 32) = _
  exact Int.bmod_eq_of_le (by omega) (by omega)
theorem ft_past {x pl w : Nat} (hx : x ≤ 1000) (hp : pl ≤ 1000) (hw : w ≤ 20) (h : 0 < (nI x - nI pl) - nI w + 1) : pl + w < x + 1 ∧ (nI x - nI pl) - nI w + 1 = nI (x + 1 - (pl + w)) := by
  have e := ft_pastI hx hp hw
  rw [Int32.lt_iff_toInt_lt, e] at h
  have h2 : (0 : Int) < (x : Int) - pl - w + 1 := h
  refine ⟨by omega, Int32.toInt_inj.mp ?_⟩
  rw [e, nI_toInt (by omega)]
  omega
theorem ft_npast {x pl w : Nat} (hx : x ≤ 1000) (hp : pl ≤ 1000) (hw : w ≤ 20) (h : ¬ 0 < (nI x - nI pl) - nI w + 1) : x + 1 ≤ pl + w := by
  have e := ft_pastI hx hp hw
  rw [Int32.lt_iff_toInt_lt, e] at h
  have h2 : ¬ (0 : Int) < (x : Int) - pl - w + 1 := h
  omega
theorem ft_ge0S {a b : Nat} (ha : a < 2 ^ 31) (hb : b < 2 ^ 31) (h : 0 ≤ nI a - nI b) : b ≤ a := by
  rw [Int32.le_iff_toInt_le, ft_subI ha hb] at h
  have h2 : (0 : Int) ≤ (a : Int) - b := h
  omega
theorem ft_nge0S {a b : Nat} (ha : a < 2 ^ 31) (hb : b < 2 ^ 31) (h : ¬ 0 ≤ nI a - nI b) : a ≤ b := by
  rw [Int32.le_iff_toInt_le, ft_subI ha hb] at h
  have h2 : ¬ (0 : Int) ≤ (a : Int) - b := h
  omega
theorem ftPk_past {pl hh w d x : Nat} (h : pl + w < x + 1) : ftPk pl hh w d x = hh - d * (x + 1 - (pl + w)) := by
  unfold ftPk
  rw [if_neg (by omega)]
theorem ftPk_low {pl hh w d x : Nat} (h : x < pl) : ftPk pl hh w d x = 0 := if_pos h
def ftDownM (ga g1 : Nat → Int32) (x one : Int32) : Nat → Nat
  | 0 => 0
  | k + 1 => if x < ga k ∨ (ga k = x ∧ one < g1 k) then ftDownM ga g1 x one k else k + 1
theorem ftDownM_le (ga g1 : Nat → Int32) (x one : Int32) (g : Nat) : ftDownM ga g1 x one g ≤ g := by
  induction g with
  | zero => exact Nat.le_refl 0
  | succ g ih => unfold ftDownM; split <;> omega
theorem ftDownM_gt {ga g1 : Nat → Int32} {x one : Int32} {k : Nat} (hk : 0 < k) (h : x < ga (k - 1) ∨ (ga (k - 1) = x ∧ one < g1 (k - 1))) : ftDownM ga g1 x one k = ftDownM ga g1 x one (k - 1) := by
  obtain ⟨j, rfl⟩ : ∃ j, k = j + 1 := ⟨k - 1, by omega⟩
  exact if_pos h
theorem ftDownM_ge {ga g1 : Nat → Int32} {x one : Int32} {k : Nat} (hk : 0 < k) (h : ¬ (x < ga (k - 1) ∨ (ga (k - 1) = x ∧ one < g1 (k - 1)))) : ftDownM ga g1 x one k = k := by
  obtain ⟨j, rfl⟩ : ∃ j, k = j + 1 := ⟨k - 1, by omega⟩
  exact if_neg h
theorem ftInsG_low {f : Nat → Int32} {u j t : Nat} (h : t ≤ j) : ftInsG f u j t = f t := if_neg (by omega)
/-- ghosts: how many, places, heights, firsts, seconds -/
abbrev ftGq : Type := Nat × (Nat → Int32) × (Nat → Int32) × (Nat → Int32) × (Nat → Int32)
def ftGmIns (q : ftGq) (x h a b : Int32) : ftGq := (q.1 + 1, ftIns q.2.1 q.1 (ftDownM q.2.1 q.2.2.2.1 x a q.1) x, ftIns q.2.2.1 q.1 (ftDownM q.2.1 q.2.2.2.1 x a q.1) h, ftIns q.2.2.2.1 q.1 (ftDownM q.2.1 q.2.2.2.1 x a q.1) a, ftIns q.2.2.2.2 q.1 (ftDownM q.2.1 q.2.2.2.1 x a q.1) b)
def ftGmStep (ps hs : Nat → Int32) (gl : Int32) (i j : Nat) (q : ftGq) : ftGq := if 0 < ftGhH hs gl i j then ftGmIns q (2 * ps j - ps i) (ftGhH hs gl i j) (ps i) (ps j) else q
def ftGmIn (ps hs : Nat → Int32) (gl : Int32) (i : Nat) (q : ftGq) : Nat → ftGq
  | 0 => q
  | d + 1 => ftGmStep ps hs gl i (i + 1 + d) (ftGmIn ps hs gl i q d)
def ftGmOut (ps hs : Nat → Int32) (gl : Int32) (r : Nat) (q : ftGq) : Nat → ftGq
  | 0 => q
  | i + 1 => ftGmIn ps hs gl i (ftGmOut ps hs gl r q i) (r - (i + 1))
theorem ftGmStep_le (ps hs : Nat → Int32) (gl : Int32) (i j : Nat) (q : ftGq) : (ftGmStep ps hs gl i j q).1 ≤ q.1 + 1 := by
  unfold ftGmStep; split
  · exact Nat.le_refl _
  · omega
theorem ftGmIn_le (ps hs : Nat → Int32) (gl : Int32) (i : Nat) (q : ftGq) (d : Nat) : (ftGmIn ps hs gl i q d).1 ≤ q.1 + d := by
  induction d with
  | zero => exact Nat.le_refl _
  | succ d ih => have := ftGmStep_le ps hs gl i (i + 1 + d) (ftGmIn ps hs gl i q d); show (ftGmStep ps hs gl i (i + 1 + d) (ftGmIn ps hs gl i q d)).1 ≤ _; omega
theorem ftGmOut_le (ps hs : Nat → Int32) (gl : Int32) (r : Nat) (q : ftGq) (hq : q.1 = 0) (i : Nat) : (ftGmOut ps hs gl r q i).1 ≤ ftPairs r i := by
  induction i with
  | zero => show q.1 ≤ 0; omega
  | succ i ih =>
    have := ftGmIn_le ps hs gl i (ftGmOut ps hs gl r q i) (r - (i + 1))
    show (ftGmIn ps hs gl i (ftGmOut ps hs gl r q i) (r - (i + 1))).1 ≤ ftPairs r i + (r - (i + 1))
    omega
def ftGms (R : Nat × (Nat → Int32) × (Nat → Int32)) (gl : Int32) (ga gh g1 g2 : Nat → Int32) : ftGq := ftGmOut R.2.1 R.2.2 gl R.1 (0, ga, gh, g1, g2) R.1
set_option maxHeartbeats 4000000 in
set_option maxRecDepth 100000 in
theorem c_X11_peakOf (l : Launch) (D : va_G) (cI cS : ClassId) (m0 p0 p1 p3 p5 p10 p12 p13 p14 p16 p17 p19 p20 p21 p22 p25 p26 p27 p28 p29 p30 p31 p32 : Nat) (i2 i4 i6 i7 i8 i9 i11 i15 i18 i23 i24 : Int32) (w : Nat → Int32) (pl hh x wd d : Nat) (hs0 : w 44 = nI wd) (hs1 : w 45 = nI d) (hpl : pl ≤ 1000) (hh4 : hh ≤ 40000) (hx4 : x ≤ 1000) (hwd : wd ≤ 20) (hd : d ≤ 5000) : Met l yX11_peakOf wsX11_peakOf ({ frames := 1, cells := 0, slots := 0, locals := 21 }) (ftRO D cI cS [.ref m0, .int (nI pl), .int (nI hh), .int (nI x)] [(m0, .inr (11, [.ref p0, .ref p1, .int i2, .ref p3, .int i4, .ref p5, .int i6, .int i7, .int i8, .int i9, .ref p10, .int i11, .ref p12, .ref p13, .ref p14, .int i15, .ref p16, .ref p17, .int i18, .ref p19, .ref p20, .ref p21, .ref p22, .int i23, .int i24, .ref p25, .ref p26, .ref p27, .ref p28, .ref p29, .ref p30, .ref p31, .ref p32])), (p0, .inl (cI, 1439, .inl w))]) (vp_Si (fun o9 => o9 = nI (ftPk pl hh wd d x))) 0 0 (fun _ => False) := by
  refine Met.ofW (cc := cX11_peakOf) (maxL := 6) (ret := (some .int)) (by decide) rfl ?_
  intro p e s m args below meth c s₁ B hml hv
  obtain ⟨rfl, hP, hKK⟩ := hv
  have hK := hKK.1
  have hx := B.exec
  have hb := B.bytes
  have hr := B.returns
  have hts := atoms_spec (ws := wsX11_peakOf) B.pre
  have hown : s.vm.findClass RX11 = some m.cls := findClass_of_methodNamed B.named
  have hlocks := B.notSynchronized
  have hP : va_P D vwCl [(m0, .inr (11, [.ref p0, .ref p1, .int i2, .ref p3, .int i4, .ref p5, .int i6, .int i7, .int i8, .int i9, .ref p10, .int i11, .ref p12, .ref p13, .ref p14, .int i15, .ref p16, .ref p17, .int i18, .ref p19, .ref p20, .ref p21, .ref p22, .int i23, .int i24, .ref p25, .ref p26, .ref p27, .ref p28, .ref p29, .ref p30, .ref p31, .ref p32])), (p0, .inl (cI, 1439, .inl w))] s.heap := hP
  have hl := lv_entry ([.ref m0, .int (nI pl), .int (nI hh), .int (nI x)]) (n := 6) (Nat.le_of_ble_eq_true rfl)
  rw [lg_entry_eq]
  generalize (lg_sl ([.ref m0, .int (nI pl), .int (nI hh), .int (nI x)]) ++ List.replicate (6 - (lg_sl ([.ref m0, .int (nI pl), .int (nI hh), .int (nI x)])).length) Slot.unset).toArray = ls at hl ⊢
  have hl : lv_has ls 6 [(0, .ref m0), (1, .int (nI pl)), (2, .int (nI hh)), (3, .int (nI x))] := hl
  refine lv_iload_n hx hb dX11_peakOf_0 rfl (lv_at hl 3 rfl) ?_
  refine lv_iload_n hx hb dX11_peakOf_1 rfl (lv_at hl 1 rfl) ?_
  refine lv_isub hx hb dX11_peakOf_2 ?_
  refine lv_aload_n hx hb dX11_peakOf_3 rfl (lv_at hl 0 rfl) ?_
  refine lv_iconst (v := 0) hx hb dX11_peakOf_4 (by decide) ?_
  refine ft_csi (r := w (44 + 0)) (va_runV (C := RX11) (As := [.int 0]) (rest := [.int ((nI x) - (nI pl))]) ⟨hx, hb, hml, hown, hts⟩ (c_X11_setting l D cI cS m0 p0 p1 p3 p5 p10 p12 p13 p14 p16 p17 p19 p20 p21 p22 p25 p26 p27 p28 p29 p30 p31 p32 i2 i4 i6 i7 i8 i9 i11 i15 i18 i23 i24 w 0 (by first | assumption | omega)) (cwV 1 hts gX11_peakOf_X11_setting rfl rfl rfl (by decide +kernel) ⟨Nat.le_of_ble_eq_true rfl, Nat.le_of_ble_eq_true rfl⟩) (ft_preROV (ci := 11) (q0 := 0) hP hKK [0, 1] rfl rfl rfl) rfl rfl hl.1 rfl (lv_room (Nat.le_of_ble_eq_true rfl)) dX11_peakOf_5 ⟨Nat.le_of_ble_eq_true rfl, Nat.le_of_ble_eq_true rfl⟩) ?_
  refine ft_top (y := nI wd) hs0 ?_
  refine lv_isub hx hb dX11_peakOf_8 ?_
  refine lv_iconst (v := 1) hx hb dX11_peakOf_9 (by decide) ?_
  refine lv_iadd hx hb dX11_peakOf_10 ?_
  refine lv_istore (lv' := [(4, .int ((((nI x) - (nI pl)) - (nI wd)) + 1)), (0, .ref m0), (1, .int (nI pl)), (2, .int (nI hh)), (3, .int (nI x))]) hx hb dX11_peakOf_11 hl (by decide) rfl (fun ls hl => ?_)
  refine lv_iload hx hb dX11_peakOf_13 (lv_at hl 0 rfl) ?_
  refine lv_if_gt (tgt := 22) hx hb dX11_peakOf_15 (by decide) (fun c15 => ?_) (fun c15 => ?_)
  · have hp9 := ft_past hx4 hpl hwd c15
    have hm1 : d * (x + 1 - (pl + wd)) ≤ 5000 * 1001 := Nat.mul_le_mul hd (by omega)
    refine lv_iload_n hx hb dX11_peakOf_22 rfl (lv_at hl 3 rfl) ?_
    refine lv_aload_n hx hb dX11_peakOf_23 rfl (lv_at hl 1 rfl) ?_
    refine lv_iconst (v := 1) hx hb dX11_peakOf_24 (by decide) ?_
    refine ft_csi (r := w (44 + 1)) (va_runV (C := RX11) (As := [.int 1]) (rest := [.int (nI hh)]) ⟨hx, hb, hml, hown, hts⟩ (c_X11_setting l D cI cS m0 p0 p1 p3 p5 p10 p12 p13 p14 p16 p17 p19 p20 p21 p22 p25 p26 p27 p28 p29 p30 p31 p32 i2 i4 i6 i7 i8 i9 i11 i15 i18 i23 i24 w 1 (by first | assumption | omega)) (cwV 1 hts gX11_peakOf_X11_setting rfl rfl rfl (by decide +kernel) ⟨Nat.le_of_ble_eq_true rfl, Nat.le_of_ble_eq_true rfl⟩) (ft_preROV (ci := 11) (q0 := 0) hP hKK [0, 1] rfl rfl rfl) rfl rfl hl.1 rfl (lv_room (Nat.le_of_ble_eq_true rfl)) dX11_peakOf_25 ⟨Nat.le_of_ble_eq_true rfl, Nat.le_of_ble_eq_true rfl⟩) ?_
    refine ft_top (y := nI d) hs1 ?_
    refine lv_iload hx hb dX11_peakOf_28 (lv_at hl 0 rfl) ?_
    refine lv_imul hx hb dX11_peakOf_30 ?_
    refine ft_top (y := nI (d * (x + 1 - (pl + wd)))) (by rw [hp9.2, ft_mulN]) ?_
    refine lv_isub hx hb dX11_peakOf_31 ?_
    refine lv_istore (lv' := [(5, .int ((nI hh) - (nI (d * (x + 1 - (pl + wd)))))), (4, .int ((((nI x) - (nI pl)) - (nI wd)) + 1)), (0, .ref m0), (1, .int (nI pl)), (2, .int (nI hh)), (3, .int (nI x))]) hx hb dX11_peakOf_32 hl (by decide) rfl (fun ls hl => ?_)
    refine lv_iload_n hx hb dX11_peakOf_34 rfl (lv_at hl 5 rfl) ?_
    refine lv_iload_n hx hb dX11_peakOf_35 rfl (lv_at hl 3 rfl) ?_
    refine lv_icmp_lt (tgt := 44) hx hb dX11_peakOf_36 (by decide) (fun c36 => ?_) (fun c36 => ?_)
    · have c36n : x < pl := ft_ltN (by omega) (by omega) c36
      refine lv_iconst (v := 0) hx hb dX11_peakOf_44 (by decide) ?_
      refine lv_goto (tgt := 50) hx hb dX11_peakOf_45 (by decide) ?_
      exact W.iret (v := 0) hx hb hr (fun t ht hW => ⟨0, rfl, (by show (0 : Int32) = nI (ftPk pl hh wd d x); first | (rw [ftPk_low c36n]; rfl) | (rw [ftPk_in c36n (by omega)]; done) | (rw [ftPk_past hp9.1, ft_subN (ft_ge0S (by omega) (by omega) c41)]; done) | (rw [ftPk_past hp9.1, Nat.sub_eq_zero_of_le (ft_nge0S (by omega) (by omega) c41)]; rfl) | exact absurd (nI_pos' (by omega)) c41), ht⟩) (fun _ h9 => absurd h9 List.not_mem_nil) dX11_peakOf_50
    · have c36n : pl ≤ x := ft_nltN (by omega) (by omega) c36
      refine lv_iload hx hb dX11_peakOf_39 (lv_at hl 0 rfl) ?_
      refine lv_if_ge (tgt := 48) hx hb dX11_peakOf_41 (by decide) (fun c41 => ?_) (fun c41 => ?_)
      · refine lv_iload hx hb dX11_peakOf_48 (lv_at hl 0 rfl) ?_
        exact W.iret (v := (nI hh) - (nI (d * (x + 1 - (pl + wd))))) hx hb hr (fun t ht hW => ⟨(nI hh) - (nI (d * (x + 1 - (pl + wd)))), rfl, (by show ((nI hh) - (nI (d * (x + 1 - (pl + wd)))) : Int32) = nI (ftPk pl hh wd d x); first | (rw [ftPk_low c36n]; rfl) | (rw [ftPk_in c36n (by omega)]; done) | (rw [ftPk_past hp9.1, ft_subN (ft_ge0S (by omega) (by omega) c41)]; done) | (rw [ftPk_past hp9.1, Nat.sub_eq_zero_of_le (ft_nge0S (by omega) (by omega) c41)]; rfl) | exact absurd (nI_pos' (by omega)) c41), ht⟩) (fun _ h9 => absurd h9 List.not_mem_nil) dX11_peakOf_50
      · refine lv_iconst (v := 0) hx hb dX11_peakOf_44 (by decide) ?_
        refine lv_goto (tgt := 50) hx hb dX11_peakOf_45 (by decide) ?_
        exact W.iret (v := 0) hx hb hr (fun t ht hW => ⟨0, rfl, (by show (0 : Int32) = nI (ftPk pl hh wd d x); first | (rw [ftPk_low c36n]; rfl) | (rw [ftPk_in c36n (by omega)]; done) | (rw [ftPk_past hp9.1, ft_subN (ft_ge0S (by omega) (by omega) c41)]; done) | (rw [ftPk_past hp9.1, Nat.sub_eq_zero_of_le (ft_nge0S (by omega) (by omega) c41)]; rfl) | exact absurd (nI_pos' (by omega)) c41), ht⟩) (fun _ h9 => absurd h9 List.not_mem_nil) dX11_peakOf_50
  · have hp8 := ft_npast hx4 hpl hwd c15
    refine lv_iload_n hx hb dX11_peakOf_18 rfl (lv_at hl 3 rfl) ?_
    refine lv_goto (tgt := 32) hx hb dX11_peakOf_19 (by decide) ?_
    refine lv_istore (lv' := [(5, .int (nI hh)), (4, .int ((((nI x) - (nI pl)) - (nI wd)) + 1)), (0, .ref m0), (1, .int (nI pl)), (2, .int (nI hh)), (3, .int (nI x))]) hx hb dX11_peakOf_32 hl (by decide) rfl (fun ls hl => ?_)
    refine lv_iload_n hx hb dX11_peakOf_34 rfl (lv_at hl 5 rfl) ?_
    refine lv_iload_n hx hb dX11_peakOf_35 rfl (lv_at hl 3 rfl) ?_
    refine lv_icmp_lt (tgt := 44) hx hb dX11_peakOf_36 (by decide) (fun c36 => ?_) (fun c36 => ?_)
    · have c36n : x < pl := ft_ltN (by omega) (by omega) c36
      refine lv_iconst (v := 0) hx hb dX11_peakOf_44 (by decide) ?_
      refine lv_goto (tgt := 50) hx hb dX11_peakOf_45 (by decide) ?_
      exact W.iret (v := 0) hx hb hr (fun t ht hW => ⟨0, rfl, (by show (0 : Int32) = nI (ftPk pl hh wd d x); first | (rw [ftPk_low c36n]; rfl) | (rw [ftPk_in c36n (by omega)]; done) | (rw [ftPk_past hp9.1, ft_subN (ft_ge0S (by omega) (by omega) c41)]; done) | (rw [ftPk_past hp9.1, Nat.sub_eq_zero_of_le (ft_nge0S (by omega) (by omega) c41)]; rfl) | exact absurd (nI_pos' (by omega)) c41), ht⟩) (fun _ h9 => absurd h9 List.not_mem_nil) dX11_peakOf_50
    · have c36n : pl ≤ x := ft_nltN (by omega) (by omega) c36
      refine lv_iload hx hb dX11_peakOf_39 (lv_at hl 0 rfl) ?_
      refine lv_if_ge (tgt := 48) hx hb dX11_peakOf_41 (by decide) (fun c41 => ?_) (fun c41 => ?_)
      · refine lv_iload hx hb dX11_peakOf_48 (lv_at hl 0 rfl) ?_
        exact W.iret (v := nI hh) hx hb hr (fun t ht hW => ⟨nI hh, rfl, (by show (nI hh : Int32) = nI (ftPk pl hh wd d x); first | (rw [ftPk_low c36n]; rfl) | (rw [ftPk_in c36n (by omega)]; done) | (rw [ftPk_past hp9.1, ft_subN (ft_ge0S (by omega) (by omega) c41)]; done) | (rw [ftPk_past hp9.1, Nat.sub_eq_zero_of_le (ft_nge0S (by omega) (by omega) c41)]; rfl) | exact absurd (nI_pos' (by omega)) c41), ht⟩) (fun _ h9 => absurd h9 List.not_mem_nil) dX11_peakOf_50
      · refine lv_iconst (v := 0) hx hb dX11_peakOf_44 (by decide) ?_
        refine lv_goto (tgt := 50) hx hb dX11_peakOf_45 (by decide) ?_
        exact W.iret (v := 0) hx hb hr (fun t ht hW => ⟨0, rfl, (by show (0 : Int32) = nI (ftPk pl hh wd d x); first | (rw [ftPk_low c36n]; rfl) | (rw [ftPk_in c36n (by omega)]; done) | (rw [ftPk_past hp9.1, ft_subN (ft_ge0S (by omega) (by omega) c41)]; done) | (rw [ftPk_past hp9.1, Nat.sub_eq_zero_of_le (ft_nge0S (by omega) (by omega) c41)]; rfl) | exact absurd (nI_pos' (by omega)) c41), ht⟩) (fun _ h9 => absurd h9 List.not_mem_nil) dX11_peakOf_50
set_option maxHeartbeats 4000000 in
set_option maxRecDepth 100000 in
theorem c_X11_ghostComes (l : Launch) (D : va_G) (cI cS : ClassId) (sz : Nat) (m0 p0 p1 p3 p5 p10 p12 p13 p14 p16 p17 p19 p20 p21 p22 p25 p26 p27 p28 p29 p30 p31 p32 : Nat) (i2 i4 i6 i7 i8 i9 i11 i15 i23 i24 : Int32) (ga gh g1 g2 : Nat → Int32) (g : Nat) (x h a b : Int32) (hg : g < 55) : Met l yX11_ghostComes wsX11_ghostComes ({ frames := 0, cells := 0, slots := 0, locals := 0 }) (ftRW D cI cS [.ref m0, .int x, .int h, .int a, .int b] [(m0, .inr (11, [.ref p0, .ref p1, .int i2, .ref p3, .int i4, .ref p5, .int i6, .int i7, .int i8, .int i9, .ref p10, .int i11, .ref p12, .ref p13, .ref p14, .int i15, .ref p16, .ref p17, .int (nI g), .ref p19, .ref p20, .ref p21, .ref p22, .int i23, .int i24, .ref p25, .ref p26, .ref p27, .ref p28, .ref p29, .ref p30, .ref p31, .ref p32])), (p19, .inl (cI, 55, .inl ga)), (p20, .inl (cI, 55, .inl gh)), (p21, .inl (cI, 55, .inl g1)), (p22, .inl (cI, 55, .inl g2))] sz) (ftQv D [(m0, .inr (11, [.ref p0, .ref p1, .int i2, .ref p3, .int i4, .ref p5, .int i6, .int i7, .int i8, .int i9, .ref p10, .int i11, .ref p12, .ref p13, .ref p14, .int i15, .ref p16, .ref p17, .int (nI g), .ref p19, .ref p20, .ref p21, .ref p22, .int i23, .int i24, .ref p25, .ref p26, .ref p27, .ref p28, .ref p29, .ref p30, .ref p31, .ref p32])), (p19, .inl (cI, 55, .inl ga)), (p20, .inl (cI, 55, .inl gh)), (p21, .inl (cI, 55, .inl g1)), (p22, .inl (cI, 55, .inl g2))] [(m0, .inr (11, [.ref p0, .ref p1, .int i2, .ref p3, .int i4, .ref p5, .int i6, .int i7, .int i8, .int i9, .ref p10, .int i11, .ref p12, .ref p13, .ref p14, .int i15, .ref p16, .ref p17, .int (nI (ftGmIns (g, ga, gh, g1, g2) x h a b).1), .ref p19, .ref p20, .ref p21, .ref p22, .int i23, .int i24, .ref p25, .ref p26, .ref p27, .ref p28, .ref p29, .ref p30, .ref p31, .ref p32])), (p19, .inl (cI, 55, .inl ((ftGmIns (g, ga, gh, g1, g2) x h a b).2.1))), (p20, .inl (cI, 55, .inl ((ftGmIns (g, ga, gh, g1, g2) x h a b).2.2.1))), (p21, .inl (cI, 55, .inl ((ftGmIns (g, ga, gh, g1, g2) x h a b).2.2.2.1))), (p22, .inl (cI, 55, .inl ((ftGmIns (g, ga, gh, g1, g2) x h a b).2.2.2.2)))] sz) 0 0 (va_A [(m0, .inr (11, [.ref p0, .ref p1, .int i2, .ref p3, .int i4, .ref p5, .int i6, .int i7, .int i8, .int i9, .ref p10, .int i11, .ref p12, .ref p13, .ref p14, .int i15, .ref p16, .ref p17, .int (nI g), .ref p19, .ref p20, .ref p21, .ref p22, .int i23, .int i24, .ref p25, .ref p26, .ref p27, .ref p28, .ref p29, .ref p30, .ref p31, .ref p32])), (p19, .inl (cI, 55, .inl ga)), (p20, .inl (cI, 55, .inl gh)), (p21, .inl (cI, 55, .inl g1)), (p22, .inl (cI, 55, .inl g2))] sz) := by
  refine Met.ofW (cc := cX11_ghostComes) (maxL := 6) (ret := none) (by decide) rfl ?_
  intro p e s m args below meth c s₁ B hml hv
  obtain ⟨rfl, hsz, hP, hKK, hD0⟩ := hv
  have hK := hKK.1
  have hx := B.exec
  have hb := B.bytes
  have hr := B.returns
  have hts := atoms_spec (ws := wsX11_ghostComes) B.pre
  have hown : s.vm.findClass RX11 = some m.cls := findClass_of_methodNamed B.named
  have hlocks := B.notSynchronized
  subst hsz
  have hD := hD0.self (sz := s.heap.size)
  generalize hAe : va_A [(m0, .inr (11, [.ref p0, .ref p1, .int i2, .ref p3, .int i4, .ref p5, .int i6, .int i7, .int i8, .int i9, .ref p10, .int i11, .ref p12, .ref p13, .ref p14, .int i15, .ref p16, .ref p17, .int (nI g), .ref p19, .ref p20, .ref p21, .ref p22, .int i23, .int i24, .ref p25, .ref p26, .ref p27, .ref p28, .ref p29, .ref p30, .ref p31, .ref p32])), (p19, .inl (cI, 55, .inl ga)), (p20, .inl (cI, 55, .inl gh)), (p21, .inl (cI, 55, .inl g1)), (p22, .inl (cI, 55, .inl g2))] s.heap.size = A at hD ⊢
  have hA : ∀ q : Nat, s.heap.size ≤ q → A q := fun q h => by rw [← hAe]; exact Or.inr h
  have hS : va_S A s.heap s.heap [] := va_S.rf
  have hD : va_D A [(m0, .inr (11, [.ref p0, .ref p1, .int i2, .ref p3, .int i4, .ref p5, .int i6, .int i7, .int i8, .int i9, .ref p10, .int i11, .ref p12, .ref p13, .ref p14, .int i15, .ref p16, .ref p17, .int (nI g), .ref p19, .ref p20, .ref p21, .ref p22, .int i23, .int i24, .ref p25, .ref p26, .ref p27, .ref p28, .ref p29, .ref p30, .ref p31, .ref p32])), (p19, .inl (cI, 55, .inl ga)), (p20, .inl (cI, 55, .inl gh)), (p21, .inl (cI, 55, .inl g1)), (p22, .inl (cI, 55, .inl g2))] := hD
  have hP : va_P D vwCl [(m0, .inr (11, [.ref p0, .ref p1, .int i2, .ref p3, .int i4, .ref p5, .int i6, .int i7, .int i8, .int i9, .ref p10, .int i11, .ref p12, .ref p13, .ref p14, .int i15, .ref p16, .ref p17, .int (nI g), .ref p19, .ref p20, .ref p21, .ref p22, .int i23, .int i24, .ref p25, .ref p26, .ref p27, .ref p28, .ref p29, .ref p30, .ref p31, .ref p32])), (p19, .inl (cI, 55, .inl ga)), (p20, .inl (cI, 55, .inl gh)), (p21, .inl (cI, 55, .inl g1)), (p22, .inl (cI, 55, .inl g2))] s.heap := hP
  have hl := lv_entry ([.ref m0, .int x, .int h, .int a, .int b]) (n := 6) (Nat.le_of_ble_eq_true rfl)
  rw [lg_entry_eq]
  generalize (lg_sl ([.ref m0, .int x, .int h, .int a, .int b]) ++ List.replicate (6 - (lg_sl ([.ref m0, .int x, .int h, .int a, .int b])).length) Slot.unset).toArray = ls at hl ⊢
  have hl : lv_has ls 6 [(0, .ref m0), (1, .int x), (2, .int h), (3, .int a), (4, .int b)] := hl
  refine lv_aload_n hx hb dX11_ghostComes_0 rfl (lv_at hl 0 rfl) ?_
  refine va_get (D := D) (ci := 11) (v := .int (nI g)) (C := RX11) (T := TX11) (N := 33) hx hb hts (by decide +kernel) hown hK hP 0 rfl rfl 18 (by decide) (hts (.fieldLink RX11 208 "FiberTraceModel" "ghostMany" "I") (by decide +kernel)) (fun _ h9 => h9) rfl dX11_ghostComes_1 ?_
  refine lv_istore (lv' := [(5, .int (nI g)), (0, .ref m0), (1, .int x), (2, .int h), (3, .int a), (4, .int b)]) hx hb dX11_ghostComes_4 hl (by decide) rfl (fun ls hl => ?_)
  have lp6 : ∀ (n6 : Nat) (k : Nat) (x6_5 : Int32) (g6_p19 : Nat → Int32) (g6_p20 : Nat → Int32) (g6_p21 : Nat → Int32) (g6_p22 : Nat → Int32), k < n6 → (k ≤ g) → (ftDownM ga g1 x a g = ftDownM ga g1 x a k) → x6_5 = nI k → g6_p19 = ftInsG ga g k → g6_p20 = ftInsG gh g k → g6_p21 = ftInsG g1 g k → g6_p22 = ftInsG g2 g k → ∀ (H : Heap) (locs : List Loc), va_P D vwCl [(m0, .inr (11, [.ref p0, .ref p1, .int i2, .ref p3, .int i4, .ref p5, .int i6, .int i7, .int i8, .int i9, .ref p10, .int i11, .ref p12, .ref p13, .ref p14, .int i15, .ref p16, .ref p17, .int (nI g), .ref p19, .ref p20, .ref p21, .ref p22, .int i23, .int i24, .ref p25, .ref p26, .ref p27, .ref p28, .ref p29, .ref p30, .ref p31, .ref p32])), (p19, .inl (cI, 55, .inl g6_p19)), (p20, .inl (cI, 55, .inl g6_p20)), (p21, .inl (cI, 55, .inl g6_p21)), (p22, .inl (cI, 55, .inl g6_p22))] H → va_D A [(m0, .inr (11, [.ref p0, .ref p1, .int i2, .ref p3, .int i4, .ref p5, .int i6, .int i7, .int i8, .int i9, .ref p10, .int i11, .ref p12, .ref p13, .ref p14, .int i15, .ref p16, .ref p17, .int (nI g), .ref p19, .ref p20, .ref p21, .ref p22, .int i23, .int i24, .ref p25, .ref p26, .ref p27, .ref p28, .ref p29, .ref p30, .ref p31, .ref p32])), (p19, .inl (cI, 55, .inl g6_p19)), (p20, .inl (cI, 55, .inl g6_p20)), (p21, .inl (cI, 55, .inl g6_p21)), (p22, .inl (cI, 55, .inl g6_p22))] → va_S A s.heap H locs → ∀ ls : Array Slot, lv_has ls 6 [(0, .ref m0), (1, .int x), (2, .int h), (3, .int a), (4, .int b), (5, .int x6_5)] → W p l e (headSpec wsX11_ghostComes { frames := 0, cells := 0, slots := 0, locals := 0 }).room s m ([.ref m0, .int x, .int h, .int a, .int b] : List Value).toArray below meth c H locs 0 0 (MQ below (ftQv D [(m0, .inr (11, [.ref p0, .ref p1, .int i2, .ref p3, .int i4, .ref p5, .int i6, .int i7, .int i8, .int i9, .ref p10, .int i11, .ref p12, .ref p13, .ref p14, .int i15, .ref p16, .ref p17, .int (nI g), .ref p19, .ref p20, .ref p21, .ref p22, .int i23, .int i24, .ref p25, .ref p26, .ref p27, .ref p28, .ref p29, .ref p30, .ref p31, .ref p32])), (p19, .inl (cI, 55, .inl ga)), (p20, .inl (cI, 55, .inl gh)), (p21, .inl (cI, 55, .inl g1)), (p22, .inl (cI, 55, .inl g2))] [(m0, .inr (11, [.ref p0, .ref p1, .int i2, .ref p3, .int i4, .ref p5, .int i6, .int i7, .int i8, .int i9, .ref p10, .int i11, .ref p12, .ref p13, .ref p14, .int i15, .ref p16, .ref p17, .int (nI (ftGmIns (g, ga, gh, g1, g2) x h a b).1), .ref p19, .ref p20, .ref p21, .ref p22, .int i23, .int i24, .ref p25, .ref p26, .ref p27, .ref p28, .ref p29, .ref p30, .ref p31, .ref p32])), (p19, .inl (cI, 55, .inl ((ftGmIns (g, ga, gh, g1, g2) x h a b).2.1))), (p20, .inl (cI, 55, .inl ((ftGmIns (g, ga, gh, g1, g2) x h a b).2.2.1))), (p21, .inl (cI, 55, .inl ((ftGmIns (g, ga, gh, g1, g2) x h a b).2.2.2.1))), (p22, .inl (cI, 55, .inl ((ftGmIns (g, ga, gh, g1, g2) x h a b).2.2.2.2)))] s.heap.size) ([.ref m0, .int x, .int h, .int a, .int b] : List Value).toArray s 0 0 A) (F0 m 6 ls []) := by
    intro n6
    induction n6 with
    | zero =>
      intro k x6_5 g6_p19 g6_p20 g6_p21 g6_p22 hm6
      exact absurd hm6 (Nat.not_lt_zero _)
    | succ n6 ih6 =>
      intro k x6_5 g6_p19 g6_p20 g6_p21 g6_p22 hm6 hkg hd ex6_5 eg6_p19 eg6_p20 eg6_p21 eg6_p22 H locs hP hD hS ls hl
      subst ex6_5
      refine lv_iload hx hb dX11_ghostComes_6 (lv_at hl 5 rfl) ?_
      refine lv_if_le (tgt := 120) hx hb dX11_ghostComes_8 (by decide) (fun c8 => ?_) (fun c8 => ?_)
      · have c8n : k ≤ 0 := ft_leN (by omega) (by omega) c8
        have hk0 : k = 0 := ft_le0 (by omega) c8
        have hix : ftDownM ga g1 x a g = k := by rw [hd, hk0]; rfl
        refine lv_aload_n hx hb dX11_ghostComes_120 rfl (lv_at hl 0 rfl) ?_
        refine va_get (D := D) (ci := 11) (v := .ref p19) (C := RX11) (T := TX11) (N := 33) hx hb hts (by decide +kernel) hown hK hP 0 rfl rfl 19 (by decide) (hts (.fieldLink RX11 40 "FiberTraceModel" "ghostAt" "[I") (by decide +kernel)) (fun _ h9 => h9) rfl dX11_ghostComes_121 ?_
        refine lv_iload hx hb dX11_ghostComes_124 (lv_at hl 5 rfl) ?_
        refine lv_iload_n hx hb dX11_ghostComes_126 rfl (lv_at hl 1 rfl) ?_
        refine va_iast hx hb hK hP hD hS 1 0 rfl rfl (vp_in_nI (by omega) (by omega)) dX11_ghostComes_127 (fun H locs hP hD hS => ?_)
        rw [nI_clamp (show k < 2 ^ 31 by omega)] at hP hD
        have hP : va_P D vwCl [(m0, .inr (11, [.ref p0, .ref p1, .int i2, .ref p3, .int i4, .ref p5, .int i6, .int i7, .int i8, .int i9, .ref p10, .int i11, .ref p12, .ref p13, .ref p14, .int i15, .ref p16, .ref p17, .int (nI g), .ref p19, .ref p20, .ref p21, .ref p22, .int i23, .int i24, .ref p25, .ref p26, .ref p27, .ref p28, .ref p29, .ref p30, .ref p31, .ref p32])), (p19, .inl (cI, 55, .inl (upd g6_p19 k x))), (p20, .inl (cI, 55, .inl g6_p20)), (p21, .inl (cI, 55, .inl g6_p21)), (p22, .inl (cI, 55, .inl g6_p22))] H := hP
        have hD : va_D A [(m0, .inr (11, [.ref p0, .ref p1, .int i2, .ref p3, .int i4, .ref p5, .int i6, .int i7, .int i8, .int i9, .ref p10, .int i11, .ref p12, .ref p13, .ref p14, .int i15, .ref p16, .ref p17, .int (nI g), .ref p19, .ref p20, .ref p21, .ref p22, .int i23, .int i24, .ref p25, .ref p26, .ref p27, .ref p28, .ref p29, .ref p30, .ref p31, .ref p32])), (p19, .inl (cI, 55, .inl (upd g6_p19 k x))), (p20, .inl (cI, 55, .inl g6_p20)), (p21, .inl (cI, 55, .inl g6_p21)), (p22, .inl (cI, 55, .inl g6_p22))] := hD
        refine lv_aload_n hx hb dX11_ghostComes_128 rfl (lv_at hl 0 rfl) ?_
        refine va_get (D := D) (ci := 11) (v := .ref p20) (C := RX11) (T := TX11) (N := 33) hx hb hts (by decide +kernel) hown hK hP 0 rfl rfl 20 (by decide) (hts (.fieldLink RX11 43 "FiberTraceModel" "ghostHigh" "[I") (by decide +kernel)) (fun _ h9 => h9) rfl dX11_ghostComes_129 ?_
        refine lv_iload hx hb dX11_ghostComes_132 (lv_at hl 5 rfl) ?_
        refine lv_iload_n hx hb dX11_ghostComes_134 rfl (lv_at hl 2 rfl) ?_
        refine va_iast hx hb hK hP hD hS 2 0 rfl rfl (vp_in_nI (by omega) (by omega)) dX11_ghostComes_135 (fun H locs hP hD hS => ?_)
        rw [nI_clamp (show k < 2 ^ 31 by omega)] at hP hD
        have hP : va_P D vwCl [(m0, .inr (11, [.ref p0, .ref p1, .int i2, .ref p3, .int i4, .ref p5, .int i6, .int i7, .int i8, .int i9, .ref p10, .int i11, .ref p12, .ref p13, .ref p14, .int i15, .ref p16, .ref p17, .int (nI g), .ref p19, .ref p20, .ref p21, .ref p22, .int i23, .int i24, .ref p25, .ref p26, .ref p27, .ref p28, .ref p29, .ref p30, .ref p31, .ref p32])), (p19, .inl (cI, 55, .inl (upd g6_p19 k x))), (p20, .inl (cI, 55, .inl (upd g6_p20 k h))), (p21, .inl (cI, 55, .inl g6_p21)), (p22, .inl (cI, 55, .inl g6_p22))] H := hP
        have hD : va_D A [(m0, .inr (11, [.ref p0, .ref p1, .int i2, .ref p3, .int i4, .ref p5, .int i6, .int i7, .int i8, .int i9, .ref p10, .int i11, .ref p12, .ref p13, .ref p14, .int i15, .ref p16, .ref p17, .int (nI g), .ref p19, .ref p20, .ref p21, .ref p22, .int i23, .int i24, .ref p25, .ref p26, .ref p27, .ref p28, .ref p29, .ref p30, .ref p31, .ref p32])), (p19, .inl (cI, 55, .inl (upd g6_p19 k x))), (p20, .inl (cI, 55, .inl (upd g6_p20 k h))), (p21, .inl (cI, 55, .inl g6_p21)), (p22, .inl (cI, 55, .inl g6_p22))] := hD
        refine lv_aload_n hx hb dX11_ghostComes_136 rfl (lv_at hl 0 rfl) ?_
        refine va_get (D := D) (ci := 11) (v := .ref p21) (C := RX11) (T := TX11) (N := 33) hx hb hts (by decide +kernel) hown hK hP 0 rfl rfl 21 (by decide) (hts (.fieldLink RX11 46 "FiberTraceModel" "ghostOne" "[I") (by decide +kernel)) (fun _ h9 => h9) rfl dX11_ghostComes_137 ?_
        refine lv_iload hx hb dX11_ghostComes_140 (lv_at hl 5 rfl) ?_
        refine lv_iload_n hx hb dX11_ghostComes_142 rfl (lv_at hl 3 rfl) ?_
        refine va_iast hx hb hK hP hD hS 3 0 rfl rfl (vp_in_nI (by omega) (by omega)) dX11_ghostComes_143 (fun H locs hP hD hS => ?_)
        rw [nI_clamp (show k < 2 ^ 31 by omega)] at hP hD
        have hP : va_P D vwCl [(m0, .inr (11, [.ref p0, .ref p1, .int i2, .ref p3, .int i4, .ref p5, .int i6, .int i7, .int i8, .int i9, .ref p10, .int i11, .ref p12, .ref p13, .ref p14, .int i15, .ref p16, .ref p17, .int (nI g), .ref p19, .ref p20, .ref p21, .ref p22, .int i23, .int i24, .ref p25, .ref p26, .ref p27, .ref p28, .ref p29, .ref p30, .ref p31, .ref p32])), (p19, .inl (cI, 55, .inl (upd g6_p19 k x))), (p20, .inl (cI, 55, .inl (upd g6_p20 k h))), (p21, .inl (cI, 55, .inl (upd g6_p21 k a))), (p22, .inl (cI, 55, .inl g6_p22))] H := hP
        have hD : va_D A [(m0, .inr (11, [.ref p0, .ref p1, .int i2, .ref p3, .int i4, .ref p5, .int i6, .int i7, .int i8, .int i9, .ref p10, .int i11, .ref p12, .ref p13, .ref p14, .int i15, .ref p16, .ref p17, .int (nI g), .ref p19, .ref p20, .ref p21, .ref p22, .int i23, .int i24, .ref p25, .ref p26, .ref p27, .ref p28, .ref p29, .ref p30, .ref p31, .ref p32])), (p19, .inl (cI, 55, .inl (upd g6_p19 k x))), (p20, .inl (cI, 55, .inl (upd g6_p20 k h))), (p21, .inl (cI, 55, .inl (upd g6_p21 k a))), (p22, .inl (cI, 55, .inl g6_p22))] := hD
        refine lv_aload_n hx hb dX11_ghostComes_144 rfl (lv_at hl 0 rfl) ?_
        refine va_get (D := D) (ci := 11) (v := .ref p22) (C := RX11) (T := TX11) (N := 33) hx hb hts (by decide +kernel) hown hK hP 0 rfl rfl 22 (by decide) (hts (.fieldLink RX11 49 "FiberTraceModel" "ghostTwo" "[I") (by decide +kernel)) (fun _ h9 => h9) rfl dX11_ghostComes_145 ?_
        refine lv_iload hx hb dX11_ghostComes_148 (lv_at hl 5 rfl) ?_
        refine lv_iload hx hb dX11_ghostComes_150 (lv_at hl 4 rfl) ?_
        refine va_iast hx hb hK hP hD hS 4 0 rfl rfl (vp_in_nI (by omega) (by omega)) dX11_ghostComes_152 (fun H locs hP hD hS => ?_)
        rw [nI_clamp (show k < 2 ^ 31 by omega)] at hP hD
        have hP : va_P D vwCl [(m0, .inr (11, [.ref p0, .ref p1, .int i2, .ref p3, .int i4, .ref p5, .int i6, .int i7, .int i8, .int i9, .ref p10, .int i11, .ref p12, .ref p13, .ref p14, .int i15, .ref p16, .ref p17, .int (nI g), .ref p19, .ref p20, .ref p21, .ref p22, .int i23, .int i24, .ref p25, .ref p26, .ref p27, .ref p28, .ref p29, .ref p30, .ref p31, .ref p32])), (p19, .inl (cI, 55, .inl (upd g6_p19 k x))), (p20, .inl (cI, 55, .inl (upd g6_p20 k h))), (p21, .inl (cI, 55, .inl (upd g6_p21 k a))), (p22, .inl (cI, 55, .inl (upd g6_p22 k b)))] H := hP
        have hD : va_D A [(m0, .inr (11, [.ref p0, .ref p1, .int i2, .ref p3, .int i4, .ref p5, .int i6, .int i7, .int i8, .int i9, .ref p10, .int i11, .ref p12, .ref p13, .ref p14, .int i15, .ref p16, .ref p17, .int (nI g), .ref p19, .ref p20, .ref p21, .ref p22, .int i23, .int i24, .ref p25, .ref p26, .ref p27, .ref p28, .ref p29, .ref p30, .ref p31, .ref p32])), (p19, .inl (cI, 55, .inl (upd g6_p19 k x))), (p20, .inl (cI, 55, .inl (upd g6_p20 k h))), (p21, .inl (cI, 55, .inl (upd g6_p21 k a))), (p22, .inl (cI, 55, .inl (upd g6_p22 k b)))] := hD
        refine lv_aload_n hx hb dX11_ghostComes_153 rfl (lv_at hl 0 rfl) ?_
        refine lv_dup hx hb dX11_ghostComes_154 rfl ?_
        refine va_get (D := D) (ci := 11) (v := .int (nI g)) (C := RX11) (T := TX11) (N := 33) hx hb hts (by decide +kernel) hown hK hP 0 rfl rfl 18 (by decide) (hts (.fieldLink RX11 208 "FiberTraceModel" "ghostMany" "I") (by decide +kernel)) (fun _ h9 => h9) rfl dX11_ghostComes_155 ?_
        refine lv_iconst (v := 1) hx hb dX11_ghostComes_158 (by decide) ?_
        refine lv_iadd hx hb dX11_ghostComes_159 ?_
        refine ft_top (y := nI (g + 1)) (ft_addN g 1) ?_
        refine va_put (D := D) (ci := 11) (v := .int (nI (g + 1))) (ty := .int) (C := RX11) (T := TX11) (N := 33) hx hb hts (by decide +kernel) tyX11 tyX11_ok nmX11 hown hK hP hD hS 0 rfl rfl 18 (by decide) (hts (.fieldLink RX11 208 "FiberTraceModel" "ghostMany" "I") (by decide +kernel)) (fun _ h9 => h9) rfl (by decide +kernel) rfl rfl (Nat.le_of_ble_eq_true rfl) dX11_ghostComes_160 (fun H locs hP hD hS => ?_)
        have hP : va_P D vwCl [(m0, .inr (11, [.ref p0, .ref p1, .int i2, .ref p3, .int i4, .ref p5, .int i6, .int i7, .int i8, .int i9, .ref p10, .int i11, .ref p12, .ref p13, .ref p14, .int i15, .ref p16, .ref p17, .int (nI (g + 1)), .ref p19, .ref p20, .ref p21, .ref p22, .int i23, .int i24, .ref p25, .ref p26, .ref p27, .ref p28, .ref p29, .ref p30, .ref p31, .ref p32])), (p19, .inl (cI, 55, .inl (upd g6_p19 k x))), (p20, .inl (cI, 55, .inl (upd g6_p20 k h))), (p21, .inl (cI, 55, .inl (upd g6_p21 k a))), (p22, .inl (cI, 55, .inl (upd g6_p22 k b)))] H := hP
        have hD : va_D A [(m0, .inr (11, [.ref p0, .ref p1, .int i2, .ref p3, .int i4, .ref p5, .int i6, .int i7, .int i8, .int i9, .ref p10, .int i11, .ref p12, .ref p13, .ref p14, .int i15, .ref p16, .ref p17, .int (nI (g + 1)), .ref p19, .ref p20, .ref p21, .ref p22, .int i23, .int i24, .ref p25, .ref p26, .ref p27, .ref p28, .ref p29, .ref p30, .ref p31, .ref p32])), (p19, .inl (cI, 55, .inl (upd g6_p19 k x))), (p20, .inl (cI, 55, .inl (upd g6_p20 k h))), (p21, .inl (cI, 55, .inl (upd g6_p21 k a))), (p22, .inl (cI, 55, .inl (upd g6_p22 k b)))] := hD
        have hw9 : ([(m0, .inr (11, [.ref p0, .ref p1, .int i2, .ref p3, .int i4, .ref p5, .int i6, .int i7, .int i8, .int i9, .ref p10, .int i11, .ref p12, .ref p13, .ref p14, .int i15, .ref p16, .ref p17, .int (nI (g + 1)), .ref p19, .ref p20, .ref p21, .ref p22, .int i23, .int i24, .ref p25, .ref p26, .ref p27, .ref p28, .ref p29, .ref p30, .ref p31, .ref p32])), (p19, .inl (cI, 55, .inl (upd g6_p19 k x))), (p20, .inl (cI, 55, .inl (upd g6_p20 k h))), (p21, .inl (cI, 55, .inl (upd g6_p21 k a))), (p22, .inl (cI, 55, .inl (upd g6_p22 k b)))] : va_W) = [(m0, .inr (11, [.ref p0, .ref p1, .int i2, .ref p3, .int i4, .ref p5, .int i6, .int i7, .int i8, .int i9, .ref p10, .int i11, .ref p12, .ref p13, .ref p14, .int i15, .ref p16, .ref p17, .int (nI (ftGmIns (g, ga, gh, g1, g2) x h a b).1), .ref p19, .ref p20, .ref p21, .ref p22, .int i23, .int i24, .ref p25, .ref p26, .ref p27, .ref p28, .ref p29, .ref p30, .ref p31, .ref p32])), (p19, .inl (cI, 55, .inl ((ftGmIns (g, ga, gh, g1, g2) x h a b).2.1))), (p20, .inl (cI, 55, .inl ((ftGmIns (g, ga, gh, g1, g2) x h a b).2.2.1))), (p21, .inl (cI, 55, .inl ((ftGmIns (g, ga, gh, g1, g2) x h a b).2.2.2.1))), (p22, .inl (cI, 55, .inl ((ftGmIns (g, ga, gh, g1, g2) x h a b).2.2.2.2)))] := by rw [eg6_p19, eg6_p20, eg6_p21, eg6_p22, ftGmIns, hix]; rfl
        rw [hw9] at hP hD
        exact W.vret hx hb hr (fun t ht hW => ⟨⟨(), rfl, trivial, by rw [ht]; exact hP, by rw [hAe]; exact hD⟩, by rw [hAe]; exact hS.F ht⟩) hS.2.2 dX11_ghostComes_163
      · have c8n : 0 < k := ft_nleN (by omega) (by omega) c8
        have hk1 : 0 < k := ft_gt0 c8
        have hga : g6_p19 (k - 1) = ga (k - 1) := by rw [eg6_p19]; exact ftInsG_low (by omega)
        have hg1 : g6_p21 (k - 1) = g1 (k - 1) := by rw [eg6_p21]; exact ftInsG_low (by omega)
        refine lv_aload_n hx hb dX11_ghostComes_11 rfl (lv_at hl 0 rfl) ?_
        refine va_get (D := D) (ci := 11) (v := .ref p19) (C := RX11) (T := TX11) (N := 33) hx hb hts (by decide +kernel) hown hK hP 0 rfl rfl 19 (by decide) (hts (.fieldLink RX11 40 "FiberTraceModel" "ghostAt" "[I") (by decide +kernel)) (fun _ h9 => h9) rfl dX11_ghostComes_12 ?_
        refine lv_iload hx hb dX11_ghostComes_15 (lv_at hl 5 rfl) ?_
        refine lv_iconst (v := 1) hx hb dX11_ghostComes_17 (by decide) ?_
        refine lv_isub hx hb dX11_ghostComes_18 ?_
        refine ft_top (y := nI (k - 1)) (ft_subN (a := k) (b := 1) (by omega)) ?_
        refine va_iald hx hb hK hP 1 0 rfl rfl (vp_in_nI (by omega) (by omega)) dX11_ghostComes_19 ?_
        refine ft_top (y := g6_p19 (k - 1)) (ft_clampN (by omega)) ?_
        refine lv_iload_n hx hb dX11_ghostComes_20 rfl (lv_at hl 1 rfl) ?_
        refine lv_icmp_gt (tgt := 50) hx hb dX11_ghostComes_21 (by decide) (fun c21 => ?_) (fun c21 => ?_)
        · refine lv_aload_n hx hb dX11_ghostComes_50 rfl (lv_at hl 0 rfl) ?_
          refine va_get (D := D) (ci := 11) (v := .ref p19) (C := RX11) (T := TX11) (N := 33) hx hb hts (by decide +kernel) hown hK hP 0 rfl rfl 19 (by decide) (hts (.fieldLink RX11 40 "FiberTraceModel" "ghostAt" "[I") (by decide +kernel)) (fun _ h9 => h9) rfl dX11_ghostComes_51 ?_
          refine lv_iload hx hb dX11_ghostComes_54 (lv_at hl 5 rfl) ?_
          refine lv_aload_n hx hb dX11_ghostComes_56 rfl (lv_at hl 0 rfl) ?_
          refine va_get (D := D) (ci := 11) (v := .ref p19) (C := RX11) (T := TX11) (N := 33) hx hb hts (by decide +kernel) hown hK hP 0 rfl rfl 19 (by decide) (hts (.fieldLink RX11 40 "FiberTraceModel" "ghostAt" "[I") (by decide +kernel)) (fun _ h9 => h9) rfl dX11_ghostComes_57 ?_
          refine lv_iload hx hb dX11_ghostComes_60 (lv_at hl 5 rfl) ?_
          refine lv_iconst (v := 1) hx hb dX11_ghostComes_62 (by decide) ?_
          refine lv_isub hx hb dX11_ghostComes_63 ?_
          refine ft_top (y := nI (k - 1)) (ft_subN (a := k) (b := 1) (by omega)) ?_
          refine va_iald hx hb hK hP 1 0 rfl rfl (vp_in_nI (by omega) (by omega)) dX11_ghostComes_64 ?_
          refine ft_top (y := g6_p19 (k - 1)) (ft_clampN (by omega)) ?_
          refine va_iast hx hb hK hP hD hS 1 0 rfl rfl (vp_in_nI (by omega) (by omega)) dX11_ghostComes_65 (fun H locs hP hD hS => ?_)
          rw [nI_clamp (show k < 2 ^ 31 by omega)] at hP hD
          have hP : va_P D vwCl [(m0, .inr (11, [.ref p0, .ref p1, .int i2, .ref p3, .int i4, .ref p5, .int i6, .int i7, .int i8, .int i9, .ref p10, .int i11, .ref p12, .ref p13, .ref p14, .int i15, .ref p16, .ref p17, .int (nI g), .ref p19, .ref p20, .ref p21, .ref p22, .int i23, .int i24, .ref p25, .ref p26, .ref p27, .ref p28, .ref p29, .ref p30, .ref p31, .ref p32])), (p19, .inl (cI, 55, .inl (upd g6_p19 k (g6_p19 (k - 1))))), (p20, .inl (cI, 55, .inl g6_p20)), (p21, .inl (cI, 55, .inl g6_p21)), (p22, .inl (cI, 55, .inl g6_p22))] H := hP
          have hD : va_D A [(m0, .inr (11, [.ref p0, .ref p1, .int i2, .ref p3, .int i4, .ref p5, .int i6, .int i7, .int i8, .int i9, .ref p10, .int i11, .ref p12, .ref p13, .ref p14, .int i15, .ref p16, .ref p17, .int (nI g), .ref p19, .ref p20, .ref p21, .ref p22, .int i23, .int i24, .ref p25, .ref p26, .ref p27, .ref p28, .ref p29, .ref p30, .ref p31, .ref p32])), (p19, .inl (cI, 55, .inl (upd g6_p19 k (g6_p19 (k - 1))))), (p20, .inl (cI, 55, .inl g6_p20)), (p21, .inl (cI, 55, .inl g6_p21)), (p22, .inl (cI, 55, .inl g6_p22))] := hD
          refine lv_aload_n hx hb dX11_ghostComes_66 rfl (lv_at hl 0 rfl) ?_
          refine va_get (D := D) (ci := 11) (v := .ref p20) (C := RX11) (T := TX11) (N := 33) hx hb hts (by decide +kernel) hown hK hP 0 rfl rfl 20 (by decide) (hts (.fieldLink RX11 43 "FiberTraceModel" "ghostHigh" "[I") (by decide +kernel)) (fun _ h9 => h9) rfl dX11_ghostComes_67 ?_
          refine lv_iload hx hb dX11_ghostComes_70 (lv_at hl 5 rfl) ?_
          refine lv_aload_n hx hb dX11_ghostComes_72 rfl (lv_at hl 0 rfl) ?_
          refine va_get (D := D) (ci := 11) (v := .ref p20) (C := RX11) (T := TX11) (N := 33) hx hb hts (by decide +kernel) hown hK hP 0 rfl rfl 20 (by decide) (hts (.fieldLink RX11 43 "FiberTraceModel" "ghostHigh" "[I") (by decide +kernel)) (fun _ h9 => h9) rfl dX11_ghostComes_73 ?_
          refine lv_iload hx hb dX11_ghostComes_76 (lv_at hl 5 rfl) ?_
          refine lv_iconst (v := 1) hx hb dX11_ghostComes_78 (by decide) ?_
          refine lv_isub hx hb dX11_ghostComes_79 ?_
          refine ft_top (y := nI (k - 1)) (ft_subN (a := k) (b := 1) (by omega)) ?_
          refine va_iald hx hb hK hP 2 0 rfl rfl (vp_in_nI (by omega) (by omega)) dX11_ghostComes_80 ?_
          refine ft_top (y := g6_p20 (k - 1)) (ft_clampN (by omega)) ?_
          refine va_iast hx hb hK hP hD hS 2 0 rfl rfl (vp_in_nI (by omega) (by omega)) dX11_ghostComes_81 (fun H locs hP hD hS => ?_)
          rw [nI_clamp (show k < 2 ^ 31 by omega)] at hP hD
          have hP : va_P D vwCl [(m0, .inr (11, [.ref p0, .ref p1, .int i2, .ref p3, .int i4, .ref p5, .int i6, .int i7, .int i8, .int i9, .ref p10, .int i11, .ref p12, .ref p13, .ref p14, .int i15, .ref p16, .ref p17, .int (nI g), .ref p19, .ref p20, .ref p21, .ref p22, .int i23, .int i24, .ref p25, .ref p26, .ref p27, .ref p28, .ref p29, .ref p30, .ref p31, .ref p32])), (p19, .inl (cI, 55, .inl (upd g6_p19 k (g6_p19 (k - 1))))), (p20, .inl (cI, 55, .inl (upd g6_p20 k (g6_p20 (k - 1))))), (p21, .inl (cI, 55, .inl g6_p21)), (p22, .inl (cI, 55, .inl g6_p22))] H := hP
          have hD : va_D A [(m0, .inr (11, [.ref p0, .ref p1, .int i2, .ref p3, .int i4, .ref p5, .int i6, .int i7, .int i8, .int i9, .ref p10, .int i11, .ref p12, .ref p13, .ref p14, .int i15, .ref p16, .ref p17, .int (nI g), .ref p19, .ref p20, .ref p21, .ref p22, .int i23, .int i24, .ref p25, .ref p26, .ref p27, .ref p28, .ref p29, .ref p30, .ref p31, .ref p32])), (p19, .inl (cI, 55, .inl (upd g6_p19 k (g6_p19 (k - 1))))), (p20, .inl (cI, 55, .inl (upd g6_p20 k (g6_p20 (k - 1))))), (p21, .inl (cI, 55, .inl g6_p21)), (p22, .inl (cI, 55, .inl g6_p22))] := hD
          refine lv_aload_n hx hb dX11_ghostComes_82 rfl (lv_at hl 0 rfl) ?_
          refine va_get (D := D) (ci := 11) (v := .ref p21) (C := RX11) (T := TX11) (N := 33) hx hb hts (by decide +kernel) hown hK hP 0 rfl rfl 21 (by decide) (hts (.fieldLink RX11 46 "FiberTraceModel" "ghostOne" "[I") (by decide +kernel)) (fun _ h9 => h9) rfl dX11_ghostComes_83 ?_
          refine lv_iload hx hb dX11_ghostComes_86 (lv_at hl 5 rfl) ?_
          refine lv_aload_n hx hb dX11_ghostComes_88 rfl (lv_at hl 0 rfl) ?_
          refine va_get (D := D) (ci := 11) (v := .ref p21) (C := RX11) (T := TX11) (N := 33) hx hb hts (by decide +kernel) hown hK hP 0 rfl rfl 21 (by decide) (hts (.fieldLink RX11 46 "FiberTraceModel" "ghostOne" "[I") (by decide +kernel)) (fun _ h9 => h9) rfl dX11_ghostComes_89 ?_
          refine lv_iload hx hb dX11_ghostComes_92 (lv_at hl 5 rfl) ?_
          refine lv_iconst (v := 1) hx hb dX11_ghostComes_94 (by decide) ?_
          refine lv_isub hx hb dX11_ghostComes_95 ?_
          refine ft_top (y := nI (k - 1)) (ft_subN (a := k) (b := 1) (by omega)) ?_
          refine va_iald hx hb hK hP 3 0 rfl rfl (vp_in_nI (by omega) (by omega)) dX11_ghostComes_96 ?_
          refine ft_top (y := g6_p21 (k - 1)) (ft_clampN (by omega)) ?_
          refine va_iast hx hb hK hP hD hS 3 0 rfl rfl (vp_in_nI (by omega) (by omega)) dX11_ghostComes_97 (fun H locs hP hD hS => ?_)
          rw [nI_clamp (show k < 2 ^ 31 by omega)] at hP hD
          have hP : va_P D vwCl [(m0, .inr (11, [.ref p0, .ref p1, .int i2, .ref p3, .int i4, .ref p5, .int i6, .int i7, .int i8, .int i9, .ref p10, .int i11, .ref p12, .ref p13, .ref p14, .int i15, .ref p16, .ref p17, .int (nI g), .ref p19, .ref p20, .ref p21, .ref p22, .int i23, .int i24, .ref p25, .ref p26, .ref p27, .ref p28, .ref p29, .ref p30, .ref p31, .ref p32])), (p19, .inl (cI, 55, .inl (upd g6_p19 k (g6_p19 (k - 1))))), (p20, .inl (cI, 55, .inl (upd g6_p20 k (g6_p20 (k - 1))))), (p21, .inl (cI, 55, .inl (upd g6_p21 k (g6_p21 (k - 1))))), (p22, .inl (cI, 55, .inl g6_p22))] H := hP
          have hD : va_D A [(m0, .inr (11, [.ref p0, .ref p1, .int i2, .ref p3, .int i4, .ref p5, .int i6, .int i7, .int i8, .int i9, .ref p10, .int i11, .ref p12, .ref p13, .ref p14, .int i15, .ref p16, .ref p17, .int (nI g), .ref p19, .ref p20, .ref p21, .ref p22, .int i23, .int i24, .ref p25, .ref p26, .ref p27, .ref p28, .ref p29, .ref p30, .ref p31, .ref p32])), (p19, .inl (cI, 55, .inl (upd g6_p19 k (g6_p19 (k - 1))))), (p20, .inl (cI, 55, .inl (upd g6_p20 k (g6_p20 (k - 1))))), (p21, .inl (cI, 55, .inl (upd g6_p21 k (g6_p21 (k - 1))))), (p22, .inl (cI, 55, .inl g6_p22))] := hD
          refine lv_aload_n hx hb dX11_ghostComes_98 rfl (lv_at hl 0 rfl) ?_
          refine va_get (D := D) (ci := 11) (v := .ref p22) (C := RX11) (T := TX11) (N := 33) hx hb hts (by decide +kernel) hown hK hP 0 rfl rfl 22 (by decide) (hts (.fieldLink RX11 49 "FiberTraceModel" "ghostTwo" "[I") (by decide +kernel)) (fun _ h9 => h9) rfl dX11_ghostComes_99 ?_
          refine lv_iload hx hb dX11_ghostComes_102 (lv_at hl 5 rfl) ?_
          refine lv_aload_n hx hb dX11_ghostComes_104 rfl (lv_at hl 0 rfl) ?_
          refine va_get (D := D) (ci := 11) (v := .ref p22) (C := RX11) (T := TX11) (N := 33) hx hb hts (by decide +kernel) hown hK hP 0 rfl rfl 22 (by decide) (hts (.fieldLink RX11 49 "FiberTraceModel" "ghostTwo" "[I") (by decide +kernel)) (fun _ h9 => h9) rfl dX11_ghostComes_105 ?_
          refine lv_iload hx hb dX11_ghostComes_108 (lv_at hl 5 rfl) ?_
          refine lv_iconst (v := 1) hx hb dX11_ghostComes_110 (by decide) ?_
          refine lv_isub hx hb dX11_ghostComes_111 ?_
          refine ft_top (y := nI (k - 1)) (ft_subN (a := k) (b := 1) (by omega)) ?_
          refine va_iald hx hb hK hP 4 0 rfl rfl (vp_in_nI (by omega) (by omega)) dX11_ghostComes_112 ?_
          refine ft_top (y := g6_p22 (k - 1)) (ft_clampN (by omega)) ?_
          refine va_iast hx hb hK hP hD hS 4 0 rfl rfl (vp_in_nI (by omega) (by omega)) dX11_ghostComes_113 (fun H locs hP hD hS => ?_)
          rw [nI_clamp (show k < 2 ^ 31 by omega)] at hP hD
          have hP : va_P D vwCl [(m0, .inr (11, [.ref p0, .ref p1, .int i2, .ref p3, .int i4, .ref p5, .int i6, .int i7, .int i8, .int i9, .ref p10, .int i11, .ref p12, .ref p13, .ref p14, .int i15, .ref p16, .ref p17, .int (nI g), .ref p19, .ref p20, .ref p21, .ref p22, .int i23, .int i24, .ref p25, .ref p26, .ref p27, .ref p28, .ref p29, .ref p30, .ref p31, .ref p32])), (p19, .inl (cI, 55, .inl (upd g6_p19 k (g6_p19 (k - 1))))), (p20, .inl (cI, 55, .inl (upd g6_p20 k (g6_p20 (k - 1))))), (p21, .inl (cI, 55, .inl (upd g6_p21 k (g6_p21 (k - 1))))), (p22, .inl (cI, 55, .inl (upd g6_p22 k (g6_p22 (k - 1)))))] H := hP
          have hD : va_D A [(m0, .inr (11, [.ref p0, .ref p1, .int i2, .ref p3, .int i4, .ref p5, .int i6, .int i7, .int i8, .int i9, .ref p10, .int i11, .ref p12, .ref p13, .ref p14, .int i15, .ref p16, .ref p17, .int (nI g), .ref p19, .ref p20, .ref p21, .ref p22, .int i23, .int i24, .ref p25, .ref p26, .ref p27, .ref p28, .ref p29, .ref p30, .ref p31, .ref p32])), (p19, .inl (cI, 55, .inl (upd g6_p19 k (g6_p19 (k - 1))))), (p20, .inl (cI, 55, .inl (upd g6_p20 k (g6_p20 (k - 1))))), (p21, .inl (cI, 55, .inl (upd g6_p21 k (g6_p21 (k - 1))))), (p22, .inl (cI, 55, .inl (upd g6_p22 k (g6_p22 (k - 1)))))] := hD
          refine lv_iinc (v := nI (k - 1)) (lv' := [(5, .int (nI (k - 1))), (0, .ref m0), (1, .int x), (2, .int h), (3, .int a), (4, .int b)]) hx hb dX11_ghostComes_114 hl (k := 5) rfl (ft_dec (by omega)) (by decide) rfl (fun ls hl => ?_)
          refine lv_goto (tgt := 6) hx hb dX11_ghostComes_117 (by decide) ?_
          exact ih6 (k - 1) (nI (k - 1)) (upd g6_p19 k (g6_p19 (k - 1))) (upd g6_p20 k (g6_p20 (k - 1))) (upd g6_p21 k (g6_p21 (k - 1))) (upd g6_p22 k (g6_p22 (k - 1))) (by omega) (by omega) (by rw [hd]; first | exact ftDownM_gt hk1 (Or.inl (by rw [← hga]; exact c21)) | exact ftDownM_gt hk1 (Or.inr ⟨by rw [← hga]; exact c34, by rw [← hg1]; exact Int32.not_le.mp c47⟩)) (by first | rfl | assumption) (by rw [eg6_p19]; exact ftInsG_s hk1 hkg) (by rw [eg6_p20]; exact ftInsG_s hk1 hkg) (by rw [eg6_p21]; exact ftInsG_s hk1 hkg) (by rw [eg6_p22]; exact ftInsG_s hk1 hkg) _ _ hP hD hS ls (lv_sub hl [1, 2, 3, 4, 5, 0] rfl)
        · refine lv_aload_n hx hb dX11_ghostComes_24 rfl (lv_at hl 0 rfl) ?_
          refine va_get (D := D) (ci := 11) (v := .ref p19) (C := RX11) (T := TX11) (N := 33) hx hb hts (by decide +kernel) hown hK hP 0 rfl rfl 19 (by decide) (hts (.fieldLink RX11 40 "FiberTraceModel" "ghostAt" "[I") (by decide +kernel)) (fun _ h9 => h9) rfl dX11_ghostComes_25 ?_
          refine lv_iload hx hb dX11_ghostComes_28 (lv_at hl 5 rfl) ?_
          refine lv_iconst (v := 1) hx hb dX11_ghostComes_30 (by decide) ?_
          refine lv_isub hx hb dX11_ghostComes_31 ?_
          refine ft_top (y := nI (k - 1)) (ft_subN (a := k) (b := 1) (by omega)) ?_
          refine va_iald hx hb hK hP 1 0 rfl rfl (vp_in_nI (by omega) (by omega)) dX11_ghostComes_32 ?_
          refine ft_top (y := g6_p19 (k - 1)) (ft_clampN (by omega)) ?_
          refine lv_iload_n hx hb dX11_ghostComes_33 rfl (lv_at hl 1 rfl) ?_
          refine lv_icmp_ne (tgt := 120) hx hb dX11_ghostComes_34 (by decide) (fun c34 => ?_) (fun c34 => ?_)
          · have hix : ftDownM ga g1 x a g = k := by
              rw [hd]
              refine ftDownM_ge hk1 (fun q => q.elim (fun r => c21 (by rw [hga]; exact r)) (fun r => c34 (by rw [hga]; exact r.1)))
            refine lv_aload_n hx hb dX11_ghostComes_120 rfl (lv_at hl 0 rfl) ?_
            refine va_get (D := D) (ci := 11) (v := .ref p19) (C := RX11) (T := TX11) (N := 33) hx hb hts (by decide +kernel) hown hK hP 0 rfl rfl 19 (by decide) (hts (.fieldLink RX11 40 "FiberTraceModel" "ghostAt" "[I") (by decide +kernel)) (fun _ h9 => h9) rfl dX11_ghostComes_121 ?_
            refine lv_iload hx hb dX11_ghostComes_124 (lv_at hl 5 rfl) ?_
            refine lv_iload_n hx hb dX11_ghostComes_126 rfl (lv_at hl 1 rfl) ?_
            refine va_iast hx hb hK hP hD hS 1 0 rfl rfl (vp_in_nI (by omega) (by omega)) dX11_ghostComes_127 (fun H locs hP hD hS => ?_)
            rw [nI_clamp (show k < 2 ^ 31 by omega)] at hP hD
            have hP : va_P D vwCl [(m0, .inr (11, [.ref p0, .ref p1, .int i2, .ref p3, .int i4, .ref p5, .int i6, .int i7, .int i8, .int i9, .ref p10, .int i11, .ref p12, .ref p13, .ref p14, .int i15, .ref p16, .ref p17, .int (nI g), .ref p19, .ref p20, .ref p21, .ref p22, .int i23, .int i24, .ref p25, .ref p26, .ref p27, .ref p28, .ref p29, .ref p30, .ref p31, .ref p32])), (p19, .inl (cI, 55, .inl (upd g6_p19 k x))), (p20, .inl (cI, 55, .inl g6_p20)), (p21, .inl (cI, 55, .inl g6_p21)), (p22, .inl (cI, 55, .inl g6_p22))] H := hP
            have hD : va_D A [(m0, .inr (11, [.ref p0, .ref p1, .int i2, .ref p3, .int i4, .ref p5, .int i6, .int i7, .int i8, .int i9, .ref p10, .int i11, .ref p12, .ref p13, .ref p14, .int i15, .ref p16, .ref p17, .int (nI g), .ref p19, .ref p20, .ref p21, .ref p22, .int i23, .int i24, .ref p25, .ref p26, .ref p27, .ref p28, .ref p29, .ref p30, .ref p31, .ref p32])), (p19, .inl (cI, 55, .inl (upd g6_p19 k x))), (p20, .inl (cI, 55, .inl g6_p20)), (p21, .inl (cI, 55, .inl g6_p21)), (p22, .inl (cI, 55, .inl g6_p22))] := hD
            refine lv_aload_n hx hb dX11_ghostComes_128 rfl (lv_at hl 0 rfl) ?_
            refine va_get (D := D) (ci := 11) (v := .ref p20) (C := RX11) (T := TX11) (N := 33) hx hb hts (by decide +kernel) hown hK hP 0 rfl rfl 20 (by decide) (hts (.fieldLink RX11 43 "FiberTraceModel" "ghostHigh" "[I") (by decide +kernel)) (fun _ h9 => h9) rfl dX11_ghostComes_129 ?_
            refine lv_iload hx hb dX11_ghostComes_132 (lv_at hl 5 rfl) ?_
            refine lv_iload_n hx hb dX11_ghostComes_134 rfl (lv_at hl 2 rfl) ?_
            refine va_iast hx hb hK hP hD hS 2 0 rfl rfl (vp_in_nI (by omega) (by omega)) dX11_ghostComes_135 (fun H locs hP hD hS => ?_)
            rw [nI_clamp (show k < 2 ^ 31 by omega)] at hP hD
            have hP : va_P D vwCl [(m0, .inr (11, [.ref p0, .ref p1, .int i2, .ref p3, .int i4, .ref p5, .int i6, .int i7, .int i8, .int i9, .ref p10, .int i11, .ref p12, .ref p13, .ref p14, .int i15, .ref p16, .ref p17, .int (nI g), .ref p19, .ref p20, .ref p21, .ref p22, .int i23, .int i24, .ref p25, .ref p26, .ref p27, .ref p28, .ref p29, .ref p30, .ref p31, .ref p32])), (p19, .inl (cI, 55, .inl (upd g6_p19 k x))), (p20, .inl (cI, 55, .inl (upd g6_p20 k h))), (p21, .inl (cI, 55, .inl g6_p21)), (p22, .inl (cI, 55, .inl g6_p22))] H := hP
            have hD : va_D A [(m0, .inr (11, [.ref p0, .ref p1, .int i2, .ref p3, .int i4, .ref p5, .int i6, .int i7, .int i8, .int i9, .ref p10, .int i11, .ref p12, .ref p13, .ref p14, .int i15, .ref p16, .ref p17, .int (nI g), .ref p19, .ref p20, .ref p21, .ref p22, .int i23, .int i24, .ref p25, .ref p26, .ref p27, .ref p28, .ref p29, .ref p30, .ref p31, .ref p32])), (p19, .inl (cI, 55, .inl (upd g6_p19 k x))), (p20, .inl (cI, 55, .inl (upd g6_p20 k h))), (p21, .inl (cI, 55, .inl g6_p21)), (p22, .inl (cI, 55, .inl g6_p22))] := hD
            refine lv_aload_n hx hb dX11_ghostComes_136 rfl (lv_at hl 0 rfl) ?_
            refine va_get (D := D) (ci := 11) (v := .ref p21) (C := RX11) (T := TX11) (N := 33) hx hb hts (by decide +kernel) hown hK hP 0 rfl rfl 21 (by decide) (hts (.fieldLink RX11 46 "FiberTraceModel" "ghostOne" "[I") (by decide +kernel)) (fun _ h9 => h9) rfl dX11_ghostComes_137 ?_
            refine lv_iload hx hb dX11_ghostComes_140 (lv_at hl 5 rfl) ?_
            refine lv_iload_n hx hb dX11_ghostComes_142 rfl (lv_at hl 3 rfl) ?_
            refine va_iast hx hb hK hP hD hS 3 0 rfl rfl (vp_in_nI (by omega) (by omega)) dX11_ghostComes_143 (fun H locs hP hD hS => ?_)
            rw [nI_clamp (show k < 2 ^ 31 by omega)] at hP hD
            have hP : va_P D vwCl [(m0, .inr (11, [.ref p0, .ref p1, .int i2, .ref p3, .int i4, .ref p5, .int i6, .int i7, .int i8, .int i9, .ref p10, .int i11, .ref p12, .ref p13, .ref p14, .int i15, .ref p16, .ref p17, .int (nI g), .ref p19, .ref p20, .ref p21, .ref p22, .int i23, .int i24, .ref p25, .ref p26, .ref p27, .ref p28, .ref p29, .ref p30, .ref p31, .ref p32])), (p19, .inl (cI, 55, .inl (upd g6_p19 k x))), (p20, .inl (cI, 55, .inl (upd g6_p20 k h))), (p21, .inl (cI, 55, .inl (upd g6_p21 k a))), (p22, .inl (cI, 55, .inl g6_p22))] H := hP
            have hD : va_D A [(m0, .inr (11, [.ref p0, .ref p1, .int i2, .ref p3, .int i4, .ref p5, .int i6, .int i7, .int i8, .int i9, .ref p10, .int i11, .ref p12, .ref p13, .ref p14, .int i15, .ref p16, .ref p17, .int (nI g), .ref p19, .ref p20, .ref p21, .ref p22, .int i23, .int i24, .ref p25, .ref p26, .ref p27, .ref p28, .ref p29, .ref p30, .ref p31, .ref p32])), (p19, .inl (cI, 55, .inl (upd g6_p19 k x))), (p20, .inl (cI, 55, .inl (upd g6_p20 k h))), (p21, .inl (cI, 55, .inl (upd g6_p21 k a))), (p22, .inl (cI, 55, .inl g6_p22))] := hD
            refine lv_aload_n hx hb dX11_ghostComes_144 rfl (lv_at hl 0 rfl) ?_
            refine va_get (D := D) (ci := 11) (v := .ref p22) (C := RX11) (T := TX11) (N := 33) hx hb hts (by decide +kernel) hown hK hP 0 rfl rfl 22 (by decide) (hts (.fieldLink RX11 49 "FiberTraceModel" "ghostTwo" "[I") (by decide +kernel)) (fun _ h9 => h9) rfl dX11_ghostComes_145 ?_
            refine lv_iload hx hb dX11_ghostComes_148 (lv_at hl 5 rfl) ?_
            refine lv_iload hx hb dX11_ghostComes_150 (lv_at hl 4 rfl) ?_
            refine va_iast hx hb hK hP hD hS 4 0 rfl rfl (vp_in_nI (by omega) (by omega)) dX11_ghostComes_152 (fun H locs hP hD hS => ?_)
            rw [nI_clamp (show k < 2 ^ 31 by omega)] at hP hD
            have hP : va_P D vwCl [(m0, .inr (11, [.ref p0, .ref p1, .int i2, .ref p3, .int i4, .ref p5, .int i6, .int i7, .int i8, .int i9, .ref p10, .int i11, .ref p12, .ref p13, .ref p14, .int i15, .ref p16, .ref p17, .int (nI g), .ref p19, .ref p20, .ref p21, .ref p22, .int i23, .int i24, .ref p25, .ref p26, .ref p27, .ref p28, .ref p29, .ref p30, .ref p31, .ref p32])), (p19, .inl (cI, 55, .inl (upd g6_p19 k x))), (p20, .inl (cI, 55, .inl (upd g6_p20 k h))), (p21, .inl (cI, 55, .inl (upd g6_p21 k a))), (p22, .inl (cI, 55, .inl (upd g6_p22 k b)))] H := hP
            have hD : va_D A [(m0, .inr (11, [.ref p0, .ref p1, .int i2, .ref p3, .int i4, .ref p5, .int i6, .int i7, .int i8, .int i9, .ref p10, .int i11, .ref p12, .ref p13, .ref p14, .int i15, .ref p16, .ref p17, .int (nI g), .ref p19, .ref p20, .ref p21, .ref p22, .int i23, .int i24, .ref p25, .ref p26, .ref p27, .ref p28, .ref p29, .ref p30, .ref p31, .ref p32])), (p19, .inl (cI, 55, .inl (upd g6_p19 k x))), (p20, .inl (cI, 55, .inl (upd g6_p20 k h))), (p21, .inl (cI, 55, .inl (upd g6_p21 k a))), (p22, .inl (cI, 55, .inl (upd g6_p22 k b)))] := hD
            refine lv_aload_n hx hb dX11_ghostComes_153 rfl (lv_at hl 0 rfl) ?_
            refine lv_dup hx hb dX11_ghostComes_154 rfl ?_
            refine va_get (D := D) (ci := 11) (v := .int (nI g)) (C := RX11) (T := TX11) (N := 33) hx hb hts (by decide +kernel) hown hK hP 0 rfl rfl 18 (by decide) (hts (.fieldLink RX11 208 "FiberTraceModel" "ghostMany" "I") (by decide +kernel)) (fun _ h9 => h9) rfl dX11_ghostComes_155 ?_
            refine lv_iconst (v := 1) hx hb dX11_ghostComes_158 (by decide) ?_
            refine lv_iadd hx hb dX11_ghostComes_159 ?_
            refine ft_top (y := nI (g + 1)) (ft_addN g 1) ?_
            refine va_put (D := D) (ci := 11) (v := .int (nI (g + 1))) (ty := .int) (C := RX11) (T := TX11) (N := 33) hx hb hts (by decide +kernel) tyX11 tyX11_ok nmX11 hown hK hP hD hS 0 rfl rfl 18 (by decide) (hts (.fieldLink RX11 208 "FiberTraceModel" "ghostMany" "I") (by decide +kernel)) (fun _ h9 => h9) rfl (by decide +kernel) rfl rfl (Nat.le_of_ble_eq_true rfl) dX11_ghostComes_160 (fun H locs hP hD hS => ?_)
            have hP : va_P D vwCl [(m0, .inr (11, [.ref p0, .ref p1, .int i2, .ref p3, .int i4, .ref p5, .int i6, .int i7, .int i8, .int i9, .ref p10, .int i11, .ref p12, .ref p13, .ref p14, .int i15, .ref p16, .ref p17, .int (nI (g + 1)), .ref p19, .ref p20, .ref p21, .ref p22, .int i23, .int i24, .ref p25, .ref p26, .ref p27, .ref p28, .ref p29, .ref p30, .ref p31, .ref p32])), (p19, .inl (cI, 55, .inl (upd g6_p19 k x))), (p20, .inl (cI, 55, .inl (upd g6_p20 k h))), (p21, .inl (cI, 55, .inl (upd g6_p21 k a))), (p22, .inl (cI, 55, .inl (upd g6_p22 k b)))] H := hP
            have hD : va_D A [(m0, .inr (11, [.ref p0, .ref p1, .int i2, .ref p3, .int i4, .ref p5, .int i6, .int i7, .int i8, .int i9, .ref p10, .int i11, .ref p12, .ref p13, .ref p14, .int i15, .ref p16, .ref p17, .int (nI (g + 1)), .ref p19, .ref p20, .ref p21, .ref p22, .int i23, .int i24, .ref p25, .ref p26, .ref p27, .ref p28, .ref p29, .ref p30, .ref p31, .ref p32])), (p19, .inl (cI, 55, .inl (upd g6_p19 k x))), (p20, .inl (cI, 55, .inl (upd g6_p20 k h))), (p21, .inl (cI, 55, .inl (upd g6_p21 k a))), (p22, .inl (cI, 55, .inl (upd g6_p22 k b)))] := hD
            have hw9 : ([(m0, .inr (11, [.ref p0, .ref p1, .int i2, .ref p3, .int i4, .ref p5, .int i6, .int i7, .int i8, .int i9, .ref p10, .int i11, .ref p12, .ref p13, .ref p14, .int i15, .ref p16, .ref p17, .int (nI (g + 1)), .ref p19, .ref p20, .ref p21, .ref p22, .int i23, .int i24, .ref p25, .ref p26, .ref p27, .ref p28, .ref p29, .ref p30, .ref p31, .ref p32])), (p19, .inl (cI, 55, .inl (upd g6_p19 k x))), (p20, .inl (cI, 55, .inl (upd g6_p20 k h))), (p21, .inl (cI, 55, .inl (upd g6_p21 k a))), (p22, .inl (cI, 55, .inl (upd g6_p22 k b)))] : va_W) = [(m0, .inr (11, [.ref p0, .ref p1, .int i2, .ref p3, .int i4, .ref p5, .int i6, .int i7, .int i8, .int i9, .ref p10, .int i11, .ref p12, .ref p13, .ref p14, .int i15, .ref p16, .ref p17, .int (nI (ftGmIns (g, ga, gh, g1, g2) x h a b).1), .ref p19, .ref p20, .ref p21, .ref p22, .int i23, .int i24, .ref p25, .ref p26, .ref p27, .ref p28, .ref p29, .ref p30, .ref p31, .ref p32])), (p19, .inl (cI, 55, .inl ((ftGmIns (g, ga, gh, g1, g2) x h a b).2.1))), (p20, .inl (cI, 55, .inl ((ftGmIns (g, ga, gh, g1, g2) x h a b).2.2.1))), (p21, .inl (cI, 55, .inl ((ftGmIns (g, ga, gh, g1, g2) x h a b).2.2.2.1))), (p22, .inl (cI, 55, .inl ((ftGmIns (g, ga, gh, g1, g2) x h a b).2.2.2.2)))] := by rw [eg6_p19, eg6_p20, eg6_p21, eg6_p22, ftGmIns, hix]; rfl
            rw [hw9] at hP hD
            exact W.vret hx hb hr (fun t ht hW => ⟨⟨(), rfl, trivial, by rw [ht]; exact hP, by rw [hAe]; exact hD⟩, by rw [hAe]; exact hS.F ht⟩) hS.2.2 dX11_ghostComes_163
          · refine lv_aload_n hx hb dX11_ghostComes_37 rfl (lv_at hl 0 rfl) ?_
            refine va_get (D := D) (ci := 11) (v := .ref p21) (C := RX11) (T := TX11) (N := 33) hx hb hts (by decide +kernel) hown hK hP 0 rfl rfl 21 (by decide) (hts (.fieldLink RX11 46 "FiberTraceModel" "ghostOne" "[I") (by decide +kernel)) (fun _ h9 => h9) rfl dX11_ghostComes_38 ?_
            refine lv_iload hx hb dX11_ghostComes_41 (lv_at hl 5 rfl) ?_
            refine lv_iconst (v := 1) hx hb dX11_ghostComes_43 (by decide) ?_
            refine lv_isub hx hb dX11_ghostComes_44 ?_
            refine ft_top (y := nI (k - 1)) (ft_subN (a := k) (b := 1) (by omega)) ?_
            refine va_iald hx hb hK hP 3 0 rfl rfl (vp_in_nI (by omega) (by omega)) dX11_ghostComes_45 ?_
            refine ft_top (y := g6_p21 (k - 1)) (ft_clampN (by omega)) ?_
            refine lv_iload_n hx hb dX11_ghostComes_46 rfl (lv_at hl 3 rfl) ?_
            refine lv_icmp_le (tgt := 120) hx hb dX11_ghostComes_47 (by decide) (fun c47 => ?_) (fun c47 => ?_)
            · have hix : ftDownM ga g1 x a g = k := by
                rw [hd]
                refine ftDownM_ge hk1 (fun q => q.elim (fun r => c21 (by rw [hga]; exact r)) (fun r => absurd r.2 (by rw [← hg1]; exact Int32.not_lt.mpr c47)))
              refine lv_aload_n hx hb dX11_ghostComes_120 rfl (lv_at hl 0 rfl) ?_
              refine va_get (D := D) (ci := 11) (v := .ref p19) (C := RX11) (T := TX11) (N := 33) hx hb hts (by decide +kernel) hown hK hP 0 rfl rfl 19 (by decide) (hts (.fieldLink RX11 40 "FiberTraceModel" "ghostAt" "[I") (by decide +kernel)) (fun _ h9 => h9) rfl dX11_ghostComes_121 ?_
              refine lv_iload hx hb dX11_ghostComes_124 (lv_at hl 5 rfl) ?_
              refine lv_iload_n hx hb dX11_ghostComes_126 rfl (lv_at hl 1 rfl) ?_
              refine va_iast hx hb hK hP hD hS 1 0 rfl rfl (vp_in_nI (by omega) (by omega)) dX11_ghostComes_127 (fun H locs hP hD hS => ?_)
              rw [nI_clamp (show k < 2 ^ 31 by omega)] at hP hD
              have hP : va_P D vwCl [(m0, .inr (11, [.ref p0, .ref p1, .int i2, .ref p3, .int i4, .ref p5, .int i6, .int i7, .int i8, .int i9, .ref p10, .int i11, .ref p12, .ref p13, .ref p14, .int i15, .ref p16, .ref p17, .int (nI g), .ref p19, .ref p20, .ref p21, .ref p22, .int i23, .int i24, .ref p25, .ref p26, .ref p27, .ref p28, .ref p29, .ref p30, .ref p31, .ref p32])), (p19, .inl (cI, 55, .inl (upd g6_p19 k x))), (p20, .inl (cI, 55, .inl g6_p20)), (p21, .inl (cI, 55, .inl g6_p21)), (p22, .inl (cI, 55, .inl g6_p22))] H := hP
              have hD : va_D A [(m0, .inr (11, [.ref p0, .ref p1, .int i2, .ref p3, .int i4, .ref p5, .int i6, .int i7, .int i8, .int i9, .ref p10, .int i11, .ref p12, .ref p13, .ref p14, .int i15, .ref p16, .ref p17, .int (nI g), .ref p19, .ref p20, .ref p21, .ref p22, .int i23, .int i24, .ref p25, .ref p26, .ref p27, .ref p28, .ref p29, .ref p30, .ref p31, .ref p32])), (p19, .inl (cI, 55, .inl (upd g6_p19 k x))), (p20, .inl (cI, 55, .inl g6_p20)), (p21, .inl (cI, 55, .inl g6_p21)), (p22, .inl (cI, 55, .inl g6_p22))] := hD
              refine lv_aload_n hx hb dX11_ghostComes_128 rfl (lv_at hl 0 rfl) ?_
              refine va_get (D := D) (ci := 11) (v := .ref p20) (C := RX11) (T := TX11) (N := 33) hx hb hts (by decide +kernel) hown hK hP 0 rfl rfl 20 (by decide) (hts (.fieldLink RX11 43 "FiberTraceModel" "ghostHigh" "[I") (by decide +kernel)) (fun _ h9 => h9) rfl dX11_ghostComes_129 ?_
              refine lv_iload hx hb dX11_ghostComes_132 (lv_at hl 5 rfl) ?_
              refine lv_iload_n hx hb dX11_ghostComes_134 rfl (lv_at hl 2 rfl) ?_
              refine va_iast hx hb hK hP hD hS 2 0 rfl rfl (vp_in_nI (by omega) (by omega)) dX11_ghostComes_135 (fun H locs hP hD hS => ?_)
              rw [nI_clamp (show k < 2 ^ 31 by omega)] at hP hD
              have hP : va_P D vwCl [(m0, .inr (11, [.ref p0, .ref p1, .int i2, .ref p3, .int i4, .ref p5, .int i6, .int i7, .int i8, .int i9, .ref p10, .int i11, .ref p12, .ref p13, .ref p14, .int i15, .ref p16, .ref p17, .int (nI g), .ref p19, .ref p20, .ref p21, .ref p22, .int i23, .int i24, .ref p25, .ref p26, .ref p27, .ref p28, .ref p29, .ref p30, .ref p31, .ref p32])), (p19, .inl (cI, 55, .inl (upd g6_p19 k x))), (p20, .inl (cI, 55, .inl (upd g6_p20 k h))), (p21, .inl (cI, 55, .inl g6_p21)), (p22, .inl (cI, 55, .inl g6_p22))] H := hP
              have hD : va_D A [(m0, .inr (11, [.ref p0, .ref p1, .int i2, .ref p3, .int i4, .ref p5, .int i6, .int i7, .int i8, .int i9, .ref p10, .int i11, .ref p12, .ref p13, .ref p14, .int i15, .ref p16, .ref p17, .int (nI g), .ref p19, .ref p20, .ref p21, .ref p22, .int i23, .int i24, .ref p25, .ref p26, .ref p27, .ref p28, .ref p29, .ref p30, .ref p31, .ref p32])), (p19, .inl (cI, 55, .inl (upd g6_p19 k x))), (p20, .inl (cI, 55, .inl (upd g6_p20 k h))), (p21, .inl (cI, 55, .inl g6_p21)), (p22, .inl (cI, 55, .inl g6_p22))] := hD
              refine lv_aload_n hx hb dX11_ghostComes_136 rfl (lv_at hl 0 rfl) ?_
              refine va_get (D := D) (ci := 11) (v := .ref p21) (C := RX11) (T := TX11) (N := 33) hx hb hts (by decide +kernel) hown hK hP 0 rfl rfl 21 (by decide) (hts (.fieldLink RX11 46 "FiberTraceModel" "ghostOne" "[I") (by decide +kernel)) (fun _ h9 => h9) rfl dX11_ghostComes_137 ?_
              refine lv_iload hx hb dX11_ghostComes_140 (lv_at hl 5 rfl) ?_
              refine lv_iload_n hx hb dX11_ghostComes_142 rfl (lv_at hl 3 rfl) ?_
              refine va_iast hx hb hK hP hD hS 3 0 rfl rfl (vp_in_nI (by omega) (by omega)) dX11_ghostComes_143 (fun H locs hP hD hS => ?_)
              rw [nI_clamp (show k < 2 ^ 31 by omega)] at hP hD
              have hP : va_P D vwCl [(m0, .inr (11, [.ref p0, .ref p1, .int i2, .ref p3, .int i4, .ref p5, .int i6, .int i7, .int i8, .int i9, .ref p10, .int i11, .ref p12, .ref p13, .ref p14, .int i15, .ref p16, .ref p17, .int (nI g), .ref p19, .ref p20, .ref p21, .ref p22, .int i23, .int i24, .ref p25, .ref p26, .ref p27, .ref p28, .ref p29, .ref p30, .ref p31, .ref p32])), (p19, .inl (cI, 55, .inl (upd g6_p19 k x))), (p20, .inl (cI, 55, .inl (upd g6_p20 k h))), (p21, .inl (cI, 55, .inl (upd g6_p21 k a))), (p22, .inl (cI, 55, .inl g6_p22))] H := hP
              have hD : va_D A [(m0, .inr (11, [.ref p0, .ref p1, .int i2, .ref p3, .int i4, .ref p5, .int i6, .int i7, .int i8, .int i9, .ref p10, .int i11, .ref p12, .ref p13, .ref p14, .int i15, .ref p16, .ref p17, .int (nI g), .ref p19, .ref p20, .ref p21, .ref p22, .int i23, .int i24, .ref p25, .ref p26, .ref p27, .ref p28, .ref p29, .ref p30, .ref p31, .ref p32])), (p19, .inl (cI, 55, .inl (upd g6_p19 k x))), (p20, .inl (cI, 55, .inl (upd g6_p20 k h))), (p21, .inl (cI, 55, .inl (upd g6_p21 k a))), (p22, .inl (cI, 55, .inl g6_p22))] := hD
              refine lv_aload_n hx hb dX11_ghostComes_144 rfl (lv_at hl 0 rfl) ?_
              refine va_get (D := D) (ci := 11) (v := .ref p22) (C := RX11) (T := TX11) (N := 33) hx hb hts (by decide +kernel) hown hK hP 0 rfl rfl 22 (by decide) (hts (.fieldLink RX11 49 "FiberTraceModel" "ghostTwo" "[I") (by decide +kernel)) (fun _ h9 => h9) rfl dX11_ghostComes_145 ?_
              refine lv_iload hx hb dX11_ghostComes_148 (lv_at hl 5 rfl) ?_
              refine lv_iload hx hb dX11_ghostComes_150 (lv_at hl 4 rfl) ?_
              refine va_iast hx hb hK hP hD hS 4 0 rfl rfl (vp_in_nI (by omega) (by omega)) dX11_ghostComes_152 (fun H locs hP hD hS => ?_)
              rw [nI_clamp (show k < 2 ^ 31 by omega)] at hP hD
              have hP : va_P D vwCl [(m0, .inr (11, [.ref p0, .ref p1, .int i2, .ref p3, .int i4, .ref p5, .int i6, .int i7, .int i8, .int i9, .ref p10, .int i11, .ref p12, .ref p13, .ref p14, .int i15, .ref p16, .ref p17, .int (nI g), .ref p19, .ref p20, .ref p21, .ref p22, .int i23, .int i24, .ref p25, .ref p26, .ref p27, .ref p28, .ref p29, .ref p30, .ref p31, .ref p32])), (p19, .inl (cI, 55, .inl (upd g6_p19 k x))), (p20, .inl (cI, 55, .inl (upd g6_p20 k h))), (p21, .inl (cI, 55, .inl (upd g6_p21 k a))), (p22, .inl (cI, 55, .inl (upd g6_p22 k b)))] H := hP
              have hD : va_D A [(m0, .inr (11, [.ref p0, .ref p1, .int i2, .ref p3, .int i4, .ref p5, .int i6, .int i7, .int i8, .int i9, .ref p10, .int i11, .ref p12, .ref p13, .ref p14, .int i15, .ref p16, .ref p17, .int (nI g), .ref p19, .ref p20, .ref p21, .ref p22, .int i23, .int i24, .ref p25, .ref p26, .ref p27, .ref p28, .ref p29, .ref p30, .ref p31, .ref p32])), (p19, .inl (cI, 55, .inl (upd g6_p19 k x))), (p20, .inl (cI, 55, .inl (upd g6_p20 k h))), (p21, .inl (cI, 55, .inl (upd g6_p21 k a))), (p22, .inl (cI, 55, .inl (upd g6_p22 k b)))] := hD
              refine lv_aload_n hx hb dX11_ghostComes_153 rfl (lv_at hl 0 rfl) ?_
              refine lv_dup hx hb dX11_ghostComes_154 rfl ?_
              refine va_get (D := D) (ci := 11) (v := .int (nI g)) (C := RX11) (T := TX11) (N := 33) hx hb hts (by decide +kernel) hown hK hP 0 rfl rfl 18 (by decide) (hts (.fieldLink RX11 208 "FiberTraceModel" "ghostMany" "I") (by decide +kernel)) (fun _ h9 => h9) rfl dX11_ghostComes_155 ?_
              refine lv_iconst (v := 1) hx hb dX11_ghostComes_158 (by decide) ?_
              refine lv_iadd hx hb dX11_ghostComes_159 ?_
              refine ft_top (y := nI (g + 1)) (ft_addN g 1) ?_
              refine va_put (D := D) (ci := 11) (v := .int (nI (g + 1))) (ty := .int) (C := RX11) (T := TX11) (N := 33) hx hb hts (by decide +kernel) tyX11 tyX11_ok nmX11 hown hK hP hD hS 0 rfl rfl 18 (by decide) (hts (.fieldLink RX11 208 "FiberTraceModel" "ghostMany" "I") (by decide +kernel)) (fun _ h9 => h9) rfl (by decide +kernel) rfl rfl (Nat.le_of_ble_eq_true rfl) dX11_ghostComes_160 (fun H locs hP hD hS => ?_)
              have hP : va_P D vwCl [(m0, .inr (11, [.ref p0, .ref p1, .int i2, .ref p3, .int i4, .ref p5, .int i6, .int i7, .int i8, .int i9, .ref p10, .int i11, .ref p12, .ref p13, .ref p14, .int i15, .ref p16, .ref p17, .int (nI (g + 1)), .ref p19, .ref p20, .ref p21, .ref p22, .int i23, .int i24, .ref p25, .ref p26, .ref p27, .ref p28, .ref p29, .ref p30, .ref p31, .ref p32])), (p19, .inl (cI, 55, .inl (upd g6_p19 k x))), (p20, .inl (cI, 55, .inl (upd g6_p20 k h))), (p21, .inl (cI, 55, .inl (upd g6_p21 k a))), (p22, .inl (cI, 55, .inl (upd g6_p22 k b)))] H := hP
              have hD : va_D A [(m0, .inr (11, [.ref p0, .ref p1, .int i2, .ref p3, .int i4, .ref p5, .int i6, .int i7, .int i8, .int i9, .ref p10, .int i11, .ref p12, .ref p13, .ref p14, .int i15, .ref p16, .ref p17, .int (nI (g + 1)), .ref p19, .ref p20, .ref p21, .ref p22, .int i23, .int i24, .ref p25, .ref p26, .ref p27, .ref p28, .ref p29, .ref p30, .ref p31, .ref p32])), (p19, .inl (cI, 55, .inl (upd g6_p19 k x))), (p20, .inl (cI, 55, .inl (upd g6_p20 k h))), (p21, .inl (cI, 55, .inl (upd g6_p21 k a))), (p22, .inl (cI, 55, .inl (upd g6_p22 k b)))] := hD
              have hw9 : ([(m0, .inr (11, [.ref p0, .ref p1, .int i2, .ref p3, .int i4, .ref p5, .int i6, .int i7, .int i8, .int i9, .ref p10, .int i11, .ref p12, .ref p13, .ref p14, .int i15, .ref p16, .ref p17, .int (nI (g + 1)), .ref p19, .ref p20, .ref p21, .ref p22, .int i23, .int i24, .ref p25, .ref p26, .ref p27, .ref p28, .ref p29, .ref p30, .ref p31, .ref p32])), (p19, .inl (cI, 55, .inl (upd g6_p19 k x))), (p20, .inl (cI, 55, .inl (upd g6_p20 k h))), (p21, .inl (cI, 55, .inl (upd g6_p21 k a))), (p22, .inl (cI, 55, .inl (upd g6_p22 k b)))] : va_W) = [(m0, .inr (11, [.ref p0, .ref p1, .int i2, .ref p3, .int i4, .ref p5, .int i6, .int i7, .int i8, .int i9, .ref p10, .int i11, .ref p12, .ref p13, .ref p14, .int i15, .ref p16, .ref p17, .int (nI (ftGmIns (g, ga, gh, g1, g2) x h a b).1), .ref p19, .ref p20, .ref p21, .ref p22, .int i23, .int i24, .ref p25, .ref p26, .ref p27, .ref p28, .ref p29, .ref p30, .ref p31, .ref p32])), (p19, .inl (cI, 55, .inl ((ftGmIns (g, ga, gh, g1, g2) x h a b).2.1))), (p20, .inl (cI, 55, .inl ((ftGmIns (g, ga, gh, g1, g2) x h a b).2.2.1))), (p21, .inl (cI, 55, .inl ((ftGmIns (g, ga, gh, g1, g2) x h a b).2.2.2.1))), (p22, .inl (cI, 55, .inl ((ftGmIns (g, ga, gh, g1, g2) x h a b).2.2.2.2)))] := by rw [eg6_p19, eg6_p20, eg6_p21, eg6_p22, ftGmIns, hix]; rfl
              rw [hw9] at hP hD
              exact W.vret hx hb hr (fun t ht hW => ⟨⟨(), rfl, trivial, by rw [ht]; exact hP, by rw [hAe]; exact hD⟩, by rw [hAe]; exact hS.F ht⟩) hS.2.2 dX11_ghostComes_163
            · refine lv_aload_n hx hb dX11_ghostComes_50 rfl (lv_at hl 0 rfl) ?_
              refine va_get (D := D) (ci := 11) (v := .ref p19) (C := RX11) (T := TX11) (N := 33) hx hb hts (by decide +kernel) hown hK hP 0 rfl rfl 19 (by decide) (hts (.fieldLink RX11 40 "FiberTraceModel" "ghostAt" "[I") (by decide +kernel)) (fun _ h9 => h9) rfl dX11_ghostComes_51 ?_
              refine lv_iload hx hb dX11_ghostComes_54 (lv_at hl 5 rfl) ?_
              refine lv_aload_n hx hb dX11_ghostComes_56 rfl (lv_at hl 0 rfl) ?_
              refine va_get (D := D) (ci := 11) (v := .ref p19) (C := RX11) (T := TX11) (N := 33) hx hb hts (by decide +kernel) hown hK hP 0 rfl rfl 19 (by decide) (hts (.fieldLink RX11 40 "FiberTraceModel" "ghostAt" "[I") (by decide +kernel)) (fun _ h9 => h9) rfl dX11_ghostComes_57 ?_
              refine lv_iload hx hb dX11_ghostComes_60 (lv_at hl 5 rfl) ?_
              refine lv_iconst (v := 1) hx hb dX11_ghostComes_62 (by decide) ?_
              refine lv_isub hx hb dX11_ghostComes_63 ?_
              refine ft_top (y := nI (k - 1)) (ft_subN (a := k) (b := 1) (by omega)) ?_
              refine va_iald hx hb hK hP 1 0 rfl rfl (vp_in_nI (by omega) (by omega)) dX11_ghostComes_64 ?_
              refine ft_top (y := g6_p19 (k - 1)) (ft_clampN (by omega)) ?_
              refine va_iast hx hb hK hP hD hS 1 0 rfl rfl (vp_in_nI (by omega) (by omega)) dX11_ghostComes_65 (fun H locs hP hD hS => ?_)
              rw [nI_clamp (show k < 2 ^ 31 by omega)] at hP hD
              have hP : va_P D vwCl [(m0, .inr (11, [.ref p0, .ref p1, .int i2, .ref p3, .int i4, .ref p5, .int i6, .int i7, .int i8, .int i9, .ref p10, .int i11, .ref p12, .ref p13, .ref p14, .int i15, .ref p16, .ref p17, .int (nI g), .ref p19, .ref p20, .ref p21, .ref p22, .int i23, .int i24, .ref p25, .ref p26, .ref p27, .ref p28, .ref p29, .ref p30, .ref p31, .ref p32])), (p19, .inl (cI, 55, .inl (upd g6_p19 k (g6_p19 (k - 1))))), (p20, .inl (cI, 55, .inl g6_p20)), (p21, .inl (cI, 55, .inl g6_p21)), (p22, .inl (cI, 55, .inl g6_p22))] H := hP
              have hD : va_D A [(m0, .inr (11, [.ref p0, .ref p1, .int i2, .ref p3, .int i4, .ref p5, .int i6, .int i7, .int i8, .int i9, .ref p10, .int i11, .ref p12, .ref p13, .ref p14, .int i15, .ref p16, .ref p17, .int (nI g), .ref p19, .ref p20, .ref p21, .ref p22, .int i23, .int i24, .ref p25, .ref p26, .ref p27, .ref p28, .ref p29, .ref p30, .ref p31, .ref p32])), (p19, .inl (cI, 55, .inl (upd g6_p19 k (g6_p19 (k - 1))))), (p20, .inl (cI, 55, .inl g6_p20)), (p21, .inl (cI, 55, .inl g6_p21)), (p22, .inl (cI, 55, .inl g6_p22))] := hD
              refine lv_aload_n hx hb dX11_ghostComes_66 rfl (lv_at hl 0 rfl) ?_
              refine va_get (D := D) (ci := 11) (v := .ref p20) (C := RX11) (T := TX11) (N := 33) hx hb hts (by decide +kernel) hown hK hP 0 rfl rfl 20 (by decide) (hts (.fieldLink RX11 43 "FiberTraceModel" "ghostHigh" "[I") (by decide +kernel)) (fun _ h9 => h9) rfl dX11_ghostComes_67 ?_
              refine lv_iload hx hb dX11_ghostComes_70 (lv_at hl 5 rfl) ?_
              refine lv_aload_n hx hb dX11_ghostComes_72 rfl (lv_at hl 0 rfl) ?_
              refine va_get (D := D) (ci := 11) (v := .ref p20) (C := RX11) (T := TX11) (N := 33) hx hb hts (by decide +kernel) hown hK hP 0 rfl rfl 20 (by decide) (hts (.fieldLink RX11 43 "FiberTraceModel" "ghostHigh" "[I") (by decide +kernel)) (fun _ h9 => h9) rfl dX11_ghostComes_73 ?_
              refine lv_iload hx hb dX11_ghostComes_76 (lv_at hl 5 rfl) ?_
              refine lv_iconst (v := 1) hx hb dX11_ghostComes_78 (by decide) ?_
              refine lv_isub hx hb dX11_ghostComes_79 ?_
              refine ft_top (y := nI (k - 1)) (ft_subN (a := k) (b := 1) (by omega)) ?_
              refine va_iald hx hb hK hP 2 0 rfl rfl (vp_in_nI (by omega) (by omega)) dX11_ghostComes_80 ?_
              refine ft_top (y := g6_p20 (k - 1)) (ft_clampN (by omega)) ?_
              refine va_iast hx hb hK hP hD hS 2 0 rfl rfl (vp_in_nI (by omega) (by omega)) dX11_ghostComes_81 (fun H locs hP hD hS => ?_)
              rw [nI_clamp (show k < 2 ^ 31 by omega)] at hP hD
              have hP : va_P D vwCl [(m0, .inr (11, [.ref p0, .ref p1, .int i2, .ref p3, .int i4, .ref p5, .int i6, .int i7, .int i8, .int i9, .ref p10, .int i11, .ref p12, .ref p13, .ref p14, .int i15, .ref p16, .ref p17, .int (nI g), .ref p19, .ref p20, .ref p21, .ref p22, .int i23, .int i24, .ref p25, .ref p26, .ref p27, .ref p28, .ref p29, .ref p30, .ref p31, .ref p32])), (p19, .inl (cI, 55, .inl (upd g6_p19 k (g6_p19 (k - 1))))), (p20, .inl (cI, 55, .inl (upd g6_p20 k (g6_p20 (k - 1))))), (p21, .inl (cI, 55, .inl g6_p21)), (p22, .inl (cI, 55, .inl g6_p22))] H := hP
              have hD : va_D A [(m0, .inr (11, [.ref p0, .ref p1, .int i2, .ref p3, .int i4, .ref p5, .int i6, .int i7, .int i8, .int i9, .ref p10, .int i11, .ref p12, .ref p13, .ref p14, .int i15, .ref p16, .ref p17, .int (nI g), .ref p19, .ref p20, .ref p21, .ref p22, .int i23, .int i24, .ref p25, .ref p26, .ref p27, .ref p28, .ref p29, .ref p30, .ref p31, .ref p32])), (p19, .inl (cI, 55, .inl (upd g6_p19 k (g6_p19 (k - 1))))), (p20, .inl (cI, 55, .inl (upd g6_p20 k (g6_p20 (k - 1))))), (p21, .inl (cI, 55, .inl g6_p21)), (p22, .inl (cI, 55, .inl g6_p22))] := hD
              refine lv_aload_n hx hb dX11_ghostComes_82 rfl (lv_at hl 0 rfl) ?_
              refine va_get (D := D) (ci := 11) (v := .ref p21) (C := RX11) (T := TX11) (N := 33) hx hb hts (by decide +kernel) hown hK hP 0 rfl rfl 21 (by decide) (hts (.fieldLink RX11 46 "FiberTraceModel" "ghostOne" "[I") (by decide +kernel)) (fun _ h9 => h9) rfl dX11_ghostComes_83 ?_
              refine lv_iload hx hb dX11_ghostComes_86 (lv_at hl 5 rfl) ?_
              refine lv_aload_n hx hb dX11_ghostComes_88 rfl (lv_at hl 0 rfl) ?_
              refine va_get (D := D) (ci := 11) (v := .ref p21) (C := RX11) (T := TX11) (N := 33) hx hb hts (by decide +kernel) hown hK hP 0 rfl rfl 21 (by decide) (hts (.fieldLink RX11 46 "FiberTraceModel" "ghostOne" "[I") (by decide +kernel)) (fun _ h9 => h9) rfl dX11_ghostComes_89 ?_
              refine lv_iload hx hb dX11_ghostComes_92 (lv_at hl 5 rfl) ?_
              refine lv_iconst (v := 1) hx hb dX11_ghostComes_94 (by decide) ?_
              refine lv_isub hx hb dX11_ghostComes_95 ?_
              refine ft_top (y := nI (k - 1)) (ft_subN (a := k) (b := 1) (by omega)) ?_
              refine va_iald hx hb hK hP 3 0 rfl rfl (vp_in_nI (by omega) (by omega)) dX11_ghostComes_96 ?_
              refine ft_top (y := g6_p21 (k - 1)) (ft_clampN (by omega)) ?_
              refine va_iast hx hb hK hP hD hS 3 0 rfl rfl (vp_in_nI (by omega) (by omega)) dX11_ghostComes_97 (fun H locs hP hD hS => ?_)
              rw [nI_clamp (show k < 2 ^ 31 by omega)] at hP hD
              have hP : va_P D vwCl [(m0, .inr (11, [.ref p0, .ref p1, .int i2, .ref p3, .int i4, .ref p5, .int i6, .int i7, .int i8, .int i9, .ref p10, .int i11, .ref p12, .ref p13, .ref p14, .int i15, .ref p16, .ref p17, .int (nI g), .ref p19, .ref p20, .ref p21, .ref p22, .int i23, .int i24, .ref p25, .ref p26, .ref p27, .ref p28, .ref p29, .ref p30, .ref p31, .ref p32])), (p19, .inl (cI, 55, .inl (upd g6_p19 k (g6_p19 (k - 1))))), (p20, .inl (cI, 55, .inl (upd g6_p20 k (g6_p20 (k - 1))))), (p21, .inl (cI, 55, .inl (upd g6_p21 k (g6_p21 (k - 1))))), (p22, .inl (cI, 55, .inl g6_p22))] H := hP
              have hD : va_D A [(m0, .inr (11, [.ref p0, .ref p1, .int i2, .ref p3, .int i4, .ref p5, .int i6, .int i7, .int i8, .int i9, .ref p10, .int i11, .ref p12, .ref p13, .ref p14, .int i15, .ref p16, .ref p17, .int (nI g), .ref p19, .ref p20, .ref p21, .ref p22, .int i23, .int i24, .ref p25, .ref p26, .ref p27, .ref p28, .ref p29, .ref p30, .ref p31, .ref p32])), (p19, .inl (cI, 55, .inl (upd g6_p19 k (g6_p19 (k - 1))))), (p20, .inl (cI, 55, .inl (upd g6_p20 k (g6_p20 (k - 1))))), (p21, .inl (cI, 55, .inl (upd g6_p21 k (g6_p21 (k - 1))))), (p22, .inl (cI, 55, .inl g6_p22))] := hD
              refine lv_aload_n hx hb dX11_ghostComes_98 rfl (lv_at hl 0 rfl) ?_
              refine va_get (D := D) (ci := 11) (v := .ref p22) (C := RX11) (T := TX11) (N := 33) hx hb hts (by decide +kernel) hown hK hP 0 rfl rfl 22 (by decide) (hts (.fieldLink RX11 49 "FiberTraceModel" "ghostTwo" "[I") (by decide +kernel)) (fun _ h9 => h9) rfl dX11_ghostComes_99 ?_
              refine lv_iload hx hb dX11_ghostComes_102 (lv_at hl 5 rfl) ?_
              refine lv_aload_n hx hb dX11_ghostComes_104 rfl (lv_at hl 0 rfl) ?_
              refine va_get (D := D) (ci := 11) (v := .ref p22) (C := RX11) (T := TX11) (N := 33) hx hb hts (by decide +kernel) hown hK hP 0 rfl rfl 22 (by decide) (hts (.fieldLink RX11 49 "FiberTraceModel" "ghostTwo" "[I") (by decide +kernel)) (fun _ h9 => h9) rfl dX11_ghostComes_105 ?_
              refine lv_iload hx hb dX11_ghostComes_108 (lv_at hl 5 rfl) ?_
              refine lv_iconst (v := 1) hx hb dX11_ghostComes_110 (by decide) ?_
              refine lv_isub hx hb dX11_ghostComes_111 ?_
              refine ft_top (y := nI (k - 1)) (ft_subN (a := k) (b := 1) (by omega)) ?_
              refine va_iald hx hb hK hP 4 0 rfl rfl (vp_in_nI (by omega) (by omega)) dX11_ghostComes_112 ?_
              refine ft_top (y := g6_p22 (k - 1)) (ft_clampN (by omega)) ?_
              refine va_iast hx hb hK hP hD hS 4 0 rfl rfl (vp_in_nI (by omega) (by omega)) dX11_ghostComes_113 (fun H locs hP hD hS => ?_)
              rw [nI_clamp (show k < 2 ^ 31 by omega)] at hP hD
              have hP : va_P D vwCl [(m0, .inr (11, [.ref p0, .ref p1, .int i2, .ref p3, .int i4, .ref p5, .int i6, .int i7, .int i8, .int i9, .ref p10, .int i11, .ref p12, .ref p13, .ref p14, .int i15, .ref p16, .ref p17, .int (nI g), .ref p19, .ref p20, .ref p21, .ref p22, .int i23, .int i24, .ref p25, .ref p26, .ref p27, .ref p28, .ref p29, .ref p30, .ref p31, .ref p32])), (p19, .inl (cI, 55, .inl (upd g6_p19 k (g6_p19 (k - 1))))), (p20, .inl (cI, 55, .inl (upd g6_p20 k (g6_p20 (k - 1))))), (p21, .inl (cI, 55, .inl (upd g6_p21 k (g6_p21 (k - 1))))), (p22, .inl (cI, 55, .inl (upd g6_p22 k (g6_p22 (k - 1)))))] H := hP
              have hD : va_D A [(m0, .inr (11, [.ref p0, .ref p1, .int i2, .ref p3, .int i4, .ref p5, .int i6, .int i7, .int i8, .int i9, .ref p10, .int i11, .ref p12, .ref p13, .ref p14, .int i15, .ref p16, .ref p17, .int (nI g), .ref p19, .ref p20, .ref p21, .ref p22, .int i23, .int i24, .ref p25, .ref p26, .ref p27, .ref p28, .ref p29, .ref p30, .ref p31, .ref p32])), (p19, .inl (cI, 55, .inl (upd g6_p19 k (g6_p19 (k - 1))))), (p20, .inl (cI, 55, .inl (upd g6_p20 k (g6_p20 (k - 1))))), (p21, .inl (cI, 55, .inl (upd g6_p21 k (g6_p21 (k - 1))))), (p22, .inl (cI, 55, .inl (upd g6_p22 k (g6_p22 (k - 1)))))] := hD
              refine lv_iinc (v := nI (k - 1)) (lv' := [(5, .int (nI (k - 1))), (0, .ref m0), (1, .int x), (2, .int h), (3, .int a), (4, .int b)]) hx hb dX11_ghostComes_114 hl (k := 5) rfl (ft_dec (by omega)) (by decide) rfl (fun ls hl => ?_)
              refine lv_goto (tgt := 6) hx hb dX11_ghostComes_117 (by decide) ?_
              exact ih6 (k - 1) (nI (k - 1)) (upd g6_p19 k (g6_p19 (k - 1))) (upd g6_p20 k (g6_p20 (k - 1))) (upd g6_p21 k (g6_p21 (k - 1))) (upd g6_p22 k (g6_p22 (k - 1))) (by omega) (by omega) (by rw [hd]; first | exact ftDownM_gt hk1 (Or.inl (by rw [← hga]; exact c21)) | exact ftDownM_gt hk1 (Or.inr ⟨by rw [← hga]; exact c34, by rw [← hg1]; exact Int32.not_le.mp c47⟩)) (by first | rfl | assumption) (by rw [eg6_p19]; exact ftInsG_s hk1 hkg) (by rw [eg6_p20]; exact ftInsG_s hk1 hkg) (by rw [eg6_p21]; exact ftInsG_s hk1 hkg) (by rw [eg6_p22]; exact ftInsG_s hk1 hkg) _ _ hP hD hS ls (lv_sub hl [1, 2, 3, 4, 5, 0] rfl)
  exact lp6 _ g (nI g) ga gh g1 g2 (Nat.lt_succ_self _) (by omega) (by rfl) (by rfl) (by exact ftInsG_0 _ _) (by exact ftInsG_0 _ _) (by exact ftInsG_0 _ _) (by exact ftInsG_0 _ _) _ _ hP hD hS ls (lv_sub hl [1, 2, 3, 4, 5, 0] rfl)
end
section
theorem ftNx_0 {a z : Int32} {pu : Nat} (h : a = 0) : ftNx a z pu = 0 := if_pos h
theorem ftNz_0 {a z : Int32} {pu : Nat} (h : a = 0) : ftNz a z pu = z := if_pos h
theorem ftNz_p {a z : Int32} {pu : Nat} (h : ¬ a = 0) : ftNz a z pu = (ftDraw a z pu).1 := if_neg h
theorem ftNx_p {a z : Int32} {pu : Nat} (h : ¬ a = 0) (hp : 0 < pu) (hp2 : pu < 2 ^ 31) : ftNx a z pu = (ftDraw a z pu).2 / nI pu := by
  unfold ftNx ftQuot
  rw [if_neg h, if_neg (nI_ne0 hp hp2)]
theorem ft_div0 (x : Int32) : (0 : Int32) / x = 0 := Int32.zero_div
theorem ft_ne0_of_pos {a : Int32} (h : 0 < a) : ¬ a = 0 := fun q => by rw [q] at h; exact absurd h (by decide)
set_option maxHeartbeats 4000000 in
set_option maxRecDepth 100000 in
theorem c_X11_layNoise (l : Launch) (D : va_G) (cI cS : ClassId) (sz : Nat) (m0 p0 p1 p3 p5 p10 p12 p13 p14 p16 p17 p19 p20 p21 p22 p25 p26 p27 p28 p29 p30 p31 p32 : Nat) (i2 i4 i6 i7 i8 i9 i11 i15 i18 i23 i24 : Int32) (w fn : Nat → Int32) (ln pu : Nat) (hw0 : w 0 = nI ln) (hln : ln ≤ 400) (hpu : w (44 + 4) = nI pu) (hpu0 : 0 < pu) (hpu2 : pu < 2 ^ 31) (hA0 : 0 ≤ w (44 + 3)) (h2a : ¬ 2 * w (44 + 3) + 1 = 0) : Met l yX11_layNoise wsX11_layNoise ({ frames := 1, cells := 0, slots := 0, locals := 21 }) (ftRW D cI cS [.ref m0] [(m0, .inr (11, [.ref p0, .ref p1, .int i2, .ref p3, .int i4, .ref p5, .int i6, .int i7, .int i8, .int i9, .ref p10, .int i11, .ref p12, .ref p13, .ref p14, .int i15, .ref p16, .ref p17, .int i18, .ref p19, .ref p20, .ref p21, .ref p22, .int i23, .int i24, .ref p25, .ref p26, .ref p27, .ref p28, .ref p29, .ref p30, .ref p31, .ref p32])), (p0, .inl (cI, 1439, .inl w)), (p14, .inl (cI, 460, .inl fn))] sz) (ftQv D [(m0, .inr (11, [.ref p0, .ref p1, .int i2, .ref p3, .int i4, .ref p5, .int i6, .int i7, .int i8, .int i9, .ref p10, .int i11, .ref p12, .ref p13, .ref p14, .int i15, .ref p16, .ref p17, .int i18, .ref p19, .ref p20, .ref p21, .ref p22, .int i23, .int i24, .ref p25, .ref p26, .ref p27, .ref p28, .ref p29, .ref p30, .ref p31, .ref p32])), (p0, .inl (cI, 1439, .inl w)), (p14, .inl (cI, 460, .inl fn))] [(m0, .inr (11, [.ref p0, .ref p1, .int i2, .ref p3, .int i4, .ref p5, .int i6, .int i7, .int i8, .int i9, .ref p10, .int i11, .ref p12, .ref p13, .ref p14, .int i15, .ref p16, .ref p17, .int i18, .ref p19, .ref p20, .ref p21, .ref p22, .int i23, .int i24, .ref p25, .ref p26, .ref p27, .ref p28, .ref p29, .ref p30, .ref p31, .ref p32])), (p0, .inl (cI, 1439, .inl w)), (p14, .inl (cI, 460, .inl (ftFill (ftNoise (w (44 + 3)) (w (44 + 5)) pu) fn (ln + 60))))] sz) 0 0 (va_A [(m0, .inr (11, [.ref p0, .ref p1, .int i2, .ref p3, .int i4, .ref p5, .int i6, .int i7, .int i8, .int i9, .ref p10, .int i11, .ref p12, .ref p13, .ref p14, .int i15, .ref p16, .ref p17, .int i18, .ref p19, .ref p20, .ref p21, .ref p22, .int i23, .int i24, .ref p25, .ref p26, .ref p27, .ref p28, .ref p29, .ref p30, .ref p31, .ref p32])), (p0, .inl (cI, 1439, .inl w)), (p14, .inl (cI, 460, .inl fn))] sz) := by
  refine Met.ofW (cc := cX11_layNoise) (maxL := 6) (ret := none) (by decide) rfl ?_
  intro p e s m args below meth c s₁ B hml hv
  obtain ⟨rfl, hsz, hP, hKK, hD0⟩ := hv
  have hK := hKK.1
  have hx := B.exec
  have hb := B.bytes
  have hr := B.returns
  have hts := atoms_spec (ws := wsX11_layNoise) B.pre
  have hown : s.vm.findClass RX11 = some m.cls := findClass_of_methodNamed B.named
  have hlocks := B.notSynchronized
  subst hsz
  have hD := hD0.self (sz := s.heap.size)
  generalize hAe : va_A [(m0, .inr (11, [.ref p0, .ref p1, .int i2, .ref p3, .int i4, .ref p5, .int i6, .int i7, .int i8, .int i9, .ref p10, .int i11, .ref p12, .ref p13, .ref p14, .int i15, .ref p16, .ref p17, .int i18, .ref p19, .ref p20, .ref p21, .ref p22, .int i23, .int i24, .ref p25, .ref p26, .ref p27, .ref p28, .ref p29, .ref p30, .ref p31, .ref p32])), (p0, .inl (cI, 1439, .inl w)), (p14, .inl (cI, 460, .inl fn))] s.heap.size = A at hD ⊢
  have hA : ∀ q : Nat, s.heap.size ≤ q → A q := fun q h => by rw [← hAe]; exact Or.inr h
  have hS : va_S A s.heap s.heap [] := va_S.rf
  have hD : va_D A [(m0, .inr (11, [.ref p0, .ref p1, .int i2, .ref p3, .int i4, .ref p5, .int i6, .int i7, .int i8, .int i9, .ref p10, .int i11, .ref p12, .ref p13, .ref p14, .int i15, .ref p16, .ref p17, .int i18, .ref p19, .ref p20, .ref p21, .ref p22, .int i23, .int i24, .ref p25, .ref p26, .ref p27, .ref p28, .ref p29, .ref p30, .ref p31, .ref p32])), (p0, .inl (cI, 1439, .inl w)), (p14, .inl (cI, 460, .inl fn))] := hD
  have hP : va_P D vwCl [(m0, .inr (11, [.ref p0, .ref p1, .int i2, .ref p3, .int i4, .ref p5, .int i6, .int i7, .int i8, .int i9, .ref p10, .int i11, .ref p12, .ref p13, .ref p14, .int i15, .ref p16, .ref p17, .int i18, .ref p19, .ref p20, .ref p21, .ref p22, .int i23, .int i24, .ref p25, .ref p26, .ref p27, .ref p28, .ref p29, .ref p30, .ref p31, .ref p32])), (p0, .inl (cI, 1439, .inl w)), (p14, .inl (cI, 460, .inl fn))] s.heap := hP
  have hl := lv_entry ([.ref m0]) (n := 6) (Nat.le_of_ble_eq_true rfl)
  rw [lg_entry_eq]
  generalize (lg_sl ([.ref m0]) ++ List.replicate (6 - (lg_sl ([.ref m0])).length) Slot.unset).toArray = ls at hl ⊢
  have hl : lv_has ls 6 [(0, .ref m0)] := hl
  have hmod : ∀ y, ftMod y (2 * w (44 + 3) + 1) = ftRemI y (2 * w (44 + 3) + 1) := fun y => if_neg h2a
  refine lv_aload_n hx hb dX11_layNoise_0 rfl (lv_at hl 0 rfl) ?_
  refine lv_iconst (v := 5) hx hb dX11_layNoise_1 (by decide) ?_
  refine ft_csi (r := w (44 + 5)) (va_runV (C := RX11) (As := [.int 5]) (rest := []) ⟨hx, hb, hml, hown, hts⟩ (c_X11_setting l D cI cS m0 p0 p1 p3 p5 p10 p12 p13 p14 p16 p17 p19 p20 p21 p22 p25 p26 p27 p28 p29 p30 p31 p32 i2 i4 i6 i7 i8 i9 i11 i15 i18 i23 i24 w 5 (by first | assumption | omega)) (cwV 1 hts gX11_layNoise_X11_setting rfl rfl rfl (by decide +kernel) ⟨Nat.le_of_ble_eq_true rfl, Nat.le_of_ble_eq_true rfl⟩) (ft_preROV (ci := 11) (q0 := 0) hP hKK [0, 1] rfl rfl rfl) rfl rfl hl.1 rfl (lv_room (Nat.le_of_ble_eq_true rfl)) dX11_layNoise_2 ⟨Nat.le_of_ble_eq_true rfl, Nat.le_of_ble_eq_true rfl⟩) ?_
  refine lv_istore_n (lv' := [(1, .int (w (44 + 5))), (0, .ref m0)]) hx hb dX11_layNoise_5 rfl hl (by decide) rfl (fun ls hl => ?_)
  refine lv_aload_n hx hb dX11_layNoise_6 rfl (lv_at hl 1 rfl) ?_
  refine lv_iconst (v := 3) hx hb dX11_layNoise_7 (by decide) ?_
  refine ft_csi (r := w (44 + 3)) (va_runV (C := RX11) (As := [.int 3]) (rest := []) ⟨hx, hb, hml, hown, hts⟩ (c_X11_setting l D cI cS m0 p0 p1 p3 p5 p10 p12 p13 p14 p16 p17 p19 p20 p21 p22 p25 p26 p27 p28 p29 p30 p31 p32 i2 i4 i6 i7 i8 i9 i11 i15 i18 i23 i24 w 3 (by first | assumption | omega)) (cwV 1 hts gX11_layNoise_X11_setting rfl rfl rfl (by decide +kernel) ⟨Nat.le_of_ble_eq_true rfl, Nat.le_of_ble_eq_true rfl⟩) (ft_preROV (ci := 11) (q0 := 0) hP hKK [0, 1] rfl rfl rfl) rfl rfl hl.1 rfl (lv_room (Nat.le_of_ble_eq_true rfl)) dX11_layNoise_8 ⟨Nat.le_of_ble_eq_true rfl, Nat.le_of_ble_eq_true rfl⟩) ?_
  refine lv_istore_n (lv' := [(2, .int (w (44 + 3))), (1, .int (w (44 + 5))), (0, .ref m0)]) hx hb dX11_layNoise_11 rfl hl (by decide) rfl (fun ls hl => ?_)
  refine lv_iconst (v := 0) hx hb dX11_layNoise_12 (by decide) ?_
  refine lv_istore_n (lv' := [(3, .int 0), (2, .int (w (44 + 3))), (1, .int (w (44 + 5))), (0, .ref m0)]) hx hb dX11_layNoise_13 rfl hl (by decide) rfl (fun ls hl => ?_)
  have lp14 : ∀ (n14 : Nat) (x : Nat) (x14_1 : Int32) (x14_3 : Int32) (g14_p14 : Nat → Int32), ln + 60 - x < n14 → (x ≤ ln + 60) → x14_1 = ftNzs (w (44 + 3)) (w (44 + 5)) pu x → x14_3 = nI x → g14_p14 = ftFill (ftNoise (w (44 + 3)) (w (44 + 5)) pu) fn x → ∀ (H : Heap) (locs : List Loc), va_P D vwCl [(m0, .inr (11, [.ref p0, .ref p1, .int i2, .ref p3, .int i4, .ref p5, .int i6, .int i7, .int i8, .int i9, .ref p10, .int i11, .ref p12, .ref p13, .ref p14, .int i15, .ref p16, .ref p17, .int i18, .ref p19, .ref p20, .ref p21, .ref p22, .int i23, .int i24, .ref p25, .ref p26, .ref p27, .ref p28, .ref p29, .ref p30, .ref p31, .ref p32])), (p0, .inl (cI, 1439, .inl w)), (p14, .inl (cI, 460, .inl g14_p14))] H → va_D A [(m0, .inr (11, [.ref p0, .ref p1, .int i2, .ref p3, .int i4, .ref p5, .int i6, .int i7, .int i8, .int i9, .ref p10, .int i11, .ref p12, .ref p13, .ref p14, .int i15, .ref p16, .ref p17, .int i18, .ref p19, .ref p20, .ref p21, .ref p22, .int i23, .int i24, .ref p25, .ref p26, .ref p27, .ref p28, .ref p29, .ref p30, .ref p31, .ref p32])), (p0, .inl (cI, 1439, .inl w)), (p14, .inl (cI, 460, .inl g14_p14))] → va_S A s.heap H locs → ∀ ls : Array Slot, lv_has ls 6 [(0, .ref m0), (1, .int x14_1), (2, .int (w (44 + 3))), (3, .int x14_3)] → W p l e (headSpec wsX11_layNoise { frames := 1, cells := 0, slots := 0, locals := 21 }).room s m ([.ref m0] : List Value).toArray below meth c H locs 0 0 (MQ below (ftQv D [(m0, .inr (11, [.ref p0, .ref p1, .int i2, .ref p3, .int i4, .ref p5, .int i6, .int i7, .int i8, .int i9, .ref p10, .int i11, .ref p12, .ref p13, .ref p14, .int i15, .ref p16, .ref p17, .int i18, .ref p19, .ref p20, .ref p21, .ref p22, .int i23, .int i24, .ref p25, .ref p26, .ref p27, .ref p28, .ref p29, .ref p30, .ref p31, .ref p32])), (p0, .inl (cI, 1439, .inl w)), (p14, .inl (cI, 460, .inl fn))] [(m0, .inr (11, [.ref p0, .ref p1, .int i2, .ref p3, .int i4, .ref p5, .int i6, .int i7, .int i8, .int i9, .ref p10, .int i11, .ref p12, .ref p13, .ref p14, .int i15, .ref p16, .ref p17, .int i18, .ref p19, .ref p20, .ref p21, .ref p22, .int i23, .int i24, .ref p25, .ref p26, .ref p27, .ref p28, .ref p29, .ref p30, .ref p31, .ref p32])), (p0, .inl (cI, 1439, .inl w)), (p14, .inl (cI, 460, .inl (ftFill (ftNoise (w (44 + 3)) (w (44 + 5)) pu) fn (ln + 60))))] s.heap.size) ([.ref m0] : List Value).toArray s 0 0 A) (F0 m 14 ls []) := by
    intro n14
    induction n14 with
    | zero =>
      intro x x14_1 x14_3 g14_p14 hm14
      exact absurd hm14 (Nat.not_lt_zero _)
    | succ n14 ih14 =>
      intro x x14_1 x14_3 g14_p14 hm14 hx0 ex14_1 ex14_3 eg14_p14 H locs hP hD hS ls hl
      subst ex14_3
      refine lv_iload_n hx hb dX11_layNoise_14 rfl (lv_at hl 3 rfl) ?_
      refine lv_aload_n hx hb dX11_layNoise_15 rfl (lv_at hl 0 rfl) ?_
      refine ft_csi (r := nI (ln + 60)) (va_runV (C := RX11) (As := []) (rest := [.int (nI x)]) ⟨hx, hb, hml, hown, hts⟩ (c_X11_samples l D cI cS m0 p0 p1 p3 p5 p10 p12 p13 p14 p16 p17 p19 p20 p21 p22 p25 p26 p27 p28 p29 p30 p31 p32 i2 i4 i6 i7 i8 i9 i11 i15 i18 i23 i24 w ln hw0) (cwV 0 hts gX11_layNoise_X11_samples rfl rfl rfl (by decide +kernel) ⟨Nat.le_of_ble_eq_true rfl, Nat.le_of_ble_eq_true rfl⟩) (ft_preROV (ci := 11) (q0 := 0) hP hKK [0, 1] rfl rfl rfl) rfl rfl hl.1 rfl (lv_room (Nat.le_of_ble_eq_true rfl)) dX11_layNoise_16 ⟨Nat.le_of_ble_eq_true rfl, Nat.le_of_ble_eq_true rfl⟩) ?_
      refine lv_icmp_ge (tgt := 93) hx hb dX11_layNoise_19 (by decide) (fun c19 => ?_) (fun c19 => ?_)
      · have c19n : (ln + 60) ≤ x := ft_leN (by omega) (by omega) c19
        have hw9 : ([(m0, .inr (11, [.ref p0, .ref p1, .int i2, .ref p3, .int i4, .ref p5, .int i6, .int i7, .int i8, .int i9, .ref p10, .int i11, .ref p12, .ref p13, .ref p14, .int i15, .ref p16, .ref p17, .int i18, .ref p19, .ref p20, .ref p21, .ref p22, .int i23, .int i24, .ref p25, .ref p26, .ref p27, .ref p28, .ref p29, .ref p30, .ref p31, .ref p32])), (p0, .inl (cI, 1439, .inl w)), (p14, .inl (cI, 460, .inl g14_p14))] : va_W) = [(m0, .inr (11, [.ref p0, .ref p1, .int i2, .ref p3, .int i4, .ref p5, .int i6, .int i7, .int i8, .int i9, .ref p10, .int i11, .ref p12, .ref p13, .ref p14, .int i15, .ref p16, .ref p17, .int i18, .ref p19, .ref p20, .ref p21, .ref p22, .int i23, .int i24, .ref p25, .ref p26, .ref p27, .ref p28, .ref p29, .ref p30, .ref p31, .ref p32])), (p0, .inl (cI, 1439, .inl w)), (p14, .inl (cI, 460, .inl (ftFill (ftNoise (w (44 + 3)) (w (44 + 5)) pu) fn (ln + 60))))] := by (have hx9 : x = ln + 60 := by omega); rw [eg14_p14, hx9]
        rw [hw9] at hP hD
        exact W.vret hx hb hr (fun t ht hW => ⟨⟨(), rfl, trivial, by rw [ht]; exact hP, by rw [hAe]; exact hD⟩, by rw [hAe]; exact hS.F ht⟩) hS.2.2 dX11_layNoise_93
      · have c19n : x < (ln + 60) := ft_nleN (by omega) (by omega) c19
        refine lv_iconst (v := 0) hx hb dX11_layNoise_22 (by decide) ?_
        refine lv_istore (lv' := [(4, .int 0), (0, .ref m0), (1, .int x14_1), (2, .int (w (44 + 3))), (3, .int (nI x))]) hx hb dX11_layNoise_23 hl (by decide) rfl (fun ls hl => ?_)
        refine lv_iconst (v := 0) hx hb dX11_layNoise_25 (by decide) ?_
        refine lv_istore (lv' := [(5, .int 0), (4, .int 0), (0, .ref m0), (1, .int x14_1), (2, .int (w (44 + 3))), (3, .int (nI x))]) hx hb dX11_layNoise_26 hl (by decide) rfl (fun ls hl => ?_)
        have lp28 : ∀ (n28 : Nat) (k : Nat) (x28_1 : Int32) (x28_4 : Int32) (x28_5 : Int32), pu - k < n28 → (k ≤ pu) → (k = 0 ∨ 0 < w (44 + 3)) → x28_1 = (ftDraw (w (44 + 3)) (ftNzs (w (44 + 3)) (w (44 + 5)) pu x) k).1 → x28_4 = (ftDraw (w (44 + 3)) (ftNzs (w (44 + 3)) (w (44 + 5)) pu x) k).2 → x28_5 = nI k → ∀ (H : Heap) (locs : List Loc), va_P D vwCl [(m0, .inr (11, [.ref p0, .ref p1, .int i2, .ref p3, .int i4, .ref p5, .int i6, .int i7, .int i8, .int i9, .ref p10, .int i11, .ref p12, .ref p13, .ref p14, .int i15, .ref p16, .ref p17, .int i18, .ref p19, .ref p20, .ref p21, .ref p22, .int i23, .int i24, .ref p25, .ref p26, .ref p27, .ref p28, .ref p29, .ref p30, .ref p31, .ref p32])), (p0, .inl (cI, 1439, .inl w)), (p14, .inl (cI, 460, .inl g14_p14))] H → va_D A [(m0, .inr (11, [.ref p0, .ref p1, .int i2, .ref p3, .int i4, .ref p5, .int i6, .int i7, .int i8, .int i9, .ref p10, .int i11, .ref p12, .ref p13, .ref p14, .int i15, .ref p16, .ref p17, .int i18, .ref p19, .ref p20, .ref p21, .ref p22, .int i23, .int i24, .ref p25, .ref p26, .ref p27, .ref p28, .ref p29, .ref p30, .ref p31, .ref p32])), (p0, .inl (cI, 1439, .inl w)), (p14, .inl (cI, 460, .inl g14_p14))] → va_S A s.heap H locs → ∀ ls : Array Slot, lv_has ls 6 [(0, .ref m0), (1, .int x28_1), (2, .int (w (44 + 3))), (3, .int (nI x)), (4, .int x28_4), (5, .int x28_5)] → W p l e (headSpec wsX11_layNoise { frames := 1, cells := 0, slots := 0, locals := 21 }).room s m ([.ref m0] : List Value).toArray below meth c H locs 0 0 (MQ below (ftQv D [(m0, .inr (11, [.ref p0, .ref p1, .int i2, .ref p3, .int i4, .ref p5, .int i6, .int i7, .int i8, .int i9, .ref p10, .int i11, .ref p12, .ref p13, .ref p14, .int i15, .ref p16, .ref p17, .int i18, .ref p19, .ref p20, .ref p21, .ref p22, .int i23, .int i24, .ref p25, .ref p26, .ref p27, .ref p28, .ref p29, .ref p30, .ref p31, .ref p32])), (p0, .inl (cI, 1439, .inl w)), (p14, .inl (cI, 460, .inl fn))] [(m0, .inr (11, [.ref p0, .ref p1, .int i2, .ref p3, .int i4, .ref p5, .int i6, .int i7, .int i8, .int i9, .ref p10, .int i11, .ref p12, .ref p13, .ref p14, .int i15, .ref p16, .ref p17, .int i18, .ref p19, .ref p20, .ref p21, .ref p22, .int i23, .int i24, .ref p25, .ref p26, .ref p27, .ref p28, .ref p29, .ref p30, .ref p31, .ref p32])), (p0, .inl (cI, 1439, .inl w)), (p14, .inl (cI, 460, .inl (ftFill (ftNoise (w (44 + 3)) (w (44 + 5)) pu) fn (ln + 60))))] s.heap.size) ([.ref m0] : List Value).toArray s 0 0 A) (F0 m 28 ls []) := by
          intro n28
          induction n28 with
          | zero =>
            intro k x28_1 x28_4 x28_5  hm28
            exact absurd hm28 (Nat.not_lt_zero _)
          | succ n28 ih28 =>
            intro k x28_1 x28_4 x28_5  hm28 hk hka ex28_1 ex28_4 ex28_5  H locs hP hD hS ls hl
            subst ex28_5
            refine lv_iload hx hb dX11_layNoise_28 (lv_at hl 5 rfl) ?_
            refine lv_aload_n hx hb dX11_layNoise_30 rfl (lv_at hl 0 rfl) ?_
            refine lv_iconst (v := 4) hx hb dX11_layNoise_31 (by decide) ?_
            refine ft_csi (r := w (44 + 4)) (va_runV (C := RX11) (As := [.int 4]) (rest := [.int (nI k)]) ⟨hx, hb, hml, hown, hts⟩ (c_X11_setting l D cI cS m0 p0 p1 p3 p5 p10 p12 p13 p14 p16 p17 p19 p20 p21 p22 p25 p26 p27 p28 p29 p30 p31 p32 i2 i4 i6 i7 i8 i9 i11 i15 i18 i23 i24 w 4 (by first | assumption | omega)) (cwV 1 hts gX11_layNoise_X11_setting rfl rfl rfl (by decide +kernel) ⟨Nat.le_of_ble_eq_true rfl, Nat.le_of_ble_eq_true rfl⟩) (ft_preROV (ci := 11) (q0 := 0) hP hKK [0, 1] rfl rfl rfl) rfl rfl hl.1 rfl (lv_room (Nat.le_of_ble_eq_true rfl)) dX11_layNoise_32 ⟨Nat.le_of_ble_eq_true rfl, Nat.le_of_ble_eq_true rfl⟩) ?_
            refine ft_top (y := nI pu) hpu ?_
            refine lv_icmp_ge (tgt := 73) hx hb dX11_layNoise_35 (by decide) (fun c35 => ?_) (fun c35 => ?_)
            · have c35n : pu ≤ k := ft_leN (by omega) (by omega) c35
              have hkp : k = pu := by omega
              have hAn : ¬ w (44 + 3) = 0 := ft_ne0_of_pos (hka.resolve_left (by omega))
              have hzz : x28_1 = ftNz (w (44 + 3)) (ftNzs (w (44 + 3)) (w (44 + 5)) pu x) pu := by rw [ex28_1, hkp, ftNz_p hAn]
              have hss : x28_4 / nI pu = ftNx (w (44 + 3)) (ftNzs (w (44 + 3)) (w (44 + 5)) pu x) pu := by rw [ex28_4, hkp, ftNx_p hAn hpu0 hpu2]
              refine lv_aload_n hx hb dX11_layNoise_73 rfl (lv_at hl 0 rfl) ?_
              refine va_get (D := D) (ci := 11) (v := .ref p14) (C := RX11) (T := TX11) (N := 33) hx hb hts (by decide +kernel) hown hK hP 0 rfl rfl 14 (by decide) (hts (.fieldLink RX11 31 "FiberTraceModel" "noise" "[I") (by decide +kernel)) (fun _ h9 => h9) rfl dX11_layNoise_74 ?_
              refine lv_iload_n hx hb dX11_layNoise_77 rfl (lv_at hl 3 rfl) ?_
              refine lv_iload hx hb dX11_layNoise_78 (lv_at hl 4 rfl) ?_
              refine lv_aload_n hx hb dX11_layNoise_80 rfl (lv_at hl 0 rfl) ?_
              refine lv_iconst (v := 4) hx hb dX11_layNoise_81 (by decide) ?_
              refine ft_csi (r := w (44 + 4)) (va_runV (C := RX11) (As := [.int 4]) (rest := [.int x28_4, .int (nI x), .ref p14]) ⟨hx, hb, hml, hown, hts⟩ (c_X11_setting l D cI cS m0 p0 p1 p3 p5 p10 p12 p13 p14 p16 p17 p19 p20 p21 p22 p25 p26 p27 p28 p29 p30 p31 p32 i2 i4 i6 i7 i8 i9 i11 i15 i18 i23 i24 w 4 (by first | assumption | omega)) (cwV 1 hts gX11_layNoise_X11_setting rfl rfl rfl (by decide +kernel) ⟨Nat.le_of_ble_eq_true rfl, Nat.le_of_ble_eq_true rfl⟩) (ft_preROV (ci := 11) (q0 := 0) hP hKK [0, 1] rfl rfl rfl) rfl rfl hl.1 rfl (lv_room (Nat.le_of_ble_eq_true rfl)) dX11_layNoise_82 ⟨Nat.le_of_ble_eq_true rfl, Nat.le_of_ble_eq_true rfl⟩) ?_
              refine ft_top (y := nI pu) hpu ?_
              refine lv_idiv hx hb dX11_layNoise_85 (nI_ne0 hpu0 hpu2) ?_
              refine va_iast hx hb hK hP hD hS 2 0 rfl rfl (vp_in_nI (by omega) (by omega)) dX11_layNoise_86 (fun H locs hP hD hS => ?_)
              rw [nI_clamp (show x < 2 ^ 31 by omega)] at hP hD
              have hP : va_P D vwCl [(m0, .inr (11, [.ref p0, .ref p1, .int i2, .ref p3, .int i4, .ref p5, .int i6, .int i7, .int i8, .int i9, .ref p10, .int i11, .ref p12, .ref p13, .ref p14, .int i15, .ref p16, .ref p17, .int i18, .ref p19, .ref p20, .ref p21, .ref p22, .int i23, .int i24, .ref p25, .ref p26, .ref p27, .ref p28, .ref p29, .ref p30, .ref p31, .ref p32])), (p0, .inl (cI, 1439, .inl w)), (p14, .inl (cI, 460, .inl (upd g14_p14 x (x28_4 / (nI pu)))))] H := hP
              have hD : va_D A [(m0, .inr (11, [.ref p0, .ref p1, .int i2, .ref p3, .int i4, .ref p5, .int i6, .int i7, .int i8, .int i9, .ref p10, .int i11, .ref p12, .ref p13, .ref p14, .int i15, .ref p16, .ref p17, .int i18, .ref p19, .ref p20, .ref p21, .ref p22, .int i23, .int i24, .ref p25, .ref p26, .ref p27, .ref p28, .ref p29, .ref p30, .ref p31, .ref p32])), (p0, .inl (cI, 1439, .inl w)), (p14, .inl (cI, 460, .inl (upd g14_p14 x (x28_4 / (nI pu)))))] := hD
              refine lv_iinc (v := nI (x + 1)) (lv' := [(3, .int (nI (x + 1))), (0, .ref m0), (1, .int x28_1), (2, .int (w (44 + 3))), (4, .int x28_4), (5, .int (nI k))]) hx hb dX11_layNoise_87 hl (k := 3) rfl (ft_inc x) (by decide) rfl (fun ls hl => ?_)
              refine lv_goto (tgt := 14) hx hb dX11_layNoise_90 (by decide) ?_
              exact ih14 (x + 1) x28_1 (nI (x + 1)) (upd g14_p14 x (x28_4 / (nI pu))) (by omega) (by omega) (by rw [hzz]; rfl) (by first | rfl | assumption) (by rw [eg14_p14]; refine ftFill_s ?_; exact hss) _ _ hP hD hS ls (lv_sub hl [1, 2, 3, 0] rfl)
            · have c35n : k < pu := ft_nleN (by omega) (by omega) c35
              refine lv_iload_n hx hb dX11_layNoise_38 rfl (lv_at hl 2 rfl) ?_
              refine lv_if_le (tgt := 73) hx hb dX11_layNoise_39 (by decide) (fun c39 => ?_) (fun c39 => ?_)
              · have hA9 : w (44 + 3) = 0 := Int32.le_antisymm c39 hA0
                have hk0 : k = 0 := hka.resolve_right (by rw [hA9]; decide)
                have hzz : x28_1 = ftNz (w (44 + 3)) (ftNzs (w (44 + 3)) (w (44 + 5)) pu x) pu := by rw [ex28_1, hk0, ftNz_0 hA9]; rfl
                have hss : x28_4 / nI pu = ftNx (w (44 + 3)) (ftNzs (w (44 + 3)) (w (44 + 5)) pu x) pu := by rw [ex28_4, hk0, ftNx_0 hA9]; exact ft_div0 _
                refine lv_aload_n hx hb dX11_layNoise_73 rfl (lv_at hl 0 rfl) ?_
                refine va_get (D := D) (ci := 11) (v := .ref p14) (C := RX11) (T := TX11) (N := 33) hx hb hts (by decide +kernel) hown hK hP 0 rfl rfl 14 (by decide) (hts (.fieldLink RX11 31 "FiberTraceModel" "noise" "[I") (by decide +kernel)) (fun _ h9 => h9) rfl dX11_layNoise_74 ?_
                refine lv_iload_n hx hb dX11_layNoise_77 rfl (lv_at hl 3 rfl) ?_
                refine lv_iload hx hb dX11_layNoise_78 (lv_at hl 4 rfl) ?_
                refine lv_aload_n hx hb dX11_layNoise_80 rfl (lv_at hl 0 rfl) ?_
                refine lv_iconst (v := 4) hx hb dX11_layNoise_81 (by decide) ?_
                refine ft_csi (r := w (44 + 4)) (va_runV (C := RX11) (As := [.int 4]) (rest := [.int x28_4, .int (nI x), .ref p14]) ⟨hx, hb, hml, hown, hts⟩ (c_X11_setting l D cI cS m0 p0 p1 p3 p5 p10 p12 p13 p14 p16 p17 p19 p20 p21 p22 p25 p26 p27 p28 p29 p30 p31 p32 i2 i4 i6 i7 i8 i9 i11 i15 i18 i23 i24 w 4 (by first | assumption | omega)) (cwV 1 hts gX11_layNoise_X11_setting rfl rfl rfl (by decide +kernel) ⟨Nat.le_of_ble_eq_true rfl, Nat.le_of_ble_eq_true rfl⟩) (ft_preROV (ci := 11) (q0 := 0) hP hKK [0, 1] rfl rfl rfl) rfl rfl hl.1 rfl (lv_room (Nat.le_of_ble_eq_true rfl)) dX11_layNoise_82 ⟨Nat.le_of_ble_eq_true rfl, Nat.le_of_ble_eq_true rfl⟩) ?_
                refine ft_top (y := nI pu) hpu ?_
                refine lv_idiv hx hb dX11_layNoise_85 (nI_ne0 hpu0 hpu2) ?_
                refine va_iast hx hb hK hP hD hS 2 0 rfl rfl (vp_in_nI (by omega) (by omega)) dX11_layNoise_86 (fun H locs hP hD hS => ?_)
                rw [nI_clamp (show x < 2 ^ 31 by omega)] at hP hD
                have hP : va_P D vwCl [(m0, .inr (11, [.ref p0, .ref p1, .int i2, .ref p3, .int i4, .ref p5, .int i6, .int i7, .int i8, .int i9, .ref p10, .int i11, .ref p12, .ref p13, .ref p14, .int i15, .ref p16, .ref p17, .int i18, .ref p19, .ref p20, .ref p21, .ref p22, .int i23, .int i24, .ref p25, .ref p26, .ref p27, .ref p28, .ref p29, .ref p30, .ref p31, .ref p32])), (p0, .inl (cI, 1439, .inl w)), (p14, .inl (cI, 460, .inl (upd g14_p14 x (x28_4 / (nI pu)))))] H := hP
                have hD : va_D A [(m0, .inr (11, [.ref p0, .ref p1, .int i2, .ref p3, .int i4, .ref p5, .int i6, .int i7, .int i8, .int i9, .ref p10, .int i11, .ref p12, .ref p13, .ref p14, .int i15, .ref p16, .ref p17, .int i18, .ref p19, .ref p20, .ref p21, .ref p22, .int i23, .int i24, .ref p25, .ref p26, .ref p27, .ref p28, .ref p29, .ref p30, .ref p31, .ref p32])), (p0, .inl (cI, 1439, .inl w)), (p14, .inl (cI, 460, .inl (upd g14_p14 x (x28_4 / (nI pu)))))] := hD
                refine lv_iinc (v := nI (x + 1)) (lv' := [(3, .int (nI (x + 1))), (0, .ref m0), (1, .int x28_1), (2, .int (w (44 + 3))), (4, .int x28_4), (5, .int (nI k))]) hx hb dX11_layNoise_87 hl (k := 3) rfl (ft_inc x) (by decide) rfl (fun ls hl => ?_)
                refine lv_goto (tgt := 14) hx hb dX11_layNoise_90 (by decide) ?_
                exact ih14 (x + 1) x28_1 (nI (x + 1)) (upd g14_p14 x (x28_4 / (nI pu))) (by omega) (by omega) (by rw [hzz]; rfl) (by first | rfl | assumption) (by rw [eg14_p14]; refine ftFill_s ?_; exact hss) _ _ hP hD hS ls (lv_sub hl [1, 2, 3, 0] rfl)
              · refine lv_iload_n hx hb dX11_layNoise_42 rfl (lv_at hl 1 rfl) ?_
                refine lv_bipush (v := 75) hx hb dX11_layNoise_43 (by decide) ?_
                refine lv_imul hx hb dX11_layNoise_45 ?_
                refine lv_bipush (v := 74) hx hb dX11_layNoise_46 (by decide) ?_
                refine lv_iadd hx hb dX11_layNoise_48 ?_
                refine lv_ldc (v := 65537) hx hb hown (hts (.constant RX11 215 65537) (by decide +kernel)) dX11_layNoise_49 ?_
                refine lv_irem hx hb dX11_layNoise_51 (by decide) ?_
                refine ft_top (y := ftRemI ((x28_1 * 75) + 74) 65537) rfl ?_
                refine lv_istore_n (lv' := [(1, .int (ftRemI ((x28_1 * 75) + 74) 65537)), (0, .ref m0), (2, .int (w (44 + 3))), (3, .int (nI x)), (4, .int x28_4), (5, .int (nI k))]) hx hb dX11_layNoise_52 rfl hl (by decide) rfl (fun ls hl => ?_)
                refine lv_iload hx hb dX11_layNoise_53 (lv_at hl 4 rfl) ?_
                refine lv_iload_n hx hb dX11_layNoise_55 rfl (lv_at hl 0 rfl) ?_
                refine lv_iconst (v := 2) hx hb dX11_layNoise_56 (by decide) ?_
                refine lv_iload_n hx hb dX11_layNoise_57 rfl (lv_at hl 2 rfl) ?_
                refine lv_imul hx hb dX11_layNoise_58 ?_
                refine lv_iconst (v := 1) hx hb dX11_layNoise_59 (by decide) ?_
                refine lv_iadd hx hb dX11_layNoise_60 ?_
                refine lv_irem hx hb dX11_layNoise_61 h2a ?_
                refine ft_top (y := ftRemI (ftRemI ((x28_1 * 75) + 74) 65537) ((2 * (w (44 + 3))) + 1)) rfl ?_
                refine lv_iload_n hx hb dX11_layNoise_62 rfl (lv_at hl 2 rfl) ?_
                refine lv_isub hx hb dX11_layNoise_63 ?_
                refine lv_iadd hx hb dX11_layNoise_64 ?_
                refine lv_istore (lv' := [(4, .int (x28_4 + ((ftRemI (ftRemI ((x28_1 * 75) + 74) 65537) ((2 * (w (44 + 3))) + 1)) - (w (44 + 3))))), (1, .int (ftRemI ((x28_1 * 75) + 74) 65537)), (0, .ref m0), (2, .int (w (44 + 3))), (3, .int (nI x)), (5, .int (nI k))]) hx hb dX11_layNoise_65 hl (by decide) rfl (fun ls hl => ?_)
                refine lv_iinc (v := nI (k + 1)) (lv' := [(5, .int (nI (k + 1))), (4, .int (x28_4 + ((ftRemI (ftRemI ((x28_1 * 75) + 74) 65537) ((2 * (w (44 + 3))) + 1)) - (w (44 + 3))))), (1, .int (ftRemI ((x28_1 * 75) + 74) 65537)), (0, .ref m0), (2, .int (w (44 + 3))), (3, .int (nI x))]) hx hb dX11_layNoise_67 hl (k := 5) rfl (ft_inc k) (by decide) rfl (fun ls hl => ?_)
                refine lv_goto (tgt := 28) hx hb dX11_layNoise_70 (by decide) ?_
                exact ih28 (k + 1) (ftRemI ((x28_1 * 75) + 74) 65537) (x28_4 + ((ftRemI (ftRemI ((x28_1 * 75) + 74) 65537) ((2 * (w (44 + 3))) + 1)) - (w (44 + 3)))) (nI (k + 1))  (by omega) (by omega) (by exact Or.inr (Int32.not_le.mp c39)) (by rw [ex28_1]; rfl) (by rw [ex28_4, ex28_1, ← hmod]; rfl) (by first | rfl | assumption)  _ _ hP hD hS ls (lv_sub hl [3, 2, 4, 5, 1, 0] rfl)
        exact lp28 _ 0 x14_1 0 0  (Nat.lt_succ_self _) (by omega) (by exact Or.inl rfl) (by exact ex14_1) (by rfl) (by rfl) _ _ hP hD hS ls (lv_sub hl [2, 3, 4, 5, 1, 0] rfl)
  exact lp14 _ 0 (w (44 + 5)) 0 fn (Nat.lt_succ_self _) (by omega) (by rfl) (by rfl) (by exact ftFill_0 _ fn) _ _ hP hD hS ls (lv_sub hl [3, 2, 1, 0] rfl)
end
section
theorem ftFl_t {kf pf rf p0 h0 : Nat → Int32} {i : Nat} (h : kf i = 1) : ftFl kf pf rf p0 h0 (i + 1) = ((ftFl kf pf rf p0 h0 i).1 + 1, upd (ftFl kf pf rf p0 h0 i).2.1 (ftFl kf pf rf p0 h0 i).1 (pf i), upd (ftFl kf pf rf p0 h0 i).2.2 (ftFl kf pf rf p0 h0 i).1 (rf i)) := if_pos h
theorem ftFl_f {kf pf rf p0 h0 : Nat → Int32} {i : Nat} (h : ¬ kf i = 1) : ftFl kf pf rf p0 h0 (i + 1) = ftFl kf pf rf p0 h0 i := if_neg h
theorem ftFlE_t {len en : Int32} {kf pf rf p0 h0 : Nat → Int32} {n : Nat} (h : 0 < en) : ftFlE len en kf pf rf p0 h0 n = ((ftFl kf pf rf p0 h0 n).1 + 1, upd (ftFl kf pf rf p0 h0 n).2.1 (ftFl kf pf rf p0 h0 n).1 len, upd (ftFl kf pf rf p0 h0 n).2.2 (ftFl kf pf rf p0 h0 n).1 en) := if_pos h
theorem ftFlE_f {len en : Int32} {kf pf rf p0 h0 : Nat → Int32} {n : Nat} (h : ¬ 0 < en) : ftFlE len en kf pf rf p0 h0 n = ftFl kf pf rf p0 h0 n := if_neg h
set_option maxHeartbeats 4000000 in
set_option maxRecDepth 100000 in
theorem c_X11_layFlashes (l : Launch) (D : va_G) (cI cS : ClassId) (sz : Nat) (m0 p0 p1 p3 p5 p10 p12 p13 p14 p16 p17 p19 p20 p21 p22 p25 p26 p27 p28 p29 p30 p31 p32 : Nat) (i2 i4 i6 i7 i8 i9 i11 i15 i18 i23 i24 : Int32) (w fa fh ga gh g1 g2 : Nat → Int32) (n : Nat) (hw3 : w 3 = nI n) (hn : n ≤ 10) : Met l yX11_layFlashes wsX11_layFlashes ({ frames := 1, cells := 0, slots := 0, locals := 25 }) (ftRW D cI cS [.ref m0] [(m0, .inr (11, [.ref p0, .ref p1, .int i2, .ref p3, .int i4, .ref p5, .int i6, .int i7, .int i8, .int i9, .ref p10, .int i11, .ref p12, .ref p13, .ref p14, .int i15, .ref p16, .ref p17, .int i18, .ref p19, .ref p20, .ref p21, .ref p22, .int i23, .int i24, .ref p25, .ref p26, .ref p27, .ref p28, .ref p29, .ref p30, .ref p31, .ref p32])), (p0, .inl (cI, 1439, .inl w)), (p16, .inl (cI, 11, .inl fa)), (p17, .inl (cI, 11, .inl fh)), (p19, .inl (cI, 55, .inl ga)), (p20, .inl (cI, 55, .inl gh)), (p21, .inl (cI, 55, .inl g1)), (p22, .inl (cI, 55, .inl g2))] sz) (ftQv D [(m0, .inr (11, [.ref p0, .ref p1, .int i2, .ref p3, .int i4, .ref p5, .int i6, .int i7, .int i8, .int i9, .ref p10, .int i11, .ref p12, .ref p13, .ref p14, .int i15, .ref p16, .ref p17, .int i18, .ref p19, .ref p20, .ref p21, .ref p22, .int i23, .int i24, .ref p25, .ref p26, .ref p27, .ref p28, .ref p29, .ref p30, .ref p31, .ref p32])), (p0, .inl (cI, 1439, .inl w)), (p16, .inl (cI, 11, .inl fa)), (p17, .inl (cI, 11, .inl fh)), (p19, .inl (cI, 55, .inl ga)), (p20, .inl (cI, 55, .inl gh)), (p21, .inl (cI, 55, .inl g1)), (p22, .inl (cI, 55, .inl g2))] [(m0, .inr (11, [.ref p0, .ref p1, .int i2, .ref p3, .int i4, .ref p5, .int i6, .int i7, .int i8, .int i9, .ref p10, .int i11, .ref p12, .ref p13, .ref p14, .int (nI (ftFlE (w 0) (w 2) (fun k => w (4 + 4 * k + 0)) (fun k => w (4 + 4 * k + 1)) (fun k => w (4 + 4 * k + 3)) fa fh n).1), .ref p16, .ref p17, .int (nI (ftGms (ftFlE (w 0) (w 2) (fun k => w (4 + 4 * k + 0)) (fun k => w (4 + 4 * k + 1)) (fun k => w (4 + 4 * k + 3)) fa fh n) (w (44 + 2)) ga gh g1 g2).1), .ref p19, .ref p20, .ref p21, .ref p22, .int i23, .int i24, .ref p25, .ref p26, .ref p27, .ref p28, .ref p29, .ref p30, .ref p31, .ref p32])), (p0, .inl (cI, 1439, .inl w)), (p16, .inl (cI, 11, .inl ((ftFlE (w 0) (w 2) (fun k => w (4 + 4 * k + 0)) (fun k => w (4 + 4 * k + 1)) (fun k => w (4 + 4 * k + 3)) fa fh n).2.1))), (p17, .inl (cI, 11, .inl ((ftFlE (w 0) (w 2) (fun k => w (4 + 4 * k + 0)) (fun k => w (4 + 4 * k + 1)) (fun k => w (4 + 4 * k + 3)) fa fh n).2.2))), (p19, .inl (cI, 55, .inl ((ftGms (ftFlE (w 0) (w 2) (fun k => w (4 + 4 * k + 0)) (fun k => w (4 + 4 * k + 1)) (fun k => w (4 + 4 * k + 3)) fa fh n) (w (44 + 2)) ga gh g1 g2).2.1))), (p20, .inl (cI, 55, .inl ((ftGms (ftFlE (w 0) (w 2) (fun k => w (4 + 4 * k + 0)) (fun k => w (4 + 4 * k + 1)) (fun k => w (4 + 4 * k + 3)) fa fh n) (w (44 + 2)) ga gh g1 g2).2.2.1))), (p21, .inl (cI, 55, .inl ((ftGms (ftFlE (w 0) (w 2) (fun k => w (4 + 4 * k + 0)) (fun k => w (4 + 4 * k + 1)) (fun k => w (4 + 4 * k + 3)) fa fh n) (w (44 + 2)) ga gh g1 g2).2.2.2.1))), (p22, .inl (cI, 55, .inl ((ftGms (ftFlE (w 0) (w 2) (fun k => w (4 + 4 * k + 0)) (fun k => w (4 + 4 * k + 1)) (fun k => w (4 + 4 * k + 3)) fa fh n) (w (44 + 2)) ga gh g1 g2).2.2.2.2)))] sz) 0 0 (va_A [(m0, .inr (11, [.ref p0, .ref p1, .int i2, .ref p3, .int i4, .ref p5, .int i6, .int i7, .int i8, .int i9, .ref p10, .int i11, .ref p12, .ref p13, .ref p14, .int i15, .ref p16, .ref p17, .int i18, .ref p19, .ref p20, .ref p21, .ref p22, .int i23, .int i24, .ref p25, .ref p26, .ref p27, .ref p28, .ref p29, .ref p30, .ref p31, .ref p32])), (p0, .inl (cI, 1439, .inl w)), (p16, .inl (cI, 11, .inl fa)), (p17, .inl (cI, 11, .inl fh)), (p19, .inl (cI, 55, .inl ga)), (p20, .inl (cI, 55, .inl gh)), (p21, .inl (cI, 55, .inl g1)), (p22, .inl (cI, 55, .inl g2))] sz) := by
  refine Met.ofW (cc := cX11_layFlashes) (maxL := 4) (ret := none) (by decide) rfl ?_
  intro p e s m args below meth c s₁ B hml hv
  obtain ⟨rfl, hsz, hP, hKK, hD0⟩ := hv
  have hK := hKK.1
  have hx := B.exec
  have hb := B.bytes
  have hr := B.returns
  have hts := atoms_spec (ws := wsX11_layFlashes) B.pre
  have hown : s.vm.findClass RX11 = some m.cls := findClass_of_methodNamed B.named
  have hlocks := B.notSynchronized
  subst hsz
  have hD := hD0.self (sz := s.heap.size)
  generalize hAe : va_A [(m0, .inr (11, [.ref p0, .ref p1, .int i2, .ref p3, .int i4, .ref p5, .int i6, .int i7, .int i8, .int i9, .ref p10, .int i11, .ref p12, .ref p13, .ref p14, .int i15, .ref p16, .ref p17, .int i18, .ref p19, .ref p20, .ref p21, .ref p22, .int i23, .int i24, .ref p25, .ref p26, .ref p27, .ref p28, .ref p29, .ref p30, .ref p31, .ref p32])), (p0, .inl (cI, 1439, .inl w)), (p16, .inl (cI, 11, .inl fa)), (p17, .inl (cI, 11, .inl fh)), (p19, .inl (cI, 55, .inl ga)), (p20, .inl (cI, 55, .inl gh)), (p21, .inl (cI, 55, .inl g1)), (p22, .inl (cI, 55, .inl g2))] s.heap.size = A at hD ⊢
  have hA : ∀ q : Nat, s.heap.size ≤ q → A q := fun q h => by rw [← hAe]; exact Or.inr h
  have hS : va_S A s.heap s.heap [] := va_S.rf
  have hD : va_D A [(m0, .inr (11, [.ref p0, .ref p1, .int i2, .ref p3, .int i4, .ref p5, .int i6, .int i7, .int i8, .int i9, .ref p10, .int i11, .ref p12, .ref p13, .ref p14, .int i15, .ref p16, .ref p17, .int i18, .ref p19, .ref p20, .ref p21, .ref p22, .int i23, .int i24, .ref p25, .ref p26, .ref p27, .ref p28, .ref p29, .ref p30, .ref p31, .ref p32])), (p0, .inl (cI, 1439, .inl w)), (p16, .inl (cI, 11, .inl fa)), (p17, .inl (cI, 11, .inl fh)), (p19, .inl (cI, 55, .inl ga)), (p20, .inl (cI, 55, .inl gh)), (p21, .inl (cI, 55, .inl g1)), (p22, .inl (cI, 55, .inl g2))] := hD
  have hP : va_P D vwCl [(m0, .inr (11, [.ref p0, .ref p1, .int i2, .ref p3, .int i4, .ref p5, .int i6, .int i7, .int i8, .int i9, .ref p10, .int i11, .ref p12, .ref p13, .ref p14, .int i15, .ref p16, .ref p17, .int i18, .ref p19, .ref p20, .ref p21, .ref p22, .int i23, .int i24, .ref p25, .ref p26, .ref p27, .ref p28, .ref p29, .ref p30, .ref p31, .ref p32])), (p0, .inl (cI, 1439, .inl w)), (p16, .inl (cI, 11, .inl fa)), (p17, .inl (cI, 11, .inl fh)), (p19, .inl (cI, 55, .inl ga)), (p20, .inl (cI, 55, .inl gh)), (p21, .inl (cI, 55, .inl g1)), (p22, .inl (cI, 55, .inl g2))] s.heap := hP
  have hl := lv_entry ([.ref m0]) (n := 4) (Nat.le_of_ble_eq_true rfl)
  rw [lg_entry_eq]
  generalize (lg_sl ([.ref m0]) ++ List.replicate (4 - (lg_sl ([.ref m0])).length) Slot.unset).toArray = ls at hl ⊢
  have hl : lv_has ls 4 [(0, .ref m0)] := hl
  obtain ⟨R9, hR9⟩ : ∃ R9, R9 = ftFlE (w 0) (w 2) (fun k => w (4 + 4 * k + 0)) (fun k => w (4 + 4 * k + 1)) (fun k => w (4 + 4 * k + 3)) fa fh n := ⟨_, rfl⟩
  have hR10 : R9.1 ≤ n + 1 := by rw [hR9]; exact ftFlE_le _ _ _ _ _ _ _ _
  refine lv_aload_n hx hb dX11_layFlashes_0 rfl (lv_at hl 0 rfl) ?_
  refine lv_iconst (v := 0) hx hb dX11_layFlashes_1 (by decide) ?_
  refine va_put (D := D) (ci := 11) (v := .int 0) (ty := .int) (C := RX11) (T := TX11) (N := 33) hx hb hts (by decide +kernel) tyX11 tyX11_ok nmX11 hown hK hP hD hS 0 rfl rfl 15 (by decide) (hts (.fieldLink RX11 205 "FiberTraceModel" "flashMany" "I") (by decide +kernel)) (fun _ h9 => h9) rfl (by decide +kernel) rfl rfl (Nat.le_of_ble_eq_true rfl) dX11_layFlashes_2 (fun H locs hP hD hS => ?_)
  have hP : va_P D vwCl [(m0, .inr (11, [.ref p0, .ref p1, .int i2, .ref p3, .int i4, .ref p5, .int i6, .int i7, .int i8, .int i9, .ref p10, .int i11, .ref p12, .ref p13, .ref p14, .int 0, .ref p16, .ref p17, .int i18, .ref p19, .ref p20, .ref p21, .ref p22, .int i23, .int i24, .ref p25, .ref p26, .ref p27, .ref p28, .ref p29, .ref p30, .ref p31, .ref p32])), (p0, .inl (cI, 1439, .inl w)), (p16, .inl (cI, 11, .inl fa)), (p17, .inl (cI, 11, .inl fh)), (p19, .inl (cI, 55, .inl ga)), (p20, .inl (cI, 55, .inl gh)), (p21, .inl (cI, 55, .inl g1)), (p22, .inl (cI, 55, .inl g2))] H := hP
  have hD : va_D A [(m0, .inr (11, [.ref p0, .ref p1, .int i2, .ref p3, .int i4, .ref p5, .int i6, .int i7, .int i8, .int i9, .ref p10, .int i11, .ref p12, .ref p13, .ref p14, .int 0, .ref p16, .ref p17, .int i18, .ref p19, .ref p20, .ref p21, .ref p22, .int i23, .int i24, .ref p25, .ref p26, .ref p27, .ref p28, .ref p29, .ref p30, .ref p31, .ref p32])), (p0, .inl (cI, 1439, .inl w)), (p16, .inl (cI, 11, .inl fa)), (p17, .inl (cI, 11, .inl fh)), (p19, .inl (cI, 55, .inl ga)), (p20, .inl (cI, 55, .inl gh)), (p21, .inl (cI, 55, .inl g1)), (p22, .inl (cI, 55, .inl g2))] := hD
  refine lv_iconst (v := 0) hx hb dX11_layFlashes_5 (by decide) ?_
  refine lv_istore_n (lv' := [(1, .int 0), (0, .ref m0)]) hx hb dX11_layFlashes_6 rfl hl (by decide) rfl (fun ls hl => ?_)
  have lp7 : ∀ (n7 : Nat) (i q : Nat) (x7_1 : Int32) (g7_m0_15 : Int32) (g7_p16 : Nat → Int32) (g7_p17 : Nat → Int32), n - i < n7 → (i ≤ n) → (q = (ftFl (fun k => w (4 + 4 * k + 0)) (fun k => w (4 + 4 * k + 1)) (fun k => w (4 + 4 * k + 3)) fa fh i).1) → x7_1 = nI i → g7_m0_15 = nI q → g7_p16 = (ftFl (fun k => w (4 + 4 * k + 0)) (fun k => w (4 + 4 * k + 1)) (fun k => w (4 + 4 * k + 3)) fa fh i).2.1 → g7_p17 = (ftFl (fun k => w (4 + 4 * k + 0)) (fun k => w (4 + 4 * k + 1)) (fun k => w (4 + 4 * k + 3)) fa fh i).2.2 → ∀ (H : Heap) (locs : List Loc), va_P D vwCl [(m0, .inr (11, [.ref p0, .ref p1, .int i2, .ref p3, .int i4, .ref p5, .int i6, .int i7, .int i8, .int i9, .ref p10, .int i11, .ref p12, .ref p13, .ref p14, .int g7_m0_15, .ref p16, .ref p17, .int i18, .ref p19, .ref p20, .ref p21, .ref p22, .int i23, .int i24, .ref p25, .ref p26, .ref p27, .ref p28, .ref p29, .ref p30, .ref p31, .ref p32])), (p0, .inl (cI, 1439, .inl w)), (p16, .inl (cI, 11, .inl g7_p16)), (p17, .inl (cI, 11, .inl g7_p17)), (p19, .inl (cI, 55, .inl ga)), (p20, .inl (cI, 55, .inl gh)), (p21, .inl (cI, 55, .inl g1)), (p22, .inl (cI, 55, .inl g2))] H → va_D A [(m0, .inr (11, [.ref p0, .ref p1, .int i2, .ref p3, .int i4, .ref p5, .int i6, .int i7, .int i8, .int i9, .ref p10, .int i11, .ref p12, .ref p13, .ref p14, .int g7_m0_15, .ref p16, .ref p17, .int i18, .ref p19, .ref p20, .ref p21, .ref p22, .int i23, .int i24, .ref p25, .ref p26, .ref p27, .ref p28, .ref p29, .ref p30, .ref p31, .ref p32])), (p0, .inl (cI, 1439, .inl w)), (p16, .inl (cI, 11, .inl g7_p16)), (p17, .inl (cI, 11, .inl g7_p17)), (p19, .inl (cI, 55, .inl ga)), (p20, .inl (cI, 55, .inl gh)), (p21, .inl (cI, 55, .inl g1)), (p22, .inl (cI, 55, .inl g2))] → va_S A s.heap H locs → ∀ ls : Array Slot, lv_has ls 4 [(0, .ref m0), (1, .int x7_1)] → W p l e (headSpec wsX11_layFlashes { frames := 1, cells := 0, slots := 0, locals := 25 }).room s m ([.ref m0] : List Value).toArray below meth c H locs 0 0 (MQ below (ftQv D [(m0, .inr (11, [.ref p0, .ref p1, .int i2, .ref p3, .int i4, .ref p5, .int i6, .int i7, .int i8, .int i9, .ref p10, .int i11, .ref p12, .ref p13, .ref p14, .int i15, .ref p16, .ref p17, .int i18, .ref p19, .ref p20, .ref p21, .ref p22, .int i23, .int i24, .ref p25, .ref p26, .ref p27, .ref p28, .ref p29, .ref p30, .ref p31, .ref p32])), (p0, .inl (cI, 1439, .inl w)), (p16, .inl (cI, 11, .inl fa)), (p17, .inl (cI, 11, .inl fh)), (p19, .inl (cI, 55, .inl ga)), (p20, .inl (cI, 55, .inl gh)), (p21, .inl (cI, 55, .inl g1)), (p22, .inl (cI, 55, .inl g2))] [(m0, .inr (11, [.ref p0, .ref p1, .int i2, .ref p3, .int i4, .ref p5, .int i6, .int i7, .int i8, .int i9, .ref p10, .int i11, .ref p12, .ref p13, .ref p14, .int (nI (ftFlE (w 0) (w 2) (fun k => w (4 + 4 * k + 0)) (fun k => w (4 + 4 * k + 1)) (fun k => w (4 + 4 * k + 3)) fa fh n).1), .ref p16, .ref p17, .int (nI (ftGms (ftFlE (w 0) (w 2) (fun k => w (4 + 4 * k + 0)) (fun k => w (4 + 4 * k + 1)) (fun k => w (4 + 4 * k + 3)) fa fh n) (w (44 + 2)) ga gh g1 g2).1), .ref p19, .ref p20, .ref p21, .ref p22, .int i23, .int i24, .ref p25, .ref p26, .ref p27, .ref p28, .ref p29, .ref p30, .ref p31, .ref p32])), (p0, .inl (cI, 1439, .inl w)), (p16, .inl (cI, 11, .inl ((ftFlE (w 0) (w 2) (fun k => w (4 + 4 * k + 0)) (fun k => w (4 + 4 * k + 1)) (fun k => w (4 + 4 * k + 3)) fa fh n).2.1))), (p17, .inl (cI, 11, .inl ((ftFlE (w 0) (w 2) (fun k => w (4 + 4 * k + 0)) (fun k => w (4 + 4 * k + 1)) (fun k => w (4 + 4 * k + 3)) fa fh n).2.2))), (p19, .inl (cI, 55, .inl ((ftGms (ftFlE (w 0) (w 2) (fun k => w (4 + 4 * k + 0)) (fun k => w (4 + 4 * k + 1)) (fun k => w (4 + 4 * k + 3)) fa fh n) (w (44 + 2)) ga gh g1 g2).2.1))), (p20, .inl (cI, 55, .inl ((ftGms (ftFlE (w 0) (w 2) (fun k => w (4 + 4 * k + 0)) (fun k => w (4 + 4 * k + 1)) (fun k => w (4 + 4 * k + 3)) fa fh n) (w (44 + 2)) ga gh g1 g2).2.2.1))), (p21, .inl (cI, 55, .inl ((ftGms (ftFlE (w 0) (w 2) (fun k => w (4 + 4 * k + 0)) (fun k => w (4 + 4 * k + 1)) (fun k => w (4 + 4 * k + 3)) fa fh n) (w (44 + 2)) ga gh g1 g2).2.2.2.1))), (p22, .inl (cI, 55, .inl ((ftGms (ftFlE (w 0) (w 2) (fun k => w (4 + 4 * k + 0)) (fun k => w (4 + 4 * k + 1)) (fun k => w (4 + 4 * k + 3)) fa fh n) (w (44 + 2)) ga gh g1 g2).2.2.2.2)))] s.heap.size) ([.ref m0] : List Value).toArray s 0 0 A) (F0 m 7 ls []) := by
    intro n7
    induction n7 with
    | zero =>
      intro i q x7_1 g7_m0_15 g7_p16 g7_p17 hm7
      exact absurd hm7 (Nat.not_lt_zero _)
    | succ n7 ih7 =>
      intro i q x7_1 g7_m0_15 g7_p16 g7_p17 hm7 hin hq ex7_1 eg7_m0_15 eg7_p16 eg7_p17 H locs hP hD hS ls hl
      subst ex7_1
      subst eg7_m0_15
      have hqi : q ≤ i := by rw [hq]; exact ftFl_le _ _ _ _ _ i
      refine lv_iload_n hx hb dX11_layFlashes_7 rfl (lv_at hl 1 rfl) ?_
      refine lv_aload_n hx hb dX11_layFlashes_8 rfl (lv_at hl 0 rfl) ?_
      refine va_get (D := D) (ci := 11) (v := .ref p0) (C := RX11) (T := TX11) (N := 33) hx hb hts (by decide +kernel) hown hK hP 0 rfl rfl 0 (by decide) (hts (.fieldLink RX11 7 "FiberTraceModel" "now" "[I") (by decide +kernel)) (fun _ h9 => h9) rfl dX11_layFlashes_9 ?_
      refine lv_iconst (v := 3) hx hb dX11_layFlashes_12 (by decide) ?_
      refine va_iald hx hb hK hP 1 0 rfl rfl (vp_in_nI (n := 3) (by omega) (by omega)) dX11_layFlashes_13 ?_
      refine ft_top (y := w 3) rfl ?_
      refine ft_top (y := nI n) hw3 ?_
      refine lv_icmp_ge (tgt := 73) hx hb dX11_layFlashes_14 (by decide) (fun c14 => ?_) (fun c14 => ?_)
      · have c14n : n ≤ i := ft_leN (by omega) (by omega) c14
        refine lv_aload_n hx hb dX11_layFlashes_73 rfl (lv_at hl 0 rfl) ?_
        refine va_get (D := D) (ci := 11) (v := .ref p0) (C := RX11) (T := TX11) (N := 33) hx hb hts (by decide +kernel) hown hK hP 0 rfl rfl 0 (by decide) (hts (.fieldLink RX11 7 "FiberTraceModel" "now" "[I") (by decide +kernel)) (fun _ h9 => h9) rfl dX11_layFlashes_74 ?_
        refine lv_iconst (v := 2) hx hb dX11_layFlashes_77 (by decide) ?_
        refine va_iald hx hb hK hP 1 0 rfl rfl (vp_in_nI (n := 2) (by omega) (by omega)) dX11_layFlashes_78 ?_
        refine ft_top (y := w 2) rfl ?_
        refine lv_if_le (tgt := 122) hx hb dX11_layFlashes_79 (by decide) (fun c79 => ?_) (fun c79 => ?_)
        · refine lv_aload_n hx hb dX11_layFlashes_122 rfl (lv_at hl 0 rfl) ?_
          refine lv_iconst (v := 0) hx hb dX11_layFlashes_123 (by decide) ?_
          refine va_put (D := D) (ci := 11) (v := .int 0) (ty := .int) (C := RX11) (T := TX11) (N := 33) hx hb hts (by decide +kernel) tyX11 tyX11_ok nmX11 hown hK hP hD hS 0 rfl rfl 18 (by decide) (hts (.fieldLink RX11 208 "FiberTraceModel" "ghostMany" "I") (by decide +kernel)) (fun _ h9 => h9) rfl (by decide +kernel) rfl rfl (Nat.le_of_ble_eq_true rfl) dX11_layFlashes_124 (fun H locs hP hD hS => ?_)
          have hP : va_P D vwCl [(m0, .inr (11, [.ref p0, .ref p1, .int i2, .ref p3, .int i4, .ref p5, .int i6, .int i7, .int i8, .int i9, .ref p10, .int i11, .ref p12, .ref p13, .ref p14, .int (nI q), .ref p16, .ref p17, .int 0, .ref p19, .ref p20, .ref p21, .ref p22, .int i23, .int i24, .ref p25, .ref p26, .ref p27, .ref p28, .ref p29, .ref p30, .ref p31, .ref p32])), (p0, .inl (cI, 1439, .inl w)), (p16, .inl (cI, 11, .inl g7_p16)), (p17, .inl (cI, 11, .inl g7_p17)), (p19, .inl (cI, 55, .inl ga)), (p20, .inl (cI, 55, .inl gh)), (p21, .inl (cI, 55, .inl g1)), (p22, .inl (cI, 55, .inl g2))] H := hP
          have hD : va_D A [(m0, .inr (11, [.ref p0, .ref p1, .int i2, .ref p3, .int i4, .ref p5, .int i6, .int i7, .int i8, .int i9, .ref p10, .int i11, .ref p12, .ref p13, .ref p14, .int (nI q), .ref p16, .ref p17, .int 0, .ref p19, .ref p20, .ref p21, .ref p22, .int i23, .int i24, .ref p25, .ref p26, .ref p27, .ref p28, .ref p29, .ref p30, .ref p31, .ref p32])), (p0, .inl (cI, 1439, .inl w)), (p16, .inl (cI, 11, .inl g7_p16)), (p17, .inl (cI, 11, .inl g7_p17)), (p19, .inl (cI, 55, .inl ga)), (p20, .inl (cI, 55, .inl gh)), (p21, .inl (cI, 55, .inl g1)), (p22, .inl (cI, 55, .inl g2))] := hD
          refine lv_iconst (v := 0) hx hb dX11_layFlashes_127 (by decide) ?_
          refine lv_istore_n (lv' := [(1, .int 0), (0, .ref m0)]) hx hb dX11_layFlashes_128 rfl hl (by decide) rfl (fun ls hl => ?_)
          have lp129 : ∀ (n129 : Nat) (u : Nat) (q2 : ftGq) (x129_1 : Int32) (g129_m0_15 : Int32) (g129_p16 : Nat → Int32) (g129_p17 : Nat → Int32) (g129_m0_18 : Int32) (g129_p19 : Nat → Int32) (g129_p20 : Nat → Int32) (g129_p21 : Nat → Int32) (g129_p22 : Nat → Int32), R9.1 - u < n129 → (u ≤ R9.1) → (q2 = ftGmOut R9.2.1 R9.2.2 (w (44 + 2)) R9.1 (0, ga, gh, g1, g2) u) → x129_1 = nI u → g129_m0_15 = nI R9.1 → g129_p16 = R9.2.1 → g129_p17 = R9.2.2 → g129_m0_18 = nI q2.1 → g129_p19 = q2.2.1 → g129_p20 = q2.2.2.1 → g129_p21 = q2.2.2.2.1 → g129_p22 = q2.2.2.2.2 → ∀ (H : Heap) (locs : List Loc), va_P D vwCl [(m0, .inr (11, [.ref p0, .ref p1, .int i2, .ref p3, .int i4, .ref p5, .int i6, .int i7, .int i8, .int i9, .ref p10, .int i11, .ref p12, .ref p13, .ref p14, .int g129_m0_15, .ref p16, .ref p17, .int g129_m0_18, .ref p19, .ref p20, .ref p21, .ref p22, .int i23, .int i24, .ref p25, .ref p26, .ref p27, .ref p28, .ref p29, .ref p30, .ref p31, .ref p32])), (p0, .inl (cI, 1439, .inl w)), (p16, .inl (cI, 11, .inl g129_p16)), (p17, .inl (cI, 11, .inl g129_p17)), (p19, .inl (cI, 55, .inl g129_p19)), (p20, .inl (cI, 55, .inl g129_p20)), (p21, .inl (cI, 55, .inl g129_p21)), (p22, .inl (cI, 55, .inl g129_p22))] H → va_D A [(m0, .inr (11, [.ref p0, .ref p1, .int i2, .ref p3, .int i4, .ref p5, .int i6, .int i7, .int i8, .int i9, .ref p10, .int i11, .ref p12, .ref p13, .ref p14, .int g129_m0_15, .ref p16, .ref p17, .int g129_m0_18, .ref p19, .ref p20, .ref p21, .ref p22, .int i23, .int i24, .ref p25, .ref p26, .ref p27, .ref p28, .ref p29, .ref p30, .ref p31, .ref p32])), (p0, .inl (cI, 1439, .inl w)), (p16, .inl (cI, 11, .inl g129_p16)), (p17, .inl (cI, 11, .inl g129_p17)), (p19, .inl (cI, 55, .inl g129_p19)), (p20, .inl (cI, 55, .inl g129_p20)), (p21, .inl (cI, 55, .inl g129_p21)), (p22, .inl (cI, 55, .inl g129_p22))] → va_S A s.heap H locs → ∀ ls : Array Slot, lv_has ls 4 [(0, .ref m0), (1, .int x129_1)] → W p l e (headSpec wsX11_layFlashes { frames := 1, cells := 0, slots := 0, locals := 25 }).room s m ([.ref m0] : List Value).toArray below meth c H locs 0 0 (MQ below (ftQv D [(m0, .inr (11, [.ref p0, .ref p1, .int i2, .ref p3, .int i4, .ref p5, .int i6, .int i7, .int i8, .int i9, .ref p10, .int i11, .ref p12, .ref p13, .ref p14, .int i15, .ref p16, .ref p17, .int i18, .ref p19, .ref p20, .ref p21, .ref p22, .int i23, .int i24, .ref p25, .ref p26, .ref p27, .ref p28, .ref p29, .ref p30, .ref p31, .ref p32])), (p0, .inl (cI, 1439, .inl w)), (p16, .inl (cI, 11, .inl fa)), (p17, .inl (cI, 11, .inl fh)), (p19, .inl (cI, 55, .inl ga)), (p20, .inl (cI, 55, .inl gh)), (p21, .inl (cI, 55, .inl g1)), (p22, .inl (cI, 55, .inl g2))] [(m0, .inr (11, [.ref p0, .ref p1, .int i2, .ref p3, .int i4, .ref p5, .int i6, .int i7, .int i8, .int i9, .ref p10, .int i11, .ref p12, .ref p13, .ref p14, .int (nI (ftFlE (w 0) (w 2) (fun k => w (4 + 4 * k + 0)) (fun k => w (4 + 4 * k + 1)) (fun k => w (4 + 4 * k + 3)) fa fh n).1), .ref p16, .ref p17, .int (nI (ftGms (ftFlE (w 0) (w 2) (fun k => w (4 + 4 * k + 0)) (fun k => w (4 + 4 * k + 1)) (fun k => w (4 + 4 * k + 3)) fa fh n) (w (44 + 2)) ga gh g1 g2).1), .ref p19, .ref p20, .ref p21, .ref p22, .int i23, .int i24, .ref p25, .ref p26, .ref p27, .ref p28, .ref p29, .ref p30, .ref p31, .ref p32])), (p0, .inl (cI, 1439, .inl w)), (p16, .inl (cI, 11, .inl ((ftFlE (w 0) (w 2) (fun k => w (4 + 4 * k + 0)) (fun k => w (4 + 4 * k + 1)) (fun k => w (4 + 4 * k + 3)) fa fh n).2.1))), (p17, .inl (cI, 11, .inl ((ftFlE (w 0) (w 2) (fun k => w (4 + 4 * k + 0)) (fun k => w (4 + 4 * k + 1)) (fun k => w (4 + 4 * k + 3)) fa fh n).2.2))), (p19, .inl (cI, 55, .inl ((ftGms (ftFlE (w 0) (w 2) (fun k => w (4 + 4 * k + 0)) (fun k => w (4 + 4 * k + 1)) (fun k => w (4 + 4 * k + 3)) fa fh n) (w (44 + 2)) ga gh g1 g2).2.1))), (p20, .inl (cI, 55, .inl ((ftGms (ftFlE (w 0) (w 2) (fun k => w (4 + 4 * k + 0)) (fun k => w (4 + 4 * k + 1)) (fun k => w (4 + 4 * k + 3)) fa fh n) (w (44 + 2)) ga gh g1 g2).2.2.1))), (p21, .inl (cI, 55, .inl ((ftGms (ftFlE (w 0) (w 2) (fun k => w (4 + 4 * k + 0)) (fun k => w (4 + 4 * k + 1)) (fun k => w (4 + 4 * k + 3)) fa fh n) (w (44 + 2)) ga gh g1 g2).2.2.2.1))), (p22, .inl (cI, 55, .inl ((ftGms (ftFlE (w 0) (w 2) (fun k => w (4 + 4 * k + 0)) (fun k => w (4 + 4 * k + 1)) (fun k => w (4 + 4 * k + 3)) fa fh n) (w (44 + 2)) ga gh g1 g2).2.2.2.2)))] s.heap.size) ([.ref m0] : List Value).toArray s 0 0 A) (F0 m 129 ls []) := by
            intro n129
            induction n129 with
            | zero =>
              intro u q2 x129_1 g129_m0_15 g129_p16 g129_p17 g129_m0_18 g129_p19 g129_p20 g129_p21 g129_p22 hm129
              exact absurd hm129 (Nat.not_lt_zero _)
            | succ n129 ih129 =>
              intro u q2 x129_1 g129_m0_15 g129_p16 g129_p17 g129_m0_18 g129_p19 g129_p20 g129_p21 g129_p22 hm129 hur hq2 ex129_1 eg129_m0_15 eg129_p16 eg129_p17 eg129_m0_18 eg129_p19 eg129_p20 eg129_p21 eg129_p22 H locs hP hD hS ls hl
              subst ex129_1
              subst eg129_m0_15
              subst eg129_p16
              subst eg129_p17
              subst eg129_m0_18
              subst eg129_p19
              subst eg129_p20
              subst eg129_p21
              subst eg129_p22
              have hq55 : q2.1 ≤ ftPairs R9.1 u := by rw [hq2]; exact ftGmOut_le _ _ _ R9.1 (0, ga, gh, g1, g2) rfl u
              refine lv_iload_n hx hb dX11_layFlashes_129 rfl (lv_at hl 1 rfl) ?_
              refine lv_aload_n hx hb dX11_layFlashes_130 rfl (lv_at hl 0 rfl) ?_
              refine va_get (D := D) (ci := 11) (v := .int (nI R9.1)) (C := RX11) (T := TX11) (N := 33) hx hb hts (by decide +kernel) hown hK hP 0 rfl rfl 15 (by decide) (hts (.fieldLink RX11 205 "FiberTraceModel" "flashMany" "I") (by decide +kernel)) (fun _ h9 => h9) rfl dX11_layFlashes_131 ?_
              refine lv_icmp_ge (tgt := 219) hx hb dX11_layFlashes_134 (by decide) (fun c134 => ?_) (fun c134 => ?_)
              · have c134n : R9.1 ≤ u := ft_leN (by omega) (by omega) c134
                have hw9 : ([(m0, .inr (11, [.ref p0, .ref p1, .int i2, .ref p3, .int i4, .ref p5, .int i6, .int i7, .int i8, .int i9, .ref p10, .int i11, .ref p12, .ref p13, .ref p14, .int (nI R9.1), .ref p16, .ref p17, .int (nI q2.1), .ref p19, .ref p20, .ref p21, .ref p22, .int i23, .int i24, .ref p25, .ref p26, .ref p27, .ref p28, .ref p29, .ref p30, .ref p31, .ref p32])), (p0, .inl (cI, 1439, .inl w)), (p16, .inl (cI, 11, .inl R9.2.1)), (p17, .inl (cI, 11, .inl R9.2.2)), (p19, .inl (cI, 55, .inl q2.2.1)), (p20, .inl (cI, 55, .inl q2.2.2.1)), (p21, .inl (cI, 55, .inl q2.2.2.2.1)), (p22, .inl (cI, 55, .inl q2.2.2.2.2))] : va_W) = [(m0, .inr (11, [.ref p0, .ref p1, .int i2, .ref p3, .int i4, .ref p5, .int i6, .int i7, .int i8, .int i9, .ref p10, .int i11, .ref p12, .ref p13, .ref p14, .int (nI (ftFlE (w 0) (w 2) (fun k => w (4 + 4 * k + 0)) (fun k => w (4 + 4 * k + 1)) (fun k => w (4 + 4 * k + 3)) fa fh n).1), .ref p16, .ref p17, .int (nI (ftGms (ftFlE (w 0) (w 2) (fun k => w (4 + 4 * k + 0)) (fun k => w (4 + 4 * k + 1)) (fun k => w (4 + 4 * k + 3)) fa fh n) (w (44 + 2)) ga gh g1 g2).1), .ref p19, .ref p20, .ref p21, .ref p22, .int i23, .int i24, .ref p25, .ref p26, .ref p27, .ref p28, .ref p29, .ref p30, .ref p31, .ref p32])), (p0, .inl (cI, 1439, .inl w)), (p16, .inl (cI, 11, .inl ((ftFlE (w 0) (w 2) (fun k => w (4 + 4 * k + 0)) (fun k => w (4 + 4 * k + 1)) (fun k => w (4 + 4 * k + 3)) fa fh n).2.1))), (p17, .inl (cI, 11, .inl ((ftFlE (w 0) (w 2) (fun k => w (4 + 4 * k + 0)) (fun k => w (4 + 4 * k + 1)) (fun k => w (4 + 4 * k + 3)) fa fh n).2.2))), (p19, .inl (cI, 55, .inl ((ftGms (ftFlE (w 0) (w 2) (fun k => w (4 + 4 * k + 0)) (fun k => w (4 + 4 * k + 1)) (fun k => w (4 + 4 * k + 3)) fa fh n) (w (44 + 2)) ga gh g1 g2).2.1))), (p20, .inl (cI, 55, .inl ((ftGms (ftFlE (w 0) (w 2) (fun k => w (4 + 4 * k + 0)) (fun k => w (4 + 4 * k + 1)) (fun k => w (4 + 4 * k + 3)) fa fh n) (w (44 + 2)) ga gh g1 g2).2.2.1))), (p21, .inl (cI, 55, .inl ((ftGms (ftFlE (w 0) (w 2) (fun k => w (4 + 4 * k + 0)) (fun k => w (4 + 4 * k + 1)) (fun k => w (4 + 4 * k + 3)) fa fh n) (w (44 + 2)) ga gh g1 g2).2.2.2.1))), (p22, .inl (cI, 55, .inl ((ftGms (ftFlE (w 0) (w 2) (fun k => w (4 + 4 * k + 0)) (fun k => w (4 + 4 * k + 1)) (fun k => w (4 + 4 * k + 3)) fa fh n) (w (44 + 2)) ga gh g1 g2).2.2.2.2)))] := by (have hi9 : u = R9.1 := by omega); rw [← hR9, ftGms, hq2, hi9]
                rw [hw9] at hP hD
                exact W.vret hx hb hr (fun t ht hW => ⟨⟨(), rfl, trivial, by rw [ht]; exact hP, by rw [hAe]; exact hD⟩, by rw [hAe]; exact hS.F ht⟩) hS.2.2 dX11_layFlashes_219
              · have c134n : u < R9.1 := ft_nleN (by omega) (by omega) c134
                refine lv_iload_n hx hb dX11_layFlashes_137 rfl (lv_at hl 1 rfl) ?_
                refine lv_iconst (v := 1) hx hb dX11_layFlashes_138 (by decide) ?_
                refine lv_iadd hx hb dX11_layFlashes_139 ?_
                refine ft_top (y := nI (u + 1)) (ft_addN u 1) ?_
                refine lv_istore_n (lv' := [(2, .int (nI (u + 1))), (0, .ref m0), (1, .int (nI u))]) hx hb dX11_layFlashes_140 rfl hl (by decide) rfl (fun ls hl => ?_)
                have lp141 : ∀ (n141 : Nat) (j : Nat) (q3 : ftGq) (x141_2 : Int32) (g141_m0_18 : Int32) (g141_p19 : Nat → Int32) (g141_p20 : Nat → Int32) (g141_p21 : Nat → Int32) (g141_p22 : Nat → Int32), R9.1 - j < n141 → (u + 1 ≤ j) → (j ≤ R9.1) → (q3 = ftGmIn R9.2.1 R9.2.2 (w (44 + 2)) u q2 (j - (u + 1))) → x141_2 = nI j → g141_m0_18 = nI q3.1 → g141_p19 = q3.2.1 → g141_p20 = q3.2.2.1 → g141_p21 = q3.2.2.2.1 → g141_p22 = q3.2.2.2.2 → ∀ (H : Heap) (locs : List Loc), va_P D vwCl [(m0, .inr (11, [.ref p0, .ref p1, .int i2, .ref p3, .int i4, .ref p5, .int i6, .int i7, .int i8, .int i9, .ref p10, .int i11, .ref p12, .ref p13, .ref p14, .int (nI R9.1), .ref p16, .ref p17, .int g141_m0_18, .ref p19, .ref p20, .ref p21, .ref p22, .int i23, .int i24, .ref p25, .ref p26, .ref p27, .ref p28, .ref p29, .ref p30, .ref p31, .ref p32])), (p0, .inl (cI, 1439, .inl w)), (p16, .inl (cI, 11, .inl R9.2.1)), (p17, .inl (cI, 11, .inl R9.2.2)), (p19, .inl (cI, 55, .inl g141_p19)), (p20, .inl (cI, 55, .inl g141_p20)), (p21, .inl (cI, 55, .inl g141_p21)), (p22, .inl (cI, 55, .inl g141_p22))] H → va_D A [(m0, .inr (11, [.ref p0, .ref p1, .int i2, .ref p3, .int i4, .ref p5, .int i6, .int i7, .int i8, .int i9, .ref p10, .int i11, .ref p12, .ref p13, .ref p14, .int (nI R9.1), .ref p16, .ref p17, .int g141_m0_18, .ref p19, .ref p20, .ref p21, .ref p22, .int i23, .int i24, .ref p25, .ref p26, .ref p27, .ref p28, .ref p29, .ref p30, .ref p31, .ref p32])), (p0, .inl (cI, 1439, .inl w)), (p16, .inl (cI, 11, .inl R9.2.1)), (p17, .inl (cI, 11, .inl R9.2.2)), (p19, .inl (cI, 55, .inl g141_p19)), (p20, .inl (cI, 55, .inl g141_p20)), (p21, .inl (cI, 55, .inl g141_p21)), (p22, .inl (cI, 55, .inl g141_p22))] → va_S A s.heap H locs → ∀ ls : Array Slot, lv_has ls 4 [(0, .ref m0), (1, .int (nI u)), (2, .int x141_2)] → W p l e (headSpec wsX11_layFlashes { frames := 1, cells := 0, slots := 0, locals := 25 }).room s m ([.ref m0] : List Value).toArray below meth c H locs 0 0 (MQ below (ftQv D [(m0, .inr (11, [.ref p0, .ref p1, .int i2, .ref p3, .int i4, .ref p5, .int i6, .int i7, .int i8, .int i9, .ref p10, .int i11, .ref p12, .ref p13, .ref p14, .int i15, .ref p16, .ref p17, .int i18, .ref p19, .ref p20, .ref p21, .ref p22, .int i23, .int i24, .ref p25, .ref p26, .ref p27, .ref p28, .ref p29, .ref p30, .ref p31, .ref p32])), (p0, .inl (cI, 1439, .inl w)), (p16, .inl (cI, 11, .inl fa)), (p17, .inl (cI, 11, .inl fh)), (p19, .inl (cI, 55, .inl ga)), (p20, .inl (cI, 55, .inl gh)), (p21, .inl (cI, 55, .inl g1)), (p22, .inl (cI, 55, .inl g2))] [(m0, .inr (11, [.ref p0, .ref p1, .int i2, .ref p3, .int i4, .ref p5, .int i6, .int i7, .int i8, .int i9, .ref p10, .int i11, .ref p12, .ref p13, .ref p14, .int (nI (ftFlE (w 0) (w 2) (fun k => w (4 + 4 * k + 0)) (fun k => w (4 + 4 * k + 1)) (fun k => w (4 + 4 * k + 3)) fa fh n).1), .ref p16, .ref p17, .int (nI (ftGms (ftFlE (w 0) (w 2) (fun k => w (4 + 4 * k + 0)) (fun k => w (4 + 4 * k + 1)) (fun k => w (4 + 4 * k + 3)) fa fh n) (w (44 + 2)) ga gh g1 g2).1), .ref p19, .ref p20, .ref p21, .ref p22, .int i23, .int i24, .ref p25, .ref p26, .ref p27, .ref p28, .ref p29, .ref p30, .ref p31, .ref p32])), (p0, .inl (cI, 1439, .inl w)), (p16, .inl (cI, 11, .inl ((ftFlE (w 0) (w 2) (fun k => w (4 + 4 * k + 0)) (fun k => w (4 + 4 * k + 1)) (fun k => w (4 + 4 * k + 3)) fa fh n).2.1))), (p17, .inl (cI, 11, .inl ((ftFlE (w 0) (w 2) (fun k => w (4 + 4 * k + 0)) (fun k => w (4 + 4 * k + 1)) (fun k => w (4 + 4 * k + 3)) fa fh n).2.2))), (p19, .inl (cI, 55, .inl ((ftGms (ftFlE (w 0) (w 2) (fun k => w (4 + 4 * k + 0)) (fun k => w (4 + 4 * k + 1)) (fun k => w (4 + 4 * k + 3)) fa fh n) (w (44 + 2)) ga gh g1 g2).2.1))), (p20, .inl (cI, 55, .inl ((ftGms (ftFlE (w 0) (w 2) (fun k => w (4 + 4 * k + 0)) (fun k => w (4 + 4 * k + 1)) (fun k => w (4 + 4 * k + 3)) fa fh n) (w (44 + 2)) ga gh g1 g2).2.2.1))), (p21, .inl (cI, 55, .inl ((ftGms (ftFlE (w 0) (w 2) (fun k => w (4 + 4 * k + 0)) (fun k => w (4 + 4 * k + 1)) (fun k => w (4 + 4 * k + 3)) fa fh n) (w (44 + 2)) ga gh g1 g2).2.2.2.1))), (p22, .inl (cI, 55, .inl ((ftGms (ftFlE (w 0) (w 2) (fun k => w (4 + 4 * k + 0)) (fun k => w (4 + 4 * k + 1)) (fun k => w (4 + 4 * k + 3)) fa fh n) (w (44 + 2)) ga gh g1 g2).2.2.2.2)))] s.heap.size) ([.ref m0] : List Value).toArray s 0 0 A) (F0 m 141 ls []) := by
                  intro n141
                  induction n141 with
                  | zero =>
                    intro j q3 x141_2 g141_m0_18 g141_p19 g141_p20 g141_p21 g141_p22 hm141
                    exact absurd hm141 (Nat.not_lt_zero _)
                  | succ n141 ih141 =>
                    intro j q3 x141_2 g141_m0_18 g141_p19 g141_p20 g141_p21 g141_p22 hm141 hij hjr hq3 ex141_2 eg141_m0_18 eg141_p19 eg141_p20 eg141_p21 eg141_p22 H locs hP hD hS ls hl
                    subst ex141_2
                    subst eg141_m0_18
                    subst eg141_p19
                    subst eg141_p20
                    subst eg141_p21
                    subst eg141_p22
                    have hb55 : q3.1 < 55 ∨ R9.1 ≤ j := ftGh_room hq55 (by rw [hq3]; exact ftGmIn_le _ _ _ u q2 (j - (u + 1))) hij hjr (by omega)
                    refine lv_iload_n hx hb dX11_layFlashes_141 rfl (lv_at hl 2 rfl) ?_
                    refine lv_aload_n hx hb dX11_layFlashes_142 rfl (lv_at hl 0 rfl) ?_
                    refine va_get (D := D) (ci := 11) (v := .int (nI R9.1)) (C := RX11) (T := TX11) (N := 33) hx hb hts (by decide +kernel) hown hK hP 0 rfl rfl 15 (by decide) (hts (.fieldLink RX11 205 "FiberTraceModel" "flashMany" "I") (by decide +kernel)) (fun _ h9 => h9) rfl dX11_layFlashes_143 ?_
                    refine lv_icmp_ge (tgt := 213) hx hb dX11_layFlashes_146 (by decide) (fun c146 => ?_) (fun c146 => ?_)
                    · have c146n : R9.1 ≤ j := ft_leN (by omega) (by omega) c146
                      refine lv_iinc (v := nI (u + 1)) (lv' := [(1, .int (nI (u + 1))), (0, .ref m0), (2, .int (nI j))]) hx hb dX11_layFlashes_213 hl (k := 1) rfl (ft_inc u) (by decide) rfl (fun ls hl => ?_)
                      refine lv_goto (tgt := 129) hx hb dX11_layFlashes_216 (by decide) ?_
                      exact ih129 (u + 1) q3 (nI (u + 1)) (nI R9.1) R9.2.1 R9.2.2 (nI q3.1) q3.2.1 q3.2.2.1 q3.2.2.2.1 q3.2.2.2.2 (by omega) (by omega) (by show q3 = ftGmIn R9.2.1 R9.2.2 (w (44 + 2)) u (ftGmOut R9.2.1 R9.2.2 (w (44 + 2)) R9.1 (0, ga, gh, g1, g2) u) (R9.1 - (u + 1)); rw [hq3, ← hq2, show j - (u + 1) = R9.1 - (u + 1) by omega]) (by first | rfl | assumption) (by first | rfl | assumption) (by first | rfl | assumption) (by first | rfl | assumption) (by first | rfl | assumption) (by first | rfl | assumption) (by first | rfl | assumption) (by first | rfl | assumption) (by first | rfl | assumption) _ _ hP hD hS ls (lv_sub hl [1, 0] rfl)
                    · have c146n : j < R9.1 := ft_nleN (by omega) (by omega) c146
                      refine lv_aload_n hx hb dX11_layFlashes_149 rfl (lv_at hl 0 rfl) ?_
                      refine va_get (D := D) (ci := 11) (v := .ref p17) (C := RX11) (T := TX11) (N := 33) hx hb hts (by decide +kernel) hown hK hP 0 rfl rfl 17 (by decide) (hts (.fieldLink RX11 37 "FiberTraceModel" "flashHigh" "[I") (by decide +kernel)) (fun _ h9 => h9) rfl dX11_layFlashes_150 ?_
                      refine lv_iload_n hx hb dX11_layFlashes_153 rfl (lv_at hl 1 rfl) ?_
                      refine va_iald hx hb hK hP 3 0 rfl rfl (vp_in_nI (by omega) (by omega)) dX11_layFlashes_154 ?_
                      refine ft_top (y := R9.2.2 u) (ft_clampN (by omega)) ?_
                      refine lv_aload_n hx hb dX11_layFlashes_155 rfl (lv_at hl 0 rfl) ?_
                      refine va_get (D := D) (ci := 11) (v := .ref p17) (C := RX11) (T := TX11) (N := 33) hx hb hts (by decide +kernel) hown hK hP 0 rfl rfl 17 (by decide) (hts (.fieldLink RX11 37 "FiberTraceModel" "flashHigh" "[I") (by decide +kernel)) (fun _ h9 => h9) rfl dX11_layFlashes_156 ?_
                      refine lv_iload_n hx hb dX11_layFlashes_159 rfl (lv_at hl 2 rfl) ?_
                      refine va_iald hx hb hK hP 3 0 rfl rfl (vp_in_nI (by omega) (by omega)) dX11_layFlashes_160 ?_
                      refine ft_top (y := R9.2.2 j) (ft_clampN (by omega)) ?_
                      refine lv_iadd hx hb dX11_layFlashes_161 ?_
                      refine lv_iconst (v := 2) hx hb dX11_layFlashes_162 (by decide) ?_
                      refine lv_idiv hx hb dX11_layFlashes_163 (by decide) ?_
                      refine lv_aload_n hx hb dX11_layFlashes_164 rfl (lv_at hl 0 rfl) ?_
                      refine lv_iconst (v := 2) hx hb dX11_layFlashes_165 (by decide) ?_
                      refine ft_csi (r := w (44 + 2)) (va_runV (C := RX11) (As := [.int 2]) (rest := [.int (((R9.2.2 u) + (R9.2.2 j)) / 2)]) ⟨hx, hb, hml, hown, hts⟩ (c_X11_setting l D cI cS m0 p0 p1 p3 p5 p10 p12 p13 p14 p16 p17 p19 p20 p21 p22 p25 p26 p27 p28 p29 p30 p31 p32 i2 i4 i6 i7 i8 i9 i11 (nI R9.1) (nI q3.1) i23 i24 w 2 (by first | assumption | omega)) (cwV 1 hts gX11_layFlashes_X11_setting rfl rfl rfl (by decide +kernel) ⟨Nat.le_of_ble_eq_true rfl, Nat.le_of_ble_eq_true rfl⟩) (ft_preROV (ci := 11) (q0 := 0) hP hKK [0, 1] rfl rfl rfl) rfl rfl hl.1 rfl (lv_room (Nat.le_of_ble_eq_true rfl)) dX11_layFlashes_166 ⟨Nat.le_of_ble_eq_true rfl, Nat.le_of_ble_eq_true rfl⟩) ?_
                      refine lv_isub hx hb dX11_layFlashes_169 ?_
                      refine lv_istore_n (lv' := [(3, .int ((((R9.2.2 u) + (R9.2.2 j)) / 2) - (w (44 + 2)))), (0, .ref m0), (1, .int (nI u)), (2, .int (nI j))]) hx hb dX11_layFlashes_170 rfl hl (by decide) rfl (fun ls hl => ?_)
                      refine lv_iload_n hx hb dX11_layFlashes_171 rfl (lv_at hl 0 rfl) ?_
                      refine lv_if_le (tgt := 207) hx hb dX11_layFlashes_172 (by decide) (fun c172 => ?_) (fun c172 => ?_)
                      · obtain ⟨q4, hq4⟩ : ∃ q4, q4 = ftGmStep R9.2.1 R9.2.2 (w (44 + 2)) u j q3 := ⟨_, rfl⟩
                        have h4q : q4 = q3 := by rw [hq4]; exact if_neg (Int32.not_lt.mpr c172)
                        refine lv_iinc (v := nI (j + 1)) (lv' := [(2, .int (nI (j + 1))), (3, .int ((((R9.2.2 u) + (R9.2.2 j)) / 2) - (w (44 + 2)))), (0, .ref m0), (1, .int (nI u))]) hx hb dX11_layFlashes_207 hl (k := 3) rfl (ft_inc j) (by decide) rfl (fun ls hl => ?_)
                        refine lv_goto (tgt := 141) hx hb dX11_layFlashes_210 (by decide) ?_
                        exact ih141 (j + 1) q4 (nI (j + 1)) (nI q3.1) q3.2.1 q3.2.2.1 q3.2.2.2.1 q3.2.2.2.2 (by omega) (by omega) (by omega) (by rw [hq4, hq3, show j + 1 - (u + 1) = (j - (u + 1)) + 1 by omega, ftGmIn, show u + 1 + (j - (u + 1)) = j by omega]) (by first | rfl | assumption) (by first | (rw [h4q]; done) | (rw [h4q]; rfl)) (by first | (rw [h4q]; done) | (rw [h4q]; rfl)) (by first | (rw [h4q]; done) | (rw [h4q]; rfl)) (by first | (rw [h4q]; done) | (rw [h4q]; rfl)) (by first | (rw [h4q]; done) | (rw [h4q]; rfl)) _ _ hP hD hS ls (lv_sub hl [2, 3, 0] rfl)
                      · obtain ⟨q4, hq4⟩ : ∃ q4, q4 = ftGmStep R9.2.1 R9.2.2 (w (44 + 2)) u j q3 := ⟨_, rfl⟩
                        have h4q : q4 = ftGmIns q3 (2 * R9.2.1 j - R9.2.1 u) (ftGhH R9.2.2 (w (44 + 2)) u j) (R9.2.1 u) (R9.2.1 j) := by rw [hq4]; exact if_pos (Int32.not_le.mp c172)
                        refine lv_aload_n hx hb dX11_layFlashes_175 rfl (lv_at hl 1 rfl) ?_
                        refine lv_iconst (v := 2) hx hb dX11_layFlashes_176 (by decide) ?_
                        refine lv_aload_n hx hb dX11_layFlashes_177 rfl (lv_at hl 1 rfl) ?_
                        refine va_get (D := D) (ci := 11) (v := .ref p16) (C := RX11) (T := TX11) (N := 33) hx hb hts (by decide +kernel) hown hK hP 0 rfl rfl 16 (by decide) (hts (.fieldLink RX11 34 "FiberTraceModel" "flashAt" "[I") (by decide +kernel)) (fun _ h9 => h9) rfl dX11_layFlashes_178 ?_
                        refine lv_iload_n hx hb dX11_layFlashes_181 rfl (lv_at hl 3 rfl) ?_
                        refine va_iald hx hb hK hP 2 0 rfl rfl (vp_in_nI (by omega) (by omega)) dX11_layFlashes_182 ?_
                        refine ft_top (y := R9.2.1 j) (ft_clampN (by omega)) ?_
                        refine lv_imul hx hb dX11_layFlashes_183 ?_
                        refine lv_aload_n hx hb dX11_layFlashes_184 rfl (lv_at hl 1 rfl) ?_
                        refine va_get (D := D) (ci := 11) (v := .ref p16) (C := RX11) (T := TX11) (N := 33) hx hb hts (by decide +kernel) hown hK hP 0 rfl rfl 16 (by decide) (hts (.fieldLink RX11 34 "FiberTraceModel" "flashAt" "[I") (by decide +kernel)) (fun _ h9 => h9) rfl dX11_layFlashes_185 ?_
                        refine lv_iload_n hx hb dX11_layFlashes_188 rfl (lv_at hl 2 rfl) ?_
                        refine va_iald hx hb hK hP 2 0 rfl rfl (vp_in_nI (by omega) (by omega)) dX11_layFlashes_189 ?_
                        refine ft_top (y := R9.2.1 u) (ft_clampN (by omega)) ?_
                        refine lv_isub hx hb dX11_layFlashes_190 ?_
                        refine lv_iload_n hx hb dX11_layFlashes_191 rfl (lv_at hl 0 rfl) ?_
                        refine lv_aload_n hx hb dX11_layFlashes_192 rfl (lv_at hl 1 rfl) ?_
                        refine va_get (D := D) (ci := 11) (v := .ref p16) (C := RX11) (T := TX11) (N := 33) hx hb hts (by decide +kernel) hown hK hP 0 rfl rfl 16 (by decide) (hts (.fieldLink RX11 34 "FiberTraceModel" "flashAt" "[I") (by decide +kernel)) (fun _ h9 => h9) rfl dX11_layFlashes_193 ?_
                        refine lv_iload_n hx hb dX11_layFlashes_196 rfl (lv_at hl 2 rfl) ?_
                        refine va_iald hx hb hK hP 2 0 rfl rfl (vp_in_nI (by omega) (by omega)) dX11_layFlashes_197 ?_
                        refine ft_top (y := R9.2.1 u) (ft_clampN (by omega)) ?_
                        refine lv_aload_n hx hb dX11_layFlashes_198 rfl (lv_at hl 1 rfl) ?_
                        refine va_get (D := D) (ci := 11) (v := .ref p16) (C := RX11) (T := TX11) (N := 33) hx hb hts (by decide +kernel) hown hK hP 0 rfl rfl 16 (by decide) (hts (.fieldLink RX11 34 "FiberTraceModel" "flashAt" "[I") (by decide +kernel)) (fun _ h9 => h9) rfl dX11_layFlashes_199 ?_
                        refine lv_iload_n hx hb dX11_layFlashes_202 rfl (lv_at hl 3 rfl) ?_
                        refine va_iald hx hb hK hP 2 0 rfl rfl (vp_in_nI (by omega) (by omega)) dX11_layFlashes_203 ?_
                        refine ft_top (y := R9.2.1 j) (ft_clampN (by omega)) ?_
                        refine ft_cv (wc := [(m0, .inr (11, [.ref p0, .ref p1, .int i2, .ref p3, .int i4, .ref p5, .int i6, .int i7, .int i8, .int i9, .ref p10, .int i11, .ref p12, .ref p13, .ref p14, .int (nI R9.1), .ref p16, .ref p17, .int (nI q3.1), .ref p19, .ref p20, .ref p21, .ref p22, .int i23, .int i24, .ref p25, .ref p26, .ref p27, .ref p28, .ref p29, .ref p30, .ref p31, .ref p32])), (p19, .inl (cI, 55, .inl q3.2.1)), (p20, .inl (cI, 55, .inl q3.2.2.1)), (p21, .inl (cI, 55, .inl q3.2.2.2.1)), (p22, .inl (cI, 55, .inl q3.2.2.2.2))]) (wr := [(p0, .inl (cI, 1439, .inl w)), (p16, .inl (cI, 11, .inl R9.2.1)), (p17, .inl (cI, 11, .inl R9.2.2))]) (w1 := [(m0, .inr (11, [.ref p0, .ref p1, .int i2, .ref p3, .int i4, .ref p5, .int i6, .int i7, .int i8, .int i9, .ref p10, .int i11, .ref p12, .ref p13, .ref p14, .int (nI R9.1), .ref p16, .ref p17, .int (nI (ftGmIns (q3.1, q3.2.1, q3.2.2.1, q3.2.2.2.1, q3.2.2.2.2) ((2 * (R9.2.1 j)) - (R9.2.1 u)) ((((R9.2.2 u) + (R9.2.2 j)) / 2) - (w (44 + 2))) (R9.2.1 u) (R9.2.1 j)).1), .ref p19, .ref p20, .ref p21, .ref p22, .int i23, .int i24, .ref p25, .ref p26, .ref p27, .ref p28, .ref p29, .ref p30, .ref p31, .ref p32])), (p19, .inl (cI, 55, .inl ((ftGmIns (q3.1, q3.2.1, q3.2.2.1, q3.2.2.2.1, q3.2.2.2.2) ((2 * (R9.2.1 j)) - (R9.2.1 u)) ((((R9.2.2 u) + (R9.2.2 j)) / 2) - (w (44 + 2))) (R9.2.1 u) (R9.2.1 j)).2.1))), (p20, .inl (cI, 55, .inl ((ftGmIns (q3.1, q3.2.1, q3.2.2.1, q3.2.2.2.1, q3.2.2.2.2) ((2 * (R9.2.1 j)) - (R9.2.1 u)) ((((R9.2.2 u) + (R9.2.2 j)) / 2) - (w (44 + 2))) (R9.2.1 u) (R9.2.1 j)).2.2.1))), (p21, .inl (cI, 55, .inl ((ftGmIns (q3.1, q3.2.1, q3.2.2.1, q3.2.2.2.1, q3.2.2.2.2) ((2 * (R9.2.1 j)) - (R9.2.1 u)) ((((R9.2.2 u) + (R9.2.2 j)) / 2) - (w (44 + 2))) (R9.2.1 u) (R9.2.1 j)).2.2.2.1))), (p22, .inl (cI, 55, .inl ((ftGmIns (q3.1, q3.2.1, q3.2.2.1, q3.2.2.2.1, q3.2.2.2.2) ((2 * (R9.2.1 j)) - (R9.2.1 u)) ((((R9.2.2 u) + (R9.2.2 j)) / 2) - (w (44 + 2))) (R9.2.1 u) (R9.2.1 j)).2.2.2.2)))]) (ws1 := [(m0, .inr (11, [.ref p0, .ref p1, .int i2, .ref p3, .int i4, .ref p5, .int i6, .int i7, .int i8, .int i9, .ref p10, .int i11, .ref p12, .ref p13, .ref p14, .int (nI R9.1), .ref p16, .ref p17, .int (nI (ftGmIns (q3.1, q3.2.1, q3.2.2.1, q3.2.2.2.1, q3.2.2.2.2) ((2 * (R9.2.1 j)) - (R9.2.1 u)) ((((R9.2.2 u) + (R9.2.2 j)) / 2) - (w (44 + 2))) (R9.2.1 u) (R9.2.1 j)).1), .ref p19, .ref p20, .ref p21, .ref p22, .int i23, .int i24, .ref p25, .ref p26, .ref p27, .ref p28, .ref p29, .ref p30, .ref p31, .ref p32])), (p0, .inl (cI, 1439, .inl w)), (p16, .inl (cI, 11, .inl R9.2.1)), (p17, .inl (cI, 11, .inl R9.2.2)), (p19, .inl (cI, 55, .inl ((ftGmIns (q3.1, q3.2.1, q3.2.2.1, q3.2.2.2.1, q3.2.2.2.2) ((2 * (R9.2.1 j)) - (R9.2.1 u)) ((((R9.2.2 u) + (R9.2.2 j)) / 2) - (w (44 + 2))) (R9.2.1 u) (R9.2.1 j)).2.1))), (p20, .inl (cI, 55, .inl ((ftGmIns (q3.1, q3.2.1, q3.2.2.1, q3.2.2.2.1, q3.2.2.2.2) ((2 * (R9.2.1 j)) - (R9.2.1 u)) ((((R9.2.2 u) + (R9.2.2 j)) / 2) - (w (44 + 2))) (R9.2.1 u) (R9.2.1 j)).2.2.1))), (p21, .inl (cI, 55, .inl ((ftGmIns (q3.1, q3.2.1, q3.2.2.1, q3.2.2.2.1, q3.2.2.2.2) ((2 * (R9.2.1 j)) - (R9.2.1 u)) ((((R9.2.2 u) + (R9.2.2 j)) / 2) - (w (44 + 2))) (R9.2.1 u) (R9.2.1 j)).2.2.2.1))), (p22, .inl (cI, 55, .inl ((ftGmIns (q3.1, q3.2.1, q3.2.2.1, q3.2.2.2.1, q3.2.2.2.2) ((2 * (R9.2.1 j)) - (R9.2.1 u)) ((((R9.2.2 u) + (R9.2.2 j)) / 2) - (w (44 + 2))) (R9.2.1 u) (R9.2.1 j)).2.2.2.2)))]) (va_runV (C := RX11) (As := [.int ((2 * (R9.2.1 j)) - (R9.2.1 u)), .int ((((R9.2.2 u) + (R9.2.2 j)) / 2) - (w (44 + 2))), .int (R9.2.1 u), .int (R9.2.1 j)]) (rest := []) ⟨hx, hb, hml, hown, hts⟩ (c_X11_ghostComes l D cI cS H.size m0 p0 p1 p3 p5 p10 p12 p13 p14 p16 p17 p19 p20 p21 p22 p25 p26 p27 p28 p29 p30 p31 p32 i2 i4 i6 i7 i8 i9 i11 (nI R9.1) i23 i24 q3.2.1 q3.2.2.1 q3.2.2.2.1 q3.2.2.2.2 q3.1 ((2 * (R9.2.1 j)) - (R9.2.1 u)) ((((R9.2.2 u) + (R9.2.2 j)) / 2) - (w (44 + 2))) (R9.2.1 u) (R9.2.1 j) (by first | assumption | omega)) (cwV 4 hts gX11_layFlashes_X11_ghostComes rfl rfl rfl (by decide +kernel) ⟨Nat.le_of_ble_eq_true rfl, Nat.le_of_ble_eq_true rfl⟩) (ft_preRWV (ci := 11) (q0 := 0) hP hD hKK [0, 4, 5, 6, 7] rfl rfl rfl rfl rfl) rfl rfl hl.1 rfl (lv_room (Nat.le_of_ble_eq_true rfl)) dX11_layFlashes_204 ⟨Nat.le_of_ble_eq_true rfl, Nat.le_of_ble_eq_true rfl⟩) hP hD hS hA [0, 4, 5, 6, 7] [1, 2, 3] [3, 0, 1, 2, 4, 5, 6, 7] rfl rfl (by decide) (by decide) (by decide) rfl rfl (fun H locs hP hD hS => ?_)
                        have hP : va_P D vwCl [(m0, .inr (11, [.ref p0, .ref p1, .int i2, .ref p3, .int i4, .ref p5, .int i6, .int i7, .int i8, .int i9, .ref p10, .int i11, .ref p12, .ref p13, .ref p14, .int (nI R9.1), .ref p16, .ref p17, .int (nI (ftGmIns (q3.1, q3.2.1, q3.2.2.1, q3.2.2.2.1, q3.2.2.2.2) ((2 * (R9.2.1 j)) - (R9.2.1 u)) ((((R9.2.2 u) + (R9.2.2 j)) / 2) - (w (44 + 2))) (R9.2.1 u) (R9.2.1 j)).1), .ref p19, .ref p20, .ref p21, .ref p22, .int i23, .int i24, .ref p25, .ref p26, .ref p27, .ref p28, .ref p29, .ref p30, .ref p31, .ref p32])), (p0, .inl (cI, 1439, .inl w)), (p16, .inl (cI, 11, .inl R9.2.1)), (p17, .inl (cI, 11, .inl R9.2.2)), (p19, .inl (cI, 55, .inl ((ftGmIns (q3.1, q3.2.1, q3.2.2.1, q3.2.2.2.1, q3.2.2.2.2) ((2 * (R9.2.1 j)) - (R9.2.1 u)) ((((R9.2.2 u) + (R9.2.2 j)) / 2) - (w (44 + 2))) (R9.2.1 u) (R9.2.1 j)).2.1))), (p20, .inl (cI, 55, .inl ((ftGmIns (q3.1, q3.2.1, q3.2.2.1, q3.2.2.2.1, q3.2.2.2.2) ((2 * (R9.2.1 j)) - (R9.2.1 u)) ((((R9.2.2 u) + (R9.2.2 j)) / 2) - (w (44 + 2))) (R9.2.1 u) (R9.2.1 j)).2.2.1))), (p21, .inl (cI, 55, .inl ((ftGmIns (q3.1, q3.2.1, q3.2.2.1, q3.2.2.2.1, q3.2.2.2.2) ((2 * (R9.2.1 j)) - (R9.2.1 u)) ((((R9.2.2 u) + (R9.2.2 j)) / 2) - (w (44 + 2))) (R9.2.1 u) (R9.2.1 j)).2.2.2.1))), (p22, .inl (cI, 55, .inl ((ftGmIns (q3.1, q3.2.1, q3.2.2.1, q3.2.2.2.1, q3.2.2.2.2) ((2 * (R9.2.1 j)) - (R9.2.1 u)) ((((R9.2.2 u) + (R9.2.2 j)) / 2) - (w (44 + 2))) (R9.2.1 u) (R9.2.1 j)).2.2.2.2)))] H := hP
                        have hD : va_D A [(m0, .inr (11, [.ref p0, .ref p1, .int i2, .ref p3, .int i4, .ref p5, .int i6, .int i7, .int i8, .int i9, .ref p10, .int i11, .ref p12, .ref p13, .ref p14, .int (nI R9.1), .ref p16, .ref p17, .int (nI (ftGmIns (q3.1, q3.2.1, q3.2.2.1, q3.2.2.2.1, q3.2.2.2.2) ((2 * (R9.2.1 j)) - (R9.2.1 u)) ((((R9.2.2 u) + (R9.2.2 j)) / 2) - (w (44 + 2))) (R9.2.1 u) (R9.2.1 j)).1), .ref p19, .ref p20, .ref p21, .ref p22, .int i23, .int i24, .ref p25, .ref p26, .ref p27, .ref p28, .ref p29, .ref p30, .ref p31, .ref p32])), (p0, .inl (cI, 1439, .inl w)), (p16, .inl (cI, 11, .inl R9.2.1)), (p17, .inl (cI, 11, .inl R9.2.2)), (p19, .inl (cI, 55, .inl ((ftGmIns (q3.1, q3.2.1, q3.2.2.1, q3.2.2.2.1, q3.2.2.2.2) ((2 * (R9.2.1 j)) - (R9.2.1 u)) ((((R9.2.2 u) + (R9.2.2 j)) / 2) - (w (44 + 2))) (R9.2.1 u) (R9.2.1 j)).2.1))), (p20, .inl (cI, 55, .inl ((ftGmIns (q3.1, q3.2.1, q3.2.2.1, q3.2.2.2.1, q3.2.2.2.2) ((2 * (R9.2.1 j)) - (R9.2.1 u)) ((((R9.2.2 u) + (R9.2.2 j)) / 2) - (w (44 + 2))) (R9.2.1 u) (R9.2.1 j)).2.2.1))), (p21, .inl (cI, 55, .inl ((ftGmIns (q3.1, q3.2.1, q3.2.2.1, q3.2.2.2.1, q3.2.2.2.2) ((2 * (R9.2.1 j)) - (R9.2.1 u)) ((((R9.2.2 u) + (R9.2.2 j)) / 2) - (w (44 + 2))) (R9.2.1 u) (R9.2.1 j)).2.2.2.1))), (p22, .inl (cI, 55, .inl ((ftGmIns (q3.1, q3.2.1, q3.2.2.1, q3.2.2.2.1, q3.2.2.2.2) ((2 * (R9.2.1 j)) - (R9.2.1 u)) ((((R9.2.2 u) + (R9.2.2 j)) / 2) - (w (44 + 2))) (R9.2.1 u) (R9.2.1 j)).2.2.2.2)))] := hD
                        refine lv_iinc (v := nI (j + 1)) (lv' := [(2, .int (nI (j + 1))), (3, .int ((((R9.2.2 u) + (R9.2.2 j)) / 2) - (w (44 + 2)))), (0, .ref m0), (1, .int (nI u))]) hx hb dX11_layFlashes_207 hl (k := 3) rfl (ft_inc j) (by decide) rfl (fun ls hl => ?_)
                        refine lv_goto (tgt := 141) hx hb dX11_layFlashes_210 (by decide) ?_
                        exact ih141 (j + 1) q4 (nI (j + 1)) (nI (ftGmIns (q3.1, q3.2.1, q3.2.2.1, q3.2.2.2.1, q3.2.2.2.2) ((2 * (R9.2.1 j)) - (R9.2.1 u)) ((((R9.2.2 u) + (R9.2.2 j)) / 2) - (w (44 + 2))) (R9.2.1 u) (R9.2.1 j)).1) ((ftGmIns (q3.1, q3.2.1, q3.2.2.1, q3.2.2.2.1, q3.2.2.2.2) ((2 * (R9.2.1 j)) - (R9.2.1 u)) ((((R9.2.2 u) + (R9.2.2 j)) / 2) - (w (44 + 2))) (R9.2.1 u) (R9.2.1 j)).2.1) ((ftGmIns (q3.1, q3.2.1, q3.2.2.1, q3.2.2.2.1, q3.2.2.2.2) ((2 * (R9.2.1 j)) - (R9.2.1 u)) ((((R9.2.2 u) + (R9.2.2 j)) / 2) - (w (44 + 2))) (R9.2.1 u) (R9.2.1 j)).2.2.1) ((ftGmIns (q3.1, q3.2.1, q3.2.2.1, q3.2.2.2.1, q3.2.2.2.2) ((2 * (R9.2.1 j)) - (R9.2.1 u)) ((((R9.2.2 u) + (R9.2.2 j)) / 2) - (w (44 + 2))) (R9.2.1 u) (R9.2.1 j)).2.2.2.1) ((ftGmIns (q3.1, q3.2.1, q3.2.2.1, q3.2.2.2.1, q3.2.2.2.2) ((2 * (R9.2.1 j)) - (R9.2.1 u)) ((((R9.2.2 u) + (R9.2.2 j)) / 2) - (w (44 + 2))) (R9.2.1 u) (R9.2.1 j)).2.2.2.2) (by omega) (by omega) (by omega) (by rw [hq4, hq3, show j + 1 - (u + 1) = (j - (u + 1)) + 1 by omega, ftGmIn, show u + 1 + (j - (u + 1)) = j by omega]) (by first | rfl | assumption) (by first | (rw [h4q]; done) | (rw [h4q]; rfl)) (by first | (rw [h4q]; done) | (rw [h4q]; rfl)) (by first | (rw [h4q]; done) | (rw [h4q]; rfl)) (by first | (rw [h4q]; done) | (rw [h4q]; rfl)) (by first | (rw [h4q]; done) | (rw [h4q]; rfl)) _ _ hP hD hS ls (lv_sub hl [2, 3, 0] rfl)
                exact lp141 _ (u + 1) q2 (nI (u + 1)) (nI q2.1) q2.2.1 q2.2.2.1 q2.2.2.2.1 q2.2.2.2.2 (Nat.lt_succ_self _) (by omega) (by omega) (by rw [Nat.sub_self]; rfl) (by rfl) (by rfl) (by rfl) (by rfl) (by rfl) (by rfl) _ _ hP hD hS ls (lv_sub hl [1, 2, 0] rfl)
          exact lp129 _ 0 (0, ga, gh, g1, g2) 0 (nI q) g7_p16 g7_p17 0 ga gh g1 g2 (Nat.lt_succ_self _) (by omega) (by rfl) (by rfl) (by rw [hR9]; first | (rw [ftFlE_f (Int32.not_lt.mpr c79), hq, show i = n by omega]; done) | (rw [ftFlE_t (Int32.not_le.mp c79), hq, show i = n by omega]; done)) (by rw [hR9]; first | (rw [ftFlE_f (Int32.not_lt.mpr c79), eg7_p16, show i = n by omega]; done) | (rw [ftFlE_t (Int32.not_le.mp c79), eg7_p16, hq, show i = n by omega]; done)) (by rw [hR9]; first | (rw [ftFlE_f (Int32.not_lt.mpr c79), eg7_p17, show i = n by omega]; done) | (rw [ftFlE_t (Int32.not_le.mp c79), eg7_p17, hq, show i = n by omega]; done)) (by rfl) (by rfl) (by rfl) (by rfl) (by rfl) _ _ hP hD hS ls (lv_sub hl [1, 0] rfl)
        · refine lv_aload_n hx hb dX11_layFlashes_82 rfl (lv_at hl 0 rfl) ?_
          refine va_get (D := D) (ci := 11) (v := .ref p16) (C := RX11) (T := TX11) (N := 33) hx hb hts (by decide +kernel) hown hK hP 0 rfl rfl 16 (by decide) (hts (.fieldLink RX11 34 "FiberTraceModel" "flashAt" "[I") (by decide +kernel)) (fun _ h9 => h9) rfl dX11_layFlashes_83 ?_
          refine lv_aload_n hx hb dX11_layFlashes_86 rfl (lv_at hl 0 rfl) ?_
          refine va_get (D := D) (ci := 11) (v := .int (nI q)) (C := RX11) (T := TX11) (N := 33) hx hb hts (by decide +kernel) hown hK hP 0 rfl rfl 15 (by decide) (hts (.fieldLink RX11 205 "FiberTraceModel" "flashMany" "I") (by decide +kernel)) (fun _ h9 => h9) rfl dX11_layFlashes_87 ?_
          refine lv_aload_n hx hb dX11_layFlashes_90 rfl (lv_at hl 0 rfl) ?_
          refine va_get (D := D) (ci := 11) (v := .ref p0) (C := RX11) (T := TX11) (N := 33) hx hb hts (by decide +kernel) hown hK hP 0 rfl rfl 0 (by decide) (hts (.fieldLink RX11 7 "FiberTraceModel" "now" "[I") (by decide +kernel)) (fun _ h9 => h9) rfl dX11_layFlashes_91 ?_
          refine lv_iconst (v := 0) hx hb dX11_layFlashes_94 (by decide) ?_
          refine va_iald hx hb hK hP 1 0 rfl rfl (vp_in_nI (n := 0) (by omega) (by omega)) dX11_layFlashes_95 ?_
          refine ft_top (y := w 0) rfl ?_
          refine va_iast hx hb hK hP hD hS 2 0 rfl rfl (vp_in_nI (by omega) (by omega)) dX11_layFlashes_96 (fun H locs hP hD hS => ?_)
          rw [nI_clamp (show q < 2 ^ 31 by omega)] at hP hD
          have hP : va_P D vwCl [(m0, .inr (11, [.ref p0, .ref p1, .int i2, .ref p3, .int i4, .ref p5, .int i6, .int i7, .int i8, .int i9, .ref p10, .int i11, .ref p12, .ref p13, .ref p14, .int (nI q), .ref p16, .ref p17, .int i18, .ref p19, .ref p20, .ref p21, .ref p22, .int i23, .int i24, .ref p25, .ref p26, .ref p27, .ref p28, .ref p29, .ref p30, .ref p31, .ref p32])), (p0, .inl (cI, 1439, .inl w)), (p16, .inl (cI, 11, .inl (upd g7_p16 q (w 0)))), (p17, .inl (cI, 11, .inl g7_p17)), (p19, .inl (cI, 55, .inl ga)), (p20, .inl (cI, 55, .inl gh)), (p21, .inl (cI, 55, .inl g1)), (p22, .inl (cI, 55, .inl g2))] H := hP
          have hD : va_D A [(m0, .inr (11, [.ref p0, .ref p1, .int i2, .ref p3, .int i4, .ref p5, .int i6, .int i7, .int i8, .int i9, .ref p10, .int i11, .ref p12, .ref p13, .ref p14, .int (nI q), .ref p16, .ref p17, .int i18, .ref p19, .ref p20, .ref p21, .ref p22, .int i23, .int i24, .ref p25, .ref p26, .ref p27, .ref p28, .ref p29, .ref p30, .ref p31, .ref p32])), (p0, .inl (cI, 1439, .inl w)), (p16, .inl (cI, 11, .inl (upd g7_p16 q (w 0)))), (p17, .inl (cI, 11, .inl g7_p17)), (p19, .inl (cI, 55, .inl ga)), (p20, .inl (cI, 55, .inl gh)), (p21, .inl (cI, 55, .inl g1)), (p22, .inl (cI, 55, .inl g2))] := hD
          refine lv_aload_n hx hb dX11_layFlashes_97 rfl (lv_at hl 0 rfl) ?_
          refine va_get (D := D) (ci := 11) (v := .ref p17) (C := RX11) (T := TX11) (N := 33) hx hb hts (by decide +kernel) hown hK hP 0 rfl rfl 17 (by decide) (hts (.fieldLink RX11 37 "FiberTraceModel" "flashHigh" "[I") (by decide +kernel)) (fun _ h9 => h9) rfl dX11_layFlashes_98 ?_
          refine lv_aload_n hx hb dX11_layFlashes_101 rfl (lv_at hl 0 rfl) ?_
          refine va_get (D := D) (ci := 11) (v := .int (nI q)) (C := RX11) (T := TX11) (N := 33) hx hb hts (by decide +kernel) hown hK hP 0 rfl rfl 15 (by decide) (hts (.fieldLink RX11 205 "FiberTraceModel" "flashMany" "I") (by decide +kernel)) (fun _ h9 => h9) rfl dX11_layFlashes_102 ?_
          refine lv_aload_n hx hb dX11_layFlashes_105 rfl (lv_at hl 0 rfl) ?_
          refine va_get (D := D) (ci := 11) (v := .ref p0) (C := RX11) (T := TX11) (N := 33) hx hb hts (by decide +kernel) hown hK hP 0 rfl rfl 0 (by decide) (hts (.fieldLink RX11 7 "FiberTraceModel" "now" "[I") (by decide +kernel)) (fun _ h9 => h9) rfl dX11_layFlashes_106 ?_
          refine lv_iconst (v := 2) hx hb dX11_layFlashes_109 (by decide) ?_
          refine va_iald hx hb hK hP 1 0 rfl rfl (vp_in_nI (n := 2) (by omega) (by omega)) dX11_layFlashes_110 ?_
          refine ft_top (y := w 2) rfl ?_
          refine va_iast hx hb hK hP hD hS 3 0 rfl rfl (vp_in_nI (by omega) (by omega)) dX11_layFlashes_111 (fun H locs hP hD hS => ?_)
          rw [nI_clamp (show q < 2 ^ 31 by omega)] at hP hD
          have hP : va_P D vwCl [(m0, .inr (11, [.ref p0, .ref p1, .int i2, .ref p3, .int i4, .ref p5, .int i6, .int i7, .int i8, .int i9, .ref p10, .int i11, .ref p12, .ref p13, .ref p14, .int (nI q), .ref p16, .ref p17, .int i18, .ref p19, .ref p20, .ref p21, .ref p22, .int i23, .int i24, .ref p25, .ref p26, .ref p27, .ref p28, .ref p29, .ref p30, .ref p31, .ref p32])), (p0, .inl (cI, 1439, .inl w)), (p16, .inl (cI, 11, .inl (upd g7_p16 q (w 0)))), (p17, .inl (cI, 11, .inl (upd g7_p17 q (w 2)))), (p19, .inl (cI, 55, .inl ga)), (p20, .inl (cI, 55, .inl gh)), (p21, .inl (cI, 55, .inl g1)), (p22, .inl (cI, 55, .inl g2))] H := hP
          have hD : va_D A [(m0, .inr (11, [.ref p0, .ref p1, .int i2, .ref p3, .int i4, .ref p5, .int i6, .int i7, .int i8, .int i9, .ref p10, .int i11, .ref p12, .ref p13, .ref p14, .int (nI q), .ref p16, .ref p17, .int i18, .ref p19, .ref p20, .ref p21, .ref p22, .int i23, .int i24, .ref p25, .ref p26, .ref p27, .ref p28, .ref p29, .ref p30, .ref p31, .ref p32])), (p0, .inl (cI, 1439, .inl w)), (p16, .inl (cI, 11, .inl (upd g7_p16 q (w 0)))), (p17, .inl (cI, 11, .inl (upd g7_p17 q (w 2)))), (p19, .inl (cI, 55, .inl ga)), (p20, .inl (cI, 55, .inl gh)), (p21, .inl (cI, 55, .inl g1)), (p22, .inl (cI, 55, .inl g2))] := hD
          refine lv_aload_n hx hb dX11_layFlashes_112 rfl (lv_at hl 0 rfl) ?_
          refine lv_dup hx hb dX11_layFlashes_113 rfl ?_
          refine va_get (D := D) (ci := 11) (v := .int (nI q)) (C := RX11) (T := TX11) (N := 33) hx hb hts (by decide +kernel) hown hK hP 0 rfl rfl 15 (by decide) (hts (.fieldLink RX11 205 "FiberTraceModel" "flashMany" "I") (by decide +kernel)) (fun _ h9 => h9) rfl dX11_layFlashes_114 ?_
          refine lv_iconst (v := 1) hx hb dX11_layFlashes_117 (by decide) ?_
          refine lv_iadd hx hb dX11_layFlashes_118 ?_
          refine ft_top (y := nI (q + 1)) (ft_addN q 1) ?_
          refine va_put (D := D) (ci := 11) (v := .int (nI (q + 1))) (ty := .int) (C := RX11) (T := TX11) (N := 33) hx hb hts (by decide +kernel) tyX11 tyX11_ok nmX11 hown hK hP hD hS 0 rfl rfl 15 (by decide) (hts (.fieldLink RX11 205 "FiberTraceModel" "flashMany" "I") (by decide +kernel)) (fun _ h9 => h9) rfl (by decide +kernel) rfl rfl (Nat.le_of_ble_eq_true rfl) dX11_layFlashes_119 (fun H locs hP hD hS => ?_)
          have hP : va_P D vwCl [(m0, .inr (11, [.ref p0, .ref p1, .int i2, .ref p3, .int i4, .ref p5, .int i6, .int i7, .int i8, .int i9, .ref p10, .int i11, .ref p12, .ref p13, .ref p14, .int (nI (q + 1)), .ref p16, .ref p17, .int i18, .ref p19, .ref p20, .ref p21, .ref p22, .int i23, .int i24, .ref p25, .ref p26, .ref p27, .ref p28, .ref p29, .ref p30, .ref p31, .ref p32])), (p0, .inl (cI, 1439, .inl w)), (p16, .inl (cI, 11, .inl (upd g7_p16 q (w 0)))), (p17, .inl (cI, 11, .inl (upd g7_p17 q (w 2)))), (p19, .inl (cI, 55, .inl ga)), (p20, .inl (cI, 55, .inl gh)), (p21, .inl (cI, 55, .inl g1)), (p22, .inl (cI, 55, .inl g2))] H := hP
          have hD : va_D A [(m0, .inr (11, [.ref p0, .ref p1, .int i2, .ref p3, .int i4, .ref p5, .int i6, .int i7, .int i8, .int i9, .ref p10, .int i11, .ref p12, .ref p13, .ref p14, .int (nI (q + 1)), .ref p16, .ref p17, .int i18, .ref p19, .ref p20, .ref p21, .ref p22, .int i23, .int i24, .ref p25, .ref p26, .ref p27, .ref p28, .ref p29, .ref p30, .ref p31, .ref p32])), (p0, .inl (cI, 1439, .inl w)), (p16, .inl (cI, 11, .inl (upd g7_p16 q (w 0)))), (p17, .inl (cI, 11, .inl (upd g7_p17 q (w 2)))), (p19, .inl (cI, 55, .inl ga)), (p20, .inl (cI, 55, .inl gh)), (p21, .inl (cI, 55, .inl g1)), (p22, .inl (cI, 55, .inl g2))] := hD
          refine lv_aload_n hx hb dX11_layFlashes_122 rfl (lv_at hl 0 rfl) ?_
          refine lv_iconst (v := 0) hx hb dX11_layFlashes_123 (by decide) ?_
          refine va_put (D := D) (ci := 11) (v := .int 0) (ty := .int) (C := RX11) (T := TX11) (N := 33) hx hb hts (by decide +kernel) tyX11 tyX11_ok nmX11 hown hK hP hD hS 0 rfl rfl 18 (by decide) (hts (.fieldLink RX11 208 "FiberTraceModel" "ghostMany" "I") (by decide +kernel)) (fun _ h9 => h9) rfl (by decide +kernel) rfl rfl (Nat.le_of_ble_eq_true rfl) dX11_layFlashes_124 (fun H locs hP hD hS => ?_)
          have hP : va_P D vwCl [(m0, .inr (11, [.ref p0, .ref p1, .int i2, .ref p3, .int i4, .ref p5, .int i6, .int i7, .int i8, .int i9, .ref p10, .int i11, .ref p12, .ref p13, .ref p14, .int (nI (q + 1)), .ref p16, .ref p17, .int 0, .ref p19, .ref p20, .ref p21, .ref p22, .int i23, .int i24, .ref p25, .ref p26, .ref p27, .ref p28, .ref p29, .ref p30, .ref p31, .ref p32])), (p0, .inl (cI, 1439, .inl w)), (p16, .inl (cI, 11, .inl (upd g7_p16 q (w 0)))), (p17, .inl (cI, 11, .inl (upd g7_p17 q (w 2)))), (p19, .inl (cI, 55, .inl ga)), (p20, .inl (cI, 55, .inl gh)), (p21, .inl (cI, 55, .inl g1)), (p22, .inl (cI, 55, .inl g2))] H := hP
          have hD : va_D A [(m0, .inr (11, [.ref p0, .ref p1, .int i2, .ref p3, .int i4, .ref p5, .int i6, .int i7, .int i8, .int i9, .ref p10, .int i11, .ref p12, .ref p13, .ref p14, .int (nI (q + 1)), .ref p16, .ref p17, .int 0, .ref p19, .ref p20, .ref p21, .ref p22, .int i23, .int i24, .ref p25, .ref p26, .ref p27, .ref p28, .ref p29, .ref p30, .ref p31, .ref p32])), (p0, .inl (cI, 1439, .inl w)), (p16, .inl (cI, 11, .inl (upd g7_p16 q (w 0)))), (p17, .inl (cI, 11, .inl (upd g7_p17 q (w 2)))), (p19, .inl (cI, 55, .inl ga)), (p20, .inl (cI, 55, .inl gh)), (p21, .inl (cI, 55, .inl g1)), (p22, .inl (cI, 55, .inl g2))] := hD
          refine lv_iconst (v := 0) hx hb dX11_layFlashes_127 (by decide) ?_
          refine lv_istore_n (lv' := [(1, .int 0), (0, .ref m0)]) hx hb dX11_layFlashes_128 rfl hl (by decide) rfl (fun ls hl => ?_)
          have lp129 : ∀ (n129 : Nat) (u : Nat) (q2 : ftGq) (x129_1 : Int32) (g129_m0_15 : Int32) (g129_p16 : Nat → Int32) (g129_p17 : Nat → Int32) (g129_m0_18 : Int32) (g129_p19 : Nat → Int32) (g129_p20 : Nat → Int32) (g129_p21 : Nat → Int32) (g129_p22 : Nat → Int32), R9.1 - u < n129 → (u ≤ R9.1) → (q2 = ftGmOut R9.2.1 R9.2.2 (w (44 + 2)) R9.1 (0, ga, gh, g1, g2) u) → x129_1 = nI u → g129_m0_15 = nI R9.1 → g129_p16 = R9.2.1 → g129_p17 = R9.2.2 → g129_m0_18 = nI q2.1 → g129_p19 = q2.2.1 → g129_p20 = q2.2.2.1 → g129_p21 = q2.2.2.2.1 → g129_p22 = q2.2.2.2.2 → ∀ (H : Heap) (locs : List Loc), va_P D vwCl [(m0, .inr (11, [.ref p0, .ref p1, .int i2, .ref p3, .int i4, .ref p5, .int i6, .int i7, .int i8, .int i9, .ref p10, .int i11, .ref p12, .ref p13, .ref p14, .int g129_m0_15, .ref p16, .ref p17, .int g129_m0_18, .ref p19, .ref p20, .ref p21, .ref p22, .int i23, .int i24, .ref p25, .ref p26, .ref p27, .ref p28, .ref p29, .ref p30, .ref p31, .ref p32])), (p0, .inl (cI, 1439, .inl w)), (p16, .inl (cI, 11, .inl g129_p16)), (p17, .inl (cI, 11, .inl g129_p17)), (p19, .inl (cI, 55, .inl g129_p19)), (p20, .inl (cI, 55, .inl g129_p20)), (p21, .inl (cI, 55, .inl g129_p21)), (p22, .inl (cI, 55, .inl g129_p22))] H → va_D A [(m0, .inr (11, [.ref p0, .ref p1, .int i2, .ref p3, .int i4, .ref p5, .int i6, .int i7, .int i8, .int i9, .ref p10, .int i11, .ref p12, .ref p13, .ref p14, .int g129_m0_15, .ref p16, .ref p17, .int g129_m0_18, .ref p19, .ref p20, .ref p21, .ref p22, .int i23, .int i24, .ref p25, .ref p26, .ref p27, .ref p28, .ref p29, .ref p30, .ref p31, .ref p32])), (p0, .inl (cI, 1439, .inl w)), (p16, .inl (cI, 11, .inl g129_p16)), (p17, .inl (cI, 11, .inl g129_p17)), (p19, .inl (cI, 55, .inl g129_p19)), (p20, .inl (cI, 55, .inl g129_p20)), (p21, .inl (cI, 55, .inl g129_p21)), (p22, .inl (cI, 55, .inl g129_p22))] → va_S A s.heap H locs → ∀ ls : Array Slot, lv_has ls 4 [(0, .ref m0), (1, .int x129_1)] → W p l e (headSpec wsX11_layFlashes { frames := 1, cells := 0, slots := 0, locals := 25 }).room s m ([.ref m0] : List Value).toArray below meth c H locs 0 0 (MQ below (ftQv D [(m0, .inr (11, [.ref p0, .ref p1, .int i2, .ref p3, .int i4, .ref p5, .int i6, .int i7, .int i8, .int i9, .ref p10, .int i11, .ref p12, .ref p13, .ref p14, .int i15, .ref p16, .ref p17, .int i18, .ref p19, .ref p20, .ref p21, .ref p22, .int i23, .int i24, .ref p25, .ref p26, .ref p27, .ref p28, .ref p29, .ref p30, .ref p31, .ref p32])), (p0, .inl (cI, 1439, .inl w)), (p16, .inl (cI, 11, .inl fa)), (p17, .inl (cI, 11, .inl fh)), (p19, .inl (cI, 55, .inl ga)), (p20, .inl (cI, 55, .inl gh)), (p21, .inl (cI, 55, .inl g1)), (p22, .inl (cI, 55, .inl g2))] [(m0, .inr (11, [.ref p0, .ref p1, .int i2, .ref p3, .int i4, .ref p5, .int i6, .int i7, .int i8, .int i9, .ref p10, .int i11, .ref p12, .ref p13, .ref p14, .int (nI (ftFlE (w 0) (w 2) (fun k => w (4 + 4 * k + 0)) (fun k => w (4 + 4 * k + 1)) (fun k => w (4 + 4 * k + 3)) fa fh n).1), .ref p16, .ref p17, .int (nI (ftGms (ftFlE (w 0) (w 2) (fun k => w (4 + 4 * k + 0)) (fun k => w (4 + 4 * k + 1)) (fun k => w (4 + 4 * k + 3)) fa fh n) (w (44 + 2)) ga gh g1 g2).1), .ref p19, .ref p20, .ref p21, .ref p22, .int i23, .int i24, .ref p25, .ref p26, .ref p27, .ref p28, .ref p29, .ref p30, .ref p31, .ref p32])), (p0, .inl (cI, 1439, .inl w)), (p16, .inl (cI, 11, .inl ((ftFlE (w 0) (w 2) (fun k => w (4 + 4 * k + 0)) (fun k => w (4 + 4 * k + 1)) (fun k => w (4 + 4 * k + 3)) fa fh n).2.1))), (p17, .inl (cI, 11, .inl ((ftFlE (w 0) (w 2) (fun k => w (4 + 4 * k + 0)) (fun k => w (4 + 4 * k + 1)) (fun k => w (4 + 4 * k + 3)) fa fh n).2.2))), (p19, .inl (cI, 55, .inl ((ftGms (ftFlE (w 0) (w 2) (fun k => w (4 + 4 * k + 0)) (fun k => w (4 + 4 * k + 1)) (fun k => w (4 + 4 * k + 3)) fa fh n) (w (44 + 2)) ga gh g1 g2).2.1))), (p20, .inl (cI, 55, .inl ((ftGms (ftFlE (w 0) (w 2) (fun k => w (4 + 4 * k + 0)) (fun k => w (4 + 4 * k + 1)) (fun k => w (4 + 4 * k + 3)) fa fh n) (w (44 + 2)) ga gh g1 g2).2.2.1))), (p21, .inl (cI, 55, .inl ((ftGms (ftFlE (w 0) (w 2) (fun k => w (4 + 4 * k + 0)) (fun k => w (4 + 4 * k + 1)) (fun k => w (4 + 4 * k + 3)) fa fh n) (w (44 + 2)) ga gh g1 g2).2.2.2.1))), (p22, .inl (cI, 55, .inl ((ftGms (ftFlE (w 0) (w 2) (fun k => w (4 + 4 * k + 0)) (fun k => w (4 + 4 * k + 1)) (fun k => w (4 + 4 * k + 3)) fa fh n) (w (44 + 2)) ga gh g1 g2).2.2.2.2)))] s.heap.size) ([.ref m0] : List Value).toArray s 0 0 A) (F0 m 129 ls []) := by
            intro n129
            induction n129 with
            | zero =>
              intro u q2 x129_1 g129_m0_15 g129_p16 g129_p17 g129_m0_18 g129_p19 g129_p20 g129_p21 g129_p22 hm129
              exact absurd hm129 (Nat.not_lt_zero _)
            | succ n129 ih129 =>
              intro u q2 x129_1 g129_m0_15 g129_p16 g129_p17 g129_m0_18 g129_p19 g129_p20 g129_p21 g129_p22 hm129 hur hq2 ex129_1 eg129_m0_15 eg129_p16 eg129_p17 eg129_m0_18 eg129_p19 eg129_p20 eg129_p21 eg129_p22 H locs hP hD hS ls hl
              subst ex129_1
              subst eg129_m0_15
              subst eg129_p16
              subst eg129_p17
              subst eg129_m0_18
              subst eg129_p19
              subst eg129_p20
              subst eg129_p21
              subst eg129_p22
              have hq55 : q2.1 ≤ ftPairs R9.1 u := by rw [hq2]; exact ftGmOut_le _ _ _ R9.1 (0, ga, gh, g1, g2) rfl u
              refine lv_iload_n hx hb dX11_layFlashes_129 rfl (lv_at hl 1 rfl) ?_
              refine lv_aload_n hx hb dX11_layFlashes_130 rfl (lv_at hl 0 rfl) ?_
              refine va_get (D := D) (ci := 11) (v := .int (nI R9.1)) (C := RX11) (T := TX11) (N := 33) hx hb hts (by decide +kernel) hown hK hP 0 rfl rfl 15 (by decide) (hts (.fieldLink RX11 205 "FiberTraceModel" "flashMany" "I") (by decide +kernel)) (fun _ h9 => h9) rfl dX11_layFlashes_131 ?_
              refine lv_icmp_ge (tgt := 219) hx hb dX11_layFlashes_134 (by decide) (fun c134 => ?_) (fun c134 => ?_)
              · have c134n : R9.1 ≤ u := ft_leN (by omega) (by omega) c134
                have hw9 : ([(m0, .inr (11, [.ref p0, .ref p1, .int i2, .ref p3, .int i4, .ref p5, .int i6, .int i7, .int i8, .int i9, .ref p10, .int i11, .ref p12, .ref p13, .ref p14, .int (nI R9.1), .ref p16, .ref p17, .int (nI q2.1), .ref p19, .ref p20, .ref p21, .ref p22, .int i23, .int i24, .ref p25, .ref p26, .ref p27, .ref p28, .ref p29, .ref p30, .ref p31, .ref p32])), (p0, .inl (cI, 1439, .inl w)), (p16, .inl (cI, 11, .inl R9.2.1)), (p17, .inl (cI, 11, .inl R9.2.2)), (p19, .inl (cI, 55, .inl q2.2.1)), (p20, .inl (cI, 55, .inl q2.2.2.1)), (p21, .inl (cI, 55, .inl q2.2.2.2.1)), (p22, .inl (cI, 55, .inl q2.2.2.2.2))] : va_W) = [(m0, .inr (11, [.ref p0, .ref p1, .int i2, .ref p3, .int i4, .ref p5, .int i6, .int i7, .int i8, .int i9, .ref p10, .int i11, .ref p12, .ref p13, .ref p14, .int (nI (ftFlE (w 0) (w 2) (fun k => w (4 + 4 * k + 0)) (fun k => w (4 + 4 * k + 1)) (fun k => w (4 + 4 * k + 3)) fa fh n).1), .ref p16, .ref p17, .int (nI (ftGms (ftFlE (w 0) (w 2) (fun k => w (4 + 4 * k + 0)) (fun k => w (4 + 4 * k + 1)) (fun k => w (4 + 4 * k + 3)) fa fh n) (w (44 + 2)) ga gh g1 g2).1), .ref p19, .ref p20, .ref p21, .ref p22, .int i23, .int i24, .ref p25, .ref p26, .ref p27, .ref p28, .ref p29, .ref p30, .ref p31, .ref p32])), (p0, .inl (cI, 1439, .inl w)), (p16, .inl (cI, 11, .inl ((ftFlE (w 0) (w 2) (fun k => w (4 + 4 * k + 0)) (fun k => w (4 + 4 * k + 1)) (fun k => w (4 + 4 * k + 3)) fa fh n).2.1))), (p17, .inl (cI, 11, .inl ((ftFlE (w 0) (w 2) (fun k => w (4 + 4 * k + 0)) (fun k => w (4 + 4 * k + 1)) (fun k => w (4 + 4 * k + 3)) fa fh n).2.2))), (p19, .inl (cI, 55, .inl ((ftGms (ftFlE (w 0) (w 2) (fun k => w (4 + 4 * k + 0)) (fun k => w (4 + 4 * k + 1)) (fun k => w (4 + 4 * k + 3)) fa fh n) (w (44 + 2)) ga gh g1 g2).2.1))), (p20, .inl (cI, 55, .inl ((ftGms (ftFlE (w 0) (w 2) (fun k => w (4 + 4 * k + 0)) (fun k => w (4 + 4 * k + 1)) (fun k => w (4 + 4 * k + 3)) fa fh n) (w (44 + 2)) ga gh g1 g2).2.2.1))), (p21, .inl (cI, 55, .inl ((ftGms (ftFlE (w 0) (w 2) (fun k => w (4 + 4 * k + 0)) (fun k => w (4 + 4 * k + 1)) (fun k => w (4 + 4 * k + 3)) fa fh n) (w (44 + 2)) ga gh g1 g2).2.2.2.1))), (p22, .inl (cI, 55, .inl ((ftGms (ftFlE (w 0) (w 2) (fun k => w (4 + 4 * k + 0)) (fun k => w (4 + 4 * k + 1)) (fun k => w (4 + 4 * k + 3)) fa fh n) (w (44 + 2)) ga gh g1 g2).2.2.2.2)))] := by (have hi9 : u = R9.1 := by omega); rw [← hR9, ftGms, hq2, hi9]
                rw [hw9] at hP hD
                exact W.vret hx hb hr (fun t ht hW => ⟨⟨(), rfl, trivial, by rw [ht]; exact hP, by rw [hAe]; exact hD⟩, by rw [hAe]; exact hS.F ht⟩) hS.2.2 dX11_layFlashes_219
              · have c134n : u < R9.1 := ft_nleN (by omega) (by omega) c134
                refine lv_iload_n hx hb dX11_layFlashes_137 rfl (lv_at hl 1 rfl) ?_
                refine lv_iconst (v := 1) hx hb dX11_layFlashes_138 (by decide) ?_
                refine lv_iadd hx hb dX11_layFlashes_139 ?_
                refine ft_top (y := nI (u + 1)) (ft_addN u 1) ?_
                refine lv_istore_n (lv' := [(2, .int (nI (u + 1))), (0, .ref m0), (1, .int (nI u))]) hx hb dX11_layFlashes_140 rfl hl (by decide) rfl (fun ls hl => ?_)
                have lp141 : ∀ (n141 : Nat) (j : Nat) (q3 : ftGq) (x141_2 : Int32) (g141_m0_18 : Int32) (g141_p19 : Nat → Int32) (g141_p20 : Nat → Int32) (g141_p21 : Nat → Int32) (g141_p22 : Nat → Int32), R9.1 - j < n141 → (u + 1 ≤ j) → (j ≤ R9.1) → (q3 = ftGmIn R9.2.1 R9.2.2 (w (44 + 2)) u q2 (j - (u + 1))) → x141_2 = nI j → g141_m0_18 = nI q3.1 → g141_p19 = q3.2.1 → g141_p20 = q3.2.2.1 → g141_p21 = q3.2.2.2.1 → g141_p22 = q3.2.2.2.2 → ∀ (H : Heap) (locs : List Loc), va_P D vwCl [(m0, .inr (11, [.ref p0, .ref p1, .int i2, .ref p3, .int i4, .ref p5, .int i6, .int i7, .int i8, .int i9, .ref p10, .int i11, .ref p12, .ref p13, .ref p14, .int (nI R9.1), .ref p16, .ref p17, .int g141_m0_18, .ref p19, .ref p20, .ref p21, .ref p22, .int i23, .int i24, .ref p25, .ref p26, .ref p27, .ref p28, .ref p29, .ref p30, .ref p31, .ref p32])), (p0, .inl (cI, 1439, .inl w)), (p16, .inl (cI, 11, .inl R9.2.1)), (p17, .inl (cI, 11, .inl R9.2.2)), (p19, .inl (cI, 55, .inl g141_p19)), (p20, .inl (cI, 55, .inl g141_p20)), (p21, .inl (cI, 55, .inl g141_p21)), (p22, .inl (cI, 55, .inl g141_p22))] H → va_D A [(m0, .inr (11, [.ref p0, .ref p1, .int i2, .ref p3, .int i4, .ref p5, .int i6, .int i7, .int i8, .int i9, .ref p10, .int i11, .ref p12, .ref p13, .ref p14, .int (nI R9.1), .ref p16, .ref p17, .int g141_m0_18, .ref p19, .ref p20, .ref p21, .ref p22, .int i23, .int i24, .ref p25, .ref p26, .ref p27, .ref p28, .ref p29, .ref p30, .ref p31, .ref p32])), (p0, .inl (cI, 1439, .inl w)), (p16, .inl (cI, 11, .inl R9.2.1)), (p17, .inl (cI, 11, .inl R9.2.2)), (p19, .inl (cI, 55, .inl g141_p19)), (p20, .inl (cI, 55, .inl g141_p20)), (p21, .inl (cI, 55, .inl g141_p21)), (p22, .inl (cI, 55, .inl g141_p22))] → va_S A s.heap H locs → ∀ ls : Array Slot, lv_has ls 4 [(0, .ref m0), (1, .int (nI u)), (2, .int x141_2)] → W p l e (headSpec wsX11_layFlashes { frames := 1, cells := 0, slots := 0, locals := 25 }).room s m ([.ref m0] : List Value).toArray below meth c H locs 0 0 (MQ below (ftQv D [(m0, .inr (11, [.ref p0, .ref p1, .int i2, .ref p3, .int i4, .ref p5, .int i6, .int i7, .int i8, .int i9, .ref p10, .int i11, .ref p12, .ref p13, .ref p14, .int i15, .ref p16, .ref p17, .int i18, .ref p19, .ref p20, .ref p21, .ref p22, .int i23, .int i24, .ref p25, .ref p26, .ref p27, .ref p28, .ref p29, .ref p30, .ref p31, .ref p32])), (p0, .inl (cI, 1439, .inl w)), (p16, .inl (cI, 11, .inl fa)), (p17, .inl (cI, 11, .inl fh)), (p19, .inl (cI, 55, .inl ga)), (p20, .inl (cI, 55, .inl gh)), (p21, .inl (cI, 55, .inl g1)), (p22, .inl (cI, 55, .inl g2))] [(m0, .inr (11, [.ref p0, .ref p1, .int i2, .ref p3, .int i4, .ref p5, .int i6, .int i7, .int i8, .int i9, .ref p10, .int i11, .ref p12, .ref p13, .ref p14, .int (nI (ftFlE (w 0) (w 2) (fun k => w (4 + 4 * k + 0)) (fun k => w (4 + 4 * k + 1)) (fun k => w (4 + 4 * k + 3)) fa fh n).1), .ref p16, .ref p17, .int (nI (ftGms (ftFlE (w 0) (w 2) (fun k => w (4 + 4 * k + 0)) (fun k => w (4 + 4 * k + 1)) (fun k => w (4 + 4 * k + 3)) fa fh n) (w (44 + 2)) ga gh g1 g2).1), .ref p19, .ref p20, .ref p21, .ref p22, .int i23, .int i24, .ref p25, .ref p26, .ref p27, .ref p28, .ref p29, .ref p30, .ref p31, .ref p32])), (p0, .inl (cI, 1439, .inl w)), (p16, .inl (cI, 11, .inl ((ftFlE (w 0) (w 2) (fun k => w (4 + 4 * k + 0)) (fun k => w (4 + 4 * k + 1)) (fun k => w (4 + 4 * k + 3)) fa fh n).2.1))), (p17, .inl (cI, 11, .inl ((ftFlE (w 0) (w 2) (fun k => w (4 + 4 * k + 0)) (fun k => w (4 + 4 * k + 1)) (fun k => w (4 + 4 * k + 3)) fa fh n).2.2))), (p19, .inl (cI, 55, .inl ((ftGms (ftFlE (w 0) (w 2) (fun k => w (4 + 4 * k + 0)) (fun k => w (4 + 4 * k + 1)) (fun k => w (4 + 4 * k + 3)) fa fh n) (w (44 + 2)) ga gh g1 g2).2.1))), (p20, .inl (cI, 55, .inl ((ftGms (ftFlE (w 0) (w 2) (fun k => w (4 + 4 * k + 0)) (fun k => w (4 + 4 * k + 1)) (fun k => w (4 + 4 * k + 3)) fa fh n) (w (44 + 2)) ga gh g1 g2).2.2.1))), (p21, .inl (cI, 55, .inl ((ftGms (ftFlE (w 0) (w 2) (fun k => w (4 + 4 * k + 0)) (fun k => w (4 + 4 * k + 1)) (fun k => w (4 + 4 * k + 3)) fa fh n) (w (44 + 2)) ga gh g1 g2).2.2.2.1))), (p22, .inl (cI, 55, .inl ((ftGms (ftFlE (w 0) (w 2) (fun k => w (4 + 4 * k + 0)) (fun k => w (4 + 4 * k + 1)) (fun k => w (4 + 4 * k + 3)) fa fh n) (w (44 + 2)) ga gh g1 g2).2.2.2.2)))] s.heap.size) ([.ref m0] : List Value).toArray s 0 0 A) (F0 m 141 ls []) := by
                  intro n141
                  induction n141 with
                  | zero =>
                    intro j q3 x141_2 g141_m0_18 g141_p19 g141_p20 g141_p21 g141_p22 hm141
                    exact absurd hm141 (Nat.not_lt_zero _)
                  | succ n141 ih141 =>
                    intro j q3 x141_2 g141_m0_18 g141_p19 g141_p20 g141_p21 g141_p22 hm141 hij hjr hq3 ex141_2 eg141_m0_18 eg141_p19 eg141_p20 eg141_p21 eg141_p22 H locs hP hD hS ls hl
                    subst ex141_2
                    subst eg141_m0_18
                    subst eg141_p19
                    subst eg141_p20
                    subst eg141_p21
                    subst eg141_p22
                    have hb55 : q3.1 < 55 ∨ R9.1 ≤ j := ftGh_room hq55 (by rw [hq3]; exact ftGmIn_le _ _ _ u q2 (j - (u + 1))) hij hjr (by omega)
                    refine lv_iload_n hx hb dX11_layFlashes_141 rfl (lv_at hl 2 rfl) ?_
                    refine lv_aload_n hx hb dX11_layFlashes_142 rfl (lv_at hl 0 rfl) ?_
                    refine va_get (D := D) (ci := 11) (v := .int (nI R9.1)) (C := RX11) (T := TX11) (N := 33) hx hb hts (by decide +kernel) hown hK hP 0 rfl rfl 15 (by decide) (hts (.fieldLink RX11 205 "FiberTraceModel" "flashMany" "I") (by decide +kernel)) (fun _ h9 => h9) rfl dX11_layFlashes_143 ?_
                    refine lv_icmp_ge (tgt := 213) hx hb dX11_layFlashes_146 (by decide) (fun c146 => ?_) (fun c146 => ?_)
                    · have c146n : R9.1 ≤ j := ft_leN (by omega) (by omega) c146
                      refine lv_iinc (v := nI (u + 1)) (lv' := [(1, .int (nI (u + 1))), (0, .ref m0), (2, .int (nI j))]) hx hb dX11_layFlashes_213 hl (k := 1) rfl (ft_inc u) (by decide) rfl (fun ls hl => ?_)
                      refine lv_goto (tgt := 129) hx hb dX11_layFlashes_216 (by decide) ?_
                      exact ih129 (u + 1) q3 (nI (u + 1)) (nI R9.1) R9.2.1 R9.2.2 (nI q3.1) q3.2.1 q3.2.2.1 q3.2.2.2.1 q3.2.2.2.2 (by omega) (by omega) (by show q3 = ftGmIn R9.2.1 R9.2.2 (w (44 + 2)) u (ftGmOut R9.2.1 R9.2.2 (w (44 + 2)) R9.1 (0, ga, gh, g1, g2) u) (R9.1 - (u + 1)); rw [hq3, ← hq2, show j - (u + 1) = R9.1 - (u + 1) by omega]) (by first | rfl | assumption) (by first | rfl | assumption) (by first | rfl | assumption) (by first | rfl | assumption) (by first | rfl | assumption) (by first | rfl | assumption) (by first | rfl | assumption) (by first | rfl | assumption) (by first | rfl | assumption) _ _ hP hD hS ls (lv_sub hl [1, 0] rfl)
                    · have c146n : j < R9.1 := ft_nleN (by omega) (by omega) c146
                      refine lv_aload_n hx hb dX11_layFlashes_149 rfl (lv_at hl 0 rfl) ?_
                      refine va_get (D := D) (ci := 11) (v := .ref p17) (C := RX11) (T := TX11) (N := 33) hx hb hts (by decide +kernel) hown hK hP 0 rfl rfl 17 (by decide) (hts (.fieldLink RX11 37 "FiberTraceModel" "flashHigh" "[I") (by decide +kernel)) (fun _ h9 => h9) rfl dX11_layFlashes_150 ?_
                      refine lv_iload_n hx hb dX11_layFlashes_153 rfl (lv_at hl 1 rfl) ?_
                      refine va_iald hx hb hK hP 3 0 rfl rfl (vp_in_nI (by omega) (by omega)) dX11_layFlashes_154 ?_
                      refine ft_top (y := R9.2.2 u) (ft_clampN (by omega)) ?_
                      refine lv_aload_n hx hb dX11_layFlashes_155 rfl (lv_at hl 0 rfl) ?_
                      refine va_get (D := D) (ci := 11) (v := .ref p17) (C := RX11) (T := TX11) (N := 33) hx hb hts (by decide +kernel) hown hK hP 0 rfl rfl 17 (by decide) (hts (.fieldLink RX11 37 "FiberTraceModel" "flashHigh" "[I") (by decide +kernel)) (fun _ h9 => h9) rfl dX11_layFlashes_156 ?_
                      refine lv_iload_n hx hb dX11_layFlashes_159 rfl (lv_at hl 2 rfl) ?_
                      refine va_iald hx hb hK hP 3 0 rfl rfl (vp_in_nI (by omega) (by omega)) dX11_layFlashes_160 ?_
                      refine ft_top (y := R9.2.2 j) (ft_clampN (by omega)) ?_
                      refine lv_iadd hx hb dX11_layFlashes_161 ?_
                      refine lv_iconst (v := 2) hx hb dX11_layFlashes_162 (by decide) ?_
                      refine lv_idiv hx hb dX11_layFlashes_163 (by decide) ?_
                      refine lv_aload_n hx hb dX11_layFlashes_164 rfl (lv_at hl 0 rfl) ?_
                      refine lv_iconst (v := 2) hx hb dX11_layFlashes_165 (by decide) ?_
                      refine ft_csi (r := w (44 + 2)) (va_runV (C := RX11) (As := [.int 2]) (rest := [.int (((R9.2.2 u) + (R9.2.2 j)) / 2)]) ⟨hx, hb, hml, hown, hts⟩ (c_X11_setting l D cI cS m0 p0 p1 p3 p5 p10 p12 p13 p14 p16 p17 p19 p20 p21 p22 p25 p26 p27 p28 p29 p30 p31 p32 i2 i4 i6 i7 i8 i9 i11 (nI R9.1) (nI q3.1) i23 i24 w 2 (by first | assumption | omega)) (cwV 1 hts gX11_layFlashes_X11_setting rfl rfl rfl (by decide +kernel) ⟨Nat.le_of_ble_eq_true rfl, Nat.le_of_ble_eq_true rfl⟩) (ft_preROV (ci := 11) (q0 := 0) hP hKK [0, 1] rfl rfl rfl) rfl rfl hl.1 rfl (lv_room (Nat.le_of_ble_eq_true rfl)) dX11_layFlashes_166 ⟨Nat.le_of_ble_eq_true rfl, Nat.le_of_ble_eq_true rfl⟩) ?_
                      refine lv_isub hx hb dX11_layFlashes_169 ?_
                      refine lv_istore_n (lv' := [(3, .int ((((R9.2.2 u) + (R9.2.2 j)) / 2) - (w (44 + 2)))), (0, .ref m0), (1, .int (nI u)), (2, .int (nI j))]) hx hb dX11_layFlashes_170 rfl hl (by decide) rfl (fun ls hl => ?_)
                      refine lv_iload_n hx hb dX11_layFlashes_171 rfl (lv_at hl 0 rfl) ?_
                      refine lv_if_le (tgt := 207) hx hb dX11_layFlashes_172 (by decide) (fun c172 => ?_) (fun c172 => ?_)
                      · obtain ⟨q4, hq4⟩ : ∃ q4, q4 = ftGmStep R9.2.1 R9.2.2 (w (44 + 2)) u j q3 := ⟨_, rfl⟩
                        have h4q : q4 = q3 := by rw [hq4]; exact if_neg (Int32.not_lt.mpr c172)
                        refine lv_iinc (v := nI (j + 1)) (lv' := [(2, .int (nI (j + 1))), (3, .int ((((R9.2.2 u) + (R9.2.2 j)) / 2) - (w (44 + 2)))), (0, .ref m0), (1, .int (nI u))]) hx hb dX11_layFlashes_207 hl (k := 3) rfl (ft_inc j) (by decide) rfl (fun ls hl => ?_)
                        refine lv_goto (tgt := 141) hx hb dX11_layFlashes_210 (by decide) ?_
                        exact ih141 (j + 1) q4 (nI (j + 1)) (nI q3.1) q3.2.1 q3.2.2.1 q3.2.2.2.1 q3.2.2.2.2 (by omega) (by omega) (by omega) (by rw [hq4, hq3, show j + 1 - (u + 1) = (j - (u + 1)) + 1 by omega, ftGmIn, show u + 1 + (j - (u + 1)) = j by omega]) (by first | rfl | assumption) (by first | (rw [h4q]; done) | (rw [h4q]; rfl)) (by first | (rw [h4q]; done) | (rw [h4q]; rfl)) (by first | (rw [h4q]; done) | (rw [h4q]; rfl)) (by first | (rw [h4q]; done) | (rw [h4q]; rfl)) (by first | (rw [h4q]; done) | (rw [h4q]; rfl)) _ _ hP hD hS ls (lv_sub hl [2, 3, 0] rfl)
                      · obtain ⟨q4, hq4⟩ : ∃ q4, q4 = ftGmStep R9.2.1 R9.2.2 (w (44 + 2)) u j q3 := ⟨_, rfl⟩
                        have h4q : q4 = ftGmIns q3 (2 * R9.2.1 j - R9.2.1 u) (ftGhH R9.2.2 (w (44 + 2)) u j) (R9.2.1 u) (R9.2.1 j) := by rw [hq4]; exact if_pos (Int32.not_le.mp c172)
                        refine lv_aload_n hx hb dX11_layFlashes_175 rfl (lv_at hl 1 rfl) ?_
                        refine lv_iconst (v := 2) hx hb dX11_layFlashes_176 (by decide) ?_
                        refine lv_aload_n hx hb dX11_layFlashes_177 rfl (lv_at hl 1 rfl) ?_
                        refine va_get (D := D) (ci := 11) (v := .ref p16) (C := RX11) (T := TX11) (N := 33) hx hb hts (by decide +kernel) hown hK hP 0 rfl rfl 16 (by decide) (hts (.fieldLink RX11 34 "FiberTraceModel" "flashAt" "[I") (by decide +kernel)) (fun _ h9 => h9) rfl dX11_layFlashes_178 ?_
                        refine lv_iload_n hx hb dX11_layFlashes_181 rfl (lv_at hl 3 rfl) ?_
                        refine va_iald hx hb hK hP 2 0 rfl rfl (vp_in_nI (by omega) (by omega)) dX11_layFlashes_182 ?_
                        refine ft_top (y := R9.2.1 j) (ft_clampN (by omega)) ?_
                        refine lv_imul hx hb dX11_layFlashes_183 ?_
                        refine lv_aload_n hx hb dX11_layFlashes_184 rfl (lv_at hl 1 rfl) ?_
                        refine va_get (D := D) (ci := 11) (v := .ref p16) (C := RX11) (T := TX11) (N := 33) hx hb hts (by decide +kernel) hown hK hP 0 rfl rfl 16 (by decide) (hts (.fieldLink RX11 34 "FiberTraceModel" "flashAt" "[I") (by decide +kernel)) (fun _ h9 => h9) rfl dX11_layFlashes_185 ?_
                        refine lv_iload_n hx hb dX11_layFlashes_188 rfl (lv_at hl 2 rfl) ?_
                        refine va_iald hx hb hK hP 2 0 rfl rfl (vp_in_nI (by omega) (by omega)) dX11_layFlashes_189 ?_
                        refine ft_top (y := R9.2.1 u) (ft_clampN (by omega)) ?_
                        refine lv_isub hx hb dX11_layFlashes_190 ?_
                        refine lv_iload_n hx hb dX11_layFlashes_191 rfl (lv_at hl 0 rfl) ?_
                        refine lv_aload_n hx hb dX11_layFlashes_192 rfl (lv_at hl 1 rfl) ?_
                        refine va_get (D := D) (ci := 11) (v := .ref p16) (C := RX11) (T := TX11) (N := 33) hx hb hts (by decide +kernel) hown hK hP 0 rfl rfl 16 (by decide) (hts (.fieldLink RX11 34 "FiberTraceModel" "flashAt" "[I") (by decide +kernel)) (fun _ h9 => h9) rfl dX11_layFlashes_193 ?_
                        refine lv_iload_n hx hb dX11_layFlashes_196 rfl (lv_at hl 2 rfl) ?_
                        refine va_iald hx hb hK hP 2 0 rfl rfl (vp_in_nI (by omega) (by omega)) dX11_layFlashes_197 ?_
                        refine ft_top (y := R9.2.1 u) (ft_clampN (by omega)) ?_
                        refine lv_aload_n hx hb dX11_layFlashes_198 rfl (lv_at hl 1 rfl) ?_
                        refine va_get (D := D) (ci := 11) (v := .ref p16) (C := RX11) (T := TX11) (N := 33) hx hb hts (by decide +kernel) hown hK hP 0 rfl rfl 16 (by decide) (hts (.fieldLink RX11 34 "FiberTraceModel" "flashAt" "[I") (by decide +kernel)) (fun _ h9 => h9) rfl dX11_layFlashes_199 ?_
                        refine lv_iload_n hx hb dX11_layFlashes_202 rfl (lv_at hl 3 rfl) ?_
                        refine va_iald hx hb hK hP 2 0 rfl rfl (vp_in_nI (by omega) (by omega)) dX11_layFlashes_203 ?_
                        refine ft_top (y := R9.2.1 j) (ft_clampN (by omega)) ?_
                        refine ft_cv (wc := [(m0, .inr (11, [.ref p0, .ref p1, .int i2, .ref p3, .int i4, .ref p5, .int i6, .int i7, .int i8, .int i9, .ref p10, .int i11, .ref p12, .ref p13, .ref p14, .int (nI R9.1), .ref p16, .ref p17, .int (nI q3.1), .ref p19, .ref p20, .ref p21, .ref p22, .int i23, .int i24, .ref p25, .ref p26, .ref p27, .ref p28, .ref p29, .ref p30, .ref p31, .ref p32])), (p19, .inl (cI, 55, .inl q3.2.1)), (p20, .inl (cI, 55, .inl q3.2.2.1)), (p21, .inl (cI, 55, .inl q3.2.2.2.1)), (p22, .inl (cI, 55, .inl q3.2.2.2.2))]) (wr := [(p0, .inl (cI, 1439, .inl w)), (p16, .inl (cI, 11, .inl R9.2.1)), (p17, .inl (cI, 11, .inl R9.2.2))]) (w1 := [(m0, .inr (11, [.ref p0, .ref p1, .int i2, .ref p3, .int i4, .ref p5, .int i6, .int i7, .int i8, .int i9, .ref p10, .int i11, .ref p12, .ref p13, .ref p14, .int (nI R9.1), .ref p16, .ref p17, .int (nI (ftGmIns (q3.1, q3.2.1, q3.2.2.1, q3.2.2.2.1, q3.2.2.2.2) ((2 * (R9.2.1 j)) - (R9.2.1 u)) ((((R9.2.2 u) + (R9.2.2 j)) / 2) - (w (44 + 2))) (R9.2.1 u) (R9.2.1 j)).1), .ref p19, .ref p20, .ref p21, .ref p22, .int i23, .int i24, .ref p25, .ref p26, .ref p27, .ref p28, .ref p29, .ref p30, .ref p31, .ref p32])), (p19, .inl (cI, 55, .inl ((ftGmIns (q3.1, q3.2.1, q3.2.2.1, q3.2.2.2.1, q3.2.2.2.2) ((2 * (R9.2.1 j)) - (R9.2.1 u)) ((((R9.2.2 u) + (R9.2.2 j)) / 2) - (w (44 + 2))) (R9.2.1 u) (R9.2.1 j)).2.1))), (p20, .inl (cI, 55, .inl ((ftGmIns (q3.1, q3.2.1, q3.2.2.1, q3.2.2.2.1, q3.2.2.2.2) ((2 * (R9.2.1 j)) - (R9.2.1 u)) ((((R9.2.2 u) + (R9.2.2 j)) / 2) - (w (44 + 2))) (R9.2.1 u) (R9.2.1 j)).2.2.1))), (p21, .inl (cI, 55, .inl ((ftGmIns (q3.1, q3.2.1, q3.2.2.1, q3.2.2.2.1, q3.2.2.2.2) ((2 * (R9.2.1 j)) - (R9.2.1 u)) ((((R9.2.2 u) + (R9.2.2 j)) / 2) - (w (44 + 2))) (R9.2.1 u) (R9.2.1 j)).2.2.2.1))), (p22, .inl (cI, 55, .inl ((ftGmIns (q3.1, q3.2.1, q3.2.2.1, q3.2.2.2.1, q3.2.2.2.2) ((2 * (R9.2.1 j)) - (R9.2.1 u)) ((((R9.2.2 u) + (R9.2.2 j)) / 2) - (w (44 + 2))) (R9.2.1 u) (R9.2.1 j)).2.2.2.2)))]) (ws1 := [(m0, .inr (11, [.ref p0, .ref p1, .int i2, .ref p3, .int i4, .ref p5, .int i6, .int i7, .int i8, .int i9, .ref p10, .int i11, .ref p12, .ref p13, .ref p14, .int (nI R9.1), .ref p16, .ref p17, .int (nI (ftGmIns (q3.1, q3.2.1, q3.2.2.1, q3.2.2.2.1, q3.2.2.2.2) ((2 * (R9.2.1 j)) - (R9.2.1 u)) ((((R9.2.2 u) + (R9.2.2 j)) / 2) - (w (44 + 2))) (R9.2.1 u) (R9.2.1 j)).1), .ref p19, .ref p20, .ref p21, .ref p22, .int i23, .int i24, .ref p25, .ref p26, .ref p27, .ref p28, .ref p29, .ref p30, .ref p31, .ref p32])), (p0, .inl (cI, 1439, .inl w)), (p16, .inl (cI, 11, .inl R9.2.1)), (p17, .inl (cI, 11, .inl R9.2.2)), (p19, .inl (cI, 55, .inl ((ftGmIns (q3.1, q3.2.1, q3.2.2.1, q3.2.2.2.1, q3.2.2.2.2) ((2 * (R9.2.1 j)) - (R9.2.1 u)) ((((R9.2.2 u) + (R9.2.2 j)) / 2) - (w (44 + 2))) (R9.2.1 u) (R9.2.1 j)).2.1))), (p20, .inl (cI, 55, .inl ((ftGmIns (q3.1, q3.2.1, q3.2.2.1, q3.2.2.2.1, q3.2.2.2.2) ((2 * (R9.2.1 j)) - (R9.2.1 u)) ((((R9.2.2 u) + (R9.2.2 j)) / 2) - (w (44 + 2))) (R9.2.1 u) (R9.2.1 j)).2.2.1))), (p21, .inl (cI, 55, .inl ((ftGmIns (q3.1, q3.2.1, q3.2.2.1, q3.2.2.2.1, q3.2.2.2.2) ((2 * (R9.2.1 j)) - (R9.2.1 u)) ((((R9.2.2 u) + (R9.2.2 j)) / 2) - (w (44 + 2))) (R9.2.1 u) (R9.2.1 j)).2.2.2.1))), (p22, .inl (cI, 55, .inl ((ftGmIns (q3.1, q3.2.1, q3.2.2.1, q3.2.2.2.1, q3.2.2.2.2) ((2 * (R9.2.1 j)) - (R9.2.1 u)) ((((R9.2.2 u) + (R9.2.2 j)) / 2) - (w (44 + 2))) (R9.2.1 u) (R9.2.1 j)).2.2.2.2)))]) (va_runV (C := RX11) (As := [.int ((2 * (R9.2.1 j)) - (R9.2.1 u)), .int ((((R9.2.2 u) + (R9.2.2 j)) / 2) - (w (44 + 2))), .int (R9.2.1 u), .int (R9.2.1 j)]) (rest := []) ⟨hx, hb, hml, hown, hts⟩ (c_X11_ghostComes l D cI cS H.size m0 p0 p1 p3 p5 p10 p12 p13 p14 p16 p17 p19 p20 p21 p22 p25 p26 p27 p28 p29 p30 p31 p32 i2 i4 i6 i7 i8 i9 i11 (nI R9.1) i23 i24 q3.2.1 q3.2.2.1 q3.2.2.2.1 q3.2.2.2.2 q3.1 ((2 * (R9.2.1 j)) - (R9.2.1 u)) ((((R9.2.2 u) + (R9.2.2 j)) / 2) - (w (44 + 2))) (R9.2.1 u) (R9.2.1 j) (by first | assumption | omega)) (cwV 4 hts gX11_layFlashes_X11_ghostComes rfl rfl rfl (by decide +kernel) ⟨Nat.le_of_ble_eq_true rfl, Nat.le_of_ble_eq_true rfl⟩) (ft_preRWV (ci := 11) (q0 := 0) hP hD hKK [0, 4, 5, 6, 7] rfl rfl rfl rfl rfl) rfl rfl hl.1 rfl (lv_room (Nat.le_of_ble_eq_true rfl)) dX11_layFlashes_204 ⟨Nat.le_of_ble_eq_true rfl, Nat.le_of_ble_eq_true rfl⟩) hP hD hS hA [0, 4, 5, 6, 7] [1, 2, 3] [3, 0, 1, 2, 4, 5, 6, 7] rfl rfl (by decide) (by decide) (by decide) rfl rfl (fun H locs hP hD hS => ?_)
                        have hP : va_P D vwCl [(m0, .inr (11, [.ref p0, .ref p1, .int i2, .ref p3, .int i4, .ref p5, .int i6, .int i7, .int i8, .int i9, .ref p10, .int i11, .ref p12, .ref p13, .ref p14, .int (nI R9.1), .ref p16, .ref p17, .int (nI (ftGmIns (q3.1, q3.2.1, q3.2.2.1, q3.2.2.2.1, q3.2.2.2.2) ((2 * (R9.2.1 j)) - (R9.2.1 u)) ((((R9.2.2 u) + (R9.2.2 j)) / 2) - (w (44 + 2))) (R9.2.1 u) (R9.2.1 j)).1), .ref p19, .ref p20, .ref p21, .ref p22, .int i23, .int i24, .ref p25, .ref p26, .ref p27, .ref p28, .ref p29, .ref p30, .ref p31, .ref p32])), (p0, .inl (cI, 1439, .inl w)), (p16, .inl (cI, 11, .inl R9.2.1)), (p17, .inl (cI, 11, .inl R9.2.2)), (p19, .inl (cI, 55, .inl ((ftGmIns (q3.1, q3.2.1, q3.2.2.1, q3.2.2.2.1, q3.2.2.2.2) ((2 * (R9.2.1 j)) - (R9.2.1 u)) ((((R9.2.2 u) + (R9.2.2 j)) / 2) - (w (44 + 2))) (R9.2.1 u) (R9.2.1 j)).2.1))), (p20, .inl (cI, 55, .inl ((ftGmIns (q3.1, q3.2.1, q3.2.2.1, q3.2.2.2.1, q3.2.2.2.2) ((2 * (R9.2.1 j)) - (R9.2.1 u)) ((((R9.2.2 u) + (R9.2.2 j)) / 2) - (w (44 + 2))) (R9.2.1 u) (R9.2.1 j)).2.2.1))), (p21, .inl (cI, 55, .inl ((ftGmIns (q3.1, q3.2.1, q3.2.2.1, q3.2.2.2.1, q3.2.2.2.2) ((2 * (R9.2.1 j)) - (R9.2.1 u)) ((((R9.2.2 u) + (R9.2.2 j)) / 2) - (w (44 + 2))) (R9.2.1 u) (R9.2.1 j)).2.2.2.1))), (p22, .inl (cI, 55, .inl ((ftGmIns (q3.1, q3.2.1, q3.2.2.1, q3.2.2.2.1, q3.2.2.2.2) ((2 * (R9.2.1 j)) - (R9.2.1 u)) ((((R9.2.2 u) + (R9.2.2 j)) / 2) - (w (44 + 2))) (R9.2.1 u) (R9.2.1 j)).2.2.2.2)))] H := hP
                        have hD : va_D A [(m0, .inr (11, [.ref p0, .ref p1, .int i2, .ref p3, .int i4, .ref p5, .int i6, .int i7, .int i8, .int i9, .ref p10, .int i11, .ref p12, .ref p13, .ref p14, .int (nI R9.1), .ref p16, .ref p17, .int (nI (ftGmIns (q3.1, q3.2.1, q3.2.2.1, q3.2.2.2.1, q3.2.2.2.2) ((2 * (R9.2.1 j)) - (R9.2.1 u)) ((((R9.2.2 u) + (R9.2.2 j)) / 2) - (w (44 + 2))) (R9.2.1 u) (R9.2.1 j)).1), .ref p19, .ref p20, .ref p21, .ref p22, .int i23, .int i24, .ref p25, .ref p26, .ref p27, .ref p28, .ref p29, .ref p30, .ref p31, .ref p32])), (p0, .inl (cI, 1439, .inl w)), (p16, .inl (cI, 11, .inl R9.2.1)), (p17, .inl (cI, 11, .inl R9.2.2)), (p19, .inl (cI, 55, .inl ((ftGmIns (q3.1, q3.2.1, q3.2.2.1, q3.2.2.2.1, q3.2.2.2.2) ((2 * (R9.2.1 j)) - (R9.2.1 u)) ((((R9.2.2 u) + (R9.2.2 j)) / 2) - (w (44 + 2))) (R9.2.1 u) (R9.2.1 j)).2.1))), (p20, .inl (cI, 55, .inl ((ftGmIns (q3.1, q3.2.1, q3.2.2.1, q3.2.2.2.1, q3.2.2.2.2) ((2 * (R9.2.1 j)) - (R9.2.1 u)) ((((R9.2.2 u) + (R9.2.2 j)) / 2) - (w (44 + 2))) (R9.2.1 u) (R9.2.1 j)).2.2.1))), (p21, .inl (cI, 55, .inl ((ftGmIns (q3.1, q3.2.1, q3.2.2.1, q3.2.2.2.1, q3.2.2.2.2) ((2 * (R9.2.1 j)) - (R9.2.1 u)) ((((R9.2.2 u) + (R9.2.2 j)) / 2) - (w (44 + 2))) (R9.2.1 u) (R9.2.1 j)).2.2.2.1))), (p22, .inl (cI, 55, .inl ((ftGmIns (q3.1, q3.2.1, q3.2.2.1, q3.2.2.2.1, q3.2.2.2.2) ((2 * (R9.2.1 j)) - (R9.2.1 u)) ((((R9.2.2 u) + (R9.2.2 j)) / 2) - (w (44 + 2))) (R9.2.1 u) (R9.2.1 j)).2.2.2.2)))] := hD
                        refine lv_iinc (v := nI (j + 1)) (lv' := [(2, .int (nI (j + 1))), (3, .int ((((R9.2.2 u) + (R9.2.2 j)) / 2) - (w (44 + 2)))), (0, .ref m0), (1, .int (nI u))]) hx hb dX11_layFlashes_207 hl (k := 3) rfl (ft_inc j) (by decide) rfl (fun ls hl => ?_)
                        refine lv_goto (tgt := 141) hx hb dX11_layFlashes_210 (by decide) ?_
                        exact ih141 (j + 1) q4 (nI (j + 1)) (nI (ftGmIns (q3.1, q3.2.1, q3.2.2.1, q3.2.2.2.1, q3.2.2.2.2) ((2 * (R9.2.1 j)) - (R9.2.1 u)) ((((R9.2.2 u) + (R9.2.2 j)) / 2) - (w (44 + 2))) (R9.2.1 u) (R9.2.1 j)).1) ((ftGmIns (q3.1, q3.2.1, q3.2.2.1, q3.2.2.2.1, q3.2.2.2.2) ((2 * (R9.2.1 j)) - (R9.2.1 u)) ((((R9.2.2 u) + (R9.2.2 j)) / 2) - (w (44 + 2))) (R9.2.1 u) (R9.2.1 j)).2.1) ((ftGmIns (q3.1, q3.2.1, q3.2.2.1, q3.2.2.2.1, q3.2.2.2.2) ((2 * (R9.2.1 j)) - (R9.2.1 u)) ((((R9.2.2 u) + (R9.2.2 j)) / 2) - (w (44 + 2))) (R9.2.1 u) (R9.2.1 j)).2.2.1) ((ftGmIns (q3.1, q3.2.1, q3.2.2.1, q3.2.2.2.1, q3.2.2.2.2) ((2 * (R9.2.1 j)) - (R9.2.1 u)) ((((R9.2.2 u) + (R9.2.2 j)) / 2) - (w (44 + 2))) (R9.2.1 u) (R9.2.1 j)).2.2.2.1) ((ftGmIns (q3.1, q3.2.1, q3.2.2.1, q3.2.2.2.1, q3.2.2.2.2) ((2 * (R9.2.1 j)) - (R9.2.1 u)) ((((R9.2.2 u) + (R9.2.2 j)) / 2) - (w (44 + 2))) (R9.2.1 u) (R9.2.1 j)).2.2.2.2) (by omega) (by omega) (by omega) (by rw [hq4, hq3, show j + 1 - (u + 1) = (j - (u + 1)) + 1 by omega, ftGmIn, show u + 1 + (j - (u + 1)) = j by omega]) (by first | rfl | assumption) (by first | (rw [h4q]; done) | (rw [h4q]; rfl)) (by first | (rw [h4q]; done) | (rw [h4q]; rfl)) (by first | (rw [h4q]; done) | (rw [h4q]; rfl)) (by first | (rw [h4q]; done) | (rw [h4q]; rfl)) (by first | (rw [h4q]; done) | (rw [h4q]; rfl)) _ _ hP hD hS ls (lv_sub hl [2, 3, 0] rfl)
                exact lp141 _ (u + 1) q2 (nI (u + 1)) (nI q2.1) q2.2.1 q2.2.2.1 q2.2.2.2.1 q2.2.2.2.2 (Nat.lt_succ_self _) (by omega) (by omega) (by rw [Nat.sub_self]; rfl) (by rfl) (by rfl) (by rfl) (by rfl) (by rfl) (by rfl) _ _ hP hD hS ls (lv_sub hl [1, 2, 0] rfl)
          exact lp129 _ 0 (0, ga, gh, g1, g2) 0 (nI (q + 1)) (upd g7_p16 q (w 0)) (upd g7_p17 q (w 2)) 0 ga gh g1 g2 (Nat.lt_succ_self _) (by omega) (by rfl) (by rfl) (by rw [hR9]; first | (rw [ftFlE_f (Int32.not_lt.mpr c79), hq, show i = n by omega]; done) | (rw [ftFlE_t (Int32.not_le.mp c79), hq, show i = n by omega]; done)) (by rw [hR9]; first | (rw [ftFlE_f (Int32.not_lt.mpr c79), eg7_p16, show i = n by omega]; done) | (rw [ftFlE_t (Int32.not_le.mp c79), eg7_p16, hq, show i = n by omega]; done)) (by rw [hR9]; first | (rw [ftFlE_f (Int32.not_lt.mpr c79), eg7_p17, show i = n by omega]; done) | (rw [ftFlE_t (Int32.not_le.mp c79), eg7_p17, hq, show i = n by omega]; done)) (by rfl) (by rfl) (by rfl) (by rfl) (by rfl) _ _ hP hD hS ls (lv_sub hl [1, 0] rfl)
      · have c14n : i < n := ft_nleN (by omega) (by omega) c14
        refine lv_aload_n hx hb dX11_layFlashes_17 rfl (lv_at hl 0 rfl) ?_
        refine lv_iload_n hx hb dX11_layFlashes_18 rfl (lv_at hl 1 rfl) ?_
        refine lv_iconst (v := 0) hx hb dX11_layFlashes_19 (by decide) ?_
        refine ft_csi (r := w (4 + 4 * i + 0)) (va_runV (C := RX11) (As := [.int (nI i), .int 0]) (rest := []) ⟨hx, hb, hml, hown, hts⟩ (c_X11_at l D cI cS m0 p0 p1 p3 p5 p10 p12 p13 p14 p16 p17 p19 p20 p21 p22 p25 p26 p27 p28 p29 p30 p31 p32 i2 i4 i6 i7 i8 i9 i11 (nI q) i18 i23 i24 w i 0 (by first | assumption | omega) (by first | assumption | omega)) (cwV 2 hts gX11_layFlashes_X11_at rfl rfl rfl (by decide +kernel) ⟨Nat.le_of_ble_eq_true rfl, Nat.le_of_ble_eq_true rfl⟩) (ft_preROV (ci := 11) (q0 := 0) hP hKK [0, 1] rfl rfl rfl) rfl rfl hl.1 rfl (lv_room (Nat.le_of_ble_eq_true rfl)) dX11_layFlashes_20 ⟨Nat.le_of_ble_eq_true rfl, Nat.le_of_ble_eq_true rfl⟩) ?_
        refine lv_iconst (v := 1) hx hb dX11_layFlashes_23 (by decide) ?_
        refine lv_icmp_ne (tgt := 67) hx hb dX11_layFlashes_24 (by decide) (fun c24 => ?_) (fun c24 => ?_)
        · refine lv_iinc (v := nI (i + 1)) (lv' := [(1, .int (nI (i + 1))), (0, .ref m0)]) hx hb dX11_layFlashes_67 hl (k := 1) rfl (ft_inc i) (by decide) rfl (fun ls hl => ?_)
          refine lv_goto (tgt := 7) hx hb dX11_layFlashes_70 (by decide) ?_
          exact ih7 (i + 1) q (nI (i + 1)) (nI q) g7_p16 g7_p17 (by omega) (by omega) (by first | (rw [ftFl_t (i := i) c24, hq]; done) | (rw [ftFl_f (i := i) c24]; exact hq)) (by first | rfl | assumption) (by first | rfl | assumption) (by first | (rw [ftFl_t (i := i) c24, eg7_p16, hq]; done) | (rw [ftFl_f (i := i) c24]; exact eg7_p16)) (by first | (rw [ftFl_t (i := i) c24, eg7_p17, hq]; done) | (rw [ftFl_f (i := i) c24]; exact eg7_p17)) _ _ hP hD hS ls (lv_sub hl [1, 0] rfl)
        · refine lv_aload_n hx hb dX11_layFlashes_27 rfl (lv_at hl 0 rfl) ?_
          refine va_get (D := D) (ci := 11) (v := .ref p16) (C := RX11) (T := TX11) (N := 33) hx hb hts (by decide +kernel) hown hK hP 0 rfl rfl 16 (by decide) (hts (.fieldLink RX11 34 "FiberTraceModel" "flashAt" "[I") (by decide +kernel)) (fun _ h9 => h9) rfl dX11_layFlashes_28 ?_
          refine lv_aload_n hx hb dX11_layFlashes_31 rfl (lv_at hl 0 rfl) ?_
          refine va_get (D := D) (ci := 11) (v := .int (nI q)) (C := RX11) (T := TX11) (N := 33) hx hb hts (by decide +kernel) hown hK hP 0 rfl rfl 15 (by decide) (hts (.fieldLink RX11 205 "FiberTraceModel" "flashMany" "I") (by decide +kernel)) (fun _ h9 => h9) rfl dX11_layFlashes_32 ?_
          refine lv_aload_n hx hb dX11_layFlashes_35 rfl (lv_at hl 0 rfl) ?_
          refine lv_iload_n hx hb dX11_layFlashes_36 rfl (lv_at hl 1 rfl) ?_
          refine lv_iconst (v := 1) hx hb dX11_layFlashes_37 (by decide) ?_
          refine ft_csi (r := w (4 + 4 * i + 1)) (va_runV (C := RX11) (As := [.int (nI i), .int 1]) (rest := [.int (nI q), .ref p16]) ⟨hx, hb, hml, hown, hts⟩ (c_X11_at l D cI cS m0 p0 p1 p3 p5 p10 p12 p13 p14 p16 p17 p19 p20 p21 p22 p25 p26 p27 p28 p29 p30 p31 p32 i2 i4 i6 i7 i8 i9 i11 (nI q) i18 i23 i24 w i 1 (by first | assumption | omega) (by first | assumption | omega)) (cwV 2 hts gX11_layFlashes_X11_at rfl rfl rfl (by decide +kernel) ⟨Nat.le_of_ble_eq_true rfl, Nat.le_of_ble_eq_true rfl⟩) (ft_preROV (ci := 11) (q0 := 0) hP hKK [0, 1] rfl rfl rfl) rfl rfl hl.1 rfl (lv_room (Nat.le_of_ble_eq_true rfl)) dX11_layFlashes_38 ⟨Nat.le_of_ble_eq_true rfl, Nat.le_of_ble_eq_true rfl⟩) ?_
          refine va_iast hx hb hK hP hD hS 2 0 rfl rfl (vp_in_nI (by omega) (by omega)) dX11_layFlashes_41 (fun H locs hP hD hS => ?_)
          rw [nI_clamp (show q < 2 ^ 31 by omega)] at hP hD
          have hP : va_P D vwCl [(m0, .inr (11, [.ref p0, .ref p1, .int i2, .ref p3, .int i4, .ref p5, .int i6, .int i7, .int i8, .int i9, .ref p10, .int i11, .ref p12, .ref p13, .ref p14, .int (nI q), .ref p16, .ref p17, .int i18, .ref p19, .ref p20, .ref p21, .ref p22, .int i23, .int i24, .ref p25, .ref p26, .ref p27, .ref p28, .ref p29, .ref p30, .ref p31, .ref p32])), (p0, .inl (cI, 1439, .inl w)), (p16, .inl (cI, 11, .inl (upd g7_p16 q (w (4 + 4 * i + 1))))), (p17, .inl (cI, 11, .inl g7_p17)), (p19, .inl (cI, 55, .inl ga)), (p20, .inl (cI, 55, .inl gh)), (p21, .inl (cI, 55, .inl g1)), (p22, .inl (cI, 55, .inl g2))] H := hP
          have hD : va_D A [(m0, .inr (11, [.ref p0, .ref p1, .int i2, .ref p3, .int i4, .ref p5, .int i6, .int i7, .int i8, .int i9, .ref p10, .int i11, .ref p12, .ref p13, .ref p14, .int (nI q), .ref p16, .ref p17, .int i18, .ref p19, .ref p20, .ref p21, .ref p22, .int i23, .int i24, .ref p25, .ref p26, .ref p27, .ref p28, .ref p29, .ref p30, .ref p31, .ref p32])), (p0, .inl (cI, 1439, .inl w)), (p16, .inl (cI, 11, .inl (upd g7_p16 q (w (4 + 4 * i + 1))))), (p17, .inl (cI, 11, .inl g7_p17)), (p19, .inl (cI, 55, .inl ga)), (p20, .inl (cI, 55, .inl gh)), (p21, .inl (cI, 55, .inl g1)), (p22, .inl (cI, 55, .inl g2))] := hD
          refine lv_aload_n hx hb dX11_layFlashes_42 rfl (lv_at hl 0 rfl) ?_
          refine va_get (D := D) (ci := 11) (v := .ref p17) (C := RX11) (T := TX11) (N := 33) hx hb hts (by decide +kernel) hown hK hP 0 rfl rfl 17 (by decide) (hts (.fieldLink RX11 37 "FiberTraceModel" "flashHigh" "[I") (by decide +kernel)) (fun _ h9 => h9) rfl dX11_layFlashes_43 ?_
          refine lv_aload_n hx hb dX11_layFlashes_46 rfl (lv_at hl 0 rfl) ?_
          refine va_get (D := D) (ci := 11) (v := .int (nI q)) (C := RX11) (T := TX11) (N := 33) hx hb hts (by decide +kernel) hown hK hP 0 rfl rfl 15 (by decide) (hts (.fieldLink RX11 205 "FiberTraceModel" "flashMany" "I") (by decide +kernel)) (fun _ h9 => h9) rfl dX11_layFlashes_47 ?_
          refine lv_aload_n hx hb dX11_layFlashes_50 rfl (lv_at hl 0 rfl) ?_
          refine lv_iload_n hx hb dX11_layFlashes_51 rfl (lv_at hl 1 rfl) ?_
          refine lv_iconst (v := 3) hx hb dX11_layFlashes_52 (by decide) ?_
          refine ft_csi (r := w (4 + 4 * i + 3)) (va_runV (C := RX11) (As := [.int (nI i), .int 3]) (rest := [.int (nI q), .ref p17]) ⟨hx, hb, hml, hown, hts⟩ (c_X11_at l D cI cS m0 p0 p1 p3 p5 p10 p12 p13 p14 p16 p17 p19 p20 p21 p22 p25 p26 p27 p28 p29 p30 p31 p32 i2 i4 i6 i7 i8 i9 i11 (nI q) i18 i23 i24 w i 3 (by first | assumption | omega) (by first | assumption | omega)) (cwV 2 hts gX11_layFlashes_X11_at rfl rfl rfl (by decide +kernel) ⟨Nat.le_of_ble_eq_true rfl, Nat.le_of_ble_eq_true rfl⟩) (ft_preROV (ci := 11) (q0 := 0) hP hKK [0, 1] rfl rfl rfl) rfl rfl hl.1 rfl (lv_room (Nat.le_of_ble_eq_true rfl)) dX11_layFlashes_53 ⟨Nat.le_of_ble_eq_true rfl, Nat.le_of_ble_eq_true rfl⟩) ?_
          refine va_iast hx hb hK hP hD hS 3 0 rfl rfl (vp_in_nI (by omega) (by omega)) dX11_layFlashes_56 (fun H locs hP hD hS => ?_)
          rw [nI_clamp (show q < 2 ^ 31 by omega)] at hP hD
          have hP : va_P D vwCl [(m0, .inr (11, [.ref p0, .ref p1, .int i2, .ref p3, .int i4, .ref p5, .int i6, .int i7, .int i8, .int i9, .ref p10, .int i11, .ref p12, .ref p13, .ref p14, .int (nI q), .ref p16, .ref p17, .int i18, .ref p19, .ref p20, .ref p21, .ref p22, .int i23, .int i24, .ref p25, .ref p26, .ref p27, .ref p28, .ref p29, .ref p30, .ref p31, .ref p32])), (p0, .inl (cI, 1439, .inl w)), (p16, .inl (cI, 11, .inl (upd g7_p16 q (w (4 + 4 * i + 1))))), (p17, .inl (cI, 11, .inl (upd g7_p17 q (w (4 + 4 * i + 3))))), (p19, .inl (cI, 55, .inl ga)), (p20, .inl (cI, 55, .inl gh)), (p21, .inl (cI, 55, .inl g1)), (p22, .inl (cI, 55, .inl g2))] H := hP
          have hD : va_D A [(m0, .inr (11, [.ref p0, .ref p1, .int i2, .ref p3, .int i4, .ref p5, .int i6, .int i7, .int i8, .int i9, .ref p10, .int i11, .ref p12, .ref p13, .ref p14, .int (nI q), .ref p16, .ref p17, .int i18, .ref p19, .ref p20, .ref p21, .ref p22, .int i23, .int i24, .ref p25, .ref p26, .ref p27, .ref p28, .ref p29, .ref p30, .ref p31, .ref p32])), (p0, .inl (cI, 1439, .inl w)), (p16, .inl (cI, 11, .inl (upd g7_p16 q (w (4 + 4 * i + 1))))), (p17, .inl (cI, 11, .inl (upd g7_p17 q (w (4 + 4 * i + 3))))), (p19, .inl (cI, 55, .inl ga)), (p20, .inl (cI, 55, .inl gh)), (p21, .inl (cI, 55, .inl g1)), (p22, .inl (cI, 55, .inl g2))] := hD
          refine lv_aload_n hx hb dX11_layFlashes_57 rfl (lv_at hl 0 rfl) ?_
          refine lv_dup hx hb dX11_layFlashes_58 rfl ?_
          refine va_get (D := D) (ci := 11) (v := .int (nI q)) (C := RX11) (T := TX11) (N := 33) hx hb hts (by decide +kernel) hown hK hP 0 rfl rfl 15 (by decide) (hts (.fieldLink RX11 205 "FiberTraceModel" "flashMany" "I") (by decide +kernel)) (fun _ h9 => h9) rfl dX11_layFlashes_59 ?_
          refine lv_iconst (v := 1) hx hb dX11_layFlashes_62 (by decide) ?_
          refine lv_iadd hx hb dX11_layFlashes_63 ?_
          refine ft_top (y := nI (q + 1)) (ft_addN q 1) ?_
          refine va_put (D := D) (ci := 11) (v := .int (nI (q + 1))) (ty := .int) (C := RX11) (T := TX11) (N := 33) hx hb hts (by decide +kernel) tyX11 tyX11_ok nmX11 hown hK hP hD hS 0 rfl rfl 15 (by decide) (hts (.fieldLink RX11 205 "FiberTraceModel" "flashMany" "I") (by decide +kernel)) (fun _ h9 => h9) rfl (by decide +kernel) rfl rfl (Nat.le_of_ble_eq_true rfl) dX11_layFlashes_64 (fun H locs hP hD hS => ?_)
          have hP : va_P D vwCl [(m0, .inr (11, [.ref p0, .ref p1, .int i2, .ref p3, .int i4, .ref p5, .int i6, .int i7, .int i8, .int i9, .ref p10, .int i11, .ref p12, .ref p13, .ref p14, .int (nI (q + 1)), .ref p16, .ref p17, .int i18, .ref p19, .ref p20, .ref p21, .ref p22, .int i23, .int i24, .ref p25, .ref p26, .ref p27, .ref p28, .ref p29, .ref p30, .ref p31, .ref p32])), (p0, .inl (cI, 1439, .inl w)), (p16, .inl (cI, 11, .inl (upd g7_p16 q (w (4 + 4 * i + 1))))), (p17, .inl (cI, 11, .inl (upd g7_p17 q (w (4 + 4 * i + 3))))), (p19, .inl (cI, 55, .inl ga)), (p20, .inl (cI, 55, .inl gh)), (p21, .inl (cI, 55, .inl g1)), (p22, .inl (cI, 55, .inl g2))] H := hP
          have hD : va_D A [(m0, .inr (11, [.ref p0, .ref p1, .int i2, .ref p3, .int i4, .ref p5, .int i6, .int i7, .int i8, .int i9, .ref p10, .int i11, .ref p12, .ref p13, .ref p14, .int (nI (q + 1)), .ref p16, .ref p17, .int i18, .ref p19, .ref p20, .ref p21, .ref p22, .int i23, .int i24, .ref p25, .ref p26, .ref p27, .ref p28, .ref p29, .ref p30, .ref p31, .ref p32])), (p0, .inl (cI, 1439, .inl w)), (p16, .inl (cI, 11, .inl (upd g7_p16 q (w (4 + 4 * i + 1))))), (p17, .inl (cI, 11, .inl (upd g7_p17 q (w (4 + 4 * i + 3))))), (p19, .inl (cI, 55, .inl ga)), (p20, .inl (cI, 55, .inl gh)), (p21, .inl (cI, 55, .inl g1)), (p22, .inl (cI, 55, .inl g2))] := hD
          refine lv_iinc (v := nI (i + 1)) (lv' := [(1, .int (nI (i + 1))), (0, .ref m0)]) hx hb dX11_layFlashes_67 hl (k := 1) rfl (ft_inc i) (by decide) rfl (fun ls hl => ?_)
          refine lv_goto (tgt := 7) hx hb dX11_layFlashes_70 (by decide) ?_
          exact ih7 (i + 1) (q + 1) (nI (i + 1)) (nI (q + 1)) (upd g7_p16 q (w (4 + 4 * i + 1))) (upd g7_p17 q (w (4 + 4 * i + 3))) (by omega) (by omega) (by first | (rw [ftFl_t (i := i) c24, hq]; done) | (rw [ftFl_f (i := i) c24]; exact hq)) (by first | rfl | assumption) (by first | rfl | assumption) (by first | (rw [ftFl_t (i := i) c24, eg7_p16, hq]; done) | (rw [ftFl_f (i := i) c24]; exact eg7_p16)) (by first | (rw [ftFl_t (i := i) c24, eg7_p17, hq]; done) | (rw [ftFl_f (i := i) c24]; exact eg7_p17)) _ _ hP hD hS ls (lv_sub hl [1, 0] rfl)
  exact lp7 _ 0 0 0 0 fa fh (Nat.lt_succ_self _) (by omega) (by rfl) (by rfl) (by rfl) (by rfl) (by rfl) _ _ hP hD hS ls (lv_sub hl [1, 0] rfl)
end
section
/-! the reference: reading -/
def ftV (fb fp fn : Nat → Int32) : Nat → Int32 := fun t => fb t + fp t + fn t
def ftRoM (eb ek : Nat → Int32) : Nat → Nat → Int32 := fun c => if c = 4 then ek else eb
def ftMk1 (o : Option (Nat × Nat)) (f : Nat → Int32) (e : Nat) : Nat → Int32 := match o with
  | none => f
  | some (i, _) => upd f e (nI i)
def ftMk2 (o : Option (Nat × Nat)) (f : Nat → Int32) (e : Nat) : Nat → Int32 := match o with
  | none => f
  | some (_, j) => upd f e (nI j)
theorem ftMkM {eb ek : Nat → Int32} {tl : Int32} {i j e : Nat} (h1 : ek i = 1) (h2 : ek j = 1) (h3 : ftSz (2 * eb j - eb i - eb e) ≤ tl) : ftMk (ftRoM eb ek) tl i j e := ⟨h1, h2, by rw [ftSz_abs] at h3; exact h3⟩
theorem ftMkM_1 {eb ek : Nat → Int32} {tl : Int32} {i j e : Nat} (h1 : ¬ ek i = 1) : ¬ ftMk (ftRoM eb ek) tl i j e := fun q => h1 q.1
theorem ftMkM_2 {eb ek : Nat → Int32} {tl : Int32} {i j e : Nat} (h1 : ¬ ek j = 1) : ¬ ftMk (ftRoM eb ek) tl i j e := fun q => h1 q.2.1
theorem ftMkM_3 {eb ek : Nat → Int32} {tl : Int32} {i j e : Nat} (h1 : tl < ftSz (2 * eb j - eb i - eb e)) : ¬ ftMk (ftRoM eb ek) tl i j e := fun q => absurd q.2.2 (by rw [ftSz_abs] at h1; exact Int32.not_le.mpr h1)
set_option maxHeartbeats 4000000 in
set_option maxRecDepth 100000 in
theorem c_X11_endOf (l : Launch) (D : va_G) (cI cS : ClassId) (m0 p0 p1 p3 p5 p10 p12 p13 p14 p16 p17 p19 p20 p21 p22 p25 p26 p27 p28 p29 p30 p31 p32 : Nat) (i2 i4 i6 i7 i8 i9 i11 i15 i18 i23 i24 : Int32) (w fb fp fn : Nat → Int32) (ln wd x : Nat) (rb : Int32) (hw0 : w 0 = nI ln) (hln : ln ≤ 400) (hs0 : w (44 + 0) = nI wd) (hwd : wd ≤ 20) (hwd1 : 1 ≤ wd) (hx4 : x ≤ 500) : Met l yX11_endOf wsX11_endOf ({ frames := 1, cells := 0, slots := 0, locals := 21 }) (ftRO D cI cS [.ref m0, .int (nI x), .int rb] [(m0, .inr (11, [.ref p0, .ref p1, .int i2, .ref p3, .int i4, .ref p5, .int i6, .int i7, .int i8, .int i9, .ref p10, .int i11, .ref p12, .ref p13, .ref p14, .int i15, .ref p16, .ref p17, .int i18, .ref p19, .ref p20, .ref p21, .ref p22, .int i23, .int i24, .ref p25, .ref p26, .ref p27, .ref p28, .ref p29, .ref p30, .ref p31, .ref p32])), (p0, .inl (cI, 1439, .inl w)), (p12, .inl (cI, 460, .inl fb)), (p13, .inl (cI, 460, .inl fp)), (p14, .inl (cI, 460, .inl fn))]) (vp_Si (fun o9 => o9 = nI (ftEnd (ftV fb fp fn) (w (44 + 7)) (ln + 60 - 1) (if rb = 0 then x else x + wd - 1)))) 0 0 (fun _ => False) := by
  refine Met.ofW (cc := cX11_endOf) (maxL := 5) (ret := (some .int)) (by decide) rfl ?_
  intro p e s m args below meth c s₁ B hml hv
  obtain ⟨rfl, hP, hKK⟩ := hv
  have hK := hKK.1
  have hx := B.exec
  have hb := B.bytes
  have hr := B.returns
  have hts := atoms_spec (ws := wsX11_endOf) B.pre
  have hown : s.vm.findClass RX11 = some m.cls := findClass_of_methodNamed B.named
  have hlocks := B.notSynchronized
  have hP : va_P D vwCl [(m0, .inr (11, [.ref p0, .ref p1, .int i2, .ref p3, .int i4, .ref p5, .int i6, .int i7, .int i8, .int i9, .ref p10, .int i11, .ref p12, .ref p13, .ref p14, .int i15, .ref p16, .ref p17, .int i18, .ref p19, .ref p20, .ref p21, .ref p22, .int i23, .int i24, .ref p25, .ref p26, .ref p27, .ref p28, .ref p29, .ref p30, .ref p31, .ref p32])), (p0, .inl (cI, 1439, .inl w)), (p12, .inl (cI, 460, .inl fb)), (p13, .inl (cI, 460, .inl fp)), (p14, .inl (cI, 460, .inl fn))] s.heap := hP
  have hl := lv_entry ([.ref m0, .int (nI x), .int rb]) (n := 5) (Nat.le_of_ble_eq_true rfl)
  rw [lg_entry_eq]
  generalize (lg_sl ([.ref m0, .int (nI x), .int rb]) ++ List.replicate (5 - (lg_sl ([.ref m0, .int (nI x), .int rb])).length) Slot.unset).toArray = ls at hl ⊢
  have hl : lv_has ls 5 [(0, .ref m0), (1, .int (nI x)), (2, .int rb)] := hl
  refine lv_aload_n hx hb dX11_endOf_0 rfl (lv_at hl 0 rfl) ?_
  refine ft_csi (r := nI (ln + 60)) (va_runV (C := RX11) (As := []) (rest := []) ⟨hx, hb, hml, hown, hts⟩ (c_X11_samples l D cI cS m0 p0 p1 p3 p5 p10 p12 p13 p14 p16 p17 p19 p20 p21 p22 p25 p26 p27 p28 p29 p30 p31 p32 i2 i4 i6 i7 i8 i9 i11 i15 i18 i23 i24 w ln hw0) (cwV 0 hts gX11_endOf_X11_samples rfl rfl rfl (by decide +kernel) ⟨Nat.le_of_ble_eq_true rfl, Nat.le_of_ble_eq_true rfl⟩) (ft_preROV (ci := 11) (q0 := 0) hP hKK [0, 1] rfl rfl rfl) rfl rfl hl.1 rfl (lv_room (Nat.le_of_ble_eq_true rfl)) dX11_endOf_1 ⟨Nat.le_of_ble_eq_true rfl, Nat.le_of_ble_eq_true rfl⟩) ?_
  refine lv_iconst (v := 1) hx hb dX11_endOf_4 (by decide) ?_
  refine lv_isub hx hb dX11_endOf_5 ?_
  refine ft_top (y := nI ((ln + 60) - 1)) (ft_subN (a := ln + 60) (b := 1) (by omega)) ?_
  refine lv_istore_n (lv' := [(3, .int (nI ((ln + 60) - 1))), (0, .ref m0), (1, .int (nI x)), (2, .int rb)]) hx hb dX11_endOf_6 rfl hl (by decide) rfl (fun ls hl => ?_)
  refine lv_iload_n hx hb dX11_endOf_7 rfl (lv_at hl 3 rfl) ?_
  refine lv_if_eq (tgt := 23) hx hb dX11_endOf_8 (by decide) (fun c8 => ?_) (fun c8 => ?_)
  · refine lv_iload_n hx hb dX11_endOf_23 rfl (lv_at hl 2 rfl) ?_
    refine lv_istore (lv' := [(4, .int (nI x)), (3, .int (nI ((ln + 60) - 1))), (0, .ref m0), (1, .int (nI x)), (2, .int rb)]) hx hb dX11_endOf_24 hl (by decide) rfl (fun ls hl => ?_)
    have lp26 : ∀ (n26 : Nat) (y : Nat) (x26_4 : Int32), 1001 - y < n26 → (y ≤ 1000) → (ftEnd (ftV fb fp fn) (w (44 + 7)) (ln + 60 - 1) (if rb = 0 then x else x + wd - 1) = ftEnd (ftV fb fp fn) (w (44 + 7)) (ln + 60 - 1) y) → x26_4 = nI y → ∀ ls : Array Slot, lv_has ls 5 [(0, .ref m0), (1, .int (nI x)), (2, .int rb), (3, .int (nI ((ln + 60) - 1))), (4, .int x26_4)] → W p l e (headSpec wsX11_endOf { frames := 1, cells := 0, slots := 0, locals := 21 }).room s m ([.ref m0, .int (nI x), .int rb] : List Value).toArray below meth c s.heap [] 0 0 (MQ below (vp_Si (fun o9 => o9 = nI (ftEnd (ftV fb fp fn) (w (44 + 7)) (ln + 60 - 1) (if rb = 0 then x else x + wd - 1)))) ([.ref m0, .int (nI x), .int rb] : List Value).toArray s 0 0 (fun _ => False)) (F0 m 26 ls []) := by
      intro n26
      induction n26 with
      | zero =>
        intro y x26_4  hm26
        exact absurd hm26 (Nat.not_lt_zero _)
      | succ n26 ih26 =>
        intro y x26_4  hm26 hy4 hres ex26_4  ls hl
        subst ex26_4
        refine lv_iload hx hb dX11_endOf_26 (lv_at hl 4 rfl) ?_
        refine lv_iload_n hx hb dX11_endOf_28 rfl (lv_at hl 3 rfl) ?_
        refine lv_icmp_ge (tgt := 68) hx hb dX11_endOf_29 (by decide) (fun c29 => ?_) (fun c29 => ?_)
        · have c29n : ((ln + 60) - 1) ≤ y := ft_leN (by omega) (by omega) c29
          refine lv_iload_n hx hb dX11_endOf_68 rfl (lv_at hl 3 rfl) ?_
          exact W.iret (v := nI ((ln + 60) - 1)) hx hb hr (fun t ht hW => ⟨nI ((ln + 60) - 1), rfl, (by show (nI ((ln + 60) - 1) : Int32) = nI (ftEnd (ftV fb fp fn) (w (44 + 7)) (ln + 60 - 1) (if rb = 0 then x else x + wd - 1)); rw [hres, ftEnd_last (by omega)]), ht⟩) (fun _ h9 => absurd h9 List.not_mem_nil) dX11_endOf_69
        · have c29n : y < ((ln + 60) - 1) := ft_nleN (by omega) (by omega) c29
          refine lv_aload_n hx hb dX11_endOf_32 rfl (lv_at hl 0 rfl) ?_
          refine lv_iload hx hb dX11_endOf_33 (lv_at hl 4 rfl) ?_
          refine lv_iconst (v := 1) hx hb dX11_endOf_35 (by decide) ?_
          refine lv_iadd hx hb dX11_endOf_36 ?_
          refine ft_top (y := nI (y + 1)) (ft_addN y 1) ?_
          refine ft_csi (r := fb (y + 1) + fp (y + 1) + fn (y + 1)) (va_runV (C := RX11) (As := [.int (nI (y + 1))]) (rest := []) ⟨hx, hb, hml, hown, hts⟩ (c_X11_v l D cI cS m0 p0 p1 p3 p5 p10 p12 p13 p14 p16 p17 p19 p20 p21 p22 p25 p26 p27 p28 p29 p30 p31 p32 i2 i4 i6 i7 i8 i9 i11 i15 i18 i23 i24 fb fp fn (y + 1) (by first | assumption | omega)) (cwV 1 hts gX11_endOf_X11_v rfl rfl rfl (by decide +kernel) ⟨Nat.le_of_ble_eq_true rfl, Nat.le_of_ble_eq_true rfl⟩) (ft_preROV (ci := 11) (q0 := 0) hP hKK [0, 2, 3, 4] rfl rfl rfl) rfl rfl hl.1 rfl (lv_room (Nat.le_of_ble_eq_true rfl)) dX11_endOf_37 ⟨Nat.le_of_ble_eq_true rfl, Nat.le_of_ble_eq_true rfl⟩) ?_
          refine lv_aload_n hx hb dX11_endOf_40 rfl (lv_at hl 0 rfl) ?_
          refine lv_iload hx hb dX11_endOf_41 (lv_at hl 4 rfl) ?_
          refine ft_csi (r := fb y + fp y + fn y) (va_runV (C := RX11) (As := [.int (nI y)]) (rest := [.int (fb (y + 1) + fp (y + 1) + fn (y + 1))]) ⟨hx, hb, hml, hown, hts⟩ (c_X11_v l D cI cS m0 p0 p1 p3 p5 p10 p12 p13 p14 p16 p17 p19 p20 p21 p22 p25 p26 p27 p28 p29 p30 p31 p32 i2 i4 i6 i7 i8 i9 i11 i15 i18 i23 i24 fb fp fn y (by first | assumption | omega)) (cwV 1 hts gX11_endOf_X11_v rfl rfl rfl (by decide +kernel) ⟨Nat.le_of_ble_eq_true rfl, Nat.le_of_ble_eq_true rfl⟩) (ft_preROV (ci := 11) (q0 := 0) hP hKK [0, 2, 3, 4] rfl rfl rfl) rfl rfl hl.1 rfl (lv_room (Nat.le_of_ble_eq_true rfl)) dX11_endOf_43 ⟨Nat.le_of_ble_eq_true rfl, Nat.le_of_ble_eq_true rfl⟩) ?_
          refine lv_isub hx hb dX11_endOf_46 ?_
          refine ft_csi (r := ftSz ((fb (y + 1) + fp (y + 1) + fn (y + 1)) - (fb y + fp y + fn y))) (va_runS (As := [.int ((fb (y + 1) + fp (y + 1) + fn (y + 1)) - (fb y + fp y + fn y))]) (rest := []) ⟨hx, hb, hml, hown, hts⟩ (c_X11_sizeOf l D cI cS ((fb (y + 1) + fp (y + 1) + fn (y + 1)) - (fb y + fp y + fn y))) (va_cwS 1 hts gX11_endOf_X11_sizeOf rfl rfl rfl (by decide +kernel) ⟨Nat.le_of_ble_eq_true rfl, Nat.le_of_ble_eq_true rfl⟩) (ft_preRO hP hKK [] rfl) rfl rfl hl.1 rfl (lv_room (Nat.le_of_ble_eq_true rfl)) dX11_endOf_47 ⟨Nat.le_of_ble_eq_true rfl, Nat.le_of_ble_eq_true rfl⟩) ?_
          refine lv_aload_n hx hb dX11_endOf_50 rfl (lv_at hl 0 rfl) ?_
          refine lv_bipush (v := 7) hx hb dX11_endOf_51 (by decide) ?_
          refine ft_csi (r := w (44 + 7)) (va_runV (C := RX11) (As := [.int 7]) (rest := [.int (ftSz ((fb (y + 1) + fp (y + 1) + fn (y + 1)) - (fb y + fp y + fn y)))]) ⟨hx, hb, hml, hown, hts⟩ (c_X11_setting l D cI cS m0 p0 p1 p3 p5 p10 p12 p13 p14 p16 p17 p19 p20 p21 p22 p25 p26 p27 p28 p29 p30 p31 p32 i2 i4 i6 i7 i8 i9 i11 i15 i18 i23 i24 w 7 (by first | assumption | omega)) (cwV 1 hts gX11_endOf_X11_setting rfl rfl rfl (by decide +kernel) ⟨Nat.le_of_ble_eq_true rfl, Nat.le_of_ble_eq_true rfl⟩) (ft_preROV (ci := 11) (q0 := 0) hP hKK [0, 1] rfl rfl rfl) rfl rfl hl.1 rfl (lv_room (Nat.le_of_ble_eq_true rfl)) dX11_endOf_53 ⟨Nat.le_of_ble_eq_true rfl, Nat.le_of_ble_eq_true rfl⟩) ?_
          refine lv_icmp_gt (tgt := 62) hx hb dX11_endOf_56 (by decide) (fun c56 => ?_) (fun c56 => ?_)
          · refine lv_iinc (v := nI (y + 1)) (lv' := [(4, .int (nI (y + 1))), (0, .ref m0), (1, .int (nI x)), (2, .int rb), (3, .int (nI ((ln + 60) - 1)))]) hx hb dX11_endOf_62 hl (k := 4) rfl (ft_inc y) (by decide) rfl (fun ls hl => ?_)
            refine lv_goto (tgt := 26) hx hb dX11_endOf_65 (by decide) ?_
            exact ih26 (y + 1) (nI (y + 1))  (by omega) (by omega) (by rw [hres]; exact ftEnd_go (by omega) (by rw [← ftSz_abs]; exact Int32.not_le.mpr c56)) (by first | rfl | assumption)  ls (lv_sub hl [1, 2, 3, 4, 0] rfl)
          · refine lv_iload hx hb dX11_endOf_59 (lv_at hl 4 rfl) ?_
            exact W.iret (v := nI y) hx hb hr (fun t ht hW => ⟨nI y, rfl, (by show (nI y : Int32) = nI (ftEnd (ftV fb fp fn) (w (44 + 7)) (ln + 60 - 1) (if rb = 0 then x else x + wd - 1)); rw [hres, ftEnd_hit (by omega) (by rw [← ftSz_abs]; exact Int32.not_lt.mp c56)]), ht⟩) (fun _ h9 => absurd h9 List.not_mem_nil) dX11_endOf_61
    exact lp26 _ x (nI x)  (Nat.lt_succ_self _) (by omega) (by first | (rw [if_pos c8]; done) | (rw [if_neg c8]; done)) (by rfl) ls (lv_sub hl [2, 3, 4, 1, 0] rfl)
  · refine lv_iload_n hx hb dX11_endOf_11 rfl (lv_at hl 2 rfl) ?_
    refine lv_aload_n hx hb dX11_endOf_12 rfl (lv_at hl 1 rfl) ?_
    refine lv_iconst (v := 0) hx hb dX11_endOf_13 (by decide) ?_
    refine ft_csi (r := w (44 + 0)) (va_runV (C := RX11) (As := [.int 0]) (rest := [.int (nI x)]) ⟨hx, hb, hml, hown, hts⟩ (c_X11_setting l D cI cS m0 p0 p1 p3 p5 p10 p12 p13 p14 p16 p17 p19 p20 p21 p22 p25 p26 p27 p28 p29 p30 p31 p32 i2 i4 i6 i7 i8 i9 i11 i15 i18 i23 i24 w 0 (by first | assumption | omega)) (cwV 1 hts gX11_endOf_X11_setting rfl rfl rfl (by decide +kernel) ⟨Nat.le_of_ble_eq_true rfl, Nat.le_of_ble_eq_true rfl⟩) (ft_preROV (ci := 11) (q0 := 0) hP hKK [0, 1] rfl rfl rfl) rfl rfl hl.1 rfl (lv_room (Nat.le_of_ble_eq_true rfl)) dX11_endOf_14 ⟨Nat.le_of_ble_eq_true rfl, Nat.le_of_ble_eq_true rfl⟩) ?_
    refine ft_top (y := nI wd) hs0 ?_
    refine lv_iadd hx hb dX11_endOf_17 ?_
    refine ft_top (y := nI (x + wd)) (ft_addN x wd) ?_
    refine lv_iconst (v := 1) hx hb dX11_endOf_18 (by decide) ?_
    refine lv_isub hx hb dX11_endOf_19 ?_
    refine ft_top (y := nI ((x + wd) - 1)) (ft_subN (a := x + wd) (b := 1) (by omega)) ?_
    refine lv_goto (tgt := 24) hx hb dX11_endOf_20 (by decide) ?_
    refine lv_istore (lv' := [(4, .int (nI ((x + wd) - 1))), (3, .int (nI ((ln + 60) - 1))), (0, .ref m0), (1, .int (nI x)), (2, .int rb)]) hx hb dX11_endOf_24 hl (by decide) rfl (fun ls hl => ?_)
    have lp26 : ∀ (n26 : Nat) (y : Nat) (x26_4 : Int32), 1001 - y < n26 → (y ≤ 1000) → (ftEnd (ftV fb fp fn) (w (44 + 7)) (ln + 60 - 1) (if rb = 0 then x else x + wd - 1) = ftEnd (ftV fb fp fn) (w (44 + 7)) (ln + 60 - 1) y) → x26_4 = nI y → ∀ ls : Array Slot, lv_has ls 5 [(0, .ref m0), (1, .int (nI x)), (2, .int rb), (3, .int (nI ((ln + 60) - 1))), (4, .int x26_4)] → W p l e (headSpec wsX11_endOf { frames := 1, cells := 0, slots := 0, locals := 21 }).room s m ([.ref m0, .int (nI x), .int rb] : List Value).toArray below meth c s.heap [] 0 0 (MQ below (vp_Si (fun o9 => o9 = nI (ftEnd (ftV fb fp fn) (w (44 + 7)) (ln + 60 - 1) (if rb = 0 then x else x + wd - 1)))) ([.ref m0, .int (nI x), .int rb] : List Value).toArray s 0 0 (fun _ => False)) (F0 m 26 ls []) := by
      intro n26
      induction n26 with
      | zero =>
        intro y x26_4  hm26
        exact absurd hm26 (Nat.not_lt_zero _)
      | succ n26 ih26 =>
        intro y x26_4  hm26 hy4 hres ex26_4  ls hl
        subst ex26_4
        refine lv_iload hx hb dX11_endOf_26 (lv_at hl 4 rfl) ?_
        refine lv_iload_n hx hb dX11_endOf_28 rfl (lv_at hl 3 rfl) ?_
        refine lv_icmp_ge (tgt := 68) hx hb dX11_endOf_29 (by decide) (fun c29 => ?_) (fun c29 => ?_)
        · have c29n : ((ln + 60) - 1) ≤ y := ft_leN (by omega) (by omega) c29
          refine lv_iload_n hx hb dX11_endOf_68 rfl (lv_at hl 3 rfl) ?_
          exact W.iret (v := nI ((ln + 60) - 1)) hx hb hr (fun t ht hW => ⟨nI ((ln + 60) - 1), rfl, (by show (nI ((ln + 60) - 1) : Int32) = nI (ftEnd (ftV fb fp fn) (w (44 + 7)) (ln + 60 - 1) (if rb = 0 then x else x + wd - 1)); rw [hres, ftEnd_last (by omega)]), ht⟩) (fun _ h9 => absurd h9 List.not_mem_nil) dX11_endOf_69
        · have c29n : y < ((ln + 60) - 1) := ft_nleN (by omega) (by omega) c29
          refine lv_aload_n hx hb dX11_endOf_32 rfl (lv_at hl 0 rfl) ?_
          refine lv_iload hx hb dX11_endOf_33 (lv_at hl 4 rfl) ?_
          refine lv_iconst (v := 1) hx hb dX11_endOf_35 (by decide) ?_
          refine lv_iadd hx hb dX11_endOf_36 ?_
          refine ft_top (y := nI (y + 1)) (ft_addN y 1) ?_
          refine ft_csi (r := fb (y + 1) + fp (y + 1) + fn (y + 1)) (va_runV (C := RX11) (As := [.int (nI (y + 1))]) (rest := []) ⟨hx, hb, hml, hown, hts⟩ (c_X11_v l D cI cS m0 p0 p1 p3 p5 p10 p12 p13 p14 p16 p17 p19 p20 p21 p22 p25 p26 p27 p28 p29 p30 p31 p32 i2 i4 i6 i7 i8 i9 i11 i15 i18 i23 i24 fb fp fn (y + 1) (by first | assumption | omega)) (cwV 1 hts gX11_endOf_X11_v rfl rfl rfl (by decide +kernel) ⟨Nat.le_of_ble_eq_true rfl, Nat.le_of_ble_eq_true rfl⟩) (ft_preROV (ci := 11) (q0 := 0) hP hKK [0, 2, 3, 4] rfl rfl rfl) rfl rfl hl.1 rfl (lv_room (Nat.le_of_ble_eq_true rfl)) dX11_endOf_37 ⟨Nat.le_of_ble_eq_true rfl, Nat.le_of_ble_eq_true rfl⟩) ?_
          refine lv_aload_n hx hb dX11_endOf_40 rfl (lv_at hl 0 rfl) ?_
          refine lv_iload hx hb dX11_endOf_41 (lv_at hl 4 rfl) ?_
          refine ft_csi (r := fb y + fp y + fn y) (va_runV (C := RX11) (As := [.int (nI y)]) (rest := [.int (fb (y + 1) + fp (y + 1) + fn (y + 1))]) ⟨hx, hb, hml, hown, hts⟩ (c_X11_v l D cI cS m0 p0 p1 p3 p5 p10 p12 p13 p14 p16 p17 p19 p20 p21 p22 p25 p26 p27 p28 p29 p30 p31 p32 i2 i4 i6 i7 i8 i9 i11 i15 i18 i23 i24 fb fp fn y (by first | assumption | omega)) (cwV 1 hts gX11_endOf_X11_v rfl rfl rfl (by decide +kernel) ⟨Nat.le_of_ble_eq_true rfl, Nat.le_of_ble_eq_true rfl⟩) (ft_preROV (ci := 11) (q0 := 0) hP hKK [0, 2, 3, 4] rfl rfl rfl) rfl rfl hl.1 rfl (lv_room (Nat.le_of_ble_eq_true rfl)) dX11_endOf_43 ⟨Nat.le_of_ble_eq_true rfl, Nat.le_of_ble_eq_true rfl⟩) ?_
          refine lv_isub hx hb dX11_endOf_46 ?_
          refine ft_csi (r := ftSz ((fb (y + 1) + fp (y + 1) + fn (y + 1)) - (fb y + fp y + fn y))) (va_runS (As := [.int ((fb (y + 1) + fp (y + 1) + fn (y + 1)) - (fb y + fp y + fn y))]) (rest := []) ⟨hx, hb, hml, hown, hts⟩ (c_X11_sizeOf l D cI cS ((fb (y + 1) + fp (y + 1) + fn (y + 1)) - (fb y + fp y + fn y))) (va_cwS 1 hts gX11_endOf_X11_sizeOf rfl rfl rfl (by decide +kernel) ⟨Nat.le_of_ble_eq_true rfl, Nat.le_of_ble_eq_true rfl⟩) (ft_preRO hP hKK [] rfl) rfl rfl hl.1 rfl (lv_room (Nat.le_of_ble_eq_true rfl)) dX11_endOf_47 ⟨Nat.le_of_ble_eq_true rfl, Nat.le_of_ble_eq_true rfl⟩) ?_
          refine lv_aload_n hx hb dX11_endOf_50 rfl (lv_at hl 0 rfl) ?_
          refine lv_bipush (v := 7) hx hb dX11_endOf_51 (by decide) ?_
          refine ft_csi (r := w (44 + 7)) (va_runV (C := RX11) (As := [.int 7]) (rest := [.int (ftSz ((fb (y + 1) + fp (y + 1) + fn (y + 1)) - (fb y + fp y + fn y)))]) ⟨hx, hb, hml, hown, hts⟩ (c_X11_setting l D cI cS m0 p0 p1 p3 p5 p10 p12 p13 p14 p16 p17 p19 p20 p21 p22 p25 p26 p27 p28 p29 p30 p31 p32 i2 i4 i6 i7 i8 i9 i11 i15 i18 i23 i24 w 7 (by first | assumption | omega)) (cwV 1 hts gX11_endOf_X11_setting rfl rfl rfl (by decide +kernel) ⟨Nat.le_of_ble_eq_true rfl, Nat.le_of_ble_eq_true rfl⟩) (ft_preROV (ci := 11) (q0 := 0) hP hKK [0, 1] rfl rfl rfl) rfl rfl hl.1 rfl (lv_room (Nat.le_of_ble_eq_true rfl)) dX11_endOf_53 ⟨Nat.le_of_ble_eq_true rfl, Nat.le_of_ble_eq_true rfl⟩) ?_
          refine lv_icmp_gt (tgt := 62) hx hb dX11_endOf_56 (by decide) (fun c56 => ?_) (fun c56 => ?_)
          · refine lv_iinc (v := nI (y + 1)) (lv' := [(4, .int (nI (y + 1))), (0, .ref m0), (1, .int (nI x)), (2, .int rb), (3, .int (nI ((ln + 60) - 1)))]) hx hb dX11_endOf_62 hl (k := 4) rfl (ft_inc y) (by decide) rfl (fun ls hl => ?_)
            refine lv_goto (tgt := 26) hx hb dX11_endOf_65 (by decide) ?_
            exact ih26 (y + 1) (nI (y + 1))  (by omega) (by omega) (by rw [hres]; exact ftEnd_go (by omega) (by rw [← ftSz_abs]; exact Int32.not_le.mpr c56)) (by first | rfl | assumption)  ls (lv_sub hl [1, 2, 3, 4, 0] rfl)
          · refine lv_iload hx hb dX11_endOf_59 (lv_at hl 4 rfl) ?_
            exact W.iret (v := nI y) hx hb hr (fun t ht hW => ⟨nI y, rfl, (by show (nI y : Int32) = nI (ftEnd (ftV fb fp fn) (w (44 + 7)) (ln + 60 - 1) (if rb = 0 then x else x + wd - 1)); rw [hres, ftEnd_hit (by omega) (by rw [← ftSz_abs]; exact Int32.not_lt.mp c56)]), ht⟩) (fun _ h9 => absurd h9 List.not_mem_nil) dX11_endOf_61
    exact lp26 _ ((x + wd) - 1) (nI ((x + wd) - 1))  (Nat.lt_succ_self _) (by omega) (by first | (rw [if_pos c8]; done) | (rw [if_neg c8]; done)) (by rfl) ls (lv_sub hl [2, 3, 4, 1, 0] rfl)
set_option maxHeartbeats 4000000 in
set_option maxRecDepth 100000 in
theorem c_X11_hasMakers (l : Launch) (D : va_G) (cI cS : ClassId) (sz : Nat) (m0 p0 p1 p3 p5 p10 p12 p13 p14 p16 p17 p19 p20 p21 p22 p25 p26 p27 p28 p29 p30 p31 p32 : Nat) (i2 i4 i6 i7 i8 i9 i11 i15 i18 i23 i24 : Int32) (w eb ek e1 e2 : Nat → Int32) (e9 : Nat) (he : e9 < 30) : Met l yX11_hasMakers wsX11_hasMakers ({ frames := 1, cells := 0, slots := 0, locals := 21 }) (ftRW D cI cS [.ref m0, .int (nI e9)] [(m0, .inr (11, [.ref p0, .ref p1, .int i2, .ref p3, .int i4, .ref p5, .int i6, .int i7, .int i8, .int i9, .ref p10, .int i11, .ref p12, .ref p13, .ref p14, .int i15, .ref p16, .ref p17, .int i18, .ref p19, .ref p20, .ref p21, .ref p22, .int i23, .int i24, .ref p25, .ref p26, .ref p27, .ref p28, .ref p29, .ref p30, .ref p31, .ref p32])), (p0, .inl (cI, 1439, .inl w)), (p25, .inl (cI, 30, .inl eb)), (p29, .inl (cI, 30, .inl ek)), (p31, .inl (cI, 30, .inl e1)), (p32, .inl (cI, 30, .inl e2))] sz) (ftQi D (ftB (¬ ftMkOut (ftRoM eb ek) (w (44 + 9)) e9 e9 = none)) [(m0, .inr (11, [.ref p0, .ref p1, .int i2, .ref p3, .int i4, .ref p5, .int i6, .int i7, .int i8, .int i9, .ref p10, .int i11, .ref p12, .ref p13, .ref p14, .int i15, .ref p16, .ref p17, .int i18, .ref p19, .ref p20, .ref p21, .ref p22, .int i23, .int i24, .ref p25, .ref p26, .ref p27, .ref p28, .ref p29, .ref p30, .ref p31, .ref p32])), (p0, .inl (cI, 1439, .inl w)), (p25, .inl (cI, 30, .inl eb)), (p29, .inl (cI, 30, .inl ek)), (p31, .inl (cI, 30, .inl e1)), (p32, .inl (cI, 30, .inl e2))] [(m0, .inr (11, [.ref p0, .ref p1, .int i2, .ref p3, .int i4, .ref p5, .int i6, .int i7, .int i8, .int i9, .ref p10, .int i11, .ref p12, .ref p13, .ref p14, .int i15, .ref p16, .ref p17, .int i18, .ref p19, .ref p20, .ref p21, .ref p22, .int i23, .int i24, .ref p25, .ref p26, .ref p27, .ref p28, .ref p29, .ref p30, .ref p31, .ref p32])), (p0, .inl (cI, 1439, .inl w)), (p25, .inl (cI, 30, .inl eb)), (p29, .inl (cI, 30, .inl ek)), (p31, .inl (cI, 30, .inl (ftMk1 (ftMkOut (ftRoM eb ek) (w (44 + 9)) e9 e9) e1 e9))), (p32, .inl (cI, 30, .inl (ftMk2 (ftMkOut (ftRoM eb ek) (w (44 + 9)) e9 e9) e2 e9)))] sz) 0 0 (va_A [(m0, .inr (11, [.ref p0, .ref p1, .int i2, .ref p3, .int i4, .ref p5, .int i6, .int i7, .int i8, .int i9, .ref p10, .int i11, .ref p12, .ref p13, .ref p14, .int i15, .ref p16, .ref p17, .int i18, .ref p19, .ref p20, .ref p21, .ref p22, .int i23, .int i24, .ref p25, .ref p26, .ref p27, .ref p28, .ref p29, .ref p30, .ref p31, .ref p32])), (p0, .inl (cI, 1439, .inl w)), (p25, .inl (cI, 30, .inl eb)), (p29, .inl (cI, 30, .inl ek)), (p31, .inl (cI, 30, .inl e1)), (p32, .inl (cI, 30, .inl e2))] sz) := by
  refine Met.ofW (cc := cX11_hasMakers) (maxL := 4) (ret := (some .boolean)) (by decide) rfl ?_
  intro p e s m args below meth c s₁ B hml hv
  obtain ⟨rfl, hsz, hP, hKK, hD0⟩ := hv
  have hK := hKK.1
  have hx := B.exec
  have hb := B.bytes
  have hr := B.returns
  have hts := atoms_spec (ws := wsX11_hasMakers) B.pre
  have hown : s.vm.findClass RX11 = some m.cls := findClass_of_methodNamed B.named
  have hlocks := B.notSynchronized
  subst hsz
  have hD := hD0.self (sz := s.heap.size)
  generalize hAe : va_A [(m0, .inr (11, [.ref p0, .ref p1, .int i2, .ref p3, .int i4, .ref p5, .int i6, .int i7, .int i8, .int i9, .ref p10, .int i11, .ref p12, .ref p13, .ref p14, .int i15, .ref p16, .ref p17, .int i18, .ref p19, .ref p20, .ref p21, .ref p22, .int i23, .int i24, .ref p25, .ref p26, .ref p27, .ref p28, .ref p29, .ref p30, .ref p31, .ref p32])), (p0, .inl (cI, 1439, .inl w)), (p25, .inl (cI, 30, .inl eb)), (p29, .inl (cI, 30, .inl ek)), (p31, .inl (cI, 30, .inl e1)), (p32, .inl (cI, 30, .inl e2))] s.heap.size = A at hD ⊢
  have hA : ∀ q : Nat, s.heap.size ≤ q → A q := fun q h => by rw [← hAe]; exact Or.inr h
  have hS : va_S A s.heap s.heap [] := va_S.rf
  have hD : va_D A [(m0, .inr (11, [.ref p0, .ref p1, .int i2, .ref p3, .int i4, .ref p5, .int i6, .int i7, .int i8, .int i9, .ref p10, .int i11, .ref p12, .ref p13, .ref p14, .int i15, .ref p16, .ref p17, .int i18, .ref p19, .ref p20, .ref p21, .ref p22, .int i23, .int i24, .ref p25, .ref p26, .ref p27, .ref p28, .ref p29, .ref p30, .ref p31, .ref p32])), (p0, .inl (cI, 1439, .inl w)), (p25, .inl (cI, 30, .inl eb)), (p29, .inl (cI, 30, .inl ek)), (p31, .inl (cI, 30, .inl e1)), (p32, .inl (cI, 30, .inl e2))] := hD
  have hP : va_P D vwCl [(m0, .inr (11, [.ref p0, .ref p1, .int i2, .ref p3, .int i4, .ref p5, .int i6, .int i7, .int i8, .int i9, .ref p10, .int i11, .ref p12, .ref p13, .ref p14, .int i15, .ref p16, .ref p17, .int i18, .ref p19, .ref p20, .ref p21, .ref p22, .int i23, .int i24, .ref p25, .ref p26, .ref p27, .ref p28, .ref p29, .ref p30, .ref p31, .ref p32])), (p0, .inl (cI, 1439, .inl w)), (p25, .inl (cI, 30, .inl eb)), (p29, .inl (cI, 30, .inl ek)), (p31, .inl (cI, 30, .inl e1)), (p32, .inl (cI, 30, .inl e2))] s.heap := hP
  have hl := lv_entry ([.ref m0, .int (nI e9)]) (n := 4) (Nat.le_of_ble_eq_true rfl)
  rw [lg_entry_eq]
  generalize (lg_sl ([.ref m0, .int (nI e9)]) ++ List.replicate (4 - (lg_sl ([.ref m0, .int (nI e9)])).length) Slot.unset).toArray = ls at hl ⊢
  have hl : lv_has ls 4 [(0, .ref m0), (1, .int (nI e9))] := hl
  refine lv_iconst (v := 0) hx hb dX11_hasMakers_0 (by decide) ?_
  refine lv_istore_n (lv' := [(2, .int 0), (0, .ref m0), (1, .int (nI e9))]) hx hb dX11_hasMakers_1 rfl hl (by decide) rfl (fun ls hl => ?_)
  have lp2 : ∀ (n2 : Nat) (i : Nat) (x2_2 : Int32), e9 - i < n2 → (i ≤ e9) → (ftMkOut (ftRoM eb ek) (w (44 + 9)) e9 e9 = ftMkOut (ftRoM eb ek) (w (44 + 9)) e9 (e9 - i)) → x2_2 = nI i → ∀ (H : Heap) (locs : List Loc), va_P D vwCl [(m0, .inr (11, [.ref p0, .ref p1, .int i2, .ref p3, .int i4, .ref p5, .int i6, .int i7, .int i8, .int i9, .ref p10, .int i11, .ref p12, .ref p13, .ref p14, .int i15, .ref p16, .ref p17, .int i18, .ref p19, .ref p20, .ref p21, .ref p22, .int i23, .int i24, .ref p25, .ref p26, .ref p27, .ref p28, .ref p29, .ref p30, .ref p31, .ref p32])), (p0, .inl (cI, 1439, .inl w)), (p25, .inl (cI, 30, .inl eb)), (p29, .inl (cI, 30, .inl ek)), (p31, .inl (cI, 30, .inl e1)), (p32, .inl (cI, 30, .inl e2))] H → va_D A [(m0, .inr (11, [.ref p0, .ref p1, .int i2, .ref p3, .int i4, .ref p5, .int i6, .int i7, .int i8, .int i9, .ref p10, .int i11, .ref p12, .ref p13, .ref p14, .int i15, .ref p16, .ref p17, .int i18, .ref p19, .ref p20, .ref p21, .ref p22, .int i23, .int i24, .ref p25, .ref p26, .ref p27, .ref p28, .ref p29, .ref p30, .ref p31, .ref p32])), (p0, .inl (cI, 1439, .inl w)), (p25, .inl (cI, 30, .inl eb)), (p29, .inl (cI, 30, .inl ek)), (p31, .inl (cI, 30, .inl e1)), (p32, .inl (cI, 30, .inl e2))] → va_S A s.heap H locs → ∀ ls : Array Slot, lv_has ls 4 [(0, .ref m0), (1, .int (nI e9)), (2, .int x2_2)] → W p l e (headSpec wsX11_hasMakers { frames := 1, cells := 0, slots := 0, locals := 21 }).room s m ([.ref m0, .int (nI e9)] : List Value).toArray below meth c H locs 0 0 (MQ below (ftQi D (ftB (¬ ftMkOut (ftRoM eb ek) (w (44 + 9)) e9 e9 = none)) [(m0, .inr (11, [.ref p0, .ref p1, .int i2, .ref p3, .int i4, .ref p5, .int i6, .int i7, .int i8, .int i9, .ref p10, .int i11, .ref p12, .ref p13, .ref p14, .int i15, .ref p16, .ref p17, .int i18, .ref p19, .ref p20, .ref p21, .ref p22, .int i23, .int i24, .ref p25, .ref p26, .ref p27, .ref p28, .ref p29, .ref p30, .ref p31, .ref p32])), (p0, .inl (cI, 1439, .inl w)), (p25, .inl (cI, 30, .inl eb)), (p29, .inl (cI, 30, .inl ek)), (p31, .inl (cI, 30, .inl e1)), (p32, .inl (cI, 30, .inl e2))] [(m0, .inr (11, [.ref p0, .ref p1, .int i2, .ref p3, .int i4, .ref p5, .int i6, .int i7, .int i8, .int i9, .ref p10, .int i11, .ref p12, .ref p13, .ref p14, .int i15, .ref p16, .ref p17, .int i18, .ref p19, .ref p20, .ref p21, .ref p22, .int i23, .int i24, .ref p25, .ref p26, .ref p27, .ref p28, .ref p29, .ref p30, .ref p31, .ref p32])), (p0, .inl (cI, 1439, .inl w)), (p25, .inl (cI, 30, .inl eb)), (p29, .inl (cI, 30, .inl ek)), (p31, .inl (cI, 30, .inl (ftMk1 (ftMkOut (ftRoM eb ek) (w (44 + 9)) e9 e9) e1 e9))), (p32, .inl (cI, 30, .inl (ftMk2 (ftMkOut (ftRoM eb ek) (w (44 + 9)) e9 e9) e2 e9)))] s.heap.size) ([.ref m0, .int (nI e9)] : List Value).toArray s 0 0 A) (F0 m 2 ls []) := by
    intro n2
    induction n2 with
    | zero =>
      intro i x2_2  hm2
      exact absurd hm2 (Nat.not_lt_zero _)
    | succ n2 ih2 =>
      intro i x2_2  hm2 hie ho ex2_2  H locs hP hD hS ls hl
      subst ex2_2
      refine lv_iload_n hx hb dX11_hasMakers_2 rfl (lv_at hl 2 rfl) ?_
      refine lv_iload_n hx hb dX11_hasMakers_3 rfl (lv_at hl 1 rfl) ?_
      refine lv_icmp_ge (tgt := 98) hx hb dX11_hasMakers_4 (by decide) (fun c4 => ?_) (fun c4 => ?_)
      · have c4n : e9 ≤ i := ft_leN (by omega) (by omega) c4
        have hM9 : ftMkOut (ftRoM eb ek) (w (44 + 9)) e9 e9 = none := ho.trans (ftMkOut_end (by omega))
        refine lv_iconst (v := 0) hx hb dX11_hasMakers_98 (by decide) ?_
        have hw9 : ([(m0, .inr (11, [.ref p0, .ref p1, .int i2, .ref p3, .int i4, .ref p5, .int i6, .int i7, .int i8, .int i9, .ref p10, .int i11, .ref p12, .ref p13, .ref p14, .int i15, .ref p16, .ref p17, .int i18, .ref p19, .ref p20, .ref p21, .ref p22, .int i23, .int i24, .ref p25, .ref p26, .ref p27, .ref p28, .ref p29, .ref p30, .ref p31, .ref p32])), (p0, .inl (cI, 1439, .inl w)), (p25, .inl (cI, 30, .inl eb)), (p29, .inl (cI, 30, .inl ek)), (p31, .inl (cI, 30, .inl e1)), (p32, .inl (cI, 30, .inl e2))] : va_W) = [(m0, .inr (11, [.ref p0, .ref p1, .int i2, .ref p3, .int i4, .ref p5, .int i6, .int i7, .int i8, .int i9, .ref p10, .int i11, .ref p12, .ref p13, .ref p14, .int i15, .ref p16, .ref p17, .int i18, .ref p19, .ref p20, .ref p21, .ref p22, .int i23, .int i24, .ref p25, .ref p26, .ref p27, .ref p28, .ref p29, .ref p30, .ref p31, .ref p32])), (p0, .inl (cI, 1439, .inl w)), (p25, .inl (cI, 30, .inl eb)), (p29, .inl (cI, 30, .inl ek)), (p31, .inl (cI, 30, .inl (ftMk1 (ftMkOut (ftRoM eb ek) (w (44 + 9)) e9 e9) e1 e9))), (p32, .inl (cI, 30, .inl (ftMk2 (ftMkOut (ftRoM eb ek) (w (44 + 9)) e9 e9) e2 e9)))] := by rw [hM9]; rfl
        rw [hw9] at hP hD
        exact W.zret (v := 0) hx hb hr (by rfl) (fun t ht hW => ⟨⟨0, (), rfl, (by show (0 : Int32) = ftB (¬ ftMkOut (ftRoM eb ek) (w (44 + 9)) e9 e9 = none); exact (ftB_f (fun q => q hM9)).symm), by rw [ht]; exact hP, by rw [hAe]; exact hD⟩, by rw [hAe]; exact hS.F ht⟩) hS.2.2 dX11_hasMakers_99
      · have c4n : i < e9 := ft_nleN (by omega) (by omega) c4
        refine lv_iload_n hx hb dX11_hasMakers_7 rfl (lv_at hl 2 rfl) ?_
        refine lv_iconst (v := 1) hx hb dX11_hasMakers_8 (by decide) ?_
        refine lv_iadd hx hb dX11_hasMakers_9 ?_
        refine ft_top (y := nI (i + 1)) (ft_addN i 1) ?_
        refine lv_istore_n (lv' := [(3, .int (nI (i + 1))), (0, .ref m0), (1, .int (nI e9)), (2, .int (nI i))]) hx hb dX11_hasMakers_10 rfl hl (by decide) rfl (fun ls hl => ?_)
        have lp11 : ∀ (n11 : Nat) (j : Nat) (x11_3 : Int32), e9 - j < n11 → (i + 1 ≤ j) → (j ≤ e9) → (ftMkIn (ftRoM eb ek) (w (44 + 9)) i e9 (e9 - (i + 1)) = ftMkIn (ftRoM eb ek) (w (44 + 9)) i e9 (e9 - j)) → x11_3 = nI j → ∀ (H : Heap) (locs : List Loc), va_P D vwCl [(m0, .inr (11, [.ref p0, .ref p1, .int i2, .ref p3, .int i4, .ref p5, .int i6, .int i7, .int i8, .int i9, .ref p10, .int i11, .ref p12, .ref p13, .ref p14, .int i15, .ref p16, .ref p17, .int i18, .ref p19, .ref p20, .ref p21, .ref p22, .int i23, .int i24, .ref p25, .ref p26, .ref p27, .ref p28, .ref p29, .ref p30, .ref p31, .ref p32])), (p0, .inl (cI, 1439, .inl w)), (p25, .inl (cI, 30, .inl eb)), (p29, .inl (cI, 30, .inl ek)), (p31, .inl (cI, 30, .inl e1)), (p32, .inl (cI, 30, .inl e2))] H → va_D A [(m0, .inr (11, [.ref p0, .ref p1, .int i2, .ref p3, .int i4, .ref p5, .int i6, .int i7, .int i8, .int i9, .ref p10, .int i11, .ref p12, .ref p13, .ref p14, .int i15, .ref p16, .ref p17, .int i18, .ref p19, .ref p20, .ref p21, .ref p22, .int i23, .int i24, .ref p25, .ref p26, .ref p27, .ref p28, .ref p29, .ref p30, .ref p31, .ref p32])), (p0, .inl (cI, 1439, .inl w)), (p25, .inl (cI, 30, .inl eb)), (p29, .inl (cI, 30, .inl ek)), (p31, .inl (cI, 30, .inl e1)), (p32, .inl (cI, 30, .inl e2))] → va_S A s.heap H locs → ∀ ls : Array Slot, lv_has ls 4 [(0, .ref m0), (1, .int (nI e9)), (2, .int (nI i)), (3, .int x11_3)] → W p l e (headSpec wsX11_hasMakers { frames := 1, cells := 0, slots := 0, locals := 21 }).room s m ([.ref m0, .int (nI e9)] : List Value).toArray below meth c H locs 0 0 (MQ below (ftQi D (ftB (¬ ftMkOut (ftRoM eb ek) (w (44 + 9)) e9 e9 = none)) [(m0, .inr (11, [.ref p0, .ref p1, .int i2, .ref p3, .int i4, .ref p5, .int i6, .int i7, .int i8, .int i9, .ref p10, .int i11, .ref p12, .ref p13, .ref p14, .int i15, .ref p16, .ref p17, .int i18, .ref p19, .ref p20, .ref p21, .ref p22, .int i23, .int i24, .ref p25, .ref p26, .ref p27, .ref p28, .ref p29, .ref p30, .ref p31, .ref p32])), (p0, .inl (cI, 1439, .inl w)), (p25, .inl (cI, 30, .inl eb)), (p29, .inl (cI, 30, .inl ek)), (p31, .inl (cI, 30, .inl e1)), (p32, .inl (cI, 30, .inl e2))] [(m0, .inr (11, [.ref p0, .ref p1, .int i2, .ref p3, .int i4, .ref p5, .int i6, .int i7, .int i8, .int i9, .ref p10, .int i11, .ref p12, .ref p13, .ref p14, .int i15, .ref p16, .ref p17, .int i18, .ref p19, .ref p20, .ref p21, .ref p22, .int i23, .int i24, .ref p25, .ref p26, .ref p27, .ref p28, .ref p29, .ref p30, .ref p31, .ref p32])), (p0, .inl (cI, 1439, .inl w)), (p25, .inl (cI, 30, .inl eb)), (p29, .inl (cI, 30, .inl ek)), (p31, .inl (cI, 30, .inl (ftMk1 (ftMkOut (ftRoM eb ek) (w (44 + 9)) e9 e9) e1 e9))), (p32, .inl (cI, 30, .inl (ftMk2 (ftMkOut (ftRoM eb ek) (w (44 + 9)) e9 e9) e2 e9)))] s.heap.size) ([.ref m0, .int (nI e9)] : List Value).toArray s 0 0 A) (F0 m 11 ls []) := by
          intro n11
          induction n11 with
          | zero =>
            intro j x11_3  hm11
            exact absurd hm11 (Nat.not_lt_zero _)
          | succ n11 ih11 =>
            intro j x11_3  hm11 hij hje hin ex11_3  H locs hP hD hS ls hl
            subst ex11_3
            refine lv_iload_n hx hb dX11_hasMakers_11 rfl (lv_at hl 3 rfl) ?_
            refine lv_iload_n hx hb dX11_hasMakers_12 rfl (lv_at hl 1 rfl) ?_
            refine lv_icmp_ge (tgt := 92) hx hb dX11_hasMakers_13 (by decide) (fun c13 => ?_) (fun c13 => ?_)
            · have c13n : e9 ≤ j := ft_leN (by omega) (by omega) c13
              refine lv_iinc (v := nI (i + 1)) (lv' := [(2, .int (nI (i + 1))), (0, .ref m0), (1, .int (nI e9)), (3, .int (nI j))]) hx hb dX11_hasMakers_92 hl (k := 2) rfl (ft_inc i) (by decide) rfl (fun ls hl => ?_)
              refine lv_goto (tgt := 2) hx hb dX11_hasMakers_95 (by decide) ?_
              exact ih2 (i + 1) (nI (i + 1))  (by omega) (by omega) (by rw [ho]; exact ftMkOut_go (by omega) (hin.trans (ftMkIn_end (by omega)))) (by first | rfl | assumption)  _ _ hP hD hS ls (lv_sub hl [1, 2, 0] rfl)
            · have c13n : j < e9 := ft_nleN (by omega) (by omega) c13
              refine lv_aload_n hx hb dX11_hasMakers_16 rfl (lv_at hl 0 rfl) ?_
              refine va_get (D := D) (ci := 11) (v := .ref p29) (C := RX11) (T := TX11) (N := 33) hx hb hts (by decide +kernel) hown hK hP 0 rfl rfl 29 (by decide) (hts (.fieldLink RX11 64 "FiberTraceModel" "kinds" "[I") (by decide +kernel)) (fun _ h9 => h9) rfl dX11_hasMakers_17 ?_
              refine lv_iload_n hx hb dX11_hasMakers_20 rfl (lv_at hl 2 rfl) ?_
              refine va_iald hx hb hK hP 3 0 rfl rfl (vp_in_nI (by omega) (by omega)) dX11_hasMakers_21 ?_
              refine ft_top (y := ek i) (ft_clampN (by omega)) ?_
              refine lv_iconst (v := 1) hx hb dX11_hasMakers_22 (by decide) ?_
              refine lv_icmp_ne (tgt := 86) hx hb dX11_hasMakers_23 (by decide) (fun c23 => ?_) (fun c23 => ?_)
              · refine lv_iinc (v := nI (j + 1)) (lv' := [(3, .int (nI (j + 1))), (0, .ref m0), (1, .int (nI e9)), (2, .int (nI i))]) hx hb dX11_hasMakers_86 hl (k := 3) rfl (ft_inc j) (by decide) rfl (fun ls hl => ?_)
                refine lv_goto (tgt := 11) hx hb dX11_hasMakers_89 (by decide) ?_
                exact ih11 (j + 1) (nI (j + 1))  (by omega) (by omega) (by omega) (by rw [hin]; first | exact ftMkIn_go (by omega) (ftMkM_3 c67) | exact ftMkIn_go (by omega) (ftMkM_2 c33) | exact ftMkIn_go (by omega) (ftMkM_1 c23)) (by first | rfl | assumption)  _ _ hP hD hS ls (lv_sub hl [1, 2, 3, 0] rfl)
              · refine lv_aload_n hx hb dX11_hasMakers_26 rfl (lv_at hl 0 rfl) ?_
                refine va_get (D := D) (ci := 11) (v := .ref p29) (C := RX11) (T := TX11) (N := 33) hx hb hts (by decide +kernel) hown hK hP 0 rfl rfl 29 (by decide) (hts (.fieldLink RX11 64 "FiberTraceModel" "kinds" "[I") (by decide +kernel)) (fun _ h9 => h9) rfl dX11_hasMakers_27 ?_
                refine lv_iload_n hx hb dX11_hasMakers_30 rfl (lv_at hl 3 rfl) ?_
                refine va_iald hx hb hK hP 3 0 rfl rfl (vp_in_nI (by omega) (by omega)) dX11_hasMakers_31 ?_
                refine ft_top (y := ek j) (ft_clampN (by omega)) ?_
                refine lv_iconst (v := 1) hx hb dX11_hasMakers_32 (by decide) ?_
                refine lv_icmp_ne (tgt := 86) hx hb dX11_hasMakers_33 (by decide) (fun c33 => ?_) (fun c33 => ?_)
                · refine lv_iinc (v := nI (j + 1)) (lv' := [(3, .int (nI (j + 1))), (0, .ref m0), (1, .int (nI e9)), (2, .int (nI i))]) hx hb dX11_hasMakers_86 hl (k := 3) rfl (ft_inc j) (by decide) rfl (fun ls hl => ?_)
                  refine lv_goto (tgt := 11) hx hb dX11_hasMakers_89 (by decide) ?_
                  exact ih11 (j + 1) (nI (j + 1))  (by omega) (by omega) (by omega) (by rw [hin]; first | exact ftMkIn_go (by omega) (ftMkM_3 c67) | exact ftMkIn_go (by omega) (ftMkM_2 c33) | exact ftMkIn_go (by omega) (ftMkM_1 c23)) (by first | rfl | assumption)  _ _ hP hD hS ls (lv_sub hl [1, 2, 3, 0] rfl)
                · refine lv_iconst (v := 2) hx hb dX11_hasMakers_36 (by decide) ?_
                  refine lv_aload_n hx hb dX11_hasMakers_37 rfl (lv_at hl 0 rfl) ?_
                  refine va_get (D := D) (ci := 11) (v := .ref p25) (C := RX11) (T := TX11) (N := 33) hx hb hts (by decide +kernel) hown hK hP 0 rfl rfl 25 (by decide) (hts (.fieldLink RX11 52 "FiberTraceModel" "begins" "[I") (by decide +kernel)) (fun _ h9 => h9) rfl dX11_hasMakers_38 ?_
                  refine lv_iload_n hx hb dX11_hasMakers_41 rfl (lv_at hl 3 rfl) ?_
                  refine va_iald hx hb hK hP 2 0 rfl rfl (vp_in_nI (by omega) (by omega)) dX11_hasMakers_42 ?_
                  refine ft_top (y := eb j) (ft_clampN (by omega)) ?_
                  refine lv_imul hx hb dX11_hasMakers_43 ?_
                  refine lv_aload_n hx hb dX11_hasMakers_44 rfl (lv_at hl 0 rfl) ?_
                  refine va_get (D := D) (ci := 11) (v := .ref p25) (C := RX11) (T := TX11) (N := 33) hx hb hts (by decide +kernel) hown hK hP 0 rfl rfl 25 (by decide) (hts (.fieldLink RX11 52 "FiberTraceModel" "begins" "[I") (by decide +kernel)) (fun _ h9 => h9) rfl dX11_hasMakers_45 ?_
                  refine lv_iload_n hx hb dX11_hasMakers_48 rfl (lv_at hl 2 rfl) ?_
                  refine va_iald hx hb hK hP 2 0 rfl rfl (vp_in_nI (by omega) (by omega)) dX11_hasMakers_49 ?_
                  refine ft_top (y := eb i) (ft_clampN (by omega)) ?_
                  refine lv_isub hx hb dX11_hasMakers_50 ?_
                  refine lv_aload_n hx hb dX11_hasMakers_51 rfl (lv_at hl 0 rfl) ?_
                  refine va_get (D := D) (ci := 11) (v := .ref p25) (C := RX11) (T := TX11) (N := 33) hx hb hts (by decide +kernel) hown hK hP 0 rfl rfl 25 (by decide) (hts (.fieldLink RX11 52 "FiberTraceModel" "begins" "[I") (by decide +kernel)) (fun _ h9 => h9) rfl dX11_hasMakers_52 ?_
                  refine lv_iload_n hx hb dX11_hasMakers_55 rfl (lv_at hl 1 rfl) ?_
                  refine va_iald hx hb hK hP 2 0 rfl rfl (vp_in_nI (by omega) (by omega)) dX11_hasMakers_56 ?_
                  refine ft_top (y := eb e9) (ft_clampN (by omega)) ?_
                  refine lv_isub hx hb dX11_hasMakers_57 ?_
                  refine ft_csi (r := ftSz (((2 * (eb j)) - (eb i)) - (eb e9))) (va_runS (As := [.int (((2 * (eb j)) - (eb i)) - (eb e9))]) (rest := []) ⟨hx, hb, hml, hown, hts⟩ (c_X11_sizeOf l D cI cS (((2 * (eb j)) - (eb i)) - (eb e9))) (va_cwS 1 hts gX11_hasMakers_X11_sizeOf rfl rfl rfl (by decide +kernel) ⟨Nat.le_of_ble_eq_true rfl, Nat.le_of_ble_eq_true rfl⟩) (ft_preRO hP hKK [] rfl) rfl rfl hl.1 rfl (lv_room (Nat.le_of_ble_eq_true rfl)) dX11_hasMakers_58 ⟨Nat.le_of_ble_eq_true rfl, Nat.le_of_ble_eq_true rfl⟩) ?_
                  refine lv_aload_n hx hb dX11_hasMakers_61 rfl (lv_at hl 0 rfl) ?_
                  refine lv_bipush (v := 9) hx hb dX11_hasMakers_62 (by decide) ?_
                  refine ft_csi (r := w (44 + 9)) (va_runV (C := RX11) (As := [.int 9]) (rest := [.int (ftSz (((2 * (eb j)) - (eb i)) - (eb e9)))]) ⟨hx, hb, hml, hown, hts⟩ (c_X11_setting l D cI cS m0 p0 p1 p3 p5 p10 p12 p13 p14 p16 p17 p19 p20 p21 p22 p25 p26 p27 p28 p29 p30 p31 p32 i2 i4 i6 i7 i8 i9 i11 i15 i18 i23 i24 w 9 (by first | assumption | omega)) (cwV 1 hts gX11_hasMakers_X11_setting rfl rfl rfl (by decide +kernel) ⟨Nat.le_of_ble_eq_true rfl, Nat.le_of_ble_eq_true rfl⟩) (ft_preROV (ci := 11) (q0 := 0) hP hKK [0, 1] rfl rfl rfl) rfl rfl hl.1 rfl (lv_room (Nat.le_of_ble_eq_true rfl)) dX11_hasMakers_64 ⟨Nat.le_of_ble_eq_true rfl, Nat.le_of_ble_eq_true rfl⟩) ?_
                  refine lv_icmp_gt (tgt := 86) hx hb dX11_hasMakers_67 (by decide) (fun c67 => ?_) (fun c67 => ?_)
                  · refine lv_iinc (v := nI (j + 1)) (lv' := [(3, .int (nI (j + 1))), (0, .ref m0), (1, .int (nI e9)), (2, .int (nI i))]) hx hb dX11_hasMakers_86 hl (k := 3) rfl (ft_inc j) (by decide) rfl (fun ls hl => ?_)
                    refine lv_goto (tgt := 11) hx hb dX11_hasMakers_89 (by decide) ?_
                    exact ih11 (j + 1) (nI (j + 1))  (by omega) (by omega) (by omega) (by rw [hin]; first | exact ftMkIn_go (by omega) (ftMkM_3 c67) | exact ftMkIn_go (by omega) (ftMkM_2 c33) | exact ftMkIn_go (by omega) (ftMkM_1 c23)) (by first | rfl | assumption)  _ _ hP hD hS ls (lv_sub hl [1, 2, 3, 0] rfl)
                  · have hM9 : ftMkOut (ftRoM eb ek) (w (44 + 9)) e9 e9 = some (i, j) := ho.trans (ftMkOut_hit (by omega) (hin.trans (ftMkIn_hit (by omega) (ftMkM c23 c33 (Int32.not_lt.mp c67)))))
                    refine lv_aload_n hx hb dX11_hasMakers_70 rfl (lv_at hl 0 rfl) ?_
                    refine va_get (D := D) (ci := 11) (v := .ref p31) (C := RX11) (T := TX11) (N := 33) hx hb hts (by decide +kernel) hown hK hP 0 rfl rfl 31 (by decide) (hts (.fieldLink RX11 70 "FiberTraceModel" "makerOne" "[I") (by decide +kernel)) (fun _ h9 => h9) rfl dX11_hasMakers_71 ?_
                    refine lv_iload_n hx hb dX11_hasMakers_74 rfl (lv_at hl 1 rfl) ?_
                    refine lv_iload_n hx hb dX11_hasMakers_75 rfl (lv_at hl 2 rfl) ?_
                    refine va_iast hx hb hK hP hD hS 4 0 rfl rfl (vp_in_nI (by omega) (by omega)) dX11_hasMakers_76 (fun H locs hP hD hS => ?_)
                    rw [nI_clamp (show e9 < 2 ^ 31 by omega)] at hP hD
                    have hP : va_P D vwCl [(m0, .inr (11, [.ref p0, .ref p1, .int i2, .ref p3, .int i4, .ref p5, .int i6, .int i7, .int i8, .int i9, .ref p10, .int i11, .ref p12, .ref p13, .ref p14, .int i15, .ref p16, .ref p17, .int i18, .ref p19, .ref p20, .ref p21, .ref p22, .int i23, .int i24, .ref p25, .ref p26, .ref p27, .ref p28, .ref p29, .ref p30, .ref p31, .ref p32])), (p0, .inl (cI, 1439, .inl w)), (p25, .inl (cI, 30, .inl eb)), (p29, .inl (cI, 30, .inl ek)), (p31, .inl (cI, 30, .inl (upd e1 e9 (nI i)))), (p32, .inl (cI, 30, .inl e2))] H := hP
                    have hD : va_D A [(m0, .inr (11, [.ref p0, .ref p1, .int i2, .ref p3, .int i4, .ref p5, .int i6, .int i7, .int i8, .int i9, .ref p10, .int i11, .ref p12, .ref p13, .ref p14, .int i15, .ref p16, .ref p17, .int i18, .ref p19, .ref p20, .ref p21, .ref p22, .int i23, .int i24, .ref p25, .ref p26, .ref p27, .ref p28, .ref p29, .ref p30, .ref p31, .ref p32])), (p0, .inl (cI, 1439, .inl w)), (p25, .inl (cI, 30, .inl eb)), (p29, .inl (cI, 30, .inl ek)), (p31, .inl (cI, 30, .inl (upd e1 e9 (nI i)))), (p32, .inl (cI, 30, .inl e2))] := hD
                    refine lv_aload_n hx hb dX11_hasMakers_77 rfl (lv_at hl 0 rfl) ?_
                    refine va_get (D := D) (ci := 11) (v := .ref p32) (C := RX11) (T := TX11) (N := 33) hx hb hts (by decide +kernel) hown hK hP 0 rfl rfl 32 (by decide) (hts (.fieldLink RX11 73 "FiberTraceModel" "makerTwo" "[I") (by decide +kernel)) (fun _ h9 => h9) rfl dX11_hasMakers_78 ?_
                    refine lv_iload_n hx hb dX11_hasMakers_81 rfl (lv_at hl 1 rfl) ?_
                    refine lv_iload_n hx hb dX11_hasMakers_82 rfl (lv_at hl 3 rfl) ?_
                    refine va_iast hx hb hK hP hD hS 5 0 rfl rfl (vp_in_nI (by omega) (by omega)) dX11_hasMakers_83 (fun H locs hP hD hS => ?_)
                    rw [nI_clamp (show e9 < 2 ^ 31 by omega)] at hP hD
                    have hP : va_P D vwCl [(m0, .inr (11, [.ref p0, .ref p1, .int i2, .ref p3, .int i4, .ref p5, .int i6, .int i7, .int i8, .int i9, .ref p10, .int i11, .ref p12, .ref p13, .ref p14, .int i15, .ref p16, .ref p17, .int i18, .ref p19, .ref p20, .ref p21, .ref p22, .int i23, .int i24, .ref p25, .ref p26, .ref p27, .ref p28, .ref p29, .ref p30, .ref p31, .ref p32])), (p0, .inl (cI, 1439, .inl w)), (p25, .inl (cI, 30, .inl eb)), (p29, .inl (cI, 30, .inl ek)), (p31, .inl (cI, 30, .inl (upd e1 e9 (nI i)))), (p32, .inl (cI, 30, .inl (upd e2 e9 (nI j))))] H := hP
                    have hD : va_D A [(m0, .inr (11, [.ref p0, .ref p1, .int i2, .ref p3, .int i4, .ref p5, .int i6, .int i7, .int i8, .int i9, .ref p10, .int i11, .ref p12, .ref p13, .ref p14, .int i15, .ref p16, .ref p17, .int i18, .ref p19, .ref p20, .ref p21, .ref p22, .int i23, .int i24, .ref p25, .ref p26, .ref p27, .ref p28, .ref p29, .ref p30, .ref p31, .ref p32])), (p0, .inl (cI, 1439, .inl w)), (p25, .inl (cI, 30, .inl eb)), (p29, .inl (cI, 30, .inl ek)), (p31, .inl (cI, 30, .inl (upd e1 e9 (nI i)))), (p32, .inl (cI, 30, .inl (upd e2 e9 (nI j))))] := hD
                    refine lv_iconst (v := 1) hx hb dX11_hasMakers_84 (by decide) ?_
                    have hw9 : ([(m0, .inr (11, [.ref p0, .ref p1, .int i2, .ref p3, .int i4, .ref p5, .int i6, .int i7, .int i8, .int i9, .ref p10, .int i11, .ref p12, .ref p13, .ref p14, .int i15, .ref p16, .ref p17, .int i18, .ref p19, .ref p20, .ref p21, .ref p22, .int i23, .int i24, .ref p25, .ref p26, .ref p27, .ref p28, .ref p29, .ref p30, .ref p31, .ref p32])), (p0, .inl (cI, 1439, .inl w)), (p25, .inl (cI, 30, .inl eb)), (p29, .inl (cI, 30, .inl ek)), (p31, .inl (cI, 30, .inl (upd e1 e9 (nI i)))), (p32, .inl (cI, 30, .inl (upd e2 e9 (nI j))))] : va_W) = [(m0, .inr (11, [.ref p0, .ref p1, .int i2, .ref p3, .int i4, .ref p5, .int i6, .int i7, .int i8, .int i9, .ref p10, .int i11, .ref p12, .ref p13, .ref p14, .int i15, .ref p16, .ref p17, .int i18, .ref p19, .ref p20, .ref p21, .ref p22, .int i23, .int i24, .ref p25, .ref p26, .ref p27, .ref p28, .ref p29, .ref p30, .ref p31, .ref p32])), (p0, .inl (cI, 1439, .inl w)), (p25, .inl (cI, 30, .inl eb)), (p29, .inl (cI, 30, .inl ek)), (p31, .inl (cI, 30, .inl (ftMk1 (ftMkOut (ftRoM eb ek) (w (44 + 9)) e9 e9) e1 e9))), (p32, .inl (cI, 30, .inl (ftMk2 (ftMkOut (ftRoM eb ek) (w (44 + 9)) e9 e9) e2 e9)))] := by rw [hM9]; rfl
                    rw [hw9] at hP hD
                    exact W.zret (v := 1) hx hb hr (by rfl) (fun t ht hW => ⟨⟨1, (), rfl, (by show (1 : Int32) = ftB (¬ ftMkOut (ftRoM eb ek) (w (44 + 9)) e9 e9 = none); exact (ftB_t (by rw [hM9]; exact fun q => by cases q)).symm), by rw [ht]; exact hP, by rw [hAe]; exact hD⟩, by rw [hAe]; exact hS.F ht⟩) hS.2.2 dX11_hasMakers_85
        exact lp11 _ (i + 1) (nI (i + 1))  (Nat.lt_succ_self _) (by omega) (by omega) (by rfl) (by rfl) _ _ hP hD hS ls (lv_sub hl [1, 2, 3, 0] rfl)
  exact lp2 _ 0 0  (Nat.lt_succ_self _) (by omega) (by rfl) (by rfl) _ _ hP hD hS ls (lv_sub hl [1, 2, 0] rfl)
end
