/-! the reference: changes, texts' ends, noise -/
/-- where a part at x comes among k parts of a row -/
def ftPosW (w : Nat → Int32) (x : Int32) : Nat → Nat
  | 0 => 0
  | k + 1 => if x < w (4 + 4 * k + 1) then ftPosW w x k else k + 1
theorem ftPosW_le (w : Nat → Int32) (x : Int32) (n : Nat) : ftPosW w x n ≤ n := by
  induction n with
  | zero => exact Nat.le_refl 0
  | succ n ih => unfold ftPosW; split <;> omega
theorem ftPosW_gt {w : Nat → Int32} {x : Int32} {k : Nat} (hk : 0 < k) (h : x < w (4 + 4 * (k - 1) + 1)) : ftPosW w x k = ftPosW w x (k - 1) := by
  obtain ⟨j, rfl⟩ : ∃ j, k = j + 1 := ⟨k - 1, by omega⟩
  exact if_pos h
theorem ftPosW_ge {w : Nat → Int32} {x : Int32} {k : Nat} (hk : 0 < k) (h : ¬ x < w (4 + 4 * (k - 1) + 1)) : ftPosW w x k = k := by
  obtain ⟨j, rfl⟩ : ∃ j, k = j + 1 := ⟨k - 1, by omega⟩
  exact if_neg h
/-- the parts from the k-th on, of n, a place further -/
def ftShP (w : Nat → Int32) (n k : Nat) : Nat → Int32 := fun t => if 4 + 4 * k + 4 ≤ t ∧ t < 4 + 4 * n + 4 then w (t - 4) else w t
def ftShI (w : Nat → Int32) (n k i : Nat) : Nat → Int32 := fun t => if 4 + 4 * k ≤ t ∧ t < 4 + 4 * k + i then w (t - 4) else ftShP w n k t
theorem ftShP_0 (w : Nat → Int32) (n : Nat) : w = ftShP w n n := funext fun t => (if_neg (by omega)).symm
theorem ftShI_0 (w : Nat → Int32) (n k : Nat) : ftShP w n k = ftShI w n k 0 := funext fun t => (if_neg (by omega)).symm
theorem ftShP_low {w : Nat → Int32} {n k t : Nat} (h : t < 4 + 4 * k + 4) : ftShP w n k t = w t := if_neg (by omega)
theorem ftShI_s {w : Nat → Int32} {n k i : Nat} (hk : 0 < k) (hi : i < 4) : upd (ftShI w n k i) (4 + 4 * k + i) (ftShI w n k i (4 + 4 * (k - 1) + i)) = ftShI w n k (i + 1) := by
  have e : ftShI w n k i (4 + 4 * (k - 1) + i) = w (4 + 4 * (k - 1) + i) := by
    unfold ftShI
    rw [if_neg (by omega), ftShP_low (by omega)]
  rw [e]
  funext t
  unfold upd ftShI
  by_cases q : t = 4 + 4 * k + i
  · rw [if_pos q, if_pos (by omega)]
    congr 1
    omega
  · rw [if_neg q]
    by_cases r : 4 + 4 * k ≤ t ∧ t < 4 + 4 * k + i
    · rw [if_pos r, if_pos (by omega)]
    · rw [if_neg r, if_neg (by omega)]
theorem ftShI_4 {w : Nat → Int32} {n k : Nat} (hk : 0 < k) (hkn : k ≤ n) : ftShI w n k 4 = ftShP w n (k - 1) := by
  funext t
  unfold ftShI ftShP
  by_cases q : 4 + 4 * k ≤ t ∧ t < 4 + 4 * k + 4
  · rw [if_pos q, if_pos (by omega)]
  · rw [if_neg q]
    by_cases r : 4 + 4 * k + 4 ≤ t ∧ t < 4 + 4 * n + 4
    · rw [if_pos r, if_pos (by omega)]
    · rw [if_neg r, if_neg (by omega)]
def ftAdd (w : Nat → Int32) (n : Nat) (kd x lo re : Int32) : Nat → Int32 := upd (ftComes (ftShP w n (ftPosW w x n)) (ftPosW w x n) kd x lo re) 3 (nI (n + 1))
theorem ftComes_3 {w : Nat → Int32} {n k : Nat} {kd x lo re : Int32} : ftComes (ftShP w n k) k kd x lo re 3 = w 3 := by
  unfold ftComes upd
  rw [if_neg (by omega), if_neg (by omega), if_neg (by omega), if_neg (by omega), ftShP_low (by omega)]
theorem ftUpd_ne {f : Nat → Int32} {k t : Nat} {x : Int32} (h : t ≠ k) : upd f k x t = f t := if_neg h
/-- the text behind a character typed -/
noncomputable def ftTl (tn : Nat) (x : Int32) : Nat := @ite _ ((32 ≤ x ∧ x ≤ 126) ∧ tn ≠ 120) (Classical.propDecidable _) (tn + 1) tn
noncomputable def ftTt (tx : Nat → Int32) (tn : Nat) (x : Int32) : Nat → Int32 := @ite _ ((32 ≤ x ∧ x ≤ 126) ∧ tn ≠ 120) (Classical.propDecidable _) (upd tx tn x) tx
theorem ftTl_t {tn : Nat} {x : Int32} (h : (32 ≤ x ∧ x ≤ 126) ∧ tn ≠ 120) : ftTl tn x = tn + 1 := if_pos h
theorem ftTl_f {tn : Nat} {x : Int32} (h : ¬ ((32 ≤ x ∧ x ≤ 126) ∧ tn ≠ 120)) : ftTl tn x = tn := if_neg h
theorem ftTt_t {tx : Nat → Int32} {tn : Nat} {x : Int32} (h : (32 ≤ x ∧ x ≤ 126) ∧ tn ≠ 120) : ftTt tx tn x = upd tx tn x := if_pos h
theorem ftTt_f {tx : Nat → Int32} {tn : Nat} {x : Int32} (h : ¬ ((32 ≤ x ∧ x ≤ 126) ∧ tn ≠ 120)) : ftTt tx tn x = tx := if_neg h
set_option maxHeartbeats 4000000 in
set_option maxRecDepth 100000 in
theorem c_X11_type (l : Launch) (D : va_G) (cI cS : ClassId) (sz : Nat) (m0 p0 p1 p3 p5 p10 p12 p13 p14 p16 p17 p19 p20 p21 p22 p25 p26 p27 p28 p29 p30 p31 p32 : Nat) (i2 i6 i7 i8 i9 i11 i15 i18 i23 i24 : Int32) (tx : Nat → Int32) (tn : Nat) (x : Int32) (htn : tn ≤ 120) : Met l yX11_type wsX11_type ({ frames := 1, cells := 0, slots := 0, locals := 25 }) (ftRW D cI cS [.ref m0, .int x] [(m0, .inr (11, [.ref p0, .ref p1, .int i2, .ref p3, .int (nI tn), .ref p5, .int i6, .int i7, .int i8, .int i9, .ref p10, .int i11, .ref p12, .ref p13, .ref p14, .int i15, .ref p16, .ref p17, .int i18, .ref p19, .ref p20, .ref p21, .ref p22, .int i23, .int i24, .ref p25, .ref p26, .ref p27, .ref p28, .ref p29, .ref p30, .ref p31, .ref p32])), (p3, .inl (cI, 120, .inl tx))] sz) (ftQi D (ftIte (32 ≤ x ∧ x ≤ 126) (if tn = 120 then -1000003 else nI (tn + 1)) (-1000001)) [(m0, .inr (11, [.ref p0, .ref p1, .int i2, .ref p3, .int (nI tn), .ref p5, .int i6, .int i7, .int i8, .int i9, .ref p10, .int i11, .ref p12, .ref p13, .ref p14, .int i15, .ref p16, .ref p17, .int i18, .ref p19, .ref p20, .ref p21, .ref p22, .int i23, .int i24, .ref p25, .ref p26, .ref p27, .ref p28, .ref p29, .ref p30, .ref p31, .ref p32])), (p3, .inl (cI, 120, .inl tx))] [(m0, .inr (11, [.ref p0, .ref p1, .int i2, .ref p3, .int (nI (ftTl tn x)), .ref p5, .int i6, .int i7, .int i8, .int i9, .ref p10, .int i11, .ref p12, .ref p13, .ref p14, .int i15, .ref p16, .ref p17, .int i18, .ref p19, .ref p20, .ref p21, .ref p22, .int i23, .int i24, .ref p25, .ref p26, .ref p27, .ref p28, .ref p29, .ref p30, .ref p31, .ref p32])), (p3, .inl (cI, 120, .inl (ftTt tx tn x)))] sz) 0 0 (va_A [(m0, .inr (11, [.ref p0, .ref p1, .int i2, .ref p3, .int (nI tn), .ref p5, .int i6, .int i7, .int i8, .int i9, .ref p10, .int i11, .ref p12, .ref p13, .ref p14, .int i15, .ref p16, .ref p17, .int i18, .ref p19, .ref p20, .ref p21, .ref p22, .int i23, .int i24, .ref p25, .ref p26, .ref p27, .ref p28, .ref p29, .ref p30, .ref p31, .ref p32])), (p3, .inl (cI, 120, .inl tx))] sz) := by
  refine Met.ofW (cc := cX11_type) (maxL := 2) (ret := (some .int)) (by decide) rfl ?_
  intro p e s m args below meth c s₁ B hml hv
  obtain ⟨rfl, hsz, hP, hKK, hD0⟩ := hv
  have hK := hKK.1
  have hx := B.exec
  have hb := B.bytes
  have hr := B.returns
  have hts := atoms_spec (ws := wsX11_type) B.pre
  have hown : s.vm.findClass RX11 = some m.cls := findClass_of_methodNamed B.named
  have hlocks := B.notSynchronized
  subst hsz
  have hD := hD0.self (sz := s.heap.size)
  generalize hAe : va_A [(m0, .inr (11, [.ref p0, .ref p1, .int i2, .ref p3, .int (nI tn), .ref p5, .int i6, .int i7, .int i8, .int i9, .ref p10, .int i11, .ref p12, .ref p13, .ref p14, .int i15, .ref p16, .ref p17, .int i18, .ref p19, .ref p20, .ref p21, .ref p22, .int i23, .int i24, .ref p25, .ref p26, .ref p27, .ref p28, .ref p29, .ref p30, .ref p31, .ref p32])), (p3, .inl (cI, 120, .inl tx))] s.heap.size = A at hD ⊢
  have hA : ∀ q : Nat, s.heap.size ≤ q → A q := fun q h => by rw [← hAe]; exact Or.inr h
  have hS : va_S A s.heap s.heap [] := va_S.rf
  have hD : va_D A [(m0, .inr (11, [.ref p0, .ref p1, .int i2, .ref p3, .int (nI tn), .ref p5, .int i6, .int i7, .int i8, .int i9, .ref p10, .int i11, .ref p12, .ref p13, .ref p14, .int i15, .ref p16, .ref p17, .int i18, .ref p19, .ref p20, .ref p21, .ref p22, .int i23, .int i24, .ref p25, .ref p26, .ref p27, .ref p28, .ref p29, .ref p30, .ref p31, .ref p32])), (p3, .inl (cI, 120, .inl tx))] := hD
  have hP : va_P D vwCl [(m0, .inr (11, [.ref p0, .ref p1, .int i2, .ref p3, .int (nI tn), .ref p5, .int i6, .int i7, .int i8, .int i9, .ref p10, .int i11, .ref p12, .ref p13, .ref p14, .int i15, .ref p16, .ref p17, .int i18, .ref p19, .ref p20, .ref p21, .ref p22, .int i23, .int i24, .ref p25, .ref p26, .ref p27, .ref p28, .ref p29, .ref p30, .ref p31, .ref p32])), (p3, .inl (cI, 120, .inl tx))] s.heap := hP
  have hl := lv_entry ([.ref m0, .int x]) (n := 2) (Nat.le_of_ble_eq_true rfl)
  rw [lg_entry_eq]
  generalize (lg_sl ([.ref m0, .int x]) ++ List.replicate (2 - (lg_sl ([.ref m0, .int x])).length) Slot.unset).toArray = ls at hl ⊢
  have hl : lv_has ls 2 [(0, .ref m0), (1, .int x)] := hl
  refine lv_iload_n hx hb dX11_type_0 rfl (lv_at hl 1 rfl) ?_
  refine lv_i2l (v := x.toInt64) hx hb dX11_type_1 rfl ?_
  refine lv_ldc2 (v := 32) hx hb hown (hts (.constantLong RX11 87 32) (by decide +kernel)) dX11_type_2 ?_
  refine lv_ldc2 (v := 126) hx hb hown (hts (.constantLong RX11 89 126) (by decide +kernel)) dX11_type_5 ?_
  refine ft_csi (r := ftB (32 ≤ x.toInt64 ∧ x.toInt64 ≤ 126)) (va_runS (As := [.long x.toInt64, .long 32, .long 126]) (rest := []) ⟨hx, hb, hml, hown, hts⟩ (c_X11_in l D cI cS x.toInt64 32 126) (va_cwS 3 hts gX11_type_X11_in rfl rfl rfl (by decide +kernel) ⟨Nat.le_of_ble_eq_true rfl, Nat.le_of_ble_eq_true rfl⟩) (ft_preRO hP hKK [] rfl) rfl rfl hl.1 rfl (lv_room (Nat.le_of_ble_eq_true rfl)) dX11_type_8 ⟨Nat.le_of_ble_eq_true rfl, Nat.le_of_ble_eq_true rfl⟩) ?_
  refine ft_top (y := ftB (32 ≤ x ∧ x ≤ 126)) (ft_in64 (by decide) (by decide)) ?_
  refine lv_if_ne (tgt := 17) hx hb dX11_type_11 (by decide) (fun c11 => ?_) (fun c11 => ?_)
  · replace c11 := ftB_ne c11
    refine lv_aload_n hx hb dX11_type_17 rfl (lv_at hl 0 rfl) ?_
    refine va_get (D := D) (ci := 11) (v := .int (nI tn)) (C := RX11) (T := TX11) (N := 33) hx hb hts (by decide +kernel) hown hK hP 0 rfl rfl 4 (by decide) (hts (.fieldLink RX11 96 "FiberTraceModel" "length" "I") (by decide +kernel)) (fun _ h9 => h9) rfl dX11_type_18 ?_
    refine lv_bipush (v := 120) hx hb dX11_type_21 (by decide) ?_
    refine lv_icmp_ne (tgt := 29) hx hb dX11_type_23 (by decide) (fun c23 => ?_) (fun c23 => ?_)
    · have c23n : tn ≠ 120 := ft_neN (by omega) (by omega) c23
      refine lv_aload_n hx hb dX11_type_29 rfl (lv_at hl 0 rfl) ?_
      refine va_get (D := D) (ci := 11) (v := .ref p3) (C := RX11) (T := TX11) (N := 33) hx hb hts (by decide +kernel) hown hK hP 0 rfl rfl 3 (by decide) (hts (.fieldLink RX11 16 "FiberTraceModel" "text" "[I") (by decide +kernel)) (fun _ h9 => h9) rfl dX11_type_30 ?_
      refine lv_aload_n hx hb dX11_type_33 rfl (lv_at hl 0 rfl) ?_
      refine va_get (D := D) (ci := 11) (v := .int (nI tn)) (C := RX11) (T := TX11) (N := 33) hx hb hts (by decide +kernel) hown hK hP 0 rfl rfl 4 (by decide) (hts (.fieldLink RX11 96 "FiberTraceModel" "length" "I") (by decide +kernel)) (fun _ h9 => h9) rfl dX11_type_34 ?_
      refine lv_iload_n hx hb dX11_type_37 rfl (lv_at hl 1 rfl) ?_
      refine va_iast hx hb hK hP hD hS 1 0 rfl rfl (vp_in_nI (by omega) (by omega)) dX11_type_38 (fun H locs hP hD hS => ?_)
      rw [nI_clamp (show tn < 2 ^ 31 by omega)] at hP hD
      have hP : va_P D vwCl [(m0, .inr (11, [.ref p0, .ref p1, .int i2, .ref p3, .int (nI tn), .ref p5, .int i6, .int i7, .int i8, .int i9, .ref p10, .int i11, .ref p12, .ref p13, .ref p14, .int i15, .ref p16, .ref p17, .int i18, .ref p19, .ref p20, .ref p21, .ref p22, .int i23, .int i24, .ref p25, .ref p26, .ref p27, .ref p28, .ref p29, .ref p30, .ref p31, .ref p32])), (p3, .inl (cI, 120, .inl (upd tx tn x)))] H := hP
      have hD : va_D A [(m0, .inr (11, [.ref p0, .ref p1, .int i2, .ref p3, .int (nI tn), .ref p5, .int i6, .int i7, .int i8, .int i9, .ref p10, .int i11, .ref p12, .ref p13, .ref p14, .int i15, .ref p16, .ref p17, .int i18, .ref p19, .ref p20, .ref p21, .ref p22, .int i23, .int i24, .ref p25, .ref p26, .ref p27, .ref p28, .ref p29, .ref p30, .ref p31, .ref p32])), (p3, .inl (cI, 120, .inl (upd tx tn x)))] := hD
      refine lv_aload_n hx hb dX11_type_39 rfl (lv_at hl 0 rfl) ?_
      refine lv_dup hx hb dX11_type_40 rfl ?_
      refine va_get (D := D) (ci := 11) (v := .int (nI tn)) (C := RX11) (T := TX11) (N := 33) hx hb hts (by decide +kernel) hown hK hP 0 rfl rfl 4 (by decide) (hts (.fieldLink RX11 96 "FiberTraceModel" "length" "I") (by decide +kernel)) (fun _ h9 => h9) rfl dX11_type_41 ?_
      refine lv_iconst (v := 1) hx hb dX11_type_44 (by decide) ?_
      refine lv_iadd hx hb dX11_type_45 ?_
      refine ft_top (y := nI (tn + 1)) (ft_addN tn 1) ?_
      refine va_put (D := D) (ci := 11) (v := .int (nI (tn + 1))) (ty := .int) (C := RX11) (T := TX11) (N := 33) hx hb hts (by decide +kernel) tyX11 tyX11_ok nmX11 hown hK hP hD hS 0 rfl rfl 4 (by decide) (hts (.fieldLink RX11 96 "FiberTraceModel" "length" "I") (by decide +kernel)) (fun _ h9 => h9) rfl (by decide +kernel) rfl rfl (Nat.le_of_ble_eq_true rfl) dX11_type_46 (fun H locs hP hD hS => ?_)
      have hP : va_P D vwCl [(m0, .inr (11, [.ref p0, .ref p1, .int i2, .ref p3, .int (nI (tn + 1)), .ref p5, .int i6, .int i7, .int i8, .int i9, .ref p10, .int i11, .ref p12, .ref p13, .ref p14, .int i15, .ref p16, .ref p17, .int i18, .ref p19, .ref p20, .ref p21, .ref p22, .int i23, .int i24, .ref p25, .ref p26, .ref p27, .ref p28, .ref p29, .ref p30, .ref p31, .ref p32])), (p3, .inl (cI, 120, .inl (upd tx tn x)))] H := hP
      have hD : va_D A [(m0, .inr (11, [.ref p0, .ref p1, .int i2, .ref p3, .int (nI (tn + 1)), .ref p5, .int i6, .int i7, .int i8, .int i9, .ref p10, .int i11, .ref p12, .ref p13, .ref p14, .int i15, .ref p16, .ref p17, .int i18, .ref p19, .ref p20, .ref p21, .ref p22, .int i23, .int i24, .ref p25, .ref p26, .ref p27, .ref p28, .ref p29, .ref p30, .ref p31, .ref p32])), (p3, .inl (cI, 120, .inl (upd tx tn x)))] := hD
      refine lv_aload_n hx hb dX11_type_49 rfl (lv_at hl 0 rfl) ?_
      refine va_get (D := D) (ci := 11) (v := .int (nI (tn + 1))) (C := RX11) (T := TX11) (N := 33) hx hb hts (by decide +kernel) hown hK hP 0 rfl rfl 4 (by decide) (hts (.fieldLink RX11 96 "FiberTraceModel" "length" "I") (by decide +kernel)) (fun _ h9 => h9) rfl dX11_type_50 ?_
      have hw9 : ([(m0, .inr (11, [.ref p0, .ref p1, .int i2, .ref p3, .int (nI (tn + 1)), .ref p5, .int i6, .int i7, .int i8, .int i9, .ref p10, .int i11, .ref p12, .ref p13, .ref p14, .int i15, .ref p16, .ref p17, .int i18, .ref p19, .ref p20, .ref p21, .ref p22, .int i23, .int i24, .ref p25, .ref p26, .ref p27, .ref p28, .ref p29, .ref p30, .ref p31, .ref p32])), (p3, .inl (cI, 120, .inl (upd tx tn x)))] : va_W) = [(m0, .inr (11, [.ref p0, .ref p1, .int i2, .ref p3, .int (nI (ftTl tn x)), .ref p5, .int i6, .int i7, .int i8, .int i9, .ref p10, .int i11, .ref p12, .ref p13, .ref p14, .int i15, .ref p16, .ref p17, .int i18, .ref p19, .ref p20, .ref p21, .ref p22, .int i23, .int i24, .ref p25, .ref p26, .ref p27, .ref p28, .ref p29, .ref p30, .ref p31, .ref p32])), (p3, .inl (cI, 120, .inl (ftTt tx tn x)))] := by rw [ftTl_t ⟨c11, c23n⟩, ftTt_t ⟨c11, c23n⟩]
      rw [hw9] at hP hD
      exact W.iret (v := nI (tn + 1)) hx hb hr (fun t ht hW => ⟨⟨nI (tn + 1), (), rfl, (by show (nI (tn + 1) : Int32) = ftIte (32 ≤ x ∧ x ≤ 126) (if tn = 120 then -1000003 else nI (tn + 1)) (-1000001); exact ((ftIte_t c11).trans (if_neg c23n)).symm), by rw [ht]; exact hP, by rw [hAe]; exact hD⟩, by rw [hAe]; exact hS.F ht⟩) hS.2.2 dX11_type_53
    · have c23n : tn = 120 := ft_eqN (by omega) (by omega) c23
      refine lv_ldc (v := (-1000003)) hx hb hown (hts (.constant RX11 99 (-1000003)) (by decide +kernel)) dX11_type_26 ?_
      have hw9 : ([(m0, .inr (11, [.ref p0, .ref p1, .int i2, .ref p3, .int (nI tn), .ref p5, .int i6, .int i7, .int i8, .int i9, .ref p10, .int i11, .ref p12, .ref p13, .ref p14, .int i15, .ref p16, .ref p17, .int i18, .ref p19, .ref p20, .ref p21, .ref p22, .int i23, .int i24, .ref p25, .ref p26, .ref p27, .ref p28, .ref p29, .ref p30, .ref p31, .ref p32])), (p3, .inl (cI, 120, .inl tx))] : va_W) = [(m0, .inr (11, [.ref p0, .ref p1, .int i2, .ref p3, .int (nI (ftTl tn x)), .ref p5, .int i6, .int i7, .int i8, .int i9, .ref p10, .int i11, .ref p12, .ref p13, .ref p14, .int i15, .ref p16, .ref p17, .int i18, .ref p19, .ref p20, .ref p21, .ref p22, .int i23, .int i24, .ref p25, .ref p26, .ref p27, .ref p28, .ref p29, .ref p30, .ref p31, .ref p32])), (p3, .inl (cI, 120, .inl (ftTt tx tn x)))] := by rw [ftTl_f (fun q => q.2 c23n), ftTt_f (fun q => q.2 c23n)]
      rw [hw9] at hP hD
      exact W.iret (v := (-1000003)) hx hb hr (fun t ht hW => ⟨⟨(-1000003), (), rfl, (by show ((-1000003) : Int32) = ftIte (32 ≤ x ∧ x ≤ 126) (if tn = 120 then -1000003 else nI (tn + 1)) (-1000001); exact ((ftIte_t c11).trans (if_pos c23n)).symm), by rw [ht]; exact hP, by rw [hAe]; exact hD⟩, by rw [hAe]; exact hS.F ht⟩) hS.2.2 dX11_type_28
  · replace c11 := ftB_eq c11
    refine lv_ldc (v := (-1000001)) hx hb hown (hts (.constant RX11 95 (-1000001)) (by decide +kernel)) dX11_type_14 ?_
    have hw9 : ([(m0, .inr (11, [.ref p0, .ref p1, .int i2, .ref p3, .int (nI tn), .ref p5, .int i6, .int i7, .int i8, .int i9, .ref p10, .int i11, .ref p12, .ref p13, .ref p14, .int i15, .ref p16, .ref p17, .int i18, .ref p19, .ref p20, .ref p21, .ref p22, .int i23, .int i24, .ref p25, .ref p26, .ref p27, .ref p28, .ref p29, .ref p30, .ref p31, .ref p32])), (p3, .inl (cI, 120, .inl tx))] : va_W) = [(m0, .inr (11, [.ref p0, .ref p1, .int i2, .ref p3, .int (nI (ftTl tn x)), .ref p5, .int i6, .int i7, .int i8, .int i9, .ref p10, .int i11, .ref p12, .ref p13, .ref p14, .int i15, .ref p16, .ref p17, .int i18, .ref p19, .ref p20, .ref p21, .ref p22, .int i23, .int i24, .ref p25, .ref p26, .ref p27, .ref p28, .ref p29, .ref p30, .ref p31, .ref p32])), (p3, .inl (cI, 120, .inl (ftTt tx tn x)))] := by rw [ftTl_f (fun q => c11 q.1), ftTt_f (fun q => c11 q.1)]
    rw [hw9] at hP hD
    exact W.iret (v := (-1000001)) hx hb hr (fun t ht hW => ⟨⟨(-1000001), (), rfl, (by show ((-1000001) : Int32) = ftIte (32 ≤ x ∧ x ≤ 126) (if tn = 120 then -1000003 else nI (tn + 1)) (-1000001); exact (ftIte_f c11).symm), by rw [ht]; exact hP, by rw [hAe]; exact hD⟩, by rw [hAe]; exact hS.F ht⟩) hS.2.2 dX11_type_16
set_option maxHeartbeats 4000000 in
set_option maxRecDepth 100000 in
theorem c_X11_undo (l : Launch) (D : va_G) (cI cS : ClassId) (sz : Nat) (m0 p0 p1 p3 p5 p10 p12 p13 p14 p16 p17 p19 p20 p21 p22 p25 p26 p27 p28 p29 p30 p31 p32 : Nat) (i4 i6 i7 i8 i9 i11 i15 i18 i23 i24 : Int32) (w z : Nat → Int32) (hm : Nat) (hhm : hm ≤ 5) : Met l yX11_undo wsX11_undo ({ frames := 0, cells := 0, slots := 0, locals := 0 }) (ftRW D cI cS [.ref m0] [(m0, .inr (11, [.ref p0, .ref p1, .int (nI hm), .ref p3, .int i4, .ref p5, .int i6, .int i7, .int i8, .int i9, .ref p10, .int i11, .ref p12, .ref p13, .ref p14, .int i15, .ref p16, .ref p17, .int i18, .ref p19, .ref p20, .ref p21, .ref p22, .int i23, .int i24, .ref p25, .ref p26, .ref p27, .ref p28, .ref p29, .ref p30, .ref p31, .ref p32])), (p0, .inl (cI, 1439, .inl w)), (p1, .inl (cI, 7195, .inl z))] sz) (ftQi D (if hm = 0 then -1000002 else nI (hm - 1)) [(m0, .inr (11, [.ref p0, .ref p1, .int (nI hm), .ref p3, .int i4, .ref p5, .int i6, .int i7, .int i8, .int i9, .ref p10, .int i11, .ref p12, .ref p13, .ref p14, .int i15, .ref p16, .ref p17, .int i18, .ref p19, .ref p20, .ref p21, .ref p22, .int i23, .int i24, .ref p25, .ref p26, .ref p27, .ref p28, .ref p29, .ref p30, .ref p31, .ref p32])), (p0, .inl (cI, 1439, .inl w)), (p1, .inl (cI, 7195, .inl z))] [(m0, .inr (11, [.ref p0, .ref p1, .int (nI (hm - 1)), .ref p3, .int i4, .ref p5, .int i6, .int i7, .int i8, .int i9, .ref p10, .int i11, .ref p12, .ref p13, .ref p14, .int i15, .ref p16, .ref p17, .int i18, .ref p19, .ref p20, .ref p21, .ref p22, .int i23, .int i24, .ref p25, .ref p26, .ref p27, .ref p28, .ref p29, .ref p30, .ref p31, .ref p32])), (p0, .inl (cI, 1439, .inl (if hm = 0 then w else ftFill (fun t => z ((hm - 1) * 1439 + t)) w 1439))), (p1, .inl (cI, 7195, .inl z))] sz) 0 0 (va_A [(m0, .inr (11, [.ref p0, .ref p1, .int (nI hm), .ref p3, .int i4, .ref p5, .int i6, .int i7, .int i8, .int i9, .ref p10, .int i11, .ref p12, .ref p13, .ref p14, .int i15, .ref p16, .ref p17, .int i18, .ref p19, .ref p20, .ref p21, .ref p22, .int i23, .int i24, .ref p25, .ref p26, .ref p27, .ref p28, .ref p29, .ref p30, .ref p31, .ref p32])), (p0, .inl (cI, 1439, .inl w)), (p1, .inl (cI, 7195, .inl z))] sz) := by
  refine Met.ofW (cc := cX11_undo) (maxL := 2) (ret := (some .int)) (by decide) rfl ?_
  intro p e s m args below meth c s₁ B hml hv
  obtain ⟨rfl, hsz, hP, hKK, hD0⟩ := hv
  have hK := hKK.1
  have hx := B.exec
  have hb := B.bytes
  have hr := B.returns
  have hts := atoms_spec (ws := wsX11_undo) B.pre
  have hown : s.vm.findClass RX11 = some m.cls := findClass_of_methodNamed B.named
  have hlocks := B.notSynchronized
  subst hsz
  have hD := hD0.self (sz := s.heap.size)
  generalize hAe : va_A [(m0, .inr (11, [.ref p0, .ref p1, .int (nI hm), .ref p3, .int i4, .ref p5, .int i6, .int i7, .int i8, .int i9, .ref p10, .int i11, .ref p12, .ref p13, .ref p14, .int i15, .ref p16, .ref p17, .int i18, .ref p19, .ref p20, .ref p21, .ref p22, .int i23, .int i24, .ref p25, .ref p26, .ref p27, .ref p28, .ref p29, .ref p30, .ref p31, .ref p32])), (p0, .inl (cI, 1439, .inl w)), (p1, .inl (cI, 7195, .inl z))] s.heap.size = A at hD ⊢
  have hA : ∀ q : Nat, s.heap.size ≤ q → A q := fun q h => by rw [← hAe]; exact Or.inr h
  have hS : va_S A s.heap s.heap [] := va_S.rf
  have hD : va_D A [(m0, .inr (11, [.ref p0, .ref p1, .int (nI hm), .ref p3, .int i4, .ref p5, .int i6, .int i7, .int i8, .int i9, .ref p10, .int i11, .ref p12, .ref p13, .ref p14, .int i15, .ref p16, .ref p17, .int i18, .ref p19, .ref p20, .ref p21, .ref p22, .int i23, .int i24, .ref p25, .ref p26, .ref p27, .ref p28, .ref p29, .ref p30, .ref p31, .ref p32])), (p0, .inl (cI, 1439, .inl w)), (p1, .inl (cI, 7195, .inl z))] := hD
  have hP : va_P D vwCl [(m0, .inr (11, [.ref p0, .ref p1, .int (nI hm), .ref p3, .int i4, .ref p5, .int i6, .int i7, .int i8, .int i9, .ref p10, .int i11, .ref p12, .ref p13, .ref p14, .int i15, .ref p16, .ref p17, .int i18, .ref p19, .ref p20, .ref p21, .ref p22, .int i23, .int i24, .ref p25, .ref p26, .ref p27, .ref p28, .ref p29, .ref p30, .ref p31, .ref p32])), (p0, .inl (cI, 1439, .inl w)), (p1, .inl (cI, 7195, .inl z))] s.heap := hP
  have hl := lv_entry ([.ref m0]) (n := 2) (Nat.le_of_ble_eq_true rfl)
  rw [lg_entry_eq]
  generalize (lg_sl ([.ref m0]) ++ List.replicate (2 - (lg_sl ([.ref m0])).length) Slot.unset).toArray = ls at hl ⊢
  have hl : lv_has ls 2 [(0, .ref m0)] := hl
  refine lv_aload_n hx hb dX11_undo_0 rfl (lv_at hl 0 rfl) ?_
  refine va_get (D := D) (ci := 11) (v := .int (nI hm)) (C := RX11) (T := TX11) (N := 33) hx hb hts (by decide +kernel) hown hK hP 0 rfl rfl 2 (by decide) (hts (.fieldLink RX11 82 "FiberTraceModel" "stateMany" "I") (by decide +kernel)) (fun _ h9 => h9) rfl dX11_undo_1 ?_
  refine lv_if_ne (tgt := 10) hx hb dX11_undo_4 (by decide) (fun c4 => ?_) (fun c4 => ?_)
  · have c4n : hm ≠ 0 := ft_neN (by omega) (by omega) c4
    refine lv_aload_n hx hb dX11_undo_10 rfl (lv_at hl 0 rfl) ?_
    refine lv_dup hx hb dX11_undo_11 rfl ?_
    refine va_get (D := D) (ci := 11) (v := .int (nI hm)) (C := RX11) (T := TX11) (N := 33) hx hb hts (by decide +kernel) hown hK hP 0 rfl rfl 2 (by decide) (hts (.fieldLink RX11 82 "FiberTraceModel" "stateMany" "I") (by decide +kernel)) (fun _ h9 => h9) rfl dX11_undo_12 ?_
    refine lv_iconst (v := 1) hx hb dX11_undo_15 (by decide) ?_
    refine lv_isub hx hb dX11_undo_16 ?_
    refine ft_top (y := nI (hm - 1)) (ft_subN (a := hm) (b := 1) (by omega)) ?_
    refine va_put (D := D) (ci := 11) (v := .int (nI (hm - 1))) (ty := .int) (C := RX11) (T := TX11) (N := 33) hx hb hts (by decide +kernel) tyX11 tyX11_ok nmX11 hown hK hP hD hS 0 rfl rfl 2 (by decide) (hts (.fieldLink RX11 82 "FiberTraceModel" "stateMany" "I") (by decide +kernel)) (fun _ h9 => h9) rfl (by decide +kernel) rfl rfl (Nat.le_of_ble_eq_true rfl) dX11_undo_17 (fun H locs hP hD hS => ?_)
    have hP : va_P D vwCl [(m0, .inr (11, [.ref p0, .ref p1, .int (nI (hm - 1)), .ref p3, .int i4, .ref p5, .int i6, .int i7, .int i8, .int i9, .ref p10, .int i11, .ref p12, .ref p13, .ref p14, .int i15, .ref p16, .ref p17, .int i18, .ref p19, .ref p20, .ref p21, .ref p22, .int i23, .int i24, .ref p25, .ref p26, .ref p27, .ref p28, .ref p29, .ref p30, .ref p31, .ref p32])), (p0, .inl (cI, 1439, .inl w)), (p1, .inl (cI, 7195, .inl z))] H := hP
    have hD : va_D A [(m0, .inr (11, [.ref p0, .ref p1, .int (nI (hm - 1)), .ref p3, .int i4, .ref p5, .int i6, .int i7, .int i8, .int i9, .ref p10, .int i11, .ref p12, .ref p13, .ref p14, .int i15, .ref p16, .ref p17, .int i18, .ref p19, .ref p20, .ref p21, .ref p22, .int i23, .int i24, .ref p25, .ref p26, .ref p27, .ref p28, .ref p29, .ref p30, .ref p31, .ref p32])), (p0, .inl (cI, 1439, .inl w)), (p1, .inl (cI, 7195, .inl z))] := hD
    refine lv_iconst (v := 0) hx hb dX11_undo_20 (by decide) ?_
    refine lv_istore_n (lv' := [(1, .int 0), (0, .ref m0)]) hx hb dX11_undo_21 rfl hl (by decide) rfl (fun ls hl => ?_)
    have lp22 : ∀ (n22 : Nat) (t : Nat) (x22_1 : Int32) (g22_p0 : Nat → Int32), 1439 - t < n22 → (t ≤ 1439) → x22_1 = nI t → g22_p0 = ftFill (fun t => z ((hm - 1) * 1439 + t)) w t → ∀ (H : Heap) (locs : List Loc), va_P D vwCl [(m0, .inr (11, [.ref p0, .ref p1, .int (nI (hm - 1)), .ref p3, .int i4, .ref p5, .int i6, .int i7, .int i8, .int i9, .ref p10, .int i11, .ref p12, .ref p13, .ref p14, .int i15, .ref p16, .ref p17, .int i18, .ref p19, .ref p20, .ref p21, .ref p22, .int i23, .int i24, .ref p25, .ref p26, .ref p27, .ref p28, .ref p29, .ref p30, .ref p31, .ref p32])), (p0, .inl (cI, 1439, .inl g22_p0)), (p1, .inl (cI, 7195, .inl z))] H → va_D A [(m0, .inr (11, [.ref p0, .ref p1, .int (nI (hm - 1)), .ref p3, .int i4, .ref p5, .int i6, .int i7, .int i8, .int i9, .ref p10, .int i11, .ref p12, .ref p13, .ref p14, .int i15, .ref p16, .ref p17, .int i18, .ref p19, .ref p20, .ref p21, .ref p22, .int i23, .int i24, .ref p25, .ref p26, .ref p27, .ref p28, .ref p29, .ref p30, .ref p31, .ref p32])), (p0, .inl (cI, 1439, .inl g22_p0)), (p1, .inl (cI, 7195, .inl z))] → va_S A s.heap H locs → ∀ ls : Array Slot, lv_has ls 2 [(0, .ref m0), (1, .int x22_1)] → W p l e (headSpec wsX11_undo { frames := 0, cells := 0, slots := 0, locals := 0 }).room s m ([.ref m0] : List Value).toArray below meth c H locs 0 0 (MQ below (ftQi D (if hm = 0 then -1000002 else nI (hm - 1)) [(m0, .inr (11, [.ref p0, .ref p1, .int (nI hm), .ref p3, .int i4, .ref p5, .int i6, .int i7, .int i8, .int i9, .ref p10, .int i11, .ref p12, .ref p13, .ref p14, .int i15, .ref p16, .ref p17, .int i18, .ref p19, .ref p20, .ref p21, .ref p22, .int i23, .int i24, .ref p25, .ref p26, .ref p27, .ref p28, .ref p29, .ref p30, .ref p31, .ref p32])), (p0, .inl (cI, 1439, .inl w)), (p1, .inl (cI, 7195, .inl z))] [(m0, .inr (11, [.ref p0, .ref p1, .int (nI (hm - 1)), .ref p3, .int i4, .ref p5, .int i6, .int i7, .int i8, .int i9, .ref p10, .int i11, .ref p12, .ref p13, .ref p14, .int i15, .ref p16, .ref p17, .int i18, .ref p19, .ref p20, .ref p21, .ref p22, .int i23, .int i24, .ref p25, .ref p26, .ref p27, .ref p28, .ref p29, .ref p30, .ref p31, .ref p32])), (p0, .inl (cI, 1439, .inl (if hm = 0 then w else ftFill (fun t => z ((hm - 1) * 1439 + t)) w 1439))), (p1, .inl (cI, 7195, .inl z))] s.heap.size) ([.ref m0] : List Value).toArray s 0 0 A) (F0 m 22 ls []) := by
      intro n22
      induction n22 with
      | zero =>
        intro t x22_1 g22_p0 hm22
        exact absurd hm22 (Nat.not_lt_zero _)
      | succ n22 ih22 =>
        intro t x22_1 g22_p0 hm22 ht0 ex22_1 eg22_p0 H locs hP hD hS ls hl
        subst ex22_1
        refine lv_iload_n hx hb dX11_undo_22 rfl (lv_at hl 1 rfl) ?_
        refine lv_sipush (v := 1439) hx hb dX11_undo_23 (by decide) ?_
        refine lv_icmp_ge (tgt := 56) hx hb dX11_undo_26 (by decide) (fun c26 => ?_) (fun c26 => ?_)
        · have c26n : 1439 ≤ t := ft_leN (by omega) (by omega) c26
          refine lv_aload_n hx hb dX11_undo_56 rfl (lv_at hl 0 rfl) ?_
          refine va_get (D := D) (ci := 11) (v := .int (nI (hm - 1))) (C := RX11) (T := TX11) (N := 33) hx hb hts (by decide +kernel) hown hK hP 0 rfl rfl 2 (by decide) (hts (.fieldLink RX11 82 "FiberTraceModel" "stateMany" "I") (by decide +kernel)) (fun _ h9 => h9) rfl dX11_undo_57 ?_
          have hw9 : ([(m0, .inr (11, [.ref p0, .ref p1, .int (nI (hm - 1)), .ref p3, .int i4, .ref p5, .int i6, .int i7, .int i8, .int i9, .ref p10, .int i11, .ref p12, .ref p13, .ref p14, .int i15, .ref p16, .ref p17, .int i18, .ref p19, .ref p20, .ref p21, .ref p22, .int i23, .int i24, .ref p25, .ref p26, .ref p27, .ref p28, .ref p29, .ref p30, .ref p31, .ref p32])), (p0, .inl (cI, 1439, .inl g22_p0)), (p1, .inl (cI, 7195, .inl z))] : va_W) = [(m0, .inr (11, [.ref p0, .ref p1, .int (nI (hm - 1)), .ref p3, .int i4, .ref p5, .int i6, .int i7, .int i8, .int i9, .ref p10, .int i11, .ref p12, .ref p13, .ref p14, .int i15, .ref p16, .ref p17, .int i18, .ref p19, .ref p20, .ref p21, .ref p22, .int i23, .int i24, .ref p25, .ref p26, .ref p27, .ref p28, .ref p29, .ref p30, .ref p31, .ref p32])), (p0, .inl (cI, 1439, .inl (if hm = 0 then w else ftFill (fun t => z ((hm - 1) * 1439 + t)) w 1439))), (p1, .inl (cI, 7195, .inl z))] := by (have ht9 : t = 1439 := by omega); rw [if_neg c4n, eg22_p0, ht9]
          rw [hw9] at hP hD
          exact W.iret (v := nI (hm - 1)) hx hb hr (fun t ht hW => ⟨⟨nI (hm - 1), (), rfl, (by show (nI (hm - 1) : Int32) = if hm = 0 then -1000002 else nI (hm - 1); exact (if_neg c4n).symm), by rw [ht]; exact hP, by rw [hAe]; exact hD⟩, by rw [hAe]; exact hS.F ht⟩) hS.2.2 dX11_undo_60
        · have c26n : t < 1439 := ft_nleN (by omega) (by omega) c26
          refine lv_aload_n hx hb dX11_undo_29 rfl (lv_at hl 0 rfl) ?_
          refine va_get (D := D) (ci := 11) (v := .ref p0) (C := RX11) (T := TX11) (N := 33) hx hb hts (by decide +kernel) hown hK hP 0 rfl rfl 0 (by decide) (hts (.fieldLink RX11 7 "FiberTraceModel" "now" "[I") (by decide +kernel)) (fun _ h9 => h9) rfl dX11_undo_30 ?_
          refine lv_iload_n hx hb dX11_undo_33 rfl (lv_at hl 1 rfl) ?_
          refine lv_aload_n hx hb dX11_undo_34 rfl (lv_at hl 0 rfl) ?_
          refine va_get (D := D) (ci := 11) (v := .ref p1) (C := RX11) (T := TX11) (N := 33) hx hb hts (by decide +kernel) hown hK hP 0 rfl rfl 1 (by decide) (hts (.fieldLink RX11 13 "FiberTraceModel" "states" "[I") (by decide +kernel)) (fun _ h9 => h9) rfl dX11_undo_35 ?_
          refine lv_aload_n hx hb dX11_undo_38 rfl (lv_at hl 0 rfl) ?_
          refine va_get (D := D) (ci := 11) (v := .int (nI (hm - 1))) (C := RX11) (T := TX11) (N := 33) hx hb hts (by decide +kernel) hown hK hP 0 rfl rfl 2 (by decide) (hts (.fieldLink RX11 82 "FiberTraceModel" "stateMany" "I") (by decide +kernel)) (fun _ h9 => h9) rfl dX11_undo_39 ?_
          refine lv_sipush (v := 1439) hx hb dX11_undo_42 (by decide) ?_
          refine lv_imul hx hb dX11_undo_45 ?_
          refine ft_top (y := nI ((hm - 1) * 1439)) (ft_mulN (hm - 1) 1439) ?_
          refine lv_iload_n hx hb dX11_undo_46 rfl (lv_at hl 1 rfl) ?_
          refine lv_iadd hx hb dX11_undo_47 ?_
          refine ft_top (y := nI (((hm - 1) * 1439) + t)) (ft_addN ((hm - 1) * 1439) t) ?_
          refine va_iald hx hb hK hP 2 0 rfl rfl (vp_in_nI (by omega) (by omega)) dX11_undo_48 ?_
          refine ft_top (y := z (((hm - 1) * 1439) + t)) (ft_clampN (by omega)) ?_
          refine va_iast hx hb hK hP hD hS 1 0 rfl rfl (vp_in_nI (by omega) (by omega)) dX11_undo_49 (fun H locs hP hD hS => ?_)
          rw [nI_clamp (show t < 2 ^ 31 by omega)] at hP hD
          have hP : va_P D vwCl [(m0, .inr (11, [.ref p0, .ref p1, .int (nI (hm - 1)), .ref p3, .int i4, .ref p5, .int i6, .int i7, .int i8, .int i9, .ref p10, .int i11, .ref p12, .ref p13, .ref p14, .int i15, .ref p16, .ref p17, .int i18, .ref p19, .ref p20, .ref p21, .ref p22, .int i23, .int i24, .ref p25, .ref p26, .ref p27, .ref p28, .ref p29, .ref p30, .ref p31, .ref p32])), (p0, .inl (cI, 1439, .inl (upd g22_p0 t (z (((hm - 1) * 1439) + t))))), (p1, .inl (cI, 7195, .inl z))] H := hP
          have hD : va_D A [(m0, .inr (11, [.ref p0, .ref p1, .int (nI (hm - 1)), .ref p3, .int i4, .ref p5, .int i6, .int i7, .int i8, .int i9, .ref p10, .int i11, .ref p12, .ref p13, .ref p14, .int i15, .ref p16, .ref p17, .int i18, .ref p19, .ref p20, .ref p21, .ref p22, .int i23, .int i24, .ref p25, .ref p26, .ref p27, .ref p28, .ref p29, .ref p30, .ref p31, .ref p32])), (p0, .inl (cI, 1439, .inl (upd g22_p0 t (z (((hm - 1) * 1439) + t))))), (p1, .inl (cI, 7195, .inl z))] := hD
          refine lv_iinc (v := nI (t + 1)) (lv' := [(1, .int (nI (t + 1))), (0, .ref m0)]) hx hb dX11_undo_50 hl (k := 1) rfl (ft_inc t) (by decide) rfl (fun ls hl => ?_)
          refine lv_goto (tgt := 22) hx hb dX11_undo_53 (by decide) ?_
          exact ih22 (t + 1) (nI (t + 1)) (upd g22_p0 t (z (((hm - 1) * 1439) + t))) (by omega) (by omega) (by first | rfl | assumption) (by rw [eg22_p0]; exact ftFill_s rfl) _ _ hP hD hS ls (lv_sub hl [1, 0] rfl)
    exact lp22 _ 0 0 w (Nat.lt_succ_self _) (by omega) (by rfl) (by exact ftFill_0 _ w) _ _ hP hD hS ls (lv_sub hl [1, 0] rfl)
  · have c4n : hm = 0 := ft_eqN (by omega) (by omega) c4
    refine lv_ldc (v := (-1000002)) hx hb hown (hts (.constant RX11 86 (-1000002)) (by decide +kernel)) dX11_undo_7 ?_
    have hw9 : ([(m0, .inr (11, [.ref p0, .ref p1, .int (nI hm), .ref p3, .int i4, .ref p5, .int i6, .int i7, .int i8, .int i9, .ref p10, .int i11, .ref p12, .ref p13, .ref p14, .int i15, .ref p16, .ref p17, .int i18, .ref p19, .ref p20, .ref p21, .ref p22, .int i23, .int i24, .ref p25, .ref p26, .ref p27, .ref p28, .ref p29, .ref p30, .ref p31, .ref p32])), (p0, .inl (cI, 1439, .inl w)), (p1, .inl (cI, 7195, .inl z))] : va_W) = [(m0, .inr (11, [.ref p0, .ref p1, .int (nI (hm - 1)), .ref p3, .int i4, .ref p5, .int i6, .int i7, .int i8, .int i9, .ref p10, .int i11, .ref p12, .ref p13, .ref p14, .int i15, .ref p16, .ref p17, .int i18, .ref p19, .ref p20, .ref p21, .ref p22, .int i23, .int i24, .ref p25, .ref p26, .ref p27, .ref p28, .ref p29, .ref p30, .ref p31, .ref p32])), (p0, .inl (cI, 1439, .inl (if hm = 0 then w else ftFill (fun t => z ((hm - 1) * 1439 + t)) w 1439))), (p1, .inl (cI, 7195, .inl z))] := by rw [if_pos c4n, c4n]
    rw [hw9] at hP hD
    exact W.iret (v := (-1000002)) hx hb hr (fun t ht hW => ⟨⟨(-1000002), (), rfl, (by show ((-1000002) : Int32) = if hm = 0 then -1000002 else nI (hm - 1); exact (if_pos c4n).symm), by rw [ht]; exact hP, by rw [hAe]; exact hD⟩, by rw [hAe]; exact hS.F ht⟩) hS.2.2 dX11_undo_9
set_option maxHeartbeats 4000000 in
set_option maxRecDepth 100000 in
theorem c_X11_comes (l : Launch) (D : va_G) (cI cS : ClassId) (sz : Nat) (p0 N : Nat) (w : Nat → Int32) (n : Nat) (kd x lo re : Int32) (hw3 : w 3 = nI n) (hn : n < 10) (hN : 44 ≤ N) (hN2 : N < 10000) : Met l yX11_comes wsX11_comes ({ frames := 0, cells := 0, slots := 0, locals := 0 }) (ftRW D cI cS [.ref p0, .int kd, .int x, .int lo, .int re] [(p0, .inl (cI, N, .inl w))] sz) (ftQi D (nI (ftPosW w x n)) [(p0, .inl (cI, N, .inl w))] [(p0, .inl (cI, N, .inl (ftAdd w n kd x lo re)))] sz) 0 0 (va_A [(p0, .inl (cI, N, .inl w))] sz) := by
  refine Met.ofW (cc := cX11_comes) (maxL := 7) (ret := (some .int)) (by decide) rfl ?_
  intro p e s m args below meth c s₁ B hml hv
  obtain ⟨rfl, hsz, hP, hKK, hD0⟩ := hv
  have hK := hKK.1
  have hx := B.exec
  have hb := B.bytes
  have hr := B.returns
  have hts := atoms_spec (ws := wsX11_comes) B.pre
  have hown : s.vm.findClass RX11 = some m.cls := findClass_of_methodNamed B.named
  have hlocks := B.notSynchronized
  subst hsz
  have hD := hD0.self (sz := s.heap.size)
  generalize hAe : va_A [(p0, .inl (cI, N, .inl w))] s.heap.size = A at hD ⊢
  have hA : ∀ q : Nat, s.heap.size ≤ q → A q := fun q h => by rw [← hAe]; exact Or.inr h
  have hS : va_S A s.heap s.heap [] := va_S.rf
  have hD : va_D A [(p0, .inl (cI, N, .inl w))] := hD
  have hP : va_P D vwCl [(p0, .inl (cI, N, .inl w))] s.heap := hP
  have hl := lv_entry ([.ref p0, .int kd, .int x, .int lo, .int re]) (n := 7) (Nat.le_of_ble_eq_true rfl)
  rw [lg_entry_eq]
  generalize (lg_sl ([.ref p0, .int kd, .int x, .int lo, .int re]) ++ List.replicate (7 - (lg_sl ([.ref p0, .int kd, .int x, .int lo, .int re])).length) Slot.unset).toArray = ls at hl ⊢
  have hl : lv_has ls 7 [(0, .ref p0), (1, .int kd), (2, .int x), (3, .int lo), (4, .int re)] := hl
  refine lv_aload_n hx hb dX11_comes_0 rfl (lv_at hl 0 rfl) ?_
  refine lv_iconst (v := 3) hx hb dX11_comes_1 (by decide) ?_
  refine va_iald hx hb hK hP 0 0 rfl rfl (vp_in_nI (n := 3) (by omega) (by omega)) dX11_comes_2 ?_
  refine ft_top (y := w 3) rfl ?_
  refine ft_top (y := nI n) hw3 ?_
  refine lv_istore (lv' := [(5, .int (nI n)), (0, .ref p0), (1, .int kd), (2, .int x), (3, .int lo), (4, .int re)]) hx hb dX11_comes_3 hl (by decide) rfl (fun ls hl => ?_)
  have lp5 : ∀ (n5 : Nat) (k : Nat) (x5_5 : Int32) (g5_p0 : Nat → Int32), k < n5 → (k ≤ n) → (ftPosW w x n = ftPosW w x k) → x5_5 = nI k → g5_p0 = ftShP w n k → ∀ (H : Heap) (locs : List Loc), va_P D vwCl [(p0, .inl (cI, N, .inl g5_p0))] H → va_D A [(p0, .inl (cI, N, .inl g5_p0))] → va_S A s.heap H locs → ∀ ls : Array Slot, lv_has ls 7 [(0, .ref p0), (1, .int kd), (2, .int x), (3, .int lo), (4, .int re), (5, .int x5_5)] → W p l e (headSpec wsX11_comes { frames := 0, cells := 0, slots := 0, locals := 0 }).room s m ([.ref p0, .int kd, .int x, .int lo, .int re] : List Value).toArray below meth c H locs 0 0 (MQ below (ftQi D (nI (ftPosW w x n)) [(p0, .inl (cI, N, .inl w))] [(p0, .inl (cI, N, .inl (ftAdd w n kd x lo re)))] s.heap.size) ([.ref p0, .int kd, .int x, .int lo, .int re] : List Value).toArray s 0 0 A) (F0 m 5 ls []) := by
    intro n5
    induction n5 with
    | zero =>
      intro k x5_5 g5_p0 hm5
      exact absurd hm5 (Nat.not_lt_zero _)
    | succ n5 ih5 =>
      intro k x5_5 g5_p0 hm5 hkn hd ex5_5 eg5_p0 H locs hP hD hS ls hl
      subst ex5_5
      refine lv_iload hx hb dX11_comes_5 (lv_at hl 5 rfl) ?_
      refine lv_if_le (tgt := 71) hx hb dX11_comes_7 (by decide) (fun c7 => ?_) (fun c7 => ?_)
      · have c7n : k ≤ 0 := ft_leN (by omega) (by omega) c7
        have hk0 : k = 0 := ft_le0 (by omega) c7
        have hix : ftPosW w x n = k := by rw [hd, hk0]; rfl
        refine lv_aload_n hx hb dX11_comes_71 rfl (lv_at hl 0 rfl) ?_
        refine lv_iconst (v := 4) hx hb dX11_comes_72 (by decide) ?_
        refine lv_iconst (v := 4) hx hb dX11_comes_73 (by decide) ?_
        refine lv_iload hx hb dX11_comes_74 (lv_at hl 5 rfl) ?_
        refine lv_imul hx hb dX11_comes_76 ?_
        refine ft_top (y := nI (4 * k)) (ft_mulN 4 k) ?_
        refine lv_iadd hx hb dX11_comes_77 ?_
        refine ft_top (y := nI (4 + (4 * k))) (ft_addN 4 (4 * k)) ?_
        refine lv_iconst (v := 0) hx hb dX11_comes_78 (by decide) ?_
        refine lv_iadd hx hb dX11_comes_79 ?_
        refine ft_top (y := nI ((4 + (4 * k)) + 0)) (ft_addN (4 + (4 * k)) 0) ?_
        refine lv_iload_n hx hb dX11_comes_80 rfl (lv_at hl 1 rfl) ?_
        refine va_iast hx hb hK hP hD hS 0 0 rfl rfl (vp_in_nI (by omega) (by omega)) dX11_comes_81 (fun H locs hP hD hS => ?_)
        rw [nI_clamp (show (4 + (4 * k)) + 0 < 2 ^ 31 by omega)] at hP hD
        have hP : va_P D vwCl [(p0, .inl (cI, N, .inl (upd g5_p0 ((4 + (4 * k)) + 0) kd)))] H := hP
        have hD : va_D A [(p0, .inl (cI, N, .inl (upd g5_p0 ((4 + (4 * k)) + 0) kd)))] := hD
        refine lv_aload_n hx hb dX11_comes_82 rfl (lv_at hl 0 rfl) ?_
        refine lv_iconst (v := 4) hx hb dX11_comes_83 (by decide) ?_
        refine lv_iconst (v := 4) hx hb dX11_comes_84 (by decide) ?_
        refine lv_iload hx hb dX11_comes_85 (lv_at hl 5 rfl) ?_
        refine lv_imul hx hb dX11_comes_87 ?_
        refine ft_top (y := nI (4 * k)) (ft_mulN 4 k) ?_
        refine lv_iadd hx hb dX11_comes_88 ?_
        refine ft_top (y := nI (4 + (4 * k))) (ft_addN 4 (4 * k)) ?_
        refine lv_iconst (v := 1) hx hb dX11_comes_89 (by decide) ?_
        refine lv_iadd hx hb dX11_comes_90 ?_
        refine ft_top (y := nI ((4 + (4 * k)) + 1)) (ft_addN (4 + (4 * k)) 1) ?_
        refine lv_iload_n hx hb dX11_comes_91 rfl (lv_at hl 2 rfl) ?_
        refine va_iast hx hb hK hP hD hS 0 0 rfl rfl (vp_in_nI (by omega) (by omega)) dX11_comes_92 (fun H locs hP hD hS => ?_)
        rw [nI_clamp (show (4 + (4 * k)) + 1 < 2 ^ 31 by omega)] at hP hD
        have hP : va_P D vwCl [(p0, .inl (cI, N, .inl (upd (upd g5_p0 ((4 + (4 * k)) + 0) kd) ((4 + (4 * k)) + 1) x)))] H := hP
        have hD : va_D A [(p0, .inl (cI, N, .inl (upd (upd g5_p0 ((4 + (4 * k)) + 0) kd) ((4 + (4 * k)) + 1) x)))] := hD
        refine lv_aload_n hx hb dX11_comes_93 rfl (lv_at hl 0 rfl) ?_
        refine lv_iconst (v := 4) hx hb dX11_comes_94 (by decide) ?_
        refine lv_iconst (v := 4) hx hb dX11_comes_95 (by decide) ?_
        refine lv_iload hx hb dX11_comes_96 (lv_at hl 5 rfl) ?_
        refine lv_imul hx hb dX11_comes_98 ?_
        refine ft_top (y := nI (4 * k)) (ft_mulN 4 k) ?_
        refine lv_iadd hx hb dX11_comes_99 ?_
        refine ft_top (y := nI (4 + (4 * k))) (ft_addN 4 (4 * k)) ?_
        refine lv_iconst (v := 2) hx hb dX11_comes_100 (by decide) ?_
        refine lv_iadd hx hb dX11_comes_101 ?_
        refine ft_top (y := nI ((4 + (4 * k)) + 2)) (ft_addN (4 + (4 * k)) 2) ?_
        refine lv_iload_n hx hb dX11_comes_102 rfl (lv_at hl 3 rfl) ?_
        refine va_iast hx hb hK hP hD hS 0 0 rfl rfl (vp_in_nI (by omega) (by omega)) dX11_comes_103 (fun H locs hP hD hS => ?_)
        rw [nI_clamp (show (4 + (4 * k)) + 2 < 2 ^ 31 by omega)] at hP hD
        have hP : va_P D vwCl [(p0, .inl (cI, N, .inl (upd (upd (upd g5_p0 ((4 + (4 * k)) + 0) kd) ((4 + (4 * k)) + 1) x) ((4 + (4 * k)) + 2) lo)))] H := hP
        have hD : va_D A [(p0, .inl (cI, N, .inl (upd (upd (upd g5_p0 ((4 + (4 * k)) + 0) kd) ((4 + (4 * k)) + 1) x) ((4 + (4 * k)) + 2) lo)))] := hD
        refine lv_aload_n hx hb dX11_comes_104 rfl (lv_at hl 0 rfl) ?_
        refine lv_iconst (v := 4) hx hb dX11_comes_105 (by decide) ?_
        refine lv_iconst (v := 4) hx hb dX11_comes_106 (by decide) ?_
        refine lv_iload hx hb dX11_comes_107 (lv_at hl 5 rfl) ?_
        refine lv_imul hx hb dX11_comes_109 ?_
        refine ft_top (y := nI (4 * k)) (ft_mulN 4 k) ?_
        refine lv_iadd hx hb dX11_comes_110 ?_
        refine ft_top (y := nI (4 + (4 * k))) (ft_addN 4 (4 * k)) ?_
        refine lv_iconst (v := 3) hx hb dX11_comes_111 (by decide) ?_
        refine lv_iadd hx hb dX11_comes_112 ?_
        refine ft_top (y := nI ((4 + (4 * k)) + 3)) (ft_addN (4 + (4 * k)) 3) ?_
        refine lv_iload hx hb dX11_comes_113 (lv_at hl 4 rfl) ?_
        refine va_iast hx hb hK hP hD hS 0 0 rfl rfl (vp_in_nI (by omega) (by omega)) dX11_comes_115 (fun H locs hP hD hS => ?_)
        rw [nI_clamp (show (4 + (4 * k)) + 3 < 2 ^ 31 by omega)] at hP hD
        have hP : va_P D vwCl [(p0, .inl (cI, N, .inl (upd (upd (upd (upd g5_p0 ((4 + (4 * k)) + 0) kd) ((4 + (4 * k)) + 1) x) ((4 + (4 * k)) + 2) lo) ((4 + (4 * k)) + 3) re)))] H := hP
        have hD : va_D A [(p0, .inl (cI, N, .inl (upd (upd (upd (upd g5_p0 ((4 + (4 * k)) + 0) kd) ((4 + (4 * k)) + 1) x) ((4 + (4 * k)) + 2) lo) ((4 + (4 * k)) + 3) re)))] := hD
        refine lv_aload_n hx hb dX11_comes_116 rfl (lv_at hl 0 rfl) ?_
        refine lv_iconst (v := 3) hx hb dX11_comes_117 (by decide) ?_
        refine lv_dup2_11 hx hb dX11_comes_118 rfl rfl ?_
        rw [eg5_p0] at hP hD
        refine va_iald hx hb hK hP 0 0 rfl rfl (vp_in_nI (n := 3) (by omega) (by omega)) dX11_comes_119 ?_
        refine ft_top (y := (upd (upd (upd (upd (ftShP w n k) ((4 + (4 * k)) + 0) kd) ((4 + (4 * k)) + 1) x) ((4 + (4 * k)) + 2) lo) ((4 + (4 * k)) + 3) re) 3) rfl ?_
        refine ft_top (y := nI n) (ftComes_3.trans hw3) ?_
        refine lv_iconst (v := 1) hx hb dX11_comes_120 (by decide) ?_
        refine lv_iadd hx hb dX11_comes_121 ?_
        refine ft_top (y := nI (n + 1)) (ft_addN n 1) ?_
        refine va_iast hx hb hK hP hD hS 0 0 rfl rfl (vp_in_nI (n := 3) (by omega) (by omega)) dX11_comes_122 (fun H locs hP hD hS => ?_)
        have hP : va_P D vwCl [(p0, .inl (cI, N, .inl (upd (upd (upd (upd (upd (ftShP w n k) ((4 + (4 * k)) + 0) kd) ((4 + (4 * k)) + 1) x) ((4 + (4 * k)) + 2) lo) ((4 + (4 * k)) + 3) re) 3 (nI (n + 1)))))] H := hP
        have hD : va_D A [(p0, .inl (cI, N, .inl (upd (upd (upd (upd (upd (ftShP w n k) ((4 + (4 * k)) + 0) kd) ((4 + (4 * k)) + 1) x) ((4 + (4 * k)) + 2) lo) ((4 + (4 * k)) + 3) re) 3 (nI (n + 1)))))] := hD
        refine lv_iload hx hb dX11_comes_123 (lv_at hl 5 rfl) ?_
        have hw9 : ([(p0, .inl (cI, N, .inl (upd (upd (upd (upd (upd (ftShP w n k) ((4 + (4 * k)) + 0) kd) ((4 + (4 * k)) + 1) x) ((4 + (4 * k)) + 2) lo) ((4 + (4 * k)) + 3) re) 3 (nI (n + 1)))))] : va_W) = [(p0, .inl (cI, N, .inl (ftAdd w n kd x lo re)))] := by rw [ftAdd, hix]; rfl
        rw [hw9] at hP hD
        exact W.iret (v := nI k) hx hb hr (fun t ht hW => ⟨⟨nI k, (), rfl, (by show (nI k : Int32) = nI (ftPosW w x n); rw [hix]), by rw [ht]; exact hP, by rw [hAe]; exact hD⟩, by rw [hAe]; exact hS.F ht⟩) hS.2.2 dX11_comes_125
      · have c7n : 0 < k := ft_nleN (by omega) (by omega) c7
        have hk1 : 0 < k := ft_gt0 c7
        have hlow : g5_p0 (4 + 4 * (k - 1) + 1) = w (4 + 4 * (k - 1) + 1) := by rw [eg5_p0]; exact ftShP_low (by omega)
        refine lv_aload_n hx hb dX11_comes_10 rfl (lv_at hl 0 rfl) ?_
        refine lv_iconst (v := 4) hx hb dX11_comes_11 (by decide) ?_
        refine lv_iconst (v := 4) hx hb dX11_comes_12 (by decide) ?_
        refine lv_iload hx hb dX11_comes_13 (lv_at hl 5 rfl) ?_
        refine lv_iconst (v := 1) hx hb dX11_comes_15 (by decide) ?_
        refine lv_isub hx hb dX11_comes_16 ?_
        refine ft_top (y := nI (k - 1)) (ft_subN (a := k) (b := 1) (by omega)) ?_
        refine lv_imul hx hb dX11_comes_17 ?_
        refine ft_top (y := nI (4 * (k - 1))) (ft_mulN 4 (k - 1)) ?_
        refine lv_iadd hx hb dX11_comes_18 ?_
        refine ft_top (y := nI (4 + (4 * (k - 1)))) (ft_addN 4 (4 * (k - 1))) ?_
        refine lv_iconst (v := 1) hx hb dX11_comes_19 (by decide) ?_
        refine lv_iadd hx hb dX11_comes_20 ?_
        refine ft_top (y := nI ((4 + (4 * (k - 1))) + 1)) (ft_addN (4 + (4 * (k - 1))) 1) ?_
        refine va_iald hx hb hK hP 0 0 rfl rfl (vp_in_nI (by omega) (by omega)) dX11_comes_21 ?_
        refine ft_top (y := g5_p0 ((4 + (4 * (k - 1))) + 1)) (ft_clampN (by omega)) ?_
        refine lv_iload_n hx hb dX11_comes_22 rfl (lv_at hl 2 rfl) ?_
        refine lv_icmp_le (tgt := 71) hx hb dX11_comes_23 (by decide) (fun c23 => ?_) (fun c23 => ?_)
        · have hix : ftPosW w x n = k := by rw [hd]; exact ftPosW_ge hk1 (by rw [← hlow]; exact Int32.not_lt.mpr c23)
          refine lv_aload_n hx hb dX11_comes_71 rfl (lv_at hl 0 rfl) ?_
          refine lv_iconst (v := 4) hx hb dX11_comes_72 (by decide) ?_
          refine lv_iconst (v := 4) hx hb dX11_comes_73 (by decide) ?_
          refine lv_iload hx hb dX11_comes_74 (lv_at hl 5 rfl) ?_
          refine lv_imul hx hb dX11_comes_76 ?_
          refine ft_top (y := nI (4 * k)) (ft_mulN 4 k) ?_
          refine lv_iadd hx hb dX11_comes_77 ?_
          refine ft_top (y := nI (4 + (4 * k))) (ft_addN 4 (4 * k)) ?_
          refine lv_iconst (v := 0) hx hb dX11_comes_78 (by decide) ?_
          refine lv_iadd hx hb dX11_comes_79 ?_
          refine ft_top (y := nI ((4 + (4 * k)) + 0)) (ft_addN (4 + (4 * k)) 0) ?_
          refine lv_iload_n hx hb dX11_comes_80 rfl (lv_at hl 1 rfl) ?_
          refine va_iast hx hb hK hP hD hS 0 0 rfl rfl (vp_in_nI (by omega) (by omega)) dX11_comes_81 (fun H locs hP hD hS => ?_)
          rw [nI_clamp (show (4 + (4 * k)) + 0 < 2 ^ 31 by omega)] at hP hD
          have hP : va_P D vwCl [(p0, .inl (cI, N, .inl (upd g5_p0 ((4 + (4 * k)) + 0) kd)))] H := hP
          have hD : va_D A [(p0, .inl (cI, N, .inl (upd g5_p0 ((4 + (4 * k)) + 0) kd)))] := hD
          refine lv_aload_n hx hb dX11_comes_82 rfl (lv_at hl 0 rfl) ?_
          refine lv_iconst (v := 4) hx hb dX11_comes_83 (by decide) ?_
          refine lv_iconst (v := 4) hx hb dX11_comes_84 (by decide) ?_
          refine lv_iload hx hb dX11_comes_85 (lv_at hl 5 rfl) ?_
          refine lv_imul hx hb dX11_comes_87 ?_
          refine ft_top (y := nI (4 * k)) (ft_mulN 4 k) ?_
          refine lv_iadd hx hb dX11_comes_88 ?_
          refine ft_top (y := nI (4 + (4 * k))) (ft_addN 4 (4 * k)) ?_
          refine lv_iconst (v := 1) hx hb dX11_comes_89 (by decide) ?_
          refine lv_iadd hx hb dX11_comes_90 ?_
          refine ft_top (y := nI ((4 + (4 * k)) + 1)) (ft_addN (4 + (4 * k)) 1) ?_
          refine lv_iload_n hx hb dX11_comes_91 rfl (lv_at hl 2 rfl) ?_
          refine va_iast hx hb hK hP hD hS 0 0 rfl rfl (vp_in_nI (by omega) (by omega)) dX11_comes_92 (fun H locs hP hD hS => ?_)
          rw [nI_clamp (show (4 + (4 * k)) + 1 < 2 ^ 31 by omega)] at hP hD
          have hP : va_P D vwCl [(p0, .inl (cI, N, .inl (upd (upd g5_p0 ((4 + (4 * k)) + 0) kd) ((4 + (4 * k)) + 1) x)))] H := hP
          have hD : va_D A [(p0, .inl (cI, N, .inl (upd (upd g5_p0 ((4 + (4 * k)) + 0) kd) ((4 + (4 * k)) + 1) x)))] := hD
          refine lv_aload_n hx hb dX11_comes_93 rfl (lv_at hl 0 rfl) ?_
          refine lv_iconst (v := 4) hx hb dX11_comes_94 (by decide) ?_
          refine lv_iconst (v := 4) hx hb dX11_comes_95 (by decide) ?_
          refine lv_iload hx hb dX11_comes_96 (lv_at hl 5 rfl) ?_
          refine lv_imul hx hb dX11_comes_98 ?_
          refine ft_top (y := nI (4 * k)) (ft_mulN 4 k) ?_
          refine lv_iadd hx hb dX11_comes_99 ?_
          refine ft_top (y := nI (4 + (4 * k))) (ft_addN 4 (4 * k)) ?_
          refine lv_iconst (v := 2) hx hb dX11_comes_100 (by decide) ?_
          refine lv_iadd hx hb dX11_comes_101 ?_
          refine ft_top (y := nI ((4 + (4 * k)) + 2)) (ft_addN (4 + (4 * k)) 2) ?_
          refine lv_iload_n hx hb dX11_comes_102 rfl (lv_at hl 3 rfl) ?_
          refine va_iast hx hb hK hP hD hS 0 0 rfl rfl (vp_in_nI (by omega) (by omega)) dX11_comes_103 (fun H locs hP hD hS => ?_)
          rw [nI_clamp (show (4 + (4 * k)) + 2 < 2 ^ 31 by omega)] at hP hD
          have hP : va_P D vwCl [(p0, .inl (cI, N, .inl (upd (upd (upd g5_p0 ((4 + (4 * k)) + 0) kd) ((4 + (4 * k)) + 1) x) ((4 + (4 * k)) + 2) lo)))] H := hP
          have hD : va_D A [(p0, .inl (cI, N, .inl (upd (upd (upd g5_p0 ((4 + (4 * k)) + 0) kd) ((4 + (4 * k)) + 1) x) ((4 + (4 * k)) + 2) lo)))] := hD
          refine lv_aload_n hx hb dX11_comes_104 rfl (lv_at hl 0 rfl) ?_
          refine lv_iconst (v := 4) hx hb dX11_comes_105 (by decide) ?_
          refine lv_iconst (v := 4) hx hb dX11_comes_106 (by decide) ?_
          refine lv_iload hx hb dX11_comes_107 (lv_at hl 5 rfl) ?_
          refine lv_imul hx hb dX11_comes_109 ?_
          refine ft_top (y := nI (4 * k)) (ft_mulN 4 k) ?_
          refine lv_iadd hx hb dX11_comes_110 ?_
          refine ft_top (y := nI (4 + (4 * k))) (ft_addN 4 (4 * k)) ?_
          refine lv_iconst (v := 3) hx hb dX11_comes_111 (by decide) ?_
          refine lv_iadd hx hb dX11_comes_112 ?_
          refine ft_top (y := nI ((4 + (4 * k)) + 3)) (ft_addN (4 + (4 * k)) 3) ?_
          refine lv_iload hx hb dX11_comes_113 (lv_at hl 4 rfl) ?_
          refine va_iast hx hb hK hP hD hS 0 0 rfl rfl (vp_in_nI (by omega) (by omega)) dX11_comes_115 (fun H locs hP hD hS => ?_)
          rw [nI_clamp (show (4 + (4 * k)) + 3 < 2 ^ 31 by omega)] at hP hD
          have hP : va_P D vwCl [(p0, .inl (cI, N, .inl (upd (upd (upd (upd g5_p0 ((4 + (4 * k)) + 0) kd) ((4 + (4 * k)) + 1) x) ((4 + (4 * k)) + 2) lo) ((4 + (4 * k)) + 3) re)))] H := hP
          have hD : va_D A [(p0, .inl (cI, N, .inl (upd (upd (upd (upd g5_p0 ((4 + (4 * k)) + 0) kd) ((4 + (4 * k)) + 1) x) ((4 + (4 * k)) + 2) lo) ((4 + (4 * k)) + 3) re)))] := hD
          refine lv_aload_n hx hb dX11_comes_116 rfl (lv_at hl 0 rfl) ?_
          refine lv_iconst (v := 3) hx hb dX11_comes_117 (by decide) ?_
          refine lv_dup2_11 hx hb dX11_comes_118 rfl rfl ?_
          rw [eg5_p0] at hP hD
          refine va_iald hx hb hK hP 0 0 rfl rfl (vp_in_nI (n := 3) (by omega) (by omega)) dX11_comes_119 ?_
          refine ft_top (y := (upd (upd (upd (upd (ftShP w n k) ((4 + (4 * k)) + 0) kd) ((4 + (4 * k)) + 1) x) ((4 + (4 * k)) + 2) lo) ((4 + (4 * k)) + 3) re) 3) rfl ?_
          refine ft_top (y := nI n) (ftComes_3.trans hw3) ?_
          refine lv_iconst (v := 1) hx hb dX11_comes_120 (by decide) ?_
          refine lv_iadd hx hb dX11_comes_121 ?_
          refine ft_top (y := nI (n + 1)) (ft_addN n 1) ?_
          refine va_iast hx hb hK hP hD hS 0 0 rfl rfl (vp_in_nI (n := 3) (by omega) (by omega)) dX11_comes_122 (fun H locs hP hD hS => ?_)
          have hP : va_P D vwCl [(p0, .inl (cI, N, .inl (upd (upd (upd (upd (upd (ftShP w n k) ((4 + (4 * k)) + 0) kd) ((4 + (4 * k)) + 1) x) ((4 + (4 * k)) + 2) lo) ((4 + (4 * k)) + 3) re) 3 (nI (n + 1)))))] H := hP
          have hD : va_D A [(p0, .inl (cI, N, .inl (upd (upd (upd (upd (upd (ftShP w n k) ((4 + (4 * k)) + 0) kd) ((4 + (4 * k)) + 1) x) ((4 + (4 * k)) + 2) lo) ((4 + (4 * k)) + 3) re) 3 (nI (n + 1)))))] := hD
          refine lv_iload hx hb dX11_comes_123 (lv_at hl 5 rfl) ?_
          have hw9 : ([(p0, .inl (cI, N, .inl (upd (upd (upd (upd (upd (ftShP w n k) ((4 + (4 * k)) + 0) kd) ((4 + (4 * k)) + 1) x) ((4 + (4 * k)) + 2) lo) ((4 + (4 * k)) + 3) re) 3 (nI (n + 1)))))] : va_W) = [(p0, .inl (cI, N, .inl (ftAdd w n kd x lo re)))] := by rw [ftAdd, hix]; rfl
          rw [hw9] at hP hD
          exact W.iret (v := nI k) hx hb hr (fun t ht hW => ⟨⟨nI k, (), rfl, (by show (nI k : Int32) = nI (ftPosW w x n); rw [hix]), by rw [ht]; exact hP, by rw [hAe]; exact hD⟩, by rw [hAe]; exact hS.F ht⟩) hS.2.2 dX11_comes_125
        · refine lv_iconst (v := 0) hx hb dX11_comes_26 (by decide) ?_
          refine lv_istore (lv' := [(6, .int 0), (0, .ref p0), (1, .int kd), (2, .int x), (3, .int lo), (4, .int re), (5, .int (nI k))]) hx hb dX11_comes_27 hl (by decide) rfl (fun ls hl => ?_)
          have lp29 : ∀ (n29 : Nat) (i : Nat) (x29_6 : Int32) (g29_p0 : Nat → Int32), 4 - i < n29 → (i ≤ 4) → x29_6 = nI i → g29_p0 = ftShI w n k i → ∀ (H : Heap) (locs : List Loc), va_P D vwCl [(p0, .inl (cI, N, .inl g29_p0))] H → va_D A [(p0, .inl (cI, N, .inl g29_p0))] → va_S A s.heap H locs → ∀ ls : Array Slot, lv_has ls 7 [(0, .ref p0), (1, .int kd), (2, .int x), (3, .int lo), (4, .int re), (5, .int (nI k)), (6, .int x29_6)] → W p l e (headSpec wsX11_comes { frames := 0, cells := 0, slots := 0, locals := 0 }).room s m ([.ref p0, .int kd, .int x, .int lo, .int re] : List Value).toArray below meth c H locs 0 0 (MQ below (ftQi D (nI (ftPosW w x n)) [(p0, .inl (cI, N, .inl w))] [(p0, .inl (cI, N, .inl (ftAdd w n kd x lo re)))] s.heap.size) ([.ref p0, .int kd, .int x, .int lo, .int re] : List Value).toArray s 0 0 A) (F0 m 29 ls []) := by
            intro n29
            induction n29 with
            | zero =>
              intro i x29_6 g29_p0 hm29
              exact absurd hm29 (Nat.not_lt_zero _)
            | succ n29 ih29 =>
              intro i x29_6 g29_p0 hm29 hi4 ex29_6 eg29_p0 H locs hP hD hS ls hl
              subst ex29_6
              refine lv_iload hx hb dX11_comes_29 (lv_at hl 6 rfl) ?_
              refine lv_iconst (v := 4) hx hb dX11_comes_31 (by decide) ?_
              refine lv_icmp_ge (tgt := 65) hx hb dX11_comes_32 (by decide) (fun c32 => ?_) (fun c32 => ?_)
              · have c32n : 4 ≤ i := ft_leN (by omega) (by omega) c32
                refine lv_iinc (v := nI (k - 1)) (lv' := [(5, .int (nI (k - 1))), (0, .ref p0), (1, .int kd), (2, .int x), (3, .int lo), (4, .int re), (6, .int (nI i))]) hx hb dX11_comes_65 hl (k := 5) rfl (ft_dec (by omega)) (by decide) rfl (fun ls hl => ?_)
                refine lv_goto (tgt := 5) hx hb dX11_comes_68 (by decide) ?_
                exact ih5 (k - 1) (nI (k - 1)) g29_p0 (by omega) (by omega) (by rw [hd]; exact ftPosW_gt hk1 (by rw [← hlow]; exact Int32.not_le.mp c23)) (by first | rfl | assumption) (by (have hi9 : i = 4 := by omega); rw [eg29_p0, hi9]; exact ftShI_4 hk1 hkn) _ _ hP hD hS ls (lv_sub hl [1, 2, 3, 4, 5, 0] rfl)
              · have c32n : i < 4 := ft_nleN (by omega) (by omega) c32
                refine lv_aload_n hx hb dX11_comes_35 rfl (lv_at hl 0 rfl) ?_
                refine lv_iconst (v := 4) hx hb dX11_comes_36 (by decide) ?_
                refine lv_iconst (v := 4) hx hb dX11_comes_37 (by decide) ?_
                refine lv_iload hx hb dX11_comes_38 (lv_at hl 5 rfl) ?_
                refine lv_imul hx hb dX11_comes_40 ?_
                refine ft_top (y := nI (4 * k)) (ft_mulN 4 k) ?_
                refine lv_iadd hx hb dX11_comes_41 ?_
                refine ft_top (y := nI (4 + (4 * k))) (ft_addN 4 (4 * k)) ?_
                refine lv_iload hx hb dX11_comes_42 (lv_at hl 6 rfl) ?_
                refine lv_iadd hx hb dX11_comes_44 ?_
                refine ft_top (y := nI ((4 + (4 * k)) + i)) (ft_addN (4 + (4 * k)) i) ?_
                refine lv_aload_n hx hb dX11_comes_45 rfl (lv_at hl 0 rfl) ?_
                refine lv_iconst (v := 4) hx hb dX11_comes_46 (by decide) ?_
                refine lv_iconst (v := 4) hx hb dX11_comes_47 (by decide) ?_
                refine lv_iload hx hb dX11_comes_48 (lv_at hl 5 rfl) ?_
                refine lv_iconst (v := 1) hx hb dX11_comes_50 (by decide) ?_
                refine lv_isub hx hb dX11_comes_51 ?_
                refine ft_top (y := nI (k - 1)) (ft_subN (a := k) (b := 1) (by omega)) ?_
                refine lv_imul hx hb dX11_comes_52 ?_
                refine ft_top (y := nI (4 * (k - 1))) (ft_mulN 4 (k - 1)) ?_
                refine lv_iadd hx hb dX11_comes_53 ?_
                refine ft_top (y := nI (4 + (4 * (k - 1)))) (ft_addN 4 (4 * (k - 1))) ?_
                refine lv_iload hx hb dX11_comes_54 (lv_at hl 6 rfl) ?_
                refine lv_iadd hx hb dX11_comes_56 ?_
                refine ft_top (y := nI ((4 + (4 * (k - 1))) + i)) (ft_addN (4 + (4 * (k - 1))) i) ?_
                refine va_iald hx hb hK hP 0 0 rfl rfl (vp_in_nI (by omega) (by omega)) dX11_comes_57 ?_
                refine ft_top (y := g29_p0 ((4 + (4 * (k - 1))) + i)) (ft_clampN (by omega)) ?_
                refine va_iast hx hb hK hP hD hS 0 0 rfl rfl (vp_in_nI (by omega) (by omega)) dX11_comes_58 (fun H locs hP hD hS => ?_)
                rw [nI_clamp (show (4 + (4 * k)) + i < 2 ^ 31 by omega)] at hP hD
                have hP : va_P D vwCl [(p0, .inl (cI, N, .inl (upd g29_p0 ((4 + (4 * k)) + i) (g29_p0 ((4 + (4 * (k - 1))) + i)))))] H := hP
                have hD : va_D A [(p0, .inl (cI, N, .inl (upd g29_p0 ((4 + (4 * k)) + i) (g29_p0 ((4 + (4 * (k - 1))) + i)))))] := hD
                refine lv_iinc (v := nI (i + 1)) (lv' := [(6, .int (nI (i + 1))), (0, .ref p0), (1, .int kd), (2, .int x), (3, .int lo), (4, .int re), (5, .int (nI k))]) hx hb dX11_comes_59 hl (k := 6) rfl (ft_inc i) (by decide) rfl (fun ls hl => ?_)
                refine lv_goto (tgt := 29) hx hb dX11_comes_62 (by decide) ?_
                exact ih29 (i + 1) (nI (i + 1)) (upd g29_p0 ((4 + (4 * k)) + i) (g29_p0 ((4 + (4 * (k - 1))) + i))) (by omega) (by omega) (by first | rfl | assumption) (by rw [eg29_p0]; exact ftShI_s hk1 (by omega)) _ _ hP hD hS ls (lv_sub hl [1, 2, 3, 4, 5, 6, 0] rfl)
          exact lp29 _ 0 0 g5_p0 (Nat.lt_succ_self _) (by omega) (by rfl) (by rw [eg5_p0]; exact ftShI_0 w n k) _ _ hP hD hS ls (lv_sub hl [1, 2, 3, 4, 5, 6, 0] rfl)
  exact lp5 _ n (nI n) w (Nat.lt_succ_self _) (by omega) (by rfl) (by rfl) (by exact ftShP_0 w n) _ _ hP hD hS ls (lv_sub hl [1, 2, 3, 4, 5, 0] rfl)
