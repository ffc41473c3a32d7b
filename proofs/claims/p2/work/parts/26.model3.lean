/-! the reference: noise, peaks, flashes, ghosts -/
theorem ft_pastI {x pl w : Nat} (hx : x ≤ 1000) (hp : pl ≤ 1000) (hw : w ≤ 20) : ((nI x - nI pl) - nI w + 1).toInt = (x : Int) - pl - w + 1 := by
  have h1 : (nI x - nI pl).toInt = (x : Int) - pl := ft_subI (by omega) (by omega)
  have h2 : ((nI x - nI pl) - nI w).toInt = (x : Int) - pl - w := by
    rw [Int32.toInt_sub, h1, nI_toInt (by omega)]
    exact Int.bmod_eq_of_le (by omega) (by omega)
  rw [Int32.toInt_add, h2]
  show ((x : Int) - pl - w + 1).bmod (2 ^ 32) = _
  exact Int.bmod_eq_of_le (by omega) (by omega)
theorem ft_past {x pl w : Nat} (hx : x ≤ 1000) (hp : pl ≤ 1000) (hw : w ≤ 20) (h : 0 < (nI x - nI pl) - nI w + 1) : pl + w < x + 1 ∧ (nI x - nI pl) - nI w + 1 = nI (x + 1 - (pl + w)) := by
  have e := ft_pastI hx hp hw
  rw [Int32.lt_iff_toInt_lt, e] at h
  have h2 : (0 : Int) < (x : Int) - pl - w + 1 := h
  refine ⟨by omega, Int32.toInt_inj.mp ?_⟩
  rw [e, nI_toInt (by omega)]
  omega
theorem ft_npast {x pl w : Nat} (hx : x ≤ 1000) (hp : pl ≤ 1000) (hw : w ≤ 20) (h : ¬ 0 < (nI x - nI pl) - nI w + 1) : x + 1 ≤ pl + w := by
  have e := ft_pastI hx hp hw
  rw [Int32.lt_iff_toInt_lt, e] at h
  have h2 : ¬ (0 : Int) < (x : Int) - pl - w + 1 := h
  omega
theorem ft_ge0S {a b : Nat} (ha : a < 2 ^ 31) (hb : b < 2 ^ 31) (h : 0 ≤ nI a - nI b) : b ≤ a := by
  rw [Int32.le_iff_toInt_le, ft_subI ha hb] at h
  have h2 : (0 : Int) ≤ (a : Int) - b := h
  omega
theorem ft_nge0S {a b : Nat} (ha : a < 2 ^ 31) (hb : b < 2 ^ 31) (h : ¬ 0 ≤ nI a - nI b) : a ≤ b := by
  rw [Int32.le_iff_toInt_le, ft_subI ha hb] at h
  have h2 : ¬ (0 : Int) ≤ (a : Int) - b := h
  omega
theorem ftPk_past {pl hh w d x : Nat} (h : pl + w < x + 1) : ftPk pl hh w d x = hh - d * (x + 1 - (pl + w)) := by
  unfold ftPk
  rw [if_neg (by omega)]
theorem ftPk_low {pl hh w d x : Nat} (h : x < pl) : ftPk pl hh w d x = 0 := if_pos h
def ftDownM (ga g1 : Nat → Int32) (x one : Int32) : Nat → Nat
  | 0 => 0
  | k + 1 => if x < ga k ∨ (ga k = x ∧ one < g1 k) then ftDownM ga g1 x one k else k + 1
theorem ftDownM_le (ga g1 : Nat → Int32) (x one : Int32) (g : Nat) : ftDownM ga g1 x one g ≤ g := by
  induction g with
  | zero => exact Nat.le_refl 0
  | succ g ih => unfold ftDownM; split <;> omega
theorem ftDownM_gt {ga g1 : Nat → Int32} {x one : Int32} {k : Nat} (hk : 0 < k) (h : x < ga (k - 1) ∨ (ga (k - 1) = x ∧ one < g1 (k - 1))) : ftDownM ga g1 x one k = ftDownM ga g1 x one (k - 1) := by
  obtain ⟨j, rfl⟩ : ∃ j, k = j + 1 := ⟨k - 1, by omega⟩
  exact if_pos h
theorem ftDownM_ge {ga g1 : Nat → Int32} {x one : Int32} {k : Nat} (hk : 0 < k) (h : ¬ (x < ga (k - 1) ∨ (ga (k - 1) = x ∧ one < g1 (k - 1)))) : ftDownM ga g1 x one k = k := by
  obtain ⟨j, rfl⟩ : ∃ j, k = j + 1 := ⟨k - 1, by omega⟩
  exact if_neg h
theorem ftInsG_low {f : Nat → Int32} {u j t : Nat} (h : t ≤ j) : ftInsG f u j t = f t := if_neg (by omega)
/-- ghosts: how many, places, heights, firsts, seconds -/
abbrev ftGq : Type := Nat × (Nat → Int32) × (Nat → Int32) × (Nat → Int32) × (Nat → Int32)
def ftGmIns (q : ftGq) (x h a b : Int32) : ftGq := (q.1 + 1, ftIns q.2.1 q.1 (ftDownM q.2.1 q.2.2.2.1 x a q.1) x, ftIns q.2.2.1 q.1 (ftDownM q.2.1 q.2.2.2.1 x a q.1) h, ftIns q.2.2.2.1 q.1 (ftDownM q.2.1 q.2.2.2.1 x a q.1) a, ftIns q.2.2.2.2 q.1 (ftDownM q.2.1 q.2.2.2.1 x a q.1) b)
def ftGmStep (ps hs : Nat → Int32) (gl : Int32) (i j : Nat) (q : ftGq) : ftGq := if 0 < ftGhH hs gl i j then ftGmIns q (2 * ps j - ps i) (ftGhH hs gl i j) (ps i) (ps j) else q
def ftGmIn (ps hs : Nat → Int32) (gl : Int32) (i : Nat) (q : ftGq) : Nat → ftGq
  | 0 => q
  | d + 1 => ftGmStep ps hs gl i (i + 1 + d) (ftGmIn ps hs gl i q d)
def ftGmOut (ps hs : Nat → Int32) (gl : Int32) (r : Nat) (q : ftGq) : Nat → ftGq
  | 0 => q
  | i + 1 => ftGmIn ps hs gl i (ftGmOut ps hs gl r q i) (r - (i + 1))
theorem ftGmStep_le (ps hs : Nat → Int32) (gl : Int32) (i j : Nat) (q : ftGq) : (ftGmStep ps hs gl i j q).1 ≤ q.1 + 1 := by
  unfold ftGmStep; split
  · exact Nat.le_refl _
  · omega
theorem ftGmIn_le (ps hs : Nat → Int32) (gl : Int32) (i : Nat) (q : ftGq) (d : Nat) : (ftGmIn ps hs gl i q d).1 ≤ q.1 + d := by
  induction d with
  | zero => exact Nat.le_refl _
  | succ d ih => have := ftGmStep_le ps hs gl i (i + 1 + d) (ftGmIn ps hs gl i q d); show (ftGmStep ps hs gl i (i + 1 + d) (ftGmIn ps hs gl i q d)).1 ≤ _; omega
theorem ftGmOut_le (ps hs : Nat → Int32) (gl : Int32) (r : Nat) (q : ftGq) (hq : q.1 = 0) (i : Nat) : (ftGmOut ps hs gl r q i).1 ≤ ftPairs r i := by
  induction i with
  | zero => show q.1 ≤ 0; omega
  | succ i ih =>
    have := ftGmIn_le ps hs gl i (ftGmOut ps hs gl r q i) (r - (i + 1))
    show (ftGmIn ps hs gl i (ftGmOut ps hs gl r q i) (r - (i + 1))).1 ≤ ftPairs r i + (r - (i + 1))
    omega
def ftGms (R : Nat × (Nat → Int32) × (Nat → Int32)) (gl : Int32) (ga gh g1 g2 : Nat → Int32) : ftGq := ftGmOut R.2.1 R.2.2 gl R.1 (0, ga, gh, g1, g2) R.1
set_option maxHeartbeats 4000000 in
set_option maxRecDepth 100000 in
theorem c_X11_peakOf (l : Launch) (D : va_G) (cI cS : ClassId) (m0 p0 p1 p3 p5 p10 p12 p13 p14 p16 p17 p19 p20 p21 p22 p25 p26 p27 p28 p29 p30 p31 p32 : Nat) (i2 i4 i6 i7 i8 i9 i11 i15 i18 i23 i24 : Int32) (w : Nat → Int32) (pl hh x wd d : Nat) (hs0 : w 44 = nI wd) (hs1 : w 45 = nI d) (hpl : pl ≤ 1000) (hh4 : hh ≤ 40000) (hx4 : x ≤ 1000) (hwd : wd ≤ 20) (hd : d ≤ 5000) : Met l yX11_peakOf wsX11_peakOf ({ frames := 1, cells := 0, slots := 0, locals := 21 }) (ftRO D cI cS [.ref m0, .int (nI pl), .int (nI hh), .int (nI x)] [(m0, .inr (11, [.ref p0, .ref p1, .int i2, .ref p3, .int i4, .ref p5, .int i6, .int i7, .int i8, .int i9, .ref p10, .int i11, .ref p12, .ref p13, .ref p14, .int i15, .ref p16, .ref p17, .int i18, .ref p19, .ref p20, .ref p21, .ref p22, .int i23, .int i24, .ref p25, .ref p26, .ref p27, .ref p28, .ref p29, .ref p30, .ref p31, .ref p32])), (p0, .inl (cI, 1439, .inl w))]) (vp_Si (fun o9 => o9 = nI (ftPk pl hh wd d x))) 0 0 (fun _ => False) := by
  refine Met.ofW (cc := cX11_peakOf) (maxL := 6) (ret := (some .int)) (by decide) rfl ?_
  intro p e s m args below meth c s₁ B hml hv
  obtain ⟨rfl, hP, hKK⟩ := hv
  have hK := hKK.1
  have hx := B.exec
  have hb := B.bytes
  have hr := B.returns
  have hts := atoms_spec (ws := wsX11_peakOf) B.pre
  have hown : s.vm.findClass RX11 = some m.cls := findClass_of_methodNamed B.named
  have hlocks := B.notSynchronized
  have hP : va_P D vwCl [(m0, .inr (11, [.ref p0, .ref p1, .int i2, .ref p3, .int i4, .ref p5, .int i6, .int i7, .int i8, .int i9, .ref p10, .int i11, .ref p12, .ref p13, .ref p14, .int i15, .ref p16, .ref p17, .int i18, .ref p19, .ref p20, .ref p21, .ref p22, .int i23, .int i24, .ref p25, .ref p26, .ref p27, .ref p28, .ref p29, .ref p30, .ref p31, .ref p32])), (p0, .inl (cI, 1439, .inl w))] s.heap := hP
  have hl := lv_entry ([.ref m0, .int (nI pl), .int (nI hh), .int (nI x)]) (n := 6) (Nat.le_of_ble_eq_true rfl)
  rw [lg_entry_eq]
  generalize (lg_sl ([.ref m0, .int (nI pl), .int (nI hh), .int (nI x)]) ++ List.replicate (6 - (lg_sl ([.ref m0, .int (nI pl), .int (nI hh), .int (nI x)])).length) Slot.unset).toArray = ls at hl ⊢
  have hl : lv_has ls 6 [(0, .ref m0), (1, .int (nI pl)), (2, .int (nI hh)), (3, .int (nI x))] := hl
  refine lv_iload_n hx hb dX11_peakOf_0 rfl (lv_at hl 3 rfl) ?_
  refine lv_iload_n hx hb dX11_peakOf_1 rfl (lv_at hl 1 rfl) ?_
  refine lv_isub hx hb dX11_peakOf_2 ?_
  refine lv_aload_n hx hb dX11_peakOf_3 rfl (lv_at hl 0 rfl) ?_
  refine lv_iconst (v := 0) hx hb dX11_peakOf_4 (by decide) ?_
  refine ft_csi (r := w (44 + 0)) (va_runV (C := RX11) (As := [.int 0]) (rest := [.int ((nI x) - (nI pl))]) ⟨hx, hb, hml, hown, hts⟩ (c_X11_setting l D cI cS m0 p0 p1 p3 p5 p10 p12 p13 p14 p16 p17 p19 p20 p21 p22 p25 p26 p27 p28 p29 p30 p31 p32 i2 i4 i6 i7 i8 i9 i11 i15 i18 i23 i24 w 0 (by first | assumption | omega)) (cwV 1 hts gX11_peakOf_X11_setting rfl rfl rfl (by decide +kernel) ⟨Nat.le_of_ble_eq_true rfl, Nat.le_of_ble_eq_true rfl⟩) (ft_preROV (ci := 11) (q0 := 0) hP hKK [0, 1] rfl rfl rfl) rfl rfl hl.1 rfl (lv_room (Nat.le_of_ble_eq_true rfl)) dX11_peakOf_5 ⟨Nat.le_of_ble_eq_true rfl, Nat.le_of_ble_eq_true rfl⟩) ?_
  refine ft_top (y := nI wd) hs0 ?_
  refine lv_isub hx hb dX11_peakOf_8 ?_
  refine lv_iconst (v := 1) hx hb dX11_peakOf_9 (by decide) ?_
  refine lv_iadd hx hb dX11_peakOf_10 ?_
  refine lv_istore (lv' := [(4, .int ((((nI x) - (nI pl)) - (nI wd)) + 1)), (0, .ref m0), (1, .int (nI pl)), (2, .int (nI hh)), (3, .int (nI x))]) hx hb dX11_peakOf_11 hl (by decide) rfl (fun ls hl => ?_)
  refine lv_iload hx hb dX11_peakOf_13 (lv_at hl 0 rfl) ?_
  refine lv_if_gt (tgt := 22) hx hb dX11_peakOf_15 (by decide) (fun c15 => ?_) (fun c15 => ?_)
  · have hp9 := ft_past hx4 hpl hwd c15
    have hm1 : d * (x + 1 - (pl + wd)) ≤ 5000 * 1001 := Nat.mul_le_mul hd (by omega)
    refine lv_iload_n hx hb dX11_peakOf_22 rfl (lv_at hl 3 rfl) ?_
    refine lv_aload_n hx hb dX11_peakOf_23 rfl (lv_at hl 1 rfl) ?_
    refine lv_iconst (v := 1) hx hb dX11_peakOf_24 (by decide) ?_
    refine ft_csi (r := w (44 + 1)) (va_runV (C := RX11) (As := [.int 1]) (rest := [.int (nI hh)]) ⟨hx, hb, hml, hown, hts⟩ (c_X11_setting l D cI cS m0 p0 p1 p3 p5 p10 p12 p13 p14 p16 p17 p19 p20 p21 p22 p25 p26 p27 p28 p29 p30 p31 p32 i2 i4 i6 i7 i8 i9 i11 i15 i18 i23 i24 w 1 (by first | assumption | omega)) (cwV 1 hts gX11_peakOf_X11_setting rfl rfl rfl (by decide +kernel) ⟨Nat.le_of_ble_eq_true rfl, Nat.le_of_ble_eq_true rfl⟩) (ft_preROV (ci := 11) (q0 := 0) hP hKK [0, 1] rfl rfl rfl) rfl rfl hl.1 rfl (lv_room (Nat.le_of_ble_eq_true rfl)) dX11_peakOf_25 ⟨Nat.le_of_ble_eq_true rfl, Nat.le_of_ble_eq_true rfl⟩) ?_
    refine ft_top (y := nI d) hs1 ?_
    refine lv_iload hx hb dX11_peakOf_28 (lv_at hl 0 rfl) ?_
    refine lv_imul hx hb dX11_peakOf_30 ?_
    refine ft_top (y := nI (d * (x + 1 - (pl + wd)))) (by rw [hp9.2, ft_mulN]) ?_
    refine lv_isub hx hb dX11_peakOf_31 ?_
    refine lv_istore (lv' := [(5, .int ((nI hh) - (nI (d * (x + 1 - (pl + wd)))))), (4, .int ((((nI x) - (nI pl)) - (nI wd)) + 1)), (0, .ref m0), (1, .int (nI pl)), (2, .int (nI hh)), (3, .int (nI x))]) hx hb dX11_peakOf_32 hl (by decide) rfl (fun ls hl => ?_)
    refine lv_iload_n hx hb dX11_peakOf_34 rfl (lv_at hl 5 rfl) ?_
    refine lv_iload_n hx hb dX11_peakOf_35 rfl (lv_at hl 3 rfl) ?_
    refine lv_icmp_lt (tgt := 44) hx hb dX11_peakOf_36 (by decide) (fun c36 => ?_) (fun c36 => ?_)
    · have c36n : x < pl := ft_ltN (by omega) (by omega) c36
      refine lv_iconst (v := 0) hx hb dX11_peakOf_44 (by decide) ?_
      refine lv_goto (tgt := 50) hx hb dX11_peakOf_45 (by decide) ?_
      exact W.iret (v := 0) hx hb hr (fun t ht hW => ⟨0, rfl, (by show (0 : Int32) = nI (ftPk pl hh wd d x); first | (rw [ftPk_low c36n]; rfl) | (rw [ftPk_in c36n (by omega)]; done) | (rw [ftPk_past hp9.1, ft_subN (ft_ge0S (by omega) (by omega) c41)]; done) | (rw [ftPk_past hp9.1, Nat.sub_eq_zero_of_le (ft_nge0S (by omega) (by omega) c41)]; rfl) | exact absurd (nI_pos' (by omega)) c41), ht⟩) (fun _ h9 => absurd h9 List.not_mem_nil) dX11_peakOf_50
    · have c36n : pl ≤ x := ft_nltN (by omega) (by omega) c36
      refine lv_iload hx hb dX11_peakOf_39 (lv_at hl 0 rfl) ?_
      refine lv_if_ge (tgt := 48) hx hb dX11_peakOf_41 (by decide) (fun c41 => ?_) (fun c41 => ?_)
      · refine lv_iload hx hb dX11_peakOf_48 (lv_at hl 0 rfl) ?_
        exact W.iret (v := (nI hh) - (nI (d * (x + 1 - (pl + wd))))) hx hb hr (fun t ht hW => ⟨(nI hh) - (nI (d * (x + 1 - (pl + wd)))), rfl, (by show ((nI hh) - (nI (d * (x + 1 - (pl + wd)))) : Int32) = nI (ftPk pl hh wd d x); first | (rw [ftPk_low c36n]; rfl) | (rw [ftPk_in c36n (by omega)]; done) | (rw [ftPk_past hp9.1, ft_subN (ft_ge0S (by omega) (by omega) c41)]; done) | (rw [ftPk_past hp9.1, Nat.sub_eq_zero_of_le (ft_nge0S (by omega) (by omega) c41)]; rfl) | exact absurd (nI_pos' (by omega)) c41), ht⟩) (fun _ h9 => absurd h9 List.not_mem_nil) dX11_peakOf_50
      · refine lv_iconst (v := 0) hx hb dX11_peakOf_44 (by decide) ?_
        refine lv_goto (tgt := 50) hx hb dX11_peakOf_45 (by decide) ?_
        exact W.iret (v := 0) hx hb hr (fun t ht hW => ⟨0, rfl, (by show (0 : Int32) = nI (ftPk pl hh wd d x); first | (rw [ftPk_low c36n]; rfl) | (rw [ftPk_in c36n (by omega)]; done) | (rw [ftPk_past hp9.1, ft_subN (ft_ge0S (by omega) (by omega) c41)]; done) | (rw [ftPk_past hp9.1, Nat.sub_eq_zero_of_le (ft_nge0S (by omega) (by omega) c41)]; rfl) | exact absurd (nI_pos' (by omega)) c41), ht⟩) (fun _ h9 => absurd h9 List.not_mem_nil) dX11_peakOf_50
  · have hp8 := ft_npast hx4 hpl hwd c15
    refine lv_iload_n hx hb dX11_peakOf_18 rfl (lv_at hl 3 rfl) ?_
    refine lv_goto (tgt := 32) hx hb dX11_peakOf_19 (by decide) ?_
    refine lv_istore (lv' := [(5, .int (nI hh)), (4, .int ((((nI x) - (nI pl)) - (nI wd)) + 1)), (0, .ref m0), (1, .int (nI pl)), (2, .int (nI hh)), (3, .int (nI x))]) hx hb dX11_peakOf_32 hl (by decide) rfl (fun ls hl => ?_)
    refine lv_iload_n hx hb dX11_peakOf_34 rfl (lv_at hl 5 rfl) ?_
    refine lv_iload_n hx hb dX11_peakOf_35 rfl (lv_at hl 3 rfl) ?_
    refine lv_icmp_lt (tgt := 44) hx hb dX11_peakOf_36 (by decide) (fun c36 => ?_) (fun c36 => ?_)
    · have c36n : x < pl := ft_ltN (by omega) (by omega) c36
      refine lv_iconst (v := 0) hx hb dX11_peakOf_44 (by decide) ?_
      refine lv_goto (tgt := 50) hx hb dX11_peakOf_45 (by decide) ?_
      exact W.iret (v := 0) hx hb hr (fun t ht hW => ⟨0, rfl, (by show (0 : Int32) = nI (ftPk pl hh wd d x); first | (rw [ftPk_low c36n]; rfl) | (rw [ftPk_in c36n (by omega)]; done) | (rw [ftPk_past hp9.1, ft_subN (ft_ge0S (by omega) (by omega) c41)]; done) | (rw [ftPk_past hp9.1, Nat.sub_eq_zero_of_le (ft_nge0S (by omega) (by omega) c41)]; rfl) | exact absurd (nI_pos' (by omega)) c41), ht⟩) (fun _ h9 => absurd h9 List.not_mem_nil) dX11_peakOf_50
    · have c36n : pl ≤ x := ft_nltN (by omega) (by omega) c36
      refine lv_iload hx hb dX11_peakOf_39 (lv_at hl 0 rfl) ?_
      refine lv_if_ge (tgt := 48) hx hb dX11_peakOf_41 (by decide) (fun c41 => ?_) (fun c41 => ?_)
      · refine lv_iload hx hb dX11_peakOf_48 (lv_at hl 0 rfl) ?_
        exact W.iret (v := nI hh) hx hb hr (fun t ht hW => ⟨nI hh, rfl, (by show (nI hh : Int32) = nI (ftPk pl hh wd d x); first | (rw [ftPk_low c36n]; rfl) | (rw [ftPk_in c36n (by omega)]; done) | (rw [ftPk_past hp9.1, ft_subN (ft_ge0S (by omega) (by omega) c41)]; done) | (rw [ftPk_past hp9.1, Nat.sub_eq_zero_of_le (ft_nge0S (by omega) (by omega) c41)]; rfl) | exact absurd (nI_pos' (by omega)) c41), ht⟩) (fun _ h9 => absurd h9 List.not_mem_nil) dX11_peakOf_50
      · refine lv_iconst (v := 0) hx hb dX11_peakOf_44 (by decide) ?_
        refine lv_goto (tgt := 50) hx hb dX11_peakOf_45 (by decide) ?_
        exact W.iret (v := 0) hx hb hr (fun t ht hW => ⟨0, rfl, (by show (0 : Int32) = nI (ftPk pl hh wd d x); first | (rw [ftPk_low c36n]; rfl) | (rw [ftPk_in c36n (by omega)]; done) | (rw [ftPk_past hp9.1, ft_subN (ft_ge0S (by omega) (by omega) c41)]; done) | (rw [ftPk_past hp9.1, Nat.sub_eq_zero_of_le (ft_nge0S (by omega) (by omega) c41)]; rfl) | exact absurd (nI_pos' (by omega)) c41), ht⟩) (fun _ h9 => absurd h9 List.not_mem_nil) dX11_peakOf_50
set_option maxHeartbeats 4000000 in
set_option maxRecDepth 100000 in
theorem c_X11_ghostComes (l : Launch) (D : va_G) (cI cS : ClassId) (sz : Nat) (m0 p0 p1 p3 p5 p10 p12 p13 p14 p16 p17 p19 p20 p21 p22 p25 p26 p27 p28 p29 p30 p31 p32 : Nat) (i2 i4 i6 i7 i8 i9 i11 i15 i23 i24 : Int32) (ga gh g1 g2 : Nat → Int32) (g : Nat) (x h a b : Int32) (hg : g < 55) : Met l yX11_ghostComes wsX11_ghostComes ({ frames := 0, cells := 0, slots := 0, locals := 0 }) (ftRW D cI cS [.ref m0, .int x, .int h, .int a, .int b] [(m0, .inr (11, [.ref p0, .ref p1, .int i2, .ref p3, .int i4, .ref p5, .int i6, .int i7, .int i8, .int i9, .ref p10, .int i11, .ref p12, .ref p13, .ref p14, .int i15, .ref p16, .ref p17, .int (nI g), .ref p19, .ref p20, .ref p21, .ref p22, .int i23, .int i24, .ref p25, .ref p26, .ref p27, .ref p28, .ref p29, .ref p30, .ref p31, .ref p32])), (p19, .inl (cI, 55, .inl ga)), (p20, .inl (cI, 55, .inl gh)), (p21, .inl (cI, 55, .inl g1)), (p22, .inl (cI, 55, .inl g2))] sz) (ftQv D [(m0, .inr (11, [.ref p0, .ref p1, .int i2, .ref p3, .int i4, .ref p5, .int i6, .int i7, .int i8, .int i9, .ref p10, .int i11, .ref p12, .ref p13, .ref p14, .int i15, .ref p16, .ref p17, .int (nI g), .ref p19, .ref p20, .ref p21, .ref p22, .int i23, .int i24, .ref p25, .ref p26, .ref p27, .ref p28, .ref p29, .ref p30, .ref p31, .ref p32])), (p19, .inl (cI, 55, .inl ga)), (p20, .inl (cI, 55, .inl gh)), (p21, .inl (cI, 55, .inl g1)), (p22, .inl (cI, 55, .inl g2))] [(m0, .inr (11, [.ref p0, .ref p1, .int i2, .ref p3, .int i4, .ref p5, .int i6, .int i7, .int i8, .int i9, .ref p10, .int i11, .ref p12, .ref p13, .ref p14, .int i15, .ref p16, .ref p17, .int (nI (ftGmIns (g, ga, gh, g1, g2) x h a b).1), .ref p19, .ref p20, .ref p21, .ref p22, .int i23, .int i24, .ref p25, .ref p26, .ref p27, .ref p28, .ref p29, .ref p30, .ref p31, .ref p32])), (p19, .inl (cI, 55, .inl ((ftGmIns (g, ga, gh, g1, g2) x h a b).2.1))), (p20, .inl (cI, 55, .inl ((ftGmIns (g, ga, gh, g1, g2) x h a b).2.2.1))), (p21, .inl (cI, 55, .inl ((ftGmIns (g, ga, gh, g1, g2) x h a b).2.2.2.1))), (p22, .inl (cI, 55, .inl ((ftGmIns (g, ga, gh, g1, g2) x h a b).2.2.2.2)))] sz) 0 0 (va_A [(m0, .inr (11, [.ref p0, .ref p1, .int i2, .ref p3, .int i4, .ref p5, .int i6, .int i7, .int i8, .int i9, .ref p10, .int i11, .ref p12, .ref p13, .ref p14, .int i15, .ref p16, .ref p17, .int (nI g), .ref p19, .ref p20, .ref p21, .ref p22, .int i23, .int i24, .ref p25, .ref p26, .ref p27, .ref p28, .ref p29, .ref p30, .ref p31, .ref p32])), (p19, .inl (cI, 55, .inl ga)), (p20, .inl (cI, 55, .inl gh)), (p21, .inl (cI, 55, .inl g1)), (p22, .inl (cI, 55, .inl g2))] sz) := by
  refine Met.ofW (cc := cX11_ghostComes) (maxL := 6) (ret := none) (by decide) rfl ?_
  intro p e s m args below meth c s₁ B hml hv
  obtain ⟨rfl, hsz, hP, hKK, hD0⟩ := hv
  have hK := hKK.1
  have hx := B.exec
  have hb := B.bytes
  have hr := B.returns
  have hts := atoms_spec (ws := wsX11_ghostComes) B.pre
  have hown : s.vm.findClass RX11 = some m.cls := findClass_of_methodNamed B.named
  have hlocks := B.notSynchronized
  subst hsz
  have hD := hD0.self (sz := s.heap.size)
  generalize hAe : va_A [(m0, .inr (11, [.ref p0, .ref p1, .int i2, .ref p3, .int i4, .ref p5, .int i6, .int i7, .int i8, .int i9, .ref p10, .int i11, .ref p12, .ref p13, .ref p14, .int i15, .ref p16, .ref p17, .int (nI g), .ref p19, .ref p20, .ref p21, .ref p22, .int i23, .int i24, .ref p25, .ref p26, .ref p27, .ref p28, .ref p29, .ref p30, .ref p31, .ref p32])), (p19, .inl (cI, 55, .inl ga)), (p20, .inl (cI, 55, .inl gh)), (p21, .inl (cI, 55, .inl g1)), (p22, .inl (cI, 55, .inl g2))] s.heap.size = A at hD ⊢
  have hA : ∀ q : Nat, s.heap.size ≤ q → A q := fun q h => by rw [← hAe]; exact Or.inr h
  have hS : va_S A s.heap s.heap [] := va_S.rf
  have hD : va_D A [(m0, .inr (11, [.ref p0, .ref p1, .int i2, .ref p3, .int i4, .ref p5, .int i6, .int i7, .int i8, .int i9, .ref p10, .int i11, .ref p12, .ref p13, .ref p14, .int i15, .ref p16, .ref p17, .int (nI g), .ref p19, .ref p20, .ref p21, .ref p22, .int i23, .int i24, .ref p25, .ref p26, .ref p27, .ref p28, .ref p29, .ref p30, .ref p31, .ref p32])), (p19, .inl (cI, 55, .inl ga)), (p20, .inl (cI, 55, .inl gh)), (p21, .inl (cI, 55, .inl g1)), (p22, .inl (cI, 55, .inl g2))] := hD
  have hP : va_P D vwCl [(m0, .inr (11, [.ref p0, .ref p1, .int i2, .ref p3, .int i4, .ref p5, .int i6, .int i7, .int i8, .int i9, .ref p10, .int i11, .ref p12, .ref p13, .ref p14, .int i15, .ref p16, .ref p17, .int (nI g), .ref p19, .ref p20, .ref p21, .ref p22, .int i23, .int i24, .ref p25, .ref p26, .ref p27, .ref p28, .ref p29, .ref p30, .ref p31, .ref p32])), (p19, .inl (cI, 55, .inl ga)), (p20, .inl (cI, 55, .inl gh)), (p21, .inl (cI, 55, .inl g1)), (p22, .inl (cI, 55, .inl g2))] s.heap := hP
  have hl := lv_entry ([.ref m0, .int x, .int h, .int a, .int b]) (n := 6) (Nat.le_of_ble_eq_true rfl)
  rw [lg_entry_eq]
  generalize (lg_sl ([.ref m0, .int x, .int h, .int a, .int b]) ++ List.replicate (6 - (lg_sl ([.ref m0, .int x, .int h, .int a, .int b])).length) Slot.unset).toArray = ls at hl ⊢
  have hl : lv_has ls 6 [(0, .ref m0), (1, .int x), (2, .int h), (3, .int a), (4, .int b)] := hl
  refine lv_aload_n hx hb dX11_ghostComes_0 rfl (lv_at hl 0 rfl) ?_
  refine va_get (D := D) (ci := 11) (v := .int (nI g)) (C := RX11) (T := TX11) (N := 33) hx hb hts (by decide +kernel) hown hK hP 0 rfl rfl 18 (by decide) (hts (.fieldLink RX11 208 "FiberTraceModel" "ghostMany" "I") (by decide +kernel)) (fun _ h9 => h9) rfl dX11_ghostComes_1 ?_
  refine lv_istore (lv' := [(5, .int (nI g)), (0, .ref m0), (1, .int x), (2, .int h), (3, .int a), (4, .int b)]) hx hb dX11_ghostComes_4 hl (by decide) rfl (fun ls hl => ?_)
  have lp6 : ∀ (n6 : Nat) (k : Nat) (x6_5 : Int32) (g6_p19 : Nat → Int32) (g6_p20 : Nat → Int32) (g6_p21 : Nat → Int32) (g6_p22 : Nat → Int32), k < n6 → (k ≤ g) → (ftDownM ga g1 x a g = ftDownM ga g1 x a k) → x6_5 = nI k → g6_p19 = ftInsG ga g k → g6_p20 = ftInsG gh g k → g6_p21 = ftInsG g1 g k → g6_p22 = ftInsG g2 g k → ∀ (H : Heap) (locs : List Loc), va_P D vwCl [(m0, .inr (11, [.ref p0, .ref p1, .int i2, .ref p3, .int i4, .ref p5, .int i6, .int i7, .int i8, .int i9, .ref p10, .int i11, .ref p12, .ref p13, .ref p14, .int i15, .ref p16, .ref p17, .int (nI g), .ref p19, .ref p20, .ref p21, .ref p22, .int i23, .int i24, .ref p25, .ref p26, .ref p27, .ref p28, .ref p29, .ref p30, .ref p31, .ref p32])), (p19, .inl (cI, 55, .inl g6_p19)), (p20, .inl (cI, 55, .inl g6_p20)), (p21, .inl (cI, 55, .inl g6_p21)), (p22, .inl (cI, 55, .inl g6_p22))] H → va_D A [(m0, .inr (11, [.ref p0, .ref p1, .int i2, .ref p3, .int i4, .ref p5, .int i6, .int i7, .int i8, .int i9, .ref p10, .int i11, .ref p12, .ref p13, .ref p14, .int i15, .ref p16, .ref p17, .int (nI g), .ref p19, .ref p20, .ref p21, .ref p22, .int i23, .int i24, .ref p25, .ref p26, .ref p27, .ref p28, .ref p29, .ref p30, .ref p31, .ref p32])), (p19, .inl (cI, 55, .inl g6_p19)), (p20, .inl (cI, 55, .inl g6_p20)), (p21, .inl (cI, 55, .inl g6_p21)), (p22, .inl (cI, 55, .inl g6_p22))] → va_S A s.heap H locs → ∀ ls : Array Slot, lv_has ls 6 [(0, .ref m0), (1, .int x), (2, .int h), (3, .int a), (4, .int b), (5, .int x6_5)] → W p l e (headSpec wsX11_ghostComes { frames := 0, cells := 0, slots := 0, locals := 0 }).room s m ([.ref m0, .int x, .int h, .int a, .int b] : List Value).toArray below meth c H locs 0 0 (MQ below (ftQv D [(m0, .inr (11, [.ref p0, .ref p1, .int i2, .ref p3, .int i4, .ref p5, .int i6, .int i7, .int i8, .int i9, .ref p10, .int i11, .ref p12, .ref p13, .ref p14, .int i15, .ref p16, .ref p17, .int (nI g), .ref p19, .ref p20, .ref p21, .ref p22, .int i23, .int i24, .ref p25, .ref p26, .ref p27, .ref p28, .ref p29, .ref p30, .ref p31, .ref p32])), (p19, .inl (cI, 55, .inl ga)), (p20, .inl (cI, 55, .inl gh)), (p21, .inl (cI, 55, .inl g1)), (p22, .inl (cI, 55, .inl g2))] [(m0, .inr (11, [.ref p0, .ref p1, .int i2, .ref p3, .int i4, .ref p5, .int i6, .int i7, .int i8, .int i9, .ref p10, .int i11, .ref p12, .ref p13, .ref p14, .int i15, .ref p16, .ref p17, .int (nI (ftGmIns (g, ga, gh, g1, g2) x h a b).1), .ref p19, .ref p20, .ref p21, .ref p22, .int i23, .int i24, .ref p25, .ref p26, .ref p27, .ref p28, .ref p29, .ref p30, .ref p31, .ref p32])), (p19, .inl (cI, 55, .inl ((ftGmIns (g, ga, gh, g1, g2) x h a b).2.1))), (p20, .inl (cI, 55, .inl ((ftGmIns (g, ga, gh, g1, g2) x h a b).2.2.1))), (p21, .inl (cI, 55, .inl ((ftGmIns (g, ga, gh, g1, g2) x h a b).2.2.2.1))), (p22, .inl (cI, 55, .inl ((ftGmIns (g, ga, gh, g1, g2) x h a b).2.2.2.2)))] s.heap.size) ([.ref m0, .int x, .int h, .int a, .int b] : List Value).toArray s 0 0 A) (F0 m 6 ls []) := by
    intro n6
    induction n6 with
    | zero =>
      intro k x6_5 g6_p19 g6_p20 g6_p21 g6_p22 hm6
      exact absurd hm6 (Nat.not_lt_zero _)
    | succ n6 ih6 =>
      intro k x6_5 g6_p19 g6_p20 g6_p21 g6_p22 hm6 hkg hd ex6_5 eg6_p19 eg6_p20 eg6_p21 eg6_p22 H locs hP hD hS ls hl
      subst ex6_5
      refine lv_iload hx hb dX11_ghostComes_6 (lv_at hl 5 rfl) ?_
      refine lv_if_le (tgt := 120) hx hb dX11_ghostComes_8 (by decide) (fun c8 => ?_) (fun c8 => ?_)
      · have c8n : k ≤ 0 := ft_leN (by omega) (by omega) c8
        have hk0 : k = 0 := ft_le0 (by omega) c8
        have hix : ftDownM ga g1 x a g = k := by rw [hd, hk0]; rfl
        refine lv_aload_n hx hb dX11_ghostComes_120 rfl (lv_at hl 0 rfl) ?_
        refine va_get (D := D) (ci := 11) (v := .ref p19) (C := RX11) (T := TX11) (N := 33) hx hb hts (by decide +kernel) hown hK hP 0 rfl rfl 19 (by decide) (hts (.fieldLink RX11 40 "FiberTraceModel" "ghostAt" "[I") (by decide +kernel)) (fun _ h9 => h9) rfl dX11_ghostComes_121 ?_
        refine lv_iload hx hb dX11_ghostComes_124 (lv_at hl 5 rfl) ?_
        refine lv_iload_n hx hb dX11_ghostComes_126 rfl (lv_at hl 1 rfl) ?_
        refine va_iast hx hb hK hP hD hS 1 0 rfl rfl (vp_in_nI (by omega) (by omega)) dX11_ghostComes_127 (fun H locs hP hD hS => ?_)
        rw [nI_clamp (show k < 2 ^ 31 by omega)] at hP hD
        have hP : va_P D vwCl [(m0, .inr (11, [.ref p0, .ref p1, .int i2, .ref p3, .int i4, .ref p5, .int i6, .int i7, .int i8, .int i9, .ref p10, .int i11, .ref p12, .ref p13, .ref p14, .int i15, .ref p16, .ref p17, .int (nI g), .ref p19, .ref p20, .ref p21, .ref p22, .int i23, .int i24, .ref p25, .ref p26, .ref p27, .ref p28, .ref p29, .ref p30, .ref p31, .ref p32])), (p19, .inl (cI, 55, .inl (upd g6_p19 k x))), (p20, .inl (cI, 55, .inl g6_p20)), (p21, .inl (cI, 55, .inl g6_p21)), (p22, .inl (cI, 55, .inl g6_p22))] H := hP
        have hD : va_D A [(m0, .inr (11, [.ref p0, .ref p1, .int i2, .ref p3, .int i4, .ref p5, .int i6, .int i7, .int i8, .int i9, .ref p10, .int i11, .ref p12, .ref p13, .ref p14, .int i15, .ref p16, .ref p17, .int (nI g), .ref p19, .ref p20, .ref p21, .ref p22, .int i23, .int i24, .ref p25, .ref p26, .ref p27, .ref p28, .ref p29, .ref p30, .ref p31, .ref p32])), (p19, .inl (cI, 55, .inl (upd g6_p19 k x))), (p20, .inl (cI, 55, .inl g6_p20)), (p21, .inl (cI, 55, .inl g6_p21)), (p22, .inl (cI, 55, .inl g6_p22))] := hD
        refine lv_aload_n hx hb dX11_ghostComes_128 rfl (lv_at hl 0 rfl) ?_
        refine va_get (D := D) (ci := 11) (v := .ref p20) (C := RX11) (T := TX11) (N := 33) hx hb hts (by decide +kernel) hown hK hP 0 rfl rfl 20 (by decide) (hts (.fieldLink RX11 43 "FiberTraceModel" "ghostHigh" "[I") (by decide +kernel)) (fun _ h9 => h9) rfl dX11_ghostComes_129 ?_
        refine lv_iload hx hb dX11_ghostComes_132 (lv_at hl 5 rfl) ?_
        refine lv_iload_n hx hb dX11_ghostComes_134 rfl (lv_at hl 2 rfl) ?_
        refine va_iast hx hb hK hP hD hS 2 0 rfl rfl (vp_in_nI (by omega) (by omega)) dX11_ghostComes_135 (fun H locs hP hD hS => ?_)
        rw [nI_clamp (show k < 2 ^ 31 by omega)] at hP hD
        have hP : va_P D vwCl [(m0, .inr (11, [.ref p0, .ref p1, .int i2, .ref p3, .int i4, .ref p5, .int i6, .int i7, .int i8, .int i9, .ref p10, .int i11, .ref p12, .ref p13, .ref p14, .int i15, .ref p16, .ref p17, .int (nI g), .ref p19, .ref p20, .ref p21, .ref p22, .int i23, .int i24, .ref p25, .ref p26, .ref p27, .ref p28, .ref p29, .ref p30, .ref p31, .ref p32])), (p19, .inl (cI, 55, .inl (upd g6_p19 k x))), (p20, .inl (cI, 55, .inl (upd g6_p20 k h))), (p21, .inl (cI, 55, .inl g6_p21)), (p22, .inl (cI, 55, .inl g6_p22))] H := hP
        have hD : va_D A [(m0, .inr (11, [.ref p0, .ref p1, .int i2, .ref p3, .int i4, .ref p5, .int i6, .int i7, .int i8, .int i9, .ref p10, .int i11, .ref p12, .ref p13, .ref p14, .int i15, .ref p16, .ref p17, .int (nI g), .ref p19, .ref p20, .ref p21, .ref p22, .int i23, .int i24, .ref p25, .ref p26, .ref p27, .ref p28, .ref p29, .ref p30, .ref p31, .ref p32])), (p19, .inl (cI, 55, .inl (upd g6_p19 k x))), (p20, .inl (cI, 55, .inl (upd g6_p20 k h))), (p21, .inl (cI, 55, .inl g6_p21)), (p22, .inl (cI, 55, .inl g6_p22))] := hD
        refine lv_aload_n hx hb dX11_ghostComes_136 rfl (lv_at hl 0 rfl) ?_
        refine va_get (D := D) (ci := 11) (v := .ref p21) (C := RX11) (T := TX11) (N := 33) hx hb hts (by decide +kernel) hown hK hP 0 rfl rfl 21 (by decide) (hts (.fieldLink RX11 46 "FiberTraceModel" "ghostOne" "[I") (by decide +kernel)) (fun _ h9 => h9) rfl dX11_ghostComes_137 ?_
        refine lv_iload hx hb dX11_ghostComes_140 (lv_at hl 5 rfl) ?_
        refine lv_iload_n hx hb dX11_ghostComes_142 rfl (lv_at hl 3 rfl) ?_
        refine va_iast hx hb hK hP hD hS 3 0 rfl rfl (vp_in_nI (by omega) (by omega)) dX11_ghostComes_143 (fun H locs hP hD hS => ?_)
        rw [nI_clamp (show k < 2 ^ 31 by omega)] at hP hD
        have hP : va_P D vwCl [(m0, .inr (11, [.ref p0, .ref p1, .int i2, .ref p3, .int i4, .ref p5, .int i6, .int i7, .int i8, .int i9, .ref p10, .int i11, .ref p12, .ref p13, .ref p14, .int i15, .ref p16, .ref p17, .int (nI g), .ref p19, .ref p20, .ref p21, .ref p22, .int i23, .int i24, .ref p25, .ref p26, .ref p27, .ref p28, .ref p29, .ref p30, .ref p31, .ref p32])), (p19, .inl (cI, 55, .inl (upd g6_p19 k x))), (p20, .inl (cI, 55, .inl (upd g6_p20 k h))), (p21, .inl (cI, 55, .inl (upd g6_p21 k a))), (p22, .inl (cI, 55, .inl g6_p22))] H := hP
        have hD : va_D A [(m0, .inr (11, [.ref p0, .ref p1, .int i2, .ref p3, .int i4, .ref p5, .int i6, .int i7, .int i8, .int i9, .ref p10, .int i11, .ref p12, .ref p13, .ref p14, .int i15, .ref p16, .ref p17, .int (nI g), .ref p19, .ref p20, .ref p21, .ref p22, .int i23, .int i24, .ref p25, .ref p26, .ref p27, .ref p28, .ref p29, .ref p30, .ref p31, .ref p32])), (p19, .inl (cI, 55, .inl (upd g6_p19 k x))), (p20, .inl (cI, 55, .inl (upd g6_p20 k h))), (p21, .inl (cI, 55, .inl (upd g6_p21 k a))), (p22, .inl (cI, 55, .inl g6_p22))] := hD
        refine lv_aload_n hx hb dX11_ghostComes_144 rfl (lv_at hl 0 rfl) ?_
        refine va_get (D := D) (ci := 11) (v := .ref p22) (C := RX11) (T := TX11) (N := 33) hx hb hts (by decide +kernel) hown hK hP 0 rfl rfl 22 (by decide) (hts (.fieldLink RX11 49 "FiberTraceModel" "ghostTwo" "[I") (by decide +kernel)) (fun _ h9 => h9) rfl dX11_ghostComes_145 ?_
        refine lv_iload hx hb dX11_ghostComes_148 (lv_at hl 5 rfl) ?_
        refine lv_iload hx hb dX11_ghostComes_150 (lv_at hl 4 rfl) ?_
        refine va_iast hx hb hK hP hD hS 4 0 rfl rfl (vp_in_nI (by omega) (by omega)) dX11_ghostComes_152 (fun H locs hP hD hS => ?_)
        rw [nI_clamp (show k < 2 ^ 31 by omega)] at hP hD
        have hP : va_P D vwCl [(m0, .inr (11, [.ref p0, .ref p1, .int i2, .ref p3, .int i4, .ref p5, .int i6, .int i7, .int i8, .int i9, .ref p10, .int i11, .ref p12, .ref p13, .ref p14, .int i15, .ref p16, .ref p17, .int (nI g), .ref p19, .ref p20, .ref p21, .ref p22, .int i23, .int i24, .ref p25, .ref p26, .ref p27, .ref p28, .ref p29, .ref p30, .ref p31, .ref p32])), (p19, .inl (cI, 55, .inl (upd g6_p19 k x))), (p20, .inl (cI, 55, .inl (upd g6_p20 k h))), (p21, .inl (cI, 55, .inl (upd g6_p21 k a))), (p22, .inl (cI, 55, .inl (upd g6_p22 k b)))] H := hP
        have hD : va_D A [(m0, .inr (11, [.ref p0, .ref p1, .int i2, .ref p3, .int i4, .ref p5, .int i6, .int i7, .int i8, .int i9, .ref p10, .int i11, .ref p12, .ref p13, .ref p14, .int i15, .ref p16, .ref p17, .int (nI g), .ref p19, .ref p20, .ref p21, .ref p22, .int i23, .int i24, .ref p25, .ref p26, .ref p27, .ref p28, .ref p29, .ref p30, .ref p31, .ref p32])), (p19, .inl (cI, 55, .inl (upd g6_p19 k x))), (p20, .inl (cI, 55, .inl (upd g6_p20 k h))), (p21, .inl (cI, 55, .inl (upd g6_p21 k a))), (p22, .inl (cI, 55, .inl (upd g6_p22 k b)))] := hD
        refine lv_aload_n hx hb dX11_ghostComes_153 rfl (lv_at hl 0 rfl) ?_
        refine lv_dup hx hb dX11_ghostComes_154 rfl ?_
        refine va_get (D := D) (ci := 11) (v := .int (nI g)) (C := RX11) (T := TX11) (N := 33) hx hb hts (by decide +kernel) hown hK hP 0 rfl rfl 18 (by decide) (hts (.fieldLink RX11 208 "FiberTraceModel" "ghostMany" "I") (by decide +kernel)) (fun _ h9 => h9) rfl dX11_ghostComes_155 ?_
        refine lv_iconst (v := 1) hx hb dX11_ghostComes_158 (by decide) ?_
        refine lv_iadd hx hb dX11_ghostComes_159 ?_
        refine ft_top (y := nI (g + 1)) (ft_addN g 1) ?_
        refine va_put (D := D) (ci := 11) (v := .int (nI (g + 1))) (ty := .int) (C := RX11) (T := TX11) (N := 33) hx hb hts (by decide +kernel) tyX11 tyX11_ok nmX11 hown hK hP hD hS 0 rfl rfl 18 (by decide) (hts (.fieldLink RX11 208 "FiberTraceModel" "ghostMany" "I") (by decide +kernel)) (fun _ h9 => h9) rfl (by decide +kernel) rfl rfl (Nat.le_of_ble_eq_true rfl) dX11_ghostComes_160 (fun H locs hP hD hS => ?_)
        have hP : va_P D vwCl [(m0, .inr (11, [.ref p0, .ref p1, .int i2, .ref p3, .int i4, .ref p5, .int i6, .int i7, .int i8, .int i9, .ref p10, .int i11, .ref p12, .ref p13, .ref p14, .int i15, .ref p16, .ref p17, .int (nI (g + 1)), .ref p19, .ref p20, .ref p21, .ref p22, .int i23, .int i24, .ref p25, .ref p26, .ref p27, .ref p28, .ref p29, .ref p30, .ref p31, .ref p32])), (p19, .inl (cI, 55, .inl (upd g6_p19 k x))), (p20, .inl (cI, 55, .inl (upd g6_p20 k h))), (p21, .inl (cI, 55, .inl (upd g6_p21 k a))), (p22, .inl (cI, 55, .inl (upd g6_p22 k b)))] H := hP
        have hD : va_D A [(m0, .inr (11, [.ref p0, .ref p1, .int i2, .ref p3, .int i4, .ref p5, .int i6, .int i7, .int i8, .int i9, .ref p10, .int i11, .ref p12, .ref p13, .ref p14, .int i15, .ref p16, .ref p17, .int (nI (g + 1)), .ref p19, .ref p20, .ref p21, .ref p22, .int i23, .int i24, .ref p25, .ref p26, .ref p27, .ref p28, .ref p29, .ref p30, .ref p31, .ref p32])), (p19, .inl (cI, 55, .inl (upd g6_p19 k x))), (p20, .inl (cI, 55, .inl (upd g6_p20 k h))), (p21, .inl (cI, 55, .inl (upd g6_p21 k a))), (p22, .inl (cI, 55, .inl (upd g6_p22 k b)))] := hD
        have hw9 : ([(m0, .inr (11, [.ref p0, .ref p1, .int i2, .ref p3, .int i4, .ref p5, .int i6, .int i7, .int i8, .int i9, .ref p10, .int i11, .ref p12, .ref p13, .ref p14, .int i15, .ref p16, .ref p17, .int (nI (g + 1)), .ref p19, .ref p20, .ref p21, .ref p22, .int i23, .int i24, .ref p25, .ref p26, .ref p27, .ref p28, .ref p29, .ref p30, .ref p31, .ref p32])), (p19, .inl (cI, 55, .inl (upd g6_p19 k x))), (p20, .inl (cI, 55, .inl (upd g6_p20 k h))), (p21, .inl (cI, 55, .inl (upd g6_p21 k a))), (p22, .inl (cI, 55, .inl (upd g6_p22 k b)))] : va_W) = [(m0, .inr (11, [.ref p0, .ref p1, .int i2, .ref p3, .int i4, .ref p5, .int i6, .int i7, .int i8, .int i9, .ref p10, .int i11, .ref p12, .ref p13, .ref p14, .int i15, .ref p16, .ref p17, .int (nI (ftGmIns (g, ga, gh, g1, g2) x h a b).1), .ref p19, .ref p20, .ref p21, .ref p22, .int i23, .int i24, .ref p25, .ref p26, .ref p27, .ref p28, .ref p29, .ref p30, .ref p31, .ref p32])), (p19, .inl (cI, 55, .inl ((ftGmIns (g, ga, gh, g1, g2) x h a b).2.1))), (p20, .inl (cI, 55, .inl ((ftGmIns (g, ga, gh, g1, g2) x h a b).2.2.1))), (p21, .inl (cI, 55, .inl ((ftGmIns (g, ga, gh, g1, g2) x h a b).2.2.2.1))), (p22, .inl (cI, 55, .inl ((ftGmIns (g, ga, gh, g1, g2) x h a b).2.2.2.2)))] := by rw [eg6_p19, eg6_p20, eg6_p21, eg6_p22, ftGmIns, hix]; rfl
        rw [hw9] at hP hD
        exact W.vret hx hb hr (fun t ht hW => ⟨⟨(), rfl, trivial, by rw [ht]; exact hP, by rw [hAe]; exact hD⟩, by rw [hAe]; exact hS.F ht⟩) hS.2.2 dX11_ghostComes_163
      · have c8n : 0 < k := ft_nleN (by omega) (by omega) c8
        have hk1 : 0 < k := ft_gt0 c8
        have hga : g6_p19 (k - 1) = ga (k - 1) := by rw [eg6_p19]; exact ftInsG_low (by omega)
        have hg1 : g6_p21 (k - 1) = g1 (k - 1) := by rw [eg6_p21]; exact ftInsG_low (by omega)
        refine lv_aload_n hx hb dX11_ghostComes_11 rfl (lv_at hl 0 rfl) ?_
        refine va_get (D := D) (ci := 11) (v := .ref p19) (C := RX11) (T := TX11) (N := 33) hx hb hts (by decide +kernel) hown hK hP 0 rfl rfl 19 (by decide) (hts (.fieldLink RX11 40 "FiberTraceModel" "ghostAt" "[I") (by decide +kernel)) (fun _ h9 => h9) rfl dX11_ghostComes_12 ?_
        refine lv_iload hx hb dX11_ghostComes_15 (lv_at hl 5 rfl) ?_
        refine lv_iconst (v := 1) hx hb dX11_ghostComes_17 (by decide) ?_
        refine lv_isub hx hb dX11_ghostComes_18 ?_
        refine ft_top (y := nI (k - 1)) (ft_subN (a := k) (b := 1) (by omega)) ?_
        refine va_iald hx hb hK hP 1 0 rfl rfl (vp_in_nI (by omega) (by omega)) dX11_ghostComes_19 ?_
        refine ft_top (y := g6_p19 (k - 1)) (ft_clampN (by omega)) ?_
        refine lv_iload_n hx hb dX11_ghostComes_20 rfl (lv_at hl 1 rfl) ?_
        refine lv_icmp_gt (tgt := 50) hx hb dX11_ghostComes_21 (by decide) (fun c21 => ?_) (fun c21 => ?_)
        · refine lv_aload_n hx hb dX11_ghostComes_50 rfl (lv_at hl 0 rfl) ?_
          refine va_get (D := D) (ci := 11) (v := .ref p19) (C := RX11) (T := TX11) (N := 33) hx hb hts (by decide +kernel) hown hK hP 0 rfl rfl 19 (by decide) (hts (.fieldLink RX11 40 "FiberTraceModel" "ghostAt" "[I") (by decide +kernel)) (fun _ h9 => h9) rfl dX11_ghostComes_51 ?_
          refine lv_iload hx hb dX11_ghostComes_54 (lv_at hl 5 rfl) ?_
          refine lv_aload_n hx hb dX11_ghostComes_56 rfl (lv_at hl 0 rfl) ?_
          refine va_get (D := D) (ci := 11) (v := .ref p19) (C := RX11) (T := TX11) (N := 33) hx hb hts (by decide +kernel) hown hK hP 0 rfl rfl 19 (by decide) (hts (.fieldLink RX11 40 "FiberTraceModel" "ghostAt" "[I") (by decide +kernel)) (fun _ h9 => h9) rfl dX11_ghostComes_57 ?_
          refine lv_iload hx hb dX11_ghostComes_60 (lv_at hl 5 rfl) ?_
          refine lv_iconst (v := 1) hx hb dX11_ghostComes_62 (by decide) ?_
          refine lv_isub hx hb dX11_ghostComes_63 ?_
          refine ft_top (y := nI (k - 1)) (ft_subN (a := k) (b := 1) (by omega)) ?_
          refine va_iald hx hb hK hP 1 0 rfl rfl (vp_in_nI (by omega) (by omega)) dX11_ghostComes_64 ?_
          refine ft_top (y := g6_p19 (k - 1)) (ft_clampN (by omega)) ?_
          refine va_iast hx hb hK hP hD hS 1 0 rfl rfl (vp_in_nI (by omega) (by omega)) dX11_ghostComes_65 (fun H locs hP hD hS => ?_)
          rw [nI_clamp (show k < 2 ^ 31 by omega)] at hP hD
          have hP : va_P D vwCl [(m0, .inr (11, [.ref p0, .ref p1, .int i2, .ref p3, .int i4, .ref p5, .int i6, .int i7, .int i8, .int i9, .ref p10, .int i11, .ref p12, .ref p13, .ref p14, .int i15, .ref p16, .ref p17, .int (nI g), .ref p19, .ref p20, .ref p21, .ref p22, .int i23, .int i24, .ref p25, .ref p26, .ref p27, .ref p28, .ref p29, .ref p30, .ref p31, .ref p32])), (p19, .inl (cI, 55, .inl (upd g6_p19 k (g6_p19 (k - 1))))), (p20, .inl (cI, 55, .inl g6_p20)), (p21, .inl (cI, 55, .inl g6_p21)), (p22, .inl (cI, 55, .inl g6_p22))] H := hP
          have hD : va_D A [(m0, .inr (11, [.ref p0, .ref p1, .int i2, .ref p3, .int i4, .ref p5, .int i6, .int i7, .int i8, .int i9, .ref p10, .int i11, .ref p12, .ref p13, .ref p14, .int i15, .ref p16, .ref p17, .int (nI g), .ref p19, .ref p20, .ref p21, .ref p22, .int i23, .int i24, .ref p25, .ref p26, .ref p27, .ref p28, .ref p29, .ref p30, .ref p31, .ref p32])), (p19, .inl (cI, 55, .inl (upd g6_p19 k (g6_p19 (k - 1))))), (p20, .inl (cI, 55, .inl g6_p20)), (p21, .inl (cI, 55, .inl g6_p21)), (p22, .inl (cI, 55, .inl g6_p22))] := hD
          refine lv_aload_n hx hb dX11_ghostComes_66 rfl (lv_at hl 0 rfl) ?_
          refine va_get (D := D) (ci := 11) (v := .ref p20) (C := RX11) (T := TX11) (N := 33) hx hb hts (by decide +kernel) hown hK hP 0 rfl rfl 20 (by decide) (hts (.fieldLink RX11 43 "FiberTraceModel" "ghostHigh" "[I") (by decide +kernel)) (fun _ h9 => h9) rfl dX11_ghostComes_67 ?_
          refine lv_iload hx hb dX11_ghostComes_70 (lv_at hl 5 rfl) ?_
          refine lv_aload_n hx hb dX11_ghostComes_72 rfl (lv_at hl 0 rfl) ?_
          refine va_get (D := D) (ci := 11) (v := .ref p20) (C := RX11) (T := TX11) (N := 33) hx hb hts (by decide +kernel) hown hK hP 0 rfl rfl 20 (by decide) (hts (.fieldLink RX11 43 "FiberTraceModel" "ghostHigh" "[I") (by decide +kernel)) (fun _ h9 => h9) rfl dX11_ghostComes_73 ?_
          refine lv_iload hx hb dX11_ghostComes_76 (lv_at hl 5 rfl) ?_
          refine lv_iconst (v := 1) hx hb dX11_ghostComes_78 (by decide) ?_
          refine lv_isub hx hb dX11_ghostComes_79 ?_
          refine ft_top (y := nI (k - 1)) (ft_subN (a := k) (b := 1) (by omega)) ?_
          refine va_iald hx hb hK hP 2 0 rfl rfl (vp_in_nI (by omega) (by omega)) dX11_ghostComes_80 ?_
          refine ft_top (y := g6_p20 (k - 1)) (ft_clampN (by omega)) ?_
          refine va_iast hx hb hK hP hD hS 2 0 rfl rfl (vp_in_nI (by omega) (by omega)) dX11_ghostComes_81 (fun H locs hP hD hS => ?_)
          rw [nI_clamp (show k < 2 ^ 31 by omega)] at hP hD
          have hP : va_P D vwCl [(m0, .inr (11, [.ref p0, .ref p1, .int i2, .ref p3, .int i4, .ref p5, .int i6, .int i7, .int i8, .int i9, .ref p10, .int i11, .ref p12, .ref p13, .ref p14, .int i15, .ref p16, .ref p17, .int (nI g), .ref p19, .ref p20, .ref p21, .ref p22, .int i23, .int i24, .ref p25, .ref p26, .ref p27, .ref p28, .ref p29, .ref p30, .ref p31, .ref p32])), (p19, .inl (cI, 55, .inl (upd g6_p19 k (g6_p19 (k - 1))))), (p20, .inl (cI, 55, .inl (upd g6_p20 k (g6_p20 (k - 1))))), (p21, .inl (cI, 55, .inl g6_p21)), (p22, .inl (cI, 55, .inl g6_p22))] H := hP
          have hD : va_D A [(m0, .inr (11, [.ref p0, .ref p1, .int i2, .ref p3, .int i4, .ref p5, .int i6, .int i7, .int i8, .int i9, .ref p10, .int i11, .ref p12, .ref p13, .ref p14, .int i15, .ref p16, .ref p17, .int (nI g), .ref p19, .ref p20, .ref p21, .ref p22, .int i23, .int i24, .ref p25, .ref p26, .ref p27, .ref p28, .ref p29, .ref p30, .ref p31, .ref p32])), (p19, .inl (cI, 55, .inl (upd g6_p19 k (g6_p19 (k - 1))))), (p20, .inl (cI, 55, .inl (upd g6_p20 k (g6_p20 (k - 1))))), (p21, .inl (cI, 55, .inl g6_p21)), (p22, .inl (cI, 55, .inl g6_p22))] := hD
          refine lv_aload_n hx hb dX11_ghostComes_82 rfl (lv_at hl 0 rfl) ?_
          refine va_get (D := D) (ci := 11) (v := .ref p21) (C := RX11) (T := TX11) (N := 33) hx hb hts (by decide +kernel) hown hK hP 0 rfl rfl 21 (by decide) (hts (.fieldLink RX11 46 "FiberTraceModel" "ghostOne" "[I") (by decide +kernel)) (fun _ h9 => h9) rfl dX11_ghostComes_83 ?_
          refine lv_iload hx hb dX11_ghostComes_86 (lv_at hl 5 rfl) ?_
          refine lv_aload_n hx hb dX11_ghostComes_88 rfl (lv_at hl 0 rfl) ?_
          refine va_get (D := D) (ci := 11) (v := .ref p21) (C := RX11) (T := TX11) (N := 33) hx hb hts (by decide +kernel) hown hK hP 0 rfl rfl 21 (by decide) (hts (.fieldLink RX11 46 "FiberTraceModel" "ghostOne" "[I") (by decide +kernel)) (fun _ h9 => h9) rfl dX11_ghostComes_89 ?_
          refine lv_iload hx hb dX11_ghostComes_92 (lv_at hl 5 rfl) ?_
          refine lv_iconst (v := 1) hx hb dX11_ghostComes_94 (by decide) ?_
          refine lv_isub hx hb dX11_ghostComes_95 ?_
          refine ft_top (y := nI (k - 1)) (ft_subN (a := k) (b := 1) (by omega)) ?_
          refine va_iald hx hb hK hP 3 0 rfl rfl (vp_in_nI (by omega) (by omega)) dX11_ghostComes_96 ?_
          refine ft_top (y := g6_p21 (k - 1)) (ft_clampN (by omega)) ?_
          refine va_iast hx hb hK hP hD hS 3 0 rfl rfl (vp_in_nI (by omega) (by omega)) dX11_ghostComes_97 (fun H locs hP hD hS => ?_)
          rw [nI_clamp (show k < 2 ^ 31 by omega)] at hP hD
          have hP : va_P D vwCl [(m0, .inr (11, [.ref p0, .ref p1, .int i2, .ref p3, .int i4, .ref p5, .int i6, .int i7, .int i8, .int i9, .ref p10, .int i11, .ref p12, .ref p13, .ref p14, .int i15, .ref p16, .ref p17, .int (nI g), .ref p19, .ref p20, .ref p21, .ref p22, .int i23, .int i24, .ref p25, .ref p26, .ref p27, .ref p28, .ref p29, .ref p30, .ref p31, .ref p32])), (p19, .inl (cI, 55, .inl (upd g6_p19 k (g6_p19 (k - 1))))), (p20, .inl (cI, 55, .inl (upd g6_p20 k (g6_p20 (k - 1))))), (p21, .inl (cI, 55, .inl (upd g6_p21 k (g6_p21 (k - 1))))), (p22, .inl (cI, 55, .inl g6_p22))] H := hP
          have hD : va_D A [(m0, .inr (11, [.ref p0, .ref p1, .int i2, .ref p3, .int i4, .ref p5, .int i6, .int i7, .int i8, .int i9, .ref p10, .int i11, .ref p12, .ref p13, .ref p14, .int i15, .ref p16, .ref p17, .int (nI g), .ref p19, .ref p20, .ref p21, .ref p22, .int i23, .int i24, .ref p25, .ref p26, .ref p27, .ref p28, .ref p29, .ref p30, .ref p31, .ref p32])), (p19, .inl (cI, 55, .inl (upd g6_p19 k (g6_p19 (k - 1))))), (p20, .inl (cI, 55, .inl (upd g6_p20 k (g6_p20 (k - 1))))), (p21, .inl (cI, 55, .inl (upd g6_p21 k (g6_p21 (k - 1))))), (p22, .inl (cI, 55, .inl g6_p22))] := hD
          refine lv_aload_n hx hb dX11_ghostComes_98 rfl (lv_at hl 0 rfl) ?_
          refine va_get (D := D) (ci := 11) (v := .ref p22) (C := RX11) (T := TX11) (N := 33) hx hb hts (by decide +kernel) hown hK hP 0 rfl rfl 22 (by decide) (hts (.fieldLink RX11 49 "FiberTraceModel" "ghostTwo" "[I") (by decide +kernel)) (fun _ h9 => h9) rfl dX11_ghostComes_99 ?_
          refine lv_iload hx hb dX11_ghostComes_102 (lv_at hl 5 rfl) ?_
          refine lv_aload_n hx hb dX11_ghostComes_104 rfl (lv_at hl 0 rfl) ?_
          refine va_get (D := D) (ci := 11) (v := .ref p22) (C := RX11) (T := TX11) (N := 33) hx hb hts (by decide +kernel) hown hK hP 0 rfl rfl 22 (by decide) (hts (.fieldLink RX11 49 "FiberTraceModel" "ghostTwo" "[I") (by decide +kernel)) (fun _ h9 => h9) rfl dX11_ghostComes_105 ?_
          refine lv_iload hx hb dX11_ghostComes_108 (lv_at hl 5 rfl) ?_
          refine lv_iconst (v := 1) hx hb dX11_ghostComes_110 (by decide) ?_
          refine lv_isub hx hb dX11_ghostComes_111 ?_
          refine ft_top (y := nI (k - 1)) (ft_subN (a := k) (b := 1) (by omega)) ?_
          refine va_iald hx hb hK hP 4 0 rfl rfl (vp_in_nI (by omega) (by omega)) dX11_ghostComes_112 ?_
          refine ft_top (y := g6_p22 (k - 1)) (ft_clampN (by omega)) ?_
          refine va_iast hx hb hK hP hD hS 4 0 rfl rfl (vp_in_nI (by omega) (by omega)) dX11_ghostComes_113 (fun H locs hP hD hS => ?_)
          rw [nI_clamp (show k < 2 ^ 31 by omega)] at hP hD
          have hP : va_P D vwCl [(m0, .inr (11, [.ref p0, .ref p1, .int i2, .ref p3, .int i4, .ref p5, .int i6, .int i7, .int i8, .int i9, .ref p10, .int i11, .ref p12, .ref p13, .ref p14, .int i15, .ref p16, .ref p17, .int (nI g), .ref p19, .ref p20, .ref p21, .ref p22, .int i23, .int i24, .ref p25, .ref p26, .ref p27, .ref p28, .ref p29, .ref p30, .ref p31, .ref p32])), (p19, .inl (cI, 55, .inl (upd g6_p19 k (g6_p19 (k - 1))))), (p20, .inl (cI, 55, .inl (upd g6_p20 k (g6_p20 (k - 1))))), (p21, .inl (cI, 55, .inl (upd g6_p21 k (g6_p21 (k - 1))))), (p22, .inl (cI, 55, .inl (upd g6_p22 k (g6_p22 (k - 1)))))] H := hP
          have hD : va_D A [(m0, .inr (11, [.ref p0, .ref p1, .int i2, .ref p3, .int i4, .ref p5, .int i6, .int i7, .int i8, .int i9, .ref p10, .int i11, .ref p12, .ref p13, .ref p14, .int i15, .ref p16, .ref p17, .int (nI g), .ref p19, .ref p20, .ref p21, .ref p22, .int i23, .int i24, .ref p25, .ref p26, .ref p27, .ref p28, .ref p29, .ref p30, .ref p31, .ref p32])), (p19, .inl (cI, 55, .inl (upd g6_p19 k (g6_p19 (k - 1))))), (p20, .inl (cI, 55, .inl (upd g6_p20 k (g6_p20 (k - 1))))), (p21, .inl (cI, 55, .inl (upd g6_p21 k (g6_p21 (k - 1))))), (p22, .inl (cI, 55, .inl (upd g6_p22 k (g6_p22 (k - 1)))))] := hD
          refine lv_iinc (v := nI (k - 1)) (lv' := [(5, .int (nI (k - 1))), (0, .ref m0), (1, .int x), (2, .int h), (3, .int a), (4, .int b)]) hx hb dX11_ghostComes_114 hl (k := 5) rfl (ft_dec (by omega)) (by decide) rfl (fun ls hl => ?_)
          refine lv_goto (tgt := 6) hx hb dX11_ghostComes_117 (by decide) ?_
          exact ih6 (k - 1) (nI (k - 1)) (upd g6_p19 k (g6_p19 (k - 1))) (upd g6_p20 k (g6_p20 (k - 1))) (upd g6_p21 k (g6_p21 (k - 1))) (upd g6_p22 k (g6_p22 (k - 1))) (by omega) (by omega) (by rw [hd]; first | exact ftDownM_gt hk1 (Or.inl (by rw [← hga]; exact c21)) | exact ftDownM_gt hk1 (Or.inr ⟨by rw [← hga]; exact c34, by rw [← hg1]; exact Int32.not_le.mp c47⟩)) (by first | rfl | assumption) (by rw [eg6_p19]; exact ftInsG_s hk1 hkg) (by rw [eg6_p20]; exact ftInsG_s hk1 hkg) (by rw [eg6_p21]; exact ftInsG_s hk1 hkg) (by rw [eg6_p22]; exact ftInsG_s hk1 hkg) _ _ hP hD hS ls (lv_sub hl [1, 2, 3, 4, 5, 0] rfl)
        · refine lv_aload_n hx hb dX11_ghostComes_24 rfl (lv_at hl 0 rfl) ?_
          refine va_get (D := D) (ci := 11) (v := .ref p19) (C := RX11) (T := TX11) (N := 33) hx hb hts (by decide +kernel) hown hK hP 0 rfl rfl 19 (by decide) (hts (.fieldLink RX11 40 "FiberTraceModel" "ghostAt" "[I") (by decide +kernel)) (fun _ h9 => h9) rfl dX11_ghostComes_25 ?_
          refine lv_iload hx hb dX11_ghostComes_28 (lv_at hl 5 rfl) ?_
          refine lv_iconst (v := 1) hx hb dX11_ghostComes_30 (by decide) ?_
          refine lv_isub hx hb dX11_ghostComes_31 ?_
          refine ft_top (y := nI (k - 1)) (ft_subN (a := k) (b := 1) (by omega)) ?_
          refine va_iald hx hb hK hP 1 0 rfl rfl (vp_in_nI (by omega) (by omega)) dX11_ghostComes_32 ?_
          refine ft_top (y := g6_p19 (k - 1)) (ft_clampN (by omega)) ?_
          refine lv_iload_n hx hb dX11_ghostComes_33 rfl (lv_at hl 1 rfl) ?_
          refine lv_icmp_ne (tgt := 120) hx hb dX11_ghostComes_34 (by decide) (fun c34 => ?_) (fun c34 => ?_)
          · have hix : ftDownM ga g1 x a g = k := by
              rw [hd]
              refine ftDownM_ge hk1 (fun q => q.elim (fun r => c21 (by rw [hga]; exact r)) (fun r => c34 (by rw [hga]; exact r.1)))
            refine lv_aload_n hx hb dX11_ghostComes_120 rfl (lv_at hl 0 rfl) ?_
            refine va_get (D := D) (ci := 11) (v := .ref p19) (C := RX11) (T := TX11) (N := 33) hx hb hts (by decide +kernel) hown hK hP 0 rfl rfl 19 (by decide) (hts (.fieldLink RX11 40 "FiberTraceModel" "ghostAt" "[I") (by decide +kernel)) (fun _ h9 => h9) rfl dX11_ghostComes_121 ?_
            refine lv_iload hx hb dX11_ghostComes_124 (lv_at hl 5 rfl) ?_
            refine lv_iload_n hx hb dX11_ghostComes_126 rfl (lv_at hl 1 rfl) ?_
            refine va_iast hx hb hK hP hD hS 1 0 rfl rfl (vp_in_nI (by omega) (by omega)) dX11_ghostComes_127 (fun H locs hP hD hS => ?_)
            rw [nI_clamp (show k < 2 ^ 31 by omega)] at hP hD
            have hP : va_P D vwCl [(m0, .inr (11, [.ref p0, .ref p1, .int i2, .ref p3, .int i4, .ref p5, .int i6, .int i7, .int i8, .int i9, .ref p10, .int i11, .ref p12, .ref p13, .ref p14, .int i15, .ref p16, .ref p17, .int (nI g), .ref p19, .ref p20, .ref p21, .ref p22, .int i23, .int i24, .ref p25, .ref p26, .ref p27, .ref p28, .ref p29, .ref p30, .ref p31, .ref p32])), (p19, .inl (cI, 55, .inl (upd g6_p19 k x))), (p20, .inl (cI, 55, .inl g6_p20)), (p21, .inl (cI, 55, .inl g6_p21)), (p22, .inl (cI, 55, .inl g6_p22))] H := hP
            have hD : va_D A [(m0, .inr (11, [.ref p0, .ref p1, .int i2, .ref p3, .int i4, .ref p5, .int i6, .int i7, .int i8, .int i9, .ref p10, .int i11, .ref p12, .ref p13, .ref p14, .int i15, .ref p16, .ref p17, .int (nI g), .ref p19, .ref p20, .ref p21, .ref p22, .int i23, .int i24, .ref p25, .ref p26, .ref p27, .ref p28, .ref p29, .ref p30, .ref p31, .ref p32])), (p19, .inl (cI, 55, .inl (upd g6_p19 k x))), (p20, .inl (cI, 55, .inl g6_p20)), (p21, .inl (cI, 55, .inl g6_p21)), (p22, .inl (cI, 55, .inl g6_p22))] := hD
            refine lv_aload_n hx hb dX11_ghostComes_128 rfl (lv_at hl 0 rfl) ?_
            refine va_get (D := D) (ci := 11) (v := .ref p20) (C := RX11) (T := TX11) (N := 33) hx hb hts (by decide +kernel) hown hK hP 0 rfl rfl 20 (by decide) (hts (.fieldLink RX11 43 "FiberTraceModel" "ghostHigh" "[I") (by decide +kernel)) (fun _ h9 => h9) rfl dX11_ghostComes_129 ?_
            refine lv_iload hx hb dX11_ghostComes_132 (lv_at hl 5 rfl) ?_
            refine lv_iload_n hx hb dX11_ghostComes_134 rfl (lv_at hl 2 rfl) ?_
            refine va_iast hx hb hK hP hD hS 2 0 rfl rfl (vp_in_nI (by omega) (by omega)) dX11_ghostComes_135 (fun H locs hP hD hS => ?_)
            rw [nI_clamp (show k < 2 ^ 31 by omega)] at hP hD
            have hP : va_P D vwCl [(m0, .inr (11, [.ref p0, .ref p1, .int i2, .ref p3, .int i4, .ref p5, .int i6, .int i7, .int i8, .int i9, .ref p10, .int i11, .ref p12, .ref p13, .ref p14, .int i15, .ref p16, .ref p17, .int (nI g), .ref p19, .ref p20, .ref p21, .ref p22, .int i23, .int i24, .ref p25, .ref p26, .ref p27, .ref p28, .ref p29, .ref p30, .ref p31, .ref p32])), (p19, .inl (cI, 55, .inl (upd g6_p19 k x))), (p20, .inl (cI, 55, .inl (upd g6_p20 k h))), (p21, .inl (cI, 55, .inl g6_p21)), (p22, .inl (cI, 55, .inl g6_p22))] H := hP
            have hD : va_D A [(m0, .inr (11, [.ref p0, .ref p1, .int i2, .ref p3, .int i4, .ref p5, .int i6, .int i7, .int i8, .int i9, .ref p10, .int i11, .ref p12, .ref p13, .ref p14, .int i15, .ref p16, .ref p17, .int (nI g), .ref p19, .ref p20, .ref p21, .ref p22, .int i23, .int i24, .ref p25, .ref p26, .ref p27, .ref p28, .ref p29, .ref p30, .ref p31, .ref p32])), (p19, .inl (cI, 55, .inl (upd g6_p19 k x))), (p20, .inl (cI, 55, .inl (upd g6_p20 k h))), (p21, .inl (cI, 55, .inl g6_p21)), (p22, .inl (cI, 55, .inl g6_p22))] := hD
            refine lv_aload_n hx hb dX11_ghostComes_136 rfl (lv_at hl 0 rfl) ?_
            refine va_get (D := D) (ci := 11) (v := .ref p21) (C := RX11) (T := TX11) (N := 33) hx hb hts (by decide +kernel) hown hK hP 0 rfl rfl 21 (by decide) (hts (.fieldLink RX11 46 "FiberTraceModel" "ghostOne" "[I") (by decide +kernel)) (fun _ h9 => h9) rfl dX11_ghostComes_137 ?_
            refine lv_iload hx hb dX11_ghostComes_140 (lv_at hl 5 rfl) ?_
            refine lv_iload_n hx hb dX11_ghostComes_142 rfl (lv_at hl 3 rfl) ?_
            refine va_iast hx hb hK hP hD hS 3 0 rfl rfl (vp_in_nI (by omega) (by omega)) dX11_ghostComes_143 (fun H locs hP hD hS => ?_)
            rw [nI_clamp (show k < 2 ^ 31 by omega)] at hP hD
            have hP : va_P D vwCl [(m0, .inr (11, [.ref p0, .ref p1, .int i2, .ref p3, .int i4, .ref p5, .int i6, .int i7, .int i8, .int i9, .ref p10, .int i11, .ref p12, .ref p13, .ref p14, .int i15, .ref p16, .ref p17, .int (nI g), .ref p19, .ref p20, .ref p21, .ref p22, .int i23, .int i24, .ref p25, .ref p26, .ref p27, .ref p28, .ref p29, .ref p30, .ref p31, .ref p32])), (p19, .inl (cI, 55, .inl (upd g6_p19 k x))), (p20, .inl (cI, 55, .inl (upd g6_p20 k h))), (p21, .inl (cI, 55, .inl (upd g6_p21 k a))), (p22, .inl (cI, 55, .inl g6_p22))] H := hP
            have hD : va_D A [(m0, .inr (11, [.ref p0, .ref p1, .int i2, .ref p3, .int i4, .ref p5, .int i6, .int i7, .int i8, .int i9, .ref p10, .int i11, .ref p12, .ref p13, .ref p14, .int i15, .ref p16, .ref p17, .int (nI g), .ref p19, .ref p20, .ref p21, .ref p22, .int i23, .int i24, .ref p25, .ref p26, .ref p27, .ref p28, .ref p29, .ref p30, .ref p31, .ref p32])), (p19, .inl (cI, 55, .inl (upd g6_p19 k x))), (p20, .inl (cI, 55, .inl (upd g6_p20 k h))), (p21, .inl (cI, 55, .inl (upd g6_p21 k a))), (p22, .inl (cI, 55, .inl g6_p22))] := hD
            refine lv_aload_n hx hb dX11_ghostComes_144 rfl (lv_at hl 0 rfl) ?_
            refine va_get (D := D) (ci := 11) (v := .ref p22) (C := RX11) (T := TX11) (N := 33) hx hb hts (by decide +kernel) hown hK hP 0 rfl rfl 22 (by decide) (hts (.fieldLink RX11 49 "FiberTraceModel" "ghostTwo" "[I") (by decide +kernel)) (fun _ h9 => h9) rfl dX11_ghostComes_145 ?_
            refine lv_iload hx hb dX11_ghostComes_148 (lv_at hl 5 rfl) ?_
            refine lv_iload hx hb dX11_ghostComes_150 (lv_at hl 4 rfl) ?_
            refine va_iast hx hb hK hP hD hS 4 0 rfl rfl (vp_in_nI (by omega) (by omega)) dX11_ghostComes_152 (fun H locs hP hD hS => ?_)
            rw [nI_clamp (show k < 2 ^ 31 by omega)] at hP hD
            have hP : va_P D vwCl [(m0, .inr (11, [.ref p0, .ref p1, .int i2, .ref p3, .int i4, .ref p5, .int i6, .int i7, .int i8, .int i9, .ref p10, .int i11, .ref p12, .ref p13, .ref p14, .int i15, .ref p16, .ref p17, .int (nI g), .ref p19, .ref p20, .ref p21, .ref p22, .int i23, .int i24, .ref p25, .ref p26, .ref p27, .ref p28, .ref p29, .ref p30, .ref p31, .ref p32])), (p19, .inl (cI, 55, .inl (upd g6_p19 k x))), (p20, .inl (cI, 55, .inl (upd g6_p20 k h))), (p21, .inl (cI, 55, .inl (upd g6_p21 k a))), (p22, .inl (cI, 55, .inl (upd g6_p22 k b)))] H := hP
            have hD : va_D A [(m0, .inr (11, [.ref p0, .ref p1, .int i2, .ref p3, .int i4, .ref p5, .int i6, .int i7, .int i8, .int i9, .ref p10, .int i11, .ref p12, .ref p13, .ref p14, .int i15, .ref p16, .ref p17, .int (nI g), .ref p19, .ref p20, .ref p21, .ref p22, .int i23, .int i24, .ref p25, .ref p26, .ref p27, .ref p28, .ref p29, .ref p30, .ref p31, .ref p32])), (p19, .inl (cI, 55, .inl (upd g6_p19 k x))), (p20, .inl (cI, 55, .inl (upd g6_p20 k h))), (p21, .inl (cI, 55, .inl (upd g6_p21 k a))), (p22, .inl (cI, 55, .inl (upd g6_p22 k b)))] := hD
            refine lv_aload_n hx hb dX11_ghostComes_153 rfl (lv_at hl 0 rfl) ?_
            refine lv_dup hx hb dX11_ghostComes_154 rfl ?_
            refine va_get (D := D) (ci := 11) (v := .int (nI g)) (C := RX11) (T := TX11) (N := 33) hx hb hts (by decide +kernel) hown hK hP 0 rfl rfl 18 (by decide) (hts (.fieldLink RX11 208 "FiberTraceModel" "ghostMany" "I") (by decide +kernel)) (fun _ h9 => h9) rfl dX11_ghostComes_155 ?_
            refine lv_iconst (v := 1) hx hb dX11_ghostComes_158 (by decide) ?_
            refine lv_iadd hx hb dX11_ghostComes_159 ?_
            refine ft_top (y := nI (g + 1)) (ft_addN g 1) ?_
            refine va_put (D := D) (ci := 11) (v := .int (nI (g + 1))) (ty := .int) (C := RX11) (T := TX11) (N := 33) hx hb hts (by decide +kernel) tyX11 tyX11_ok nmX11 hown hK hP hD hS 0 rfl rfl 18 (by decide) (hts (.fieldLink RX11 208 "FiberTraceModel" "ghostMany" "I") (by decide +kernel)) (fun _ h9 => h9) rfl (by decide +kernel) rfl rfl (Nat.le_of_ble_eq_true rfl) dX11_ghostComes_160 (fun H locs hP hD hS => ?_)
            have hP : va_P D vwCl [(m0, .inr (11, [.ref p0, .ref p1, .int i2, .ref p3, .int i4, .ref p5, .int i6, .int i7, .int i8, .int i9, .ref p10, .int i11, .ref p12, .ref p13, .ref p14, .int i15, .ref p16, .ref p17, .int (nI (g + 1)), .ref p19, .ref p20, .ref p21, .ref p22, .int i23, .int i24, .ref p25, .ref p26, .ref p27, .ref p28, .ref p29, .ref p30, .ref p31, .ref p32])), (p19, .inl (cI, 55, .inl (upd g6_p19 k x))), (p20, .inl (cI, 55, .inl (upd g6_p20 k h))), (p21, .inl (cI, 55, .inl (upd g6_p21 k a))), (p22, .inl (cI, 55, .inl (upd g6_p22 k b)))] H := hP
            have hD : va_D A [(m0, .inr (11, [.ref p0, .ref p1, .int i2, .ref p3, .int i4, .ref p5, .int i6, .int i7, .int i8, .int i9, .ref p10, .int i11, .ref p12, .ref p13, .ref p14, .int i15, .ref p16, .ref p17, .int (nI (g + 1)), .ref p19, .ref p20, .ref p21, .ref p22, .int i23, .int i24, .ref p25, .ref p26, .ref p27, .ref p28, .ref p29, .ref p30, .ref p31, .ref p32])), (p19, .inl (cI, 55, .inl (upd g6_p19 k x))), (p20, .inl (cI, 55, .inl (upd g6_p20 k h))), (p21, .inl (cI, 55, .inl (upd g6_p21 k a))), (p22, .inl (cI, 55, .inl (upd g6_p22 k b)))] := hD
            have hw9 : ([(m0, .inr (11, [.ref p0, .ref p1, .int i2, .ref p3, .int i4, .ref p5, .int i6, .int i7, .int i8, .int i9, .ref p10, .int i11, .ref p12, .ref p13, .ref p14, .int i15, .ref p16, .ref p17, .int (nI (g + 1)), .ref p19, .ref p20, .ref p21, .ref p22, .int i23, .int i24, .ref p25, .ref p26, .ref p27, .ref p28, .ref p29, .ref p30, .ref p31, .ref p32])), (p19, .inl (cI, 55, .inl (upd g6_p19 k x))), (p20, .inl (cI, 55, .inl (upd g6_p20 k h))), (p21, .inl (cI, 55, .inl (upd g6_p21 k a))), (p22, .inl (cI, 55, .inl (upd g6_p22 k b)))] : va_W) = [(m0, .inr (11, [.ref p0, .ref p1, .int i2, .ref p3, .int i4, .ref p5, .int i6, .int i7, .int i8, .int i9, .ref p10, .int i11, .ref p12, .ref p13, .ref p14, .int i15, .ref p16, .ref p17, .int (nI (ftGmIns (g, ga, gh, g1, g2) x h a b).1), .ref p19, .ref p20, .ref p21, .ref p22, .int i23, .int i24, .ref p25, .ref p26, .ref p27, .ref p28, .ref p29, .ref p30, .ref p31, .ref p32])), (p19, .inl (cI, 55, .inl ((ftGmIns (g, ga, gh, g1, g2) x h a b).2.1))), (p20, .inl (cI, 55, .inl ((ftGmIns (g, ga, gh, g1, g2) x h a b).2.2.1))), (p21, .inl (cI, 55, .inl ((ftGmIns (g, ga, gh, g1, g2) x h a b).2.2.2.1))), (p22, .inl (cI, 55, .inl ((ftGmIns (g, ga, gh, g1, g2) x h a b).2.2.2.2)))] := by rw [eg6_p19, eg6_p20, eg6_p21, eg6_p22, ftGmIns, hix]; rfl
            rw [hw9] at hP hD
            exact W.vret hx hb hr (fun t ht hW => ⟨⟨(), rfl, trivial, by rw [ht]; exact hP, by rw [hAe]; exact hD⟩, by rw [hAe]; exact hS.F ht⟩) hS.2.2 dX11_ghostComes_163
          · refine lv_aload_n hx hb dX11_ghostComes_37 rfl (lv_at hl 0 rfl) ?_
            refine va_get (D := D) (ci := 11) (v := .ref p21) (C := RX11) (T := TX11) (N := 33) hx hb hts (by decide +kernel) hown hK hP 0 rfl rfl 21 (by decide) (hts (.fieldLink RX11 46 "FiberTraceModel" "ghostOne" "[I") (by decide +kernel)) (fun _ h9 => h9) rfl dX11_ghostComes_38 ?_
            refine lv_iload hx hb dX11_ghostComes_41 (lv_at hl 5 rfl) ?_
            refine lv_iconst (v := 1) hx hb dX11_ghostComes_43 (by decide) ?_
            refine lv_isub hx hb dX11_ghostComes_44 ?_
            refine ft_top (y := nI (k - 1)) (ft_subN (a := k) (b := 1) (by omega)) ?_
            refine va_iald hx hb hK hP 3 0 rfl rfl (vp_in_nI (by omega) (by omega)) dX11_ghostComes_45 ?_
            refine ft_top (y := g6_p21 (k - 1)) (ft_clampN (by omega)) ?_
            refine lv_iload_n hx hb dX11_ghostComes_46 rfl (lv_at hl 3 rfl) ?_
            refine lv_icmp_le (tgt := 120) hx hb dX11_ghostComes_47 (by decide) (fun c47 => ?_) (fun c47 => ?_)
            · have hix : ftDownM ga g1 x a g = k := by
                rw [hd]
                refine ftDownM_ge hk1 (fun q => q.elim (fun r => c21 (by rw [hga]; exact r)) (fun r => absurd r.2 (by rw [← hg1]; exact Int32.not_lt.mpr c47)))
              refine lv_aload_n hx hb dX11_ghostComes_120 rfl (lv_at hl 0 rfl) ?_
              refine va_get (D := D) (ci := 11) (v := .ref p19) (C := RX11) (T := TX11) (N := 33) hx hb hts (by decide +kernel) hown hK hP 0 rfl rfl 19 (by decide) (hts (.fieldLink RX11 40 "FiberTraceModel" "ghostAt" "[I") (by decide +kernel)) (fun _ h9 => h9) rfl dX11_ghostComes_121 ?_
              refine lv_iload hx hb dX11_ghostComes_124 (lv_at hl 5 rfl) ?_
              refine lv_iload_n hx hb dX11_ghostComes_126 rfl (lv_at hl 1 rfl) ?_
              refine va_iast hx hb hK hP hD hS 1 0 rfl rfl (vp_in_nI (by omega) (by omega)) dX11_ghostComes_127 (fun H locs hP hD hS => ?_)
              rw [nI_clamp (show k < 2 ^ 31 by omega)] at hP hD
              have hP : va_P D vwCl [(m0, .inr (11, [.ref p0, .ref p1, .int i2, .ref p3, .int i4, .ref p5, .int i6, .int i7, .int i8, .int i9, .ref p10, .int i11, .ref p12, .ref p13, .ref p14, .int i15, .ref p16, .ref p17, .int (nI g), .ref p19, .ref p20, .ref p21, .ref p22, .int i23, .int i24, .ref p25, .ref p26, .ref p27, .ref p28, .ref p29, .ref p30, .ref p31, .ref p32])), (p19, .inl (cI, 55, .inl (upd g6_p19 k x))), (p20, .inl (cI, 55, .inl g6_p20)), (p21, .inl (cI, 55, .inl g6_p21)), (p22, .inl (cI, 55, .inl g6_p22))] H := hP
              have hD : va_D A [(m0, .inr (11, [.ref p0, .ref p1, .int i2, .ref p3, .int i4, .ref p5, .int i6, .int i7, .int i8, .int i9, .ref p10, .int i11, .ref p12, .ref p13, .ref p14, .int i15, .ref p16, .ref p17, .int (nI g), .ref p19, .ref p20, .ref p21, .ref p22, .int i23, .int i24, .ref p25, .ref p26, .ref p27, .ref p28, .ref p29, .ref p30, .ref p31, .ref p32])), (p19, .inl (cI, 55, .inl (upd g6_p19 k x))), (p20, .inl (cI, 55, .inl g6_p20)), (p21, .inl (cI, 55, .inl g6_p21)), (p22, .inl (cI, 55, .inl g6_p22))] := hD
              refine lv_aload_n hx hb dX11_ghostComes_128 rfl (lv_at hl 0 rfl) ?_
              refine va_get (D := D) (ci := 11) (v := .ref p20) (C := RX11) (T := TX11) (N := 33) hx hb hts (by decide +kernel) hown hK hP 0 rfl rfl 20 (by decide) (hts (.fieldLink RX11 43 "FiberTraceModel" "ghostHigh" "[I") (by decide +kernel)) (fun _ h9 => h9) rfl dX11_ghostComes_129 ?_
              refine lv_iload hx hb dX11_ghostComes_132 (lv_at hl 5 rfl) ?_
              refine lv_iload_n hx hb dX11_ghostComes_134 rfl (lv_at hl 2 rfl) ?_
              refine va_iast hx hb hK hP hD hS 2 0 rfl rfl (vp_in_nI (by omega) (by omega)) dX11_ghostComes_135 (fun H locs hP hD hS => ?_)
              rw [nI_clamp (show k < 2 ^ 31 by omega)] at hP hD
              have hP : va_P D vwCl [(m0, .inr (11, [.ref p0, .ref p1, .int i2, .ref p3, .int i4, .ref p5, .int i6, .int i7, .int i8, .int i9, .ref p10, .int i11, .ref p12, .ref p13, .ref p14, .int i15, .ref p16, .ref p17, .int (nI g), .ref p19, .ref p20, .ref p21, .ref p22, .int i23, .int i24, .ref p25, .ref p26, .ref p27, .ref p28, .ref p29, .ref p30, .ref p31, .ref p32])), (p19, .inl (cI, 55, .inl (upd g6_p19 k x))), (p20, .inl (cI, 55, .inl (upd g6_p20 k h))), (p21, .inl (cI, 55, .inl g6_p21)), (p22, .inl (cI, 55, .inl g6_p22))] H := hP
              have hD : va_D A [(m0, .inr (11, [.ref p0, .ref p1, .int i2, .ref p3, .int i4, .ref p5, .int i6, .int i7, .int i8, .int i9, .ref p10, .int i11, .ref p12, .ref p13, .ref p14, .int i15, .ref p16, .ref p17, .int (nI g), .ref p19, .ref p20, .ref p21, .ref p22, .int i23, .int i24, .ref p25, .ref p26, .ref p27, .ref p28, .ref p29, .ref p30, .ref p31, .ref p32])), (p19, .inl (cI, 55, .inl (upd g6_p19 k x))), (p20, .inl (cI, 55, .inl (upd g6_p20 k h))), (p21, .inl (cI, 55, .inl g6_p21)), (p22, .inl (cI, 55, .inl g6_p22))] := hD
              refine lv_aload_n hx hb dX11_ghostComes_136 rfl (lv_at hl 0 rfl) ?_
              refine va_get (D := D) (ci := 11) (v := .ref p21) (C := RX11) (T := TX11) (N := 33) hx hb hts (by decide +kernel) hown hK hP 0 rfl rfl 21 (by decide) (hts (.fieldLink RX11 46 "FiberTraceModel" "ghostOne" "[I") (by decide +kernel)) (fun _ h9 => h9) rfl dX11_ghostComes_137 ?_
              refine lv_iload hx hb dX11_ghostComes_140 (lv_at hl 5 rfl) ?_
              refine lv_iload_n hx hb dX11_ghostComes_142 rfl (lv_at hl 3 rfl) ?_
              refine va_iast hx hb hK hP hD hS 3 0 rfl rfl (vp_in_nI (by omega) (by omega)) dX11_ghostComes_143 (fun H locs hP hD hS => ?_)
              rw [nI_clamp (show k < 2 ^ 31 by omega)] at hP hD
              have hP : va_P D vwCl [(m0, .inr (11, [.ref p0, .ref p1, .int i2, .ref p3, .int i4, .ref p5, .int i6, .int i7, .int i8, .int i9, .ref p10, .int i11, .ref p12, .ref p13, .ref p14, .int i15, .ref p16, .ref p17, .int (nI g), .ref p19, .ref p20, .ref p21, .ref p22, .int i23, .int i24, .ref p25, .ref p26, .ref p27, .ref p28, .ref p29, .ref p30, .ref p31, .ref p32])), (p19, .inl (cI, 55, .inl (upd g6_p19 k x))), (p20, .inl (cI, 55, .inl (upd g6_p20 k h))), (p21, .inl (cI, 55, .inl (upd g6_p21 k a))), (p22, .inl (cI, 55, .inl g6_p22))] H := hP
              have hD : va_D A [(m0, .inr (11, [.ref p0, .ref p1, .int i2, .ref p3, .int i4, .ref p5, .int i6, .int i7, .int i8, .int i9, .ref p10, .int i11, .ref p12, .ref p13, .ref p14, .int i15, .ref p16, .ref p17, .int (nI g), .ref p19, .ref p20, .ref p21, .ref p22, .int i23, .int i24, .ref p25, .ref p26, .ref p27, .ref p28, .ref p29, .ref p30, .ref p31, .ref p32])), (p19, .inl (cI, 55, .inl (upd g6_p19 k x))), (p20, .inl (cI, 55, .inl (upd g6_p20 k h))), (p21, .inl (cI, 55, .inl (upd g6_p21 k a))), (p22, .inl (cI, 55, .inl g6_p22))] := hD
              refine lv_aload_n hx hb dX11_ghostComes_144 rfl (lv_at hl 0 rfl) ?_
              refine va_get (D := D) (ci := 11) (v := .ref p22) (C := RX11) (T := TX11) (N := 33) hx hb hts (by decide +kernel) hown hK hP 0 rfl rfl 22 (by decide) (hts (.fieldLink RX11 49 "FiberTraceModel" "ghostTwo" "[I") (by decide +kernel)) (fun _ h9 => h9) rfl dX11_ghostComes_145 ?_
              refine lv_iload hx hb dX11_ghostComes_148 (lv_at hl 5 rfl) ?_
              refine lv_iload hx hb dX11_ghostComes_150 (lv_at hl 4 rfl) ?_
              refine va_iast hx hb hK hP hD hS 4 0 rfl rfl (vp_in_nI (by omega) (by omega)) dX11_ghostComes_152 (fun H locs hP hD hS => ?_)
              rw [nI_clamp (show k < 2 ^ 31 by omega)] at hP hD
              have hP : va_P D vwCl [(m0, .inr (11, [.ref p0, .ref p1, .int i2, .ref p3, .int i4, .ref p5, .int i6, .int i7, .int i8, .int i9, .ref p10, .int i11, .ref p12, .ref p13, .ref p14, .int i15, .ref p16, .ref p17, .int (nI g), .ref p19, .ref p20, .ref p21, .ref p22, .int i23, .int i24, .ref p25, .ref p26, .ref p27, .ref p28, .ref p29, .ref p30, .ref p31, .ref p32])), (p19, .inl (cI, 55, .inl (upd g6_p19 k x))), (p20, .inl (cI, 55, .inl (upd g6_p20 k h))), (p21, .inl (cI, 55, .inl (upd g6_p21 k a))), (p22, .inl (cI, 55, .inl (upd g6_p22 k b)))] H := hP
              have hD : va_D A [(m0, .inr (11, [.ref p0, .ref p1, .int i2, .ref p3, .int i4, .ref p5, .int i6, .int i7, .int i8, .int i9, .ref p10, .int i11, .ref p12, .ref p13, .ref p14, .int i15, .ref p16, .ref p17, .int (nI g), .ref p19, .ref p20, .ref p21, .ref p22, .int i23, .int i24, .ref p25, .ref p26, .ref p27, .ref p28, .ref p29, .ref p30, .ref p31, .ref p32])), (p19, .inl (cI, 55, .inl (upd g6_p19 k x))), (p20, .inl (cI, 55, .inl (upd g6_p20 k h))), (p21, .inl (cI, 55, .inl (upd g6_p21 k a))), (p22, .inl (cI, 55, .inl (upd g6_p22 k b)))] := hD
              refine lv_aload_n hx hb dX11_ghostComes_153 rfl (lv_at hl 0 rfl) ?_
              refine lv_dup hx hb dX11_ghostComes_154 rfl ?_
              refine va_get (D := D) (ci := 11) (v := .int (nI g)) (C := RX11) (T := TX11) (N := 33) hx hb hts (by decide +kernel) hown hK hP 0 rfl rfl 18 (by decide) (hts (.fieldLink RX11 208 "FiberTraceModel" "ghostMany" "I") (by decide +kernel)) (fun _ h9 => h9) rfl dX11_ghostComes_155 ?_
              refine lv_iconst (v := 1) hx hb dX11_ghostComes_158 (by decide) ?_
              refine lv_iadd hx hb dX11_ghostComes_159 ?_
              refine ft_top (y := nI (g + 1)) (ft_addN g 1) ?_
              refine va_put (D := D) (ci := 11) (v := .int (nI (g + 1))) (ty := .int) (C := RX11) (T := TX11) (N := 33) hx hb hts (by decide +kernel) tyX11 tyX11_ok nmX11 hown hK hP hD hS 0 rfl rfl 18 (by decide) (hts (.fieldLink RX11 208 "FiberTraceModel" "ghostMany" "I") (by decide +kernel)) (fun _ h9 => h9) rfl (by decide +kernel) rfl rfl (Nat.le_of_ble_eq_true rfl) dX11_ghostComes_160 (fun H locs hP hD hS => ?_)
              have hP : va_P D vwCl [(m0, .inr (11, [.ref p0, .ref p1, .int i2, .ref p3, .int i4, .ref p5, .int i6, .int i7, .int i8, .int i9, .ref p10, .int i11, .ref p12, .ref p13, .ref p14, .int i15, .ref p16, .ref p17, .int (nI (g + 1)), .ref p19, .ref p20, .ref p21, .ref p22, .int i23, .int i24, .ref p25, .ref p26, .ref p27, .ref p28, .ref p29, .ref p30, .ref p31, .ref p32])), (p19, .inl (cI, 55, .inl (upd g6_p19 k x))), (p20, .inl (cI, 55, .inl (upd g6_p20 k h))), (p21, .inl (cI, 55, .inl (upd g6_p21 k a))), (p22, .inl (cI, 55, .inl (upd g6_p22 k b)))] H := hP
              have hD : va_D A [(m0, .inr (11, [.ref p0, .ref p1, .int i2, .ref p3, .int i4, .ref p5, .int i6, .int i7, .int i8, .int i9, .ref p10, .int i11, .ref p12, .ref p13, .ref p14, .int i15, .ref p16, .ref p17, .int (nI (g + 1)), .ref p19, .ref p20, .ref p21, .ref p22, .int i23, .int i24, .ref p25, .ref p26, .ref p27, .ref p28, .ref p29, .ref p30, .ref p31, .ref p32])), (p19, .inl (cI, 55, .inl (upd g6_p19 k x))), (p20, .inl (cI, 55, .inl (upd g6_p20 k h))), (p21, .inl (cI, 55, .inl (upd g6_p21 k a))), (p22, .inl (cI, 55, .inl (upd g6_p22 k b)))] := hD
              have hw9 : ([(m0, .inr (11, [.ref p0, .ref p1, .int i2, .ref p3, .int i4, .ref p5, .int i6, .int i7, .int i8, .int i9, .ref p10, .int i11, .ref p12, .ref p13, .ref p14, .int i15, .ref p16, .ref p17, .int (nI (g + 1)), .ref p19, .ref p20, .ref p21, .ref p22, .int i23, .int i24, .ref p25, .ref p26, .ref p27, .ref p28, .ref p29, .ref p30, .ref p31, .ref p32])), (p19, .inl (cI, 55, .inl (upd g6_p19 k x))), (p20, .inl (cI, 55, .inl (upd g6_p20 k h))), (p21, .inl (cI, 55, .inl (upd g6_p21 k a))), (p22, .inl (cI, 55, .inl (upd g6_p22 k b)))] : va_W) = [(m0, .inr (11, [.ref p0, .ref p1, .int i2, .ref p3, .int i4, .ref p5, .int i6, .int i7, .int i8, .int i9, .ref p10, .int i11, .ref p12, .ref p13, .ref p14, .int i15, .ref p16, .ref p17, .int (nI (ftGmIns (g, ga, gh, g1, g2) x h a b).1), .ref p19, .ref p20, .ref p21, .ref p22, .int i23, .int i24, .ref p25, .ref p26, .ref p27, .ref p28, .ref p29, .ref p30, .ref p31, .ref p32])), (p19, .inl (cI, 55, .inl ((ftGmIns (g, ga, gh, g1, g2) x h a b).2.1))), (p20, .inl (cI, 55, .inl ((ftGmIns (g, ga, gh, g1, g2) x h a b).2.2.1))), (p21, .inl (cI, 55, .inl ((ftGmIns (g, ga, gh, g1, g2) x h a b).2.2.2.1))), (p22, .inl (cI, 55, .inl ((ftGmIns (g, ga, gh, g1, g2) x h a b).2.2.2.2)))] := by rw [eg6_p19, eg6_p20, eg6_p21, eg6_p22, ftGmIns, hix]; rfl
              rw [hw9] at hP hD
              exact W.vret hx hb hr (fun t ht hW => ⟨⟨(), rfl, trivial, by rw [ht]; exact hP, by rw [hAe]; exact hD⟩, by rw [hAe]; exact hS.F ht⟩) hS.2.2 dX11_ghostComes_163
            · refine lv_aload_n hx hb dX11_ghostComes_50 rfl (lv_at hl 0 rfl) ?_
              refine va_get (D := D) (ci := 11) (v := .ref p19) (C := RX11) (T := TX11) (N := 33) hx hb hts (by decide +kernel) hown hK hP 0 rfl rfl 19 (by decide) (hts (.fieldLink RX11 40 "FiberTraceModel" "ghostAt" "[I") (by decide +kernel)) (fun _ h9 => h9) rfl dX11_ghostComes_51 ?_
              refine lv_iload hx hb dX11_ghostComes_54 (lv_at hl 5 rfl) ?_
              refine lv_aload_n hx hb dX11_ghostComes_56 rfl (lv_at hl 0 rfl) ?_
              refine va_get (D := D) (ci := 11) (v := .ref p19) (C := RX11) (T := TX11) (N := 33) hx hb hts (by decide +kernel) hown hK hP 0 rfl rfl 19 (by decide) (hts (.fieldLink RX11 40 "FiberTraceModel" "ghostAt" "[I") (by decide +kernel)) (fun _ h9 => h9) rfl dX11_ghostComes_57 ?_
              refine lv_iload hx hb dX11_ghostComes_60 (lv_at hl 5 rfl) ?_
              refine lv_iconst (v := 1) hx hb dX11_ghostComes_62 (by decide) ?_
              refine lv_isub hx hb dX11_ghostComes_63 ?_
              refine ft_top (y := nI (k - 1)) (ft_subN (a := k) (b := 1) (by omega)) ?_
              refine va_iald hx hb hK hP 1 0 rfl rfl (vp_in_nI (by omega) (by omega)) dX11_ghostComes_64 ?_
              refine ft_top (y := g6_p19 (k - 1)) (ft_clampN (by omega)) ?_
              refine va_iast hx hb hK hP hD hS 1 0 rfl rfl (vp_in_nI (by omega) (by omega)) dX11_ghostComes_65 (fun H locs hP hD hS => ?_)
              rw [nI_clamp (show k < 2 ^ 31 by omega)] at hP hD
              have hP : va_P D vwCl [(m0, .inr (11, [.ref p0, .ref p1, .int i2, .ref p3, .int i4, .ref p5, .int i6, .int i7, .int i8, .int i9, .ref p10, .int i11, .ref p12, .ref p13, .ref p14, .int i15, .ref p16, .ref p17, .int (nI g), .ref p19, .ref p20, .ref p21, .ref p22, .int i23, .int i24, .ref p25, .ref p26, .ref p27, .ref p28, .ref p29, .ref p30, .ref p31, .ref p32])), (p19, .inl (cI, 55, .inl (upd g6_p19 k (g6_p19 (k - 1))))), (p20, .inl (cI, 55, .inl g6_p20)), (p21, .inl (cI, 55, .inl g6_p21)), (p22, .inl (cI, 55, .inl g6_p22))] H := hP
              have hD : va_D A [(m0, .inr (11, [.ref p0, .ref p1, .int i2, .ref p3, .int i4, .ref p5, .int i6, .int i7, .int i8, .int i9, .ref p10, .int i11, .ref p12, .ref p13, .ref p14, .int i15, .ref p16, .ref p17, .int (nI g), .ref p19, .ref p20, .ref p21, .ref p22, .int i23, .int i24, .ref p25, .ref p26, .ref p27, .ref p28, .ref p29, .ref p30, .ref p31, .ref p32])), (p19, .inl (cI, 55, .inl (upd g6_p19 k (g6_p19 (k - 1))))), (p20, .inl (cI, 55, .inl g6_p20)), (p21, .inl (cI, 55, .inl g6_p21)), (p22, .inl (cI, 55, .inl g6_p22))] := hD
              refine lv_aload_n hx hb dX11_ghostComes_66 rfl (lv_at hl 0 rfl) ?_
              refine va_get (D := D) (ci := 11) (v := .ref p20) (C := RX11) (T := TX11) (N := 33) hx hb hts (by decide +kernel) hown hK hP 0 rfl rfl 20 (by decide) (hts (.fieldLink RX11 43 "FiberTraceModel" "ghostHigh" "[I") (by decide +kernel)) (fun _ h9 => h9) rfl dX11_ghostComes_67 ?_
              refine lv_iload hx hb dX11_ghostComes_70 (lv_at hl 5 rfl) ?_
              refine lv_aload_n hx hb dX11_ghostComes_72 rfl (lv_at hl 0 rfl) ?_
              refine va_get (D := D) (ci := 11) (v := .ref p20) (C := RX11) (T := TX11) (N := 33) hx hb hts (by decide +kernel) hown hK hP 0 rfl rfl 20 (by decide) (hts (.fieldLink RX11 43 "FiberTraceModel" "ghostHigh" "[I") (by decide +kernel)) (fun _ h9 => h9) rfl dX11_ghostComes_73 ?_
              refine lv_iload hx hb dX11_ghostComes_76 (lv_at hl 5 rfl) ?_
              refine lv_iconst (v := 1) hx hb dX11_ghostComes_78 (by decide) ?_
              refine lv_isub hx hb dX11_ghostComes_79 ?_
              refine ft_top (y := nI (k - 1)) (ft_subN (a := k) (b := 1) (by omega)) ?_
              refine va_iald hx hb hK hP 2 0 rfl rfl (vp_in_nI (by omega) (by omega)) dX11_ghostComes_80 ?_
              refine ft_top (y := g6_p20 (k - 1)) (ft_clampN (by omega)) ?_
              refine va_iast hx hb hK hP hD hS 2 0 rfl rfl (vp_in_nI (by omega) (by omega)) dX11_ghostComes_81 (fun H locs hP hD hS => ?_)
              rw [nI_clamp (show k < 2 ^ 31 by omega)] at hP hD
              have hP : va_P D vwCl [(m0, .inr (11, [.ref p0, .ref p1, .int i2, .ref p3, .int i4, .ref p5, .int i6, .int i7, .int i8, .int i9, .ref p10, .int i11, .ref p12, .ref p13, .ref p14, .int i15, .ref p16, .ref p17, .int (nI g), .ref p19, .ref p20, .ref p21, .ref p22, .int i23, .int i24, .ref p25, .ref p26, .ref p27, .ref p28, .ref p29, .ref p30, .ref p31, .ref p32])), (p19, .inl (cI, 55, .inl (upd g6_p19 k (g6_p19 (k - 1))))), (p20, .inl (cI, 55, .inl (upd g6_p20 k (g6_p20 (k - 1))))), (p21, .inl (cI, 55, .inl g6_p21)), (p22, .inl (cI, 55, .inl g6_p22))] H := hP
              have hD : va_D A [(m0, .inr (11, [.ref p0, .ref p1, .int i2, .ref p3, .int i4, .ref p5, .int i6, .int i7, .int i8, .int i9, .ref p10, .int i11, .ref p12, .ref p13, .ref p14, .int i15, .ref p16, .ref p17, .int (nI g), .ref p19, .ref p20, .ref p21, .ref p22, .int i23, .int i24, .ref p25, .ref p26, .ref p27, .ref p28, .ref p29, .ref p30, .ref p31, .ref p32])), (p19, .inl (cI, 55, .inl (upd g6_p19 k (g6_p19 (k - 1))))), (p20, .inl (cI, 55, .inl (upd g6_p20 k (g6_p20 (k - 1))))), (p21, .inl (cI, 55, .inl g6_p21)), (p22, .inl (cI, 55, .inl g6_p22))] := hD
              refine lv_aload_n hx hb dX11_ghostComes_82 rfl (lv_at hl 0 rfl) ?_
              refine va_get (D := D) (ci := 11) (v := .ref p21) (C := RX11) (T := TX11) (N := 33) hx hb hts (by decide +kernel) hown hK hP 0 rfl rfl 21 (by decide) (hts (.fieldLink RX11 46 "FiberTraceModel" "ghostOne" "[I") (by decide +kernel)) (fun _ h9 => h9) rfl dX11_ghostComes_83 ?_
              refine lv_iload hx hb dX11_ghostComes_86 (lv_at hl 5 rfl) ?_
              refine lv_aload_n hx hb dX11_ghostComes_88 rfl (lv_at hl 0 rfl) ?_
              refine va_get (D := D) (ci := 11) (v := .ref p21) (C := RX11) (T := TX11) (N := 33) hx hb hts (by decide +kernel) hown hK hP 0 rfl rfl 21 (by decide) (hts (.fieldLink RX11 46 "FiberTraceModel" "ghostOne" "[I") (by decide +kernel)) (fun _ h9 => h9) rfl dX11_ghostComes_89 ?_
              refine lv_iload hx hb dX11_ghostComes_92 (lv_at hl 5 rfl) ?_
              refine lv_iconst (v := 1) hx hb dX11_ghostComes_94 (by decide) ?_
              refine lv_isub hx hb dX11_ghostComes_95 ?_
              refine ft_top (y := nI (k - 1)) (ft_subN (a := k) (b := 1) (by omega)) ?_
              refine va_iald hx hb hK hP 3 0 rfl rfl (vp_in_nI (by omega) (by omega)) dX11_ghostComes_96 ?_
              refine ft_top (y := g6_p21 (k - 1)) (ft_clampN (by omega)) ?_
              refine va_iast hx hb hK hP hD hS 3 0 rfl rfl (vp_in_nI (by omega) (by omega)) dX11_ghostComes_97 (fun H locs hP hD hS => ?_)
              rw [nI_clamp (show k < 2 ^ 31 by omega)] at hP hD
              have hP : va_P D vwCl [(m0, .inr (11, [.ref p0, .ref p1, .int i2, .ref p3, .int i4, .ref p5, .int i6, .int i7, .int i8, .int i9, .ref p10, .int i11, .ref p12, .ref p13, .ref p14, .int i15, .ref p16, .ref p17, .int (nI g), .ref p19, .ref p20, .ref p21, .ref p22, .int i23, .int i24, .ref p25, .ref p26, .ref p27, .ref p28, .ref p29, .ref p30, .ref p31, .ref p32])), (p19, .inl (cI, 55, .inl (upd g6_p19 k (g6_p19 (k - 1))))), (p20, .inl (cI, 55, .inl (upd g6_p20 k (g6_p20 (k - 1))))), (p21, .inl (cI, 55, .inl (upd g6_p21 k (g6_p21 (k - 1))))), (p22, .inl (cI, 55, .inl g6_p22))] H := hP
              have hD : va_D A [(m0, .inr (11, [.ref p0, .ref p1, .int i2, .ref p3, .int i4, .ref p5, .int i6, .int i7, .int i8, .int i9, .ref p10, .int i11, .ref p12, .ref p13, .ref p14, .int i15, .ref p16, .ref p17, .int (nI g), .ref p19, .ref p20, .ref p21, .ref p22, .int i23, .int i24, .ref p25, .ref p26, .ref p27, .ref p28, .ref p29, .ref p30, .ref p31, .ref p32])), (p19, .inl (cI, 55, .inl (upd g6_p19 k (g6_p19 (k - 1))))), (p20, .inl (cI, 55, .inl (upd g6_p20 k (g6_p20 (k - 1))))), (p21, .inl (cI, 55, .inl (upd g6_p21 k (g6_p21 (k - 1))))), (p22, .inl (cI, 55, .inl g6_p22))] := hD
              refine lv_aload_n hx hb dX11_ghostComes_98 rfl (lv_at hl 0 rfl) ?_
              refine va_get (D := D) (ci := 11) (v := .ref p22) (C := RX11) (T := TX11) (N := 33) hx hb hts (by decide +kernel) hown hK hP 0 rfl rfl 22 (by decide) (hts (.fieldLink RX11 49 "FiberTraceModel" "ghostTwo" "[I") (by decide +kernel)) (fun _ h9 => h9) rfl dX11_ghostComes_99 ?_
              refine lv_iload hx hb dX11_ghostComes_102 (lv_at hl 5 rfl) ?_
              refine lv_aload_n hx hb dX11_ghostComes_104 rfl (lv_at hl 0 rfl) ?_
              refine va_get (D := D) (ci := 11) (v := .ref p22) (C := RX11) (T := TX11) (N := 33) hx hb hts (by decide +kernel) hown hK hP 0 rfl rfl 22 (by decide) (hts (.fieldLink RX11 49 "FiberTraceModel" "ghostTwo" "[I") (by decide +kernel)) (fun _ h9 => h9) rfl dX11_ghostComes_105 ?_
              refine lv_iload hx hb dX11_ghostComes_108 (lv_at hl 5 rfl) ?_
              refine lv_iconst (v := 1) hx hb dX11_ghostComes_110 (by decide) ?_
              refine lv_isub hx hb dX11_ghostComes_111 ?_
              refine ft_top (y := nI (k - 1)) (ft_subN (a := k) (b := 1) (by omega)) ?_
              refine va_iald hx hb hK hP 4 0 rfl rfl (vp_in_nI (by omega) (by omega)) dX11_ghostComes_112 ?_
              refine ft_top (y := g6_p22 (k - 1)) (ft_clampN (by omega)) ?_
              refine va_iast hx hb hK hP hD hS 4 0 rfl rfl (vp_in_nI (by omega) (by omega)) dX11_ghostComes_113 (fun H locs hP hD hS => ?_)
              rw [nI_clamp (show k < 2 ^ 31 by omega)] at hP hD
              have hP : va_P D vwCl [(m0, .inr (11, [.ref p0, .ref p1, .int i2, .ref p3, .int i4, .ref p5, .int i6, .int i7, .int i8, .int i9, .ref p10, .int i11, .ref p12, .ref p13, .ref p14, .int i15, .ref p16, .ref p17, .int (nI g), .ref p19, .ref p20, .ref p21, .ref p22, .int i23, .int i24, .ref p25, .ref p26, .ref p27, .ref p28, .ref p29, .ref p30, .ref p31, .ref p32])), (p19, .inl (cI, 55, .inl (upd g6_p19 k (g6_p19 (k - 1))))), (p20, .inl (cI, 55, .inl (upd g6_p20 k (g6_p20 (k - 1))))), (p21, .inl (cI, 55, .inl (upd g6_p21 k (g6_p21 (k - 1))))), (p22, .inl (cI, 55, .inl (upd g6_p22 k (g6_p22 (k - 1)))))] H := hP
              have hD : va_D A [(m0, .inr (11, [.ref p0, .ref p1, .int i2, .ref p3, .int i4, .ref p5, .int i6, .int i7, .int i8, .int i9, .ref p10, .int i11, .ref p12, .ref p13, .ref p14, .int i15, .ref p16, .ref p17, .int (nI g), .ref p19, .ref p20, .ref p21, .ref p22, .int i23, .int i24, .ref p25, .ref p26, .ref p27, .ref p28, .ref p29, .ref p30, .ref p31, .ref p32])), (p19, .inl (cI, 55, .inl (upd g6_p19 k (g6_p19 (k - 1))))), (p20, .inl (cI, 55, .inl (upd g6_p20 k (g6_p20 (k - 1))))), (p21, .inl (cI, 55, .inl (upd g6_p21 k (g6_p21 (k - 1))))), (p22, .inl (cI, 55, .inl (upd g6_p22 k (g6_p22 (k - 1)))))] := hD
              refine lv_iinc (v := nI (k - 1)) (lv' := [(5, .int (nI (k - 1))), (0, .ref m0), (1, .int x), (2, .int h), (3, .int a), (4, .int b)]) hx hb dX11_ghostComes_114 hl (k := 5) rfl (ft_dec (by omega)) (by decide) rfl (fun ls hl => ?_)
              refine lv_goto (tgt := 6) hx hb dX11_ghostComes_117 (by decide) ?_
              exact ih6 (k - 1) (nI (k - 1)) (upd g6_p19 k (g6_p19 (k - 1))) (upd g6_p20 k (g6_p20 (k - 1))) (upd g6_p21 k (g6_p21 (k - 1))) (upd g6_p22 k (g6_p22 (k - 1))) (by omega) (by omega) (by rw [hd]; first | exact ftDownM_gt hk1 (Or.inl (by rw [← hga]; exact c21)) | exact ftDownM_gt hk1 (Or.inr ⟨by rw [← hga]; exact c34, by rw [← hg1]; exact Int32.not_le.mp c47⟩)) (by first | rfl | assumption) (by rw [eg6_p19]; exact ftInsG_s hk1 hkg) (by rw [eg6_p20]; exact ftInsG_s hk1 hkg) (by rw [eg6_p21]; exact ftInsG_s hk1 hkg) (by rw [eg6_p22]; exact ftInsG_s hk1 hkg) _ _ hP hD hS ls (lv_sub hl [1, 2, 3, 4, 5, 0] rfl)
  exact lp6 _ g (nI g) ga gh g1 g2 (Nat.lt_succ_self _) (by omega) (by rfl) (by rfl) (by exact ftInsG_0 _ _) (by exact ftInsG_0 _ _) (by exact ftInsG_0 _ _) (by exact ftInsG_0 _ _) _ _ hP hD hS ls (lv_sub hl [1, 2, 3, 4, 5, 0] rfl)
