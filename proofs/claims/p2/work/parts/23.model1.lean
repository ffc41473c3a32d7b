/-! the reference: leaves -/
theorem ft_in64 {x lo hi : Int32} {L H : Int64} (hL : L.toInt = lo.toInt) (hH : H.toInt = hi.toInt) : ftB (L ≤ x.toInt64 ∧ x.toInt64 ≤ H) = ftB (lo ≤ x ∧ x ≤ hi) := by
  refine ftB_congr ?_
  rw [Int64.le_iff_toInt_le, Int64.le_iff_toInt_le, Int32.le_iff_toInt_le, Int32.le_iff_toInt_le, hL, hH, Int32.toInt_toInt64]
def ftFirst (x : Int32) : Int32 := if x = 0 then 5 else if x = 1 then 1500 else if x = 2 then 9000 else if x = 3 then 0 else if x = 4 then 4 else if x = 5 then 1 else if x = 6 then 600 else if x = 7 then 60 else if x = 8 then 8000 else if x = 9 then 3 else 150
def ftLeast (x : Int32) : Int32 := if x = 0 ∨ x = 4 then 1 else if x = 1 then 100 else if x = 6 then 10 else if x = 7 then 5 else 0
def ftMost (x : Int32) : Int32 := if x = 0 then 20 else if x = 1 then 5000 else if x = 2 then 40000 else if x = 3 then 400 else if x = 4 then 32 else if x = 5 then 65535 else if x = 6 then 5000 else if x = 7 then 2000 else if x = 8 then 40000 else if x = 9 then 20 else 2000
def ftSz (x : Int32) : Int32 := if x < 0 then -x else x
theorem ftSz_abs (x : Int32) : ftSz x = ftAbs x := by
  unfold ftSz ftAbs
  by_cases h : x < 0
  · rw [if_pos h, if_neg (Int32.not_le.mpr h), Int32.zero_sub]
  · rw [if_neg h, if_pos (Int32.not_lt.mp h)]
/-- the attenuation that the first k parts of a row make hold at a place -/
def ftFw (w : Nat → Int32) (x : Int32) : Nat → Int32
  | 0 => w 1
  | k + 1 => if w (4 + 4 * k + 0) = 2 ∧ w (4 + 4 * k + 1) ≤ x then w (4 + 4 * k + 2) else ftFw w x k
theorem ftFw_t {w : Nat → Int32} {x : Int32} {k : Nat} (h1 : w (4 + 4 * k + 0) = 2) (h2 : w (4 + 4 * k + 1) ≤ x) : w (4 + 4 * k + 2) = ftFw w x (k + 1) := (if_pos ⟨h1, h2⟩).symm
theorem ftFw_1 {w : Nat → Int32} {x y : Int32} {k : Nat} (e : y = ftFw w x k) (h1 : ¬ w (4 + 4 * k + 0) = 2) : y = ftFw w x (k + 1) := by rw [e]; exact (if_neg (fun q => h1 q.1)).symm
theorem ftFw_2 {w : Nat → Int32} {x y : Int32} {k : Nat} (e : y = ftFw w x k) (h1 : x < w (4 + 4 * k + 1)) : y = ftFw w x (k + 1) := by rw [e]; exact (if_neg (fun q => absurd q.2 (Int32.not_le.mpr h1))).symm
/-- the last part at a place, or -1 -/
def ftPa (w : Nat → Int32) (x : Int32) : Nat → Int32
  | 0 => -1
  | k + 1 => if w (4 + 4 * k + 1) = x then nI k else ftPa w x k
def ftLj (w : Nat → Int32) (x : Int32) (s0 : Int32) : Nat → Int32
  | 0 => s0
  | k + 1 => ftLj w x s0 k + (if w (4 + 4 * k + 0) < 2 ∧ w (4 + 4 * k + 1) < x then w (4 + 4 * k + 2) else 0)
theorem ftLj_t {w : Nat → Int32} {x s0 y : Int32} {k : Nat} (e : y = ftLj w x s0 k) (h1 : w (4 + 4 * k + 0) < 2) (h2 : w (4 + 4 * k + 1) < x) : y + w (4 + 4 * k + 2) = ftLj w x s0 (k + 1) := by rw [e, ftLj, if_pos ⟨h1, h2⟩]
theorem ftLj_1 {w : Nat → Int32} {x s0 y : Int32} {k : Nat} (e : y = ftLj w x s0 k) (h1 : 2 ≤ w (4 + 4 * k + 0)) : y + 0 = ftLj w x s0 (k + 1) := by rw [e, ftLj, if_neg (fun q => absurd q.1 (Int32.not_lt.mpr h1))]
theorem ftLj_2 {w : Nat → Int32} {x s0 y : Int32} {k : Nat} (e : y = ftLj w x s0 k) (h1 : x ≤ w (4 + 4 * k + 1)) : y + 0 = ftLj w x s0 (k + 1) := by rw [e, ftLj, if_neg (fun q => absurd q.2 (Int32.not_lt.mpr h1))]
/-- the states behind a change: the oldest of five gone, the row laid behind -/
def ftShift (z : Nat → Int32) (J : Nat) : Nat → Int32 := fun t => if t < J then z (t + 1439) else z t
theorem ftShift_0 (z : Nat → Int32) : z = ftShift z 0 := funext fun t => (if_neg (Nat.not_lt_zero t)).symm
theorem ftShift_s {z : Nat → Int32} {J : Nat} : upd (ftShift z J) J (ftShift z J (J + 1439)) = ftShift z (J + 1) := by
  funext t
  unfold upd ftShift
  by_cases q : t = J
  · subst q; rw [if_pos rfl, if_neg (by omega), if_pos (by omega)]
  · rw [if_neg q]
    by_cases r : t < J
    · rw [if_pos r, if_pos (by omega)]
    · rw [if_neg r, if_neg (by omega)]
def ftPush (w z : Nat → Int32) (hm : Nat) : Nat → Int32 := if hm = 5 then ftSeg w (ftShift z 5756) 5756 1439 else ftSeg w z (hm * 1439) 1439
/-- a row with a part more -/
def ftComes (w : Nat → Int32) (k : Nat) (kd x lo re : Int32) : Nat → Int32 := upd (upd (upd (upd w (4 + 4 * k + 0) kd) (4 + 4 * k + 1) x) (4 + 4 * k + 2) lo) (4 + 4 * k + 3) re
set_option maxHeartbeats 4000000 in
set_option maxRecDepth 100000 in
theorem c_X11_firstOf (l : Launch) (D : va_G) (cI cS : ClassId) (x : Int32)  : Met l yX11_firstOf wsX11_firstOf ({ frames := 0, cells := 0, slots := 0, locals := 0 }) (ftRO D cI cS [.int x] []) (vp_Si (fun o9 => o9 = ftFirst x)) 0 0 (fun _ => False) := by
  refine Met.ofW (cc := cX11_firstOf) (maxL := 1) (ret := (some .int)) (by decide) rfl ?_
  intro p e s m args below meth c s₁ B hml hv
  obtain ⟨rfl, hP, hKK⟩ := hv
  have hK := hKK.1
  have hx := B.exec
  have hb := B.bytes
  have hr := B.returns
  have hts := atoms_spec (ws := wsX11_firstOf) B.pre
  have hown : s.vm.findClass RX11 = some m.cls := findClass_of_methodNamed B.named
  have hlocks := B.notSynchronized
  have hP : va_P D vwCl [] s.heap := hP
  have hl := lv_entry ([.int x]) (n := 1) (Nat.le_of_ble_eq_true rfl)
  rw [lg_entry_eq]
  generalize (lg_sl ([.int x]) ++ List.replicate (1 - (lg_sl ([.int x])).length) Slot.unset).toArray = ls at hl ⊢
  have hl : lv_has ls 1 [(0, .int x)] := hl
  refine lv_iload_n hx hb dX11_firstOf_0 rfl (lv_at hl 0 rfl) ?_
  by_cases c1_0 : x = 0
  · refine lv_tableIn (off := 55) (tgt := 56) hx hb dX11_firstOf_1 (by rw [c1_0]; decide) (by rw [c1_0]; decide) (by rw [c1_0]; decide) (by decide) ?_
    refine lv_iconst (v := 5) hx hb dX11_firstOf_56 (by decide) ?_
    exact W.iret (v := 5) hx hb hr (fun t ht hW => ⟨5, rfl, (by show (5 : Int32) = ftFirst x; unfold ftFirst; first | (subst c1_0; rfl) | (subst c1_1; rfl) | (subst c1_2; rfl) | (subst c1_3; rfl) | (subst c1_4; rfl) | (subst c1_5; rfl) | (subst c1_6; rfl) | (subst c1_7; rfl) | (subst c1_8; rfl) | (subst c1_9; rfl) | (rw [if_neg c1_0, if_neg c1_1, if_neg c1_2, if_neg c1_3, if_neg c1_4, if_neg c1_5, if_neg c1_6, if_neg c1_7, if_neg c1_8, if_neg c1_9]; done)), ht⟩) (fun _ h9 => absurd h9 List.not_mem_nil) dX11_firstOf_57
  by_cases c1_1 : x = 1
  · refine lv_tableIn (off := 57) (tgt := 58) hx hb dX11_firstOf_1 (by rw [c1_1]; decide) (by rw [c1_1]; decide) (by rw [c1_1]; decide) (by decide) ?_
    refine lv_sipush (v := 1500) hx hb dX11_firstOf_58 (by decide) ?_
    exact W.iret (v := 1500) hx hb hr (fun t ht hW => ⟨1500, rfl, (by show (1500 : Int32) = ftFirst x; unfold ftFirst; first | (subst c1_0; rfl) | (subst c1_1; rfl) | (subst c1_2; rfl) | (subst c1_3; rfl) | (subst c1_4; rfl) | (subst c1_5; rfl) | (subst c1_6; rfl) | (subst c1_7; rfl) | (subst c1_8; rfl) | (subst c1_9; rfl) | (rw [if_neg c1_0, if_neg c1_1, if_neg c1_2, if_neg c1_3, if_neg c1_4, if_neg c1_5, if_neg c1_6, if_neg c1_7, if_neg c1_8, if_neg c1_9]; done)), ht⟩) (fun _ h9 => absurd h9 List.not_mem_nil) dX11_firstOf_61
  by_cases c1_2 : x = 2
  · refine lv_tableIn (off := 61) (tgt := 62) hx hb dX11_firstOf_1 (by rw [c1_2]; decide) (by rw [c1_2]; decide) (by rw [c1_2]; decide) (by decide) ?_
    refine lv_sipush (v := 9000) hx hb dX11_firstOf_62 (by decide) ?_
    exact W.iret (v := 9000) hx hb hr (fun t ht hW => ⟨9000, rfl, (by show (9000 : Int32) = ftFirst x; unfold ftFirst; first | (subst c1_0; rfl) | (subst c1_1; rfl) | (subst c1_2; rfl) | (subst c1_3; rfl) | (subst c1_4; rfl) | (subst c1_5; rfl) | (subst c1_6; rfl) | (subst c1_7; rfl) | (subst c1_8; rfl) | (subst c1_9; rfl) | (rw [if_neg c1_0, if_neg c1_1, if_neg c1_2, if_neg c1_3, if_neg c1_4, if_neg c1_5, if_neg c1_6, if_neg c1_7, if_neg c1_8, if_neg c1_9]; done)), ht⟩) (fun _ h9 => absurd h9 List.not_mem_nil) dX11_firstOf_65
  by_cases c1_3 : x = 3
  · refine lv_tableIn (off := 65) (tgt := 66) hx hb dX11_firstOf_1 (by rw [c1_3]; decide) (by rw [c1_3]; decide) (by rw [c1_3]; decide) (by decide) ?_
    refine lv_iconst (v := 0) hx hb dX11_firstOf_66 (by decide) ?_
    exact W.iret (v := 0) hx hb hr (fun t ht hW => ⟨0, rfl, (by show (0 : Int32) = ftFirst x; unfold ftFirst; first | (subst c1_0; rfl) | (subst c1_1; rfl) | (subst c1_2; rfl) | (subst c1_3; rfl) | (subst c1_4; rfl) | (subst c1_5; rfl) | (subst c1_6; rfl) | (subst c1_7; rfl) | (subst c1_8; rfl) | (subst c1_9; rfl) | (rw [if_neg c1_0, if_neg c1_1, if_neg c1_2, if_neg c1_3, if_neg c1_4, if_neg c1_5, if_neg c1_6, if_neg c1_7, if_neg c1_8, if_neg c1_9]; done)), ht⟩) (fun _ h9 => absurd h9 List.not_mem_nil) dX11_firstOf_67
  by_cases c1_4 : x = 4
  · refine lv_tableIn (off := 67) (tgt := 68) hx hb dX11_firstOf_1 (by rw [c1_4]; decide) (by rw [c1_4]; decide) (by rw [c1_4]; decide) (by decide) ?_
    refine lv_iconst (v := 4) hx hb dX11_firstOf_68 (by decide) ?_
    exact W.iret (v := 4) hx hb hr (fun t ht hW => ⟨4, rfl, (by show (4 : Int32) = ftFirst x; unfold ftFirst; first | (subst c1_0; rfl) | (subst c1_1; rfl) | (subst c1_2; rfl) | (subst c1_3; rfl) | (subst c1_4; rfl) | (subst c1_5; rfl) | (subst c1_6; rfl) | (subst c1_7; rfl) | (subst c1_8; rfl) | (subst c1_9; rfl) | (rw [if_neg c1_0, if_neg c1_1, if_neg c1_2, if_neg c1_3, if_neg c1_4, if_neg c1_5, if_neg c1_6, if_neg c1_7, if_neg c1_8, if_neg c1_9]; done)), ht⟩) (fun _ h9 => absurd h9 List.not_mem_nil) dX11_firstOf_69
  by_cases c1_5 : x = 5
  · refine lv_tableIn (off := 69) (tgt := 70) hx hb dX11_firstOf_1 (by rw [c1_5]; decide) (by rw [c1_5]; decide) (by rw [c1_5]; decide) (by decide) ?_
    refine lv_iconst (v := 1) hx hb dX11_firstOf_70 (by decide) ?_
    exact W.iret (v := 1) hx hb hr (fun t ht hW => ⟨1, rfl, (by show (1 : Int32) = ftFirst x; unfold ftFirst; first | (subst c1_0; rfl) | (subst c1_1; rfl) | (subst c1_2; rfl) | (subst c1_3; rfl) | (subst c1_4; rfl) | (subst c1_5; rfl) | (subst c1_6; rfl) | (subst c1_7; rfl) | (subst c1_8; rfl) | (subst c1_9; rfl) | (rw [if_neg c1_0, if_neg c1_1, if_neg c1_2, if_neg c1_3, if_neg c1_4, if_neg c1_5, if_neg c1_6, if_neg c1_7, if_neg c1_8, if_neg c1_9]; done)), ht⟩) (fun _ h9 => absurd h9 List.not_mem_nil) dX11_firstOf_71
  by_cases c1_6 : x = 6
  · refine lv_tableIn (off := 71) (tgt := 72) hx hb dX11_firstOf_1 (by rw [c1_6]; decide) (by rw [c1_6]; decide) (by rw [c1_6]; decide) (by decide) ?_
    refine lv_sipush (v := 600) hx hb dX11_firstOf_72 (by decide) ?_
    exact W.iret (v := 600) hx hb hr (fun t ht hW => ⟨600, rfl, (by show (600 : Int32) = ftFirst x; unfold ftFirst; first | (subst c1_0; rfl) | (subst c1_1; rfl) | (subst c1_2; rfl) | (subst c1_3; rfl) | (subst c1_4; rfl) | (subst c1_5; rfl) | (subst c1_6; rfl) | (subst c1_7; rfl) | (subst c1_8; rfl) | (subst c1_9; rfl) | (rw [if_neg c1_0, if_neg c1_1, if_neg c1_2, if_neg c1_3, if_neg c1_4, if_neg c1_5, if_neg c1_6, if_neg c1_7, if_neg c1_8, if_neg c1_9]; done)), ht⟩) (fun _ h9 => absurd h9 List.not_mem_nil) dX11_firstOf_75
  by_cases c1_7 : x = 7
  · refine lv_tableIn (off := 75) (tgt := 76) hx hb dX11_firstOf_1 (by rw [c1_7]; decide) (by rw [c1_7]; decide) (by rw [c1_7]; decide) (by decide) ?_
    refine lv_bipush (v := 60) hx hb dX11_firstOf_76 (by decide) ?_
    exact W.iret (v := 60) hx hb hr (fun t ht hW => ⟨60, rfl, (by show (60 : Int32) = ftFirst x; unfold ftFirst; first | (subst c1_0; rfl) | (subst c1_1; rfl) | (subst c1_2; rfl) | (subst c1_3; rfl) | (subst c1_4; rfl) | (subst c1_5; rfl) | (subst c1_6; rfl) | (subst c1_7; rfl) | (subst c1_8; rfl) | (subst c1_9; rfl) | (rw [if_neg c1_0, if_neg c1_1, if_neg c1_2, if_neg c1_3, if_neg c1_4, if_neg c1_5, if_neg c1_6, if_neg c1_7, if_neg c1_8, if_neg c1_9]; done)), ht⟩) (fun _ h9 => absurd h9 List.not_mem_nil) dX11_firstOf_78
  by_cases c1_8 : x = 8
  · refine lv_tableIn (off := 78) (tgt := 79) hx hb dX11_firstOf_1 (by rw [c1_8]; decide) (by rw [c1_8]; decide) (by rw [c1_8]; decide) (by decide) ?_
    refine lv_sipush (v := 8000) hx hb dX11_firstOf_79 (by decide) ?_
    exact W.iret (v := 8000) hx hb hr (fun t ht hW => ⟨8000, rfl, (by show (8000 : Int32) = ftFirst x; unfold ftFirst; first | (subst c1_0; rfl) | (subst c1_1; rfl) | (subst c1_2; rfl) | (subst c1_3; rfl) | (subst c1_4; rfl) | (subst c1_5; rfl) | (subst c1_6; rfl) | (subst c1_7; rfl) | (subst c1_8; rfl) | (subst c1_9; rfl) | (rw [if_neg c1_0, if_neg c1_1, if_neg c1_2, if_neg c1_3, if_neg c1_4, if_neg c1_5, if_neg c1_6, if_neg c1_7, if_neg c1_8, if_neg c1_9]; done)), ht⟩) (fun _ h9 => absurd h9 List.not_mem_nil) dX11_firstOf_82
  by_cases c1_9 : x = 9
  · refine lv_tableIn (off := 82) (tgt := 83) hx hb dX11_firstOf_1 (by rw [c1_9]; decide) (by rw [c1_9]; decide) (by rw [c1_9]; decide) (by decide) ?_
    refine lv_iconst (v := 3) hx hb dX11_firstOf_83 (by decide) ?_
    exact W.iret (v := 3) hx hb hr (fun t ht hW => ⟨3, rfl, (by show (3 : Int32) = ftFirst x; unfold ftFirst; first | (subst c1_0; rfl) | (subst c1_1; rfl) | (subst c1_2; rfl) | (subst c1_3; rfl) | (subst c1_4; rfl) | (subst c1_5; rfl) | (subst c1_6; rfl) | (subst c1_7; rfl) | (subst c1_8; rfl) | (subst c1_9; rfl) | (rw [if_neg c1_0, if_neg c1_1, if_neg c1_2, if_neg c1_3, if_neg c1_4, if_neg c1_5, if_neg c1_6, if_neg c1_7, if_neg c1_8, if_neg c1_9]; done)), ht⟩) (fun _ h9 => absurd h9 List.not_mem_nil) dX11_firstOf_84
  have c1_0i := lv_neT (a := 0) c1_0 (by decide)
  have c1_1i := lv_neT (a := 1) c1_1 (by decide)
  have c1_2i := lv_neT (a := 2) c1_2 (by decide)
  have c1_3i := lv_neT (a := 3) c1_3 (by decide)
  have c1_4i := lv_neT (a := 4) c1_4 (by decide)
  have c1_5i := lv_neT (a := 5) c1_5 (by decide)
  have c1_6i := lv_neT (a := 6) c1_6 (by decide)
  have c1_7i := lv_neT (a := 7) c1_7 (by decide)
  have c1_8i := lv_neT (a := 8) c1_8 (by decide)
  have c1_9i := lv_neT (a := 9) c1_9 (by decide)
  refine lv_tableOut (tgt := 85) hx hb dX11_firstOf_1 (by omega) (by decide) ?_
  refine lv_sipush (v := 150) hx hb dX11_firstOf_85 (by decide) ?_
  exact W.iret (v := 150) hx hb hr (fun t ht hW => ⟨150, rfl, (by show (150 : Int32) = ftFirst x; unfold ftFirst; first | (subst c1_0; rfl) | (subst c1_1; rfl) | (subst c1_2; rfl) | (subst c1_3; rfl) | (subst c1_4; rfl) | (subst c1_5; rfl) | (subst c1_6; rfl) | (subst c1_7; rfl) | (subst c1_8; rfl) | (subst c1_9; rfl) | (rw [if_neg c1_0, if_neg c1_1, if_neg c1_2, if_neg c1_3, if_neg c1_4, if_neg c1_5, if_neg c1_6, if_neg c1_7, if_neg c1_8, if_neg c1_9]; done)), ht⟩) (fun _ h9 => absurd h9 List.not_mem_nil) dX11_firstOf_88
set_option maxHeartbeats 4000000 in
set_option maxRecDepth 100000 in
theorem c_X11_leastOf (l : Launch) (D : va_G) (cI cS : ClassId) (x : Int32)  : Met l yX11_leastOf wsX11_leastOf ({ frames := 0, cells := 0, slots := 0, locals := 0 }) (ftRO D cI cS [.int x] []) (vp_Si (fun o9 => o9 = ftLeast x)) 0 0 (fun _ => False) := by
  refine Met.ofW (cc := cX11_leastOf) (maxL := 1) (ret := (some .int)) (by decide) rfl ?_
  intro p e s m args below meth c s₁ B hml hv
  obtain ⟨rfl, hP, hKK⟩ := hv
  have hK := hKK.1
  have hx := B.exec
  have hb := B.bytes
  have hr := B.returns
  have hts := atoms_spec (ws := wsX11_leastOf) B.pre
  have hown : s.vm.findClass RX11 = some m.cls := findClass_of_methodNamed B.named
  have hlocks := B.notSynchronized
  have hP : va_P D vwCl [] s.heap := hP
  have hl := lv_entry ([.int x]) (n := 1) (Nat.le_of_ble_eq_true rfl)
  rw [lg_entry_eq]
  generalize (lg_sl ([.int x]) ++ List.replicate (1 - (lg_sl ([.int x])).length) Slot.unset).toArray = ls at hl ⊢
  have hl : lv_has ls 1 [(0, .int x)] := hl
  refine lv_iload_n hx hb dX11_leastOf_0 rfl (lv_at hl 0 rfl) ?_
  refine lv_if_eq (tgt := 9) hx hb dX11_leastOf_1 (by decide) (fun c1 => ?_) (fun c1 => ?_)
  · refine lv_iconst (v := 1) hx hb dX11_leastOf_9 (by decide) ?_
    refine lv_goto (tgt := 45) hx hb dX11_leastOf_10 (by decide) ?_
    exact W.iret (v := 1) hx hb hr (fun t ht hW => ⟨1, rfl, (by show (1 : Int32) = ftLeast x; unfold ftLeast; first | (rw [if_pos (Or.inl c1)]; done) | (rw [if_pos (Or.inr c6)]; done) | (rw [if_neg (not_or.mpr ⟨c1, c6⟩), if_pos c15]; done) | (rw [if_neg (not_or.mpr ⟨c1, c6⟩), if_neg c15, if_pos c26]; done) | (rw [if_neg (not_or.mpr ⟨c1, c6⟩), if_neg c15, if_neg c26, if_pos c37]; done) | (rw [if_neg (not_or.mpr ⟨c1, c6⟩), if_neg c15, if_neg c26, if_neg c37]; done)), ht⟩) (fun _ h9 => absurd h9 List.not_mem_nil) dX11_leastOf_45
  · refine lv_iload_n hx hb dX11_leastOf_4 rfl (lv_at hl 0 rfl) ?_
    refine lv_iconst (v := 4) hx hb dX11_leastOf_5 (by decide) ?_
    refine lv_icmp_ne (tgt := 13) hx hb dX11_leastOf_6 (by decide) (fun c6 => ?_) (fun c6 => ?_)
    · refine lv_iload_n hx hb dX11_leastOf_13 rfl (lv_at hl 0 rfl) ?_
      refine lv_iconst (v := 1) hx hb dX11_leastOf_14 (by decide) ?_
      refine lv_icmp_ne (tgt := 23) hx hb dX11_leastOf_15 (by decide) (fun c15 => ?_) (fun c15 => ?_)
      · refine lv_iload_n hx hb dX11_leastOf_23 rfl (lv_at hl 0 rfl) ?_
        refine lv_bipush (v := 6) hx hb dX11_leastOf_24 (by decide) ?_
        refine lv_icmp_ne (tgt := 34) hx hb dX11_leastOf_26 (by decide) (fun c26 => ?_) (fun c26 => ?_)
        · refine lv_iload_n hx hb dX11_leastOf_34 rfl (lv_at hl 0 rfl) ?_
          refine lv_bipush (v := 7) hx hb dX11_leastOf_35 (by decide) ?_
          refine lv_icmp_ne (tgt := 44) hx hb dX11_leastOf_37 (by decide) (fun c37 => ?_) (fun c37 => ?_)
          · refine lv_iconst (v := 0) hx hb dX11_leastOf_44 (by decide) ?_
            exact W.iret (v := 0) hx hb hr (fun t ht hW => ⟨0, rfl, (by show (0 : Int32) = ftLeast x; unfold ftLeast; first | (rw [if_pos (Or.inl c1)]; done) | (rw [if_pos (Or.inr c6)]; done) | (rw [if_neg (not_or.mpr ⟨c1, c6⟩), if_pos c15]; done) | (rw [if_neg (not_or.mpr ⟨c1, c6⟩), if_neg c15, if_pos c26]; done) | (rw [if_neg (not_or.mpr ⟨c1, c6⟩), if_neg c15, if_neg c26, if_pos c37]; done) | (rw [if_neg (not_or.mpr ⟨c1, c6⟩), if_neg c15, if_neg c26, if_neg c37]; done)), ht⟩) (fun _ h9 => absurd h9 List.not_mem_nil) dX11_leastOf_45
          · refine lv_iconst (v := 5) hx hb dX11_leastOf_40 (by decide) ?_
            refine lv_goto (tgt := 45) hx hb dX11_leastOf_41 (by decide) ?_
            exact W.iret (v := 5) hx hb hr (fun t ht hW => ⟨5, rfl, (by show (5 : Int32) = ftLeast x; unfold ftLeast; first | (rw [if_pos (Or.inl c1)]; done) | (rw [if_pos (Or.inr c6)]; done) | (rw [if_neg (not_or.mpr ⟨c1, c6⟩), if_pos c15]; done) | (rw [if_neg (not_or.mpr ⟨c1, c6⟩), if_neg c15, if_pos c26]; done) | (rw [if_neg (not_or.mpr ⟨c1, c6⟩), if_neg c15, if_neg c26, if_pos c37]; done) | (rw [if_neg (not_or.mpr ⟨c1, c6⟩), if_neg c15, if_neg c26, if_neg c37]; done)), ht⟩) (fun _ h9 => absurd h9 List.not_mem_nil) dX11_leastOf_45
        · refine lv_bipush (v := 10) hx hb dX11_leastOf_29 (by decide) ?_
          refine lv_goto (tgt := 45) hx hb dX11_leastOf_31 (by decide) ?_
          exact W.iret (v := 10) hx hb hr (fun t ht hW => ⟨10, rfl, (by show (10 : Int32) = ftLeast x; unfold ftLeast; first | (rw [if_pos (Or.inl c1)]; done) | (rw [if_pos (Or.inr c6)]; done) | (rw [if_neg (not_or.mpr ⟨c1, c6⟩), if_pos c15]; done) | (rw [if_neg (not_or.mpr ⟨c1, c6⟩), if_neg c15, if_pos c26]; done) | (rw [if_neg (not_or.mpr ⟨c1, c6⟩), if_neg c15, if_neg c26, if_pos c37]; done) | (rw [if_neg (not_or.mpr ⟨c1, c6⟩), if_neg c15, if_neg c26, if_neg c37]; done)), ht⟩) (fun _ h9 => absurd h9 List.not_mem_nil) dX11_leastOf_45
      · refine lv_bipush (v := 100) hx hb dX11_leastOf_18 (by decide) ?_
        refine lv_goto (tgt := 45) hx hb dX11_leastOf_20 (by decide) ?_
        exact W.iret (v := 100) hx hb hr (fun t ht hW => ⟨100, rfl, (by show (100 : Int32) = ftLeast x; unfold ftLeast; first | (rw [if_pos (Or.inl c1)]; done) | (rw [if_pos (Or.inr c6)]; done) | (rw [if_neg (not_or.mpr ⟨c1, c6⟩), if_pos c15]; done) | (rw [if_neg (not_or.mpr ⟨c1, c6⟩), if_neg c15, if_pos c26]; done) | (rw [if_neg (not_or.mpr ⟨c1, c6⟩), if_neg c15, if_neg c26, if_pos c37]; done) | (rw [if_neg (not_or.mpr ⟨c1, c6⟩), if_neg c15, if_neg c26, if_neg c37]; done)), ht⟩) (fun _ h9 => absurd h9 List.not_mem_nil) dX11_leastOf_45
    · refine lv_iconst (v := 1) hx hb dX11_leastOf_9 (by decide) ?_
      refine lv_goto (tgt := 45) hx hb dX11_leastOf_10 (by decide) ?_
      exact W.iret (v := 1) hx hb hr (fun t ht hW => ⟨1, rfl, (by show (1 : Int32) = ftLeast x; unfold ftLeast; first | (rw [if_pos (Or.inl c1)]; done) | (rw [if_pos (Or.inr c6)]; done) | (rw [if_neg (not_or.mpr ⟨c1, c6⟩), if_pos c15]; done) | (rw [if_neg (not_or.mpr ⟨c1, c6⟩), if_neg c15, if_pos c26]; done) | (rw [if_neg (not_or.mpr ⟨c1, c6⟩), if_neg c15, if_neg c26, if_pos c37]; done) | (rw [if_neg (not_or.mpr ⟨c1, c6⟩), if_neg c15, if_neg c26, if_neg c37]; done)), ht⟩) (fun _ h9 => absurd h9 List.not_mem_nil) dX11_leastOf_45
set_option maxHeartbeats 4000000 in
set_option maxRecDepth 100000 in
theorem c_X11_mostOf (l : Launch) (D : va_G) (cI cS : ClassId) (x : Int32)  : Met l yX11_mostOf wsX11_mostOf ({ frames := 0, cells := 0, slots := 0, locals := 0 }) (ftRO D cI cS [.int x] []) (vp_Si (fun o9 => o9 = ftMost x)) 0 0 (fun _ => False) := by
  refine Met.ofW (cc := cX11_mostOf) (maxL := 1) (ret := (some .int)) (by decide) rfl ?_
  intro p e s m args below meth c s₁ B hml hv
  obtain ⟨rfl, hP, hKK⟩ := hv
  have hK := hKK.1
  have hx := B.exec
  have hb := B.bytes
  have hr := B.returns
  have hts := atoms_spec (ws := wsX11_mostOf) B.pre
  have hown : s.vm.findClass RX11 = some m.cls := findClass_of_methodNamed B.named
  have hlocks := B.notSynchronized
  have hP : va_P D vwCl [] s.heap := hP
  have hl := lv_entry ([.int x]) (n := 1) (Nat.le_of_ble_eq_true rfl)
  rw [lg_entry_eq]
  generalize (lg_sl ([.int x]) ++ List.replicate (1 - (lg_sl ([.int x])).length) Slot.unset).toArray = ls at hl ⊢
  have hl : lv_has ls 1 [(0, .int x)] := hl
  refine lv_iload_n hx hb dX11_mostOf_0 rfl (lv_at hl 0 rfl) ?_
  by_cases c1_0 : x = 0
  · refine lv_tableIn (off := 55) (tgt := 56) hx hb dX11_mostOf_1 (by rw [c1_0]; decide) (by rw [c1_0]; decide) (by rw [c1_0]; decide) (by decide) ?_
    refine lv_bipush (v := 20) hx hb dX11_mostOf_56 (by decide) ?_
    exact W.iret (v := 20) hx hb hr (fun t ht hW => ⟨20, rfl, (by show (20 : Int32) = ftMost x; unfold ftMost; first | (subst c1_0; rfl) | (subst c1_1; rfl) | (subst c1_2; rfl) | (subst c1_3; rfl) | (subst c1_4; rfl) | (subst c1_5; rfl) | (subst c1_6; rfl) | (subst c1_7; rfl) | (subst c1_8; rfl) | (subst c1_9; rfl) | (rw [if_neg c1_0, if_neg c1_1, if_neg c1_2, if_neg c1_3, if_neg c1_4, if_neg c1_5, if_neg c1_6, if_neg c1_7, if_neg c1_8, if_neg c1_9]; done)), ht⟩) (fun _ h9 => absurd h9 List.not_mem_nil) dX11_mostOf_58
  by_cases c1_1 : x = 1
  · refine lv_tableIn (off := 58) (tgt := 59) hx hb dX11_mostOf_1 (by rw [c1_1]; decide) (by rw [c1_1]; decide) (by rw [c1_1]; decide) (by decide) ?_
    refine lv_sipush (v := 5000) hx hb dX11_mostOf_59 (by decide) ?_
    exact W.iret (v := 5000) hx hb hr (fun t ht hW => ⟨5000, rfl, (by show (5000 : Int32) = ftMost x; unfold ftMost; first | (subst c1_0; rfl) | (subst c1_1; rfl) | (subst c1_2; rfl) | (subst c1_3; rfl) | (subst c1_4; rfl) | (subst c1_5; rfl) | (subst c1_6; rfl) | (subst c1_7; rfl) | (subst c1_8; rfl) | (subst c1_9; rfl) | (rw [if_neg c1_0, if_neg c1_1, if_neg c1_2, if_neg c1_3, if_neg c1_4, if_neg c1_5, if_neg c1_6, if_neg c1_7, if_neg c1_8, if_neg c1_9]; done)), ht⟩) (fun _ h9 => absurd h9 List.not_mem_nil) dX11_mostOf_62
  by_cases c1_2 : x = 2
  · refine lv_tableIn (off := 62) (tgt := 63) hx hb dX11_mostOf_1 (by rw [c1_2]; decide) (by rw [c1_2]; decide) (by rw [c1_2]; decide) (by decide) ?_
    refine lv_ldc (v := 40000) hx hb hown (hts (.constant RX11 80 40000) (by decide +kernel)) dX11_mostOf_63 ?_
    exact W.iret (v := 40000) hx hb hr (fun t ht hW => ⟨40000, rfl, (by show (40000 : Int32) = ftMost x; unfold ftMost; first | (subst c1_0; rfl) | (subst c1_1; rfl) | (subst c1_2; rfl) | (subst c1_3; rfl) | (subst c1_4; rfl) | (subst c1_5; rfl) | (subst c1_6; rfl) | (subst c1_7; rfl) | (subst c1_8; rfl) | (subst c1_9; rfl) | (rw [if_neg c1_0, if_neg c1_1, if_neg c1_2, if_neg c1_3, if_neg c1_4, if_neg c1_5, if_neg c1_6, if_neg c1_7, if_neg c1_8, if_neg c1_9]; done)), ht⟩) (fun _ h9 => absurd h9 List.not_mem_nil) dX11_mostOf_65
  by_cases c1_3 : x = 3
  · refine lv_tableIn (off := 65) (tgt := 66) hx hb dX11_mostOf_1 (by rw [c1_3]; decide) (by rw [c1_3]; decide) (by rw [c1_3]; decide) (by decide) ?_
    refine lv_sipush (v := 400) hx hb dX11_mostOf_66 (by decide) ?_
    exact W.iret (v := 400) hx hb hr (fun t ht hW => ⟨400, rfl, (by show (400 : Int32) = ftMost x; unfold ftMost; first | (subst c1_0; rfl) | (subst c1_1; rfl) | (subst c1_2; rfl) | (subst c1_3; rfl) | (subst c1_4; rfl) | (subst c1_5; rfl) | (subst c1_6; rfl) | (subst c1_7; rfl) | (subst c1_8; rfl) | (subst c1_9; rfl) | (rw [if_neg c1_0, if_neg c1_1, if_neg c1_2, if_neg c1_3, if_neg c1_4, if_neg c1_5, if_neg c1_6, if_neg c1_7, if_neg c1_8, if_neg c1_9]; done)), ht⟩) (fun _ h9 => absurd h9 List.not_mem_nil) dX11_mostOf_69
  by_cases c1_4 : x = 4
  · refine lv_tableIn (off := 69) (tgt := 70) hx hb dX11_mostOf_1 (by rw [c1_4]; decide) (by rw [c1_4]; decide) (by rw [c1_4]; decide) (by decide) ?_
    refine lv_bipush (v := 32) hx hb dX11_mostOf_70 (by decide) ?_
    exact W.iret (v := 32) hx hb hr (fun t ht hW => ⟨32, rfl, (by show (32 : Int32) = ftMost x; unfold ftMost; first | (subst c1_0; rfl) | (subst c1_1; rfl) | (subst c1_2; rfl) | (subst c1_3; rfl) | (subst c1_4; rfl) | (subst c1_5; rfl) | (subst c1_6; rfl) | (subst c1_7; rfl) | (subst c1_8; rfl) | (subst c1_9; rfl) | (rw [if_neg c1_0, if_neg c1_1, if_neg c1_2, if_neg c1_3, if_neg c1_4, if_neg c1_5, if_neg c1_6, if_neg c1_7, if_neg c1_8, if_neg c1_9]; done)), ht⟩) (fun _ h9 => absurd h9 List.not_mem_nil) dX11_mostOf_72
  by_cases c1_5 : x = 5
  · refine lv_tableIn (off := 72) (tgt := 73) hx hb dX11_mostOf_1 (by rw [c1_5]; decide) (by rw [c1_5]; decide) (by rw [c1_5]; decide) (by decide) ?_
    refine lv_ldc (v := 65535) hx hb hown (hts (.constant RX11 81 65535) (by decide +kernel)) dX11_mostOf_73 ?_
    exact W.iret (v := 65535) hx hb hr (fun t ht hW => ⟨65535, rfl, (by show (65535 : Int32) = ftMost x; unfold ftMost; first | (subst c1_0; rfl) | (subst c1_1; rfl) | (subst c1_2; rfl) | (subst c1_3; rfl) | (subst c1_4; rfl) | (subst c1_5; rfl) | (subst c1_6; rfl) | (subst c1_7; rfl) | (subst c1_8; rfl) | (subst c1_9; rfl) | (rw [if_neg c1_0, if_neg c1_1, if_neg c1_2, if_neg c1_3, if_neg c1_4, if_neg c1_5, if_neg c1_6, if_neg c1_7, if_neg c1_8, if_neg c1_9]; done)), ht⟩) (fun _ h9 => absurd h9 List.not_mem_nil) dX11_mostOf_75
  by_cases c1_6 : x = 6
  · refine lv_tableIn (off := 58) (tgt := 59) hx hb dX11_mostOf_1 (by rw [c1_6]; decide) (by rw [c1_6]; decide) (by rw [c1_6]; decide) (by decide) ?_
    refine lv_sipush (v := 5000) hx hb dX11_mostOf_59 (by decide) ?_
    exact W.iret (v := 5000) hx hb hr (fun t ht hW => ⟨5000, rfl, (by show (5000 : Int32) = ftMost x; unfold ftMost; first | (subst c1_0; rfl) | (subst c1_1; rfl) | (subst c1_2; rfl) | (subst c1_3; rfl) | (subst c1_4; rfl) | (subst c1_5; rfl) | (subst c1_6; rfl) | (subst c1_7; rfl) | (subst c1_8; rfl) | (subst c1_9; rfl) | (rw [if_neg c1_0, if_neg c1_1, if_neg c1_2, if_neg c1_3, if_neg c1_4, if_neg c1_5, if_neg c1_6, if_neg c1_7, if_neg c1_8, if_neg c1_9]; done)), ht⟩) (fun _ h9 => absurd h9 List.not_mem_nil) dX11_mostOf_62
  by_cases c1_7 : x = 7
  · refine lv_tableIn (off := 75) (tgt := 76) hx hb dX11_mostOf_1 (by rw [c1_7]; decide) (by rw [c1_7]; decide) (by rw [c1_7]; decide) (by decide) ?_
    refine lv_sipush (v := 2000) hx hb dX11_mostOf_76 (by decide) ?_
    exact W.iret (v := 2000) hx hb hr (fun t ht hW => ⟨2000, rfl, (by show (2000 : Int32) = ftMost x; unfold ftMost; first | (subst c1_0; rfl) | (subst c1_1; rfl) | (subst c1_2; rfl) | (subst c1_3; rfl) | (subst c1_4; rfl) | (subst c1_5; rfl) | (subst c1_6; rfl) | (subst c1_7; rfl) | (subst c1_8; rfl) | (subst c1_9; rfl) | (rw [if_neg c1_0, if_neg c1_1, if_neg c1_2, if_neg c1_3, if_neg c1_4, if_neg c1_5, if_neg c1_6, if_neg c1_7, if_neg c1_8, if_neg c1_9]; done)), ht⟩) (fun _ h9 => absurd h9 List.not_mem_nil) dX11_mostOf_79
  by_cases c1_8 : x = 8
  · refine lv_tableIn (off := 62) (tgt := 63) hx hb dX11_mostOf_1 (by rw [c1_8]; decide) (by rw [c1_8]; decide) (by rw [c1_8]; decide) (by decide) ?_
    refine lv_ldc (v := 40000) hx hb hown (hts (.constant RX11 80 40000) (by decide +kernel)) dX11_mostOf_63 ?_
    exact W.iret (v := 40000) hx hb hr (fun t ht hW => ⟨40000, rfl, (by show (40000 : Int32) = ftMost x; unfold ftMost; first | (subst c1_0; rfl) | (subst c1_1; rfl) | (subst c1_2; rfl) | (subst c1_3; rfl) | (subst c1_4; rfl) | (subst c1_5; rfl) | (subst c1_6; rfl) | (subst c1_7; rfl) | (subst c1_8; rfl) | (subst c1_9; rfl) | (rw [if_neg c1_0, if_neg c1_1, if_neg c1_2, if_neg c1_3, if_neg c1_4, if_neg c1_5, if_neg c1_6, if_neg c1_7, if_neg c1_8, if_neg c1_9]; done)), ht⟩) (fun _ h9 => absurd h9 List.not_mem_nil) dX11_mostOf_65
  by_cases c1_9 : x = 9
  · refine lv_tableIn (off := 55) (tgt := 56) hx hb dX11_mostOf_1 (by rw [c1_9]; decide) (by rw [c1_9]; decide) (by rw [c1_9]; decide) (by decide) ?_
    refine lv_bipush (v := 20) hx hb dX11_mostOf_56 (by decide) ?_
    exact W.iret (v := 20) hx hb hr (fun t ht hW => ⟨20, rfl, (by show (20 : Int32) = ftMost x; unfold ftMost; first | (subst c1_0; rfl) | (subst c1_1; rfl) | (subst c1_2; rfl) | (subst c1_3; rfl) | (subst c1_4; rfl) | (subst c1_5; rfl) | (subst c1_6; rfl) | (subst c1_7; rfl) | (subst c1_8; rfl) | (subst c1_9; rfl) | (rw [if_neg c1_0, if_neg c1_1, if_neg c1_2, if_neg c1_3, if_neg c1_4, if_neg c1_5, if_neg c1_6, if_neg c1_7, if_neg c1_8, if_neg c1_9]; done)), ht⟩) (fun _ h9 => absurd h9 List.not_mem_nil) dX11_mostOf_58
  have c1_0i := lv_neT (a := 0) c1_0 (by decide)
  have c1_1i := lv_neT (a := 1) c1_1 (by decide)
  have c1_2i := lv_neT (a := 2) c1_2 (by decide)
  have c1_3i := lv_neT (a := 3) c1_3 (by decide)
  have c1_4i := lv_neT (a := 4) c1_4 (by decide)
  have c1_5i := lv_neT (a := 5) c1_5 (by decide)
  have c1_6i := lv_neT (a := 6) c1_6 (by decide)
  have c1_7i := lv_neT (a := 7) c1_7 (by decide)
  have c1_8i := lv_neT (a := 8) c1_8 (by decide)
  have c1_9i := lv_neT (a := 9) c1_9 (by decide)
  refine lv_tableOut (tgt := 76) hx hb dX11_mostOf_1 (by omega) (by decide) ?_
  refine lv_sipush (v := 2000) hx hb dX11_mostOf_76 (by decide) ?_
  exact W.iret (v := 2000) hx hb hr (fun t ht hW => ⟨2000, rfl, (by show (2000 : Int32) = ftMost x; unfold ftMost; first | (subst c1_0; rfl) | (subst c1_1; rfl) | (subst c1_2; rfl) | (subst c1_3; rfl) | (subst c1_4; rfl) | (subst c1_5; rfl) | (subst c1_6; rfl) | (subst c1_7; rfl) | (subst c1_8; rfl) | (subst c1_9; rfl) | (rw [if_neg c1_0, if_neg c1_1, if_neg c1_2, if_neg c1_3, if_neg c1_4, if_neg c1_5, if_neg c1_6, if_neg c1_7, if_neg c1_8, if_neg c1_9]; done)), ht⟩) (fun _ h9 => absurd h9 List.not_mem_nil) dX11_mostOf_79
set_option maxHeartbeats 4000000 in
set_option maxRecDepth 100000 in
theorem c_X11_in (l : Launch) (D : va_G) (cI cS : ClassId) (v lo hi : Int64)  : Met l yX11_in wsX11_in ({ frames := 0, cells := 0, slots := 0, locals := 0 }) (ftRO D cI cS [.long v, .long lo, .long hi] []) (vp_Si (fun o9 => o9 = ftB (lo ≤ v ∧ v ≤ hi))) 0 0 (fun _ => False) := by
  refine Met.ofW (cc := cX11_in) (maxL := 6) (ret := (some .boolean)) (by decide) rfl ?_
  intro p e s m args below meth c s₁ B hml hv
  obtain ⟨rfl, hP, hKK⟩ := hv
  have hK := hKK.1
  have hx := B.exec
  have hb := B.bytes
  have hr := B.returns
  have hts := atoms_spec (ws := wsX11_in) B.pre
  have hown : s.vm.findClass RX11 = some m.cls := findClass_of_methodNamed B.named
  have hlocks := B.notSynchronized
  have hP : va_P D vwCl [] s.heap := hP
  have hl := lv_entry ([.long v, .long lo, .long hi]) (n := 6) (Nat.le_of_ble_eq_true rfl)
  rw [lg_entry_eq]
  generalize (lg_sl ([.long v, .long lo, .long hi]) ++ List.replicate (6 - (lg_sl ([.long v, .long lo, .long hi])).length) Slot.unset).toArray = ls at hl ⊢
  have hl : lv_has ls 6 [(0, .long v), (2, .long lo), (4, .long hi)] := hl
  refine lv_lload_n hx hb dX11_in_0 rfl (lv_at hl 0 rfl) ?_
  refine lv_lload_n hx hb dX11_in_1 rfl (lv_at hl 1 rfl) ?_
  refine W.lcmp hx hb dX11_in_2 ?_
  refine lv_if_lt (tgt := 17) hx hb dX11_in_3 (by decide) (fun c3 => ?_) (fun c3 => ?_)
  · refine lv_iconst (v := 0) hx hb dX11_in_17 (by decide) ?_
    exact W.zret (v := 0) hx hb hr (by rfl) (fun t ht hW => ⟨0, rfl, (by show (0 : Int32) = ftB (lo ≤ v ∧ v ≤ hi); first | exact (ftB_t ⟨Int64.not_lt.mp (fun q => c3 ((lg_cmp_lt _ _).mpr q)), Int64.not_lt.mp (fun q => c10 ((lg_cmp_gt _ _).mpr q))⟩).symm | exact (ftB_f (fun q => absurd ((lg_cmp_gt _ _).mp c10) (Int64.not_lt.mpr q.2))).symm | exact (ftB_f (fun q => absurd ((lg_cmp_lt _ _).mp c3) (Int64.not_lt.mpr q.1))).symm), ht⟩) (fun _ h9 => absurd h9 List.not_mem_nil) dX11_in_18
  · refine lv_lload_n hx hb dX11_in_6 rfl (lv_at hl 0 rfl) ?_
    refine lv_lload hx hb dX11_in_7 (lv_at hl 2 rfl) ?_
    refine W.lcmp hx hb dX11_in_9 ?_
    refine lv_if_gt (tgt := 17) hx hb dX11_in_10 (by decide) (fun c10 => ?_) (fun c10 => ?_)
    · refine lv_iconst (v := 0) hx hb dX11_in_17 (by decide) ?_
      exact W.zret (v := 0) hx hb hr (by rfl) (fun t ht hW => ⟨0, rfl, (by show (0 : Int32) = ftB (lo ≤ v ∧ v ≤ hi); first | exact (ftB_t ⟨Int64.not_lt.mp (fun q => c3 ((lg_cmp_lt _ _).mpr q)), Int64.not_lt.mp (fun q => c10 ((lg_cmp_gt _ _).mpr q))⟩).symm | exact (ftB_f (fun q => absurd ((lg_cmp_gt _ _).mp c10) (Int64.not_lt.mpr q.2))).symm | exact (ftB_f (fun q => absurd ((lg_cmp_lt _ _).mp c3) (Int64.not_lt.mpr q.1))).symm), ht⟩) (fun _ h9 => absurd h9 List.not_mem_nil) dX11_in_18
    · refine lv_iconst (v := 1) hx hb dX11_in_13 (by decide) ?_
      refine lv_goto (tgt := 18) hx hb dX11_in_14 (by decide) ?_
      exact W.zret (v := 1) hx hb hr (by rfl) (fun t ht hW => ⟨1, rfl, (by show (1 : Int32) = ftB (lo ≤ v ∧ v ≤ hi); first | exact (ftB_t ⟨Int64.not_lt.mp (fun q => c3 ((lg_cmp_lt _ _).mpr q)), Int64.not_lt.mp (fun q => c10 ((lg_cmp_gt _ _).mpr q))⟩).symm | exact (ftB_f (fun q => absurd ((lg_cmp_gt _ _).mp c10) (Int64.not_lt.mpr q.2))).symm | exact (ftB_f (fun q => absurd ((lg_cmp_lt _ _).mp c3) (Int64.not_lt.mpr q.1))).symm), ht⟩) (fun _ h9 => absurd h9 List.not_mem_nil) dX11_in_18
set_option maxHeartbeats 4000000 in
set_option maxRecDepth 100000 in
theorem c_X11_sizeOf (l : Launch) (D : va_G) (cI cS : ClassId) (x : Int32)  : Met l yX11_sizeOf wsX11_sizeOf ({ frames := 0, cells := 0, slots := 0, locals := 0 }) (ftRO D cI cS [.int x] []) (vp_Si (fun o9 => o9 = ftSz x)) 0 0 (fun _ => False) := by
  refine Met.ofW (cc := cX11_sizeOf) (maxL := 1) (ret := (some .int)) (by decide) rfl ?_
  intro p e s m args below meth c s₁ B hml hv
  obtain ⟨rfl, hP, hKK⟩ := hv
  have hK := hKK.1
  have hx := B.exec
  have hb := B.bytes
  have hr := B.returns
  have hts := atoms_spec (ws := wsX11_sizeOf) B.pre
  have hown : s.vm.findClass RX11 = some m.cls := findClass_of_methodNamed B.named
  have hlocks := B.notSynchronized
  have hP : va_P D vwCl [] s.heap := hP
  have hl := lv_entry ([.int x]) (n := 1) (Nat.le_of_ble_eq_true rfl)
  rw [lg_entry_eq]
  generalize (lg_sl ([.int x]) ++ List.replicate (1 - (lg_sl ([.int x])).length) Slot.unset).toArray = ls at hl ⊢
  have hl : lv_has ls 1 [(0, .int x)] := hl
  refine lv_iload_n hx hb dX11_sizeOf_0 rfl (lv_at hl 0 rfl) ?_
  refine lv_if_ge (tgt := 9) hx hb dX11_sizeOf_1 (by decide) (fun c1 => ?_) (fun c1 => ?_)
  · refine lv_iload_n hx hb dX11_sizeOf_9 rfl (lv_at hl 0 rfl) ?_
    exact W.iret (v := x) hx hb hr (fun t ht hW => ⟨x, rfl, (by show (x : Int32) = ftSz x; unfold ftSz; first | (rw [if_neg (Int32.not_lt.mpr c1)]; done) | (rw [if_pos (Int32.not_le.mp c1)]; done)), ht⟩) (fun _ h9 => absurd h9 List.not_mem_nil) dX11_sizeOf_10
  · refine lv_iload_n hx hb dX11_sizeOf_4 rfl (lv_at hl 0 rfl) ?_
    refine lv_ineg hx hb dX11_sizeOf_5 ?_
    refine lv_goto (tgt := 10) hx hb dX11_sizeOf_6 (by decide) ?_
    exact W.iret (v := -x) hx hb hr (fun t ht hW => ⟨-x, rfl, (by show (-x : Int32) = ftSz x; unfold ftSz; first | (rw [if_neg (Int32.not_lt.mpr c1)]; done) | (rw [if_pos (Int32.not_le.mp c1)]; done)), ht⟩) (fun _ h9 => absurd h9 List.not_mem_nil) dX11_sizeOf_10
set_option maxHeartbeats 4000000 in
set_option maxRecDepth 100000 in
theorem c_X11_setting (l : Launch) (D : va_G) (cI cS : ClassId) (m0 p0 p1 p3 p5 p10 p12 p13 p14 p16 p17 p19 p20 p21 p22 p25 p26 p27 p28 p29 p30 p31 p32 : Nat) (i2 i4 i6 i7 i8 i9 i11 i15 i18 i23 i24 : Int32) (w : Nat → Int32) (j : Nat) (hj : j < 1000) : Met l yX11_setting wsX11_setting ({ frames := 0, cells := 0, slots := 0, locals := 0 }) (ftRO D cI cS [.ref m0, .int (nI j)] [(m0, .inr (11, [.ref p0, .ref p1, .int i2, .ref p3, .int i4, .ref p5, .int i6, .int i7, .int i8, .int i9, .ref p10, .int i11, .ref p12, .ref p13, .ref p14, .int i15, .ref p16, .ref p17, .int i18, .ref p19, .ref p20, .ref p21, .ref p22, .int i23, .int i24, .ref p25, .ref p26, .ref p27, .ref p28, .ref p29, .ref p30, .ref p31, .ref p32])), (p0, .inl (cI, 1439, .inl w))]) (vp_Si (fun o9 => o9 = w (44 + j))) 0 0 (fun _ => False) := by
  refine Met.ofW (cc := cX11_setting) (maxL := 2) (ret := (some .int)) (by decide) rfl ?_
  intro p e s m args below meth c s₁ B hml hv
  obtain ⟨rfl, hP, hKK⟩ := hv
  have hK := hKK.1
  have hx := B.exec
  have hb := B.bytes
  have hr := B.returns
  have hts := atoms_spec (ws := wsX11_setting) B.pre
  have hown : s.vm.findClass RX11 = some m.cls := findClass_of_methodNamed B.named
  have hlocks := B.notSynchronized
  have hP : va_P D vwCl [(m0, .inr (11, [.ref p0, .ref p1, .int i2, .ref p3, .int i4, .ref p5, .int i6, .int i7, .int i8, .int i9, .ref p10, .int i11, .ref p12, .ref p13, .ref p14, .int i15, .ref p16, .ref p17, .int i18, .ref p19, .ref p20, .ref p21, .ref p22, .int i23, .int i24, .ref p25, .ref p26, .ref p27, .ref p28, .ref p29, .ref p30, .ref p31, .ref p32])), (p0, .inl (cI, 1439, .inl w))] s.heap := hP
  have hl := lv_entry ([.ref m0, .int (nI j)]) (n := 2) (Nat.le_of_ble_eq_true rfl)
  rw [lg_entry_eq]
  generalize (lg_sl ([.ref m0, .int (nI j)]) ++ List.replicate (2 - (lg_sl ([.ref m0, .int (nI j)])).length) Slot.unset).toArray = ls at hl ⊢
  have hl : lv_has ls 2 [(0, .ref m0), (1, .int (nI j))] := hl
  refine lv_aload_n hx hb dX11_setting_0 rfl (lv_at hl 0 rfl) ?_
  refine va_get (D := D) (ci := 11) (v := .ref p0) (C := RX11) (T := TX11) (N := 33) hx hb hts (by decide +kernel) hown hK hP 0 rfl rfl 0 (by decide) (hts (.fieldLink RX11 7 "FiberTraceModel" "now" "[I") (by decide +kernel)) (fun _ h9 => h9) rfl dX11_setting_1 ?_
  refine lv_bipush (v := 44) hx hb dX11_setting_4 (by decide) ?_
  refine lv_iload_n hx hb dX11_setting_6 rfl (lv_at hl 1 rfl) ?_
  refine lv_iadd hx hb dX11_setting_7 ?_
  refine ft_top (y := nI (44 + j)) (ft_addN 44 j) ?_
  refine va_iald hx hb hK hP 1 0 rfl rfl (vp_in_nI (by omega) (by omega)) dX11_setting_8 ?_
  refine ft_top (y := w (44 + j)) (ft_clampN (by omega)) ?_
  exact W.iret (v := w (44 + j)) hx hb hr (fun t ht hW => ⟨w (44 + j), rfl, rfl, ht⟩) (fun _ h9 => absurd h9 List.not_mem_nil) dX11_setting_9
set_option maxHeartbeats 4000000 in
set_option maxRecDepth 100000 in
theorem c_X11_at (l : Launch) (D : va_G) (cI cS : ClassId) (m0 p0 p1 p3 p5 p10 p12 p13 p14 p16 p17 p19 p20 p21 p22 p25 p26 p27 p28 p29 p30 p31 p32 : Nat) (i2 i4 i6 i7 i8 i9 i11 i15 i18 i23 i24 : Int32) (w : Nat → Int32) (k j : Nat) (hk : k < 10) (hj : j < 4) : Met l yX11_at wsX11_at ({ frames := 0, cells := 0, slots := 0, locals := 0 }) (ftRO D cI cS [.ref m0, .int (nI k), .int (nI j)] [(m0, .inr (11, [.ref p0, .ref p1, .int i2, .ref p3, .int i4, .ref p5, .int i6, .int i7, .int i8, .int i9, .ref p10, .int i11, .ref p12, .ref p13, .ref p14, .int i15, .ref p16, .ref p17, .int i18, .ref p19, .ref p20, .ref p21, .ref p22, .int i23, .int i24, .ref p25, .ref p26, .ref p27, .ref p28, .ref p29, .ref p30, .ref p31, .ref p32])), (p0, .inl (cI, 1439, .inl w))]) (vp_Si (fun o9 => o9 = w (4 + 4 * k + j))) 0 0 (fun _ => False) := by
  refine Met.ofW (cc := cX11_at) (maxL := 3) (ret := (some .int)) (by decide) rfl ?_
  intro p e s m args below meth c s₁ B hml hv
  obtain ⟨rfl, hP, hKK⟩ := hv
  have hK := hKK.1
  have hx := B.exec
  have hb := B.bytes
  have hr := B.returns
  have hts := atoms_spec (ws := wsX11_at) B.pre
  have hown : s.vm.findClass RX11 = some m.cls := findClass_of_methodNamed B.named
  have hlocks := B.notSynchronized
  have hP : va_P D vwCl [(m0, .inr (11, [.ref p0, .ref p1, .int i2, .ref p3, .int i4, .ref p5, .int i6, .int i7, .int i8, .int i9, .ref p10, .int i11, .ref p12, .ref p13, .ref p14, .int i15, .ref p16, .ref p17, .int i18, .ref p19, .ref p20, .ref p21, .ref p22, .int i23, .int i24, .ref p25, .ref p26, .ref p27, .ref p28, .ref p29, .ref p30, .ref p31, .ref p32])), (p0, .inl (cI, 1439, .inl w))] s.heap := hP
  have hl := lv_entry ([.ref m0, .int (nI k), .int (nI j)]) (n := 3) (Nat.le_of_ble_eq_true rfl)
  rw [lg_entry_eq]
  generalize (lg_sl ([.ref m0, .int (nI k), .int (nI j)]) ++ List.replicate (3 - (lg_sl ([.ref m0, .int (nI k), .int (nI j)])).length) Slot.unset).toArray = ls at hl ⊢
  have hl : lv_has ls 3 [(0, .ref m0), (1, .int (nI k)), (2, .int (nI j))] := hl
  refine lv_aload_n hx hb dX11_at_0 rfl (lv_at hl 0 rfl) ?_
  refine va_get (D := D) (ci := 11) (v := .ref p0) (C := RX11) (T := TX11) (N := 33) hx hb hts (by decide +kernel) hown hK hP 0 rfl rfl 0 (by decide) (hts (.fieldLink RX11 7 "FiberTraceModel" "now" "[I") (by decide +kernel)) (fun _ h9 => h9) rfl dX11_at_1 ?_
  refine lv_iconst (v := 4) hx hb dX11_at_4 (by decide) ?_
  refine lv_iconst (v := 4) hx hb dX11_at_5 (by decide) ?_
  refine lv_iload_n hx hb dX11_at_6 rfl (lv_at hl 1 rfl) ?_
  refine lv_imul hx hb dX11_at_7 ?_
  refine ft_top (y := nI (4 * k)) (ft_mulN 4 k) ?_
  refine lv_iadd hx hb dX11_at_8 ?_
  refine ft_top (y := nI (4 + (4 * k))) (ft_addN 4 (4 * k)) ?_
  refine lv_iload_n hx hb dX11_at_9 rfl (lv_at hl 2 rfl) ?_
  refine lv_iadd hx hb dX11_at_10 ?_
  refine ft_top (y := nI ((4 + (4 * k)) + j)) (ft_addN (4 + (4 * k)) j) ?_
  refine va_iald hx hb hK hP 1 0 rfl rfl (vp_in_nI (by omega) (by omega)) dX11_at_11 ?_
  refine ft_top (y := w ((4 + (4 * k)) + j)) (ft_clampN (by omega)) ?_
  exact W.iret (v := w ((4 + (4 * k)) + j)) hx hb hr (fun t ht hW => ⟨w ((4 + (4 * k)) + j), rfl, rfl, ht⟩) (fun _ h9 => absurd h9 List.not_mem_nil) dX11_at_12
set_option maxHeartbeats 4000000 in
set_option maxRecDepth 100000 in
theorem c_X11_samples (l : Launch) (D : va_G) (cI cS : ClassId) (m0 p0 p1 p3 p5 p10 p12 p13 p14 p16 p17 p19 p20 p21 p22 p25 p26 p27 p28 p29 p30 p31 p32 : Nat) (i2 i4 i6 i7 i8 i9 i11 i15 i18 i23 i24 : Int32) (w : Nat → Int32) (ln : Nat) (hw0 : w 0 = nI ln) : Met l yX11_samples wsX11_samples ({ frames := 0, cells := 0, slots := 0, locals := 0 }) (ftRO D cI cS [.ref m0] [(m0, .inr (11, [.ref p0, .ref p1, .int i2, .ref p3, .int i4, .ref p5, .int i6, .int i7, .int i8, .int i9, .ref p10, .int i11, .ref p12, .ref p13, .ref p14, .int i15, .ref p16, .ref p17, .int i18, .ref p19, .ref p20, .ref p21, .ref p22, .int i23, .int i24, .ref p25, .ref p26, .ref p27, .ref p28, .ref p29, .ref p30, .ref p31, .ref p32])), (p0, .inl (cI, 1439, .inl w))]) (vp_Si (fun o9 => o9 = nI (ln + 60))) 0 0 (fun _ => False) := by
  refine Met.ofW (cc := cX11_samples) (maxL := 1) (ret := (some .int)) (by decide) rfl ?_
  intro p e s m args below meth c s₁ B hml hv
  obtain ⟨rfl, hP, hKK⟩ := hv
  have hK := hKK.1
  have hx := B.exec
  have hb := B.bytes
  have hr := B.returns
  have hts := atoms_spec (ws := wsX11_samples) B.pre
  have hown : s.vm.findClass RX11 = some m.cls := findClass_of_methodNamed B.named
  have hlocks := B.notSynchronized
  have hP : va_P D vwCl [(m0, .inr (11, [.ref p0, .ref p1, .int i2, .ref p3, .int i4, .ref p5, .int i6, .int i7, .int i8, .int i9, .ref p10, .int i11, .ref p12, .ref p13, .ref p14, .int i15, .ref p16, .ref p17, .int i18, .ref p19, .ref p20, .ref p21, .ref p22, .int i23, .int i24, .ref p25, .ref p26, .ref p27, .ref p28, .ref p29, .ref p30, .ref p31, .ref p32])), (p0, .inl (cI, 1439, .inl w))] s.heap := hP
  have hl := lv_entry ([.ref m0]) (n := 1) (Nat.le_of_ble_eq_true rfl)
  rw [lg_entry_eq]
  generalize (lg_sl ([.ref m0]) ++ List.replicate (1 - (lg_sl ([.ref m0])).length) Slot.unset).toArray = ls at hl ⊢
  have hl : lv_has ls 1 [(0, .ref m0)] := hl
  refine lv_aload_n hx hb dX11_samples_0 rfl (lv_at hl 0 rfl) ?_
  refine va_get (D := D) (ci := 11) (v := .ref p0) (C := RX11) (T := TX11) (N := 33) hx hb hts (by decide +kernel) hown hK hP 0 rfl rfl 0 (by decide) (hts (.fieldLink RX11 7 "FiberTraceModel" "now" "[I") (by decide +kernel)) (fun _ h9 => h9) rfl dX11_samples_1 ?_
  refine lv_iconst (v := 0) hx hb dX11_samples_4 (by decide) ?_
  refine va_iald hx hb hK hP 1 0 rfl rfl (vp_in_nI (n := 0) (by omega) (by omega)) dX11_samples_5 ?_
  refine ft_top (y := w 0) rfl ?_
  refine ft_top (y := nI ln) hw0 ?_
  refine lv_bipush (v := 60) hx hb dX11_samples_6 (by decide) ?_
  refine lv_iadd hx hb dX11_samples_8 ?_
  refine ft_top (y := nI (ln + 60)) (ft_addN ln 60) ?_
  exact W.iret (v := nI (ln + 60)) hx hb hr (fun t ht hW => ⟨nI (ln + 60), rfl, rfl, ht⟩) (fun _ h9 => absurd h9 List.not_mem_nil) dX11_samples_9
set_option maxHeartbeats 4000000 in
set_option maxRecDepth 100000 in
theorem c_X11_v (l : Launch) (D : va_G) (cI cS : ClassId) (m0 p0 p1 p3 p5 p10 p12 p13 p14 p16 p17 p19 p20 p21 p22 p25 p26 p27 p28 p29 p30 p31 p32 : Nat) (i2 i4 i6 i7 i8 i9 i11 i15 i18 i23 i24 : Int32) (fb fp fn : Nat → Int32) (x : Nat) (hx4 : x < 460) : Met l yX11_v wsX11_v ({ frames := 0, cells := 0, slots := 0, locals := 0 }) (ftRO D cI cS [.ref m0, .int (nI x)] [(m0, .inr (11, [.ref p0, .ref p1, .int i2, .ref p3, .int i4, .ref p5, .int i6, .int i7, .int i8, .int i9, .ref p10, .int i11, .ref p12, .ref p13, .ref p14, .int i15, .ref p16, .ref p17, .int i18, .ref p19, .ref p20, .ref p21, .ref p22, .int i23, .int i24, .ref p25, .ref p26, .ref p27, .ref p28, .ref p29, .ref p30, .ref p31, .ref p32])), (p12, .inl (cI, 460, .inl fb)), (p13, .inl (cI, 460, .inl fp)), (p14, .inl (cI, 460, .inl fn))]) (vp_Si (fun o9 => o9 = fb x + fp x + fn x)) 0 0 (fun _ => False) := by
  refine Met.ofW (cc := cX11_v) (maxL := 2) (ret := (some .int)) (by decide) rfl ?_
  intro p e s m args below meth c s₁ B hml hv
  obtain ⟨rfl, hP, hKK⟩ := hv
  have hK := hKK.1
  have hx := B.exec
  have hb := B.bytes
  have hr := B.returns
  have hts := atoms_spec (ws := wsX11_v) B.pre
  have hown : s.vm.findClass RX11 = some m.cls := findClass_of_methodNamed B.named
  have hlocks := B.notSynchronized
  have hP : va_P D vwCl [(m0, .inr (11, [.ref p0, .ref p1, .int i2, .ref p3, .int i4, .ref p5, .int i6, .int i7, .int i8, .int i9, .ref p10, .int i11, .ref p12, .ref p13, .ref p14, .int i15, .ref p16, .ref p17, .int i18, .ref p19, .ref p20, .ref p21, .ref p22, .int i23, .int i24, .ref p25, .ref p26, .ref p27, .ref p28, .ref p29, .ref p30, .ref p31, .ref p32])), (p12, .inl (cI, 460, .inl fb)), (p13, .inl (cI, 460, .inl fp)), (p14, .inl (cI, 460, .inl fn))] s.heap := hP
  have hl := lv_entry ([.ref m0, .int (nI x)]) (n := 2) (Nat.le_of_ble_eq_true rfl)
  rw [lg_entry_eq]
  generalize (lg_sl ([.ref m0, .int (nI x)]) ++ List.replicate (2 - (lg_sl ([.ref m0, .int (nI x)])).length) Slot.unset).toArray = ls at hl ⊢
  have hl : lv_has ls 2 [(0, .ref m0), (1, .int (nI x))] := hl
  refine lv_aload_n hx hb dX11_v_0 rfl (lv_at hl 0 rfl) ?_
  refine va_get (D := D) (ci := 11) (v := .ref p12) (C := RX11) (T := TX11) (N := 33) hx hb hts (by decide +kernel) hown hK hP 0 rfl rfl 12 (by decide) (hts (.fieldLink RX11 25 "FiberTraceModel" "base" "[I") (by decide +kernel)) (fun _ h9 => h9) rfl dX11_v_1 ?_
  refine lv_iload_n hx hb dX11_v_4 rfl (lv_at hl 1 rfl) ?_
  refine va_iald hx hb hK hP 1 0 rfl rfl (vp_in_nI (by omega) (by omega)) dX11_v_5 ?_
  refine ft_top (y := fb x) (ft_clampN (by omega)) ?_
  refine lv_aload_n hx hb dX11_v_6 rfl (lv_at hl 0 rfl) ?_
  refine va_get (D := D) (ci := 11) (v := .ref p13) (C := RX11) (T := TX11) (N := 33) hx hb hts (by decide +kernel) hown hK hP 0 rfl rfl 13 (by decide) (hts (.fieldLink RX11 28 "FiberTraceModel" "peak" "[I") (by decide +kernel)) (fun _ h9 => h9) rfl dX11_v_7 ?_
  refine lv_iload_n hx hb dX11_v_10 rfl (lv_at hl 1 rfl) ?_
  refine va_iald hx hb hK hP 2 0 rfl rfl (vp_in_nI (by omega) (by omega)) dX11_v_11 ?_
  refine ft_top (y := fp x) (ft_clampN (by omega)) ?_
  refine lv_iadd hx hb dX11_v_12 ?_
  refine lv_aload_n hx hb dX11_v_13 rfl (lv_at hl 0 rfl) ?_
  refine va_get (D := D) (ci := 11) (v := .ref p14) (C := RX11) (T := TX11) (N := 33) hx hb hts (by decide +kernel) hown hK hP 0 rfl rfl 14 (by decide) (hts (.fieldLink RX11 31 "FiberTraceModel" "noise" "[I") (by decide +kernel)) (fun _ h9 => h9) rfl dX11_v_14 ?_
  refine lv_iload_n hx hb dX11_v_17 rfl (lv_at hl 1 rfl) ?_
  refine va_iald hx hb hK hP 3 0 rfl rfl (vp_in_nI (by omega) (by omega)) dX11_v_18 ?_
  refine ft_top (y := fn x) (ft_clampN (by omega)) ?_
  refine lv_iadd hx hb dX11_v_19 ?_
  exact W.iret (v := ((fb x) + (fp x)) + (fn x)) hx hb hr (fun t ht hW => ⟨((fb x) + (fp x)) + (fn x), rfl, rfl, ht⟩) (fun _ h9 => absurd h9 List.not_mem_nil) dX11_v_20
set_option maxHeartbeats 4000000 in
set_option maxRecDepth 100000 in
theorem c_X11_isPart (l : Launch) (D : va_G) (cI cS : ClassId) (m0 p0 p1 p3 p5 p10 p12 p13 p14 p16 p17 p19 p20 p21 p22 p25 p26 p27 p28 p29 p30 p31 p32 : Nat) (i2 i4 i6 i7 i8 i9 i11 i15 i18 i23 i24 : Int32) (w : Nat → Int32) (x : Int32)  : Met l yX11_isPart wsX11_isPart ({ frames := 1, cells := 0, slots := 0, locals := 25 }) (ftRO D cI cS [.ref m0, .int x] [(m0, .inr (11, [.ref p0, .ref p1, .int i2, .ref p3, .int i4, .ref p5, .int i6, .int i7, .int i8, .int i9, .ref p10, .int i11, .ref p12, .ref p13, .ref p14, .int i15, .ref p16, .ref p17, .int i18, .ref p19, .ref p20, .ref p21, .ref p22, .int i23, .int i24, .ref p25, .ref p26, .ref p27, .ref p28, .ref p29, .ref p30, .ref p31, .ref p32])), (p0, .inl (cI, 1439, .inl w))]) (vp_Si (fun o9 => o9 = ftB (0 ≤ x ∧ x ≤ w 3 - 1))) 0 0 (fun _ => False) := by
  refine Met.ofW (cc := cX11_isPart) (maxL := 2) (ret := (some .boolean)) (by decide) rfl ?_
  intro p e s m args below meth c s₁ B hml hv
  obtain ⟨rfl, hP, hKK⟩ := hv
  have hK := hKK.1
  have hx := B.exec
  have hb := B.bytes
  have hr := B.returns
  have hts := atoms_spec (ws := wsX11_isPart) B.pre
  have hown : s.vm.findClass RX11 = some m.cls := findClass_of_methodNamed B.named
  have hlocks := B.notSynchronized
  have hP : va_P D vwCl [(m0, .inr (11, [.ref p0, .ref p1, .int i2, .ref p3, .int i4, .ref p5, .int i6, .int i7, .int i8, .int i9, .ref p10, .int i11, .ref p12, .ref p13, .ref p14, .int i15, .ref p16, .ref p17, .int i18, .ref p19, .ref p20, .ref p21, .ref p22, .int i23, .int i24, .ref p25, .ref p26, .ref p27, .ref p28, .ref p29, .ref p30, .ref p31, .ref p32])), (p0, .inl (cI, 1439, .inl w))] s.heap := hP
  have hl := lv_entry ([.ref m0, .int x]) (n := 2) (Nat.le_of_ble_eq_true rfl)
  rw [lg_entry_eq]
  generalize (lg_sl ([.ref m0, .int x]) ++ List.replicate (2 - (lg_sl ([.ref m0, .int x])).length) Slot.unset).toArray = ls at hl ⊢
  have hl : lv_has ls 2 [(0, .ref m0), (1, .int x)] := hl
  refine lv_iload_n hx hb dX11_isPart_0 rfl (lv_at hl 1 rfl) ?_
  refine lv_i2l (v := x.toInt64) hx hb dX11_isPart_1 rfl ?_
  refine lv_lconst (v := 0) hx hb dX11_isPart_2 (by decide) ?_
  refine lv_aload_n hx hb dX11_isPart_3 rfl (lv_at hl 0 rfl) ?_
  refine va_get (D := D) (ci := 11) (v := .ref p0) (C := RX11) (T := TX11) (N := 33) hx hb hts (by decide +kernel) hown hK hP 0 rfl rfl 0 (by decide) (hts (.fieldLink RX11 7 "FiberTraceModel" "now" "[I") (by decide +kernel)) (fun _ h9 => h9) rfl dX11_isPart_4 ?_
  refine lv_iconst (v := 3) hx hb dX11_isPart_7 (by decide) ?_
  refine va_iald hx hb hK hP 1 0 rfl rfl (vp_in_nI (n := 3) (by omega) (by omega)) dX11_isPart_8 ?_
  refine ft_top (y := w 3) rfl ?_
  refine lv_iconst (v := 1) hx hb dX11_isPart_9 (by decide) ?_
  refine lv_isub hx hb dX11_isPart_10 ?_
  refine lv_i2l (v := ((w 3) - 1).toInt64) hx hb dX11_isPart_11 rfl ?_
  refine ft_csi (r := ftB (0 ≤ x.toInt64 ∧ x.toInt64 ≤ (((w 3) - 1).toInt64))) (va_runS (As := [.long x.toInt64, .long 0, .long (((w 3) - 1).toInt64)]) (rest := []) ⟨hx, hb, hml, hown, hts⟩ (c_X11_in l D cI cS x.toInt64 0 (((w 3) - 1).toInt64)) (va_cwS 3 hts gX11_isPart_X11_in rfl rfl rfl (by decide +kernel) ⟨Nat.le_of_ble_eq_true rfl, Nat.le_of_ble_eq_true rfl⟩) (ft_preRO hP hKK [] rfl) rfl rfl hl.1 rfl (lv_room (Nat.le_of_ble_eq_true rfl)) dX11_isPart_12 ⟨Nat.le_of_ble_eq_true rfl, Nat.le_of_ble_eq_true rfl⟩) ?_
  refine ft_top (y := ftB (0 ≤ x ∧ x ≤ ((w 3) - 1))) (ft_in64 (by decide) (Int32.toInt_toInt64 _)) ?_
  exact W.zret (v := ftB (0 ≤ x ∧ x ≤ ((w 3) - 1))) hx hb hr (by first | rfl | exact ftB_nar) (fun t ht hW => ⟨ftB (0 ≤ x ∧ x ≤ ((w 3) - 1)), rfl, rfl, ht⟩) (fun _ h9 => absurd h9 List.not_mem_nil) dX11_isPart_15
set_option maxHeartbeats 4000000 in
set_option maxRecDepth 100000 in
theorem c_X11_partAt (l : Launch) (D : va_G) (cI cS : ClassId) (m0 p0 p1 p3 p5 p10 p12 p13 p14 p16 p17 p19 p20 p21 p22 p25 p26 p27 p28 p29 p30 p31 p32 : Nat) (i2 i4 i6 i7 i8 i9 i11 i15 i18 i23 i24 : Int32) (w : Nat → Int32) (x : Int32) (n : Nat) (hw3 : w 3 = nI n) (hn : n ≤ 10) : Met l yX11_partAt wsX11_partAt ({ frames := 1, cells := 0, slots := 0, locals := 22 }) (ftRO D cI cS [.ref m0, .int x] [(m0, .inr (11, [.ref p0, .ref p1, .int i2, .ref p3, .int i4, .ref p5, .int i6, .int i7, .int i8, .int i9, .ref p10, .int i11, .ref p12, .ref p13, .ref p14, .int i15, .ref p16, .ref p17, .int i18, .ref p19, .ref p20, .ref p21, .ref p22, .int i23, .int i24, .ref p25, .ref p26, .ref p27, .ref p28, .ref p29, .ref p30, .ref p31, .ref p32])), (p0, .inl (cI, 1439, .inl w))]) (vp_Si (fun o9 => o9 = ftPa w x n)) 0 0 (fun _ => False) := by
  refine Met.ofW (cc := cX11_partAt) (maxL := 4) (ret := (some .int)) (by decide) rfl ?_
  intro p e s m args below meth c s₁ B hml hv
  obtain ⟨rfl, hP, hKK⟩ := hv
  have hK := hKK.1
  have hx := B.exec
  have hb := B.bytes
  have hr := B.returns
  have hts := atoms_spec (ws := wsX11_partAt) B.pre
  have hown : s.vm.findClass RX11 = some m.cls := findClass_of_methodNamed B.named
  have hlocks := B.notSynchronized
  have hP : va_P D vwCl [(m0, .inr (11, [.ref p0, .ref p1, .int i2, .ref p3, .int i4, .ref p5, .int i6, .int i7, .int i8, .int i9, .ref p10, .int i11, .ref p12, .ref p13, .ref p14, .int i15, .ref p16, .ref p17, .int i18, .ref p19, .ref p20, .ref p21, .ref p22, .int i23, .int i24, .ref p25, .ref p26, .ref p27, .ref p28, .ref p29, .ref p30, .ref p31, .ref p32])), (p0, .inl (cI, 1439, .inl w))] s.heap := hP
  have hl := lv_entry ([.ref m0, .int x]) (n := 4) (Nat.le_of_ble_eq_true rfl)
  rw [lg_entry_eq]
  generalize (lg_sl ([.ref m0, .int x]) ++ List.replicate (4 - (lg_sl ([.ref m0, .int x])).length) Slot.unset).toArray = ls at hl ⊢
  have hl : lv_has ls 4 [(0, .ref m0), (1, .int x)] := hl
  refine lv_iconst (v := (-1)) hx hb dX11_partAt_0 (by decide) ?_
  refine lv_istore_n (lv' := [(2, .int (-1)), (0, .ref m0), (1, .int x)]) hx hb dX11_partAt_1 rfl hl (by decide) rfl (fun ls hl => ?_)
  refine lv_iconst (v := 0) hx hb dX11_partAt_2 (by decide) ?_
  refine lv_istore_n (lv' := [(3, .int 0), (2, .int (-1)), (0, .ref m0), (1, .int x)]) hx hb dX11_partAt_3 rfl hl (by decide) rfl (fun ls hl => ?_)
  have lp4 : ∀ (n4 : Nat) (k : Nat) (x4_2 : Int32) (x4_3 : Int32), n - k < n4 → (k ≤ n) → x4_2 = ftPa w x k → x4_3 = nI k → ∀ ls : Array Slot, lv_has ls 4 [(0, .ref m0), (1, .int x), (2, .int x4_2), (3, .int x4_3)] → W p l e (headSpec wsX11_partAt { frames := 1, cells := 0, slots := 0, locals := 22 }).room s m ([.ref m0, .int x] : List Value).toArray below meth c s.heap [] 0 0 (MQ below (vp_Si (fun o9 => o9 = ftPa w x n)) ([.ref m0, .int x] : List Value).toArray s 0 0 (fun _ => False)) (F0 m 4 ls []) := by
    intro n4
    induction n4 with
    | zero =>
      intro k x4_2 x4_3  hm4
      exact absurd hm4 (Nat.not_lt_zero _)
    | succ n4 ih4 =>
      intro k x4_2 x4_3  hm4 hkn ex4_2 ex4_3  ls hl
      subst ex4_3
      refine lv_iload_n hx hb dX11_partAt_4 rfl (lv_at hl 3 rfl) ?_
      refine lv_aload_n hx hb dX11_partAt_5 rfl (lv_at hl 0 rfl) ?_
      refine va_get (D := D) (ci := 11) (v := .ref p0) (C := RX11) (T := TX11) (N := 33) hx hb hts (by decide +kernel) hown hK hP 0 rfl rfl 0 (by decide) (hts (.fieldLink RX11 7 "FiberTraceModel" "now" "[I") (by decide +kernel)) (fun _ h9 => h9) rfl dX11_partAt_6 ?_
      refine lv_iconst (v := 3) hx hb dX11_partAt_9 (by decide) ?_
      refine va_iald hx hb hK hP 1 0 rfl rfl (vp_in_nI (n := 3) (by omega) (by omega)) dX11_partAt_10 ?_
      refine ft_top (y := w 3) rfl ?_
      refine ft_top (y := nI n) hw3 ?_
      refine lv_icmp_ge (tgt := 36) hx hb dX11_partAt_11 (by decide) (fun c11 => ?_) (fun c11 => ?_)
      · have c11n : n ≤ k := ft_leN (by omega) (by omega) c11
        refine lv_iload_n hx hb dX11_partAt_36 rfl (lv_at hl 2 rfl) ?_
        exact W.iret (v := x4_2) hx hb hr (fun t ht hW => ⟨x4_2, rfl, (by show (x4_2 : Int32) = ftPa w x n; (obtain rfl : k = n := by omega); exact ex4_2), ht⟩) (fun _ h9 => absurd h9 List.not_mem_nil) dX11_partAt_37
      · have c11n : k < n := ft_nleN (by omega) (by omega) c11
        refine lv_aload_n hx hb dX11_partAt_14 rfl (lv_at hl 0 rfl) ?_
        refine lv_iload_n hx hb dX11_partAt_15 rfl (lv_at hl 3 rfl) ?_
        refine lv_iconst (v := 1) hx hb dX11_partAt_16 (by decide) ?_
        refine ft_csi (r := w (4 + 4 * k + 1)) (va_runV (C := RX11) (As := [.int (nI k), .int 1]) (rest := []) ⟨hx, hb, hml, hown, hts⟩ (c_X11_at l D cI cS m0 p0 p1 p3 p5 p10 p12 p13 p14 p16 p17 p19 p20 p21 p22 p25 p26 p27 p28 p29 p30 p31 p32 i2 i4 i6 i7 i8 i9 i11 i15 i18 i23 i24 w k 1 (by first | assumption | omega) (by first | assumption | omega)) (cwV 2 hts gX11_partAt_X11_at rfl rfl rfl (by decide +kernel) ⟨Nat.le_of_ble_eq_true rfl, Nat.le_of_ble_eq_true rfl⟩) (ft_preROV (ci := 11) (q0 := 0) hP hKK [0, 1] rfl rfl rfl) rfl rfl hl.1 rfl (lv_room (Nat.le_of_ble_eq_true rfl)) dX11_partAt_17 ⟨Nat.le_of_ble_eq_true rfl, Nat.le_of_ble_eq_true rfl⟩) ?_
        refine lv_iload_n hx hb dX11_partAt_20 rfl (lv_at hl 1 rfl) ?_
        refine lv_icmp_ne (tgt := 28) hx hb dX11_partAt_21 (by decide) (fun c21 => ?_) (fun c21 => ?_)
        · refine lv_iload_n hx hb dX11_partAt_28 rfl (lv_at hl 2 rfl) ?_
          refine lv_istore_n (lv' := [(2, .int x4_2), (0, .ref m0), (1, .int x), (3, .int (nI k))]) hx hb dX11_partAt_29 rfl hl (by decide) rfl (fun ls hl => ?_)
          refine lv_iinc (v := nI (k + 1)) (lv' := [(3, .int (nI (k + 1))), (2, .int x4_2), (0, .ref m0), (1, .int x)]) hx hb dX11_partAt_30 hl (k := 3) rfl (ft_inc k) (by decide) rfl (fun ls hl => ?_)
          refine lv_goto (tgt := 4) hx hb dX11_partAt_33 (by decide) ?_
          exact ih4 (k + 1) x4_2 (nI (k + 1))  (by omega) (by omega) (by rw [ftPa]; first | exact (if_pos c21).symm | (rw [if_neg c21]; exact ex4_2)) (by first | rfl | assumption)  ls (lv_sub hl [2, 3, 1, 0] rfl)
        · refine lv_iload_n hx hb dX11_partAt_24 rfl (lv_at hl 3 rfl) ?_
          refine lv_goto (tgt := 29) hx hb dX11_partAt_25 (by decide) ?_
          refine lv_istore_n (lv' := [(2, .int (nI k)), (0, .ref m0), (1, .int x), (3, .int (nI k))]) hx hb dX11_partAt_29 rfl hl (by decide) rfl (fun ls hl => ?_)
          refine lv_iinc (v := nI (k + 1)) (lv' := [(3, .int (nI (k + 1))), (2, .int (nI k)), (0, .ref m0), (1, .int x)]) hx hb dX11_partAt_30 hl (k := 3) rfl (ft_inc k) (by decide) rfl (fun ls hl => ?_)
          refine lv_goto (tgt := 4) hx hb dX11_partAt_33 (by decide) ?_
          exact ih4 (k + 1) (nI k) (nI (k + 1))  (by omega) (by omega) (by rw [ftPa]; first | exact (if_pos c21).symm | (rw [if_neg c21]; exact ex4_2)) (by first | rfl | assumption)  ls (lv_sub hl [2, 3, 1, 0] rfl)
  exact lp4 _ 0 (-1) 0  (Nat.lt_succ_self _) (by omega) (by rfl) (by rfl) ls (lv_sub hl [2, 3, 1, 0] rfl)
set_option maxHeartbeats 4000000 in
set_option maxRecDepth 100000 in
theorem c_X11_fadeAt (l : Launch) (D : va_G) (cI cS : ClassId) (m0 p0 p1 p3 p5 p10 p12 p13 p14 p16 p17 p19 p20 p21 p22 p25 p26 p27 p28 p29 p30 p31 p32 : Nat) (i2 i4 i6 i7 i8 i9 i11 i15 i18 i23 i24 : Int32) (w : Nat → Int32) (x : Int32) (n : Nat) (hw3 : w 3 = nI n) (hn : n ≤ 10) : Met l yX11_fadeAt wsX11_fadeAt ({ frames := 1, cells := 0, slots := 0, locals := 22 }) (ftRO D cI cS [.ref m0, .int x] [(m0, .inr (11, [.ref p0, .ref p1, .int i2, .ref p3, .int i4, .ref p5, .int i6, .int i7, .int i8, .int i9, .ref p10, .int i11, .ref p12, .ref p13, .ref p14, .int i15, .ref p16, .ref p17, .int i18, .ref p19, .ref p20, .ref p21, .ref p22, .int i23, .int i24, .ref p25, .ref p26, .ref p27, .ref p28, .ref p29, .ref p30, .ref p31, .ref p32])), (p0, .inl (cI, 1439, .inl w))]) (vp_Si (fun o9 => o9 = ftFw w x n)) 0 0 (fun _ => False) := by
  refine Met.ofW (cc := cX11_fadeAt) (maxL := 4) (ret := (some .int)) (by decide) rfl ?_
  intro p e s m args below meth c s₁ B hml hv
  obtain ⟨rfl, hP, hKK⟩ := hv
  have hK := hKK.1
  have hx := B.exec
  have hb := B.bytes
  have hr := B.returns
  have hts := atoms_spec (ws := wsX11_fadeAt) B.pre
  have hown : s.vm.findClass RX11 = some m.cls := findClass_of_methodNamed B.named
  have hlocks := B.notSynchronized
  have hP : va_P D vwCl [(m0, .inr (11, [.ref p0, .ref p1, .int i2, .ref p3, .int i4, .ref p5, .int i6, .int i7, .int i8, .int i9, .ref p10, .int i11, .ref p12, .ref p13, .ref p14, .int i15, .ref p16, .ref p17, .int i18, .ref p19, .ref p20, .ref p21, .ref p22, .int i23, .int i24, .ref p25, .ref p26, .ref p27, .ref p28, .ref p29, .ref p30, .ref p31, .ref p32])), (p0, .inl (cI, 1439, .inl w))] s.heap := hP
  have hl := lv_entry ([.ref m0, .int x]) (n := 4) (Nat.le_of_ble_eq_true rfl)
  rw [lg_entry_eq]
  generalize (lg_sl ([.ref m0, .int x]) ++ List.replicate (4 - (lg_sl ([.ref m0, .int x])).length) Slot.unset).toArray = ls at hl ⊢
  have hl : lv_has ls 4 [(0, .ref m0), (1, .int x)] := hl
  refine lv_aload_n hx hb dX11_fadeAt_0 rfl (lv_at hl 0 rfl) ?_
  refine va_get (D := D) (ci := 11) (v := .ref p0) (C := RX11) (T := TX11) (N := 33) hx hb hts (by decide +kernel) hown hK hP 0 rfl rfl 0 (by decide) (hts (.fieldLink RX11 7 "FiberTraceModel" "now" "[I") (by decide +kernel)) (fun _ h9 => h9) rfl dX11_fadeAt_1 ?_
  refine lv_iconst (v := 1) hx hb dX11_fadeAt_4 (by decide) ?_
  refine va_iald hx hb hK hP 1 0 rfl rfl (vp_in_nI (n := 1) (by omega) (by omega)) dX11_fadeAt_5 ?_
  refine ft_top (y := w 1) rfl ?_
  refine lv_istore_n (lv' := [(2, .int (w 1)), (0, .ref m0), (1, .int x)]) hx hb dX11_fadeAt_6 rfl hl (by decide) rfl (fun ls hl => ?_)
  refine lv_iconst (v := 0) hx hb dX11_fadeAt_7 (by decide) ?_
  refine lv_istore_n (lv' := [(3, .int 0), (2, .int (w 1)), (0, .ref m0), (1, .int x)]) hx hb dX11_fadeAt_8 rfl hl (by decide) rfl (fun ls hl => ?_)
  have lp9 : ∀ (n9 : Nat) (k : Nat) (x9_2 : Int32) (x9_3 : Int32), n - k < n9 → (k ≤ n) → x9_2 = ftFw w x k → x9_3 = nI k → ∀ ls : Array Slot, lv_has ls 4 [(0, .ref m0), (1, .int x), (2, .int x9_2), (3, .int x9_3)] → W p l e (headSpec wsX11_fadeAt { frames := 1, cells := 0, slots := 0, locals := 22 }).room s m ([.ref m0, .int x] : List Value).toArray below meth c s.heap [] 0 0 (MQ below (vp_Si (fun o9 => o9 = ftFw w x n)) ([.ref m0, .int x] : List Value).toArray s 0 0 (fun _ => False)) (F0 m 9 ls []) := by
    intro n9
    induction n9 with
    | zero =>
      intro k x9_2 x9_3  hm9
      exact absurd hm9 (Nat.not_lt_zero _)
    | succ n9 ih9 =>
      intro k x9_2 x9_3  hm9 hkn ex9_2 ex9_3  ls hl
      subst ex9_3
      refine lv_iload_n hx hb dX11_fadeAt_9 rfl (lv_at hl 3 rfl) ?_
      refine lv_aload_n hx hb dX11_fadeAt_10 rfl (lv_at hl 0 rfl) ?_
      refine va_get (D := D) (ci := 11) (v := .ref p0) (C := RX11) (T := TX11) (N := 33) hx hb hts (by decide +kernel) hown hK hP 0 rfl rfl 0 (by decide) (hts (.fieldLink RX11 7 "FiberTraceModel" "now" "[I") (by decide +kernel)) (fun _ h9 => h9) rfl dX11_fadeAt_11 ?_
      refine lv_iconst (v := 3) hx hb dX11_fadeAt_14 (by decide) ?_
      refine va_iald hx hb hK hP 1 0 rfl rfl (vp_in_nI (n := 3) (by omega) (by omega)) dX11_fadeAt_15 ?_
      refine ft_top (y := w 3) rfl ?_
      refine ft_top (y := nI n) hw3 ?_
      refine lv_icmp_ge (tgt := 56) hx hb dX11_fadeAt_16 (by decide) (fun c16 => ?_) (fun c16 => ?_)
      · have c16n : n ≤ k := ft_leN (by omega) (by omega) c16
        refine lv_iload_n hx hb dX11_fadeAt_56 rfl (lv_at hl 2 rfl) ?_
        exact W.iret (v := x9_2) hx hb hr (fun t ht hW => ⟨x9_2, rfl, (by show (x9_2 : Int32) = ftFw w x n; (obtain rfl : k = n := by omega); exact ex9_2), ht⟩) (fun _ h9 => absurd h9 List.not_mem_nil) dX11_fadeAt_57
      · have c16n : k < n := ft_nleN (by omega) (by omega) c16
        refine lv_aload_n hx hb dX11_fadeAt_19 rfl (lv_at hl 0 rfl) ?_
        refine lv_iload_n hx hb dX11_fadeAt_20 rfl (lv_at hl 3 rfl) ?_
        refine lv_iconst (v := 0) hx hb dX11_fadeAt_21 (by decide) ?_
        refine ft_csi (r := w (4 + 4 * k + 0)) (va_runV (C := RX11) (As := [.int (nI k), .int 0]) (rest := []) ⟨hx, hb, hml, hown, hts⟩ (c_X11_at l D cI cS m0 p0 p1 p3 p5 p10 p12 p13 p14 p16 p17 p19 p20 p21 p22 p25 p26 p27 p28 p29 p30 p31 p32 i2 i4 i6 i7 i8 i9 i11 i15 i18 i23 i24 w k 0 (by first | assumption | omega) (by first | assumption | omega)) (cwV 2 hts gX11_fadeAt_X11_at rfl rfl rfl (by decide +kernel) ⟨Nat.le_of_ble_eq_true rfl, Nat.le_of_ble_eq_true rfl⟩) (ft_preROV (ci := 11) (q0 := 0) hP hKK [0, 1] rfl rfl rfl) rfl rfl hl.1 rfl (lv_room (Nat.le_of_ble_eq_true rfl)) dX11_fadeAt_22 ⟨Nat.le_of_ble_eq_true rfl, Nat.le_of_ble_eq_true rfl⟩) ?_
        refine lv_iconst (v := 2) hx hb dX11_fadeAt_25 (by decide) ?_
        refine lv_icmp_ne (tgt := 48) hx hb dX11_fadeAt_26 (by decide) (fun c26 => ?_) (fun c26 => ?_)
        · refine lv_iload_n hx hb dX11_fadeAt_48 rfl (lv_at hl 2 rfl) ?_
          refine lv_istore_n (lv' := [(2, .int x9_2), (0, .ref m0), (1, .int x), (3, .int (nI k))]) hx hb dX11_fadeAt_49 rfl hl (by decide) rfl (fun ls hl => ?_)
          refine lv_iinc (v := nI (k + 1)) (lv' := [(3, .int (nI (k + 1))), (2, .int x9_2), (0, .ref m0), (1, .int x)]) hx hb dX11_fadeAt_50 hl (k := 3) rfl (ft_inc k) (by decide) rfl (fun ls hl => ?_)
          refine lv_goto (tgt := 9) hx hb dX11_fadeAt_53 (by decide) ?_
          exact ih9 (k + 1) x9_2 (nI (k + 1))  (by omega) (by omega) (by first | exact ftFw_t c26 (Int32.not_lt.mp c36) | exact ftFw_2 ex9_2 c36 | exact ftFw_1 ex9_2 c26) (by first | rfl | assumption)  ls (lv_sub hl [2, 3, 1, 0] rfl)
        · refine lv_aload_n hx hb dX11_fadeAt_29 rfl (lv_at hl 0 rfl) ?_
          refine lv_iload_n hx hb dX11_fadeAt_30 rfl (lv_at hl 3 rfl) ?_
          refine lv_iconst (v := 1) hx hb dX11_fadeAt_31 (by decide) ?_
          refine ft_csi (r := w (4 + 4 * k + 1)) (va_runV (C := RX11) (As := [.int (nI k), .int 1]) (rest := []) ⟨hx, hb, hml, hown, hts⟩ (c_X11_at l D cI cS m0 p0 p1 p3 p5 p10 p12 p13 p14 p16 p17 p19 p20 p21 p22 p25 p26 p27 p28 p29 p30 p31 p32 i2 i4 i6 i7 i8 i9 i11 i15 i18 i23 i24 w k 1 (by first | assumption | omega) (by first | assumption | omega)) (cwV 2 hts gX11_fadeAt_X11_at rfl rfl rfl (by decide +kernel) ⟨Nat.le_of_ble_eq_true rfl, Nat.le_of_ble_eq_true rfl⟩) (ft_preROV (ci := 11) (q0 := 0) hP hKK [0, 1] rfl rfl rfl) rfl rfl hl.1 rfl (lv_room (Nat.le_of_ble_eq_true rfl)) dX11_fadeAt_32 ⟨Nat.le_of_ble_eq_true rfl, Nat.le_of_ble_eq_true rfl⟩) ?_
          refine lv_iload_n hx hb dX11_fadeAt_35 rfl (lv_at hl 1 rfl) ?_
          refine lv_icmp_gt (tgt := 48) hx hb dX11_fadeAt_36 (by decide) (fun c36 => ?_) (fun c36 => ?_)
          · refine lv_iload_n hx hb dX11_fadeAt_48 rfl (lv_at hl 2 rfl) ?_
            refine lv_istore_n (lv' := [(2, .int x9_2), (0, .ref m0), (1, .int x), (3, .int (nI k))]) hx hb dX11_fadeAt_49 rfl hl (by decide) rfl (fun ls hl => ?_)
            refine lv_iinc (v := nI (k + 1)) (lv' := [(3, .int (nI (k + 1))), (2, .int x9_2), (0, .ref m0), (1, .int x)]) hx hb dX11_fadeAt_50 hl (k := 3) rfl (ft_inc k) (by decide) rfl (fun ls hl => ?_)
            refine lv_goto (tgt := 9) hx hb dX11_fadeAt_53 (by decide) ?_
            exact ih9 (k + 1) x9_2 (nI (k + 1))  (by omega) (by omega) (by first | exact ftFw_t c26 (Int32.not_lt.mp c36) | exact ftFw_2 ex9_2 c36 | exact ftFw_1 ex9_2 c26) (by first | rfl | assumption)  ls (lv_sub hl [2, 3, 1, 0] rfl)
          · refine lv_aload_n hx hb dX11_fadeAt_39 rfl (lv_at hl 0 rfl) ?_
            refine lv_iload_n hx hb dX11_fadeAt_40 rfl (lv_at hl 3 rfl) ?_
            refine lv_iconst (v := 2) hx hb dX11_fadeAt_41 (by decide) ?_
            refine ft_csi (r := w (4 + 4 * k + 2)) (va_runV (C := RX11) (As := [.int (nI k), .int 2]) (rest := []) ⟨hx, hb, hml, hown, hts⟩ (c_X11_at l D cI cS m0 p0 p1 p3 p5 p10 p12 p13 p14 p16 p17 p19 p20 p21 p22 p25 p26 p27 p28 p29 p30 p31 p32 i2 i4 i6 i7 i8 i9 i11 i15 i18 i23 i24 w k 2 (by first | assumption | omega) (by first | assumption | omega)) (cwV 2 hts gX11_fadeAt_X11_at rfl rfl rfl (by decide +kernel) ⟨Nat.le_of_ble_eq_true rfl, Nat.le_of_ble_eq_true rfl⟩) (ft_preROV (ci := 11) (q0 := 0) hP hKK [0, 1] rfl rfl rfl) rfl rfl hl.1 rfl (lv_room (Nat.le_of_ble_eq_true rfl)) dX11_fadeAt_42 ⟨Nat.le_of_ble_eq_true rfl, Nat.le_of_ble_eq_true rfl⟩) ?_
            refine lv_goto (tgt := 49) hx hb dX11_fadeAt_45 (by decide) ?_
            refine lv_istore_n (lv' := [(2, .int (w (4 + 4 * k + 2))), (0, .ref m0), (1, .int x), (3, .int (nI k))]) hx hb dX11_fadeAt_49 rfl hl (by decide) rfl (fun ls hl => ?_)
            refine lv_iinc (v := nI (k + 1)) (lv' := [(3, .int (nI (k + 1))), (2, .int (w (4 + 4 * k + 2))), (0, .ref m0), (1, .int x)]) hx hb dX11_fadeAt_50 hl (k := 3) rfl (ft_inc k) (by decide) rfl (fun ls hl => ?_)
            refine lv_goto (tgt := 9) hx hb dX11_fadeAt_53 (by decide) ?_
            exact ih9 (k + 1) (w (4 + 4 * k + 2)) (nI (k + 1))  (by omega) (by omega) (by first | exact ftFw_t c26 (Int32.not_lt.mp c36) | exact ftFw_2 ex9_2 c36 | exact ftFw_1 ex9_2 c26) (by first | rfl | assumption)  ls (lv_sub hl [2, 3, 1, 0] rfl)
  exact lp9 _ 0 (w 1) 0  (Nat.lt_succ_self _) (by omega) (by rfl) (by rfl) ls (lv_sub hl [2, 3, 1, 0] rfl)
set_option maxHeartbeats 4000000 in
set_option maxRecDepth 100000 in
theorem c_X11_clearText (l : Launch) (D : va_G) (cI cS : ClassId) (sz : Nat) (m0 p0 p1 p3 p5 p10 p12 p13 p14 p16 p17 p19 p20 p21 p22 p25 p26 p27 p28 p29 p30 p31 p32 : Nat) (i2 i4 i6 i7 i8 i9 i11 i15 i18 i23 i24 : Int32)  : Met l yX11_clearText wsX11_clearText ({ frames := 0, cells := 0, slots := 0, locals := 0 }) (ftRW D cI cS [.ref m0] [(m0, .inr (11, [.ref p0, .ref p1, .int i2, .ref p3, .int i4, .ref p5, .int i6, .int i7, .int i8, .int i9, .ref p10, .int i11, .ref p12, .ref p13, .ref p14, .int i15, .ref p16, .ref p17, .int i18, .ref p19, .ref p20, .ref p21, .ref p22, .int i23, .int i24, .ref p25, .ref p26, .ref p27, .ref p28, .ref p29, .ref p30, .ref p31, .ref p32]))] sz) (ftQi D i4 [(m0, .inr (11, [.ref p0, .ref p1, .int i2, .ref p3, .int i4, .ref p5, .int i6, .int i7, .int i8, .int i9, .ref p10, .int i11, .ref p12, .ref p13, .ref p14, .int i15, .ref p16, .ref p17, .int i18, .ref p19, .ref p20, .ref p21, .ref p22, .int i23, .int i24, .ref p25, .ref p26, .ref p27, .ref p28, .ref p29, .ref p30, .ref p31, .ref p32]))] [(m0, .inr (11, [.ref p0, .ref p1, .int i2, .ref p3, .int 0, .ref p5, .int i6, .int i7, .int i8, .int i9, .ref p10, .int i11, .ref p12, .ref p13, .ref p14, .int i15, .ref p16, .ref p17, .int i18, .ref p19, .ref p20, .ref p21, .ref p22, .int i23, .int i24, .ref p25, .ref p26, .ref p27, .ref p28, .ref p29, .ref p30, .ref p31, .ref p32]))] sz) 0 0 (va_A [(m0, .inr (11, [.ref p0, .ref p1, .int i2, .ref p3, .int i4, .ref p5, .int i6, .int i7, .int i8, .int i9, .ref p10, .int i11, .ref p12, .ref p13, .ref p14, .int i15, .ref p16, .ref p17, .int i18, .ref p19, .ref p20, .ref p21, .ref p22, .int i23, .int i24, .ref p25, .ref p26, .ref p27, .ref p28, .ref p29, .ref p30, .ref p31, .ref p32]))] sz) := by
  refine Met.ofW (cc := cX11_clearText) (maxL := 2) (ret := (some .int)) (by decide) rfl ?_
  intro p e s m args below meth c s₁ B hml hv
  obtain ⟨rfl, hsz, hP, hKK, hD0⟩ := hv
  have hK := hKK.1
  have hx := B.exec
  have hb := B.bytes
  have hr := B.returns
  have hts := atoms_spec (ws := wsX11_clearText) B.pre
  have hown : s.vm.findClass RX11 = some m.cls := findClass_of_methodNamed B.named
  have hlocks := B.notSynchronized
  subst hsz
  have hD := hD0.self (sz := s.heap.size)
  generalize hAe : va_A [(m0, .inr (11, [.ref p0, .ref p1, .int i2, .ref p3, .int i4, .ref p5, .int i6, .int i7, .int i8, .int i9, .ref p10, .int i11, .ref p12, .ref p13, .ref p14, .int i15, .ref p16, .ref p17, .int i18, .ref p19, .ref p20, .ref p21, .ref p22, .int i23, .int i24, .ref p25, .ref p26, .ref p27, .ref p28, .ref p29, .ref p30, .ref p31, .ref p32]))] s.heap.size = A at hD ⊢
  have hA : ∀ q : Nat, s.heap.size ≤ q → A q := fun q h => by rw [← hAe]; exact Or.inr h
  have hS : va_S A s.heap s.heap [] := va_S.rf
  have hD : va_D A [(m0, .inr (11, [.ref p0, .ref p1, .int i2, .ref p3, .int i4, .ref p5, .int i6, .int i7, .int i8, .int i9, .ref p10, .int i11, .ref p12, .ref p13, .ref p14, .int i15, .ref p16, .ref p17, .int i18, .ref p19, .ref p20, .ref p21, .ref p22, .int i23, .int i24, .ref p25, .ref p26, .ref p27, .ref p28, .ref p29, .ref p30, .ref p31, .ref p32]))] := hD
  have hP : va_P D vwCl [(m0, .inr (11, [.ref p0, .ref p1, .int i2, .ref p3, .int i4, .ref p5, .int i6, .int i7, .int i8, .int i9, .ref p10, .int i11, .ref p12, .ref p13, .ref p14, .int i15, .ref p16, .ref p17, .int i18, .ref p19, .ref p20, .ref p21, .ref p22, .int i23, .int i24, .ref p25, .ref p26, .ref p27, .ref p28, .ref p29, .ref p30, .ref p31, .ref p32]))] s.heap := hP
  have hl := lv_entry ([.ref m0]) (n := 2) (Nat.le_of_ble_eq_true rfl)
  rw [lg_entry_eq]
  generalize (lg_sl ([.ref m0]) ++ List.replicate (2 - (lg_sl ([.ref m0])).length) Slot.unset).toArray = ls at hl ⊢
  have hl : lv_has ls 2 [(0, .ref m0)] := hl
  refine lv_aload_n hx hb dX11_clearText_0 rfl (lv_at hl 0 rfl) ?_
  refine va_get (D := D) (ci := 11) (v := .int i4) (C := RX11) (T := TX11) (N := 33) hx hb hts (by decide +kernel) hown hK hP 0 rfl rfl 4 (by decide) (hts (.fieldLink RX11 96 "FiberTraceModel" "length" "I") (by decide +kernel)) (fun _ h9 => h9) rfl dX11_clearText_1 ?_
  refine lv_istore_n (lv' := [(1, .int i4), (0, .ref m0)]) hx hb dX11_clearText_4 rfl hl (by decide) rfl (fun ls hl => ?_)
  refine lv_aload_n hx hb dX11_clearText_5 rfl (lv_at hl 1 rfl) ?_
  refine lv_iconst (v := 0) hx hb dX11_clearText_6 (by decide) ?_
  refine va_put (D := D) (ci := 11) (v := .int 0) (ty := .int) (C := RX11) (T := TX11) (N := 33) hx hb hts (by decide +kernel) tyX11 tyX11_ok nmX11 hown hK hP hD hS 0 rfl rfl 4 (by decide) (hts (.fieldLink RX11 96 "FiberTraceModel" "length" "I") (by decide +kernel)) (fun _ h9 => h9) rfl (by decide +kernel) rfl rfl (Nat.le_of_ble_eq_true rfl) dX11_clearText_7 (fun H locs hP hD hS => ?_)
  have hP : va_P D vwCl [(m0, .inr (11, [.ref p0, .ref p1, .int i2, .ref p3, .int 0, .ref p5, .int i6, .int i7, .int i8, .int i9, .ref p10, .int i11, .ref p12, .ref p13, .ref p14, .int i15, .ref p16, .ref p17, .int i18, .ref p19, .ref p20, .ref p21, .ref p22, .int i23, .int i24, .ref p25, .ref p26, .ref p27, .ref p28, .ref p29, .ref p30, .ref p31, .ref p32]))] H := hP
  have hD : va_D A [(m0, .inr (11, [.ref p0, .ref p1, .int i2, .ref p3, .int 0, .ref p5, .int i6, .int i7, .int i8, .int i9, .ref p10, .int i11, .ref p12, .ref p13, .ref p14, .int i15, .ref p16, .ref p17, .int i18, .ref p19, .ref p20, .ref p21, .ref p22, .int i23, .int i24, .ref p25, .ref p26, .ref p27, .ref p28, .ref p29, .ref p30, .ref p31, .ref p32]))] := hD
  refine lv_iload_n hx hb dX11_clearText_10 rfl (lv_at hl 0 rfl) ?_
  have hw9 : ([(m0, .inr (11, [.ref p0, .ref p1, .int i2, .ref p3, .int 0, .ref p5, .int i6, .int i7, .int i8, .int i9, .ref p10, .int i11, .ref p12, .ref p13, .ref p14, .int i15, .ref p16, .ref p17, .int i18, .ref p19, .ref p20, .ref p21, .ref p22, .int i23, .int i24, .ref p25, .ref p26, .ref p27, .ref p28, .ref p29, .ref p30, .ref p31, .ref p32]))] : va_W) = [(m0, .inr (11, [.ref p0, .ref p1, .int i2, .ref p3, .int 0, .ref p5, .int i6, .int i7, .int i8, .int i9, .ref p10, .int i11, .ref p12, .ref p13, .ref p14, .int i15, .ref p16, .ref p17, .int i18, .ref p19, .ref p20, .ref p21, .ref p22, .int i23, .int i24, .ref p25, .ref p26, .ref p27, .ref p28, .ref p29, .ref p30, .ref p31, .ref p32]))] := rfl
  rw [hw9] at hP hD
  exact W.iret (v := i4) hx hb hr (fun t ht hW => ⟨⟨i4, (), rfl, rfl, by rw [ht]; exact hP, by rw [hAe]; exact hD⟩, by rw [hAe]; exact hS.F ht⟩) hS.2.2 dX11_clearText_11
