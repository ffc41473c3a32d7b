section
/-! kept traces, comparison, states -/
theorem ft_remN {a b : Nat} (ha : a < 2 ^ 31) (hb : 0 < b) (hb2 : b < 2 ^ 31) : ftRemI (nI a) (nI b) = nI (a % b) := by
  have h1 : nI a / nI b = nI (a / b) := by
    refine Int32.toInt_inj.mp ?_
    have hq : a / b ≤ a := Nat.div_le_self a b
    rw [Int32.toInt_div_of_ne_left, nI_toInt ha, nI_toInt hb2, nI_toInt (by omega)]
    · exact (Int.ofNat_tdiv a b).symm
    · intro q
      have := nI_toInt ha
      rw [q] at this
      exact absurd this (by have := Int32.toInt_minValue; omega)
  unfold ftRemI
  have hm : a / b * b ≤ a := Nat.div_mul_le_self a b
  rw [h1, ft_mulN, ft_subN hm]
  congr 1
  have := Nat.div_add_mod a b
  rw [Nat.mul_comm] at this
  omega
theorem ft_xor8 {x : Int32} (h : 0 ≤ x) : 0 ≤ x ^^^ 8 := by
  rw [Int32.le_iff_toInt_le] at h ⊢
  have h1 : x.toBitVec.msb = false := by rw [BitVec.msb_eq_toInt]; exact decide_eq_false (Int.not_lt.mpr h)
  have h2 : (x ^^^ 8).toBitVec.msb = false := by rw [Int32.toBitVec_xor, BitVec.msb_xor, h1]; rfl
  rw [BitVec.msb_eq_toInt] at h2
  exact Int.not_lt.mp (of_decide_eq_false h2)
/-- N places of g in a row from o on -/
def ftSeg (g f : Nat → Int32) (o X : Nat) : Nat → Int32 := fun t => if o ≤ t ∧ t < o + X then g (t - o) else f t
theorem ftSeg_0 (g f : Nat → Int32) (o : Nat) : f = ftSeg g f o 0 := funext fun t => (if_neg (by omega)).symm
theorem ftSeg_s {g f : Nat → Int32} {o X : Nat} : upd (ftSeg g f o X) (o + X) (g X) = ftSeg g f o (X + 1) := by
  funext t
  unfold upd ftSeg
  by_cases q : t = o + X
  · subst q; rw [if_pos rfl, if_pos (by omega), Nat.add_sub_cancel_left]
  · rw [if_neg q]
    by_cases r : o ≤ t ∧ t < o + X
    · rw [if_pos r, if_pos (by omega)]
    · rw [if_neg r, if_neg (by omega)]
abbrev ftCs : Type := Int32 × Int32 × Int32 × Int32
/-- what a comparison notes: first place, how many, the greatest, its place -/
def ftNote (q : ftCs) (x d li : Int32) : ftCs := (if li < d then (if q.1 = -1 then x else q.1) else q.1, if li < d then q.2.1 + 1 else q.2.1, if q.2.2.1 < d then d else q.2.2.1, if q.2.2.1 < d then x else q.2.2.2)
def ftComp (v w : Nat → Int32) (li : Int32) : Nat → ftCs
  | 0 => (-1, 0, 0, 0)
  | x + 1 => ftNote (ftComp v w li x) (nI x) (ftAbs (v x - w x)) li
theorem ft_minN {a b : Nat} (ha : a < 2 ^ 31) (hb : b < 2 ^ 31) : ftMin (nI a) (nI b) = nI (min a b) := by
  unfold ftMin
  by_cases q : nI b < nI a
  · rw [if_pos q, Nat.min_eq_right (Nat.le_of_lt (ft_ltN hb ha q))]
  · rw [if_neg q, Nat.min_eq_left (ft_nltN hb ha q)]
set_option maxHeartbeats 4000000 in
set_option maxRecDepth 100000 in
theorem c_J9_floorMod_7cf53 (l : Launch) (D : va_G) (cI cS : ClassId) (ka : Nat) (hka : ka < 2 ^ 31) : Met l yJ9_floorMod_7cf53 wsJ9_floorMod_7cf53 ({ frames := 0, cells := 0, slots := 0, locals := 0 }) (ftRO D cI cS [.int (nI ka), .int 8] []) (vp_Si (fun o9 => o9 = nI (ka % 8))) 0 0 (fun _ => False) := by
  refine ft_ofWF (cc := cJ9_floorMod_7cf53) (maxL := 3) (ret := (some .int)) (by decide +kernel) rfl ?_
  intro p e s m args below meth c s₁ B hml hv
  obtain ⟨rfl, hP, hKK⟩ := hv
  have hK := hKK.1
  have hx := B.exec
  have hb := B.bytes
  have hr := B.returns
  have hts := atoms_spec (ws := wsJ9_floorMod_7cf53) B.pre
  have hown : s.vm.findClass RJ9 = some m.cls := findClass_of_methodNamed B.named
  have hlocks := B.notSynchronized
  have hP : va_P D vwCl [] s.heap := hP
  have hl := lv_entry ([.int (nI ka), .int 8]) (n := 3) (Nat.le_of_ble_eq_true rfl)
  rw [lg_entry_eq]
  generalize (lg_sl ([.int (nI ka), .int 8]) ++ List.replicate (3 - (lg_sl ([.int (nI ka), .int 8])).length) Slot.unset).toArray = ls at hl ⊢
  have hl : lv_has ls 3 [(0, .int (nI ka)), (1, .int 8)] := hl
  refine lv_iload_n hx hb dJ9_floorMod_7cf53_0 rfl (lv_at hl 0 rfl) ?_
  refine lv_iload_n hx hb dJ9_floorMod_7cf53_1 rfl (lv_at hl 1 rfl) ?_
  refine lv_irem hx hb dJ9_floorMod_7cf53_2 (by decide) ?_
  refine ft_top (y := ftRemI (nI ka) 8) rfl ?_
  refine ft_top (y := nI (ka % 8)) (ft_remN (b := 8) hka (by omega) (by omega)) ?_
  refine lv_istore_n (lv' := [(2, .int (nI (ka % 8))), (0, .int (nI ka)), (1, .int 8)]) hx hb dJ9_floorMod_7cf53_3 rfl hl (by decide) rfl (fun ls hl => ?_)
  refine lv_iload_n hx hb dJ9_floorMod_7cf53_4 rfl (lv_at hl 1 rfl) ?_
  refine lv_iload_n hx hb dJ9_floorMod_7cf53_5 rfl (lv_at hl 2 rfl) ?_
  refine lv_ixor hx hb dJ9_floorMod_7cf53_6 ?_
  refine lv_if_ge (tgt := 18) hx hb dJ9_floorMod_7cf53_7 (by decide) (fun c7 => ?_) (fun c7 => ?_)
  · refine lv_iload_n hx hb dJ9_floorMod_7cf53_18 rfl (lv_at hl 0 rfl) ?_
    exact W.iret (v := nI (ka % 8)) hx hb hr (fun t ht hW => ⟨nI (ka % 8), rfl, rfl, ht⟩) (fun _ h9 => absurd h9 List.not_mem_nil) dJ9_floorMod_7cf53_19
  · exact absurd (ft_xor8 (nI_pos' hka)) c7
set_option maxHeartbeats 4000000 in
set_option maxRecDepth 100000 in
theorem c_X3_sizeOf (l : Launch) (D : va_G) (cI cS : ClassId) (k0 ks kz : Nat) (zf : Nat → Int32) (ka : Nat) (hka : ka < 2 ^ 31) : Met l yX3_sizeOf wsX3_sizeOf ({ frames := 1, cells := 0, slots := 0, locals := 22 }) (ftRO D cI cS [.ref k0, .int (nI ka)] [(k0, .inr (3, [.ref ks, .ref kz])), (kz, .inl (cI, 8, .inl zf))]) (vp_Si (fun o9 => o9 = zf (ka % 8))) 0 0 (fun _ => False) := by
  refine Met.ofW (cc := cX3_sizeOf) (maxL := 2) (ret := (some .int)) (by decide) rfl ?_
  intro p e s m args below meth c s₁ B hml hv
  obtain ⟨rfl, hP, hKK⟩ := hv
  have hK := hKK.1
  have hx := B.exec
  have hb := B.bytes
  have hr := B.returns
  have hts := atoms_spec (ws := wsX3_sizeOf) B.pre
  have hown : s.vm.findClass RX3 = some m.cls := findClass_of_methodNamed B.named
  have hlocks := B.notSynchronized
  have hP : va_P D vwCl [(k0, .inr (3, [.ref ks, .ref kz])), (kz, .inl (cI, 8, .inl zf))] s.heap := hP
  have hl := lv_entry ([.ref k0, .int (nI ka)]) (n := 2) (Nat.le_of_ble_eq_true rfl)
  rw [lg_entry_eq]
  generalize (lg_sl ([.ref k0, .int (nI ka)]) ++ List.replicate (2 - (lg_sl ([.ref k0, .int (nI ka)])).length) Slot.unset).toArray = ls at hl ⊢
  have hl : lv_has ls 2 [(0, .ref k0), (1, .int (nI ka))] := hl
  refine lv_aload_n hx hb dX3_sizeOf_0 rfl (lv_at hl 0 rfl) ?_
  refine va_get (D := D) (ci := 3) (v := .ref kz) (C := RX3) (T := TX3) (N := 2) hx hb hts (by decide +kernel) hown hK hP 0 rfl rfl 1 (by decide) (hts (.fieldLink RX3 15 "FiberTrace$KeptTraces" "sizes" "[I") (by decide +kernel)) (fun _ h9 => h9) rfl dX3_sizeOf_1 ?_
  refine lv_iload_n hx hb dX3_sizeOf_4 rfl (lv_at hl 1 rfl) ?_
  refine lv_bipush (v := 8) hx hb dX3_sizeOf_5 (by decide) ?_
  refine ft_csi (r := nI (ka % 8)) (va_runS (As := [.int (nI ka), .int 8]) (rest := [.ref kz]) ⟨hx, hb, hml, hown, hts⟩ (c_J9_floorMod_7cf53 l D cI cS ka (by first | assumption | omega)) (va_cwS 2 hts gX3_sizeOf_J9_floorMod_7cf53 rfl rfl rfl (by decide +kernel) ⟨Nat.le_of_ble_eq_true rfl, Nat.le_of_ble_eq_true rfl⟩) (ft_preRO hP hKK [] rfl) rfl rfl hl.1 rfl (lv_room (Nat.le_of_ble_eq_true rfl)) dX3_sizeOf_7 ⟨Nat.le_of_ble_eq_true rfl, Nat.le_of_ble_eq_true rfl⟩) ?_
  refine ft_csi (r := ftAt 8 zf (nI (ka % 8))) (va_runSN (As := [.ref kz, .int (nI (ka % 8))]) (rest := []) ⟨hx, hb, hml, hown, hts⟩ (c_X10_at l D cI cS kz 8 zf (nI (ka % 8)) (by first | assumption | omega)) ⟨va_cnB 2 hts gX3_sizeOf_X10_at_n35 rfl rfl rfl (hKK.2 _ (List.mem_of_getElem? (i := 26) rfl)) (hts (.initialized RX10) (by decide +kernel)) (by decide +kernel) ⟨Nat.le_of_ble_eq_true rfl, Nat.le_of_ble_eq_true rfl⟩, hts (.static yX10_at) (by decide +kernel), trivial⟩ (ft_preRO hP hKK [1] rfl) rfl rfl hl.1 rfl (lv_room (Nat.le_of_ble_eq_true rfl)) dX3_sizeOf_10 ⟨Nat.le_of_ble_eq_true rfl, Nat.le_of_ble_eq_true rfl⟩) ?_
  refine ft_top (y := zf (ka % 8)) (ftAt_N (by omega) (by omega)) ?_
  exact W.iret (v := zf (ka % 8)) hx hb hr (fun t ht hW => ⟨zf (ka % 8), rfl, rfl, ht⟩) (fun _ h9 => absurd h9 List.not_mem_nil) dX3_sizeOf_13
set_option maxHeartbeats 4000000 in
set_option maxRecDepth 100000 in
theorem c_X3_valueAt (l : Launch) (D : va_G) (cI cS : ClassId) (k0 ks kz : Nat) (kf : Nat → Int32) (ka x : Nat) (hka : ka < 2 ^ 31) (hx4 : x < 460) : Met l yX3_valueAt wsX3_valueAt ({ frames := 1, cells := 0, slots := 0, locals := 22 }) (ftRO D cI cS [.ref k0, .int (nI ka), .int (nI x)] [(k0, .inr (3, [.ref ks, .ref kz])), (ks, .inl (cI, 3680, .inl kf))]) (vp_Si (fun o9 => o9 = kf ((ka % 8) * 460 + x))) 0 0 (fun _ => False) := by
  refine Met.ofW (cc := cX3_valueAt) (maxL := 3) (ret := (some .int)) (by decide) rfl ?_
  intro p e s m args below meth c s₁ B hml hv
  obtain ⟨rfl, hP, hKK⟩ := hv
  have hK := hKK.1
  have hx := B.exec
  have hb := B.bytes
  have hr := B.returns
  have hts := atoms_spec (ws := wsX3_valueAt) B.pre
  have hown : s.vm.findClass RX3 = some m.cls := findClass_of_methodNamed B.named
  have hlocks := B.notSynchronized
  have hP : va_P D vwCl [(k0, .inr (3, [.ref ks, .ref kz])), (ks, .inl (cI, 3680, .inl kf))] s.heap := hP
  have hl := lv_entry ([.ref k0, .int (nI ka), .int (nI x)]) (n := 3) (Nat.le_of_ble_eq_true rfl)
  rw [lg_entry_eq]
  generalize (lg_sl ([.ref k0, .int (nI ka), .int (nI x)]) ++ List.replicate (3 - (lg_sl ([.ref k0, .int (nI ka), .int (nI x)])).length) Slot.unset).toArray = ls at hl ⊢
  have hl : lv_has ls 3 [(0, .ref k0), (1, .int (nI ka)), (2, .int (nI x))] := hl
  refine lv_aload_n hx hb dX3_valueAt_0 rfl (lv_at hl 0 rfl) ?_
  refine va_get (D := D) (ci := 3) (v := .ref ks) (C := RX3) (T := TX3) (N := 2) hx hb hts (by decide +kernel) hown hK hP 0 rfl rfl 0 (by decide) (hts (.fieldLink RX3 11 "FiberTrace$KeptTraces" "samples" "[I") (by decide +kernel)) (fun _ h9 => h9) rfl dX3_valueAt_1 ?_
  refine lv_iload_n hx hb dX3_valueAt_4 rfl (lv_at hl 1 rfl) ?_
  refine lv_bipush (v := 8) hx hb dX3_valueAt_5 (by decide) ?_
  refine ft_csi (r := nI (ka % 8)) (va_runS (As := [.int (nI ka), .int 8]) (rest := [.ref ks]) ⟨hx, hb, hml, hown, hts⟩ (c_J9_floorMod_7cf53 l D cI cS ka (by first | assumption | omega)) (va_cwS 2 hts gX3_valueAt_J9_floorMod_7cf53 rfl rfl rfl (by decide +kernel) ⟨Nat.le_of_ble_eq_true rfl, Nat.le_of_ble_eq_true rfl⟩) (ft_preRO hP hKK [] rfl) rfl rfl hl.1 rfl (lv_room (Nat.le_of_ble_eq_true rfl)) dX3_valueAt_7 ⟨Nat.le_of_ble_eq_true rfl, Nat.le_of_ble_eq_true rfl⟩) ?_
  refine lv_sipush (v := 460) hx hb dX3_valueAt_10 (by decide) ?_
  refine lv_imul hx hb dX3_valueAt_13 ?_
  refine ft_top (y := nI ((ka % 8) * 460)) (ft_mulN (ka % 8) 460) ?_
  refine lv_iload_n hx hb dX3_valueAt_14 rfl (lv_at hl 2 rfl) ?_
  refine lv_iadd hx hb dX3_valueAt_15 ?_
  refine ft_top (y := nI (((ka % 8) * 460) + x)) (ft_addN ((ka % 8) * 460) x) ?_
  refine ft_csi (r := ftAt 3680 kf (nI (((ka % 8) * 460) + x))) (va_runSN (As := [.ref ks, .int (nI (((ka % 8) * 460) + x))]) (rest := []) ⟨hx, hb, hml, hown, hts⟩ (c_X10_at l D cI cS ks 3680 kf (nI (((ka % 8) * 460) + x)) (by first | assumption | omega)) ⟨va_cnB 2 hts gX3_valueAt_X10_at_n35 rfl rfl rfl (hKK.2 _ (List.mem_of_getElem? (i := 26) rfl)) (hts (.initialized RX10) (by decide +kernel)) (by decide +kernel) ⟨Nat.le_of_ble_eq_true rfl, Nat.le_of_ble_eq_true rfl⟩, hts (.static yX10_at) (by decide +kernel), trivial⟩ (ft_preRO hP hKK [1] rfl) rfl rfl hl.1 rfl (lv_room (Nat.le_of_ble_eq_true rfl)) dX3_valueAt_16 ⟨Nat.le_of_ble_eq_true rfl, Nat.le_of_ble_eq_true rfl⟩) ?_
  refine ft_top (y := kf (((ka % 8) * 460) + x)) (ftAt_N (by omega) (by omega)) ?_
  exact W.iret (v := kf (((ka % 8) * 460) + x)) hx hb hr (fun t ht hW => ⟨kf (((ka % 8) * 460) + x), rfl, rfl, ht⟩) (fun _ h9 => absurd h9 List.not_mem_nil) dX3_valueAt_19
set_option maxHeartbeats 4000000 in
set_option maxRecDepth 100000 in
theorem c_X3_store (l : Launch) (D : va_G) (cI cS : ClassId) (sz : Nat) (k0 ks kz : Nat) (kf zf : Nat → Int32) (ka a0 ab ap an as N : Nat) (d1 d2 d3 d4 : Int32) (fs : Nat → Int32) (hka : ka < 2 ^ 31) (hN : N ≤ 460) : Met l yX3_store wsX3_store ({ frames := 1, cells := 0, slots := 0, locals := 22 }) (ftRW D cI cS [.ref k0, .int (nI ka), .ref a0] [(k0, .inr (3, [.ref ks, .ref kz])), (ks, .inl (cI, 3680, .inl kf)), (kz, .inl (cI, 8, .inl zf)), (a0, .inr (9, [.ref ab, .ref ap, .ref an, .ref as, .int (nI N), .int d1, .int d2, .int d3, .int d4])), (as, .inl (cI, 460, .inl fs))] sz) (ftQv D [(k0, .inr (3, [.ref ks, .ref kz])), (ks, .inl (cI, 3680, .inl kf)), (kz, .inl (cI, 8, .inl zf)), (a0, .inr (9, [.ref ab, .ref ap, .ref an, .ref as, .int (nI N), .int d1, .int d2, .int d3, .int d4])), (as, .inl (cI, 460, .inl fs))] [(k0, .inr (3, [.ref ks, .ref kz])), (ks, .inl (cI, 3680, .inl (ftSeg fs kf ((ka % 8) * 460) N))), (kz, .inl (cI, 8, .inl (upd zf (ka % 8) (nI N)))), (a0, .inr (9, [.ref ab, .ref ap, .ref an, .ref as, .int (nI N), .int d1, .int d2, .int d3, .int d4])), (as, .inl (cI, 460, .inl fs))] sz) 0 0 (va_A [(k0, .inr (3, [.ref ks, .ref kz])), (ks, .inl (cI, 3680, .inl kf)), (kz, .inl (cI, 8, .inl zf)), (a0, .inr (9, [.ref ab, .ref ap, .ref an, .ref as, .int (nI N), .int d1, .int d2, .int d3, .int d4])), (as, .inl (cI, 460, .inl fs))] sz) := by
  refine Met.ofW (cc := cX3_store) (maxL := 5) (ret := none) (by decide) rfl ?_
  intro p e s m args below meth c s₁ B hml hv
  obtain ⟨rfl, hsz, hP, hKK, hD0⟩ := hv
  have hK := hKK.1
  have hx := B.exec
  have hb := B.bytes
  have hr := B.returns
  have hts := atoms_spec (ws := wsX3_store) B.pre
  have hown : s.vm.findClass RX3 = some m.cls := findClass_of_methodNamed B.named
  have hlocks := B.notSynchronized
  subst hsz
  have hD := hD0.self (sz := s.heap.size)
  generalize hAe : va_A [(k0, .inr (3, [.ref ks, .ref kz])), (ks, .inl (cI, 3680, .inl kf)), (kz, .inl (cI, 8, .inl zf)), (a0, .inr (9, [.ref ab, .ref ap, .ref an, .ref as, .int (nI N), .int d1, .int d2, .int d3, .int d4])), (as, .inl (cI, 460, .inl fs))] s.heap.size = A at hD ⊢
  have hA : ∀ q : Nat, s.heap.size ≤ q → A q := fun q h => by rw [← hAe]; exact Or.inr h
  have hS : va_S A s.heap s.heap [] := va_S.rf
  have hD : va_D A [(k0, .inr (3, [.ref ks, .ref kz])), (ks, .inl (cI, 3680, .inl kf)), (kz, .inl (cI, 8, .inl zf)), (a0, .inr (9, [.ref ab, .ref ap, .ref an, .ref as, .int (nI N), .int d1, .int d2, .int d3, .int d4])), (as, .inl (cI, 460, .inl fs))] := hD
  have hP : va_P D vwCl [(k0, .inr (3, [.ref ks, .ref kz])), (ks, .inl (cI, 3680, .inl kf)), (kz, .inl (cI, 8, .inl zf)), (a0, .inr (9, [.ref ab, .ref ap, .ref an, .ref as, .int (nI N), .int d1, .int d2, .int d3, .int d4])), (as, .inl (cI, 460, .inl fs))] s.heap := hP
  have hl := lv_entry ([.ref k0, .int (nI ka), .ref a0]) (n := 5) (Nat.le_of_ble_eq_true rfl)
  rw [lg_entry_eq]
  generalize (lg_sl ([.ref k0, .int (nI ka), .ref a0]) ++ List.replicate (5 - (lg_sl ([.ref k0, .int (nI ka), .ref a0])).length) Slot.unset).toArray = ls at hl ⊢
  have hl : lv_has ls 5 [(0, .ref k0), (1, .int (nI ka)), (2, .ref a0)] := hl
  refine lv_iload_n hx hb dX3_store_0 rfl (lv_at hl 1 rfl) ?_
  refine lv_bipush (v := 8) hx hb dX3_store_1 (by decide) ?_
  refine ft_csi (r := nI (ka % 8)) (va_runS (As := [.int (nI ka), .int 8]) (rest := []) ⟨hx, hb, hml, hown, hts⟩ (c_J9_floorMod_7cf53 l D cI cS ka (by first | assumption | omega)) (va_cwS 2 hts gX3_store_J9_floorMod_7cf53 rfl rfl rfl (by decide +kernel) ⟨Nat.le_of_ble_eq_true rfl, Nat.le_of_ble_eq_true rfl⟩) (ft_preRO hP hKK [] rfl) rfl rfl hl.1 rfl (lv_room (Nat.le_of_ble_eq_true rfl)) dX3_store_3 ⟨Nat.le_of_ble_eq_true rfl, Nat.le_of_ble_eq_true rfl⟩) ?_
  refine lv_istore_n (lv' := [(3, .int (nI (ka % 8))), (0, .ref k0), (1, .int (nI ka)), (2, .ref a0)]) hx hb dX3_store_6 rfl hl (by decide) rfl (fun ls hl => ?_)
  refine lv_aload_n hx hb dX3_store_7 rfl (lv_at hl 1 rfl) ?_
  refine va_get (D := D) (ci := 3) (v := .ref kz) (C := RX3) (T := TX3) (N := 2) hx hb hts (by decide +kernel) hown hK hP 0 rfl rfl 1 (by decide) (hts (.fieldLink RX3 15 "FiberTrace$KeptTraces" "sizes" "[I") (by decide +kernel)) (fun _ h9 => h9) rfl dX3_store_8 ?_
  refine lv_iload_n hx hb dX3_store_11 rfl (lv_at hl 0 rfl) ?_
  refine lv_aload_n hx hb dX3_store_12 rfl (lv_at hl 3 rfl) ?_
  refine va_get (D := D) (ci := 9) (v := .int (nI N)) (C := RX9) (T := TX9) (N := 9) hx hb hts (by decide +kernel) hown hK hP 3 rfl rfl 4 (by decide) (hts (.fieldLink RX3 24 "FiberTrace$Trace" "size" "I") (by decide +kernel)) (fun _ h9 => h9) rfl dX3_store_13 ?_
  refine ft_cv (wc := [(kz, .inl (cI, 8, .inl zf))]) (wr := [(k0, .inr (3, [.ref ks, .ref kz])), (ks, .inl (cI, 3680, .inl kf)), (a0, .inr (9, [.ref ab, .ref ap, .ref an, .ref as, .int (nI N), .int d1, .int d2, .int d3, .int d4])), (as, .inl (cI, 460, .inl fs))]) (w1 := [(kz, .inl (cI, 8, .inl (ftPut 8 zf (nI (ka % 8)) (nI N))))]) (ws1 := [(k0, .inr (3, [.ref ks, .ref kz])), (ks, .inl (cI, 3680, .inl kf)), (kz, .inl (cI, 8, .inl (ftPut 8 zf (nI (ka % 8)) (nI N)))), (a0, .inr (9, [.ref ab, .ref ap, .ref an, .ref as, .int (nI N), .int d1, .int d2, .int d3, .int d4])), (as, .inl (cI, 460, .inl fs))]) (va_runSN (As := [.ref kz, .int (nI (ka % 8)), .int (nI N)]) (rest := []) ⟨hx, hb, hml, hown, hts⟩ (c_X10_put l D cI cS s.heap.size kz 8 zf (nI (ka % 8)) (nI N) (by first | assumption | omega)) ⟨va_cnB 3 hts gX3_store_X10_put_n30 rfl rfl rfl (hKK.2 _ (List.mem_of_getElem? (i := 25) rfl)) (hts (.initialized RX10) (by decide +kernel)) (by decide +kernel) ⟨Nat.le_of_ble_eq_true rfl, Nat.le_of_ble_eq_true rfl⟩, hts (.static yX10_put) (by decide +kernel), trivial⟩ (ft_preRW hP hD hKK [2] rfl rfl rfl) rfl rfl hl.1 rfl (lv_room (Nat.le_of_ble_eq_true rfl)) dX3_store_16 ⟨Nat.le_of_ble_eq_true rfl, Nat.le_of_ble_eq_true rfl⟩) hP hD hS hA [2] [0, 1, 3, 4] [0, 1, 4, 2, 3] rfl rfl (by decide) (by decide) (by decide) rfl rfl (fun H locs hP hD hS => ?_)
  rw [ftPut_N (k := ka % 8) (by omega) (by omega)] at hP hD
  have hP : va_P D vwCl [(k0, .inr (3, [.ref ks, .ref kz])), (ks, .inl (cI, 3680, .inl kf)), (kz, .inl (cI, 8, .inl (upd zf (ka % 8) (nI N)))), (a0, .inr (9, [.ref ab, .ref ap, .ref an, .ref as, .int (nI N), .int d1, .int d2, .int d3, .int d4])), (as, .inl (cI, 460, .inl fs))] H := hP
  have hD : va_D A [(k0, .inr (3, [.ref ks, .ref kz])), (ks, .inl (cI, 3680, .inl kf)), (kz, .inl (cI, 8, .inl (upd zf (ka % 8) (nI N)))), (a0, .inr (9, [.ref ab, .ref ap, .ref an, .ref as, .int (nI N), .int d1, .int d2, .int d3, .int d4])), (as, .inl (cI, 460, .inl fs))] := hD
  refine lv_iconst (v := 0) hx hb dX3_store_19 (by decide) ?_
  refine lv_istore (lv' := [(4, .int 0), (3, .int (nI (ka % 8))), (0, .ref k0), (1, .int (nI ka)), (2, .ref a0)]) hx hb dX3_store_20 hl (by decide) rfl (fun ls hl => ?_)
  have lp22 : ∀ (n22 : Nat) (x : Nat) (x22_4 : Int32) (g22_ks : Nat → Int32), N - x < n22 → (x ≤ N) → x22_4 = nI x → g22_ks = ftSeg fs kf ((ka % 8) * 460) x → ∀ (H : Heap) (locs : List Loc), va_P D vwCl [(k0, .inr (3, [.ref ks, .ref kz])), (ks, .inl (cI, 3680, .inl g22_ks)), (kz, .inl (cI, 8, .inl (upd zf (ka % 8) (nI N)))), (a0, .inr (9, [.ref ab, .ref ap, .ref an, .ref as, .int (nI N), .int d1, .int d2, .int d3, .int d4])), (as, .inl (cI, 460, .inl fs))] H → va_D A [(k0, .inr (3, [.ref ks, .ref kz])), (ks, .inl (cI, 3680, .inl g22_ks)), (kz, .inl (cI, 8, .inl (upd zf (ka % 8) (nI N)))), (a0, .inr (9, [.ref ab, .ref ap, .ref an, .ref as, .int (nI N), .int d1, .int d2, .int d3, .int d4])), (as, .inl (cI, 460, .inl fs))] → va_S A s.heap H locs → ∀ ls : Array Slot, lv_has ls 5 [(0, .ref k0), (1, .int (nI ka)), (2, .ref a0), (3, .int (nI (ka % 8))), (4, .int x22_4)] → W p l e (headSpec wsX3_store { frames := 1, cells := 0, slots := 0, locals := 22 }).room s m ([.ref k0, .int (nI ka), .ref a0] : List Value).toArray below meth c H locs 0 0 (MQ below (ftQv D [(k0, .inr (3, [.ref ks, .ref kz])), (ks, .inl (cI, 3680, .inl kf)), (kz, .inl (cI, 8, .inl zf)), (a0, .inr (9, [.ref ab, .ref ap, .ref an, .ref as, .int (nI N), .int d1, .int d2, .int d3, .int d4])), (as, .inl (cI, 460, .inl fs))] [(k0, .inr (3, [.ref ks, .ref kz])), (ks, .inl (cI, 3680, .inl (ftSeg fs kf ((ka % 8) * 460) N))), (kz, .inl (cI, 8, .inl (upd zf (ka % 8) (nI N)))), (a0, .inr (9, [.ref ab, .ref ap, .ref an, .ref as, .int (nI N), .int d1, .int d2, .int d3, .int d4])), (as, .inl (cI, 460, .inl fs))] s.heap.size) ([.ref k0, .int (nI ka), .ref a0] : List Value).toArray s 0 0 A) (F0 m 22 ls []) := by
    intro n22
    induction n22 with
    | zero =>
      intro x x22_4 g22_ks hm22
      exact absurd hm22 (Nat.not_lt_zero _)
    | succ n22 ih22 =>
      intro x x22_4 g22_ks hm22 hx0 ex22_4 eg22_ks H locs hP hD hS ls hl
      subst ex22_4
      refine lv_iload hx hb dX3_store_22 (lv_at hl 4 rfl) ?_
      refine lv_aload_n hx hb dX3_store_24 rfl (lv_at hl 2 rfl) ?_
      refine va_get (D := D) (ci := 9) (v := .int (nI N)) (C := RX9) (T := TX9) (N := 9) hx hb hts (by decide +kernel) hown hK hP 3 rfl rfl 4 (by decide) (hts (.fieldLink RX3 24 "FiberTrace$Trace" "size" "I") (by decide +kernel)) (fun _ h9 => h9) rfl dX3_store_25 ?_
      refine lv_icmp_ge (tgt := 61) hx hb dX3_store_28 (by decide) (fun c28 => ?_) (fun c28 => ?_)
      · have c28n : N ≤ x := ft_leN (by omega) (by omega) c28
        have hw9 : ([(k0, .inr (3, [.ref ks, .ref kz])), (ks, .inl (cI, 3680, .inl g22_ks)), (kz, .inl (cI, 8, .inl (upd zf (ka % 8) (nI N)))), (a0, .inr (9, [.ref ab, .ref ap, .ref an, .ref as, .int (nI N), .int d1, .int d2, .int d3, .int d4])), (as, .inl (cI, 460, .inl fs))] : va_W) = [(k0, .inr (3, [.ref ks, .ref kz])), (ks, .inl (cI, 3680, .inl (ftSeg fs kf ((ka % 8) * 460) N))), (kz, .inl (cI, 8, .inl (upd zf (ka % 8) (nI N)))), (a0, .inr (9, [.ref ab, .ref ap, .ref an, .ref as, .int (nI N), .int d1, .int d2, .int d3, .int d4])), (as, .inl (cI, 460, .inl fs))] := by (obtain rfl : x = N := by omega); rw [eg22_ks]
        rw [hw9] at hP hD
        exact W.vret hx hb hr (fun t ht hW => ⟨⟨(), rfl, trivial, by rw [ht]; exact hP, by rw [hAe]; exact hD⟩, by rw [hAe]; exact hS.F ht⟩) hS.2.2 dX3_store_61
      · have c28n : x < N := ft_nleN (by omega) (by omega) c28
        refine lv_aload_n hx hb dX3_store_31 rfl (lv_at hl 0 rfl) ?_
        refine va_get (D := D) (ci := 3) (v := .ref ks) (C := RX3) (T := TX3) (N := 2) hx hb hts (by decide +kernel) hown hK hP 0 rfl rfl 0 (by decide) (hts (.fieldLink RX3 11 "FiberTrace$KeptTraces" "samples" "[I") (by decide +kernel)) (fun _ h9 => h9) rfl dX3_store_32 ?_
        refine lv_iload_n hx hb dX3_store_35 rfl (lv_at hl 3 rfl) ?_
        refine lv_sipush (v := 460) hx hb dX3_store_36 (by decide) ?_
        refine lv_imul hx hb dX3_store_39 ?_
        refine ft_top (y := nI ((ka % 8) * 460)) (ft_mulN (ka % 8) 460) ?_
        refine lv_iload hx hb dX3_store_40 (lv_at hl 4 rfl) ?_
        refine lv_iadd hx hb dX3_store_42 ?_
        refine ft_top (y := nI (((ka % 8) * 460) + x)) (ft_addN ((ka % 8) * 460) x) ?_
        refine lv_aload_n hx hb dX3_store_43 rfl (lv_at hl 2 rfl) ?_
        refine va_get (D := D) (ci := 9) (v := .ref as) (C := RX9) (T := TX9) (N := 9) hx hb hts (by decide +kernel) hown hK hP 3 rfl rfl 3 (by decide) (hts (.fieldLink RX3 34 "FiberTrace$Trace" "samples" "[I") (by decide +kernel)) (fun _ h9 => h9) rfl dX3_store_44 ?_
        refine lv_iload hx hb dX3_store_47 (lv_at hl 4 rfl) ?_
        refine ft_csi (r := ftAt 460 fs (nI x)) (va_runSN (As := [.ref as, .int (nI x)]) (rest := [.int (nI (((ka % 8) * 460) + x)), .ref ks]) ⟨hx, hb, hml, hown, hts⟩ (c_X10_at l D cI cS as 460 fs (nI x) (by first | assumption | omega)) ⟨va_cnB 2 hts gX3_store_X10_at_n35 rfl rfl rfl (hKK.2 _ (List.mem_of_getElem? (i := 26) rfl)) (hts (.initialized RX10) (by decide +kernel)) (by decide +kernel) ⟨Nat.le_of_ble_eq_true rfl, Nat.le_of_ble_eq_true rfl⟩, hts (.static yX10_at) (by decide +kernel), trivial⟩ (ft_preRO hP hKK [4] rfl) rfl rfl hl.1 rfl (lv_room (Nat.le_of_ble_eq_true rfl)) dX3_store_49 ⟨Nat.le_of_ble_eq_true rfl, Nat.le_of_ble_eq_true rfl⟩) ?_
        refine ft_top (y := fs x) (ftAt_N (by omega) (by omega)) ?_
        refine ft_cv (wc := [(ks, .inl (cI, 3680, .inl g22_ks))]) (wr := [(k0, .inr (3, [.ref ks, .ref kz])), (kz, .inl (cI, 8, .inl (upd zf (ka % 8) (nI N)))), (a0, .inr (9, [.ref ab, .ref ap, .ref an, .ref as, .int (nI N), .int d1, .int d2, .int d3, .int d4])), (as, .inl (cI, 460, .inl fs))]) (w1 := [(ks, .inl (cI, 3680, .inl (ftPut 3680 g22_ks (nI (((ka % 8) * 460) + x)) (fs x))))]) (ws1 := [(k0, .inr (3, [.ref ks, .ref kz])), (ks, .inl (cI, 3680, .inl (ftPut 3680 g22_ks (nI (((ka % 8) * 460) + x)) (fs x)))), (kz, .inl (cI, 8, .inl (upd zf (ka % 8) (nI N)))), (a0, .inr (9, [.ref ab, .ref ap, .ref an, .ref as, .int (nI N), .int d1, .int d2, .int d3, .int d4])), (as, .inl (cI, 460, .inl fs))]) (va_runSN (As := [.ref ks, .int (nI (((ka % 8) * 460) + x)), .int (fs x)]) (rest := []) ⟨hx, hb, hml, hown, hts⟩ (c_X10_put l D cI cS H.size ks 3680 g22_ks (nI (((ka % 8) * 460) + x)) (fs x) (by first | assumption | omega)) ⟨va_cnB 3 hts gX3_store_X10_put_n30 rfl rfl rfl (hKK.2 _ (List.mem_of_getElem? (i := 25) rfl)) (hts (.initialized RX10) (by decide +kernel)) (by decide +kernel) ⟨Nat.le_of_ble_eq_true rfl, Nat.le_of_ble_eq_true rfl⟩, hts (.static yX10_put) (by decide +kernel), trivial⟩ (ft_preRW hP hD hKK [1] rfl rfl rfl) rfl rfl hl.1 rfl (lv_room (Nat.le_of_ble_eq_true rfl)) dX3_store_52 ⟨Nat.le_of_ble_eq_true rfl, Nat.le_of_ble_eq_true rfl⟩) hP hD hS hA [1] [0, 2, 3, 4] [0, 4, 1, 2, 3] rfl rfl (by decide) (by decide) (by decide) rfl rfl (fun H locs hP hD hS => ?_)
        rw [ftPut_N (k := ((ka % 8) * 460) + x) (by omega) (by omega)] at hP hD
        have hP : va_P D vwCl [(k0, .inr (3, [.ref ks, .ref kz])), (ks, .inl (cI, 3680, .inl (upd g22_ks (((ka % 8) * 460) + x) (fs x)))), (kz, .inl (cI, 8, .inl (upd zf (ka % 8) (nI N)))), (a0, .inr (9, [.ref ab, .ref ap, .ref an, .ref as, .int (nI N), .int d1, .int d2, .int d3, .int d4])), (as, .inl (cI, 460, .inl fs))] H := hP
        have hD : va_D A [(k0, .inr (3, [.ref ks, .ref kz])), (ks, .inl (cI, 3680, .inl (upd g22_ks (((ka % 8) * 460) + x) (fs x)))), (kz, .inl (cI, 8, .inl (upd zf (ka % 8) (nI N)))), (a0, .inr (9, [.ref ab, .ref ap, .ref an, .ref as, .int (nI N), .int d1, .int d2, .int d3, .int d4])), (as, .inl (cI, 460, .inl fs))] := hD
        refine lv_iinc (v := nI (x + 1)) (lv' := [(4, .int (nI (x + 1))), (0, .ref k0), (1, .int (nI ka)), (2, .ref a0), (3, .int (nI (ka % 8)))]) hx hb dX3_store_55 hl (k := 4) rfl (ft_inc x) (by decide) rfl (fun ls hl => ?_)
        refine lv_goto (tgt := 22) hx hb dX3_store_58 (by decide) ?_
        exact ih22 (x + 1) (nI (x + 1)) (upd g22_ks (((ka % 8) * 460) + x) (fs x)) (by omega) (by omega) (by first | rfl | assumption) (by rw [eg22_ks]; exact ftSeg_s) _ _ hP hD hS ls (lv_sub hl [1, 2, 3, 4, 0] rfl)
  exact lp22 _ 0 0 kf (Nat.lt_succ_self _) (by omega) (by rfl) (by exact ftSeg_0 _ _ _) _ _ hP hD hS ls (lv_sub hl [2, 3, 4, 1, 0] rfl)
set_option maxHeartbeats 4000000 in
set_option maxRecDepth 100000 in
theorem c_X0_note (l : Launch) (D : va_G) (cI cS : ClassId) (sz : Nat) (a0 : Nat) (q : ftCs) (x d li : Int32)  : Met l yX0_note wsX0_note ({ frames := 0, cells := 0, slots := 0, locals := 0 }) (ftRW D cI cS [.ref a0, .int x, .int d, .int li] [(a0, .inr (0, [.int q.1, .int q.2.1, .int q.2.2.1, .int q.2.2.2]))] sz) (ftQv D [(a0, .inr (0, [.int q.1, .int q.2.1, .int q.2.2.1, .int q.2.2.2]))] [(a0, .inr (0, [.int ((ftNote q x d li).1), .int ((ftNote q x d li).2.1), .int ((ftNote q x d li).2.2.1), .int ((ftNote q x d li).2.2.2)]))] sz) 0 0 (va_A [(a0, .inr (0, [.int q.1, .int q.2.1, .int q.2.2.1, .int q.2.2.2]))] sz) := by
  refine Met.ofW (cc := cX0_note) (maxL := 4) (ret := none) (by decide) rfl ?_
  intro p e s m args below meth c s₁ B hml hv
  obtain ⟨rfl, hsz, hP, hKK, hD0⟩ := hv
  have hK := hKK.1
  have hx := B.exec
  have hb := B.bytes
  have hr := B.returns
  have hts := atoms_spec (ws := wsX0_note) B.pre
  have hown : s.vm.findClass RX0 = some m.cls := findClass_of_methodNamed B.named
  have hlocks := B.notSynchronized
  subst hsz
  have hD := hD0.self (sz := s.heap.size)
  generalize hAe : va_A [(a0, .inr (0, [.int q.1, .int q.2.1, .int q.2.2.1, .int q.2.2.2]))] s.heap.size = A at hD ⊢
  have hA : ∀ q : Nat, s.heap.size ≤ q → A q := fun q h => by rw [← hAe]; exact Or.inr h
  have hS : va_S A s.heap s.heap [] := va_S.rf
  have hD : va_D A [(a0, .inr (0, [.int q.1, .int q.2.1, .int q.2.2.1, .int q.2.2.2]))] := hD
  have hP : va_P D vwCl [(a0, .inr (0, [.int q.1, .int q.2.1, .int q.2.2.1, .int q.2.2.2]))] s.heap := hP
  have hl := lv_entry ([.ref a0, .int x, .int d, .int li]) (n := 4) (Nat.le_of_ble_eq_true rfl)
  rw [lg_entry_eq]
  generalize (lg_sl ([.ref a0, .int x, .int d, .int li]) ++ List.replicate (4 - (lg_sl ([.ref a0, .int x, .int d, .int li])).length) Slot.unset).toArray = ls at hl ⊢
  have hl : lv_has ls 4 [(0, .ref a0), (1, .int x), (2, .int d), (3, .int li)] := hl
  refine lv_iload_n hx hb dX0_note_0 rfl (lv_at hl 2 rfl) ?_
  refine lv_iload_n hx hb dX0_note_1 rfl (lv_at hl 3 rfl) ?_
  refine lv_icmp_le (tgt := 35) hx hb dX0_note_2 (by decide) (fun c2 => ?_) (fun c2 => ?_)
  · refine lv_iload_n hx hb dX0_note_35 rfl (lv_at hl 2 rfl) ?_
    refine lv_aload_n hx hb dX0_note_36 rfl (lv_at hl 0 rfl) ?_
    refine va_get (D := D) (ci := 0) (v := .int q.2.2.1) (C := RX0) (T := TX0) (N := 4) hx hb hts (by decide +kernel) hown hK hP 0 rfl rfl 2 (by decide) (hts (.fieldLink RX0 18 "FiberTrace$Comparison" "greatest" "I") (by decide +kernel)) (fun _ h9 => h9) rfl dX0_note_37 ?_
    refine lv_icmp_le (tgt := 53) hx hb dX0_note_40 (by decide) (fun c40 => ?_) (fun c40 => ?_)
    · have hw9 : ([(a0, .inr (0, [.int q.1, .int q.2.1, .int q.2.2.1, .int q.2.2.2]))] : va_W) = [(a0, .inr (0, [.int ((ftNote q x d li).1), .int ((ftNote q x d li).2.1), .int ((ftNote q x d li).2.2.1), .int ((ftNote q x d li).2.2.2)]))] := by unfold ftNote; first | (rw [if_neg (Int32.not_lt.mpr c2), if_neg (Int32.not_lt.mpr c2), if_neg (Int32.not_lt.mpr c40), if_neg (Int32.not_lt.mpr c40)]; done) | (rw [if_neg (Int32.not_lt.mpr c2), if_neg (Int32.not_lt.mpr c2), if_pos (Int32.not_le.mp c40), if_pos (Int32.not_le.mp c40)]; done) | (rw [if_pos (Int32.not_le.mp c2), if_pos (Int32.not_le.mp c2), if_neg (Int32.not_lt.mpr c40), if_neg (Int32.not_lt.mpr c40), if_pos c11]; done) | (rw [if_pos (Int32.not_le.mp c2), if_pos (Int32.not_le.mp c2), if_neg (Int32.not_lt.mpr c40), if_neg (Int32.not_lt.mpr c40), if_neg c11]; done) | (rw [if_pos (Int32.not_le.mp c2), if_pos (Int32.not_le.mp c2), if_pos (Int32.not_le.mp c40), if_pos (Int32.not_le.mp c40), if_pos c11]; done) | (rw [if_pos (Int32.not_le.mp c2), if_pos (Int32.not_le.mp c2), if_pos (Int32.not_le.mp c40), if_pos (Int32.not_le.mp c40), if_neg c11]; done)
      rw [hw9] at hP hD
      exact W.vret hx hb hr (fun t ht hW => ⟨⟨(), rfl, trivial, by rw [ht]; exact hP, by rw [hAe]; exact hD⟩, by rw [hAe]; exact hS.F ht⟩) hS.2.2 dX0_note_53
    · refine lv_aload_n hx hb dX0_note_43 rfl (lv_at hl 0 rfl) ?_
      refine lv_iload_n hx hb dX0_note_44 rfl (lv_at hl 2 rfl) ?_
      refine va_put (D := D) (ci := 0) (v := .int d) (ty := .int) (C := RX0) (T := TX0) (N := 4) hx hb hts (by decide +kernel) tyX0 tyX0_ok nmX0 hown hK hP hD hS 0 rfl rfl 2 (by decide) (hts (.fieldLink RX0 18 "FiberTrace$Comparison" "greatest" "I") (by decide +kernel)) (fun _ h9 => h9) rfl (by decide +kernel) rfl rfl (Nat.le_of_ble_eq_true rfl) dX0_note_45 (fun H locs hP hD hS => ?_)
      have hP : va_P D vwCl [(a0, .inr (0, [.int q.1, .int q.2.1, .int d, .int q.2.2.2]))] H := hP
      have hD : va_D A [(a0, .inr (0, [.int q.1, .int q.2.1, .int d, .int q.2.2.2]))] := hD
      refine lv_aload_n hx hb dX0_note_48 rfl (lv_at hl 0 rfl) ?_
      refine lv_iload_n hx hb dX0_note_49 rfl (lv_at hl 1 rfl) ?_
      refine va_put (D := D) (ci := 0) (v := .int x) (ty := .int) (C := RX0) (T := TX0) (N := 4) hx hb hts (by decide +kernel) tyX0 tyX0_ok nmX0 hown hK hP hD hS 0 rfl rfl 3 (by decide) (hts (.fieldLink RX0 21 "FiberTrace$Comparison" "greatestPlace" "I") (by decide +kernel)) (fun _ h9 => h9) rfl (by decide +kernel) rfl rfl (Nat.le_of_ble_eq_true rfl) dX0_note_50 (fun H locs hP hD hS => ?_)
      have hP : va_P D vwCl [(a0, .inr (0, [.int q.1, .int q.2.1, .int d, .int x]))] H := hP
      have hD : va_D A [(a0, .inr (0, [.int q.1, .int q.2.1, .int d, .int x]))] := hD
      have hw9 : ([(a0, .inr (0, [.int q.1, .int q.2.1, .int d, .int x]))] : va_W) = [(a0, .inr (0, [.int ((ftNote q x d li).1), .int ((ftNote q x d li).2.1), .int ((ftNote q x d li).2.2.1), .int ((ftNote q x d li).2.2.2)]))] := by unfold ftNote; first | (rw [if_neg (Int32.not_lt.mpr c2), if_neg (Int32.not_lt.mpr c2), if_neg (Int32.not_lt.mpr c40), if_neg (Int32.not_lt.mpr c40)]; done) | (rw [if_neg (Int32.not_lt.mpr c2), if_neg (Int32.not_lt.mpr c2), if_pos (Int32.not_le.mp c40), if_pos (Int32.not_le.mp c40)]; done) | (rw [if_pos (Int32.not_le.mp c2), if_pos (Int32.not_le.mp c2), if_neg (Int32.not_lt.mpr c40), if_neg (Int32.not_lt.mpr c40), if_pos c11]; done) | (rw [if_pos (Int32.not_le.mp c2), if_pos (Int32.not_le.mp c2), if_neg (Int32.not_lt.mpr c40), if_neg (Int32.not_lt.mpr c40), if_neg c11]; done) | (rw [if_pos (Int32.not_le.mp c2), if_pos (Int32.not_le.mp c2), if_pos (Int32.not_le.mp c40), if_pos (Int32.not_le.mp c40), if_pos c11]; done) | (rw [if_pos (Int32.not_le.mp c2), if_pos (Int32.not_le.mp c2), if_pos (Int32.not_le.mp c40), if_pos (Int32.not_le.mp c40), if_neg c11]; done)
      rw [hw9] at hP hD
      exact W.vret hx hb hr (fun t ht hW => ⟨⟨(), rfl, trivial, by rw [ht]; exact hP, by rw [hAe]; exact hD⟩, by rw [hAe]; exact hS.F ht⟩) hS.2.2 dX0_note_53
  · refine lv_aload_n hx hb dX0_note_5 rfl (lv_at hl 0 rfl) ?_
    refine lv_aload_n hx hb dX0_note_6 rfl (lv_at hl 0 rfl) ?_
    refine va_get (D := D) (ci := 0) (v := .int q.1) (C := RX0) (T := TX0) (N := 4) hx hb hts (by decide +kernel) hown hK hP 0 rfl rfl 0 (by decide) (hts (.fieldLink RX0 9 "FiberTrace$Comparison" "firstPlace" "I") (by decide +kernel)) (fun _ h9 => h9) rfl dX0_note_7 ?_
    refine lv_iconst (v := (-1)) hx hb dX0_note_10 (by decide) ?_
    refine lv_icmp_ne (tgt := 18) hx hb dX0_note_11 (by decide) (fun c11 => ?_) (fun c11 => ?_)
    · refine lv_aload_n hx hb dX0_note_18 rfl (lv_at hl 0 rfl) ?_
      refine va_get (D := D) (ci := 0) (v := .int q.1) (C := RX0) (T := TX0) (N := 4) hx hb hts (by decide +kernel) hown hK hP 0 rfl rfl 0 (by decide) (hts (.fieldLink RX0 9 "FiberTrace$Comparison" "firstPlace" "I") (by decide +kernel)) (fun _ h9 => h9) rfl dX0_note_19 ?_
      refine va_put (D := D) (ci := 0) (v := .int q.1) (ty := .int) (C := RX0) (T := TX0) (N := 4) hx hb hts (by decide +kernel) tyX0 tyX0_ok nmX0 hown hK hP hD hS 0 rfl rfl 0 (by decide) (hts (.fieldLink RX0 9 "FiberTrace$Comparison" "firstPlace" "I") (by decide +kernel)) (fun _ h9 => h9) rfl (by decide +kernel) rfl rfl (Nat.le_of_ble_eq_true rfl) dX0_note_22 (fun H locs hP hD hS => ?_)
      have hP : va_P D vwCl [(a0, .inr (0, [.int q.1, .int q.2.1, .int q.2.2.1, .int q.2.2.2]))] H := hP
      have hD : va_D A [(a0, .inr (0, [.int q.1, .int q.2.1, .int q.2.2.1, .int q.2.2.2]))] := hD
      refine lv_aload_n hx hb dX0_note_25 rfl (lv_at hl 0 rfl) ?_
      refine lv_dup hx hb dX0_note_26 rfl ?_
      refine va_get (D := D) (ci := 0) (v := .int q.2.1) (C := RX0) (T := TX0) (N := 4) hx hb hts (by decide +kernel) hown hK hP 0 rfl rfl 1 (by decide) (hts (.fieldLink RX0 15 "FiberTrace$Comparison" "places" "I") (by decide +kernel)) (fun _ h9 => h9) rfl dX0_note_27 ?_
      refine lv_iconst (v := 1) hx hb dX0_note_30 (by decide) ?_
      refine lv_iadd hx hb dX0_note_31 ?_
      refine va_put (D := D) (ci := 0) (v := .int (q.2.1 + 1)) (ty := .int) (C := RX0) (T := TX0) (N := 4) hx hb hts (by decide +kernel) tyX0 tyX0_ok nmX0 hown hK hP hD hS 0 rfl rfl 1 (by decide) (hts (.fieldLink RX0 15 "FiberTrace$Comparison" "places" "I") (by decide +kernel)) (fun _ h9 => h9) rfl (by decide +kernel) rfl rfl (Nat.le_of_ble_eq_true rfl) dX0_note_32 (fun H locs hP hD hS => ?_)
      have hP : va_P D vwCl [(a0, .inr (0, [.int q.1, .int (q.2.1 + 1), .int q.2.2.1, .int q.2.2.2]))] H := hP
      have hD : va_D A [(a0, .inr (0, [.int q.1, .int (q.2.1 + 1), .int q.2.2.1, .int q.2.2.2]))] := hD
      refine lv_iload_n hx hb dX0_note_35 rfl (lv_at hl 2 rfl) ?_
      refine lv_aload_n hx hb dX0_note_36 rfl (lv_at hl 0 rfl) ?_
      refine va_get (D := D) (ci := 0) (v := .int q.2.2.1) (C := RX0) (T := TX0) (N := 4) hx hb hts (by decide +kernel) hown hK hP 0 rfl rfl 2 (by decide) (hts (.fieldLink RX0 18 "FiberTrace$Comparison" "greatest" "I") (by decide +kernel)) (fun _ h9 => h9) rfl dX0_note_37 ?_
      refine lv_icmp_le (tgt := 53) hx hb dX0_note_40 (by decide) (fun c40 => ?_) (fun c40 => ?_)
      · have hw9 : ([(a0, .inr (0, [.int q.1, .int (q.2.1 + 1), .int q.2.2.1, .int q.2.2.2]))] : va_W) = [(a0, .inr (0, [.int ((ftNote q x d li).1), .int ((ftNote q x d li).2.1), .int ((ftNote q x d li).2.2.1), .int ((ftNote q x d li).2.2.2)]))] := by unfold ftNote; first | (rw [if_neg (Int32.not_lt.mpr c2), if_neg (Int32.not_lt.mpr c2), if_neg (Int32.not_lt.mpr c40), if_neg (Int32.not_lt.mpr c40)]; done) | (rw [if_neg (Int32.not_lt.mpr c2), if_neg (Int32.not_lt.mpr c2), if_pos (Int32.not_le.mp c40), if_pos (Int32.not_le.mp c40)]; done) | (rw [if_pos (Int32.not_le.mp c2), if_pos (Int32.not_le.mp c2), if_neg (Int32.not_lt.mpr c40), if_neg (Int32.not_lt.mpr c40), if_pos c11]; done) | (rw [if_pos (Int32.not_le.mp c2), if_pos (Int32.not_le.mp c2), if_neg (Int32.not_lt.mpr c40), if_neg (Int32.not_lt.mpr c40), if_neg c11]; done) | (rw [if_pos (Int32.not_le.mp c2), if_pos (Int32.not_le.mp c2), if_pos (Int32.not_le.mp c40), if_pos (Int32.not_le.mp c40), if_pos c11]; done) | (rw [if_pos (Int32.not_le.mp c2), if_pos (Int32.not_le.mp c2), if_pos (Int32.not_le.mp c40), if_pos (Int32.not_le.mp c40), if_neg c11]; done)
        rw [hw9] at hP hD
        exact W.vret hx hb hr (fun t ht hW => ⟨⟨(), rfl, trivial, by rw [ht]; exact hP, by rw [hAe]; exact hD⟩, by rw [hAe]; exact hS.F ht⟩) hS.2.2 dX0_note_53
      · refine lv_aload_n hx hb dX0_note_43 rfl (lv_at hl 0 rfl) ?_
        refine lv_iload_n hx hb dX0_note_44 rfl (lv_at hl 2 rfl) ?_
        refine va_put (D := D) (ci := 0) (v := .int d) (ty := .int) (C := RX0) (T := TX0) (N := 4) hx hb hts (by decide +kernel) tyX0 tyX0_ok nmX0 hown hK hP hD hS 0 rfl rfl 2 (by decide) (hts (.fieldLink RX0 18 "FiberTrace$Comparison" "greatest" "I") (by decide +kernel)) (fun _ h9 => h9) rfl (by decide +kernel) rfl rfl (Nat.le_of_ble_eq_true rfl) dX0_note_45 (fun H locs hP hD hS => ?_)
        have hP : va_P D vwCl [(a0, .inr (0, [.int q.1, .int (q.2.1 + 1), .int d, .int q.2.2.2]))] H := hP
        have hD : va_D A [(a0, .inr (0, [.int q.1, .int (q.2.1 + 1), .int d, .int q.2.2.2]))] := hD
        refine lv_aload_n hx hb dX0_note_48 rfl (lv_at hl 0 rfl) ?_
        refine lv_iload_n hx hb dX0_note_49 rfl (lv_at hl 1 rfl) ?_
        refine va_put (D := D) (ci := 0) (v := .int x) (ty := .int) (C := RX0) (T := TX0) (N := 4) hx hb hts (by decide +kernel) tyX0 tyX0_ok nmX0 hown hK hP hD hS 0 rfl rfl 3 (by decide) (hts (.fieldLink RX0 21 "FiberTrace$Comparison" "greatestPlace" "I") (by decide +kernel)) (fun _ h9 => h9) rfl (by decide +kernel) rfl rfl (Nat.le_of_ble_eq_true rfl) dX0_note_50 (fun H locs hP hD hS => ?_)
        have hP : va_P D vwCl [(a0, .inr (0, [.int q.1, .int (q.2.1 + 1), .int d, .int x]))] H := hP
        have hD : va_D A [(a0, .inr (0, [.int q.1, .int (q.2.1 + 1), .int d, .int x]))] := hD
        have hw9 : ([(a0, .inr (0, [.int q.1, .int (q.2.1 + 1), .int d, .int x]))] : va_W) = [(a0, .inr (0, [.int ((ftNote q x d li).1), .int ((ftNote q x d li).2.1), .int ((ftNote q x d li).2.2.1), .int ((ftNote q x d li).2.2.2)]))] := by unfold ftNote; first | (rw [if_neg (Int32.not_lt.mpr c2), if_neg (Int32.not_lt.mpr c2), if_neg (Int32.not_lt.mpr c40), if_neg (Int32.not_lt.mpr c40)]; done) | (rw [if_neg (Int32.not_lt.mpr c2), if_neg (Int32.not_lt.mpr c2), if_pos (Int32.not_le.mp c40), if_pos (Int32.not_le.mp c40)]; done) | (rw [if_pos (Int32.not_le.mp c2), if_pos (Int32.not_le.mp c2), if_neg (Int32.not_lt.mpr c40), if_neg (Int32.not_lt.mpr c40), if_pos c11]; done) | (rw [if_pos (Int32.not_le.mp c2), if_pos (Int32.not_le.mp c2), if_neg (Int32.not_lt.mpr c40), if_neg (Int32.not_lt.mpr c40), if_neg c11]; done) | (rw [if_pos (Int32.not_le.mp c2), if_pos (Int32.not_le.mp c2), if_pos (Int32.not_le.mp c40), if_pos (Int32.not_le.mp c40), if_pos c11]; done) | (rw [if_pos (Int32.not_le.mp c2), if_pos (Int32.not_le.mp c2), if_pos (Int32.not_le.mp c40), if_pos (Int32.not_le.mp c40), if_neg c11]; done)
        rw [hw9] at hP hD
        exact W.vret hx hb hr (fun t ht hW => ⟨⟨(), rfl, trivial, by rw [ht]; exact hP, by rw [hAe]; exact hD⟩, by rw [hAe]; exact hS.F ht⟩) hS.2.2 dX0_note_53
    · refine lv_iload_n hx hb dX0_note_14 rfl (lv_at hl 1 rfl) ?_
      refine lv_goto (tgt := 22) hx hb dX0_note_15 (by decide) ?_
      refine va_put (D := D) (ci := 0) (v := .int x) (ty := .int) (C := RX0) (T := TX0) (N := 4) hx hb hts (by decide +kernel) tyX0 tyX0_ok nmX0 hown hK hP hD hS 0 rfl rfl 0 (by decide) (hts (.fieldLink RX0 9 "FiberTrace$Comparison" "firstPlace" "I") (by decide +kernel)) (fun _ h9 => h9) rfl (by decide +kernel) rfl rfl (Nat.le_of_ble_eq_true rfl) dX0_note_22 (fun H locs hP hD hS => ?_)
      have hP : va_P D vwCl [(a0, .inr (0, [.int x, .int q.2.1, .int q.2.2.1, .int q.2.2.2]))] H := hP
      have hD : va_D A [(a0, .inr (0, [.int x, .int q.2.1, .int q.2.2.1, .int q.2.2.2]))] := hD
      refine lv_aload_n hx hb dX0_note_25 rfl (lv_at hl 0 rfl) ?_
      refine lv_dup hx hb dX0_note_26 rfl ?_
      refine va_get (D := D) (ci := 0) (v := .int q.2.1) (C := RX0) (T := TX0) (N := 4) hx hb hts (by decide +kernel) hown hK hP 0 rfl rfl 1 (by decide) (hts (.fieldLink RX0 15 "FiberTrace$Comparison" "places" "I") (by decide +kernel)) (fun _ h9 => h9) rfl dX0_note_27 ?_
      refine lv_iconst (v := 1) hx hb dX0_note_30 (by decide) ?_
      refine lv_iadd hx hb dX0_note_31 ?_
      refine va_put (D := D) (ci := 0) (v := .int (q.2.1 + 1)) (ty := .int) (C := RX0) (T := TX0) (N := 4) hx hb hts (by decide +kernel) tyX0 tyX0_ok nmX0 hown hK hP hD hS 0 rfl rfl 1 (by decide) (hts (.fieldLink RX0 15 "FiberTrace$Comparison" "places" "I") (by decide +kernel)) (fun _ h9 => h9) rfl (by decide +kernel) rfl rfl (Nat.le_of_ble_eq_true rfl) dX0_note_32 (fun H locs hP hD hS => ?_)
      have hP : va_P D vwCl [(a0, .inr (0, [.int x, .int (q.2.1 + 1), .int q.2.2.1, .int q.2.2.2]))] H := hP
      have hD : va_D A [(a0, .inr (0, [.int x, .int (q.2.1 + 1), .int q.2.2.1, .int q.2.2.2]))] := hD
      refine lv_iload_n hx hb dX0_note_35 rfl (lv_at hl 2 rfl) ?_
      refine lv_aload_n hx hb dX0_note_36 rfl (lv_at hl 0 rfl) ?_
      refine va_get (D := D) (ci := 0) (v := .int q.2.2.1) (C := RX0) (T := TX0) (N := 4) hx hb hts (by decide +kernel) hown hK hP 0 rfl rfl 2 (by decide) (hts (.fieldLink RX0 18 "FiberTrace$Comparison" "greatest" "I") (by decide +kernel)) (fun _ h9 => h9) rfl dX0_note_37 ?_
      refine lv_icmp_le (tgt := 53) hx hb dX0_note_40 (by decide) (fun c40 => ?_) (fun c40 => ?_)
      · have hw9 : ([(a0, .inr (0, [.int x, .int (q.2.1 + 1), .int q.2.2.1, .int q.2.2.2]))] : va_W) = [(a0, .inr (0, [.int ((ftNote q x d li).1), .int ((ftNote q x d li).2.1), .int ((ftNote q x d li).2.2.1), .int ((ftNote q x d li).2.2.2)]))] := by unfold ftNote; first | (rw [if_neg (Int32.not_lt.mpr c2), if_neg (Int32.not_lt.mpr c2), if_neg (Int32.not_lt.mpr c40), if_neg (Int32.not_lt.mpr c40)]; done) | (rw [if_neg (Int32.not_lt.mpr c2), if_neg (Int32.not_lt.mpr c2), if_pos (Int32.not_le.mp c40), if_pos (Int32.not_le.mp c40)]; done) | (rw [if_pos (Int32.not_le.mp c2), if_pos (Int32.not_le.mp c2), if_neg (Int32.not_lt.mpr c40), if_neg (Int32.not_lt.mpr c40), if_pos c11]; done) | (rw [if_pos (Int32.not_le.mp c2), if_pos (Int32.not_le.mp c2), if_neg (Int32.not_lt.mpr c40), if_neg (Int32.not_lt.mpr c40), if_neg c11]; done) | (rw [if_pos (Int32.not_le.mp c2), if_pos (Int32.not_le.mp c2), if_pos (Int32.not_le.mp c40), if_pos (Int32.not_le.mp c40), if_pos c11]; done) | (rw [if_pos (Int32.not_le.mp c2), if_pos (Int32.not_le.mp c2), if_pos (Int32.not_le.mp c40), if_pos (Int32.not_le.mp c40), if_neg c11]; done)
        rw [hw9] at hP hD
        exact W.vret hx hb hr (fun t ht hW => ⟨⟨(), rfl, trivial, by rw [ht]; exact hP, by rw [hAe]; exact hD⟩, by rw [hAe]; exact hS.F ht⟩) hS.2.2 dX0_note_53
      · refine lv_aload_n hx hb dX0_note_43 rfl (lv_at hl 0 rfl) ?_
        refine lv_iload_n hx hb dX0_note_44 rfl (lv_at hl 2 rfl) ?_
        refine va_put (D := D) (ci := 0) (v := .int d) (ty := .int) (C := RX0) (T := TX0) (N := 4) hx hb hts (by decide +kernel) tyX0 tyX0_ok nmX0 hown hK hP hD hS 0 rfl rfl 2 (by decide) (hts (.fieldLink RX0 18 "FiberTrace$Comparison" "greatest" "I") (by decide +kernel)) (fun _ h9 => h9) rfl (by decide +kernel) rfl rfl (Nat.le_of_ble_eq_true rfl) dX0_note_45 (fun H locs hP hD hS => ?_)
        have hP : va_P D vwCl [(a0, .inr (0, [.int x, .int (q.2.1 + 1), .int d, .int q.2.2.2]))] H := hP
        have hD : va_D A [(a0, .inr (0, [.int x, .int (q.2.1 + 1), .int d, .int q.2.2.2]))] := hD
        refine lv_aload_n hx hb dX0_note_48 rfl (lv_at hl 0 rfl) ?_
        refine lv_iload_n hx hb dX0_note_49 rfl (lv_at hl 1 rfl) ?_
        refine va_put (D := D) (ci := 0) (v := .int x) (ty := .int) (C := RX0) (T := TX0) (N := 4) hx hb hts (by decide +kernel) tyX0 tyX0_ok nmX0 hown hK hP hD hS 0 rfl rfl 3 (by decide) (hts (.fieldLink RX0 21 "FiberTrace$Comparison" "greatestPlace" "I") (by decide +kernel)) (fun _ h9 => h9) rfl (by decide +kernel) rfl rfl (Nat.le_of_ble_eq_true rfl) dX0_note_50 (fun H locs hP hD hS => ?_)
        have hP : va_P D vwCl [(a0, .inr (0, [.int x, .int (q.2.1 + 1), .int d, .int x]))] H := hP
        have hD : va_D A [(a0, .inr (0, [.int x, .int (q.2.1 + 1), .int d, .int x]))] := hD
        have hw9 : ([(a0, .inr (0, [.int x, .int (q.2.1 + 1), .int d, .int x]))] : va_W) = [(a0, .inr (0, [.int ((ftNote q x d li).1), .int ((ftNote q x d li).2.1), .int ((ftNote q x d li).2.2.1), .int ((ftNote q x d li).2.2.2)]))] := by unfold ftNote; first | (rw [if_neg (Int32.not_lt.mpr c2), if_neg (Int32.not_lt.mpr c2), if_neg (Int32.not_lt.mpr c40), if_neg (Int32.not_lt.mpr c40)]; done) | (rw [if_neg (Int32.not_lt.mpr c2), if_neg (Int32.not_lt.mpr c2), if_pos (Int32.not_le.mp c40), if_pos (Int32.not_le.mp c40)]; done) | (rw [if_pos (Int32.not_le.mp c2), if_pos (Int32.not_le.mp c2), if_neg (Int32.not_lt.mpr c40), if_neg (Int32.not_lt.mpr c40), if_pos c11]; done) | (rw [if_pos (Int32.not_le.mp c2), if_pos (Int32.not_le.mp c2), if_neg (Int32.not_lt.mpr c40), if_neg (Int32.not_lt.mpr c40), if_neg c11]; done) | (rw [if_pos (Int32.not_le.mp c2), if_pos (Int32.not_le.mp c2), if_pos (Int32.not_le.mp c40), if_pos (Int32.not_le.mp c40), if_pos c11]; done) | (rw [if_pos (Int32.not_le.mp c2), if_pos (Int32.not_le.mp c2), if_pos (Int32.not_le.mp c40), if_pos (Int32.not_le.mp c40), if_neg c11]; done)
        rw [hw9] at hP hD
        exact W.vret hx hb hr (fun t ht hW => ⟨⟨(), rfl, trivial, by rw [ht]; exact hP, by rw [hAe]; exact hD⟩, by rw [hAe]; exact hS.F ht⟩) hS.2.2 dX0_note_53
set_option maxHeartbeats 4000000 in
set_option maxRecDepth 100000 in
theorem c_X0_make (l : Launch) (D : va_G) (cI cS : ClassId) (sz : Nat) (q0 : Nat) (o1 o2 o3 o4 : Int32) (a0 ab ap an as N : Nat) (d1 d2 d3 d4 : Int32) (fs : Nat → Int32) (k0 ks kz : Nat) (kf zf : Nat → Int32) (ka : Nat) (li : Int32) (M : Nat) (hka : ka < 2 ^ 31) (hN : N ≤ 460) (hM : M ≤ 460) (hz : zf (ka % 8) = nI M) : Met l yX0_make wsX0_make ({ frames := 2, cells := 0, slots := 0, locals := 44 }) (ftRW D cI cS [.ref q0, .ref a0, .ref k0, .int (nI ka), .int li] [(q0, .inr (0, [.int o1, .int o2, .int o3, .int o4])), (a0, .inr (9, [.ref ab, .ref ap, .ref an, .ref as, .int (nI N), .int d1, .int d2, .int d3, .int d4])), (as, .inl (cI, 460, .inl fs)), (k0, .inr (3, [.ref ks, .ref kz])), (ks, .inl (cI, 3680, .inl kf)), (kz, .inl (cI, 8, .inl zf))] sz) (ftQv D [(q0, .inr (0, [.int o1, .int o2, .int o3, .int o4])), (a0, .inr (9, [.ref ab, .ref ap, .ref an, .ref as, .int (nI N), .int d1, .int d2, .int d3, .int d4])), (as, .inl (cI, 460, .inl fs)), (k0, .inr (3, [.ref ks, .ref kz])), (ks, .inl (cI, 3680, .inl kf)), (kz, .inl (cI, 8, .inl zf))] [(q0, .inr (0, [.int ((ftComp fs (fun x => kf ((ka % 8) * 460 + x)) li (min N M)).1), .int ((ftComp fs (fun x => kf ((ka % 8) * 460 + x)) li (min N M)).2.1), .int ((ftComp fs (fun x => kf ((ka % 8) * 460 + x)) li (min N M)).2.2.1), .int ((ftComp fs (fun x => kf ((ka % 8) * 460 + x)) li (min N M)).2.2.2)])), (a0, .inr (9, [.ref ab, .ref ap, .ref an, .ref as, .int (nI N), .int d1, .int d2, .int d3, .int d4])), (as, .inl (cI, 460, .inl fs)), (k0, .inr (3, [.ref ks, .ref kz])), (ks, .inl (cI, 3680, .inl kf)), (kz, .inl (cI, 8, .inl zf))] sz) 0 0 (va_A [(q0, .inr (0, [.int o1, .int o2, .int o3, .int o4])), (a0, .inr (9, [.ref ab, .ref ap, .ref an, .ref as, .int (nI N), .int d1, .int d2, .int d3, .int d4])), (as, .inl (cI, 460, .inl fs)), (k0, .inr (3, [.ref ks, .ref kz])), (ks, .inl (cI, 3680, .inl kf)), (kz, .inl (cI, 8, .inl zf))] sz) := by
  refine Met.ofW (cc := cX0_make) (maxL := 7) (ret := none) (by decide) rfl ?_
  intro p e s m args below meth c s₁ B hml hv
  obtain ⟨rfl, hsz, hP, hKK, hD0⟩ := hv
  have hK := hKK.1
  have hx := B.exec
  have hb := B.bytes
  have hr := B.returns
  have hts := atoms_spec (ws := wsX0_make) B.pre
  have hown : s.vm.findClass RX0 = some m.cls := findClass_of_methodNamed B.named
  have hlocks := B.notSynchronized
  subst hsz
  have hD := hD0.self (sz := s.heap.size)
  generalize hAe : va_A [(q0, .inr (0, [.int o1, .int o2, .int o3, .int o4])), (a0, .inr (9, [.ref ab, .ref ap, .ref an, .ref as, .int (nI N), .int d1, .int d2, .int d3, .int d4])), (as, .inl (cI, 460, .inl fs)), (k0, .inr (3, [.ref ks, .ref kz])), (ks, .inl (cI, 3680, .inl kf)), (kz, .inl (cI, 8, .inl zf))] s.heap.size = A at hD ⊢
  have hA : ∀ q : Nat, s.heap.size ≤ q → A q := fun q h => by rw [← hAe]; exact Or.inr h
  have hS : va_S A s.heap s.heap [] := va_S.rf
  have hD : va_D A [(q0, .inr (0, [.int o1, .int o2, .int o3, .int o4])), (a0, .inr (9, [.ref ab, .ref ap, .ref an, .ref as, .int (nI N), .int d1, .int d2, .int d3, .int d4])), (as, .inl (cI, 460, .inl fs)), (k0, .inr (3, [.ref ks, .ref kz])), (ks, .inl (cI, 3680, .inl kf)), (kz, .inl (cI, 8, .inl zf))] := hD
  have hP : va_P D vwCl [(q0, .inr (0, [.int o1, .int o2, .int o3, .int o4])), (a0, .inr (9, [.ref ab, .ref ap, .ref an, .ref as, .int (nI N), .int d1, .int d2, .int d3, .int d4])), (as, .inl (cI, 460, .inl fs)), (k0, .inr (3, [.ref ks, .ref kz])), (ks, .inl (cI, 3680, .inl kf)), (kz, .inl (cI, 8, .inl zf))] s.heap := hP
  have hl := lv_entry ([.ref q0, .ref a0, .ref k0, .int (nI ka), .int li]) (n := 7) (Nat.le_of_ble_eq_true rfl)
  rw [lg_entry_eq]
  generalize (lg_sl ([.ref q0, .ref a0, .ref k0, .int (nI ka), .int li]) ++ List.replicate (7 - (lg_sl ([.ref q0, .ref a0, .ref k0, .int (nI ka), .int li])).length) Slot.unset).toArray = ls at hl ⊢
  have hl : lv_has ls 7 [(0, .ref q0), (1, .ref a0), (2, .ref k0), (3, .int (nI ka)), (4, .int li)] := hl
  refine lv_aload_n hx hb dX0_make_0 rfl (lv_at hl 0 rfl) ?_
  refine lv_iconst (v := (-1)) hx hb dX0_make_1 (by decide) ?_
  refine va_put (D := D) (ci := 0) (v := .int (-1)) (ty := .int) (C := RX0) (T := TX0) (N := 4) hx hb hts (by decide +kernel) tyX0 tyX0_ok nmX0 hown hK hP hD hS 0 rfl rfl 0 (by decide) (hts (.fieldLink RX0 9 "FiberTrace$Comparison" "firstPlace" "I") (by decide +kernel)) (fun _ h9 => h9) rfl (by decide +kernel) rfl rfl (Nat.le_of_ble_eq_true rfl) dX0_make_2 (fun H locs hP hD hS => ?_)
  have hP : va_P D vwCl [(q0, .inr (0, [.int (-1), .int o2, .int o3, .int o4])), (a0, .inr (9, [.ref ab, .ref ap, .ref an, .ref as, .int (nI N), .int d1, .int d2, .int d3, .int d4])), (as, .inl (cI, 460, .inl fs)), (k0, .inr (3, [.ref ks, .ref kz])), (ks, .inl (cI, 3680, .inl kf)), (kz, .inl (cI, 8, .inl zf))] H := hP
  have hD : va_D A [(q0, .inr (0, [.int (-1), .int o2, .int o3, .int o4])), (a0, .inr (9, [.ref ab, .ref ap, .ref an, .ref as, .int (nI N), .int d1, .int d2, .int d3, .int d4])), (as, .inl (cI, 460, .inl fs)), (k0, .inr (3, [.ref ks, .ref kz])), (ks, .inl (cI, 3680, .inl kf)), (kz, .inl (cI, 8, .inl zf))] := hD
  refine lv_aload_n hx hb dX0_make_5 rfl (lv_at hl 0 rfl) ?_
  refine lv_iconst (v := 0) hx hb dX0_make_6 (by decide) ?_
  refine va_put (D := D) (ci := 0) (v := .int 0) (ty := .int) (C := RX0) (T := TX0) (N := 4) hx hb hts (by decide +kernel) tyX0 tyX0_ok nmX0 hown hK hP hD hS 0 rfl rfl 1 (by decide) (hts (.fieldLink RX0 15 "FiberTrace$Comparison" "places" "I") (by decide +kernel)) (fun _ h9 => h9) rfl (by decide +kernel) rfl rfl (Nat.le_of_ble_eq_true rfl) dX0_make_7 (fun H locs hP hD hS => ?_)
  have hP : va_P D vwCl [(q0, .inr (0, [.int (-1), .int 0, .int o3, .int o4])), (a0, .inr (9, [.ref ab, .ref ap, .ref an, .ref as, .int (nI N), .int d1, .int d2, .int d3, .int d4])), (as, .inl (cI, 460, .inl fs)), (k0, .inr (3, [.ref ks, .ref kz])), (ks, .inl (cI, 3680, .inl kf)), (kz, .inl (cI, 8, .inl zf))] H := hP
  have hD : va_D A [(q0, .inr (0, [.int (-1), .int 0, .int o3, .int o4])), (a0, .inr (9, [.ref ab, .ref ap, .ref an, .ref as, .int (nI N), .int d1, .int d2, .int d3, .int d4])), (as, .inl (cI, 460, .inl fs)), (k0, .inr (3, [.ref ks, .ref kz])), (ks, .inl (cI, 3680, .inl kf)), (kz, .inl (cI, 8, .inl zf))] := hD
  refine lv_aload_n hx hb dX0_make_10 rfl (lv_at hl 0 rfl) ?_
  refine lv_iconst (v := 0) hx hb dX0_make_11 (by decide) ?_
  refine va_put (D := D) (ci := 0) (v := .int 0) (ty := .int) (C := RX0) (T := TX0) (N := 4) hx hb hts (by decide +kernel) tyX0 tyX0_ok nmX0 hown hK hP hD hS 0 rfl rfl 2 (by decide) (hts (.fieldLink RX0 18 "FiberTrace$Comparison" "greatest" "I") (by decide +kernel)) (fun _ h9 => h9) rfl (by decide +kernel) rfl rfl (Nat.le_of_ble_eq_true rfl) dX0_make_12 (fun H locs hP hD hS => ?_)
  have hP : va_P D vwCl [(q0, .inr (0, [.int (-1), .int 0, .int 0, .int o4])), (a0, .inr (9, [.ref ab, .ref ap, .ref an, .ref as, .int (nI N), .int d1, .int d2, .int d3, .int d4])), (as, .inl (cI, 460, .inl fs)), (k0, .inr (3, [.ref ks, .ref kz])), (ks, .inl (cI, 3680, .inl kf)), (kz, .inl (cI, 8, .inl zf))] H := hP
  have hD : va_D A [(q0, .inr (0, [.int (-1), .int 0, .int 0, .int o4])), (a0, .inr (9, [.ref ab, .ref ap, .ref an, .ref as, .int (nI N), .int d1, .int d2, .int d3, .int d4])), (as, .inl (cI, 460, .inl fs)), (k0, .inr (3, [.ref ks, .ref kz])), (ks, .inl (cI, 3680, .inl kf)), (kz, .inl (cI, 8, .inl zf))] := hD
  refine lv_aload_n hx hb dX0_make_15 rfl (lv_at hl 0 rfl) ?_
  refine lv_iconst (v := 0) hx hb dX0_make_16 (by decide) ?_
  refine va_put (D := D) (ci := 0) (v := .int 0) (ty := .int) (C := RX0) (T := TX0) (N := 4) hx hb hts (by decide +kernel) tyX0 tyX0_ok nmX0 hown hK hP hD hS 0 rfl rfl 3 (by decide) (hts (.fieldLink RX0 21 "FiberTrace$Comparison" "greatestPlace" "I") (by decide +kernel)) (fun _ h9 => h9) rfl (by decide +kernel) rfl rfl (Nat.le_of_ble_eq_true rfl) dX0_make_17 (fun H locs hP hD hS => ?_)
  have hP : va_P D vwCl [(q0, .inr (0, [.int (-1), .int 0, .int 0, .int 0])), (a0, .inr (9, [.ref ab, .ref ap, .ref an, .ref as, .int (nI N), .int d1, .int d2, .int d3, .int d4])), (as, .inl (cI, 460, .inl fs)), (k0, .inr (3, [.ref ks, .ref kz])), (ks, .inl (cI, 3680, .inl kf)), (kz, .inl (cI, 8, .inl zf))] H := hP
  have hD : va_D A [(q0, .inr (0, [.int (-1), .int 0, .int 0, .int 0])), (a0, .inr (9, [.ref ab, .ref ap, .ref an, .ref as, .int (nI N), .int d1, .int d2, .int d3, .int d4])), (as, .inl (cI, 460, .inl fs)), (k0, .inr (3, [.ref ks, .ref kz])), (ks, .inl (cI, 3680, .inl kf)), (kz, .inl (cI, 8, .inl zf))] := hD
  refine lv_aload_n hx hb dX0_make_20 rfl (lv_at hl 1 rfl) ?_
  refine va_get (D := D) (ci := 9) (v := .int (nI N)) (C := RX9) (T := TX9) (N := 9) hx hb hts (by decide +kernel) hown hK hP 1 rfl rfl 4 (by decide) (hts (.fieldLink RX0 24 "FiberTrace$Trace" "size" "I") (by decide +kernel)) (fun _ h9 => h9) rfl dX0_make_21 ?_
  refine lv_aload_n hx hb dX0_make_24 rfl (lv_at hl 2 rfl) ?_
  refine lv_iload_n hx hb dX0_make_25 rfl (lv_at hl 3 rfl) ?_
  refine ft_csi (r := zf (ka % 8)) (va_runV (C := RX3) (As := [.int (nI ka)]) (rest := [.int (nI N)]) ⟨hx, hb, hml, hown, hts⟩ (c_X3_sizeOf l D cI cS k0 ks kz zf ka (by first | assumption | omega)) (cwV 1 hts gX0_make_X3_sizeOf rfl rfl rfl (by decide +kernel) ⟨Nat.le_of_ble_eq_true rfl, Nat.le_of_ble_eq_true rfl⟩) (ft_preROV (ci := 3) (q0 := 3) hP hKK [3, 5] rfl rfl rfl) rfl rfl hl.1 rfl (lv_room (Nat.le_of_ble_eq_true rfl)) dX0_make_26 ⟨Nat.le_of_ble_eq_true rfl, Nat.le_of_ble_eq_true rfl⟩) ?_
  refine ft_top (y := nI M) hz ?_
  refine va_mmin hx hb (hml.trans hl.1.symm) hown (hts (.methodLink RX0 35 Lib.Math.min.name) (by decide +kernel)) (hts (.static Lib.Math.min.name) (by decide +kernel)) (hts (.initialized "java/lang/Math") (by decide +kernel)) (hts (.code Lib.Math.min.name Lib.Math.min.code 2 (some .int)) (by decide +kernel)) (Nat.le_of_ble_eq_true rfl) (Nat.le_of_ble_eq_true rfl) (Nat.le_of_ble_eq_true rfl) (Nat.le_of_ble_eq_true rfl) dX0_make_29 ?_
  refine ft_top (y := ftMin (nI N) (nI M)) rfl ?_
  refine ft_top (y := nI (min N M)) (ft_minN (by omega) (by omega)) ?_
  refine lv_istore (lv' := [(5, .int (nI (min N M))), (0, .ref q0), (1, .ref a0), (2, .ref k0), (3, .int (nI ka)), (4, .int li)]) hx hb dX0_make_32 hl (by decide) rfl (fun ls hl => ?_)
  refine lv_iconst (v := 0) hx hb dX0_make_34 (by decide) ?_
  refine lv_istore (lv' := [(6, .int 0), (5, .int (nI (min N M))), (0, .ref q0), (1, .ref a0), (2, .ref k0), (3, .int (nI ka)), (4, .int li)]) hx hb dX0_make_35 hl (by decide) rfl (fun ls hl => ?_)
  have lp37 : ∀ (n37 : Nat) (x : Nat) (q : ftCs) (x37_6 : Int32) (g37_q0_0 : Int32) (g37_q0_1 : Int32) (g37_q0_2 : Int32) (g37_q0_3 : Int32), min N M - x < n37 → (x ≤ min N M) → (q = ftComp fs (fun x => kf ((ka % 8) * 460 + x)) li x) → x37_6 = nI x → g37_q0_0 = q.1 → g37_q0_1 = q.2.1 → g37_q0_2 = q.2.2.1 → g37_q0_3 = q.2.2.2 → ∀ (H : Heap) (locs : List Loc), va_P D vwCl [(q0, .inr (0, [.int g37_q0_0, .int g37_q0_1, .int g37_q0_2, .int g37_q0_3])), (a0, .inr (9, [.ref ab, .ref ap, .ref an, .ref as, .int (nI N), .int d1, .int d2, .int d3, .int d4])), (as, .inl (cI, 460, .inl fs)), (k0, .inr (3, [.ref ks, .ref kz])), (ks, .inl (cI, 3680, .inl kf)), (kz, .inl (cI, 8, .inl zf))] H → va_D A [(q0, .inr (0, [.int g37_q0_0, .int g37_q0_1, .int g37_q0_2, .int g37_q0_3])), (a0, .inr (9, [.ref ab, .ref ap, .ref an, .ref as, .int (nI N), .int d1, .int d2, .int d3, .int d4])), (as, .inl (cI, 460, .inl fs)), (k0, .inr (3, [.ref ks, .ref kz])), (ks, .inl (cI, 3680, .inl kf)), (kz, .inl (cI, 8, .inl zf))] → va_S A s.heap H locs → ∀ ls : Array Slot, lv_has ls 7 [(0, .ref q0), (1, .ref a0), (2, .ref k0), (3, .int (nI ka)), (4, .int li), (5, .int (nI (min N M))), (6, .int x37_6)] → W p l e (headSpec wsX0_make { frames := 2, cells := 0, slots := 0, locals := 44 }).room s m ([.ref q0, .ref a0, .ref k0, .int (nI ka), .int li] : List Value).toArray below meth c H locs 0 0 (MQ below (ftQv D [(q0, .inr (0, [.int o1, .int o2, .int o3, .int o4])), (a0, .inr (9, [.ref ab, .ref ap, .ref an, .ref as, .int (nI N), .int d1, .int d2, .int d3, .int d4])), (as, .inl (cI, 460, .inl fs)), (k0, .inr (3, [.ref ks, .ref kz])), (ks, .inl (cI, 3680, .inl kf)), (kz, .inl (cI, 8, .inl zf))] [(q0, .inr (0, [.int ((ftComp fs (fun x => kf ((ka % 8) * 460 + x)) li (min N M)).1), .int ((ftComp fs (fun x => kf ((ka % 8) * 460 + x)) li (min N M)).2.1), .int ((ftComp fs (fun x => kf ((ka % 8) * 460 + x)) li (min N M)).2.2.1), .int ((ftComp fs (fun x => kf ((ka % 8) * 460 + x)) li (min N M)).2.2.2)])), (a0, .inr (9, [.ref ab, .ref ap, .ref an, .ref as, .int (nI N), .int d1, .int d2, .int d3, .int d4])), (as, .inl (cI, 460, .inl fs)), (k0, .inr (3, [.ref ks, .ref kz])), (ks, .inl (cI, 3680, .inl kf)), (kz, .inl (cI, 8, .inl zf))] s.heap.size) ([.ref q0, .ref a0, .ref k0, .int (nI ka), .int li] : List Value).toArray s 0 0 A) (F0 m 37 ls []) := by
    intro n37
    induction n37 with
    | zero =>
      intro x q x37_6 g37_q0_0 g37_q0_1 g37_q0_2 g37_q0_3 hm37
      exact absurd hm37 (Nat.not_lt_zero _)
    | succ n37 ih37 =>
      intro x q x37_6 g37_q0_0 g37_q0_1 g37_q0_2 g37_q0_3 hm37 hx0 hq ex37_6 eg37_q0_0 eg37_q0_1 eg37_q0_2 eg37_q0_3 H locs hP hD hS ls hl
      subst ex37_6
      subst eg37_q0_0
      subst eg37_q0_1
      subst eg37_q0_2
      subst eg37_q0_3
      refine lv_iload hx hb dX0_make_37 (lv_at hl 6 rfl) ?_
      refine lv_iload hx hb dX0_make_39 (lv_at hl 5 rfl) ?_
      refine lv_icmp_ge (tgt := 78) hx hb dX0_make_41 (by decide) (fun c41 => ?_) (fun c41 => ?_)
      · have c41n : (min N M) ≤ x := ft_leN (by omega) (by omega) c41
        have hw9 : ([(q0, .inr (0, [.int q.1, .int q.2.1, .int q.2.2.1, .int q.2.2.2])), (a0, .inr (9, [.ref ab, .ref ap, .ref an, .ref as, .int (nI N), .int d1, .int d2, .int d3, .int d4])), (as, .inl (cI, 460, .inl fs)), (k0, .inr (3, [.ref ks, .ref kz])), (ks, .inl (cI, 3680, .inl kf)), (kz, .inl (cI, 8, .inl zf))] : va_W) = [(q0, .inr (0, [.int ((ftComp fs (fun x => kf ((ka % 8) * 460 + x)) li (min N M)).1), .int ((ftComp fs (fun x => kf ((ka % 8) * 460 + x)) li (min N M)).2.1), .int ((ftComp fs (fun x => kf ((ka % 8) * 460 + x)) li (min N M)).2.2.1), .int ((ftComp fs (fun x => kf ((ka % 8) * 460 + x)) li (min N M)).2.2.2)])), (a0, .inr (9, [.ref ab, .ref ap, .ref an, .ref as, .int (nI N), .int d1, .int d2, .int d3, .int d4])), (as, .inl (cI, 460, .inl fs)), (k0, .inr (3, [.ref ks, .ref kz])), (ks, .inl (cI, 3680, .inl kf)), (kz, .inl (cI, 8, .inl zf))] := by (have h9 : x = min N M := by omega); rw [hq, h9]
        rw [hw9] at hP hD
        exact W.vret hx hb hr (fun t ht hW => ⟨⟨(), rfl, trivial, by rw [ht]; exact hP, by rw [hAe]; exact hD⟩, by rw [hAe]; exact hS.F ht⟩) hS.2.2 dX0_make_78
      · have c41n : x < (min N M) := ft_nleN (by omega) (by omega) c41
        refine lv_aload_n hx hb dX0_make_44 rfl (lv_at hl 0 rfl) ?_
        refine lv_iload hx hb dX0_make_45 (lv_at hl 6 rfl) ?_
        refine lv_aload_n hx hb dX0_make_47 rfl (lv_at hl 1 rfl) ?_
        refine va_get (D := D) (ci := 9) (v := .ref as) (C := RX9) (T := TX9) (N := 9) hx hb hts (by decide +kernel) hown hK hP 1 rfl rfl 3 (by decide) (hts (.fieldLink RX0 41 "FiberTrace$Trace" "samples" "[I") (by decide +kernel)) (fun _ h9 => h9) rfl dX0_make_48 ?_
        refine lv_iload hx hb dX0_make_51 (lv_at hl 6 rfl) ?_
        refine ft_csi (r := ftAt 460 fs (nI x)) (va_runSN (As := [.ref as, .int (nI x)]) (rest := [.int (nI x), .ref q0]) ⟨hx, hb, hml, hown, hts⟩ (c_X10_at l D cI cS as 460 fs (nI x) (by first | assumption | omega)) ⟨va_cnB 2 hts gX0_make_X10_at_n45 rfl rfl rfl (hKK.2 _ (List.mem_of_getElem? (i := 27) rfl)) (hts (.initialized RX10) (by decide +kernel)) (by decide +kernel) ⟨Nat.le_of_ble_eq_true rfl, Nat.le_of_ble_eq_true rfl⟩, hts (.static yX10_at) (by decide +kernel), trivial⟩ (ft_preRO hP hKK [2] rfl) rfl rfl hl.1 rfl (lv_room (Nat.le_of_ble_eq_true rfl)) dX0_make_53 ⟨Nat.le_of_ble_eq_true rfl, Nat.le_of_ble_eq_true rfl⟩) ?_
        refine ft_top (y := fs x) (ftAt_N (by omega) (by omega)) ?_
        refine lv_aload_n hx hb dX0_make_56 rfl (lv_at hl 2 rfl) ?_
        refine lv_iload_n hx hb dX0_make_57 rfl (lv_at hl 3 rfl) ?_
        refine lv_iload hx hb dX0_make_58 (lv_at hl 6 rfl) ?_
        refine ft_csi (r := kf ((ka % 8) * 460 + x)) (va_runV (C := RX3) (As := [.int (nI ka), .int (nI x)]) (rest := [.int (fs x), .int (nI x), .ref q0]) ⟨hx, hb, hml, hown, hts⟩ (c_X3_valueAt l D cI cS k0 ks kz kf ka x (by first | assumption | omega) (by first | assumption | omega)) (cwV 2 hts gX0_make_X3_valueAt rfl rfl rfl (by decide +kernel) ⟨Nat.le_of_ble_eq_true rfl, Nat.le_of_ble_eq_true rfl⟩) (ft_preROV (ci := 3) (q0 := 3) hP hKK [3, 4] rfl rfl rfl) rfl rfl hl.1 rfl (lv_room (Nat.le_of_ble_eq_true rfl)) dX0_make_60 ⟨Nat.le_of_ble_eq_true rfl, Nat.le_of_ble_eq_true rfl⟩) ?_
        refine lv_isub hx hb dX0_make_63 ?_
        refine va_mabs hx hb (hml.trans hl.1.symm) hown (hts (.methodLink RX0 52 Lib.Math.abs.name) (by decide +kernel)) (hts (.static Lib.Math.abs.name) (by decide +kernel)) (hts (.initialized "java/lang/Math") (by decide +kernel)) (hts (.code Lib.Math.abs.name Lib.Math.abs.code 1 (some .int)) (by decide +kernel)) (Nat.le_of_ble_eq_true rfl) (Nat.le_of_ble_eq_true rfl) (Nat.le_of_ble_eq_true rfl) (Nat.le_of_ble_eq_true rfl) dX0_make_64 ?_
        refine ft_top (y := ftAbs ((fs x) - (kf ((ka % 8) * 460 + x)))) rfl ?_
        refine lv_iload hx hb dX0_make_67 (lv_at hl 4 rfl) ?_
        refine ft_cv (wc := [(q0, .inr (0, [.int q.1, .int q.2.1, .int q.2.2.1, .int q.2.2.2]))]) (wr := [(a0, .inr (9, [.ref ab, .ref ap, .ref an, .ref as, .int (nI N), .int d1, .int d2, .int d3, .int d4])), (as, .inl (cI, 460, .inl fs)), (k0, .inr (3, [.ref ks, .ref kz])), (ks, .inl (cI, 3680, .inl kf)), (kz, .inl (cI, 8, .inl zf))]) (w1 := [(q0, .inr (0, [.int ((ftNote q (nI x) (ftAbs ((fs x) - (kf ((ka % 8) * 460 + x)))) li).1), .int ((ftNote q (nI x) (ftAbs ((fs x) - (kf ((ka % 8) * 460 + x)))) li).2.1), .int ((ftNote q (nI x) (ftAbs ((fs x) - (kf ((ka % 8) * 460 + x)))) li).2.2.1), .int ((ftNote q (nI x) (ftAbs ((fs x) - (kf ((ka % 8) * 460 + x)))) li).2.2.2)]))]) (ws1 := [(q0, .inr (0, [.int ((ftNote q (nI x) (ftAbs ((fs x) - (kf ((ka % 8) * 460 + x)))) li).1), .int ((ftNote q (nI x) (ftAbs ((fs x) - (kf ((ka % 8) * 460 + x)))) li).2.1), .int ((ftNote q (nI x) (ftAbs ((fs x) - (kf ((ka % 8) * 460 + x)))) li).2.2.1), .int ((ftNote q (nI x) (ftAbs ((fs x) - (kf ((ka % 8) * 460 + x)))) li).2.2.2)])), (a0, .inr (9, [.ref ab, .ref ap, .ref an, .ref as, .int (nI N), .int d1, .int d2, .int d3, .int d4])), (as, .inl (cI, 460, .inl fs)), (k0, .inr (3, [.ref ks, .ref kz])), (ks, .inl (cI, 3680, .inl kf)), (kz, .inl (cI, 8, .inl zf))]) (va_runV (C := RX0) (As := [.int (nI x), .int (ftAbs ((fs x) - (kf ((ka % 8) * 460 + x)))), .int li]) (rest := []) ⟨hx, hb, hml, hown, hts⟩ (c_X0_note l D cI cS H.size q0 q (nI x) (ftAbs ((fs x) - (kf ((ka % 8) * 460 + x)))) li) (cwV 3 hts gX0_make_X0_note rfl rfl rfl (by decide +kernel) ⟨Nat.le_of_ble_eq_true rfl, Nat.le_of_ble_eq_true rfl⟩) (ft_preRWV (ci := 0) (q0 := 0) hP hD hKK [0] rfl rfl rfl rfl rfl) rfl rfl hl.1 rfl (lv_room (Nat.le_of_ble_eq_true rfl)) dX0_make_69 ⟨Nat.le_of_ble_eq_true rfl, Nat.le_of_ble_eq_true rfl⟩) hP hD hS hA [0] [1, 2, 3, 4, 5] [5, 0, 1, 2, 3, 4] rfl rfl (by decide) (by decide) (by decide) rfl rfl (fun H locs hP hD hS => ?_)
        have hP : va_P D vwCl [(q0, .inr (0, [.int ((ftNote q (nI x) (ftAbs ((fs x) - (kf ((ka % 8) * 460 + x)))) li).1), .int ((ftNote q (nI x) (ftAbs ((fs x) - (kf ((ka % 8) * 460 + x)))) li).2.1), .int ((ftNote q (nI x) (ftAbs ((fs x) - (kf ((ka % 8) * 460 + x)))) li).2.2.1), .int ((ftNote q (nI x) (ftAbs ((fs x) - (kf ((ka % 8) * 460 + x)))) li).2.2.2)])), (a0, .inr (9, [.ref ab, .ref ap, .ref an, .ref as, .int (nI N), .int d1, .int d2, .int d3, .int d4])), (as, .inl (cI, 460, .inl fs)), (k0, .inr (3, [.ref ks, .ref kz])), (ks, .inl (cI, 3680, .inl kf)), (kz, .inl (cI, 8, .inl zf))] H := hP
        have hD : va_D A [(q0, .inr (0, [.int ((ftNote q (nI x) (ftAbs ((fs x) - (kf ((ka % 8) * 460 + x)))) li).1), .int ((ftNote q (nI x) (ftAbs ((fs x) - (kf ((ka % 8) * 460 + x)))) li).2.1), .int ((ftNote q (nI x) (ftAbs ((fs x) - (kf ((ka % 8) * 460 + x)))) li).2.2.1), .int ((ftNote q (nI x) (ftAbs ((fs x) - (kf ((ka % 8) * 460 + x)))) li).2.2.2)])), (a0, .inr (9, [.ref ab, .ref ap, .ref an, .ref as, .int (nI N), .int d1, .int d2, .int d3, .int d4])), (as, .inl (cI, 460, .inl fs)), (k0, .inr (3, [.ref ks, .ref kz])), (ks, .inl (cI, 3680, .inl kf)), (kz, .inl (cI, 8, .inl zf))] := hD
        refine lv_iinc (v := nI (x + 1)) (lv' := [(6, .int (nI (x + 1))), (0, .ref q0), (1, .ref a0), (2, .ref k0), (3, .int (nI ka)), (4, .int li), (5, .int (nI (min N M)))]) hx hb dX0_make_72 hl (k := 6) rfl (ft_inc x) (by decide) rfl (fun ls hl => ?_)
        refine lv_goto (tgt := 37) hx hb dX0_make_75 (by decide) ?_
        exact ih37 (x + 1) (ftNote q (nI x) (ftAbs (fs x - kf ((ka % 8) * 460 + x))) li) (nI (x + 1)) ((ftNote q (nI x) (ftAbs ((fs x) - (kf ((ka % 8) * 460 + x)))) li).1) ((ftNote q (nI x) (ftAbs ((fs x) - (kf ((ka % 8) * 460 + x)))) li).2.1) ((ftNote q (nI x) (ftAbs ((fs x) - (kf ((ka % 8) * 460 + x)))) li).2.2.1) ((ftNote q (nI x) (ftAbs ((fs x) - (kf ((ka % 8) * 460 + x)))) li).2.2.2) (by omega) (by omega) (by rw [hq]; rfl) (by first | rfl | assumption) (by first | rfl | assumption) (by first | rfl | assumption) (by first | rfl | assumption) (by first | rfl | assumption) _ _ hP hD hS ls (lv_sub hl [1, 2, 3, 4, 5, 6, 0] rfl)
  exact lp37 _ 0 (-1, 0, 0, 0) 0 (-1) 0 0 0 (Nat.lt_succ_self _) (by omega) (by rfl) (by rfl) (by rfl) (by rfl) (by rfl) (by rfl) _ _ hP hD hS ls (lv_sub hl [2, 3, 4, 5, 6, 1, 0] rfl)
set_option maxHeartbeats 4000000 in
set_option maxRecDepth 100000 in
theorem c_X8_keptCount (l : Launch) (D : va_G) (cI cS : ClassId) (t0 l0 s0 : Nat) (ke : Nat) (hke : ke < 2 ^ 31) : Met l yX8_keptCount wsX8_keptCount ({ frames := 1, cells := 0, slots := 0, locals := 30 }) (ftRO D cI cS [.ref t0] [(t0, .inr (8, [.ref l0, .ref s0, .int (nI ke)]))]) (vp_Si (fun o9 => o9 = nI (min ke 3))) 0 0 (fun _ => False) := by
  refine Met.ofW (cc := cX8_keptCount) (maxL := 1) (ret := (some .int)) (by decide) rfl ?_
  intro p e s m args below meth c s₁ B hml hv
  obtain ⟨rfl, hP, hKK⟩ := hv
  have hK := hKK.1
  have hx := B.exec
  have hb := B.bytes
  have hr := B.returns
  have hts := atoms_spec (ws := wsX8_keptCount) B.pre
  have hown : s.vm.findClass RX8 = some m.cls := findClass_of_methodNamed B.named
  have hlocks := B.notSynchronized
  have hP : va_P D vwCl [(t0, .inr (8, [.ref l0, .ref s0, .int (nI ke)]))] s.heap := hP
  have hl := lv_entry ([.ref t0]) (n := 1) (Nat.le_of_ble_eq_true rfl)
  rw [lg_entry_eq]
  generalize (lg_sl ([.ref t0]) ++ List.replicate (1 - (lg_sl ([.ref t0])).length) Slot.unset).toArray = ls at hl ⊢
  have hl : lv_has ls 1 [(0, .ref t0)] := hl
  refine lv_aload_n hx hb dX8_keptCount_0 rfl (lv_at hl 0 rfl) ?_
  refine va_get (D := D) (ci := 8) (v := .int (nI ke)) (C := RX8) (T := TX8) (N := 3) hx hb hts (by decide +kernel) hown hK hP 0 rfl rfl 2 (by decide) (hts (.fieldLink RX8 31 "FiberTrace$State" "keeps" "I") (by decide +kernel)) (fun _ h9 => h9) rfl dX8_keptCount_1 ?_
  refine lv_iconst (v := 3) hx hb dX8_keptCount_4 (by decide) ?_
  refine va_mmin hx hb (hml.trans hl.1.symm) hown (hts (.methodLink RX8 39 Lib.Math.min.name) (by decide +kernel)) (hts (.static Lib.Math.min.name) (by decide +kernel)) (hts (.initialized "java/lang/Math") (by decide +kernel)) (hts (.code Lib.Math.min.name Lib.Math.min.code 2 (some .int)) (by decide +kernel)) (Nat.le_of_ble_eq_true rfl) (Nat.le_of_ble_eq_true rfl) (Nat.le_of_ble_eq_true rfl) (Nat.le_of_ble_eq_true rfl) dX8_keptCount_5 ?_
  refine ft_top (y := ftMin (nI ke) 3) rfl ?_
  refine ft_top (y := nI (min ke 3)) (ft_minN (b := 3) hke (by omega)) ?_
  exact W.iret (v := nI (min ke 3)) hx hb hr (fun t ht hW => ⟨nI (min ke 3), rfl, rfl, ht⟩) (fun _ h9 => absurd h9 List.not_mem_nil) dX8_keptCount_8
end
section
set_option maxHeartbeats 4000000 in
set_option maxRecDepth 100000 in
theorem c_X8_copyFrom (l : Launch) (D : va_G) (cI cS : ClassId) (sz : Nat) (t0 l0 g0 : Nat) (len att en : Int32) (n ak ap al ar : Nat) (kf pf lf rf sf : Nat → Int32) (ke : Nat) (u0 m0 w0 : Nat) (len2 att2 en2 : Int32) (n2 bk bp bl br : Nat) (kg pg lg rg sg : Nat → Int32) (ke2 : Nat)  : Met l yX8_copyFrom wsX8_copyFrom ({ frames := 2, cells := 0, slots := 0, locals := 51 }) (ftRW D cI cS [.ref t0, .ref u0] [(t0, .inr (8, [.ref l0, .ref g0, .int (nI ke)])), (l0, .inr (4, [.int len, .int att, .int en, .int (nI n), .ref ak, .ref ap, .ref al, .ref ar])), (ak, .inl (cI, 10, .inl kf)), (ap, .inl (cI, 10, .inl pf)), (al, .inl (cI, 10, .inl lf)), (ar, .inl (cI, 10, .inl rf)), (g0, .inl (cI, 11, .inl sf)), (u0, .inr (8, [.ref m0, .ref w0, .int (nI ke2)])), (m0, .inr (4, [.int len2, .int att2, .int en2, .int (nI n2), .ref bk, .ref bp, .ref bl, .ref br])), (bk, .inl (cI, 10, .inl kg)), (bp, .inl (cI, 10, .inl pg)), (bl, .inl (cI, 10, .inl lg)), (br, .inl (cI, 10, .inl rg)), (w0, .inl (cI, 11, .inl sg))] sz) (ftQv D [(t0, .inr (8, [.ref l0, .ref g0, .int (nI ke)])), (l0, .inr (4, [.int len, .int att, .int en, .int (nI n), .ref ak, .ref ap, .ref al, .ref ar])), (ak, .inl (cI, 10, .inl kf)), (ap, .inl (cI, 10, .inl pf)), (al, .inl (cI, 10, .inl lf)), (ar, .inl (cI, 10, .inl rf)), (g0, .inl (cI, 11, .inl sf)), (u0, .inr (8, [.ref m0, .ref w0, .int (nI ke2)])), (m0, .inr (4, [.int len2, .int att2, .int en2, .int (nI n2), .ref bk, .ref bp, .ref bl, .ref br])), (bk, .inl (cI, 10, .inl kg)), (bp, .inl (cI, 10, .inl pg)), (bl, .inl (cI, 10, .inl lg)), (br, .inl (cI, 10, .inl rg)), (w0, .inl (cI, 11, .inl sg))] [(t0, .inr (8, [.ref l0, .ref g0, .int (nI ke2)])), (l0, .inr (4, [.int len2, .int att2, .int en2, .int (nI n2), .ref ak, .ref ap, .ref al, .ref ar])), (ak, .inl (cI, 10, .inl (va_cpy kg kf 0 0 10))), (ap, .inl (cI, 10, .inl (va_cpy pg pf 0 0 10))), (al, .inl (cI, 10, .inl (va_cpy lg lf 0 0 10))), (ar, .inl (cI, 10, .inl (va_cpy rg rf 0 0 10))), (g0, .inl (cI, 11, .inl (va_cpy sg sf 0 0 11))), (u0, .inr (8, [.ref m0, .ref w0, .int (nI ke2)])), (m0, .inr (4, [.int len2, .int att2, .int en2, .int (nI n2), .ref bk, .ref bp, .ref bl, .ref br])), (bk, .inl (cI, 10, .inl kg)), (bp, .inl (cI, 10, .inl pg)), (bl, .inl (cI, 10, .inl lg)), (br, .inl (cI, 10, .inl rg)), (w0, .inl (cI, 11, .inl sg))] sz) 0 0 (va_A [(t0, .inr (8, [.ref l0, .ref g0, .int (nI ke)])), (l0, .inr (4, [.int len, .int att, .int en, .int (nI n), .ref ak, .ref ap, .ref al, .ref ar])), (ak, .inl (cI, 10, .inl kf)), (ap, .inl (cI, 10, .inl pf)), (al, .inl (cI, 10, .inl lf)), (ar, .inl (cI, 10, .inl rf)), (g0, .inl (cI, 11, .inl sf)), (u0, .inr (8, [.ref m0, .ref w0, .int (nI ke2)])), (m0, .inr (4, [.int len2, .int att2, .int en2, .int (nI n2), .ref bk, .ref bp, .ref bl, .ref br])), (bk, .inl (cI, 10, .inl kg)), (bp, .inl (cI, 10, .inl pg)), (bl, .inl (cI, 10, .inl lg)), (br, .inl (cI, 10, .inl rg)), (w0, .inl (cI, 11, .inl sg))] sz) := by
  refine Met.ofW (cc := cX8_copyFrom) (maxL := 2) (ret := none) (by decide) rfl ?_
  intro p e s m args below meth c s₁ B hml hv
  obtain ⟨rfl, hsz, hP, hKK, hD0⟩ := hv
  have hK := hKK.1
  have hx := B.exec
  have hb := B.bytes
  have hr := B.returns
  have hts := atoms_spec (ws := wsX8_copyFrom) B.pre
  have hown : s.vm.findClass RX8 = some m.cls := findClass_of_methodNamed B.named
  have hlocks := B.notSynchronized
  subst hsz
  have hD := hD0.self (sz := s.heap.size)
  generalize hAe : va_A [(t0, .inr (8, [.ref l0, .ref g0, .int (nI ke)])), (l0, .inr (4, [.int len, .int att, .int en, .int (nI n), .ref ak, .ref ap, .ref al, .ref ar])), (ak, .inl (cI, 10, .inl kf)), (ap, .inl (cI, 10, .inl pf)), (al, .inl (cI, 10, .inl lf)), (ar, .inl (cI, 10, .inl rf)), (g0, .inl (cI, 11, .inl sf)), (u0, .inr (8, [.ref m0, .ref w0, .int (nI ke2)])), (m0, .inr (4, [.int len2, .int att2, .int en2, .int (nI n2), .ref bk, .ref bp, .ref bl, .ref br])), (bk, .inl (cI, 10, .inl kg)), (bp, .inl (cI, 10, .inl pg)), (bl, .inl (cI, 10, .inl lg)), (br, .inl (cI, 10, .inl rg)), (w0, .inl (cI, 11, .inl sg))] s.heap.size = A at hD ⊢
  have hA : ∀ q : Nat, s.heap.size ≤ q → A q := fun q h => by rw [← hAe]; exact Or.inr h
  have hS : va_S A s.heap s.heap [] := va_S.rf
  have hD : va_D A [(t0, .inr (8, [.ref l0, .ref g0, .int (nI ke)])), (l0, .inr (4, [.int len, .int att, .int en, .int (nI n), .ref ak, .ref ap, .ref al, .ref ar])), (ak, .inl (cI, 10, .inl kf)), (ap, .inl (cI, 10, .inl pf)), (al, .inl (cI, 10, .inl lf)), (ar, .inl (cI, 10, .inl rf)), (g0, .inl (cI, 11, .inl sf)), (u0, .inr (8, [.ref m0, .ref w0, .int (nI ke2)])), (m0, .inr (4, [.int len2, .int att2, .int en2, .int (nI n2), .ref bk, .ref bp, .ref bl, .ref br])), (bk, .inl (cI, 10, .inl kg)), (bp, .inl (cI, 10, .inl pg)), (bl, .inl (cI, 10, .inl lg)), (br, .inl (cI, 10, .inl rg)), (w0, .inl (cI, 11, .inl sg))] := hD
  have hP : va_P D vwCl [(t0, .inr (8, [.ref l0, .ref g0, .int (nI ke)])), (l0, .inr (4, [.int len, .int att, .int en, .int (nI n), .ref ak, .ref ap, .ref al, .ref ar])), (ak, .inl (cI, 10, .inl kf)), (ap, .inl (cI, 10, .inl pf)), (al, .inl (cI, 10, .inl lf)), (ar, .inl (cI, 10, .inl rf)), (g0, .inl (cI, 11, .inl sf)), (u0, .inr (8, [.ref m0, .ref w0, .int (nI ke2)])), (m0, .inr (4, [.int len2, .int att2, .int en2, .int (nI n2), .ref bk, .ref bp, .ref bl, .ref br])), (bk, .inl (cI, 10, .inl kg)), (bp, .inl (cI, 10, .inl pg)), (bl, .inl (cI, 10, .inl lg)), (br, .inl (cI, 10, .inl rg)), (w0, .inl (cI, 11, .inl sg))] s.heap := hP
  have hl := lv_entry ([.ref t0, .ref u0]) (n := 2) (Nat.le_of_ble_eq_true rfl)
  rw [lg_entry_eq]
  generalize (lg_sl ([.ref t0, .ref u0]) ++ List.replicate (2 - (lg_sl ([.ref t0, .ref u0])).length) Slot.unset).toArray = ls at hl ⊢
  have hl : lv_has ls 2 [(0, .ref t0), (1, .ref u0)] := hl
  refine lv_aload_n hx hb dX8_copyFrom_0 rfl (lv_at hl 0 rfl) ?_
  refine va_get (D := D) (ci := 8) (v := .ref l0) (C := RX8) (T := TX8) (N := 3) hx hb hts (by decide +kernel) hown hK hP 0 rfl rfl 0 (by decide) (hts (.fieldLink RX8 12 "FiberTrace$State" "link" "LFiberTrace$Link;") (by decide +kernel)) (fun _ h9 => h9) rfl dX8_copyFrom_1 ?_
  refine lv_aload_n hx hb dX8_copyFrom_4 rfl (lv_at hl 1 rfl) ?_
  refine va_get (D := D) (ci := 8) (v := .ref m0) (C := RX8) (T := TX8) (N := 3) hx hb hts (by decide +kernel) hown hK hP 7 rfl rfl 0 (by decide) (hts (.fieldLink RX8 12 "FiberTrace$State" "link" "LFiberTrace$Link;") (by decide +kernel)) (fun _ h9 => h9) rfl dX8_copyFrom_5 ?_
  refine ft_cv (wc := [(l0, .inr (4, [.int len, .int att, .int en, .int (nI n), .ref ak, .ref ap, .ref al, .ref ar])), (ak, .inl (cI, 10, .inl kf)), (ap, .inl (cI, 10, .inl pf)), (al, .inl (cI, 10, .inl lf)), (ar, .inl (cI, 10, .inl rf)), (m0, .inr (4, [.int len2, .int att2, .int en2, .int (nI n2), .ref bk, .ref bp, .ref bl, .ref br])), (bk, .inl (cI, 10, .inl kg)), (bp, .inl (cI, 10, .inl pg)), (bl, .inl (cI, 10, .inl lg)), (br, .inl (cI, 10, .inl rg))]) (wr := [(t0, .inr (8, [.ref l0, .ref g0, .int (nI ke)])), (g0, .inl (cI, 11, .inl sf)), (u0, .inr (8, [.ref m0, .ref w0, .int (nI ke2)])), (w0, .inl (cI, 11, .inl sg))]) (w1 := [(l0, .inr (4, [.int len2, .int att2, .int en2, .int (nI n2), .ref ak, .ref ap, .ref al, .ref ar])), (ak, .inl (cI, 10, .inl (va_cpy kg kf 0 0 10))), (ap, .inl (cI, 10, .inl (va_cpy pg pf 0 0 10))), (al, .inl (cI, 10, .inl (va_cpy lg lf 0 0 10))), (ar, .inl (cI, 10, .inl (va_cpy rg rf 0 0 10))), (m0, .inr (4, [.int len2, .int att2, .int en2, .int (nI n2), .ref bk, .ref bp, .ref bl, .ref br])), (bk, .inl (cI, 10, .inl kg)), (bp, .inl (cI, 10, .inl pg)), (bl, .inl (cI, 10, .inl lg)), (br, .inl (cI, 10, .inl rg))]) (ws1 := [(t0, .inr (8, [.ref l0, .ref g0, .int (nI ke)])), (l0, .inr (4, [.int len2, .int att2, .int en2, .int (nI n2), .ref ak, .ref ap, .ref al, .ref ar])), (ak, .inl (cI, 10, .inl (va_cpy kg kf 0 0 10))), (ap, .inl (cI, 10, .inl (va_cpy pg pf 0 0 10))), (al, .inl (cI, 10, .inl (va_cpy lg lf 0 0 10))), (ar, .inl (cI, 10, .inl (va_cpy rg rf 0 0 10))), (g0, .inl (cI, 11, .inl sf)), (u0, .inr (8, [.ref m0, .ref w0, .int (nI ke2)])), (m0, .inr (4, [.int len2, .int att2, .int en2, .int (nI n2), .ref bk, .ref bp, .ref bl, .ref br])), (bk, .inl (cI, 10, .inl kg)), (bp, .inl (cI, 10, .inl pg)), (bl, .inl (cI, 10, .inl lg)), (br, .inl (cI, 10, .inl rg)), (w0, .inl (cI, 11, .inl sg))]) (va_runV (C := RX4) (As := [.ref m0]) (rest := []) ⟨hx, hb, hml, hown, hts⟩ (c_X4_copyFrom l D cI cS s.heap.size l0 len att en n ak ap al ar kf pf lf rf m0 len2 att2 en2 n2 bk bp bl br kg pg lg rg) (cwV 1 hts gX8_copyFrom_X4_copyFrom rfl rfl rfl (by decide +kernel) ⟨Nat.le_of_ble_eq_true rfl, Nat.le_of_ble_eq_true rfl⟩) (ft_preRWV (ci := 4) (q0 := 1) hP hD hKK [1, 2, 3, 4, 5, 8, 9, 10, 11, 12] rfl rfl rfl rfl rfl) rfl rfl hl.1 rfl (lv_room (Nat.le_of_ble_eq_true rfl)) dX8_copyFrom_8 ⟨Nat.le_of_ble_eq_true rfl, Nat.le_of_ble_eq_true rfl⟩) hP hD hS hA [1, 2, 3, 4, 5, 8, 9, 10, 11, 12] [0, 6, 7, 13] [0, 4, 5, 6, 7, 8, 1, 2, 9, 10, 11, 12, 13, 3] rfl rfl (by decide) (by decide) (by decide) rfl rfl (fun H locs hP hD hS => ?_)
  have hP : va_P D vwCl [(t0, .inr (8, [.ref l0, .ref g0, .int (nI ke)])), (l0, .inr (4, [.int len2, .int att2, .int en2, .int (nI n2), .ref ak, .ref ap, .ref al, .ref ar])), (ak, .inl (cI, 10, .inl (va_cpy kg kf 0 0 10))), (ap, .inl (cI, 10, .inl (va_cpy pg pf 0 0 10))), (al, .inl (cI, 10, .inl (va_cpy lg lf 0 0 10))), (ar, .inl (cI, 10, .inl (va_cpy rg rf 0 0 10))), (g0, .inl (cI, 11, .inl sf)), (u0, .inr (8, [.ref m0, .ref w0, .int (nI ke2)])), (m0, .inr (4, [.int len2, .int att2, .int en2, .int (nI n2), .ref bk, .ref bp, .ref bl, .ref br])), (bk, .inl (cI, 10, .inl kg)), (bp, .inl (cI, 10, .inl pg)), (bl, .inl (cI, 10, .inl lg)), (br, .inl (cI, 10, .inl rg)), (w0, .inl (cI, 11, .inl sg))] H := hP
  have hD : va_D A [(t0, .inr (8, [.ref l0, .ref g0, .int (nI ke)])), (l0, .inr (4, [.int len2, .int att2, .int en2, .int (nI n2), .ref ak, .ref ap, .ref al, .ref ar])), (ak, .inl (cI, 10, .inl (va_cpy kg kf 0 0 10))), (ap, .inl (cI, 10, .inl (va_cpy pg pf 0 0 10))), (al, .inl (cI, 10, .inl (va_cpy lg lf 0 0 10))), (ar, .inl (cI, 10, .inl (va_cpy rg rf 0 0 10))), (g0, .inl (cI, 11, .inl sf)), (u0, .inr (8, [.ref m0, .ref w0, .int (nI ke2)])), (m0, .inr (4, [.int len2, .int att2, .int en2, .int (nI n2), .ref bk, .ref bp, .ref bl, .ref br])), (bk, .inl (cI, 10, .inl kg)), (bp, .inl (cI, 10, .inl pg)), (bl, .inl (cI, 10, .inl lg)), (br, .inl (cI, 10, .inl rg)), (w0, .inl (cI, 11, .inl sg))] := hD
  refine lv_aload_n hx hb dX8_copyFrom_11 rfl (lv_at hl 1 rfl) ?_
  refine va_get (D := D) (ci := 8) (v := .ref w0) (C := RX8) (T := TX8) (N := 3) hx hb hts (by decide +kernel) hown hK hP 7 rfl rfl 1 (by decide) (hts (.fieldLink RX8 18 "FiberTrace$State" "settings" "[I") (by decide +kernel)) (fun _ h9 => h9) rfl dX8_copyFrom_12 ?_
  refine lv_iconst (v := 0) hx hb dX8_copyFrom_15 (by decide) ?_
  refine lv_aload_n hx hb dX8_copyFrom_16 rfl (lv_at hl 0 rfl) ?_
  refine va_get (D := D) (ci := 8) (v := .ref g0) (C := RX8) (T := TX8) (N := 3) hx hb hts (by decide +kernel) hown hK hP 0 rfl rfl 1 (by decide) (hts (.fieldLink RX8 18 "FiberTrace$State" "settings" "[I") (by decide +kernel)) (fun _ h9 => h9) rfl dX8_copyFrom_17 ?_
  refine lv_iconst (v := 0) hx hb dX8_copyFrom_20 (by decide) ?_
  refine lv_bipush (v := 11) hx hb dX8_copyFrom_21 (by decide) ?_
  refine va_copyi hx hb (hml.trans hl.1.symm) hown (hts (.methodLink RX8 25 arraycopyName) (by decide +kernel)) (hts (.native arraycopyName) (by decide +kernel)) (hts (.static arraycopyName) (by decide +kernel)) (hts (.initialized "java/lang/System") (by decide +kernel)) hK hP hD hS 13 6 0 0 rfl rfl rfl rfl rfl (by decide) (by decide) (by decide) (by decide) (by decide) (fun _ _ => rfl) (Nat.le_of_ble_eq_true rfl) (Nat.le_of_ble_eq_true rfl) dX8_copyFrom_23 (fun H locs hP hD hS => ?_)
  have hP : va_P D vwCl [(t0, .inr (8, [.ref l0, .ref g0, .int (nI ke)])), (l0, .inr (4, [.int len2, .int att2, .int en2, .int (nI n2), .ref ak, .ref ap, .ref al, .ref ar])), (ak, .inl (cI, 10, .inl (va_cpy kg kf 0 0 10))), (ap, .inl (cI, 10, .inl (va_cpy pg pf 0 0 10))), (al, .inl (cI, 10, .inl (va_cpy lg lf 0 0 10))), (ar, .inl (cI, 10, .inl (va_cpy rg rf 0 0 10))), (g0, .inl (cI, 11, .inl (va_cpy sg sf 0 0 11))), (u0, .inr (8, [.ref m0, .ref w0, .int (nI ke2)])), (m0, .inr (4, [.int len2, .int att2, .int en2, .int (nI n2), .ref bk, .ref bp, .ref bl, .ref br])), (bk, .inl (cI, 10, .inl kg)), (bp, .inl (cI, 10, .inl pg)), (bl, .inl (cI, 10, .inl lg)), (br, .inl (cI, 10, .inl rg)), (w0, .inl (cI, 11, .inl sg))] H := hP
  have hD : va_D A [(t0, .inr (8, [.ref l0, .ref g0, .int (nI ke)])), (l0, .inr (4, [.int len2, .int att2, .int en2, .int (nI n2), .ref ak, .ref ap, .ref al, .ref ar])), (ak, .inl (cI, 10, .inl (va_cpy kg kf 0 0 10))), (ap, .inl (cI, 10, .inl (va_cpy pg pf 0 0 10))), (al, .inl (cI, 10, .inl (va_cpy lg lf 0 0 10))), (ar, .inl (cI, 10, .inl (va_cpy rg rf 0 0 10))), (g0, .inl (cI, 11, .inl (va_cpy sg sf 0 0 11))), (u0, .inr (8, [.ref m0, .ref w0, .int (nI ke2)])), (m0, .inr (4, [.int len2, .int att2, .int en2, .int (nI n2), .ref bk, .ref bp, .ref bl, .ref br])), (bk, .inl (cI, 10, .inl kg)), (bp, .inl (cI, 10, .inl pg)), (bl, .inl (cI, 10, .inl lg)), (br, .inl (cI, 10, .inl rg)), (w0, .inl (cI, 11, .inl sg))] := hD
  refine lv_aload_n hx hb dX8_copyFrom_26 rfl (lv_at hl 0 rfl) ?_
  refine lv_aload_n hx hb dX8_copyFrom_27 rfl (lv_at hl 1 rfl) ?_
  refine va_get (D := D) (ci := 8) (v := .int (nI ke2)) (C := RX8) (T := TX8) (N := 3) hx hb hts (by decide +kernel) hown hK hP 7 rfl rfl 2 (by decide) (hts (.fieldLink RX8 31 "FiberTrace$State" "keeps" "I") (by decide +kernel)) (fun _ h9 => h9) rfl dX8_copyFrom_28 ?_
  refine va_put (D := D) (ci := 8) (v := .int (nI ke2)) (ty := .int) (C := RX8) (T := TX8) (N := 3) hx hb hts (by decide +kernel) tyX8 tyX8_ok nmX8 hown hK hP hD hS 0 rfl rfl 2 (by decide) (hts (.fieldLink RX8 31 "FiberTrace$State" "keeps" "I") (by decide +kernel)) (fun _ h9 => h9) rfl (by decide +kernel) rfl rfl (Nat.le_of_ble_eq_true rfl) dX8_copyFrom_31 (fun H locs hP hD hS => ?_)
  have hP : va_P D vwCl [(t0, .inr (8, [.ref l0, .ref g0, .int (nI ke2)])), (l0, .inr (4, [.int len2, .int att2, .int en2, .int (nI n2), .ref ak, .ref ap, .ref al, .ref ar])), (ak, .inl (cI, 10, .inl (va_cpy kg kf 0 0 10))), (ap, .inl (cI, 10, .inl (va_cpy pg pf 0 0 10))), (al, .inl (cI, 10, .inl (va_cpy lg lf 0 0 10))), (ar, .inl (cI, 10, .inl (va_cpy rg rf 0 0 10))), (g0, .inl (cI, 11, .inl (va_cpy sg sf 0 0 11))), (u0, .inr (8, [.ref m0, .ref w0, .int (nI ke2)])), (m0, .inr (4, [.int len2, .int att2, .int en2, .int (nI n2), .ref bk, .ref bp, .ref bl, .ref br])), (bk, .inl (cI, 10, .inl kg)), (bp, .inl (cI, 10, .inl pg)), (bl, .inl (cI, 10, .inl lg)), (br, .inl (cI, 10, .inl rg)), (w0, .inl (cI, 11, .inl sg))] H := hP
  have hD : va_D A [(t0, .inr (8, [.ref l0, .ref g0, .int (nI ke2)])), (l0, .inr (4, [.int len2, .int att2, .int en2, .int (nI n2), .ref ak, .ref ap, .ref al, .ref ar])), (ak, .inl (cI, 10, .inl (va_cpy kg kf 0 0 10))), (ap, .inl (cI, 10, .inl (va_cpy pg pf 0 0 10))), (al, .inl (cI, 10, .inl (va_cpy lg lf 0 0 10))), (ar, .inl (cI, 10, .inl (va_cpy rg rf 0 0 10))), (g0, .inl (cI, 11, .inl (va_cpy sg sf 0 0 11))), (u0, .inr (8, [.ref m0, .ref w0, .int (nI ke2)])), (m0, .inr (4, [.int len2, .int att2, .int en2, .int (nI n2), .ref bk, .ref bp, .ref bl, .ref br])), (bk, .inl (cI, 10, .inl kg)), (bp, .inl (cI, 10, .inl pg)), (bl, .inl (cI, 10, .inl lg)), (br, .inl (cI, 10, .inl rg)), (w0, .inl (cI, 11, .inl sg))] := hD
  have hw9 : ([(t0, .inr (8, [.ref l0, .ref g0, .int (nI ke2)])), (l0, .inr (4, [.int len2, .int att2, .int en2, .int (nI n2), .ref ak, .ref ap, .ref al, .ref ar])), (ak, .inl (cI, 10, .inl (va_cpy kg kf 0 0 10))), (ap, .inl (cI, 10, .inl (va_cpy pg pf 0 0 10))), (al, .inl (cI, 10, .inl (va_cpy lg lf 0 0 10))), (ar, .inl (cI, 10, .inl (va_cpy rg rf 0 0 10))), (g0, .inl (cI, 11, .inl (va_cpy sg sf 0 0 11))), (u0, .inr (8, [.ref m0, .ref w0, .int (nI ke2)])), (m0, .inr (4, [.int len2, .int att2, .int en2, .int (nI n2), .ref bk, .ref bp, .ref bl, .ref br])), (bk, .inl (cI, 10, .inl kg)), (bp, .inl (cI, 10, .inl pg)), (bl, .inl (cI, 10, .inl lg)), (br, .inl (cI, 10, .inl rg)), (w0, .inl (cI, 11, .inl sg))] : va_W) = [(t0, .inr (8, [.ref l0, .ref g0, .int (nI ke2)])), (l0, .inr (4, [.int len2, .int att2, .int en2, .int (nI n2), .ref ak, .ref ap, .ref al, .ref ar])), (ak, .inl (cI, 10, .inl (va_cpy kg kf 0 0 10))), (ap, .inl (cI, 10, .inl (va_cpy pg pf 0 0 10))), (al, .inl (cI, 10, .inl (va_cpy lg lf 0 0 10))), (ar, .inl (cI, 10, .inl (va_cpy rg rf 0 0 10))), (g0, .inl (cI, 11, .inl (va_cpy sg sf 0 0 11))), (u0, .inr (8, [.ref m0, .ref w0, .int (nI ke2)])), (m0, .inr (4, [.int len2, .int att2, .int en2, .int (nI n2), .ref bk, .ref bp, .ref bl, .ref br])), (bk, .inl (cI, 10, .inl kg)), (bp, .inl (cI, 10, .inl pg)), (bl, .inl (cI, 10, .inl lg)), (br, .inl (cI, 10, .inl rg)), (w0, .inl (cI, 11, .inl sg))] := rfl
  rw [hw9] at hP hD
  exact W.vret hx hb hr (fun t ht hW => ⟨⟨(), rfl, trivial, by rw [ht]; exact hP, by rw [hAe]; exact hD⟩, by rw [hAe]; exact hS.F ht⟩) hS.2.2 dX8_copyFrom_34
set_option maxHeartbeats 4000000 in
set_option maxRecDepth 100000 in
theorem c_X2_slotAt (l : Launch) (D : va_G) (cI cS : ClassId) (h0 ha hz : Nat) (nx : Int32) (ys : Nat → Nat) (j : Nat) (hj : j < 5) : Met l yX2_slotAt wsX2_slotAt ({ frames := 0, cells := 0, slots := 0, locals := 0 }) (ftRO D cI cS [.ref h0, .int (nI j)] [(h0, .inr (2, [.ref ha, .int nx, .int (nI hz)])), (ha, .inl (cS, 5, .inr (.inr (.inr (.inr (fun t => some (ys t)))))))]) (ftSr (ys j)) 0 0 (fun _ => False) := by
  refine Met.ofW (cc := cX2_slotAt) (maxL := 2) (ret := (some (.object "FiberTrace$State"))) (by decide) rfl ?_
  intro p e s m args below meth c s₁ B hml hv
  obtain ⟨rfl, hP, hKK⟩ := hv
  have hK := hKK.1
  have hx := B.exec
  have hb := B.bytes
  have hr := B.returns
  have hts := atoms_spec (ws := wsX2_slotAt) B.pre
  have hown : s.vm.findClass RX2 = some m.cls := findClass_of_methodNamed B.named
  have hlocks := B.notSynchronized
  have hP : va_P D vwCl [(h0, .inr (2, [.ref ha, .int nx, .int (nI hz)])), (ha, .inl (cS, 5, .inr (.inr (.inr (.inr (fun t => some (ys t)))))))] s.heap := hP
  have hl := lv_entry ([.ref h0, .int (nI j)]) (n := 2) (Nat.le_of_ble_eq_true rfl)
  rw [lg_entry_eq]
  generalize (lg_sl ([.ref h0, .int (nI j)]) ++ List.replicate (2 - (lg_sl ([.ref h0, .int (nI j)])).length) Slot.unset).toArray = ls at hl ⊢
  have hl : lv_has ls 2 [(0, .ref h0), (1, .int (nI j))] := hl
  refine lv_iload_n hx hb dX2_slotAt_0 rfl (lv_at hl 1 rfl) ?_
  refine lv_if_lt (tgt := 22) hx hb dX2_slotAt_1 (by decide) (fun c1 => ?_) (fun c1 => ?_)
  · exact absurd c1 (nI_pos (by omega))
  · refine lv_iload_n hx hb dX2_slotAt_4 rfl (lv_at hl 1 rfl) ?_
    refine lv_aload_n hx hb dX2_slotAt_5 rfl (lv_at hl 0 rfl) ?_
    refine va_get (D := D) (ci := 2) (v := .ref ha) (C := RX2) (T := TX2) (N := 3) hx hb hts (by decide +kernel) hown hK hP 0 rfl rfl 0 (by decide) (hts (.fieldLink RX2 11 "FiberTrace$History" "states" "[LFiberTrace$State;") (by decide +kernel)) (fun _ h9 => h9) rfl dX2_slotAt_6 ?_
    refine va_alen (v := Int32.ofNat 5) hx hb hK hP 1 1 rfl rfl rfl dX2_slotAt_9 ?_
    refine lv_icmp_ge (tgt := 22) hx hb dX2_slotAt_10 (by decide) (fun c10 => ?_) (fun c10 => ?_)
    · have c10n : 5 ≤ j := ft_leN (by omega) (by omega) c10
      exact absurd c10n (by omega)
    · have c10n : j < 5 := ft_nleN (by omega) (by omega) c10
      refine lv_aload_n hx hb dX2_slotAt_13 rfl (lv_at hl 0 rfl) ?_
      refine va_get (D := D) (ci := 2) (v := .ref ha) (C := RX2) (T := TX2) (N := 3) hx hb hts (by decide +kernel) hown hK hP 0 rfl rfl 0 (by decide) (hts (.fieldLink RX2 11 "FiberTrace$History" "states" "[LFiberTrace$State;") (by decide +kernel)) (fun _ h9 => h9) rfl dX2_slotAt_14 ?_
      refine lv_iload_n hx hb dX2_slotAt_17 rfl (lv_at hl 1 rfl) ?_
      refine va_aldq hx hb hK hP 1 1 rfl rfl (vp_in_nI (by omega) (by omega)) dX2_slotAt_18 ?_
      refine ft_topv (y := .ref (ys j)) (by rw [nI_clamp (by omega)]; rfl) ?_
      refine lv_goto (tgt := 23) hx hb dX2_slotAt_19 (by decide) ?_
      exact W.aret (v := .ref (ys j)) hx hb hr (Or.inl ⟨_, rfl⟩) (Or.inr ⟨_, rfl⟩) (fun t ht hW => ⟨rfl, ht⟩) (fun _ h9 => absurd h9 List.not_mem_nil) dX2_slotAt_23
end
