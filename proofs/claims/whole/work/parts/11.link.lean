set_option maxHeartbeats 4000000 in
set_option maxRecDepth 100000 in
theorem c_X4_placeFits (l : Launch) (D : va_G) (cI cS : ClassId) (a0 : Nat) (len att en : Int32) (n ak ap al ar : Nat) (x : Int32)  : Met l yX4_placeFits wsX4_placeFits ({ frames := 1, cells := 0, slots := 0, locals := 22 }) (ftRO D cI cS [.ref a0, .int x] [(a0, .inr (4, [.int len, .int att, .int en, .int (nI n), .ref ak, .ref ap, .ref al, .ref ar]))]) (vp_Si (fun o9 => o9 = ftB (1 ≤ x ∧ x ≤ len - 1))) 0 0 (fun _ => False) := by
  refine Met.ofW (cc := cX4_placeFits) (maxL := 2) (ret := (some .boolean)) (by decide) rfl ?_
  intro p e s m args below meth c s₁ B hml hv
  obtain ⟨rfl, hP, hKK⟩ := hv
  have hK := hKK.1
  have hx := B.exec
  have hb := B.bytes
  have hr := B.returns
  have hts := atoms_spec (ws := wsX4_placeFits) B.pre
  have hown : s.vm.findClass RX4 = some m.cls := findClass_of_methodNamed B.named
  have hlocks := B.notSynchronized
  have hP : va_P D vwCl [(a0, .inr (4, [.int len, .int att, .int en, .int (nI n), .ref ak, .ref ap, .ref al, .ref ar]))] s.heap := hP
  have hl := lv_entry ([.ref a0, .int x]) (n := 2) (Nat.le_of_ble_eq_true rfl)
  rw [lg_entry_eq]
  generalize (lg_sl ([.ref a0, .int x]) ++ List.replicate (2 - (lg_sl ([.ref a0, .int x])).length) Slot.unset).toArray = ls at hl ⊢
  have hl : lv_has ls 2 [(0, .ref a0), (1, .int x)] := hl
  refine lv_iload_n hx hb dX4_placeFits_0 rfl (lv_at hl 1 rfl) ?_
  refine lv_iconst (v := 1) hx hb dX4_placeFits_1 (by decide) ?_
  refine lv_aload_n hx hb dX4_placeFits_2 rfl (lv_at hl 0 rfl) ?_
  refine va_get (D := D) (ci := 4) (v := .int len) (C := RX4) (T := TX4) (N := 8) hx hb hts (by decide +kernel) hown hK hP 0 rfl rfl 0 (by decide) (hts (.fieldLink RX4 27 "FiberTrace$Link" "length" "I") (by decide +kernel)) (fun _ h9 => h9) rfl dX4_placeFits_3 ?_
  refine lv_iconst (v := 1) hx hb dX4_placeFits_6 (by decide) ?_
  refine lv_isub hx hb dX4_placeFits_7 ?_
  refine ft_csi (r := ftB (1 ≤ x ∧ x ≤ (len - 1))) (va_runSN (As := [.int x, .int 1, .int (len - 1)]) (rest := []) ⟨hx, hb, hml, hown, hts⟩ (c_X10_isWithin l D cI cS x 1 (len - 1)) ⟨va_cnB 3 hts gX4_placeFits_X10_isWithin_n46 rfl rfl rfl (hKK.2 _ (List.mem_of_getElem? (i := 10) rfl)) (hts (.initialized RX10) (by decide +kernel)) (by decide +kernel) ⟨Nat.le_of_ble_eq_true rfl, Nat.le_of_ble_eq_true rfl⟩, hts (.static yX10_isWithin) (by decide +kernel), trivial⟩ (ft_preRO hP hKK [] rfl) rfl rfl hl.1 rfl (lv_room (Nat.le_of_ble_eq_true rfl)) dX4_placeFits_8 ⟨Nat.le_of_ble_eq_true rfl, Nat.le_of_ble_eq_true rfl⟩) ?_
  exact W.zret (v := ftB (1 ≤ x ∧ x ≤ (len - 1))) hx hb hr (by first | rfl | exact ftB_nar) (fun t ht hW => ⟨ftB (1 ≤ x ∧ x ≤ (len - 1)), rfl, rfl, ht⟩) (fun _ h9 => absurd h9 List.not_mem_nil) dX4_placeFits_11
set_option maxHeartbeats 4000000 in
set_option maxRecDepth 100000 in
theorem c_X4_hasPartAt (l : Launch) (D : va_G) (cI cS : ClassId) (a0 : Nat) (len att en : Int32) (n ak ap al ar : Nat) (pf : Nat → Int32) (x : Int32) (hn : n ≤ 10) : Met l yX4_hasPartAt wsX4_hasPartAt ({ frames := 1, cells := 0, slots := 0, locals := 21 }) (ftRO D cI cS [.ref a0, .int x] [(a0, .inr (4, [.int len, .int att, .int en, .int (nI n), .ref ak, .ref ap, .ref al, .ref ar])), (ap, .inl (cI, 10, .inl pf))]) (vp_Si (fun o9 => o9 = ftB (∃ i, i < n ∧ pf i = x))) 0 0 (fun _ => False) := by
  refine Met.ofW (cc := cX4_hasPartAt) (maxL := 3) (ret := (some .boolean)) (by decide) rfl ?_
  intro p e s m args below meth c s₁ B hml hv
  obtain ⟨rfl, hP, hKK⟩ := hv
  have hK := hKK.1
  have hx := B.exec
  have hb := B.bytes
  have hr := B.returns
  have hts := atoms_spec (ws := wsX4_hasPartAt) B.pre
  have hown : s.vm.findClass RX4 = some m.cls := findClass_of_methodNamed B.named
  have hlocks := B.notSynchronized
  have hP : va_P D vwCl [(a0, .inr (4, [.int len, .int att, .int en, .int (nI n), .ref ak, .ref ap, .ref al, .ref ar])), (ap, .inl (cI, 10, .inl pf))] s.heap := hP
  have hl := lv_entry ([.ref a0, .int x]) (n := 3) (Nat.le_of_ble_eq_true rfl)
  rw [lg_entry_eq]
  generalize (lg_sl ([.ref a0, .int x]) ++ List.replicate (3 - (lg_sl ([.ref a0, .int x])).length) Slot.unset).toArray = ls at hl ⊢
  have hl : lv_has ls 3 [(0, .ref a0), (1, .int x)] := hl
  refine lv_iconst (v := 0) hx hb dX4_hasPartAt_0 (by decide) ?_
  refine lv_istore_n (lv' := [(2, .int 0), (0, .ref a0), (1, .int x)]) hx hb dX4_hasPartAt_1 rfl hl (by decide) rfl (fun ls hl => ?_)
  have lp2 : ∀ (n2 : Nat) (i : Nat) (x2_2 : Int32), n - i < n2 → (i ≤ n) → (∀ t, t < i → pf t ≠ x) → x2_2 = nI i → ∀ ls : Array Slot, lv_has ls 3 [(0, .ref a0), (1, .int x), (2, .int x2_2)] → W p l e (headSpec wsX4_hasPartAt { frames := 1, cells := 0, slots := 0, locals := 21 }).room s m ([.ref a0, .int x] : List Value).toArray below meth c s.heap [] 0 0 (MQ below (vp_Si (fun o9 => o9 = ftB (∃ i, i < n ∧ pf i = x))) ([.ref a0, .int x] : List Value).toArray s 0 0 (fun _ => False)) (F0 m 2 ls []) := by
    intro n2
    induction n2 with
    | zero =>
      intro i x2_2  hm2
      exact absurd hm2 (Nat.not_lt_zero _)
    | succ n2 ih2 =>
      intro i x2_2  hm2 hin hno ex2_2  ls hl
      subst ex2_2
      refine lv_iload_n hx hb dX4_hasPartAt_2 rfl (lv_at hl 2 rfl) ?_
      refine lv_aload_n hx hb dX4_hasPartAt_3 rfl (lv_at hl 0 rfl) ?_
      refine va_get (D := D) (ci := 4) (v := .int (nI n)) (C := RX4) (T := TX4) (N := 8) hx hb hts (by decide +kernel) hown hK hP 0 rfl rfl 3 (by decide) (hts (.fieldLink RX4 37 "FiberTrace$Link" "size" "I") (by decide +kernel)) (fun _ h9 => h9) rfl dX4_hasPartAt_4 ?_
      refine lv_icmp_ge (tgt := 30) hx hb dX4_hasPartAt_7 (by decide) (fun c7 => ?_) (fun c7 => ?_)
      · have c7n : n ≤ i := ft_leN (by omega) (by omega) c7
        refine lv_iconst (v := 0) hx hb dX4_hasPartAt_30 (by decide) ?_
        exact W.zret (v := 0) hx hb hr (by rfl) (fun t ht hW => ⟨0, rfl, (by show (0 : Int32) = ftB (∃ i, i < n ∧ pf i = x); exact (ftB_f (fun ⟨t, h1, h2⟩ => hno t (by omega) h2)).symm), ht⟩) (fun _ h9 => absurd h9 List.not_mem_nil) dX4_hasPartAt_31
      · have c7n : i < n := ft_nleN (by omega) (by omega) c7
        refine lv_aload_n hx hb dX4_hasPartAt_10 rfl (lv_at hl 0 rfl) ?_
        refine va_get (D := D) (ci := 4) (v := .ref ap) (C := RX4) (T := TX4) (N := 8) hx hb hts (by decide +kernel) hown hK hP 0 rfl rfl 5 (by decide) (hts (.fieldLink RX4 15 "FiberTrace$Link" "places" "[I") (by decide +kernel)) (fun _ h9 => h9) rfl dX4_hasPartAt_11 ?_
        refine lv_iload_n hx hb dX4_hasPartAt_14 rfl (lv_at hl 2 rfl) ?_
        refine ft_csi (r := ftAt 10 pf (nI i)) (va_runSN (As := [.ref ap, .int (nI i)]) (rest := []) ⟨hx, hb, hml, hown, hts⟩ (c_X10_at l D cI cS ap 10 pf (nI i) (by omega)) ⟨va_cnB 2 hts gX4_hasPartAt_X10_at_n50 rfl rfl rfl (hKK.2 _ (List.mem_of_getElem? (i := 11) rfl)) (hts (.initialized RX10) (by decide +kernel)) (by decide +kernel) ⟨Nat.le_of_ble_eq_true rfl, Nat.le_of_ble_eq_true rfl⟩, hts (.static yX10_at) (by decide +kernel), trivial⟩ (ft_preRO hP hKK [1] rfl) rfl rfl hl.1 rfl (lv_room (Nat.le_of_ble_eq_true rfl)) dX4_hasPartAt_15 ⟨Nat.le_of_ble_eq_true rfl, Nat.le_of_ble_eq_true rfl⟩) ?_
        refine ft_top (y := pf i) (ftAt_N (by omega) (by omega)) ?_
        refine lv_iload_n hx hb dX4_hasPartAt_18 rfl (lv_at hl 1 rfl) ?_
        refine lv_icmp_ne (tgt := 24) hx hb dX4_hasPartAt_19 (by decide) (fun c19 => ?_) (fun c19 => ?_)
        · refine lv_iinc (v := nI (i + 1)) (lv' := [(2, .int (nI (i + 1))), (0, .ref a0), (1, .int x)]) hx hb dX4_hasPartAt_24 hl (k := 2) rfl (ft_inc i) (by decide) rfl (fun ls hl => ?_)
          refine lv_goto (tgt := 2) hx hb dX4_hasPartAt_27 (by decide) ?_
          exact ih2 (i + 1) (nI (i + 1))  (by omega) (by omega) (by intro t ht q; rcases Nat.lt_succ_iff_lt_or_eq.mp ht with r | r; exact hno t r q; subst r; exact c19 q) (by first | rfl | assumption)  ls (lv_sub hl [1, 2, 0] rfl)
        · refine lv_iconst (v := 1) hx hb dX4_hasPartAt_22 (by decide) ?_
          exact W.zret (v := 1) hx hb hr (by rfl) (fun t ht hW => ⟨1, rfl, (by show (1 : Int32) = ftB (∃ i, i < n ∧ pf i = x); exact (ftB_t ⟨i, c7n, c19⟩).symm), ht⟩) (fun _ h9 => absurd h9 List.not_mem_nil) dX4_hasPartAt_23
  exact lp2 _ 0 0  (Nat.lt_succ_self _) (by omega) (by intro t ht; omega) (by rfl) ls (lv_sub hl [1, 2, 0] rfl)
set_option maxHeartbeats 4000000 in
set_option maxRecDepth 100000 in
theorem c_X4_isJoint (l : Launch) (D : va_G) (cI cS : ClassId) (a0 : Nat) (len att en : Int32) (n ak ap al ar : Nat) (kf : Nat → Int32) (i : Nat) (hi : i < 10) : Met l yX4_isJoint wsX4_isJoint ({ frames := 1, cells := 0, slots := 0, locals := 21 }) (ftRO D cI cS [.ref a0, .int (nI i)] [(a0, .inr (4, [.int len, .int att, .int en, .int (nI n), .ref ak, .ref ap, .ref al, .ref ar])), (ak, .inl (cI, 10, .inl kf))]) (vp_Si (fun o9 => o9 = ftB (¬ kf i = 2))) 0 0 (fun _ => False) := by
  refine Met.ofW (cc := cX4_isJoint) (maxL := 2) (ret := (some .boolean)) (by decide) rfl ?_
  intro p e s m args below meth c s₁ B hml hv
  obtain ⟨rfl, hP, hKK⟩ := hv
  have hK := hKK.1
  have hx := B.exec
  have hb := B.bytes
  have hr := B.returns
  have hts := atoms_spec (ws := wsX4_isJoint) B.pre
  have hown : s.vm.findClass RX4 = some m.cls := findClass_of_methodNamed B.named
  have hlocks := B.notSynchronized
  have hP : va_P D vwCl [(a0, .inr (4, [.int len, .int att, .int en, .int (nI n), .ref ak, .ref ap, .ref al, .ref ar])), (ak, .inl (cI, 10, .inl kf))] s.heap := hP
  have hl := lv_entry ([.ref a0, .int (nI i)]) (n := 2) (Nat.le_of_ble_eq_true rfl)
  rw [lg_entry_eq]
  generalize (lg_sl ([.ref a0, .int (nI i)]) ++ List.replicate (2 - (lg_sl ([.ref a0, .int (nI i)])).length) Slot.unset).toArray = ls at hl ⊢
  have hl : lv_has ls 2 [(0, .ref a0), (1, .int (nI i))] := hl
  refine lv_aload_n hx hb dX4_isJoint_0 rfl (lv_at hl 0 rfl) ?_
  refine va_get (D := D) (ci := 4) (v := .ref ak) (C := RX4) (T := TX4) (N := 8) hx hb hts (by decide +kernel) hown hK hP 0 rfl rfl 4 (by decide) (hts (.fieldLink RX4 9 "FiberTrace$Link" "kinds" "[I") (by decide +kernel)) (fun _ h9 => h9) rfl dX4_isJoint_1 ?_
  refine lv_iload_n hx hb dX4_isJoint_4 rfl (lv_at hl 1 rfl) ?_
  refine ft_csi (r := ftAt 10 kf (nI i)) (va_runSN (As := [.ref ak, .int (nI i)]) (rest := []) ⟨hx, hb, hml, hown, hts⟩ (c_X10_at l D cI cS ak 10 kf (nI i) (by omega)) ⟨va_cnB 2 hts gX4_isJoint_X10_at_n50 rfl rfl rfl (hKK.2 _ (List.mem_of_getElem? (i := 11) rfl)) (hts (.initialized RX10) (by decide +kernel)) (by decide +kernel) ⟨Nat.le_of_ble_eq_true rfl, Nat.le_of_ble_eq_true rfl⟩, hts (.static yX10_at) (by decide +kernel), trivial⟩ (ft_preRO hP hKK [1] rfl) rfl rfl hl.1 rfl (lv_room (Nat.le_of_ble_eq_true rfl)) dX4_isJoint_5 ⟨Nat.le_of_ble_eq_true rfl, Nat.le_of_ble_eq_true rfl⟩) ?_
  refine ft_top (y := kf i) (ftAt_N (by omega) (by omega)) ?_
  refine lv_iconst (v := 2) hx hb dX4_isJoint_8 (by decide) ?_
  refine lv_icmp_eq (tgt := 16) hx hb dX4_isJoint_9 (by decide) (fun c9 => ?_) (fun c9 => ?_)
  · refine lv_iconst (v := 0) hx hb dX4_isJoint_16 (by decide) ?_
    exact W.zret (v := 0) hx hb hr (by rfl) (fun t ht hW => ⟨0, rfl, (by show (0 : Int32) = ftB (¬ kf i = 2); first | exact (ftB_t c9).symm | exact (ftB_f (fun q => q c9)).symm), ht⟩) (fun _ h9 => absurd h9 List.not_mem_nil) dX4_isJoint_17
  · refine lv_iconst (v := 1) hx hb dX4_isJoint_12 (by decide) ?_
    refine lv_goto (tgt := 17) hx hb dX4_isJoint_13 (by decide) ?_
    exact W.zret (v := 1) hx hb hr (by rfl) (fun t ht hW => ⟨1, rfl, (by show (1 : Int32) = ftB (¬ kf i = 2); first | exact (ftB_t c9).symm | exact (ftB_f (fun q => q c9)).symm), ht⟩) (fun _ h9 => absurd h9 List.not_mem_nil) dX4_isJoint_17
