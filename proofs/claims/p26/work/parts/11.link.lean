/-! links: places in order, attenuations, losses -/
/-- the places of the parts, as numbers, ascending -/
def ftPos (pf : Nat → Int32) (n : Nat) (P : Nat → Nat) : Prop := n ≤ 10 ∧ (∀ t, t < n → pf t = nI (P t)) ∧ (∀ t, t < n → P t < 400) ∧ ∀ a b, a < b → b < n → P a < P b
def ftLossFits (k x : Int32) : Prop := (k = 0 ∧ -500 ≤ x ∧ x ≤ 5000) ∨ (k = 1 ∧ 0 ≤ x ∧ x ≤ 5000) ∨ (¬ k = 0 ∧ ¬ k = 1 ∧ 0 ≤ x ∧ x ≤ 50)
def ftReflFits (k x : Int32) : Prop := (k = 1 ∧ 1 ≤ x ∧ x ≤ 20000) ∨ (¬ k = 1 ∧ x = 0)
def ftIdx (pf : Nat → Int32) (x : Int32) : Nat → Nat
  | 0 => 0
  | n + 1 => if ftIdx pf x n = n ∧ pf n < x then n + 1 else ftIdx pf x n
theorem ftIdx_le (pf : Nat → Int32) (x : Int32) (n : Nat) : ftIdx pf x n ≤ n := by
  induction n with
  | zero => exact Nat.le_refl 0
  | succ n ih => unfold ftIdx; split <;> omega
theorem ftIdx_all {pf : Nat → Int32} {x : Int32} {n : Nat} (h : ∀ t, t < n → pf t < x) : ftIdx pf x n = n := by
  induction n with
  | zero => rfl
  | succ n ih => unfold ftIdx; rw [if_pos ⟨ih (fun t ht => h t (by omega)), h n (by omega)⟩]
theorem ftIdx_of {pf : Nat → Int32} {x : Int32} {j n : Nat} (hj : j ≤ n) (h : ∀ t, t < j → pf t < x) (hs : j < n → ¬ pf j < x) : ftIdx pf x n = j := by
  induction n with
  | zero => obtain rfl : j = 0 := by omega
            rfl
  | succ n ih =>
    by_cases q : j = n + 1
    · subst q; exact ftIdx_all h
    · have e := ih (by omega) (fun r => hs (by omega))
      unfold ftIdx
      rw [e]
      refine if_neg (fun r => ?_)
      obtain ⟨r1, r2⟩ := r
      subst r1
      exact hs (by omega) r2
def ftFade (kf pf lf : Nat → Int32) (att x : Int32) : Nat → Int32
  | 0 => att
  | n + 1 => if kf n = 2 ∧ pf n ≤ x then lf n else ftFade kf pf lf att x n
def ftFades (kf pf lf : Nat → Int32) (att : Int32) (n X : Nat) : Int32 := ftSum (fun x => ftFade kf pf lf att (nI x) n) X
theorem ftSum_congr {f g : Nat → Int32} {X : Nat} (h : ∀ x, x < X → f x = g x) : ftSum f X = ftSum g X := by
  induction X with
  | zero => rfl
  | succ X ih => show ftSum f X + f X = ftSum g X + g X; rw [ih (fun x hx => h x (by omega)), h X (by omega)]
theorem ftFades_0 (kf pf lf : Nat → Int32) (att : Int32) (Y : Nat) : 0 + att * (nI Y - nI 0) = ftFades kf pf lf att 0 Y := by
  induction Y with
  | zero => show 0 + att * (nI 0 - nI 0) = 0; rw [Int32.sub_self, Int32.mul_zero, Int32.zero_add]
  | succ Y ih =>
    show _ = ftFades kf pf lf att 0 Y + att
    rw [← ih, nI_succ, nI_0, Int32.sub_zero, Int32.sub_zero, Int32.mul_add, Int32.mul_one, Int32.zero_add, Int32.zero_add]
theorem ftFades_change {kf pf lf : Nat → Int32} {att : Int32} {i p Y : Nat} (hk : kf i = 2) (hp : pf i = nI p) (hp4 : p < 400) (hY : p ≤ Y) (hY4 : Y ≤ 1000) :
    ftFades kf pf lf att i p + lf i * (nI Y - nI p) = ftFades kf pf lf att (i + 1) Y := by
  induction Y with
  | zero =>
    obtain rfl : p = 0 := by omega
    show 0 + lf i * (nI 0 - nI 0) = 0
    rw [Int32.sub_self, Int32.mul_zero, Int32.zero_add]
  | succ Y ih =>
    by_cases q : p = Y + 1
    · rw [q, Int32.sub_self, Int32.mul_zero, Int32.add_zero]
      refine ftSum_congr (fun x hx => ?_)
      show _ = if kf i = 2 ∧ pf i ≤ nI x then lf i else ftFade kf pf lf att (nI x) i
      rw [if_neg]
      rw [hp]
      exact fun r => nI_ge (show x < p by omega) (by omega) r.2
    · show _ = ftFades kf pf lf att (i + 1) Y + (if kf i = 2 ∧ pf i ≤ nI Y then lf i else ftFade kf pf lf att (nI Y) i)
      rw [if_pos ⟨hk, by rw [hp]; exact nI_le (by omega) (by omega)⟩, ← ih (by omega) (by omega), nI_succ, show nI Y + 1 - nI p = (nI Y - nI p) + 1 by rw [Int32.sub_eq_add_neg, Int32.sub_eq_add_neg]; ac_rfl, Int32.mul_add, Int32.mul_one, Int32.add_assoc]
theorem ftFade_skip {kf pf lf : Nat → Int32} {att x : Int32} {i : Nat} (hk : ¬ kf i = 2) : ftFade kf pf lf att x (i + 1) = ftFade kf pf lf att x i := if_neg (fun q => hk q.1)
theorem ftFade_rest {kf pf lf : Nat → Int32} {att x : Int32} {i : Nat} : ∀ n, i ≤ n → (∀ t, i ≤ t → t < n → ¬ pf t ≤ x) → ftFade kf pf lf att x n = ftFade kf pf lf att x i := by
  intro n
  induction n with
  | zero => intro h _; obtain rfl : i = 0 := by omega
            rfl
  | succ n ih =>
    intro h hr
    by_cases q : i = n + 1
    · rw [q]
    · rw [show ftFade kf pf lf att x (n + 1) = ftFade kf pf lf att x n from if_neg (fun r => hr n (by omega) (by omega) r.2)]
      exact ih (by omega) (fun t h1 h2 => hr t h1 (by omega))
theorem ftFades_rest {kf pf lf : Nat → Int32} {att : Int32} {i n X : Nat} {P : Nat → Nat} (hpp : ftPos pf n P) (hi : i ≤ n) (hX : X ≤ 1000) (h : i < n → X ≤ P i) : ftFades kf pf lf att n X = ftFades kf pf lf att i X := by
  refine ftSum_congr (fun x hx => ftFade_rest n hi (fun t h1 h2 => ?_))
  rw [hpp.2.1 t h2]
  have h3 := hpp.2.2.1 t h2
  refine nI_ge (show x < P t from ?_) (by omega)
  rcases Nat.lt_or_eq_of_le h1 with q | q
  · have := hpp.2.2.2 i t q h2
    have := h (by omega)
    omega
  · subst q
    have := h h2
    omega
def ftJoints (kf pf lf : Nat → Int32) (x : Int32) : Nat → Int32
  | 0 => 0
  | n + 1 => ftJoints kf pf lf x n + (if ¬ kf n = 2 ∧ pf n < x then lf n else 0)
def ftSpr1 (l p x w : Int32) : Int32 := if w ≤ x - p + 1 then l else ftQuot (l * (x - p + 1)) w
def ftSpr (kf pf lf : Nat → Int32) (x w : Int32) : Nat → Int32
  | 0 => 0
  | n + 1 => ftSpr kf pf lf x w n + (if ¬ kf n = 2 ∧ pf n ≤ x then ftSpr1 (lf n) (pf n) x w else 0)
theorem ftSpr_rest {kf pf lf : Nat → Int32} {x w : Int32} {i : Nat} : ∀ n, i ≤ n → (∀ t, i ≤ t → t < n → ¬ pf t ≤ x) → ftSpr kf pf lf x w n = ftSpr kf pf lf x w i := by
  intro n
  induction n with
  | zero => intro h _; obtain rfl : i = 0 := by omega
            rfl
  | succ n ih =>
    intro h hr
    by_cases q : i = n + 1
    · rw [q]
    · show ftSpr kf pf lf x w n + _ = _
      rw [if_neg (fun r => hr n (by omega) (by omega) r.2), Int32.add_zero]
      exact ih (by omega) (fun t h1 h2 => hr t h1 (by omega))
theorem ftPos_rest {pf : Nat → Int32} {n i : Nat} {P : Nat → Nat} (hpp : ftPos pf n P) {X : Nat} (hX : X ≤ 1000) (h : i < n → X < P i) : ∀ t, i ≤ t → t < n → ¬ pf t ≤ nI X := by
  intro t h1 h2
  rw [hpp.2.1 t h2]
  have h3 := hpp.2.2.1 t h2
  refine nI_ge (show X < P t from ?_) (by omega)
  rcases Nat.lt_or_eq_of_le h1 with q | q
  · have := hpp.2.2.2 i t q h2
    have := h (by omega)
    omega
  · subst q
    exact h h2
set_option maxHeartbeats 4000000 in
set_option maxRecDepth 100000 in
theorem c_X4_placeFits (l : Launch) (D : va_G) (cI cS : ClassId) (a0 : Nat) (len att en : Int32) (n ak ap al ar : Nat) (x : Int32)  : Met l yX4_placeFits wsX4_placeFits ({ frames := 1, cells := 0, slots := 0, locals := 22 }) (ftRO D cI cS [.ref a0, .int x] [(a0, .inr (4, [.int len, .int att, .int en, .int (nI n), .ref ak, .ref ap, .ref al, .ref ar]))]) (vp_Si (fun o9 => o9 = ftB (1 ≤ x ∧ x ≤ len - 1))) 0 0 (fun _ => False) := by
  refine Met.ofW (cc := cX4_placeFits) (maxL := 2) (ret := (some .boolean)) (by decide) rfl ?_
  intro p e s m args below meth c s₁ B hml hv
  obtain ⟨rfl, hP, hKK⟩ := hv
  have hK := hKK.1
  have hx := B.exec
  have hb := B.bytes
  have hr := B.returns
  have hts := atoms_spec (ws := wsX4_placeFits) B.pre
  have hown : s.vm.findClass RX4 = some m.cls := findClass_of_methodNamed B.named
  have hlocks := B.notSynchronized
  have hP : va_P D vwCl [(a0, .inr (4, [.int len, .int att, .int en, .int (nI n), .ref ak, .ref ap, .ref al, .ref ar]))] s.heap := hP
  have hl := lv_entry ([.ref a0, .int x]) (n := 2) (Nat.le_of_ble_eq_true rfl)
  rw [lg_entry_eq]
  generalize (lg_sl ([.ref a0, .int x]) ++ List.replicate (2 - (lg_sl ([.ref a0, .int x])).length) Slot.unset).toArray = ls at hl ⊢
  have hl : lv_has ls 2 [(0, .ref a0), (1, .int x)] := hl
  refine lv_iload_n hx hb dX4_placeFits_0 rfl (lv_at hl 1 rfl) ?_
  refine lv_iconst (v := 1) hx hb dX4_placeFits_1 (by decide) ?_
  refine lv_aload_n hx hb dX4_placeFits_2 rfl (lv_at hl 0 rfl) ?_
  refine va_get (D := D) (ci := 4) (v := .int len) (C := RX4) (T := TX4) (N := 8) hx hb hts (by decide +kernel) hown hK hP 0 rfl rfl 0 (by decide) (hts (.fieldLink RX4 27 "FiberTrace$Link" "length" "I") (by decide +kernel)) (fun _ h9 => h9) rfl dX4_placeFits_3 ?_
  refine lv_iconst (v := 1) hx hb dX4_placeFits_6 (by decide) ?_
  refine lv_isub hx hb dX4_placeFits_7 ?_
  refine ft_csi (r := ftB (1 ≤ x ∧ x ≤ (len - 1))) (va_runSN (As := [.int x, .int 1, .int (len - 1)]) (rest := []) ⟨hx, hb, hml, hown, hts⟩ (c_X10_isWithin l D cI cS x 1 (len - 1)) ⟨va_cnB 3 hts gX4_placeFits_X10_isWithin_n46 rfl rfl rfl (hKK.2 _ (List.mem_of_getElem? (i := 10) rfl)) (hts (.initialized RX10) (by decide +kernel)) (by decide +kernel) ⟨Nat.le_of_ble_eq_true rfl, Nat.le_of_ble_eq_true rfl⟩, hts (.static yX10_isWithin) (by decide +kernel), trivial⟩ (ft_preRO hP hKK [] rfl) rfl rfl hl.1 rfl (lv_room (Nat.le_of_ble_eq_true rfl)) dX4_placeFits_8 ⟨Nat.le_of_ble_eq_true rfl, Nat.le_of_ble_eq_true rfl⟩) ?_
  exact W.zret (v := ftB (1 ≤ x ∧ x ≤ (len - 1))) hx hb hr (by first | rfl | exact ftB_nar) (fun t ht hW => ⟨ftB (1 ≤ x ∧ x ≤ (len - 1)), rfl, rfl, ht⟩) (fun _ h9 => absurd h9 List.not_mem_nil) dX4_placeFits_11
set_option maxHeartbeats 4000000 in
set_option maxRecDepth 100000 in
theorem c_X4_lossFits (l : Launch) (D : va_G) (cI cS : ClassId) (k x : Int32)  : Met l yX4_lossFits wsX4_lossFits ({ frames := 1, cells := 0, slots := 0, locals := 22 }) (ftRO D cI cS [.int k, .int x] []) (vp_Si (fun o9 => o9 = ftB (ftLossFits k x))) 0 0 (fun _ => False) := by
  refine Met.ofW (cc := cX4_lossFits) (maxL := 2) (ret := (some .boolean)) (by decide) rfl ?_
  intro p e s m args below meth c s₁ B hml hv
  obtain ⟨rfl, hP, hKK⟩ := hv
  have hK := hKK.1
  have hx := B.exec
  have hb := B.bytes
  have hr := B.returns
  have hts := atoms_spec (ws := wsX4_lossFits) B.pre
  have hown : s.vm.findClass RX4 = some m.cls := findClass_of_methodNamed B.named
  have hlocks := B.notSynchronized
  have hP : va_P D vwCl [] s.heap := hP
  have hl := lv_entry ([.int k, .int x]) (n := 2) (Nat.le_of_ble_eq_true rfl)
  rw [lg_entry_eq]
  generalize (lg_sl ([.int k, .int x]) ++ List.replicate (2 - (lg_sl ([.int k, .int x])).length) Slot.unset).toArray = ls at hl ⊢
  have hl : lv_has ls 2 [(0, .int k), (1, .int x)] := hl
  refine lv_iload_n hx hb dX4_lossFits_0 rfl (lv_at hl 0 rfl) ?_
  by_cases c1_0 : k = 0
  · refine lv_lookup (off := 27) (tgt := 28) hx hb dX4_lossFits_1 (by decide) (by rw [c1_0]; decide) (by decide) ?_
    refine lv_iload_n hx hb dX4_lossFits_28 rfl (lv_at hl 1 rfl) ?_
    refine lv_sipush (v := (-500)) hx hb dX4_lossFits_29 (by decide) ?_
    refine lv_sipush (v := 5000) hx hb dX4_lossFits_32 (by decide) ?_
    refine ft_csi (r := ftB ((-500) ≤ x ∧ x ≤ 5000)) (va_runSN (As := [.int x, .int (-500), .int 5000]) (rest := []) ⟨hx, hb, hml, hown, hts⟩ (c_X10_isWithin l D cI cS x (-500) 5000) ⟨va_cnB 3 hts gX4_lossFits_X10_isWithin_n46 rfl rfl rfl (hKK.2 _ (List.mem_of_getElem? (i := 10) rfl)) (hts (.initialized RX10) (by decide +kernel)) (by decide +kernel) ⟨Nat.le_of_ble_eq_true rfl, Nat.le_of_ble_eq_true rfl⟩, hts (.static yX10_isWithin) (by decide +kernel), trivial⟩ (ft_preRO hP hKK [] rfl) rfl rfl hl.1 rfl (lv_room (Nat.le_of_ble_eq_true rfl)) dX4_lossFits_35 ⟨Nat.le_of_ble_eq_true rfl, Nat.le_of_ble_eq_true rfl⟩) ?_
    exact W.zret (v := ftB ((-500) ≤ x ∧ x ≤ 5000)) hx hb hr (by first | rfl | exact ftB_nar) (fun t ht hW => ⟨ftB ((-500) ≤ x ∧ x ≤ 5000), rfl, (by show (ftB ((-500) ≤ x ∧ x ≤ 5000) : Int32) = ftB (ftLossFits k x); exact ftB_congr (by subst c1_0; simp [ftLossFits])), ht⟩) (fun _ h9 => absurd h9 List.not_mem_nil) dX4_lossFits_38
  by_cases c1_1 : k = 1
  · refine lv_lookup (off := 38) (tgt := 39) hx hb dX4_lossFits_1 (by decide) (by rw [c1_1]; decide) (by decide) ?_
    refine lv_iload_n hx hb dX4_lossFits_39 rfl (lv_at hl 1 rfl) ?_
    refine lv_iconst (v := 0) hx hb dX4_lossFits_40 (by decide) ?_
    refine lv_sipush (v := 5000) hx hb dX4_lossFits_41 (by decide) ?_
    refine ft_csi (r := ftB (0 ≤ x ∧ x ≤ 5000)) (va_runSN (As := [.int x, .int 0, .int 5000]) (rest := []) ⟨hx, hb, hml, hown, hts⟩ (c_X10_isWithin l D cI cS x 0 5000) ⟨va_cnB 3 hts gX4_lossFits_X10_isWithin_n46 rfl rfl rfl (hKK.2 _ (List.mem_of_getElem? (i := 10) rfl)) (hts (.initialized RX10) (by decide +kernel)) (by decide +kernel) ⟨Nat.le_of_ble_eq_true rfl, Nat.le_of_ble_eq_true rfl⟩, hts (.static yX10_isWithin) (by decide +kernel), trivial⟩ (ft_preRO hP hKK [] rfl) rfl rfl hl.1 rfl (lv_room (Nat.le_of_ble_eq_true rfl)) dX4_lossFits_44 ⟨Nat.le_of_ble_eq_true rfl, Nat.le_of_ble_eq_true rfl⟩) ?_
    exact W.zret (v := ftB (0 ≤ x ∧ x ≤ 5000)) hx hb hr (by first | rfl | exact ftB_nar) (fun t ht hW => ⟨ftB (0 ≤ x ∧ x ≤ 5000), rfl, (by show (ftB (0 ≤ x ∧ x ≤ 5000) : Int32) = ftB (ftLossFits k x); exact ftB_congr (by subst c1_1; simp [ftLossFits])), ht⟩) (fun _ h9 => absurd h9 List.not_mem_nil) dX4_lossFits_47
  have c1_0i := lv_neT (a := 0) c1_0 (by decide)
  have c1_1i := lv_neT (a := 1) c1_1 (by decide)
  refine lv_lookup (off := 47) (tgt := 48) hx hb dX4_lossFits_1 (by decide) (by simp [Op.lookupswitch.offset, c1_0i, Ne.symm c1_0i, c1_1i, Ne.symm c1_1i]) (by decide) ?_
  refine lv_iload_n hx hb dX4_lossFits_48 rfl (lv_at hl 1 rfl) ?_
  refine lv_iconst (v := 0) hx hb dX4_lossFits_49 (by decide) ?_
  refine lv_bipush (v := 50) hx hb dX4_lossFits_50 (by decide) ?_
  refine ft_csi (r := ftB (0 ≤ x ∧ x ≤ 50)) (va_runSN (As := [.int x, .int 0, .int 50]) (rest := []) ⟨hx, hb, hml, hown, hts⟩ (c_X10_isWithin l D cI cS x 0 50) ⟨va_cnB 3 hts gX4_lossFits_X10_isWithin_n46 rfl rfl rfl (hKK.2 _ (List.mem_of_getElem? (i := 10) rfl)) (hts (.initialized RX10) (by decide +kernel)) (by decide +kernel) ⟨Nat.le_of_ble_eq_true rfl, Nat.le_of_ble_eq_true rfl⟩, hts (.static yX10_isWithin) (by decide +kernel), trivial⟩ (ft_preRO hP hKK [] rfl) rfl rfl hl.1 rfl (lv_room (Nat.le_of_ble_eq_true rfl)) dX4_lossFits_52 ⟨Nat.le_of_ble_eq_true rfl, Nat.le_of_ble_eq_true rfl⟩) ?_
  exact W.zret (v := ftB (0 ≤ x ∧ x ≤ 50)) hx hb hr (by first | rfl | exact ftB_nar) (fun t ht hW => ⟨ftB (0 ≤ x ∧ x ≤ 50), rfl, (by show (ftB (0 ≤ x ∧ x ≤ 50) : Int32) = ftB (ftLossFits k x); exact ftB_congr (by simp [ftLossFits, c1_0, c1_1])), ht⟩) (fun _ h9 => absurd h9 List.not_mem_nil) dX4_lossFits_55
set_option maxHeartbeats 4000000 in
set_option maxRecDepth 100000 in
theorem c_X4_reflectionFits (l : Launch) (D : va_G) (cI cS : ClassId) (k x : Int32)  : Met l yX4_reflectionFits wsX4_reflectionFits ({ frames := 1, cells := 0, slots := 0, locals := 22 }) (ftRO D cI cS [.int k, .int x] []) (vp_Si (fun o9 => o9 = ftB (ftReflFits k x))) 0 0 (fun _ => False) := by
  refine Met.ofW (cc := cX4_reflectionFits) (maxL := 2) (ret := (some .boolean)) (by decide) rfl ?_
  intro p e s m args below meth c s₁ B hml hv
  obtain ⟨rfl, hP, hKK⟩ := hv
  have hK := hKK.1
  have hx := B.exec
  have hb := B.bytes
  have hr := B.returns
  have hts := atoms_spec (ws := wsX4_reflectionFits) B.pre
  have hown : s.vm.findClass RX4 = some m.cls := findClass_of_methodNamed B.named
  have hlocks := B.notSynchronized
  have hP : va_P D vwCl [] s.heap := hP
  have hl := lv_entry ([.int k, .int x]) (n := 2) (Nat.le_of_ble_eq_true rfl)
  rw [lg_entry_eq]
  generalize (lg_sl ([.int k, .int x]) ++ List.replicate (2 - (lg_sl ([.int k, .int x])).length) Slot.unset).toArray = ls at hl ⊢
  have hl : lv_has ls 2 [(0, .int k), (1, .int x)] := hl
  refine lv_iload_n hx hb dX4_reflectionFits_0 rfl (lv_at hl 0 rfl) ?_
  refine lv_iconst (v := 1) hx hb dX4_reflectionFits_1 (by decide) ?_
  refine lv_icmp_ne (tgt := 16) hx hb dX4_reflectionFits_2 (by decide) (fun c2 => ?_) (fun c2 => ?_)
  · refine lv_iload_n hx hb dX4_reflectionFits_16 rfl (lv_at hl 1 rfl) ?_
    refine lv_if_ne (tgt := 24) hx hb dX4_reflectionFits_17 (by decide) (fun c17 => ?_) (fun c17 => ?_)
    · refine lv_iconst (v := 0) hx hb dX4_reflectionFits_24 (by decide) ?_
      exact W.zret (v := 0) hx hb hr (by rfl) (fun t ht hW => ⟨0, rfl, (by show (0 : Int32) = ftB (ftReflFits k x); first | exact ftB_congr (by simp [ftReflFits, c2]) | exact (ftB_t (Or.inr ⟨c2, c17⟩)).symm | exact (ftB_f (fun q => q.elim (fun r => c2 r.1) (fun r => c17 r.2))).symm), ht⟩) (fun _ h9 => absurd h9 List.not_mem_nil) dX4_reflectionFits_25
    · refine lv_iconst (v := 1) hx hb dX4_reflectionFits_20 (by decide) ?_
      refine lv_goto (tgt := 25) hx hb dX4_reflectionFits_21 (by decide) ?_
      exact W.zret (v := 1) hx hb hr (by rfl) (fun t ht hW => ⟨1, rfl, (by show (1 : Int32) = ftB (ftReflFits k x); first | exact ftB_congr (by simp [ftReflFits, c2]) | exact (ftB_t (Or.inr ⟨c2, c17⟩)).symm | exact (ftB_f (fun q => q.elim (fun r => c2 r.1) (fun r => c17 r.2))).symm), ht⟩) (fun _ h9 => absurd h9 List.not_mem_nil) dX4_reflectionFits_25
  · refine lv_iload_n hx hb dX4_reflectionFits_5 rfl (lv_at hl 1 rfl) ?_
    refine lv_iconst (v := 1) hx hb dX4_reflectionFits_6 (by decide) ?_
    refine lv_sipush (v := 20000) hx hb dX4_reflectionFits_7 (by decide) ?_
    refine ft_csi (r := ftB (1 ≤ x ∧ x ≤ 20000)) (va_runSN (As := [.int x, .int 1, .int 20000]) (rest := []) ⟨hx, hb, hml, hown, hts⟩ (c_X10_isWithin l D cI cS x 1 20000) ⟨va_cnB 3 hts gX4_reflectionFits_X10_isWithin_n46 rfl rfl rfl (hKK.2 _ (List.mem_of_getElem? (i := 10) rfl)) (hts (.initialized RX10) (by decide +kernel)) (by decide +kernel) ⟨Nat.le_of_ble_eq_true rfl, Nat.le_of_ble_eq_true rfl⟩, hts (.static yX10_isWithin) (by decide +kernel), trivial⟩ (ft_preRO hP hKK [] rfl) rfl rfl hl.1 rfl (lv_room (Nat.le_of_ble_eq_true rfl)) dX4_reflectionFits_10 ⟨Nat.le_of_ble_eq_true rfl, Nat.le_of_ble_eq_true rfl⟩) ?_
    refine lv_goto (tgt := 25) hx hb dX4_reflectionFits_13 (by decide) ?_
    exact W.zret (v := ftB (1 ≤ x ∧ x ≤ 20000)) hx hb hr (by first | rfl | exact ftB_nar) (fun t ht hW => ⟨ftB (1 ≤ x ∧ x ≤ 20000), rfl, (by show (ftB (1 ≤ x ∧ x ≤ 20000) : Int32) = ftB (ftReflFits k x); first | exact ftB_congr (by simp [ftReflFits, c2]) | exact (ftB_t (Or.inr ⟨c2, c17⟩)).symm | exact (ftB_f (fun q => q.elim (fun r => c2 r.1) (fun r => c17 r.2))).symm), ht⟩) (fun _ h9 => absurd h9 List.not_mem_nil) dX4_reflectionFits_25
set_option maxHeartbeats 4000000 in
set_option maxRecDepth 100000 in
theorem c_X4_hasPartAt (l : Launch) (D : va_G) (cI cS : ClassId) (a0 : Nat) (len att en : Int32) (n ak ap al ar : Nat) (pf : Nat → Int32) (x : Int32) (hn : n ≤ 10) : Met l yX4_hasPartAt wsX4_hasPartAt ({ frames := 1, cells := 0, slots := 0, locals := 21 }) (ftRO D cI cS [.ref a0, .int x] [(a0, .inr (4, [.int len, .int att, .int en, .int (nI n), .ref ak, .ref ap, .ref al, .ref ar])), (ap, .inl (cI, 10, .inl pf))]) (vp_Si (fun o9 => o9 = ftB (∃ i, i < n ∧ pf i = x))) 0 0 (fun _ => False) := by
  refine Met.ofW (cc := cX4_hasPartAt) (maxL := 3) (ret := (some .boolean)) (by decide) rfl ?_
  intro p e s m args below meth c s₁ B hml hv
  obtain ⟨rfl, hP, hKK⟩ := hv
  have hK := hKK.1
  have hx := B.exec
  have hb := B.bytes
  have hr := B.returns
  have hts := atoms_spec (ws := wsX4_hasPartAt) B.pre
  have hown : s.vm.findClass RX4 = some m.cls := findClass_of_methodNamed B.named
  have hlocks := B.notSynchronized
  have hP : va_P D vwCl [(a0, .inr (4, [.int len, .int att, .int en, .int (nI n), .ref ak, .ref ap, .ref al, .ref ar])), (ap, .inl (cI, 10, .inl pf))] s.heap := hP
  have hl := lv_entry ([.ref a0, .int x]) (n := 3) (Nat.le_of_ble_eq_true rfl)
  rw [lg_entry_eq]
  generalize (lg_sl ([.ref a0, .int x]) ++ List.replicate (3 - (lg_sl ([.ref a0, .int x])).length) Slot.unset).toArray = ls at hl ⊢
  have hl : lv_has ls 3 [(0, .ref a0), (1, .int x)] := hl
  refine lv_iconst (v := 0) hx hb dX4_hasPartAt_0 (by decide) ?_
  refine lv_istore_n (lv' := [(2, .int 0), (0, .ref a0), (1, .int x)]) hx hb dX4_hasPartAt_1 rfl hl (by decide) rfl (fun ls hl => ?_)
  have lp2 : ∀ (n2 : Nat) (i : Nat) (x2_2 : Int32), n - i < n2 → (i ≤ n) → (∀ t, t < i → pf t ≠ x) → x2_2 = nI i → ∀ ls : Array Slot, lv_has ls 3 [(0, .ref a0), (1, .int x), (2, .int x2_2)] → W p l e (headSpec wsX4_hasPartAt { frames := 1, cells := 0, slots := 0, locals := 21 }).room s m ([.ref a0, .int x] : List Value).toArray below meth c s.heap [] 0 0 (MQ below (vp_Si (fun o9 => o9 = ftB (∃ i, i < n ∧ pf i = x))) ([.ref a0, .int x] : List Value).toArray s 0 0 (fun _ => False)) (F0 m 2 ls []) := by
    intro n2
    induction n2 with
    | zero =>
      intro i x2_2  hm2
      exact absurd hm2 (Nat.not_lt_zero _)
    | succ n2 ih2 =>
      intro i x2_2  hm2 hin hno ex2_2  ls hl
      subst ex2_2
      refine lv_iload_n hx hb dX4_hasPartAt_2 rfl (lv_at hl 2 rfl) ?_
      refine lv_aload_n hx hb dX4_hasPartAt_3 rfl (lv_at hl 0 rfl) ?_
      refine va_get (D := D) (ci := 4) (v := .int (nI n)) (C := RX4) (T := TX4) (N := 8) hx hb hts (by decide +kernel) hown hK hP 0 rfl rfl 3 (by decide) (hts (.fieldLink RX4 37 "FiberTrace$Link" "size" "I") (by decide +kernel)) (fun _ h9 => h9) rfl dX4_hasPartAt_4 ?_
      refine lv_icmp_ge (tgt := 30) hx hb dX4_hasPartAt_7 (by decide) (fun c7 => ?_) (fun c7 => ?_)
      · have c7n : n ≤ i := ft_leN (by omega) (by omega) c7
        refine lv_iconst (v := 0) hx hb dX4_hasPartAt_30 (by decide) ?_
        exact W.zret (v := 0) hx hb hr (by rfl) (fun t ht hW => ⟨0, rfl, (by show (0 : Int32) = ftB (∃ i, i < n ∧ pf i = x); exact (ftB_f (fun ⟨t, h1, h2⟩ => hno t (by omega) h2)).symm), ht⟩) (fun _ h9 => absurd h9 List.not_mem_nil) dX4_hasPartAt_31
      · have c7n : i < n := ft_nleN (by omega) (by omega) c7
        refine lv_aload_n hx hb dX4_hasPartAt_10 rfl (lv_at hl 0 rfl) ?_
        refine va_get (D := D) (ci := 4) (v := .ref ap) (C := RX4) (T := TX4) (N := 8) hx hb hts (by decide +kernel) hown hK hP 0 rfl rfl 5 (by decide) (hts (.fieldLink RX4 15 "FiberTrace$Link" "places" "[I") (by decide +kernel)) (fun _ h9 => h9) rfl dX4_hasPartAt_11 ?_
        refine lv_iload_n hx hb dX4_hasPartAt_14 rfl (lv_at hl 2 rfl) ?_
        refine ft_csi (r := ftAt 10 pf (nI i)) (va_runSN (As := [.ref ap, .int (nI i)]) (rest := []) ⟨hx, hb, hml, hown, hts⟩ (c_X10_at l D cI cS ap 10 pf (nI i) (by omega)) ⟨va_cnB 2 hts gX4_hasPartAt_X10_at_n50 rfl rfl rfl (hKK.2 _ (List.mem_of_getElem? (i := 11) rfl)) (hts (.initialized RX10) (by decide +kernel)) (by decide +kernel) ⟨Nat.le_of_ble_eq_true rfl, Nat.le_of_ble_eq_true rfl⟩, hts (.static yX10_at) (by decide +kernel), trivial⟩ (ft_preRO hP hKK [1] rfl) rfl rfl hl.1 rfl (lv_room (Nat.le_of_ble_eq_true rfl)) dX4_hasPartAt_15 ⟨Nat.le_of_ble_eq_true rfl, Nat.le_of_ble_eq_true rfl⟩) ?_
        refine ft_top (y := pf i) (ftAt_N (by omega) (by omega)) ?_
        refine lv_iload_n hx hb dX4_hasPartAt_18 rfl (lv_at hl 1 rfl) ?_
        refine lv_icmp_ne (tgt := 24) hx hb dX4_hasPartAt_19 (by decide) (fun c19 => ?_) (fun c19 => ?_)
        · refine lv_iinc (v := nI (i + 1)) (lv' := [(2, .int (nI (i + 1))), (0, .ref a0), (1, .int x)]) hx hb dX4_hasPartAt_24 hl (k := 2) rfl (ft_inc i) (by decide) rfl (fun ls hl => ?_)
          refine lv_goto (tgt := 2) hx hb dX4_hasPartAt_27 (by decide) ?_
          exact ih2 (i + 1) (nI (i + 1))  (by omega) (by omega) (by intro t ht q; rcases Nat.lt_succ_iff_lt_or_eq.mp ht with r | r; exact hno t r q; subst r; exact c19 q) (by first | rfl | assumption)  ls (lv_sub hl [1, 2, 0] rfl)
        · refine lv_iconst (v := 1) hx hb dX4_hasPartAt_22 (by decide) ?_
          exact W.zret (v := 1) hx hb hr (by rfl) (fun t ht hW => ⟨1, rfl, (by show (1 : Int32) = ftB (∃ i, i < n ∧ pf i = x); exact (ftB_t ⟨i, c7n, c19⟩).symm), ht⟩) (fun _ h9 => absurd h9 List.not_mem_nil) dX4_hasPartAt_23
  exact lp2 _ 0 0  (Nat.lt_succ_self _) (by omega) (by intro t ht; omega) (by rfl) ls (lv_sub hl [1, 2, 0] rfl)
set_option maxHeartbeats 4000000 in
set_option maxRecDepth 100000 in
theorem c_X4_isJoint (l : Launch) (D : va_G) (cI cS : ClassId) (a0 : Nat) (len att en : Int32) (n ak ap al ar : Nat) (kf : Nat → Int32) (i : Nat) (hi : i < 10) : Met l yX4_isJoint wsX4_isJoint ({ frames := 1, cells := 0, slots := 0, locals := 21 }) (ftRO D cI cS [.ref a0, .int (nI i)] [(a0, .inr (4, [.int len, .int att, .int en, .int (nI n), .ref ak, .ref ap, .ref al, .ref ar])), (ak, .inl (cI, 10, .inl kf))]) (vp_Si (fun o9 => o9 = ftB (¬ kf i = 2))) 0 0 (fun _ => False) := by
  refine Met.ofW (cc := cX4_isJoint) (maxL := 2) (ret := (some .boolean)) (by decide) rfl ?_
  intro p e s m args below meth c s₁ B hml hv
  obtain ⟨rfl, hP, hKK⟩ := hv
  have hK := hKK.1
  have hx := B.exec
  have hb := B.bytes
  have hr := B.returns
  have hts := atoms_spec (ws := wsX4_isJoint) B.pre
  have hown : s.vm.findClass RX4 = some m.cls := findClass_of_methodNamed B.named
  have hlocks := B.notSynchronized
  have hP : va_P D vwCl [(a0, .inr (4, [.int len, .int att, .int en, .int (nI n), .ref ak, .ref ap, .ref al, .ref ar])), (ak, .inl (cI, 10, .inl kf))] s.heap := hP
  have hl := lv_entry ([.ref a0, .int (nI i)]) (n := 2) (Nat.le_of_ble_eq_true rfl)
  rw [lg_entry_eq]
  generalize (lg_sl ([.ref a0, .int (nI i)]) ++ List.replicate (2 - (lg_sl ([.ref a0, .int (nI i)])).length) Slot.unset).toArray = ls at hl ⊢
  have hl : lv_has ls 2 [(0, .ref a0), (1, .int (nI i))] := hl
  refine lv_aload_n hx hb dX4_isJoint_0 rfl (lv_at hl 0 rfl) ?_
  refine va_get (D := D) (ci := 4) (v := .ref ak) (C := RX4) (T := TX4) (N := 8) hx hb hts (by decide +kernel) hown hK hP 0 rfl rfl 4 (by decide) (hts (.fieldLink RX4 9 "FiberTrace$Link" "kinds" "[I") (by decide +kernel)) (fun _ h9 => h9) rfl dX4_isJoint_1 ?_
  refine lv_iload_n hx hb dX4_isJoint_4 rfl (lv_at hl 1 rfl) ?_
  refine ft_csi (r := ftAt 10 kf (nI i)) (va_runSN (As := [.ref ak, .int (nI i)]) (rest := []) ⟨hx, hb, hml, hown, hts⟩ (c_X10_at l D cI cS ak 10 kf (nI i) (by omega)) ⟨va_cnB 2 hts gX4_isJoint_X10_at_n50 rfl rfl rfl (hKK.2 _ (List.mem_of_getElem? (i := 11) rfl)) (hts (.initialized RX10) (by decide +kernel)) (by decide +kernel) ⟨Nat.le_of_ble_eq_true rfl, Nat.le_of_ble_eq_true rfl⟩, hts (.static yX10_at) (by decide +kernel), trivial⟩ (ft_preRO hP hKK [1] rfl) rfl rfl hl.1 rfl (lv_room (Nat.le_of_ble_eq_true rfl)) dX4_isJoint_5 ⟨Nat.le_of_ble_eq_true rfl, Nat.le_of_ble_eq_true rfl⟩) ?_
  refine ft_top (y := kf i) (ftAt_N (by omega) (by omega)) ?_
  refine lv_iconst (v := 2) hx hb dX4_isJoint_8 (by decide) ?_
  refine lv_icmp_eq (tgt := 16) hx hb dX4_isJoint_9 (by decide) (fun c9 => ?_) (fun c9 => ?_)
  · refine lv_iconst (v := 0) hx hb dX4_isJoint_16 (by decide) ?_
    exact W.zret (v := 0) hx hb hr (by rfl) (fun t ht hW => ⟨0, rfl, (by show (0 : Int32) = ftB (¬ kf i = 2); first | exact (ftB_t c9).symm | exact (ftB_f (fun q => q c9)).symm), ht⟩) (fun _ h9 => absurd h9 List.not_mem_nil) dX4_isJoint_17
  · refine lv_iconst (v := 1) hx hb dX4_isJoint_12 (by decide) ?_
    refine lv_goto (tgt := 17) hx hb dX4_isJoint_13 (by decide) ?_
    exact W.zret (v := 1) hx hb hr (by rfl) (fun t ht hW => ⟨1, rfl, (by show (1 : Int32) = ftB (¬ kf i = 2); first | exact (ftB_t c9).symm | exact (ftB_f (fun q => q c9)).symm), ht⟩) (fun _ h9 => absurd h9 List.not_mem_nil) dX4_isJoint_17
set_option maxHeartbeats 4000000 in
set_option maxRecDepth 100000 in
theorem c_X4_insert (l : Launch) (D : va_G) (cI cS : ClassId) (sz : Nat) (a0 : Nat) (len att en : Int32) (n ak ap al ar : Nat) (kf pf lf rf : Nat → Int32) (k x lo re : Int32) (hn : n < 10) : Met l yX4_insert wsX4_insert ({ frames := 2, cells := 0, slots := 0, locals := 46 }) (ftRW D cI cS [.ref a0, .int k, .int x, .int lo, .int re] [(a0, .inr (4, [.int len, .int att, .int en, .int (nI n), .ref ak, .ref ap, .ref al, .ref ar])), (ak, .inl (cI, 10, .inl kf)), (ap, .inl (cI, 10, .inl pf)), (al, .inl (cI, 10, .inl lf)), (ar, .inl (cI, 10, .inl rf))] sz) (ftQi D (nI (ftIdx pf x n)) [(a0, .inr (4, [.int len, .int att, .int en, .int (nI n), .ref ak, .ref ap, .ref al, .ref ar])), (ak, .inl (cI, 10, .inl kf)), (ap, .inl (cI, 10, .inl pf)), (al, .inl (cI, 10, .inl lf)), (ar, .inl (cI, 10, .inl rf))] [(a0, .inr (4, [.int len, .int att, .int en, .int (nI (n + 1)), .ref ak, .ref ap, .ref al, .ref ar])), (ak, .inl (cI, 10, .inl (ftIns kf n (ftIdx pf x n) k))), (ap, .inl (cI, 10, .inl (ftIns pf n (ftIdx pf x n) x))), (al, .inl (cI, 10, .inl (ftIns lf n (ftIdx pf x n) lo))), (ar, .inl (cI, 10, .inl (ftIns rf n (ftIdx pf x n) re)))] sz) 0 0 (va_A [(a0, .inr (4, [.int len, .int att, .int en, .int (nI n), .ref ak, .ref ap, .ref al, .ref ar])), (ak, .inl (cI, 10, .inl kf)), (ap, .inl (cI, 10, .inl pf)), (al, .inl (cI, 10, .inl lf)), (ar, .inl (cI, 10, .inl rf))] sz) := by
  refine Met.ofW (cc := cX4_insert) (maxL := 6) (ret := (some .int)) (by decide) rfl ?_
  intro p e s m args below meth c s₁ B hml hv
  obtain ⟨rfl, hsz, hP, hKK, hD0⟩ := hv
  have hK := hKK.1
  have hx := B.exec
  have hb := B.bytes
  have hr := B.returns
  have hts := atoms_spec (ws := wsX4_insert) B.pre
  have hown : s.vm.findClass RX4 = some m.cls := findClass_of_methodNamed B.named
  have hlocks := B.notSynchronized
  subst hsz
  have hD := hD0.self (sz := s.heap.size)
  generalize hAe : va_A [(a0, .inr (4, [.int len, .int att, .int en, .int (nI n), .ref ak, .ref ap, .ref al, .ref ar])), (ak, .inl (cI, 10, .inl kf)), (ap, .inl (cI, 10, .inl pf)), (al, .inl (cI, 10, .inl lf)), (ar, .inl (cI, 10, .inl rf))] s.heap.size = A at hD ⊢
  have hA : ∀ q : Nat, s.heap.size ≤ q → A q := fun q h => by rw [← hAe]; exact Or.inr h
  have hS : va_S A s.heap s.heap [] := va_S.rf
  have hD : va_D A [(a0, .inr (4, [.int len, .int att, .int en, .int (nI n), .ref ak, .ref ap, .ref al, .ref ar])), (ak, .inl (cI, 10, .inl kf)), (ap, .inl (cI, 10, .inl pf)), (al, .inl (cI, 10, .inl lf)), (ar, .inl (cI, 10, .inl rf))] := hD
  have hP : va_P D vwCl [(a0, .inr (4, [.int len, .int att, .int en, .int (nI n), .ref ak, .ref ap, .ref al, .ref ar])), (ak, .inl (cI, 10, .inl kf)), (ap, .inl (cI, 10, .inl pf)), (al, .inl (cI, 10, .inl lf)), (ar, .inl (cI, 10, .inl rf))] s.heap := hP
  have hl := lv_entry ([.ref a0, .int k, .int x, .int lo, .int re]) (n := 6) (Nat.le_of_ble_eq_true rfl)
  rw [lg_entry_eq]
  generalize (lg_sl ([.ref a0, .int k, .int x, .int lo, .int re]) ++ List.replicate (6 - (lg_sl ([.ref a0, .int k, .int x, .int lo, .int re])).length) Slot.unset).toArray = ls at hl ⊢
  have hl : lv_has ls 6 [(0, .ref a0), (1, .int k), (2, .int x), (3, .int lo), (4, .int re)] := hl
  refine lv_iconst (v := 0) hx hb dX4_insert_0 (by decide) ?_
  refine lv_istore (lv' := [(5, .int 0), (0, .ref a0), (1, .int k), (2, .int x), (3, .int lo), (4, .int re)]) hx hb dX4_insert_1 hl (by decide) rfl (fun ls hl => ?_)
  have lp3 : ∀ (n3 : Nat) (i : Nat) (x3_5 : Int32), n - i < n3 → (i ≤ n) → (∀ t, t < i → pf t < x) → x3_5 = nI i → ∀ (H : Heap) (locs : List Loc), va_P D vwCl [(a0, .inr (4, [.int len, .int att, .int en, .int (nI n), .ref ak, .ref ap, .ref al, .ref ar])), (ak, .inl (cI, 10, .inl kf)), (ap, .inl (cI, 10, .inl pf)), (al, .inl (cI, 10, .inl lf)), (ar, .inl (cI, 10, .inl rf))] H → va_D A [(a0, .inr (4, [.int len, .int att, .int en, .int (nI n), .ref ak, .ref ap, .ref al, .ref ar])), (ak, .inl (cI, 10, .inl kf)), (ap, .inl (cI, 10, .inl pf)), (al, .inl (cI, 10, .inl lf)), (ar, .inl (cI, 10, .inl rf))] → va_S A s.heap H locs → ∀ ls : Array Slot, lv_has ls 6 [(0, .ref a0), (1, .int k), (2, .int x), (3, .int lo), (4, .int re), (5, .int x3_5)] → W p l e (headSpec wsX4_insert { frames := 2, cells := 0, slots := 0, locals := 46 }).room s m ([.ref a0, .int k, .int x, .int lo, .int re] : List Value).toArray below meth c H locs 0 0 (MQ below (ftQi D (nI (ftIdx pf x n)) [(a0, .inr (4, [.int len, .int att, .int en, .int (nI n), .ref ak, .ref ap, .ref al, .ref ar])), (ak, .inl (cI, 10, .inl kf)), (ap, .inl (cI, 10, .inl pf)), (al, .inl (cI, 10, .inl lf)), (ar, .inl (cI, 10, .inl rf))] [(a0, .inr (4, [.int len, .int att, .int en, .int (nI (n + 1)), .ref ak, .ref ap, .ref al, .ref ar])), (ak, .inl (cI, 10, .inl (ftIns kf n (ftIdx pf x n) k))), (ap, .inl (cI, 10, .inl (ftIns pf n (ftIdx pf x n) x))), (al, .inl (cI, 10, .inl (ftIns lf n (ftIdx pf x n) lo))), (ar, .inl (cI, 10, .inl (ftIns rf n (ftIdx pf x n) re)))] s.heap.size) ([.ref a0, .int k, .int x, .int lo, .int re] : List Value).toArray s 0 0 A) (F0 m 3 ls []) := by
    intro n3
    induction n3 with
    | zero =>
      intro i x3_5  hm3
      exact absurd hm3 (Nat.not_lt_zero _)
    | succ n3 ih3 =>
      intro i x3_5  hm3 hin hall ex3_5  H locs hP hD hS ls hl
      subst ex3_5
      refine lv_iload hx hb dX4_insert_3 (lv_at hl 5 rfl) ?_
      refine lv_aload_n hx hb dX4_insert_5 rfl (lv_at hl 0 rfl) ?_
      refine va_get (D := D) (ci := 4) (v := .int (nI n)) (C := RX4) (T := TX4) (N := 8) hx hb hts (by decide +kernel) hown hK hP 0 rfl rfl 3 (by decide) (hts (.fieldLink RX4 37 "FiberTrace$Link" "size" "I") (by decide +kernel)) (fun _ h9 => h9) rfl dX4_insert_6 ?_
      refine lv_icmp_ge (tgt := 31) hx hb dX4_insert_9 (by decide) (fun c9 => ?_) (fun c9 => ?_)
      · have c9n : n ≤ i := ft_leN (by omega) (by omega) c9
        have hix : ftIdx pf x n = i := ftIdx_of hin hall (fun q => absurd q (by omega))
        refine lv_aload_n hx hb dX4_insert_31 rfl (lv_at hl 0 rfl) ?_
        refine va_get (D := D) (ci := 4) (v := .ref ak) (C := RX4) (T := TX4) (N := 8) hx hb hts (by decide +kernel) hown hK hP 0 rfl rfl 4 (by decide) (hts (.fieldLink RX4 9 "FiberTrace$Link" "kinds" "[I") (by decide +kernel)) (fun _ h9 => h9) rfl dX4_insert_32 ?_
        refine lv_aload_n hx hb dX4_insert_35 rfl (lv_at hl 0 rfl) ?_
        refine va_get (D := D) (ci := 4) (v := .int (nI n)) (C := RX4) (T := TX4) (N := 8) hx hb hts (by decide +kernel) hown hK hP 0 rfl rfl 3 (by decide) (hts (.fieldLink RX4 37 "FiberTrace$Link" "size" "I") (by decide +kernel)) (fun _ h9 => h9) rfl dX4_insert_36 ?_
        refine lv_iload hx hb dX4_insert_39 (lv_at hl 5 rfl) ?_
        refine lv_iload_n hx hb dX4_insert_41 rfl (lv_at hl 1 rfl) ?_
        refine ft_cv (wc := [(ak, .inl (cI, 10, .inl kf))]) (wr := [(a0, .inr (4, [.int len, .int att, .int en, .int (nI n), .ref ak, .ref ap, .ref al, .ref ar])), (ap, .inl (cI, 10, .inl pf)), (al, .inl (cI, 10, .inl lf)), (ar, .inl (cI, 10, .inl rf))]) (w1 := [(ak, .inl (cI, 10, .inl (ftIns kf n i k)))]) (ws1 := [(a0, .inr (4, [.int len, .int att, .int en, .int (nI n), .ref ak, .ref ap, .ref al, .ref ar])), (ak, .inl (cI, 10, .inl (ftIns kf n i k))), (ap, .inl (cI, 10, .inl pf)), (al, .inl (cI, 10, .inl lf)), (ar, .inl (cI, 10, .inl rf))]) (va_runSN (As := [.ref ak, .int (nI n), .int (nI i), .int k]) (rest := []) ⟨hx, hb, hml, hown, hts⟩ (c_X10_insertInto l D cI cS H.size ak 10 kf n i k (by first | assumption | omega) (by first | assumption | omega) (by first | assumption | omega)) ⟨va_cnB 4 hts gX4_insert_X10_insertInto_n54 rfl rfl rfl (hKK.2 _ (List.mem_of_getElem? (i := 12) rfl)) (hts (.initialized RX10) (by decide +kernel)) (by decide +kernel) ⟨Nat.le_of_ble_eq_true rfl, Nat.le_of_ble_eq_true rfl⟩, hts (.static yX10_insertInto) (by decide +kernel), trivial⟩ (ft_preRW hP hD hKK [1] rfl rfl rfl) rfl rfl hl.1 rfl (lv_room (Nat.le_of_ble_eq_true rfl)) dX4_insert_42 ⟨Nat.le_of_ble_eq_true rfl, Nat.le_of_ble_eq_true rfl⟩) hP hD hS hA [1] [0, 2, 3, 4] [0, 4, 1, 2, 3] rfl rfl (by decide) (by decide) (by decide) rfl rfl (fun H locs hP hD hS => ?_)
        have hP : va_P D vwCl [(a0, .inr (4, [.int len, .int att, .int en, .int (nI n), .ref ak, .ref ap, .ref al, .ref ar])), (ak, .inl (cI, 10, .inl (ftIns kf n i k))), (ap, .inl (cI, 10, .inl pf)), (al, .inl (cI, 10, .inl lf)), (ar, .inl (cI, 10, .inl rf))] H := hP
        have hD : va_D A [(a0, .inr (4, [.int len, .int att, .int en, .int (nI n), .ref ak, .ref ap, .ref al, .ref ar])), (ak, .inl (cI, 10, .inl (ftIns kf n i k))), (ap, .inl (cI, 10, .inl pf)), (al, .inl (cI, 10, .inl lf)), (ar, .inl (cI, 10, .inl rf))] := hD
        refine lv_aload_n hx hb dX4_insert_45 rfl (lv_at hl 0 rfl) ?_
        refine va_get (D := D) (ci := 4) (v := .ref ap) (C := RX4) (T := TX4) (N := 8) hx hb hts (by decide +kernel) hown hK hP 0 rfl rfl 5 (by decide) (hts (.fieldLink RX4 15 "FiberTrace$Link" "places" "[I") (by decide +kernel)) (fun _ h9 => h9) rfl dX4_insert_46 ?_
        refine lv_aload_n hx hb dX4_insert_49 rfl (lv_at hl 0 rfl) ?_
        refine va_get (D := D) (ci := 4) (v := .int (nI n)) (C := RX4) (T := TX4) (N := 8) hx hb hts (by decide +kernel) hown hK hP 0 rfl rfl 3 (by decide) (hts (.fieldLink RX4 37 "FiberTrace$Link" "size" "I") (by decide +kernel)) (fun _ h9 => h9) rfl dX4_insert_50 ?_
        refine lv_iload hx hb dX4_insert_53 (lv_at hl 5 rfl) ?_
        refine lv_iload_n hx hb dX4_insert_55 rfl (lv_at hl 2 rfl) ?_
        refine ft_cv (wc := [(ap, .inl (cI, 10, .inl pf))]) (wr := [(a0, .inr (4, [.int len, .int att, .int en, .int (nI n), .ref ak, .ref ap, .ref al, .ref ar])), (ak, .inl (cI, 10, .inl (ftIns kf n i k))), (al, .inl (cI, 10, .inl lf)), (ar, .inl (cI, 10, .inl rf))]) (w1 := [(ap, .inl (cI, 10, .inl (ftIns pf n i x)))]) (ws1 := [(a0, .inr (4, [.int len, .int att, .int en, .int (nI n), .ref ak, .ref ap, .ref al, .ref ar])), (ak, .inl (cI, 10, .inl (ftIns kf n i k))), (ap, .inl (cI, 10, .inl (ftIns pf n i x))), (al, .inl (cI, 10, .inl lf)), (ar, .inl (cI, 10, .inl rf))]) (va_runSN (As := [.ref ap, .int (nI n), .int (nI i), .int x]) (rest := []) ⟨hx, hb, hml, hown, hts⟩ (c_X10_insertInto l D cI cS H.size ap 10 pf n i x (by first | assumption | omega) (by first | assumption | omega) (by first | assumption | omega)) ⟨va_cnB 4 hts gX4_insert_X10_insertInto_n54 rfl rfl rfl (hKK.2 _ (List.mem_of_getElem? (i := 12) rfl)) (hts (.initialized RX10) (by decide +kernel)) (by decide +kernel) ⟨Nat.le_of_ble_eq_true rfl, Nat.le_of_ble_eq_true rfl⟩, hts (.static yX10_insertInto) (by decide +kernel), trivial⟩ (ft_preRW hP hD hKK [2] rfl rfl rfl) rfl rfl hl.1 rfl (lv_room (Nat.le_of_ble_eq_true rfl)) dX4_insert_56 ⟨Nat.le_of_ble_eq_true rfl, Nat.le_of_ble_eq_true rfl⟩) hP hD hS hA [2] [0, 1, 3, 4] [0, 1, 4, 2, 3] rfl rfl (by decide) (by decide) (by decide) rfl rfl (fun H locs hP hD hS => ?_)
        have hP : va_P D vwCl [(a0, .inr (4, [.int len, .int att, .int en, .int (nI n), .ref ak, .ref ap, .ref al, .ref ar])), (ak, .inl (cI, 10, .inl (ftIns kf n i k))), (ap, .inl (cI, 10, .inl (ftIns pf n i x))), (al, .inl (cI, 10, .inl lf)), (ar, .inl (cI, 10, .inl rf))] H := hP
        have hD : va_D A [(a0, .inr (4, [.int len, .int att, .int en, .int (nI n), .ref ak, .ref ap, .ref al, .ref ar])), (ak, .inl (cI, 10, .inl (ftIns kf n i k))), (ap, .inl (cI, 10, .inl (ftIns pf n i x))), (al, .inl (cI, 10, .inl lf)), (ar, .inl (cI, 10, .inl rf))] := hD
        refine lv_aload_n hx hb dX4_insert_59 rfl (lv_at hl 0 rfl) ?_
        refine va_get (D := D) (ci := 4) (v := .ref al) (C := RX4) (T := TX4) (N := 8) hx hb hts (by decide +kernel) hown hK hP 0 rfl rfl 6 (by decide) (hts (.fieldLink RX4 18 "FiberTrace$Link" "losses" "[I") (by decide +kernel)) (fun _ h9 => h9) rfl dX4_insert_60 ?_
        refine lv_aload_n hx hb dX4_insert_63 rfl (lv_at hl 0 rfl) ?_
        refine va_get (D := D) (ci := 4) (v := .int (nI n)) (C := RX4) (T := TX4) (N := 8) hx hb hts (by decide +kernel) hown hK hP 0 rfl rfl 3 (by decide) (hts (.fieldLink RX4 37 "FiberTrace$Link" "size" "I") (by decide +kernel)) (fun _ h9 => h9) rfl dX4_insert_64 ?_
        refine lv_iload hx hb dX4_insert_67 (lv_at hl 5 rfl) ?_
        refine lv_iload_n hx hb dX4_insert_69 rfl (lv_at hl 3 rfl) ?_
        refine ft_cv (wc := [(al, .inl (cI, 10, .inl lf))]) (wr := [(a0, .inr (4, [.int len, .int att, .int en, .int (nI n), .ref ak, .ref ap, .ref al, .ref ar])), (ak, .inl (cI, 10, .inl (ftIns kf n i k))), (ap, .inl (cI, 10, .inl (ftIns pf n i x))), (ar, .inl (cI, 10, .inl rf))]) (w1 := [(al, .inl (cI, 10, .inl (ftIns lf n i lo)))]) (ws1 := [(a0, .inr (4, [.int len, .int att, .int en, .int (nI n), .ref ak, .ref ap, .ref al, .ref ar])), (ak, .inl (cI, 10, .inl (ftIns kf n i k))), (ap, .inl (cI, 10, .inl (ftIns pf n i x))), (al, .inl (cI, 10, .inl (ftIns lf n i lo))), (ar, .inl (cI, 10, .inl rf))]) (va_runSN (As := [.ref al, .int (nI n), .int (nI i), .int lo]) (rest := []) ⟨hx, hb, hml, hown, hts⟩ (c_X10_insertInto l D cI cS H.size al 10 lf n i lo (by first | assumption | omega) (by first | assumption | omega) (by first | assumption | omega)) ⟨va_cnB 4 hts gX4_insert_X10_insertInto_n54 rfl rfl rfl (hKK.2 _ (List.mem_of_getElem? (i := 12) rfl)) (hts (.initialized RX10) (by decide +kernel)) (by decide +kernel) ⟨Nat.le_of_ble_eq_true rfl, Nat.le_of_ble_eq_true rfl⟩, hts (.static yX10_insertInto) (by decide +kernel), trivial⟩ (ft_preRW hP hD hKK [3] rfl rfl rfl) rfl rfl hl.1 rfl (lv_room (Nat.le_of_ble_eq_true rfl)) dX4_insert_70 ⟨Nat.le_of_ble_eq_true rfl, Nat.le_of_ble_eq_true rfl⟩) hP hD hS hA [3] [0, 1, 2, 4] [0, 1, 2, 4, 3] rfl rfl (by decide) (by decide) (by decide) rfl rfl (fun H locs hP hD hS => ?_)
        have hP : va_P D vwCl [(a0, .inr (4, [.int len, .int att, .int en, .int (nI n), .ref ak, .ref ap, .ref al, .ref ar])), (ak, .inl (cI, 10, .inl (ftIns kf n i k))), (ap, .inl (cI, 10, .inl (ftIns pf n i x))), (al, .inl (cI, 10, .inl (ftIns lf n i lo))), (ar, .inl (cI, 10, .inl rf))] H := hP
        have hD : va_D A [(a0, .inr (4, [.int len, .int att, .int en, .int (nI n), .ref ak, .ref ap, .ref al, .ref ar])), (ak, .inl (cI, 10, .inl (ftIns kf n i k))), (ap, .inl (cI, 10, .inl (ftIns pf n i x))), (al, .inl (cI, 10, .inl (ftIns lf n i lo))), (ar, .inl (cI, 10, .inl rf))] := hD
        refine lv_aload_n hx hb dX4_insert_73 rfl (lv_at hl 0 rfl) ?_
        refine va_get (D := D) (ci := 4) (v := .ref ar) (C := RX4) (T := TX4) (N := 8) hx hb hts (by decide +kernel) hown hK hP 0 rfl rfl 7 (by decide) (hts (.fieldLink RX4 21 "FiberTrace$Link" "reflections" "[I") (by decide +kernel)) (fun _ h9 => h9) rfl dX4_insert_74 ?_
        refine lv_aload_n hx hb dX4_insert_77 rfl (lv_at hl 0 rfl) ?_
        refine va_get (D := D) (ci := 4) (v := .int (nI n)) (C := RX4) (T := TX4) (N := 8) hx hb hts (by decide +kernel) hown hK hP 0 rfl rfl 3 (by decide) (hts (.fieldLink RX4 37 "FiberTrace$Link" "size" "I") (by decide +kernel)) (fun _ h9 => h9) rfl dX4_insert_78 ?_
        refine lv_iload hx hb dX4_insert_81 (lv_at hl 5 rfl) ?_
        refine lv_iload hx hb dX4_insert_83 (lv_at hl 4 rfl) ?_
        refine ft_cv (wc := [(ar, .inl (cI, 10, .inl rf))]) (wr := [(a0, .inr (4, [.int len, .int att, .int en, .int (nI n), .ref ak, .ref ap, .ref al, .ref ar])), (ak, .inl (cI, 10, .inl (ftIns kf n i k))), (ap, .inl (cI, 10, .inl (ftIns pf n i x))), (al, .inl (cI, 10, .inl (ftIns lf n i lo)))]) (w1 := [(ar, .inl (cI, 10, .inl (ftIns rf n i re)))]) (ws1 := [(a0, .inr (4, [.int len, .int att, .int en, .int (nI n), .ref ak, .ref ap, .ref al, .ref ar])), (ak, .inl (cI, 10, .inl (ftIns kf n i k))), (ap, .inl (cI, 10, .inl (ftIns pf n i x))), (al, .inl (cI, 10, .inl (ftIns lf n i lo))), (ar, .inl (cI, 10, .inl (ftIns rf n i re)))]) (va_runSN (As := [.ref ar, .int (nI n), .int (nI i), .int re]) (rest := []) ⟨hx, hb, hml, hown, hts⟩ (c_X10_insertInto l D cI cS H.size ar 10 rf n i re (by first | assumption | omega) (by first | assumption | omega) (by first | assumption | omega)) ⟨va_cnB 4 hts gX4_insert_X10_insertInto_n54 rfl rfl rfl (hKK.2 _ (List.mem_of_getElem? (i := 12) rfl)) (hts (.initialized RX10) (by decide +kernel)) (by decide +kernel) ⟨Nat.le_of_ble_eq_true rfl, Nat.le_of_ble_eq_true rfl⟩, hts (.static yX10_insertInto) (by decide +kernel), trivial⟩ (ft_preRW hP hD hKK [4] rfl rfl rfl) rfl rfl hl.1 rfl (lv_room (Nat.le_of_ble_eq_true rfl)) dX4_insert_85 ⟨Nat.le_of_ble_eq_true rfl, Nat.le_of_ble_eq_true rfl⟩) hP hD hS hA [4] [0, 1, 2, 3] [0, 1, 2, 3, 4] rfl rfl (by decide) (by decide) (by decide) rfl rfl (fun H locs hP hD hS => ?_)
        have hP : va_P D vwCl [(a0, .inr (4, [.int len, .int att, .int en, .int (nI n), .ref ak, .ref ap, .ref al, .ref ar])), (ak, .inl (cI, 10, .inl (ftIns kf n i k))), (ap, .inl (cI, 10, .inl (ftIns pf n i x))), (al, .inl (cI, 10, .inl (ftIns lf n i lo))), (ar, .inl (cI, 10, .inl (ftIns rf n i re)))] H := hP
        have hD : va_D A [(a0, .inr (4, [.int len, .int att, .int en, .int (nI n), .ref ak, .ref ap, .ref al, .ref ar])), (ak, .inl (cI, 10, .inl (ftIns kf n i k))), (ap, .inl (cI, 10, .inl (ftIns pf n i x))), (al, .inl (cI, 10, .inl (ftIns lf n i lo))), (ar, .inl (cI, 10, .inl (ftIns rf n i re)))] := hD
        refine lv_aload_n hx hb dX4_insert_88 rfl (lv_at hl 0 rfl) ?_
        refine lv_dup hx hb dX4_insert_89 rfl ?_
        refine va_get (D := D) (ci := 4) (v := .int (nI n)) (C := RX4) (T := TX4) (N := 8) hx hb hts (by decide +kernel) hown hK hP 0 rfl rfl 3 (by decide) (hts (.fieldLink RX4 37 "FiberTrace$Link" "size" "I") (by decide +kernel)) (fun _ h9 => h9) rfl dX4_insert_90 ?_
        refine lv_iconst (v := 1) hx hb dX4_insert_93 (by decide) ?_
        refine lv_iadd hx hb dX4_insert_94 ?_
        refine ft_top (y := nI (n + 1)) (ft_addN n 1) ?_
        refine va_put (D := D) (ci := 4) (v := .int (nI (n + 1))) (ty := .int) (C := RX4) (T := TX4) (N := 8) hx hb hts (by decide +kernel) tyX4 tyX4_ok nmX4 hown hK hP hD hS 0 rfl rfl 3 (by decide) (hts (.fieldLink RX4 37 "FiberTrace$Link" "size" "I") (by decide +kernel)) (fun _ h9 => h9) rfl (by decide +kernel) rfl rfl (Nat.le_of_ble_eq_true rfl) dX4_insert_95 (fun H locs hP hD hS => ?_)
        have hP : va_P D vwCl [(a0, .inr (4, [.int len, .int att, .int en, .int (nI (n + 1)), .ref ak, .ref ap, .ref al, .ref ar])), (ak, .inl (cI, 10, .inl (ftIns kf n i k))), (ap, .inl (cI, 10, .inl (ftIns pf n i x))), (al, .inl (cI, 10, .inl (ftIns lf n i lo))), (ar, .inl (cI, 10, .inl (ftIns rf n i re)))] H := hP
        have hD : va_D A [(a0, .inr (4, [.int len, .int att, .int en, .int (nI (n + 1)), .ref ak, .ref ap, .ref al, .ref ar])), (ak, .inl (cI, 10, .inl (ftIns kf n i k))), (ap, .inl (cI, 10, .inl (ftIns pf n i x))), (al, .inl (cI, 10, .inl (ftIns lf n i lo))), (ar, .inl (cI, 10, .inl (ftIns rf n i re)))] := hD
        refine lv_iload hx hb dX4_insert_98 (lv_at hl 5 rfl) ?_
        have hw9 : ([(a0, .inr (4, [.int len, .int att, .int en, .int (nI (n + 1)), .ref ak, .ref ap, .ref al, .ref ar])), (ak, .inl (cI, 10, .inl (ftIns kf n i k))), (ap, .inl (cI, 10, .inl (ftIns pf n i x))), (al, .inl (cI, 10, .inl (ftIns lf n i lo))), (ar, .inl (cI, 10, .inl (ftIns rf n i re)))] : va_W) = [(a0, .inr (4, [.int len, .int att, .int en, .int (nI (n + 1)), .ref ak, .ref ap, .ref al, .ref ar])), (ak, .inl (cI, 10, .inl (ftIns kf n (ftIdx pf x n) k))), (ap, .inl (cI, 10, .inl (ftIns pf n (ftIdx pf x n) x))), (al, .inl (cI, 10, .inl (ftIns lf n (ftIdx pf x n) lo))), (ar, .inl (cI, 10, .inl (ftIns rf n (ftIdx pf x n) re)))] := by rw [hix]
        rw [hw9] at hP hD
        exact W.iret (v := nI i) hx hb hr (fun t ht hW => ⟨⟨nI i, (), rfl, (by show (nI i : Int32) = nI (ftIdx pf x n); rw [hix]), by rw [ht]; exact hP, by rw [hAe]; exact hD⟩, by rw [hAe]; exact hS.F ht⟩) hS.2.2 dX4_insert_100
      · have c9n : i < n := ft_nleN (by omega) (by omega) c9
        refine lv_aload_n hx hb dX4_insert_12 rfl (lv_at hl 0 rfl) ?_
        refine va_get (D := D) (ci := 4) (v := .ref ap) (C := RX4) (T := TX4) (N := 8) hx hb hts (by decide +kernel) hown hK hP 0 rfl rfl 5 (by decide) (hts (.fieldLink RX4 15 "FiberTrace$Link" "places" "[I") (by decide +kernel)) (fun _ h9 => h9) rfl dX4_insert_13 ?_
        refine lv_iload hx hb dX4_insert_16 (lv_at hl 5 rfl) ?_
        refine ft_csi (r := ftAt 10 pf (nI i)) (va_runSN (As := [.ref ap, .int (nI i)]) (rest := []) ⟨hx, hb, hml, hown, hts⟩ (c_X10_at l D cI cS ap 10 pf (nI i) (by first | assumption | omega)) ⟨va_cnB 2 hts gX4_insert_X10_at_n50 rfl rfl rfl (hKK.2 _ (List.mem_of_getElem? (i := 11) rfl)) (hts (.initialized RX10) (by decide +kernel)) (by decide +kernel) ⟨Nat.le_of_ble_eq_true rfl, Nat.le_of_ble_eq_true rfl⟩, hts (.static yX10_at) (by decide +kernel), trivial⟩ (ft_preRO hP hKK [2] rfl) rfl rfl hl.1 rfl (lv_room (Nat.le_of_ble_eq_true rfl)) dX4_insert_18 ⟨Nat.le_of_ble_eq_true rfl, Nat.le_of_ble_eq_true rfl⟩) ?_
        refine ft_top (y := pf i) (ftAt_N (by omega) (by omega)) ?_
        refine lv_iload_n hx hb dX4_insert_21 rfl (lv_at hl 2 rfl) ?_
        refine lv_icmp_ge (tgt := 31) hx hb dX4_insert_22 (by decide) (fun c22 => ?_) (fun c22 => ?_)
        · have hix : ftIdx pf x n = i := ftIdx_of hin hall (fun _ => Int32.not_lt.mpr c22)
          refine lv_aload_n hx hb dX4_insert_31 rfl (lv_at hl 0 rfl) ?_
          refine va_get (D := D) (ci := 4) (v := .ref ak) (C := RX4) (T := TX4) (N := 8) hx hb hts (by decide +kernel) hown hK hP 0 rfl rfl 4 (by decide) (hts (.fieldLink RX4 9 "FiberTrace$Link" "kinds" "[I") (by decide +kernel)) (fun _ h9 => h9) rfl dX4_insert_32 ?_
          refine lv_aload_n hx hb dX4_insert_35 rfl (lv_at hl 0 rfl) ?_
          refine va_get (D := D) (ci := 4) (v := .int (nI n)) (C := RX4) (T := TX4) (N := 8) hx hb hts (by decide +kernel) hown hK hP 0 rfl rfl 3 (by decide) (hts (.fieldLink RX4 37 "FiberTrace$Link" "size" "I") (by decide +kernel)) (fun _ h9 => h9) rfl dX4_insert_36 ?_
          refine lv_iload hx hb dX4_insert_39 (lv_at hl 5 rfl) ?_
          refine lv_iload_n hx hb dX4_insert_41 rfl (lv_at hl 1 rfl) ?_
          refine ft_cv (wc := [(ak, .inl (cI, 10, .inl kf))]) (wr := [(a0, .inr (4, [.int len, .int att, .int en, .int (nI n), .ref ak, .ref ap, .ref al, .ref ar])), (ap, .inl (cI, 10, .inl pf)), (al, .inl (cI, 10, .inl lf)), (ar, .inl (cI, 10, .inl rf))]) (w1 := [(ak, .inl (cI, 10, .inl (ftIns kf n i k)))]) (ws1 := [(a0, .inr (4, [.int len, .int att, .int en, .int (nI n), .ref ak, .ref ap, .ref al, .ref ar])), (ak, .inl (cI, 10, .inl (ftIns kf n i k))), (ap, .inl (cI, 10, .inl pf)), (al, .inl (cI, 10, .inl lf)), (ar, .inl (cI, 10, .inl rf))]) (va_runSN (As := [.ref ak, .int (nI n), .int (nI i), .int k]) (rest := []) ⟨hx, hb, hml, hown, hts⟩ (c_X10_insertInto l D cI cS H.size ak 10 kf n i k (by first | assumption | omega) (by first | assumption | omega) (by first | assumption | omega)) ⟨va_cnB 4 hts gX4_insert_X10_insertInto_n54 rfl rfl rfl (hKK.2 _ (List.mem_of_getElem? (i := 12) rfl)) (hts (.initialized RX10) (by decide +kernel)) (by decide +kernel) ⟨Nat.le_of_ble_eq_true rfl, Nat.le_of_ble_eq_true rfl⟩, hts (.static yX10_insertInto) (by decide +kernel), trivial⟩ (ft_preRW hP hD hKK [1] rfl rfl rfl) rfl rfl hl.1 rfl (lv_room (Nat.le_of_ble_eq_true rfl)) dX4_insert_42 ⟨Nat.le_of_ble_eq_true rfl, Nat.le_of_ble_eq_true rfl⟩) hP hD hS hA [1] [0, 2, 3, 4] [0, 4, 1, 2, 3] rfl rfl (by decide) (by decide) (by decide) rfl rfl (fun H locs hP hD hS => ?_)
          have hP : va_P D vwCl [(a0, .inr (4, [.int len, .int att, .int en, .int (nI n), .ref ak, .ref ap, .ref al, .ref ar])), (ak, .inl (cI, 10, .inl (ftIns kf n i k))), (ap, .inl (cI, 10, .inl pf)), (al, .inl (cI, 10, .inl lf)), (ar, .inl (cI, 10, .inl rf))] H := hP
          have hD : va_D A [(a0, .inr (4, [.int len, .int att, .int en, .int (nI n), .ref ak, .ref ap, .ref al, .ref ar])), (ak, .inl (cI, 10, .inl (ftIns kf n i k))), (ap, .inl (cI, 10, .inl pf)), (al, .inl (cI, 10, .inl lf)), (ar, .inl (cI, 10, .inl rf))] := hD
          refine lv_aload_n hx hb dX4_insert_45 rfl (lv_at hl 0 rfl) ?_
          refine va_get (D := D) (ci := 4) (v := .ref ap) (C := RX4) (T := TX4) (N := 8) hx hb hts (by decide +kernel) hown hK hP 0 rfl rfl 5 (by decide) (hts (.fieldLink RX4 15 "FiberTrace$Link" "places" "[I") (by decide +kernel)) (fun _ h9 => h9) rfl dX4_insert_46 ?_
          refine lv_aload_n hx hb dX4_insert_49 rfl (lv_at hl 0 rfl) ?_
          refine va_get (D := D) (ci := 4) (v := .int (nI n)) (C := RX4) (T := TX4) (N := 8) hx hb hts (by decide +kernel) hown hK hP 0 rfl rfl 3 (by decide) (hts (.fieldLink RX4 37 "FiberTrace$Link" "size" "I") (by decide +kernel)) (fun _ h9 => h9) rfl dX4_insert_50 ?_
          refine lv_iload hx hb dX4_insert_53 (lv_at hl 5 rfl) ?_
          refine lv_iload_n hx hb dX4_insert_55 rfl (lv_at hl 2 rfl) ?_
          refine ft_cv (wc := [(ap, .inl (cI, 10, .inl pf))]) (wr := [(a0, .inr (4, [.int len, .int att, .int en, .int (nI n), .ref ak, .ref ap, .ref al, .ref ar])), (ak, .inl (cI, 10, .inl (ftIns kf n i k))), (al, .inl (cI, 10, .inl lf)), (ar, .inl (cI, 10, .inl rf))]) (w1 := [(ap, .inl (cI, 10, .inl (ftIns pf n i x)))]) (ws1 := [(a0, .inr (4, [.int len, .int att, .int en, .int (nI n), .ref ak, .ref ap, .ref al, .ref ar])), (ak, .inl (cI, 10, .inl (ftIns kf n i k))), (ap, .inl (cI, 10, .inl (ftIns pf n i x))), (al, .inl (cI, 10, .inl lf)), (ar, .inl (cI, 10, .inl rf))]) (va_runSN (As := [.ref ap, .int (nI n), .int (nI i), .int x]) (rest := []) ⟨hx, hb, hml, hown, hts⟩ (c_X10_insertInto l D cI cS H.size ap 10 pf n i x (by first | assumption | omega) (by first | assumption | omega) (by first | assumption | omega)) ⟨va_cnB 4 hts gX4_insert_X10_insertInto_n54 rfl rfl rfl (hKK.2 _ (List.mem_of_getElem? (i := 12) rfl)) (hts (.initialized RX10) (by decide +kernel)) (by decide +kernel) ⟨Nat.le_of_ble_eq_true rfl, Nat.le_of_ble_eq_true rfl⟩, hts (.static yX10_insertInto) (by decide +kernel), trivial⟩ (ft_preRW hP hD hKK [2] rfl rfl rfl) rfl rfl hl.1 rfl (lv_room (Nat.le_of_ble_eq_true rfl)) dX4_insert_56 ⟨Nat.le_of_ble_eq_true rfl, Nat.le_of_ble_eq_true rfl⟩) hP hD hS hA [2] [0, 1, 3, 4] [0, 1, 4, 2, 3] rfl rfl (by decide) (by decide) (by decide) rfl rfl (fun H locs hP hD hS => ?_)
          have hP : va_P D vwCl [(a0, .inr (4, [.int len, .int att, .int en, .int (nI n), .ref ak, .ref ap, .ref al, .ref ar])), (ak, .inl (cI, 10, .inl (ftIns kf n i k))), (ap, .inl (cI, 10, .inl (ftIns pf n i x))), (al, .inl (cI, 10, .inl lf)), (ar, .inl (cI, 10, .inl rf))] H := hP
          have hD : va_D A [(a0, .inr (4, [.int len, .int att, .int en, .int (nI n), .ref ak, .ref ap, .ref al, .ref ar])), (ak, .inl (cI, 10, .inl (ftIns kf n i k))), (ap, .inl (cI, 10, .inl (ftIns pf n i x))), (al, .inl (cI, 10, .inl lf)), (ar, .inl (cI, 10, .inl rf))] := hD
          refine lv_aload_n hx hb dX4_insert_59 rfl (lv_at hl 0 rfl) ?_
          refine va_get (D := D) (ci := 4) (v := .ref al) (C := RX4) (T := TX4) (N := 8) hx hb hts (by decide +kernel) hown hK hP 0 rfl rfl 6 (by decide) (hts (.fieldLink RX4 18 "FiberTrace$Link" "losses" "[I") (by decide +kernel)) (fun _ h9 => h9) rfl dX4_insert_60 ?_
          refine lv_aload_n hx hb dX4_insert_63 rfl (lv_at hl 0 rfl) ?_
          refine va_get (D := D) (ci := 4) (v := .int (nI n)) (C := RX4) (T := TX4) (N := 8) hx hb hts (by decide +kernel) hown hK hP 0 rfl rfl 3 (by decide) (hts (.fieldLink RX4 37 "FiberTrace$Link" "size" "I") (by decide +kernel)) (fun _ h9 => h9) rfl dX4_insert_64 ?_
          refine lv_iload hx hb dX4_insert_67 (lv_at hl 5 rfl) ?_
          refine lv_iload_n hx hb dX4_insert_69 rfl (lv_at hl 3 rfl) ?_
          refine ft_cv (wc := [(al, .inl (cI, 10, .inl lf))]) (wr := [(a0, .inr (4, [.int len, .int att, .int en, .int (nI n), .ref ak, .ref ap, .ref al, .ref ar])), (ak, .inl (cI, 10, .inl (ftIns kf n i k))), (ap, .inl (cI, 10, .inl (ftIns pf n i x))), (ar, .inl (cI, 10, .inl rf))]) (w1 := [(al, .inl (cI, 10, .inl (ftIns lf n i lo)))]) (ws1 := [(a0, .inr (4, [.int len, .int att, .int en, .int (nI n), .ref ak, .ref ap, .ref al, .ref ar])), (ak, .inl (cI, 10, .inl (ftIns kf n i k))), (ap, .inl (cI, 10, .inl (ftIns pf n i x))), (al, .inl (cI, 10, .inl (ftIns lf n i lo))), (ar, .inl (cI, 10, .inl rf))]) (va_runSN (As := [.ref al, .int (nI n), .int (nI i), .int lo]) (rest := []) ⟨hx, hb, hml, hown, hts⟩ (c_X10_insertInto l D cI cS H.size al 10 lf n i lo (by first | assumption | omega) (by first | assumption | omega) (by first | assumption | omega)) ⟨va_cnB 4 hts gX4_insert_X10_insertInto_n54 rfl rfl rfl (hKK.2 _ (List.mem_of_getElem? (i := 12) rfl)) (hts (.initialized RX10) (by decide +kernel)) (by decide +kernel) ⟨Nat.le_of_ble_eq_true rfl, Nat.le_of_ble_eq_true rfl⟩, hts (.static yX10_insertInto) (by decide +kernel), trivial⟩ (ft_preRW hP hD hKK [3] rfl rfl rfl) rfl rfl hl.1 rfl (lv_room (Nat.le_of_ble_eq_true rfl)) dX4_insert_70 ⟨Nat.le_of_ble_eq_true rfl, Nat.le_of_ble_eq_true rfl⟩) hP hD hS hA [3] [0, 1, 2, 4] [0, 1, 2, 4, 3] rfl rfl (by decide) (by decide) (by decide) rfl rfl (fun H locs hP hD hS => ?_)
          have hP : va_P D vwCl [(a0, .inr (4, [.int len, .int att, .int en, .int (nI n), .ref ak, .ref ap, .ref al, .ref ar])), (ak, .inl (cI, 10, .inl (ftIns kf n i k))), (ap, .inl (cI, 10, .inl (ftIns pf n i x))), (al, .inl (cI, 10, .inl (ftIns lf n i lo))), (ar, .inl (cI, 10, .inl rf))] H := hP
          have hD : va_D A [(a0, .inr (4, [.int len, .int att, .int en, .int (nI n), .ref ak, .ref ap, .ref al, .ref ar])), (ak, .inl (cI, 10, .inl (ftIns kf n i k))), (ap, .inl (cI, 10, .inl (ftIns pf n i x))), (al, .inl (cI, 10, .inl (ftIns lf n i lo))), (ar, .inl (cI, 10, .inl rf))] := hD
          refine lv_aload_n hx hb dX4_insert_73 rfl (lv_at hl 0 rfl) ?_
          refine va_get (D := D) (ci := 4) (v := .ref ar) (C := RX4) (T := TX4) (N := 8) hx hb hts (by decide +kernel) hown hK hP 0 rfl rfl 7 (by decide) (hts (.fieldLink RX4 21 "FiberTrace$Link" "reflections" "[I") (by decide +kernel)) (fun _ h9 => h9) rfl dX4_insert_74 ?_
          refine lv_aload_n hx hb dX4_insert_77 rfl (lv_at hl 0 rfl) ?_
          refine va_get (D := D) (ci := 4) (v := .int (nI n)) (C := RX4) (T := TX4) (N := 8) hx hb hts (by decide +kernel) hown hK hP 0 rfl rfl 3 (by decide) (hts (.fieldLink RX4 37 "FiberTrace$Link" "size" "I") (by decide +kernel)) (fun _ h9 => h9) rfl dX4_insert_78 ?_
          refine lv_iload hx hb dX4_insert_81 (lv_at hl 5 rfl) ?_
          refine lv_iload hx hb dX4_insert_83 (lv_at hl 4 rfl) ?_
          refine ft_cv (wc := [(ar, .inl (cI, 10, .inl rf))]) (wr := [(a0, .inr (4, [.int len, .int att, .int en, .int (nI n), .ref ak, .ref ap, .ref al, .ref ar])), (ak, .inl (cI, 10, .inl (ftIns kf n i k))), (ap, .inl (cI, 10, .inl (ftIns pf n i x))), (al, .inl (cI, 10, .inl (ftIns lf n i lo)))]) (w1 := [(ar, .inl (cI, 10, .inl (ftIns rf n i re)))]) (ws1 := [(a0, .inr (4, [.int len, .int att, .int en, .int (nI n), .ref ak, .ref ap, .ref al, .ref ar])), (ak, .inl (cI, 10, .inl (ftIns kf n i k))), (ap, .inl (cI, 10, .inl (ftIns pf n i x))), (al, .inl (cI, 10, .inl (ftIns lf n i lo))), (ar, .inl (cI, 10, .inl (ftIns rf n i re)))]) (va_runSN (As := [.ref ar, .int (nI n), .int (nI i), .int re]) (rest := []) ⟨hx, hb, hml, hown, hts⟩ (c_X10_insertInto l D cI cS H.size ar 10 rf n i re (by first | assumption | omega) (by first | assumption | omega) (by first | assumption | omega)) ⟨va_cnB 4 hts gX4_insert_X10_insertInto_n54 rfl rfl rfl (hKK.2 _ (List.mem_of_getElem? (i := 12) rfl)) (hts (.initialized RX10) (by decide +kernel)) (by decide +kernel) ⟨Nat.le_of_ble_eq_true rfl, Nat.le_of_ble_eq_true rfl⟩, hts (.static yX10_insertInto) (by decide +kernel), trivial⟩ (ft_preRW hP hD hKK [4] rfl rfl rfl) rfl rfl hl.1 rfl (lv_room (Nat.le_of_ble_eq_true rfl)) dX4_insert_85 ⟨Nat.le_of_ble_eq_true rfl, Nat.le_of_ble_eq_true rfl⟩) hP hD hS hA [4] [0, 1, 2, 3] [0, 1, 2, 3, 4] rfl rfl (by decide) (by decide) (by decide) rfl rfl (fun H locs hP hD hS => ?_)
          have hP : va_P D vwCl [(a0, .inr (4, [.int len, .int att, .int en, .int (nI n), .ref ak, .ref ap, .ref al, .ref ar])), (ak, .inl (cI, 10, .inl (ftIns kf n i k))), (ap, .inl (cI, 10, .inl (ftIns pf n i x))), (al, .inl (cI, 10, .inl (ftIns lf n i lo))), (ar, .inl (cI, 10, .inl (ftIns rf n i re)))] H := hP
          have hD : va_D A [(a0, .inr (4, [.int len, .int att, .int en, .int (nI n), .ref ak, .ref ap, .ref al, .ref ar])), (ak, .inl (cI, 10, .inl (ftIns kf n i k))), (ap, .inl (cI, 10, .inl (ftIns pf n i x))), (al, .inl (cI, 10, .inl (ftIns lf n i lo))), (ar, .inl (cI, 10, .inl (ftIns rf n i re)))] := hD
          refine lv_aload_n hx hb dX4_insert_88 rfl (lv_at hl 0 rfl) ?_
          refine lv_dup hx hb dX4_insert_89 rfl ?_
          refine va_get (D := D) (ci := 4) (v := .int (nI n)) (C := RX4) (T := TX4) (N := 8) hx hb hts (by decide +kernel) hown hK hP 0 rfl rfl 3 (by decide) (hts (.fieldLink RX4 37 "FiberTrace$Link" "size" "I") (by decide +kernel)) (fun _ h9 => h9) rfl dX4_insert_90 ?_
          refine lv_iconst (v := 1) hx hb dX4_insert_93 (by decide) ?_
          refine lv_iadd hx hb dX4_insert_94 ?_
          refine ft_top (y := nI (n + 1)) (ft_addN n 1) ?_
          refine va_put (D := D) (ci := 4) (v := .int (nI (n + 1))) (ty := .int) (C := RX4) (T := TX4) (N := 8) hx hb hts (by decide +kernel) tyX4 tyX4_ok nmX4 hown hK hP hD hS 0 rfl rfl 3 (by decide) (hts (.fieldLink RX4 37 "FiberTrace$Link" "size" "I") (by decide +kernel)) (fun _ h9 => h9) rfl (by decide +kernel) rfl rfl (Nat.le_of_ble_eq_true rfl) dX4_insert_95 (fun H locs hP hD hS => ?_)
          have hP : va_P D vwCl [(a0, .inr (4, [.int len, .int att, .int en, .int (nI (n + 1)), .ref ak, .ref ap, .ref al, .ref ar])), (ak, .inl (cI, 10, .inl (ftIns kf n i k))), (ap, .inl (cI, 10, .inl (ftIns pf n i x))), (al, .inl (cI, 10, .inl (ftIns lf n i lo))), (ar, .inl (cI, 10, .inl (ftIns rf n i re)))] H := hP
          have hD : va_D A [(a0, .inr (4, [.int len, .int att, .int en, .int (nI (n + 1)), .ref ak, .ref ap, .ref al, .ref ar])), (ak, .inl (cI, 10, .inl (ftIns kf n i k))), (ap, .inl (cI, 10, .inl (ftIns pf n i x))), (al, .inl (cI, 10, .inl (ftIns lf n i lo))), (ar, .inl (cI, 10, .inl (ftIns rf n i re)))] := hD
          refine lv_iload hx hb dX4_insert_98 (lv_at hl 5 rfl) ?_
          have hw9 : ([(a0, .inr (4, [.int len, .int att, .int en, .int (nI (n + 1)), .ref ak, .ref ap, .ref al, .ref ar])), (ak, .inl (cI, 10, .inl (ftIns kf n i k))), (ap, .inl (cI, 10, .inl (ftIns pf n i x))), (al, .inl (cI, 10, .inl (ftIns lf n i lo))), (ar, .inl (cI, 10, .inl (ftIns rf n i re)))] : va_W) = [(a0, .inr (4, [.int len, .int att, .int en, .int (nI (n + 1)), .ref ak, .ref ap, .ref al, .ref ar])), (ak, .inl (cI, 10, .inl (ftIns kf n (ftIdx pf x n) k))), (ap, .inl (cI, 10, .inl (ftIns pf n (ftIdx pf x n) x))), (al, .inl (cI, 10, .inl (ftIns lf n (ftIdx pf x n) lo))), (ar, .inl (cI, 10, .inl (ftIns rf n (ftIdx pf x n) re)))] := by rw [hix]
          rw [hw9] at hP hD
          exact W.iret (v := nI i) hx hb hr (fun t ht hW => ⟨⟨nI i, (), rfl, (by show (nI i : Int32) = nI (ftIdx pf x n); rw [hix]), by rw [ht]; exact hP, by rw [hAe]; exact hD⟩, by rw [hAe]; exact hS.F ht⟩) hS.2.2 dX4_insert_100
        · refine lv_iinc (v := nI (i + 1)) (lv' := [(5, .int (nI (i + 1))), (0, .ref a0), (1, .int k), (2, .int x), (3, .int lo), (4, .int re)]) hx hb dX4_insert_25 hl (k := 5) rfl (ft_inc i) (by decide) rfl (fun ls hl => ?_)
          refine lv_goto (tgt := 3) hx hb dX4_insert_28 (by decide) ?_
          exact ih3 (i + 1) (nI (i + 1))  (by omega) (by omega) (by intro t ht; rcases Nat.lt_succ_iff_lt_or_eq.mp ht with r | r; exact hall t r; subst r; exact Int32.not_le.mp c22) (by first | rfl | assumption)  _ _ hP hD hS ls (lv_sub hl [1, 2, 3, 4, 5, 0] rfl)
  exact lp3 _ 0 0  (Nat.lt_succ_self _) (by omega) (by intro t ht; omega) (by rfl) _ _ hP hD hS ls (lv_sub hl [1, 2, 3, 4, 5, 0] rfl)
set_option maxHeartbeats 4000000 in
set_option maxRecDepth 100000 in
theorem c_X4_drop (l : Launch) (D : va_G) (cI cS : ClassId) (sz : Nat) (a0 : Nat) (len att en : Int32) (n ak ap al ar : Nat) (kf pf lf rf : Nat → Int32) (k : Nat) (hn : n ≤ 10) (hk : k < n) : Met l yX4_drop wsX4_drop ({ frames := 2, cells := 0, slots := 0, locals := 45 }) (ftRW D cI cS [.ref a0, .int (nI k)] [(a0, .inr (4, [.int len, .int att, .int en, .int (nI n), .ref ak, .ref ap, .ref al, .ref ar])), (ak, .inl (cI, 10, .inl kf)), (ap, .inl (cI, 10, .inl pf)), (al, .inl (cI, 10, .inl lf)), (ar, .inl (cI, 10, .inl rf))] sz) (ftQi D (nI (n - 1)) [(a0, .inr (4, [.int len, .int att, .int en, .int (nI n), .ref ak, .ref ap, .ref al, .ref ar])), (ak, .inl (cI, 10, .inl kf)), (ap, .inl (cI, 10, .inl pf)), (al, .inl (cI, 10, .inl lf)), (ar, .inl (cI, 10, .inl rf))] [(a0, .inr (4, [.int len, .int att, .int en, .int (nI (n - 1)), .ref ak, .ref ap, .ref al, .ref ar])), (ak, .inl (cI, 10, .inl (ftRem kf n k))), (ap, .inl (cI, 10, .inl (ftRem pf n k))), (al, .inl (cI, 10, .inl (ftRem lf n k))), (ar, .inl (cI, 10, .inl (ftRem rf n k)))] sz) 0 0 (va_A [(a0, .inr (4, [.int len, .int att, .int en, .int (nI n), .ref ak, .ref ap, .ref al, .ref ar])), (ak, .inl (cI, 10, .inl kf)), (ap, .inl (cI, 10, .inl pf)), (al, .inl (cI, 10, .inl lf)), (ar, .inl (cI, 10, .inl rf))] sz) := by
  refine Met.ofW (cc := cX4_drop) (maxL := 2) (ret := (some .int)) (by decide) rfl ?_
  intro p e s m args below meth c s₁ B hml hv
  obtain ⟨rfl, hsz, hP, hKK, hD0⟩ := hv
  have hK := hKK.1
  have hx := B.exec
  have hb := B.bytes
  have hr := B.returns
  have hts := atoms_spec (ws := wsX4_drop) B.pre
  have hown : s.vm.findClass RX4 = some m.cls := findClass_of_methodNamed B.named
  have hlocks := B.notSynchronized
  subst hsz
  have hD := hD0.self (sz := s.heap.size)
  generalize hAe : va_A [(a0, .inr (4, [.int len, .int att, .int en, .int (nI n), .ref ak, .ref ap, .ref al, .ref ar])), (ak, .inl (cI, 10, .inl kf)), (ap, .inl (cI, 10, .inl pf)), (al, .inl (cI, 10, .inl lf)), (ar, .inl (cI, 10, .inl rf))] s.heap.size = A at hD ⊢
  have hA : ∀ q : Nat, s.heap.size ≤ q → A q := fun q h => by rw [← hAe]; exact Or.inr h
  have hS : va_S A s.heap s.heap [] := va_S.rf
  have hD : va_D A [(a0, .inr (4, [.int len, .int att, .int en, .int (nI n), .ref ak, .ref ap, .ref al, .ref ar])), (ak, .inl (cI, 10, .inl kf)), (ap, .inl (cI, 10, .inl pf)), (al, .inl (cI, 10, .inl lf)), (ar, .inl (cI, 10, .inl rf))] := hD
  have hP : va_P D vwCl [(a0, .inr (4, [.int len, .int att, .int en, .int (nI n), .ref ak, .ref ap, .ref al, .ref ar])), (ak, .inl (cI, 10, .inl kf)), (ap, .inl (cI, 10, .inl pf)), (al, .inl (cI, 10, .inl lf)), (ar, .inl (cI, 10, .inl rf))] s.heap := hP
  have hl := lv_entry ([.ref a0, .int (nI k)]) (n := 2) (Nat.le_of_ble_eq_true rfl)
  rw [lg_entry_eq]
  generalize (lg_sl ([.ref a0, .int (nI k)]) ++ List.replicate (2 - (lg_sl ([.ref a0, .int (nI k)])).length) Slot.unset).toArray = ls at hl ⊢
  have hl : lv_has ls 2 [(0, .ref a0), (1, .int (nI k))] := hl
  refine lv_aload_n hx hb dX4_drop_0 rfl (lv_at hl 0 rfl) ?_
  refine va_get (D := D) (ci := 4) (v := .ref ak) (C := RX4) (T := TX4) (N := 8) hx hb hts (by decide +kernel) hown hK hP 0 rfl rfl 4 (by decide) (hts (.fieldLink RX4 9 "FiberTrace$Link" "kinds" "[I") (by decide +kernel)) (fun _ h9 => h9) rfl dX4_drop_1 ?_
  refine lv_aload_n hx hb dX4_drop_4 rfl (lv_at hl 0 rfl) ?_
  refine va_get (D := D) (ci := 4) (v := .int (nI n)) (C := RX4) (T := TX4) (N := 8) hx hb hts (by decide +kernel) hown hK hP 0 rfl rfl 3 (by decide) (hts (.fieldLink RX4 37 "FiberTrace$Link" "size" "I") (by decide +kernel)) (fun _ h9 => h9) rfl dX4_drop_5 ?_
  refine lv_iload_n hx hb dX4_drop_8 rfl (lv_at hl 1 rfl) ?_
  refine ft_cv (wc := [(ak, .inl (cI, 10, .inl kf))]) (wr := [(a0, .inr (4, [.int len, .int att, .int en, .int (nI n), .ref ak, .ref ap, .ref al, .ref ar])), (ap, .inl (cI, 10, .inl pf)), (al, .inl (cI, 10, .inl lf)), (ar, .inl (cI, 10, .inl rf))]) (w1 := [(ak, .inl (cI, 10, .inl (ftRem kf n k)))]) (ws1 := [(a0, .inr (4, [.int len, .int att, .int en, .int (nI n), .ref ak, .ref ap, .ref al, .ref ar])), (ak, .inl (cI, 10, .inl (ftRem kf n k))), (ap, .inl (cI, 10, .inl pf)), (al, .inl (cI, 10, .inl lf)), (ar, .inl (cI, 10, .inl rf))]) (va_runSN (As := [.ref ak, .int (nI n), .int (nI k)]) (rest := []) ⟨hx, hb, hml, hown, hts⟩ (c_X10_removeFrom l D cI cS s.heap.size ak 10 kf n k (by first | assumption | omega) (by first | assumption | omega) (by first | assumption | omega)) ⟨va_cnB 3 hts gX4_drop_X10_removeFrom_n58 rfl rfl rfl (hKK.2 _ (List.mem_of_getElem? (i := 27) rfl)) (hts (.initialized RX10) (by decide +kernel)) (by decide +kernel) ⟨Nat.le_of_ble_eq_true rfl, Nat.le_of_ble_eq_true rfl⟩, hts (.static yX10_removeFrom) (by decide +kernel), trivial⟩ (ft_preRW hP hD hKK [1] rfl rfl rfl) rfl rfl hl.1 rfl (lv_room (Nat.le_of_ble_eq_true rfl)) dX4_drop_9 ⟨Nat.le_of_ble_eq_true rfl, Nat.le_of_ble_eq_true rfl⟩) hP hD hS hA [1] [0, 2, 3, 4] [0, 4, 1, 2, 3] rfl rfl (by decide) (by decide) (by decide) rfl rfl (fun H locs hP hD hS => ?_)
  have hP : va_P D vwCl [(a0, .inr (4, [.int len, .int att, .int en, .int (nI n), .ref ak, .ref ap, .ref al, .ref ar])), (ak, .inl (cI, 10, .inl (ftRem kf n k))), (ap, .inl (cI, 10, .inl pf)), (al, .inl (cI, 10, .inl lf)), (ar, .inl (cI, 10, .inl rf))] H := hP
  have hD : va_D A [(a0, .inr (4, [.int len, .int att, .int en, .int (nI n), .ref ak, .ref ap, .ref al, .ref ar])), (ak, .inl (cI, 10, .inl (ftRem kf n k))), (ap, .inl (cI, 10, .inl pf)), (al, .inl (cI, 10, .inl lf)), (ar, .inl (cI, 10, .inl rf))] := hD
  refine lv_aload_n hx hb dX4_drop_12 rfl (lv_at hl 0 rfl) ?_
  refine va_get (D := D) (ci := 4) (v := .ref ap) (C := RX4) (T := TX4) (N := 8) hx hb hts (by decide +kernel) hown hK hP 0 rfl rfl 5 (by decide) (hts (.fieldLink RX4 15 "FiberTrace$Link" "places" "[I") (by decide +kernel)) (fun _ h9 => h9) rfl dX4_drop_13 ?_
  refine lv_aload_n hx hb dX4_drop_16 rfl (lv_at hl 0 rfl) ?_
  refine va_get (D := D) (ci := 4) (v := .int (nI n)) (C := RX4) (T := TX4) (N := 8) hx hb hts (by decide +kernel) hown hK hP 0 rfl rfl 3 (by decide) (hts (.fieldLink RX4 37 "FiberTrace$Link" "size" "I") (by decide +kernel)) (fun _ h9 => h9) rfl dX4_drop_17 ?_
  refine lv_iload_n hx hb dX4_drop_20 rfl (lv_at hl 1 rfl) ?_
  refine ft_cv (wc := [(ap, .inl (cI, 10, .inl pf))]) (wr := [(a0, .inr (4, [.int len, .int att, .int en, .int (nI n), .ref ak, .ref ap, .ref al, .ref ar])), (ak, .inl (cI, 10, .inl (ftRem kf n k))), (al, .inl (cI, 10, .inl lf)), (ar, .inl (cI, 10, .inl rf))]) (w1 := [(ap, .inl (cI, 10, .inl (ftRem pf n k)))]) (ws1 := [(a0, .inr (4, [.int len, .int att, .int en, .int (nI n), .ref ak, .ref ap, .ref al, .ref ar])), (ak, .inl (cI, 10, .inl (ftRem kf n k))), (ap, .inl (cI, 10, .inl (ftRem pf n k))), (al, .inl (cI, 10, .inl lf)), (ar, .inl (cI, 10, .inl rf))]) (va_runSN (As := [.ref ap, .int (nI n), .int (nI k)]) (rest := []) ⟨hx, hb, hml, hown, hts⟩ (c_X10_removeFrom l D cI cS H.size ap 10 pf n k (by first | assumption | omega) (by first | assumption | omega) (by first | assumption | omega)) ⟨va_cnB 3 hts gX4_drop_X10_removeFrom_n58 rfl rfl rfl (hKK.2 _ (List.mem_of_getElem? (i := 27) rfl)) (hts (.initialized RX10) (by decide +kernel)) (by decide +kernel) ⟨Nat.le_of_ble_eq_true rfl, Nat.le_of_ble_eq_true rfl⟩, hts (.static yX10_removeFrom) (by decide +kernel), trivial⟩ (ft_preRW hP hD hKK [2] rfl rfl rfl) rfl rfl hl.1 rfl (lv_room (Nat.le_of_ble_eq_true rfl)) dX4_drop_21 ⟨Nat.le_of_ble_eq_true rfl, Nat.le_of_ble_eq_true rfl⟩) hP hD hS hA [2] [0, 1, 3, 4] [0, 1, 4, 2, 3] rfl rfl (by decide) (by decide) (by decide) rfl rfl (fun H locs hP hD hS => ?_)
  have hP : va_P D vwCl [(a0, .inr (4, [.int len, .int att, .int en, .int (nI n), .ref ak, .ref ap, .ref al, .ref ar])), (ak, .inl (cI, 10, .inl (ftRem kf n k))), (ap, .inl (cI, 10, .inl (ftRem pf n k))), (al, .inl (cI, 10, .inl lf)), (ar, .inl (cI, 10, .inl rf))] H := hP
  have hD : va_D A [(a0, .inr (4, [.int len, .int att, .int en, .int (nI n), .ref ak, .ref ap, .ref al, .ref ar])), (ak, .inl (cI, 10, .inl (ftRem kf n k))), (ap, .inl (cI, 10, .inl (ftRem pf n k))), (al, .inl (cI, 10, .inl lf)), (ar, .inl (cI, 10, .inl rf))] := hD
  refine lv_aload_n hx hb dX4_drop_24 rfl (lv_at hl 0 rfl) ?_
  refine va_get (D := D) (ci := 4) (v := .ref al) (C := RX4) (T := TX4) (N := 8) hx hb hts (by decide +kernel) hown hK hP 0 rfl rfl 6 (by decide) (hts (.fieldLink RX4 18 "FiberTrace$Link" "losses" "[I") (by decide +kernel)) (fun _ h9 => h9) rfl dX4_drop_25 ?_
  refine lv_aload_n hx hb dX4_drop_28 rfl (lv_at hl 0 rfl) ?_
  refine va_get (D := D) (ci := 4) (v := .int (nI n)) (C := RX4) (T := TX4) (N := 8) hx hb hts (by decide +kernel) hown hK hP 0 rfl rfl 3 (by decide) (hts (.fieldLink RX4 37 "FiberTrace$Link" "size" "I") (by decide +kernel)) (fun _ h9 => h9) rfl dX4_drop_29 ?_
  refine lv_iload_n hx hb dX4_drop_32 rfl (lv_at hl 1 rfl) ?_
  refine ft_cv (wc := [(al, .inl (cI, 10, .inl lf))]) (wr := [(a0, .inr (4, [.int len, .int att, .int en, .int (nI n), .ref ak, .ref ap, .ref al, .ref ar])), (ak, .inl (cI, 10, .inl (ftRem kf n k))), (ap, .inl (cI, 10, .inl (ftRem pf n k))), (ar, .inl (cI, 10, .inl rf))]) (w1 := [(al, .inl (cI, 10, .inl (ftRem lf n k)))]) (ws1 := [(a0, .inr (4, [.int len, .int att, .int en, .int (nI n), .ref ak, .ref ap, .ref al, .ref ar])), (ak, .inl (cI, 10, .inl (ftRem kf n k))), (ap, .inl (cI, 10, .inl (ftRem pf n k))), (al, .inl (cI, 10, .inl (ftRem lf n k))), (ar, .inl (cI, 10, .inl rf))]) (va_runSN (As := [.ref al, .int (nI n), .int (nI k)]) (rest := []) ⟨hx, hb, hml, hown, hts⟩ (c_X10_removeFrom l D cI cS H.size al 10 lf n k (by first | assumption | omega) (by first | assumption | omega) (by first | assumption | omega)) ⟨va_cnB 3 hts gX4_drop_X10_removeFrom_n58 rfl rfl rfl (hKK.2 _ (List.mem_of_getElem? (i := 27) rfl)) (hts (.initialized RX10) (by decide +kernel)) (by decide +kernel) ⟨Nat.le_of_ble_eq_true rfl, Nat.le_of_ble_eq_true rfl⟩, hts (.static yX10_removeFrom) (by decide +kernel), trivial⟩ (ft_preRW hP hD hKK [3] rfl rfl rfl) rfl rfl hl.1 rfl (lv_room (Nat.le_of_ble_eq_true rfl)) dX4_drop_33 ⟨Nat.le_of_ble_eq_true rfl, Nat.le_of_ble_eq_true rfl⟩) hP hD hS hA [3] [0, 1, 2, 4] [0, 1, 2, 4, 3] rfl rfl (by decide) (by decide) (by decide) rfl rfl (fun H locs hP hD hS => ?_)
  have hP : va_P D vwCl [(a0, .inr (4, [.int len, .int att, .int en, .int (nI n), .ref ak, .ref ap, .ref al, .ref ar])), (ak, .inl (cI, 10, .inl (ftRem kf n k))), (ap, .inl (cI, 10, .inl (ftRem pf n k))), (al, .inl (cI, 10, .inl (ftRem lf n k))), (ar, .inl (cI, 10, .inl rf))] H := hP
  have hD : va_D A [(a0, .inr (4, [.int len, .int att, .int en, .int (nI n), .ref ak, .ref ap, .ref al, .ref ar])), (ak, .inl (cI, 10, .inl (ftRem kf n k))), (ap, .inl (cI, 10, .inl (ftRem pf n k))), (al, .inl (cI, 10, .inl (ftRem lf n k))), (ar, .inl (cI, 10, .inl rf))] := hD
  refine lv_aload_n hx hb dX4_drop_36 rfl (lv_at hl 0 rfl) ?_
  refine va_get (D := D) (ci := 4) (v := .ref ar) (C := RX4) (T := TX4) (N := 8) hx hb hts (by decide +kernel) hown hK hP 0 rfl rfl 7 (by decide) (hts (.fieldLink RX4 21 "FiberTrace$Link" "reflections" "[I") (by decide +kernel)) (fun _ h9 => h9) rfl dX4_drop_37 ?_
  refine lv_aload_n hx hb dX4_drop_40 rfl (lv_at hl 0 rfl) ?_
  refine va_get (D := D) (ci := 4) (v := .int (nI n)) (C := RX4) (T := TX4) (N := 8) hx hb hts (by decide +kernel) hown hK hP 0 rfl rfl 3 (by decide) (hts (.fieldLink RX4 37 "FiberTrace$Link" "size" "I") (by decide +kernel)) (fun _ h9 => h9) rfl dX4_drop_41 ?_
  refine lv_iload_n hx hb dX4_drop_44 rfl (lv_at hl 1 rfl) ?_
  refine ft_cv (wc := [(ar, .inl (cI, 10, .inl rf))]) (wr := [(a0, .inr (4, [.int len, .int att, .int en, .int (nI n), .ref ak, .ref ap, .ref al, .ref ar])), (ak, .inl (cI, 10, .inl (ftRem kf n k))), (ap, .inl (cI, 10, .inl (ftRem pf n k))), (al, .inl (cI, 10, .inl (ftRem lf n k)))]) (w1 := [(ar, .inl (cI, 10, .inl (ftRem rf n k)))]) (ws1 := [(a0, .inr (4, [.int len, .int att, .int en, .int (nI n), .ref ak, .ref ap, .ref al, .ref ar])), (ak, .inl (cI, 10, .inl (ftRem kf n k))), (ap, .inl (cI, 10, .inl (ftRem pf n k))), (al, .inl (cI, 10, .inl (ftRem lf n k))), (ar, .inl (cI, 10, .inl (ftRem rf n k)))]) (va_runSN (As := [.ref ar, .int (nI n), .int (nI k)]) (rest := []) ⟨hx, hb, hml, hown, hts⟩ (c_X10_removeFrom l D cI cS H.size ar 10 rf n k (by first | assumption | omega) (by first | assumption | omega) (by first | assumption | omega)) ⟨va_cnB 3 hts gX4_drop_X10_removeFrom_n58 rfl rfl rfl (hKK.2 _ (List.mem_of_getElem? (i := 27) rfl)) (hts (.initialized RX10) (by decide +kernel)) (by decide +kernel) ⟨Nat.le_of_ble_eq_true rfl, Nat.le_of_ble_eq_true rfl⟩, hts (.static yX10_removeFrom) (by decide +kernel), trivial⟩ (ft_preRW hP hD hKK [4] rfl rfl rfl) rfl rfl hl.1 rfl (lv_room (Nat.le_of_ble_eq_true rfl)) dX4_drop_45 ⟨Nat.le_of_ble_eq_true rfl, Nat.le_of_ble_eq_true rfl⟩) hP hD hS hA [4] [0, 1, 2, 3] [0, 1, 2, 3, 4] rfl rfl (by decide) (by decide) (by decide) rfl rfl (fun H locs hP hD hS => ?_)
  have hP : va_P D vwCl [(a0, .inr (4, [.int len, .int att, .int en, .int (nI n), .ref ak, .ref ap, .ref al, .ref ar])), (ak, .inl (cI, 10, .inl (ftRem kf n k))), (ap, .inl (cI, 10, .inl (ftRem pf n k))), (al, .inl (cI, 10, .inl (ftRem lf n k))), (ar, .inl (cI, 10, .inl (ftRem rf n k)))] H := hP
  have hD : va_D A [(a0, .inr (4, [.int len, .int att, .int en, .int (nI n), .ref ak, .ref ap, .ref al, .ref ar])), (ak, .inl (cI, 10, .inl (ftRem kf n k))), (ap, .inl (cI, 10, .inl (ftRem pf n k))), (al, .inl (cI, 10, .inl (ftRem lf n k))), (ar, .inl (cI, 10, .inl (ftRem rf n k)))] := hD
  refine lv_aload_n hx hb dX4_drop_48 rfl (lv_at hl 0 rfl) ?_
  refine lv_dup hx hb dX4_drop_49 rfl ?_
  refine va_get (D := D) (ci := 4) (v := .int (nI n)) (C := RX4) (T := TX4) (N := 8) hx hb hts (by decide +kernel) hown hK hP 0 rfl rfl 3 (by decide) (hts (.fieldLink RX4 37 "FiberTrace$Link" "size" "I") (by decide +kernel)) (fun _ h9 => h9) rfl dX4_drop_50 ?_
  refine lv_iconst (v := 1) hx hb dX4_drop_53 (by decide) ?_
  refine lv_isub hx hb dX4_drop_54 ?_
  refine ft_top (y := nI (n - 1)) (ft_subN (a := n) (b := 1) (by omega)) ?_
  refine va_put (D := D) (ci := 4) (v := .int (nI (n - 1))) (ty := .int) (C := RX4) (T := TX4) (N := 8) hx hb hts (by decide +kernel) tyX4 tyX4_ok nmX4 hown hK hP hD hS 0 rfl rfl 3 (by decide) (hts (.fieldLink RX4 37 "FiberTrace$Link" "size" "I") (by decide +kernel)) (fun _ h9 => h9) rfl (by decide +kernel) rfl rfl (Nat.le_of_ble_eq_true rfl) dX4_drop_55 (fun H locs hP hD hS => ?_)
  have hP : va_P D vwCl [(a0, .inr (4, [.int len, .int att, .int en, .int (nI (n - 1)), .ref ak, .ref ap, .ref al, .ref ar])), (ak, .inl (cI, 10, .inl (ftRem kf n k))), (ap, .inl (cI, 10, .inl (ftRem pf n k))), (al, .inl (cI, 10, .inl (ftRem lf n k))), (ar, .inl (cI, 10, .inl (ftRem rf n k)))] H := hP
  have hD : va_D A [(a0, .inr (4, [.int len, .int att, .int en, .int (nI (n - 1)), .ref ak, .ref ap, .ref al, .ref ar])), (ak, .inl (cI, 10, .inl (ftRem kf n k))), (ap, .inl (cI, 10, .inl (ftRem pf n k))), (al, .inl (cI, 10, .inl (ftRem lf n k))), (ar, .inl (cI, 10, .inl (ftRem rf n k)))] := hD
  refine lv_aload_n hx hb dX4_drop_58 rfl (lv_at hl 0 rfl) ?_
  refine va_get (D := D) (ci := 4) (v := .int (nI (n - 1))) (C := RX4) (T := TX4) (N := 8) hx hb hts (by decide +kernel) hown hK hP 0 rfl rfl 3 (by decide) (hts (.fieldLink RX4 37 "FiberTrace$Link" "size" "I") (by decide +kernel)) (fun _ h9 => h9) rfl dX4_drop_59 ?_
  have hw9 : ([(a0, .inr (4, [.int len, .int att, .int en, .int (nI (n - 1)), .ref ak, .ref ap, .ref al, .ref ar])), (ak, .inl (cI, 10, .inl (ftRem kf n k))), (ap, .inl (cI, 10, .inl (ftRem pf n k))), (al, .inl (cI, 10, .inl (ftRem lf n k))), (ar, .inl (cI, 10, .inl (ftRem rf n k)))] : va_W) = [(a0, .inr (4, [.int len, .int att, .int en, .int (nI (n - 1)), .ref ak, .ref ap, .ref al, .ref ar])), (ak, .inl (cI, 10, .inl (ftRem kf n k))), (ap, .inl (cI, 10, .inl (ftRem pf n k))), (al, .inl (cI, 10, .inl (ftRem lf n k))), (ar, .inl (cI, 10, .inl (ftRem rf n k)))] := rfl
  rw [hw9] at hP hD
  exact W.iret (v := nI (n - 1)) hx hb hr (fun t ht hW => ⟨⟨nI (n - 1), (), rfl, rfl, by rw [ht]; exact hP, by rw [hAe]; exact hD⟩, by rw [hAe]; exact hS.F ht⟩) hS.2.2 dX4_drop_62
set_option maxHeartbeats 4000000 in
set_option maxRecDepth 100000 in
theorem c_X4_attenuationUpTo (l : Launch) (D : va_G) (cI cS : ClassId) (a0 : Nat) (len att en : Int32) (n ak ap al ar : Nat) (kf pf lf : Nat → Int32) (P : Nat → Nat) (X : Nat) (hpp : ftPos pf n P) (hX : X ≤ 1000) : Met l yX4_attenuationUpTo wsX4_attenuationUpTo ({ frames := 1, cells := 0, slots := 0, locals := 21 }) (ftRO D cI cS [.ref a0, .int (nI X)] [(a0, .inr (4, [.int len, .int att, .int en, .int (nI n), .ref ak, .ref ap, .ref al, .ref ar])), (ak, .inl (cI, 10, .inl kf)), (ap, .inl (cI, 10, .inl pf)), (al, .inl (cI, 10, .inl lf))]) (vp_Si (fun o9 => o9 = ftFades kf pf lf att n X)) 0 0 (fun _ => False) := by
  refine Met.ofW (cc := cX4_attenuationUpTo) (maxL := 6) (ret := (some .int)) (by decide) rfl ?_
  intro p e s m args below meth c s₁ B hml hv
  obtain ⟨rfl, hP, hKK⟩ := hv
  have hK := hKK.1
  have hx := B.exec
  have hb := B.bytes
  have hr := B.returns
  have hts := atoms_spec (ws := wsX4_attenuationUpTo) B.pre
  have hown : s.vm.findClass RX4 = some m.cls := findClass_of_methodNamed B.named
  have hlocks := B.notSynchronized
  have hP : va_P D vwCl [(a0, .inr (4, [.int len, .int att, .int en, .int (nI n), .ref ak, .ref ap, .ref al, .ref ar])), (ak, .inl (cI, 10, .inl kf)), (ap, .inl (cI, 10, .inl pf)), (al, .inl (cI, 10, .inl lf))] s.heap := hP
  have hl := lv_entry ([.ref a0, .int (nI X)]) (n := 6) (Nat.le_of_ble_eq_true rfl)
  rw [lg_entry_eq]
  generalize (lg_sl ([.ref a0, .int (nI X)]) ++ List.replicate (6 - (lg_sl ([.ref a0, .int (nI X)])).length) Slot.unset).toArray = ls at hl ⊢
  have hl : lv_has ls 6 [(0, .ref a0), (1, .int (nI X))] := hl
  have hn := hpp.1
  refine lv_iconst (v := 0) hx hb dX4_attenuationUpTo_0 (by decide) ?_
  refine lv_istore_n (lv' := [(2, .int 0), (0, .ref a0), (1, .int (nI X))]) hx hb dX4_attenuationUpTo_1 rfl hl (by decide) rfl (fun ls hl => ?_)
  refine lv_aload_n hx hb dX4_attenuationUpTo_2 rfl (lv_at hl 1 rfl) ?_
  refine va_get (D := D) (ci := 4) (v := .int att) (C := RX4) (T := TX4) (N := 8) hx hb hts (by decide +kernel) hown hK hP 0 rfl rfl 1 (by decide) (hts (.fieldLink RX4 31 "FiberTrace$Link" "attenuation" "I") (by decide +kernel)) (fun _ h9 => h9) rfl dX4_attenuationUpTo_3 ?_
  refine lv_istore_n (lv' := [(3, .int att), (2, .int 0), (0, .ref a0), (1, .int (nI X))]) hx hb dX4_attenuationUpTo_6 rfl hl (by decide) rfl (fun ls hl => ?_)
  refine lv_iconst (v := 0) hx hb dX4_attenuationUpTo_7 (by decide) ?_
  refine lv_istore (lv' := [(4, .int 0), (3, .int att), (2, .int 0), (0, .ref a0), (1, .int (nI X))]) hx hb dX4_attenuationUpTo_8 hl (by decide) rfl (fun ls hl => ?_)
  refine lv_iconst (v := 0) hx hb dX4_attenuationUpTo_10 (by decide) ?_
  refine lv_istore (lv' := [(5, .int 0), (4, .int 0), (3, .int att), (2, .int 0), (0, .ref a0), (1, .int (nI X))]) hx hb dX4_attenuationUpTo_11 hl (by decide) rfl (fun ls hl => ?_)
  have lp13 : ∀ (n13 : Nat) (i F : Nat) (su ra : Int32) (x13_2 : Int32) (x13_3 : Int32) (x13_4 : Int32) (x13_5 : Int32), n - i < n13 → (i ≤ n) → (F ≤ X) → (∀ t, i ≤ t → t < n → F ≤ P t) → (∀ Y, F ≤ Y → Y ≤ 1000 → su + ra * (nI Y - nI F) = ftFades kf pf lf att i Y) → x13_2 = su → x13_3 = ra → x13_4 = nI F → x13_5 = nI i → ∀ ls : Array Slot, lv_has ls 6 [(0, .ref a0), (1, .int (nI X)), (2, .int x13_2), (3, .int x13_3), (4, .int x13_4), (5, .int x13_5)] → W p l e (headSpec wsX4_attenuationUpTo { frames := 1, cells := 0, slots := 0, locals := 21 }).room s m ([.ref a0, .int (nI X)] : List Value).toArray below meth c s.heap [] 0 0 (MQ below (vp_Si (fun o9 => o9 = ftFades kf pf lf att n X)) ([.ref a0, .int (nI X)] : List Value).toArray s 0 0 (fun _ => False)) (F0 m 13 ls []) := by
    intro n13
    induction n13 with
    | zero =>
      intro i F su ra x13_2 x13_3 x13_4 x13_5  hm13
      exact absurd hm13 (Nat.not_lt_zero _)
    | succ n13 ih13 =>
      intro i F su ra x13_2 x13_3 x13_4 x13_5  hm13 hin hFX hFP hF ex13_2 ex13_3 ex13_4 ex13_5  ls hl
      replace ex13_2 := ex13_2.symm; subst ex13_2
      replace ex13_3 := ex13_3.symm; subst ex13_3
      subst ex13_4
      subst ex13_5
      refine lv_iload hx hb dX4_attenuationUpTo_13 (lv_at hl 5 rfl) ?_
      refine lv_aload_n hx hb dX4_attenuationUpTo_15 rfl (lv_at hl 0 rfl) ?_
      refine va_get (D := D) (ci := 4) (v := .int (nI n)) (C := RX4) (T := TX4) (N := 8) hx hb hts (by decide +kernel) hown hK hP 0 rfl rfl 3 (by decide) (hts (.fieldLink RX4 37 "FiberTrace$Link" "size" "I") (by decide +kernel)) (fun _ h9 => h9) rfl dX4_attenuationUpTo_16 ?_
      refine lv_icmp_ge (tgt := 92) hx hb dX4_attenuationUpTo_19 (by decide) (fun c19 => ?_) (fun c19 => ?_)
      · have c19n : n ≤ i := ft_leN (by omega) (by omega) c19
        refine lv_iload_n hx hb dX4_attenuationUpTo_92 rfl (lv_at hl 2 rfl) ?_
        refine lv_iload_n hx hb dX4_attenuationUpTo_93 rfl (lv_at hl 3 rfl) ?_
        refine lv_iload_n hx hb dX4_attenuationUpTo_94 rfl (lv_at hl 1 rfl) ?_
        refine lv_iload hx hb dX4_attenuationUpTo_95 (lv_at hl 4 rfl) ?_
        refine lv_isub hx hb dX4_attenuationUpTo_97 ?_
        refine lv_imul hx hb dX4_attenuationUpTo_98 ?_
        refine lv_iadd hx hb dX4_attenuationUpTo_99 ?_
        exact W.iret (v := su + (ra * ((nI X) - (nI F)))) hx hb hr (fun t ht hW => ⟨su + (ra * ((nI X) - (nI F))), rfl, (by show (su + (ra * ((nI X) - (nI F))) : Int32) = ftFades kf pf lf att n X; first | exact (hF X hFX hX).trans (ftFades_rest hpp hin hX (fun q => absurd q (by omega))).symm | exact (hF X hFX hX).trans (ftFades_rest hpp hin hX (fun q => by omega)).symm), ht⟩) (fun _ h9 => absurd h9 List.not_mem_nil) dX4_attenuationUpTo_100
      · have c19n : i < n := ft_nleN (by omega) (by omega) c19
        have hPi := hpp.2.2.1 i (by omega)
        refine lv_aload_n hx hb dX4_attenuationUpTo_22 rfl (lv_at hl 0 rfl) ?_
        refine va_get (D := D) (ci := 4) (v := .ref ap) (C := RX4) (T := TX4) (N := 8) hx hb hts (by decide +kernel) hown hK hP 0 rfl rfl 5 (by decide) (hts (.fieldLink RX4 15 "FiberTrace$Link" "places" "[I") (by decide +kernel)) (fun _ h9 => h9) rfl dX4_attenuationUpTo_23 ?_
        refine lv_iload hx hb dX4_attenuationUpTo_26 (lv_at hl 5 rfl) ?_
        refine ft_csi (r := ftAt 10 pf (nI i)) (va_runSN (As := [.ref ap, .int (nI i)]) (rest := []) ⟨hx, hb, hml, hown, hts⟩ (c_X10_at l D cI cS ap 10 pf (nI i) (by first | assumption | omega)) ⟨va_cnB 2 hts gX4_attenuationUpTo_X10_at_n50 rfl rfl rfl (hKK.2 _ (List.mem_of_getElem? (i := 11) rfl)) (hts (.initialized RX10) (by decide +kernel)) (by decide +kernel) ⟨Nat.le_of_ble_eq_true rfl, Nat.le_of_ble_eq_true rfl⟩, hts (.static yX10_at) (by decide +kernel), trivial⟩ (ft_preRO hP hKK [2] rfl) rfl rfl hl.1 rfl (lv_room (Nat.le_of_ble_eq_true rfl)) dX4_attenuationUpTo_28 ⟨Nat.le_of_ble_eq_true rfl, Nat.le_of_ble_eq_true rfl⟩) ?_
        refine ft_top (y := pf i) (ftAt_N (by omega) (by omega)) ?_
        refine ft_top (y := nI (P i)) (hpp.2.1 i (by omega)) ?_
        refine lv_iload_n hx hb dX4_attenuationUpTo_31 rfl (lv_at hl 1 rfl) ?_
        refine lv_icmp_ge (tgt := 92) hx hb dX4_attenuationUpTo_32 (by decide) (fun c32 => ?_) (fun c32 => ?_)
        · have c32n : X ≤ (P i) := ft_leN (by omega) (by omega) c32
          refine lv_iload_n hx hb dX4_attenuationUpTo_92 rfl (lv_at hl 2 rfl) ?_
          refine lv_iload_n hx hb dX4_attenuationUpTo_93 rfl (lv_at hl 3 rfl) ?_
          refine lv_iload_n hx hb dX4_attenuationUpTo_94 rfl (lv_at hl 1 rfl) ?_
          refine lv_iload hx hb dX4_attenuationUpTo_95 (lv_at hl 4 rfl) ?_
          refine lv_isub hx hb dX4_attenuationUpTo_97 ?_
          refine lv_imul hx hb dX4_attenuationUpTo_98 ?_
          refine lv_iadd hx hb dX4_attenuationUpTo_99 ?_
          exact W.iret (v := su + (ra * ((nI X) - (nI F)))) hx hb hr (fun t ht hW => ⟨su + (ra * ((nI X) - (nI F))), rfl, (by show (su + (ra * ((nI X) - (nI F))) : Int32) = ftFades kf pf lf att n X; first | exact (hF X hFX hX).trans (ftFades_rest hpp hin hX (fun q => absurd q (by omega))).symm | exact (hF X hFX hX).trans (ftFades_rest hpp hin hX (fun q => by omega)).symm), ht⟩) (fun _ h9 => absurd h9 List.not_mem_nil) dX4_attenuationUpTo_100
        · have c32n : (P i) < X := ft_nleN (by omega) (by omega) c32
          refine lv_aload_n hx hb dX4_attenuationUpTo_35 rfl (lv_at hl 0 rfl) ?_
          refine va_get (D := D) (ci := 4) (v := .ref ak) (C := RX4) (T := TX4) (N := 8) hx hb hts (by decide +kernel) hown hK hP 0 rfl rfl 4 (by decide) (hts (.fieldLink RX4 9 "FiberTrace$Link" "kinds" "[I") (by decide +kernel)) (fun _ h9 => h9) rfl dX4_attenuationUpTo_36 ?_
          refine lv_iload hx hb dX4_attenuationUpTo_39 (lv_at hl 5 rfl) ?_
          refine ft_csi (r := ftAt 10 kf (nI i)) (va_runSN (As := [.ref ak, .int (nI i)]) (rest := []) ⟨hx, hb, hml, hown, hts⟩ (c_X10_at l D cI cS ak 10 kf (nI i) (by first | assumption | omega)) ⟨va_cnB 2 hts gX4_attenuationUpTo_X10_at_n50 rfl rfl rfl (hKK.2 _ (List.mem_of_getElem? (i := 11) rfl)) (hts (.initialized RX10) (by decide +kernel)) (by decide +kernel) ⟨Nat.le_of_ble_eq_true rfl, Nat.le_of_ble_eq_true rfl⟩, hts (.static yX10_at) (by decide +kernel), trivial⟩ (ft_preRO hP hKK [1] rfl) rfl rfl hl.1 rfl (lv_room (Nat.le_of_ble_eq_true rfl)) dX4_attenuationUpTo_41 ⟨Nat.le_of_ble_eq_true rfl, Nat.le_of_ble_eq_true rfl⟩) ?_
          refine ft_top (y := kf i) (ftAt_N (by omega) (by omega)) ?_
          refine lv_iconst (v := 2) hx hb dX4_attenuationUpTo_44 (by decide) ?_
          refine lv_icmp_ne (tgt := 86) hx hb dX4_attenuationUpTo_45 (by decide) (fun c45 => ?_) (fun c45 => ?_)
          · refine lv_iinc (v := nI (i + 1)) (lv' := [(5, .int (nI (i + 1))), (0, .ref a0), (1, .int (nI X)), (2, .int su), (3, .int ra), (4, .int (nI F))]) hx hb dX4_attenuationUpTo_86 hl (k := 5) rfl (ft_inc i) (by decide) rfl (fun ls hl => ?_)
            refine lv_goto (tgt := 13) hx hb dX4_attenuationUpTo_89 (by decide) ?_
            exact ih13 (i + 1) F su ra su ra (nI F) (nI (i + 1))  (by omega) (by omega) (by omega) (by intro t h1 h2; have h3 := hpp.2.2.2 i t (by omega) h2; have h4 := hFP i (by omega) (by omega); omega) (by first | (intro Y h1 h2; rw [hF (P i) (hFP i (by omega) (by omega)) (by omega)]; exact ftFades_change c45 (hpp.2.1 i (by omega)) hPi h1 h2) | (intro Y h1 h2; rw [hF Y h1 h2]; exact ftSum_congr (fun x _ => (ftFade_skip c45).symm))) (by first | rfl | assumption) (by first | rfl | assumption) (by first | rfl | assumption) (by first | rfl | assumption)  ls (lv_sub hl [1, 2, 3, 4, 5, 0] rfl)
          · refine lv_iload_n hx hb dX4_attenuationUpTo_48 rfl (lv_at hl 2 rfl) ?_
            refine lv_iload_n hx hb dX4_attenuationUpTo_49 rfl (lv_at hl 3 rfl) ?_
            refine lv_aload_n hx hb dX4_attenuationUpTo_50 rfl (lv_at hl 0 rfl) ?_
            refine va_get (D := D) (ci := 4) (v := .ref ap) (C := RX4) (T := TX4) (N := 8) hx hb hts (by decide +kernel) hown hK hP 0 rfl rfl 5 (by decide) (hts (.fieldLink RX4 15 "FiberTrace$Link" "places" "[I") (by decide +kernel)) (fun _ h9 => h9) rfl dX4_attenuationUpTo_51 ?_
            refine lv_iload hx hb dX4_attenuationUpTo_54 (lv_at hl 5 rfl) ?_
            refine ft_csi (r := ftAt 10 pf (nI i)) (va_runSN (As := [.ref ap, .int (nI i)]) (rest := [.int ra, .int su]) ⟨hx, hb, hml, hown, hts⟩ (c_X10_at l D cI cS ap 10 pf (nI i) (by first | assumption | omega)) ⟨va_cnB 2 hts gX4_attenuationUpTo_X10_at_n50 rfl rfl rfl (hKK.2 _ (List.mem_of_getElem? (i := 11) rfl)) (hts (.initialized RX10) (by decide +kernel)) (by decide +kernel) ⟨Nat.le_of_ble_eq_true rfl, Nat.le_of_ble_eq_true rfl⟩, hts (.static yX10_at) (by decide +kernel), trivial⟩ (ft_preRO hP hKK [2] rfl) rfl rfl hl.1 rfl (lv_room (Nat.le_of_ble_eq_true rfl)) dX4_attenuationUpTo_56 ⟨Nat.le_of_ble_eq_true rfl, Nat.le_of_ble_eq_true rfl⟩) ?_
            refine ft_top (y := pf i) (ftAt_N (by omega) (by omega)) ?_
            refine ft_top (y := nI (P i)) (hpp.2.1 i (by omega)) ?_
            refine lv_iload hx hb dX4_attenuationUpTo_59 (lv_at hl 4 rfl) ?_
            refine lv_isub hx hb dX4_attenuationUpTo_61 ?_
            refine lv_imul hx hb dX4_attenuationUpTo_62 ?_
            refine lv_iadd hx hb dX4_attenuationUpTo_63 ?_
            refine lv_istore_n (lv' := [(2, .int (su + (ra * ((nI (P i)) - (nI F))))), (0, .ref a0), (1, .int (nI X)), (3, .int ra), (4, .int (nI F)), (5, .int (nI i))]) hx hb dX4_attenuationUpTo_64 rfl hl (by decide) rfl (fun ls hl => ?_)
            refine lv_aload_n hx hb dX4_attenuationUpTo_65 rfl (lv_at hl 1 rfl) ?_
            refine va_get (D := D) (ci := 4) (v := .ref ap) (C := RX4) (T := TX4) (N := 8) hx hb hts (by decide +kernel) hown hK hP 0 rfl rfl 5 (by decide) (hts (.fieldLink RX4 15 "FiberTrace$Link" "places" "[I") (by decide +kernel)) (fun _ h9 => h9) rfl dX4_attenuationUpTo_66 ?_
            refine lv_iload hx hb dX4_attenuationUpTo_69 (lv_at hl 5 rfl) ?_
            refine ft_csi (r := ftAt 10 pf (nI i)) (va_runSN (As := [.ref ap, .int (nI i)]) (rest := []) ⟨hx, hb, hml, hown, hts⟩ (c_X10_at l D cI cS ap 10 pf (nI i) (by first | assumption | omega)) ⟨va_cnB 2 hts gX4_attenuationUpTo_X10_at_n50 rfl rfl rfl (hKK.2 _ (List.mem_of_getElem? (i := 11) rfl)) (hts (.initialized RX10) (by decide +kernel)) (by decide +kernel) ⟨Nat.le_of_ble_eq_true rfl, Nat.le_of_ble_eq_true rfl⟩, hts (.static yX10_at) (by decide +kernel), trivial⟩ (ft_preRO hP hKK [2] rfl) rfl rfl hl.1 rfl (lv_room (Nat.le_of_ble_eq_true rfl)) dX4_attenuationUpTo_71 ⟨Nat.le_of_ble_eq_true rfl, Nat.le_of_ble_eq_true rfl⟩) ?_
            refine ft_top (y := pf i) (ftAt_N (by omega) (by omega)) ?_
            refine ft_top (y := nI (P i)) (hpp.2.1 i (by omega)) ?_
            refine lv_istore (lv' := [(4, .int (nI (P i))), (2, .int (su + (ra * ((nI (P i)) - (nI F))))), (0, .ref a0), (1, .int (nI X)), (3, .int ra), (5, .int (nI i))]) hx hb dX4_attenuationUpTo_74 hl (by decide) rfl (fun ls hl => ?_)
            refine lv_aload_n hx hb dX4_attenuationUpTo_76 rfl (lv_at hl 2 rfl) ?_
            refine va_get (D := D) (ci := 4) (v := .ref al) (C := RX4) (T := TX4) (N := 8) hx hb hts (by decide +kernel) hown hK hP 0 rfl rfl 6 (by decide) (hts (.fieldLink RX4 18 "FiberTrace$Link" "losses" "[I") (by decide +kernel)) (fun _ h9 => h9) rfl dX4_attenuationUpTo_77 ?_
            refine lv_iload hx hb dX4_attenuationUpTo_80 (lv_at hl 5 rfl) ?_
            refine ft_csi (r := ftAt 10 lf (nI i)) (va_runSN (As := [.ref al, .int (nI i)]) (rest := []) ⟨hx, hb, hml, hown, hts⟩ (c_X10_at l D cI cS al 10 lf (nI i) (by first | assumption | omega)) ⟨va_cnB 2 hts gX4_attenuationUpTo_X10_at_n50 rfl rfl rfl (hKK.2 _ (List.mem_of_getElem? (i := 11) rfl)) (hts (.initialized RX10) (by decide +kernel)) (by decide +kernel) ⟨Nat.le_of_ble_eq_true rfl, Nat.le_of_ble_eq_true rfl⟩, hts (.static yX10_at) (by decide +kernel), trivial⟩ (ft_preRO hP hKK [3] rfl) rfl rfl hl.1 rfl (lv_room (Nat.le_of_ble_eq_true rfl)) dX4_attenuationUpTo_82 ⟨Nat.le_of_ble_eq_true rfl, Nat.le_of_ble_eq_true rfl⟩) ?_
            refine ft_top (y := lf i) (ftAt_N (by omega) (by omega)) ?_
            refine lv_istore_n (lv' := [(3, .int (lf i)), (4, .int (nI (P i))), (2, .int (su + (ra * ((nI (P i)) - (nI F))))), (0, .ref a0), (1, .int (nI X)), (5, .int (nI i))]) hx hb dX4_attenuationUpTo_85 rfl hl (by decide) rfl (fun ls hl => ?_)
            refine lv_iinc (v := nI (i + 1)) (lv' := [(5, .int (nI (i + 1))), (3, .int (lf i)), (4, .int (nI (P i))), (2, .int (su + (ra * ((nI (P i)) - (nI F))))), (0, .ref a0), (1, .int (nI X))]) hx hb dX4_attenuationUpTo_86 hl (k := 5) rfl (ft_inc i) (by decide) rfl (fun ls hl => ?_)
            refine lv_goto (tgt := 13) hx hb dX4_attenuationUpTo_89 (by decide) ?_
            exact ih13 (i + 1) (P i) (su + (ra * ((nI (P i)) - (nI F)))) (lf i) (su + (ra * ((nI (P i)) - (nI F)))) (lf i) (nI (P i)) (nI (i + 1))  (by omega) (by omega) (by omega) (by intro t h1 h2; have h3 := hpp.2.2.2 i t (by omega) h2; have h4 := hFP i (by omega) (by omega); omega) (by first | (intro Y h1 h2; rw [hF (P i) (hFP i (by omega) (by omega)) (by omega)]; exact ftFades_change c45 (hpp.2.1 i (by omega)) hPi h1 h2) | (intro Y h1 h2; rw [hF Y h1 h2]; exact ftSum_congr (fun x _ => (ftFade_skip c45).symm))) (by first | rfl | assumption) (by first | rfl | assumption) (by first | rfl | assumption) (by first | rfl | assumption)  ls (lv_sub hl [4, 5, 3, 1, 2, 0] rfl)
  exact lp13 _ 0 0 0 att 0 att 0 0  (Nat.lt_succ_self _) (by omega) (by omega) (by intro t h1 h2; omega) (by intro Y h1 h2; exact ftFades_0 kf pf lf att Y) (by rfl) (by rfl) (by rfl) (by rfl) ls (lv_sub hl [4, 5, 3, 2, 1, 0] rfl)
set_option maxHeartbeats 4000000 in
set_option maxRecDepth 100000 in
theorem c_X4_lossUpTo (l : Launch) (D : va_G) (cI cS : ClassId) (a0 : Nat) (len att en : Int32) (n ak ap al ar : Nat) (kf pf lf : Nat → Int32) (P : Nat → Nat) (X : Nat) (hpp : ftPos pf n P) (hX : X ≤ 1000) : Met l yX4_lossUpTo wsX4_lossUpTo ({ frames := 2, cells := 0, slots := 0, locals := 46 }) (ftRO D cI cS [.ref a0, .int (nI X)] [(a0, .inr (4, [.int len, .int att, .int en, .int (nI n), .ref ak, .ref ap, .ref al, .ref ar])), (ak, .inl (cI, 10, .inl kf)), (ap, .inl (cI, 10, .inl pf)), (al, .inl (cI, 10, .inl lf))]) (vp_Si (fun o9 => o9 = ftFades kf pf lf att n X + ftJoints kf pf lf (nI X) n)) 0 0 (fun _ => False) := by
  refine Met.ofW (cc := cX4_lossUpTo) (maxL := 4) (ret := (some .int)) (by decide) rfl ?_
  intro p e s m args below meth c s₁ B hml hv
  obtain ⟨rfl, hP, hKK⟩ := hv
  have hK := hKK.1
  have hx := B.exec
  have hb := B.bytes
  have hr := B.returns
  have hts := atoms_spec (ws := wsX4_lossUpTo) B.pre
  have hown : s.vm.findClass RX4 = some m.cls := findClass_of_methodNamed B.named
  have hlocks := B.notSynchronized
  have hP : va_P D vwCl [(a0, .inr (4, [.int len, .int att, .int en, .int (nI n), .ref ak, .ref ap, .ref al, .ref ar])), (ak, .inl (cI, 10, .inl kf)), (ap, .inl (cI, 10, .inl pf)), (al, .inl (cI, 10, .inl lf))] s.heap := hP
  have hl := lv_entry ([.ref a0, .int (nI X)]) (n := 4) (Nat.le_of_ble_eq_true rfl)
  rw [lg_entry_eq]
  generalize (lg_sl ([.ref a0, .int (nI X)]) ++ List.replicate (4 - (lg_sl ([.ref a0, .int (nI X)])).length) Slot.unset).toArray = ls at hl ⊢
  have hl : lv_has ls 4 [(0, .ref a0), (1, .int (nI X))] := hl
  have hn := hpp.1
  refine lv_aload_n hx hb dX4_lossUpTo_0 rfl (lv_at hl 0 rfl) ?_
  refine lv_iload_n hx hb dX4_lossUpTo_1 rfl (lv_at hl 1 rfl) ?_
  refine ft_csi (r := ftFades kf pf lf att n X) (va_runV (C := RX4) (As := [.int (nI X)]) (rest := []) ⟨hx, hb, hml, hown, hts⟩ (c_X4_attenuationUpTo l D cI cS a0 len att en n ak ap al ar kf pf lf P X (by first | assumption | omega) (by first | assumption | omega)) (cwV 1 hts gX4_lossUpTo_X4_attenuationUpTo rfl rfl rfl (by decide +kernel) ⟨Nat.le_of_ble_eq_true rfl, Nat.le_of_ble_eq_true rfl⟩) (ft_preROV (ci := 4) (q0 := 0) hP hKK [0, 1, 2, 3] rfl rfl rfl) rfl rfl hl.1 rfl (lv_room (Nat.le_of_ble_eq_true rfl)) dX4_lossUpTo_2 ⟨Nat.le_of_ble_eq_true rfl, Nat.le_of_ble_eq_true rfl⟩) ?_
  refine lv_istore_n (lv' := [(2, .int (ftFades kf pf lf att n X)), (0, .ref a0), (1, .int (nI X))]) hx hb dX4_lossUpTo_5 rfl hl (by decide) rfl (fun ls hl => ?_)
  refine lv_iconst (v := 0) hx hb dX4_lossUpTo_6 (by decide) ?_
  refine lv_istore_n (lv' := [(3, .int 0), (2, .int (ftFades kf pf lf att n X)), (0, .ref a0), (1, .int (nI X))]) hx hb dX4_lossUpTo_7 rfl hl (by decide) rfl (fun ls hl => ?_)
  have lp8 : ∀ (n8 : Nat) (i : Nat) (x8_2 : Int32) (x8_3 : Int32), n - i < n8 → (i ≤ n) → x8_2 = ftFades kf pf lf att n X + ftJoints kf pf lf (nI X) i → x8_3 = nI i → ∀ ls : Array Slot, lv_has ls 4 [(0, .ref a0), (1, .int (nI X)), (2, .int x8_2), (3, .int x8_3)] → W p l e (headSpec wsX4_lossUpTo { frames := 2, cells := 0, slots := 0, locals := 46 }).room s m ([.ref a0, .int (nI X)] : List Value).toArray below meth c s.heap [] 0 0 (MQ below (vp_Si (fun o9 => o9 = ftFades kf pf lf att n X + ftJoints kf pf lf (nI X) n)) ([.ref a0, .int (nI X)] : List Value).toArray s 0 0 (fun _ => False)) (F0 m 8 ls []) := by
    intro n8
    induction n8 with
    | zero =>
      intro i x8_2 x8_3  hm8
      exact absurd hm8 (Nat.not_lt_zero _)
    | succ n8 ih8 =>
      intro i x8_2 x8_3  hm8 hin ex8_2 ex8_3  ls hl
      subst ex8_3
      refine lv_iload_n hx hb dX4_lossUpTo_8 rfl (lv_at hl 3 rfl) ?_
      refine lv_aload_n hx hb dX4_lossUpTo_9 rfl (lv_at hl 0 rfl) ?_
      refine va_get (D := D) (ci := 4) (v := .int (nI n)) (C := RX4) (T := TX4) (N := 8) hx hb hts (by decide +kernel) hown hK hP 0 rfl rfl 3 (by decide) (hts (.fieldLink RX4 37 "FiberTrace$Link" "size" "I") (by decide +kernel)) (fun _ h9 => h9) rfl dX4_lossUpTo_10 ?_
      refine lv_icmp_ge (tgt := 53) hx hb dX4_lossUpTo_13 (by decide) (fun c13 => ?_) (fun c13 => ?_)
      · have c13n : n ≤ i := ft_leN (by omega) (by omega) c13
        refine lv_iload_n hx hb dX4_lossUpTo_53 rfl (lv_at hl 2 rfl) ?_
        exact W.iret (v := x8_2) hx hb hr (fun t ht hW => ⟨x8_2, rfl, (by show (x8_2 : Int32) = ftFades kf pf lf att n X + ftJoints kf pf lf (nI X) n; (obtain rfl : i = n := by omega); exact ex8_2), ht⟩) (fun _ h9 => absurd h9 List.not_mem_nil) dX4_lossUpTo_54
      · have c13n : i < n := ft_nleN (by omega) (by omega) c13
        refine lv_aload_n hx hb dX4_lossUpTo_16 rfl (lv_at hl 0 rfl) ?_
        refine lv_iload_n hx hb dX4_lossUpTo_17 rfl (lv_at hl 3 rfl) ?_
        refine ft_csi (r := ftB (¬ kf i = 2)) (va_runV (C := RX4) (As := [.int (nI i)]) (rest := []) ⟨hx, hb, hml, hown, hts⟩ (c_X4_isJoint l D cI cS a0 len att en n ak ap al ar kf i (by first | assumption | omega)) (cwV 1 hts gX4_lossUpTo_X4_isJoint rfl rfl rfl (by decide +kernel) ⟨Nat.le_of_ble_eq_true rfl, Nat.le_of_ble_eq_true rfl⟩) (ft_preROV (ci := 4) (q0 := 0) hP hKK [0, 1] rfl rfl rfl) rfl rfl hl.1 rfl (lv_room (Nat.le_of_ble_eq_true rfl)) dX4_lossUpTo_18 ⟨Nat.le_of_ble_eq_true rfl, Nat.le_of_ble_eq_true rfl⟩) ?_
        refine lv_if_eq (tgt := 47) hx hb dX4_lossUpTo_21 (by decide) (fun c21 => ?_) (fun c21 => ?_)
        · replace c21 := ftB_eq c21
          have h9 : (if ¬ kf i = 2 ∧ pf i < nI X then lf i else 0) = 0 := if_neg (fun q => c21 q.1)
          refine lv_iinc (v := nI (i + 1)) (lv' := [(3, .int (nI (i + 1))), (0, .ref a0), (1, .int (nI X)), (2, .int x8_2)]) hx hb dX4_lossUpTo_47 hl (k := 3) rfl (ft_inc i) (by decide) rfl (fun ls hl => ?_)
          refine lv_goto (tgt := 8) hx hb dX4_lossUpTo_50 (by decide) ?_
          exact ih8 (i + 1) x8_2 (nI (i + 1))  (by omega) (by omega) (by show _ = ftFades kf pf lf att n X + (ftJoints kf pf lf (nI X) i + (if ¬ kf i = 2 ∧ pf i < nI X then lf i else 0)); first | (rw [h9, ex8_2, Int32.add_assoc]; done) | (rw [h9, Int32.add_zero]; exact ex8_2)) (by first | rfl | assumption)  ls (lv_sub hl [1, 2, 3, 0] rfl)
        · replace c21 := ftB_ne c21
          refine lv_aload_n hx hb dX4_lossUpTo_24 rfl (lv_at hl 0 rfl) ?_
          refine va_get (D := D) (ci := 4) (v := .ref ap) (C := RX4) (T := TX4) (N := 8) hx hb hts (by decide +kernel) hown hK hP 0 rfl rfl 5 (by decide) (hts (.fieldLink RX4 15 "FiberTrace$Link" "places" "[I") (by decide +kernel)) (fun _ h9 => h9) rfl dX4_lossUpTo_25 ?_
          refine lv_iload_n hx hb dX4_lossUpTo_28 rfl (lv_at hl 3 rfl) ?_
          refine ft_csi (r := ftAt 10 pf (nI i)) (va_runSN (As := [.ref ap, .int (nI i)]) (rest := []) ⟨hx, hb, hml, hown, hts⟩ (c_X10_at l D cI cS ap 10 pf (nI i) (by first | assumption | omega)) ⟨va_cnB 2 hts gX4_lossUpTo_X10_at_n50 rfl rfl rfl (hKK.2 _ (List.mem_of_getElem? (i := 11) rfl)) (hts (.initialized RX10) (by decide +kernel)) (by decide +kernel) ⟨Nat.le_of_ble_eq_true rfl, Nat.le_of_ble_eq_true rfl⟩, hts (.static yX10_at) (by decide +kernel), trivial⟩ (ft_preRO hP hKK [2] rfl) rfl rfl hl.1 rfl (lv_room (Nat.le_of_ble_eq_true rfl)) dX4_lossUpTo_29 ⟨Nat.le_of_ble_eq_true rfl, Nat.le_of_ble_eq_true rfl⟩) ?_
          refine ft_top (y := pf i) (ftAt_N (by omega) (by omega)) ?_
          refine lv_iload_n hx hb dX4_lossUpTo_32 rfl (lv_at hl 1 rfl) ?_
          refine lv_icmp_ge (tgt := 47) hx hb dX4_lossUpTo_33 (by decide) (fun c33 => ?_) (fun c33 => ?_)
          · have h9 : (if ¬ kf i = 2 ∧ pf i < nI X then lf i else 0) = 0 := if_neg (fun q => Int32.not_le.mpr q.2 c33)
            refine lv_iinc (v := nI (i + 1)) (lv' := [(3, .int (nI (i + 1))), (0, .ref a0), (1, .int (nI X)), (2, .int x8_2)]) hx hb dX4_lossUpTo_47 hl (k := 3) rfl (ft_inc i) (by decide) rfl (fun ls hl => ?_)
            refine lv_goto (tgt := 8) hx hb dX4_lossUpTo_50 (by decide) ?_
            exact ih8 (i + 1) x8_2 (nI (i + 1))  (by omega) (by omega) (by show _ = ftFades kf pf lf att n X + (ftJoints kf pf lf (nI X) i + (if ¬ kf i = 2 ∧ pf i < nI X then lf i else 0)); first | (rw [h9, ex8_2, Int32.add_assoc]; done) | (rw [h9, Int32.add_zero]; exact ex8_2)) (by first | rfl | assumption)  ls (lv_sub hl [1, 2, 3, 0] rfl)
          · have h9 : (if ¬ kf i = 2 ∧ pf i < nI X then lf i else 0) = lf i := if_pos ⟨c21, Int32.not_le.mp c33⟩
            refine lv_iload_n hx hb dX4_lossUpTo_36 rfl (lv_at hl 2 rfl) ?_
            refine lv_aload_n hx hb dX4_lossUpTo_37 rfl (lv_at hl 0 rfl) ?_
            refine va_get (D := D) (ci := 4) (v := .ref al) (C := RX4) (T := TX4) (N := 8) hx hb hts (by decide +kernel) hown hK hP 0 rfl rfl 6 (by decide) (hts (.fieldLink RX4 18 "FiberTrace$Link" "losses" "[I") (by decide +kernel)) (fun _ h9 => h9) rfl dX4_lossUpTo_38 ?_
            refine lv_iload_n hx hb dX4_lossUpTo_41 rfl (lv_at hl 3 rfl) ?_
            refine ft_csi (r := ftAt 10 lf (nI i)) (va_runSN (As := [.ref al, .int (nI i)]) (rest := [.int x8_2]) ⟨hx, hb, hml, hown, hts⟩ (c_X10_at l D cI cS al 10 lf (nI i) (by first | assumption | omega)) ⟨va_cnB 2 hts gX4_lossUpTo_X10_at_n50 rfl rfl rfl (hKK.2 _ (List.mem_of_getElem? (i := 11) rfl)) (hts (.initialized RX10) (by decide +kernel)) (by decide +kernel) ⟨Nat.le_of_ble_eq_true rfl, Nat.le_of_ble_eq_true rfl⟩, hts (.static yX10_at) (by decide +kernel), trivial⟩ (ft_preRO hP hKK [3] rfl) rfl rfl hl.1 rfl (lv_room (Nat.le_of_ble_eq_true rfl)) dX4_lossUpTo_42 ⟨Nat.le_of_ble_eq_true rfl, Nat.le_of_ble_eq_true rfl⟩) ?_
            refine ft_top (y := lf i) (ftAt_N (by omega) (by omega)) ?_
            refine lv_iadd hx hb dX4_lossUpTo_45 ?_
            refine lv_istore_n (lv' := [(2, .int (x8_2 + (lf i))), (0, .ref a0), (1, .int (nI X)), (3, .int (nI i))]) hx hb dX4_lossUpTo_46 rfl hl (by decide) rfl (fun ls hl => ?_)
            refine lv_iinc (v := nI (i + 1)) (lv' := [(3, .int (nI (i + 1))), (2, .int (x8_2 + (lf i))), (0, .ref a0), (1, .int (nI X))]) hx hb dX4_lossUpTo_47 hl (k := 3) rfl (ft_inc i) (by decide) rfl (fun ls hl => ?_)
            refine lv_goto (tgt := 8) hx hb dX4_lossUpTo_50 (by decide) ?_
            exact ih8 (i + 1) (x8_2 + (lf i)) (nI (i + 1))  (by omega) (by omega) (by show _ = ftFades kf pf lf att n X + (ftJoints kf pf lf (nI X) i + (if ¬ kf i = 2 ∧ pf i < nI X then lf i else 0)); first | (rw [h9, ex8_2, Int32.add_assoc]; done) | (rw [h9, Int32.add_zero]; exact ex8_2)) (by first | rfl | assumption)  ls (lv_sub hl [2, 3, 1, 0] rfl)
  exact lp8 _ 0 (ftFades kf pf lf att n X) 0  (Nat.lt_succ_self _) (by omega) (by exact (Int32.add_zero _).symm) (by rfl) ls (lv_sub hl [2, 3, 1, 0] rfl)
set_option maxHeartbeats 4000000 in
set_option maxRecDepth 100000 in
theorem c_X4_spreadLossAt (l : Launch) (D : va_G) (cI cS : ClassId) (a0 : Nat) (len att en : Int32) (n ak ap al ar : Nat) (kf pf lf : Nat → Int32) (P : Nat → Nat) (X : Nat) (w : Int32) (hpp : ftPos pf n P) (hX : X ≤ 1000) : Met l yX4_spreadLossAt wsX4_spreadLossAt ({ frames := 1, cells := 0, slots := 0, locals := 21 }) (ftRO D cI cS [.ref a0, .int (nI X), .int w] [(a0, .inr (4, [.int len, .int att, .int en, .int (nI n), .ref ak, .ref ap, .ref al, .ref ar])), (ak, .inl (cI, 10, .inl kf)), (ap, .inl (cI, 10, .inl pf)), (al, .inl (cI, 10, .inl lf))]) (vp_Si (fun o9 => o9 = ftSpr kf pf lf (nI X) w n)) 0 0 (fun _ => False) := by
  refine Met.ofW (cc := cX4_spreadLossAt) (maxL := 6) (ret := (some .int)) (by decide) rfl ?_
  intro p e s m args below meth c s₁ B hml hv
  obtain ⟨rfl, hP, hKK⟩ := hv
  have hK := hKK.1
  have hx := B.exec
  have hb := B.bytes
  have hr := B.returns
  have hts := atoms_spec (ws := wsX4_spreadLossAt) B.pre
  have hown : s.vm.findClass RX4 = some m.cls := findClass_of_methodNamed B.named
  have hlocks := B.notSynchronized
  have hP : va_P D vwCl [(a0, .inr (4, [.int len, .int att, .int en, .int (nI n), .ref ak, .ref ap, .ref al, .ref ar])), (ak, .inl (cI, 10, .inl kf)), (ap, .inl (cI, 10, .inl pf)), (al, .inl (cI, 10, .inl lf))] s.heap := hP
  have hl := lv_entry ([.ref a0, .int (nI X), .int w]) (n := 6) (Nat.le_of_ble_eq_true rfl)
  rw [lg_entry_eq]
  generalize (lg_sl ([.ref a0, .int (nI X), .int w]) ++ List.replicate (6 - (lg_sl ([.ref a0, .int (nI X), .int w])).length) Slot.unset).toArray = ls at hl ⊢
  have hl : lv_has ls 6 [(0, .ref a0), (1, .int (nI X)), (2, .int w)] := hl
  have hn := hpp.1
  refine lv_iconst (v := 0) hx hb dX4_spreadLossAt_0 (by decide) ?_
  refine lv_istore_n (lv' := [(3, .int 0), (0, .ref a0), (1, .int (nI X)), (2, .int w)]) hx hb dX4_spreadLossAt_1 rfl hl (by decide) rfl (fun ls hl => ?_)
  refine lv_iconst (v := 0) hx hb dX4_spreadLossAt_2 (by decide) ?_
  refine lv_istore (lv' := [(4, .int 0), (3, .int 0), (0, .ref a0), (1, .int (nI X)), (2, .int w)]) hx hb dX4_spreadLossAt_3 hl (by decide) rfl (fun ls hl => ?_)
  have lp5 : ∀ (n5 : Nat) (i : Nat) (x5_3 : Int32) (x5_4 : Int32), n - i < n5 → (i ≤ n) → x5_3 = ftSpr kf pf lf (nI X) w i → x5_4 = nI i → ∀ ls : Array Slot, lv_has ls 6 [(0, .ref a0), (1, .int (nI X)), (2, .int w), (3, .int x5_3), (4, .int x5_4)] → W p l e (headSpec wsX4_spreadLossAt { frames := 1, cells := 0, slots := 0, locals := 21 }).room s m ([.ref a0, .int (nI X), .int w] : List Value).toArray below meth c s.heap [] 0 0 (MQ below (vp_Si (fun o9 => o9 = ftSpr kf pf lf (nI X) w n)) ([.ref a0, .int (nI X), .int w] : List Value).toArray s 0 0 (fun _ => False)) (F0 m 5 ls []) := by
    intro n5
    induction n5 with
    | zero =>
      intro i x5_3 x5_4  hm5
      exact absurd hm5 (Nat.not_lt_zero _)
    | succ n5 ih5 =>
      intro i x5_3 x5_4  hm5 hin ex5_3 ex5_4  ls hl
      subst ex5_4
      refine lv_iload hx hb dX4_spreadLossAt_5 (lv_at hl 4 rfl) ?_
      refine lv_aload_n hx hb dX4_spreadLossAt_7 rfl (lv_at hl 0 rfl) ?_
      refine va_get (D := D) (ci := 4) (v := .int (nI n)) (C := RX4) (T := TX4) (N := 8) hx hb hts (by decide +kernel) hown hK hP 0 rfl rfl 3 (by decide) (hts (.fieldLink RX4 37 "FiberTrace$Link" "size" "I") (by decide +kernel)) (fun _ h9 => h9) rfl dX4_spreadLossAt_8 ?_
      refine lv_icmp_ge (tgt := 98) hx hb dX4_spreadLossAt_11 (by decide) (fun c11 => ?_) (fun c11 => ?_)
      · have c11n : n ≤ i := ft_leN (by omega) (by omega) c11
        refine lv_iload_n hx hb dX4_spreadLossAt_98 rfl (lv_at hl 3 rfl) ?_
        exact W.iret (v := x5_3) hx hb hr (fun t ht hW => ⟨x5_3, rfl, (by show (x5_3 : Int32) = ftSpr kf pf lf (nI X) w n; first | (rw [ex5_3]; exact (ftSpr_rest n hin (ftPos_rest hpp hX (fun q => absurd q (by omega)))).symm) | (rw [ex5_3]; exact (ftSpr_rest n hin (ftPos_rest hpp hX (fun q => by omega))).symm)), ht⟩) (fun _ h9 => absurd h9 List.not_mem_nil) dX4_spreadLossAt_99
      · have c11n : i < n := ft_nleN (by omega) (by omega) c11
        have hPi := hpp.2.2.1 i (by omega)
        refine lv_aload_n hx hb dX4_spreadLossAt_14 rfl (lv_at hl 0 rfl) ?_
        refine va_get (D := D) (ci := 4) (v := .ref ap) (C := RX4) (T := TX4) (N := 8) hx hb hts (by decide +kernel) hown hK hP 0 rfl rfl 5 (by decide) (hts (.fieldLink RX4 15 "FiberTrace$Link" "places" "[I") (by decide +kernel)) (fun _ h9 => h9) rfl dX4_spreadLossAt_15 ?_
        refine lv_iload hx hb dX4_spreadLossAt_18 (lv_at hl 4 rfl) ?_
        refine ft_csi (r := ftAt 10 pf (nI i)) (va_runSN (As := [.ref ap, .int (nI i)]) (rest := []) ⟨hx, hb, hml, hown, hts⟩ (c_X10_at l D cI cS ap 10 pf (nI i) (by first | assumption | omega)) ⟨va_cnB 2 hts gX4_spreadLossAt_X10_at_n50 rfl rfl rfl (hKK.2 _ (List.mem_of_getElem? (i := 11) rfl)) (hts (.initialized RX10) (by decide +kernel)) (by decide +kernel) ⟨Nat.le_of_ble_eq_true rfl, Nat.le_of_ble_eq_true rfl⟩, hts (.static yX10_at) (by decide +kernel), trivial⟩ (ft_preRO hP hKK [2] rfl) rfl rfl hl.1 rfl (lv_room (Nat.le_of_ble_eq_true rfl)) dX4_spreadLossAt_20 ⟨Nat.le_of_ble_eq_true rfl, Nat.le_of_ble_eq_true rfl⟩) ?_
        refine ft_top (y := pf i) (ftAt_N (by omega) (by omega)) ?_
        refine ft_top (y := nI (P i)) (hpp.2.1 i (by omega)) ?_
        refine lv_iload_n hx hb dX4_spreadLossAt_23 rfl (lv_at hl 1 rfl) ?_
        refine lv_icmp_gt (tgt := 98) hx hb dX4_spreadLossAt_24 (by decide) (fun c24 => ?_) (fun c24 => ?_)
        · have c24n : X < (P i) := ft_ltN (by omega) (by omega) c24
          refine lv_iload_n hx hb dX4_spreadLossAt_98 rfl (lv_at hl 3 rfl) ?_
          exact W.iret (v := x5_3) hx hb hr (fun t ht hW => ⟨x5_3, rfl, (by show (x5_3 : Int32) = ftSpr kf pf lf (nI X) w n; first | (rw [ex5_3]; exact (ftSpr_rest n hin (ftPos_rest hpp hX (fun q => absurd q (by omega)))).symm) | (rw [ex5_3]; exact (ftSpr_rest n hin (ftPos_rest hpp hX (fun q => by omega))).symm)), ht⟩) (fun _ h9 => absurd h9 List.not_mem_nil) dX4_spreadLossAt_99
        · have c24n : (P i) ≤ X := ft_nltN (by omega) (by omega) c24
          have hple : pf i ≤ nI X := by rw [hpp.2.1 i (by omega)]; exact nI_le c24n (by omega)
          refine lv_aload_n hx hb dX4_spreadLossAt_27 rfl (lv_at hl 0 rfl) ?_
          refine va_get (D := D) (ci := 4) (v := .ref ak) (C := RX4) (T := TX4) (N := 8) hx hb hts (by decide +kernel) hown hK hP 0 rfl rfl 4 (by decide) (hts (.fieldLink RX4 9 "FiberTrace$Link" "kinds" "[I") (by decide +kernel)) (fun _ h9 => h9) rfl dX4_spreadLossAt_28 ?_
          refine lv_iload hx hb dX4_spreadLossAt_31 (lv_at hl 4 rfl) ?_
          refine ft_csi (r := ftAt 10 kf (nI i)) (va_runSN (As := [.ref ak, .int (nI i)]) (rest := []) ⟨hx, hb, hml, hown, hts⟩ (c_X10_at l D cI cS ak 10 kf (nI i) (by first | assumption | omega)) ⟨va_cnB 2 hts gX4_spreadLossAt_X10_at_n50 rfl rfl rfl (hKK.2 _ (List.mem_of_getElem? (i := 11) rfl)) (hts (.initialized RX10) (by decide +kernel)) (by decide +kernel) ⟨Nat.le_of_ble_eq_true rfl, Nat.le_of_ble_eq_true rfl⟩, hts (.static yX10_at) (by decide +kernel), trivial⟩ (ft_preRO hP hKK [1] rfl) rfl rfl hl.1 rfl (lv_room (Nat.le_of_ble_eq_true rfl)) dX4_spreadLossAt_33 ⟨Nat.le_of_ble_eq_true rfl, Nat.le_of_ble_eq_true rfl⟩) ?_
          refine ft_top (y := kf i) (ftAt_N (by omega) (by omega)) ?_
          refine lv_iconst (v := 2) hx hb dX4_spreadLossAt_36 (by decide) ?_
          refine lv_icmp_eq (tgt := 92) hx hb dX4_spreadLossAt_37 (by decide) (fun c37 => ?_) (fun c37 => ?_)
          · refine lv_iinc (v := nI (i + 1)) (lv' := [(4, .int (nI (i + 1))), (0, .ref a0), (1, .int (nI X)), (2, .int w), (3, .int x5_3)]) hx hb dX4_spreadLossAt_92 hl (k := 4) rfl (ft_inc i) (by decide) rfl (fun ls hl => ?_)
            refine lv_goto (tgt := 5) hx hb dX4_spreadLossAt_95 (by decide) ?_
            exact ih5 (i + 1) x5_3 (nI (i + 1))  (by omega) (by omega) (by show _ = ftSpr kf pf lf (nI X) w i + (if ¬ kf i = 2 ∧ pf i ≤ nI X then ftSpr1 (lf i) (pf i) (nI X) w else 0); first | (rw [if_neg (fun q => q.1 c37), Int32.add_zero]; exact ex5_3) | (rw [if_pos ⟨c37, hple⟩, ftSpr1, if_pos (Int32.not_lt.mp c59), ex5_3]) | (rw [if_pos ⟨c37, hple⟩, ftSpr1, if_neg (Int32.not_le.mpr c59), ex5_3])) (by first | rfl | assumption)  ls (lv_sub hl [1, 2, 3, 4, 0] rfl)
          · refine lv_iload_n hx hb dX4_spreadLossAt_40 rfl (lv_at hl 1 rfl) ?_
            refine lv_aload_n hx hb dX4_spreadLossAt_41 rfl (lv_at hl 0 rfl) ?_
            refine va_get (D := D) (ci := 4) (v := .ref ap) (C := RX4) (T := TX4) (N := 8) hx hb hts (by decide +kernel) hown hK hP 0 rfl rfl 5 (by decide) (hts (.fieldLink RX4 15 "FiberTrace$Link" "places" "[I") (by decide +kernel)) (fun _ h9 => h9) rfl dX4_spreadLossAt_42 ?_
            refine lv_iload hx hb dX4_spreadLossAt_45 (lv_at hl 4 rfl) ?_
            refine ft_csi (r := ftAt 10 pf (nI i)) (va_runSN (As := [.ref ap, .int (nI i)]) (rest := [.int (nI X)]) ⟨hx, hb, hml, hown, hts⟩ (c_X10_at l D cI cS ap 10 pf (nI i) (by first | assumption | omega)) ⟨va_cnB 2 hts gX4_spreadLossAt_X10_at_n50 rfl rfl rfl (hKK.2 _ (List.mem_of_getElem? (i := 11) rfl)) (hts (.initialized RX10) (by decide +kernel)) (by decide +kernel) ⟨Nat.le_of_ble_eq_true rfl, Nat.le_of_ble_eq_true rfl⟩, hts (.static yX10_at) (by decide +kernel), trivial⟩ (ft_preRO hP hKK [2] rfl) rfl rfl hl.1 rfl (lv_room (Nat.le_of_ble_eq_true rfl)) dX4_spreadLossAt_47 ⟨Nat.le_of_ble_eq_true rfl, Nat.le_of_ble_eq_true rfl⟩) ?_
            refine ft_top (y := pf i) (ftAt_N (by omega) (by omega)) ?_
            refine lv_isub hx hb dX4_spreadLossAt_50 ?_
            refine lv_iconst (v := 1) hx hb dX4_spreadLossAt_51 (by decide) ?_
            refine lv_iadd hx hb dX4_spreadLossAt_52 ?_
            refine lv_istore (lv' := [(5, .int (((nI X) - (pf i)) + 1)), (0, .ref a0), (1, .int (nI X)), (2, .int w), (3, .int x5_3), (4, .int (nI i))]) hx hb dX4_spreadLossAt_53 hl (by decide) rfl (fun ls hl => ?_)
            refine lv_iload_n hx hb dX4_spreadLossAt_55 rfl (lv_at hl 4 rfl) ?_
            refine lv_iload hx hb dX4_spreadLossAt_56 (lv_at hl 0 rfl) ?_
            refine lv_iload_n hx hb dX4_spreadLossAt_58 rfl (lv_at hl 3 rfl) ?_
            refine lv_icmp_lt (tgt := 74) hx hb dX4_spreadLossAt_59 (by decide) (fun c59 => ?_) (fun c59 => ?_)
            · refine lv_aload_n hx hb dX4_spreadLossAt_74 rfl (lv_at hl 1 rfl) ?_
              refine va_get (D := D) (ci := 4) (v := .ref al) (C := RX4) (T := TX4) (N := 8) hx hb hts (by decide +kernel) hown hK hP 0 rfl rfl 6 (by decide) (hts (.fieldLink RX4 18 "FiberTrace$Link" "losses" "[I") (by decide +kernel)) (fun _ h9 => h9) rfl dX4_spreadLossAt_75 ?_
              refine lv_iload hx hb dX4_spreadLossAt_78 (lv_at hl 5 rfl) ?_
              refine ft_csi (r := ftAt 10 lf (nI i)) (va_runSN (As := [.ref al, .int (nI i)]) (rest := [.int x5_3]) ⟨hx, hb, hml, hown, hts⟩ (c_X10_at l D cI cS al 10 lf (nI i) (by first | assumption | omega)) ⟨va_cnB 2 hts gX4_spreadLossAt_X10_at_n50 rfl rfl rfl (hKK.2 _ (List.mem_of_getElem? (i := 11) rfl)) (hts (.initialized RX10) (by decide +kernel)) (by decide +kernel) ⟨Nat.le_of_ble_eq_true rfl, Nat.le_of_ble_eq_true rfl⟩, hts (.static yX10_at) (by decide +kernel), trivial⟩ (ft_preRO hP hKK [3] rfl) rfl rfl hl.1 rfl (lv_room (Nat.le_of_ble_eq_true rfl)) dX4_spreadLossAt_80 ⟨Nat.le_of_ble_eq_true rfl, Nat.le_of_ble_eq_true rfl⟩) ?_
              refine ft_top (y := lf i) (ftAt_N (by omega) (by omega)) ?_
              refine lv_iload hx hb dX4_spreadLossAt_83 (lv_at hl 0 rfl) ?_
              refine lv_imul hx hb dX4_spreadLossAt_85 ?_
              refine lv_iload_n hx hb dX4_spreadLossAt_86 rfl (lv_at hl 3 rfl) ?_
              refine ft_csi (r := ftQuot ((lf i) * (((nI X) - (pf i)) + 1)) w) (va_runSN (As := [.int ((lf i) * (((nI X) - (pf i)) + 1)), .int w]) (rest := [.int x5_3]) ⟨hx, hb, hml, hown, hts⟩ (c_X10_quotient l D cI cS ((lf i) * (((nI X) - (pf i)) + 1)) w) ⟨va_cnB 2 hts gX4_spreadLossAt_X10_quotient_n70 rfl rfl rfl (hKK.2 _ (List.mem_of_getElem? (i := 17) rfl)) (hts (.initialized RX10) (by decide +kernel)) (by decide +kernel) ⟨Nat.le_of_ble_eq_true rfl, Nat.le_of_ble_eq_true rfl⟩, hts (.static yX10_quotient) (by decide +kernel), trivial⟩ (ft_preRO hP hKK [] rfl) rfl rfl hl.1 rfl (lv_room (Nat.le_of_ble_eq_true rfl)) dX4_spreadLossAt_87 ⟨Nat.le_of_ble_eq_true rfl, Nat.le_of_ble_eq_true rfl⟩) ?_
              refine lv_iadd hx hb dX4_spreadLossAt_90 ?_
              refine lv_istore_n (lv' := [(3, .int (x5_3 + (ftQuot ((lf i) * (((nI X) - (pf i)) + 1)) w))), (5, .int (((nI X) - (pf i)) + 1)), (0, .ref a0), (1, .int (nI X)), (2, .int w), (4, .int (nI i))]) hx hb dX4_spreadLossAt_91 rfl hl (by decide) rfl (fun ls hl => ?_)
              refine lv_iinc (v := nI (i + 1)) (lv' := [(4, .int (nI (i + 1))), (3, .int (x5_3 + (ftQuot ((lf i) * (((nI X) - (pf i)) + 1)) w))), (5, .int (((nI X) - (pf i)) + 1)), (0, .ref a0), (1, .int (nI X)), (2, .int w)]) hx hb dX4_spreadLossAt_92 hl (k := 5) rfl (ft_inc i) (by decide) rfl (fun ls hl => ?_)
              refine lv_goto (tgt := 5) hx hb dX4_spreadLossAt_95 (by decide) ?_
              exact ih5 (i + 1) (x5_3 + (ftQuot ((lf i) * (((nI X) - (pf i)) + 1)) w)) (nI (i + 1))  (by omega) (by omega) (by show _ = ftSpr kf pf lf (nI X) w i + (if ¬ kf i = 2 ∧ pf i ≤ nI X then ftSpr1 (lf i) (pf i) (nI X) w else 0); first | (rw [if_neg (fun q => q.1 c37), Int32.add_zero]; exact ex5_3) | (rw [if_pos ⟨c37, hple⟩, ftSpr1, if_pos (Int32.not_lt.mp c59), ex5_3]) | (rw [if_pos ⟨c37, hple⟩, ftSpr1, if_neg (Int32.not_le.mpr c59), ex5_3])) (by first | rfl | assumption)  ls (lv_sub hl [3, 4, 5, 1, 0] rfl)
            · refine lv_aload_n hx hb dX4_spreadLossAt_62 rfl (lv_at hl 1 rfl) ?_
              refine va_get (D := D) (ci := 4) (v := .ref al) (C := RX4) (T := TX4) (N := 8) hx hb hts (by decide +kernel) hown hK hP 0 rfl rfl 6 (by decide) (hts (.fieldLink RX4 18 "FiberTrace$Link" "losses" "[I") (by decide +kernel)) (fun _ h9 => h9) rfl dX4_spreadLossAt_63 ?_
              refine lv_iload hx hb dX4_spreadLossAt_66 (lv_at hl 5 rfl) ?_
              refine ft_csi (r := ftAt 10 lf (nI i)) (va_runSN (As := [.ref al, .int (nI i)]) (rest := [.int x5_3]) ⟨hx, hb, hml, hown, hts⟩ (c_X10_at l D cI cS al 10 lf (nI i) (by first | assumption | omega)) ⟨va_cnB 2 hts gX4_spreadLossAt_X10_at_n50 rfl rfl rfl (hKK.2 _ (List.mem_of_getElem? (i := 11) rfl)) (hts (.initialized RX10) (by decide +kernel)) (by decide +kernel) ⟨Nat.le_of_ble_eq_true rfl, Nat.le_of_ble_eq_true rfl⟩, hts (.static yX10_at) (by decide +kernel), trivial⟩ (ft_preRO hP hKK [3] rfl) rfl rfl hl.1 rfl (lv_room (Nat.le_of_ble_eq_true rfl)) dX4_spreadLossAt_68 ⟨Nat.le_of_ble_eq_true rfl, Nat.le_of_ble_eq_true rfl⟩) ?_
              refine ft_top (y := lf i) (ftAt_N (by omega) (by omega)) ?_
              refine lv_goto (tgt := 90) hx hb dX4_spreadLossAt_71 (by decide) ?_
              refine lv_iadd hx hb dX4_spreadLossAt_90 ?_
              refine lv_istore_n (lv' := [(3, .int (x5_3 + (lf i))), (5, .int (((nI X) - (pf i)) + 1)), (0, .ref a0), (1, .int (nI X)), (2, .int w), (4, .int (nI i))]) hx hb dX4_spreadLossAt_91 rfl hl (by decide) rfl (fun ls hl => ?_)
              refine lv_iinc (v := nI (i + 1)) (lv' := [(4, .int (nI (i + 1))), (3, .int (x5_3 + (lf i))), (5, .int (((nI X) - (pf i)) + 1)), (0, .ref a0), (1, .int (nI X)), (2, .int w)]) hx hb dX4_spreadLossAt_92 hl (k := 5) rfl (ft_inc i) (by decide) rfl (fun ls hl => ?_)
              refine lv_goto (tgt := 5) hx hb dX4_spreadLossAt_95 (by decide) ?_
              exact ih5 (i + 1) (x5_3 + (lf i)) (nI (i + 1))  (by omega) (by omega) (by show _ = ftSpr kf pf lf (nI X) w i + (if ¬ kf i = 2 ∧ pf i ≤ nI X then ftSpr1 (lf i) (pf i) (nI X) w else 0); first | (rw [if_neg (fun q => q.1 c37), Int32.add_zero]; exact ex5_3) | (rw [if_pos ⟨c37, hple⟩, ftSpr1, if_pos (Int32.not_lt.mp c59), ex5_3]) | (rw [if_pos ⟨c37, hple⟩, ftSpr1, if_neg (Int32.not_le.mpr c59), ex5_3])) (by first | rfl | assumption)  ls (lv_sub hl [3, 4, 5, 1, 0] rfl)
  exact lp5 _ 0 0 0  (Nat.lt_succ_self _) (by omega) (by rfl) (by rfl) ls (lv_sub hl [2, 3, 4, 1, 0] rfl)
set_option maxHeartbeats 4000000 in
set_option maxRecDepth 100000 in
theorem c_X4_reset (l : Launch) (D : va_G) (cI cS : ClassId) (sz : Nat) (a0 : Nat) (len att en : Int32) (n ak ap al ar : Nat)  : Met l yX4_reset wsX4_reset ({ frames := 0, cells := 0, slots := 0, locals := 0 }) (ftRW D cI cS [.ref a0] [(a0, .inr (4, [.int len, .int att, .int en, .int (nI n), .ref ak, .ref ap, .ref al, .ref ar]))] sz) (ftQv D [(a0, .inr (4, [.int len, .int att, .int en, .int (nI n), .ref ak, .ref ap, .ref al, .ref ar]))] [(a0, .inr (4, [.int 200, .int 10, .int 12000, .int 0, .ref ak, .ref ap, .ref al, .ref ar]))] sz) 0 0 (va_A [(a0, .inr (4, [.int len, .int att, .int en, .int (nI n), .ref ak, .ref ap, .ref al, .ref ar]))] sz) := by
  refine Met.ofW (cc := cX4_reset) (maxL := 1) (ret := none) (by decide) rfl ?_
  intro p e s m args below meth c s₁ B hml hv
  obtain ⟨rfl, hsz, hP, hKK, hD0⟩ := hv
  have hK := hKK.1
  have hx := B.exec
  have hb := B.bytes
  have hr := B.returns
  have hts := atoms_spec (ws := wsX4_reset) B.pre
  have hown : s.vm.findClass RX4 = some m.cls := findClass_of_methodNamed B.named
  have hlocks := B.notSynchronized
  subst hsz
  have hD := hD0.self (sz := s.heap.size)
  generalize hAe : va_A [(a0, .inr (4, [.int len, .int att, .int en, .int (nI n), .ref ak, .ref ap, .ref al, .ref ar]))] s.heap.size = A at hD ⊢
  have hA : ∀ q : Nat, s.heap.size ≤ q → A q := fun q h => by rw [← hAe]; exact Or.inr h
  have hS : va_S A s.heap s.heap [] := va_S.rf
  have hD : va_D A [(a0, .inr (4, [.int len, .int att, .int en, .int (nI n), .ref ak, .ref ap, .ref al, .ref ar]))] := hD
  have hP : va_P D vwCl [(a0, .inr (4, [.int len, .int att, .int en, .int (nI n), .ref ak, .ref ap, .ref al, .ref ar]))] s.heap := hP
  have hl := lv_entry ([.ref a0]) (n := 1) (Nat.le_of_ble_eq_true rfl)
  rw [lg_entry_eq]
  generalize (lg_sl ([.ref a0]) ++ List.replicate (1 - (lg_sl ([.ref a0])).length) Slot.unset).toArray = ls at hl ⊢
  have hl : lv_has ls 1 [(0, .ref a0)] := hl
  refine lv_aload_n hx hb dX4_reset_0 rfl (lv_at hl 0 rfl) ?_
  refine lv_sipush (v := 200) hx hb dX4_reset_1 (by decide) ?_
  refine va_put (D := D) (ci := 4) (v := .int 200) (ty := .int) (C := RX4) (T := TX4) (N := 8) hx hb hts (by decide +kernel) tyX4 tyX4_ok nmX4 hown hK hP hD hS 0 rfl rfl 0 (by decide) (hts (.fieldLink RX4 27 "FiberTrace$Link" "length" "I") (by decide +kernel)) (fun _ h9 => h9) rfl (by decide +kernel) rfl rfl (Nat.le_of_ble_eq_true rfl) dX4_reset_4 (fun H locs hP hD hS => ?_)
  have hP : va_P D vwCl [(a0, .inr (4, [.int 200, .int att, .int en, .int (nI n), .ref ak, .ref ap, .ref al, .ref ar]))] H := hP
  have hD : va_D A [(a0, .inr (4, [.int 200, .int att, .int en, .int (nI n), .ref ak, .ref ap, .ref al, .ref ar]))] := hD
  refine lv_aload_n hx hb dX4_reset_7 rfl (lv_at hl 0 rfl) ?_
  refine lv_bipush (v := 10) hx hb dX4_reset_8 (by decide) ?_
  refine va_put (D := D) (ci := 4) (v := .int 10) (ty := .int) (C := RX4) (T := TX4) (N := 8) hx hb hts (by decide +kernel) tyX4 tyX4_ok nmX4 hown hK hP hD hS 0 rfl rfl 1 (by decide) (hts (.fieldLink RX4 31 "FiberTrace$Link" "attenuation" "I") (by decide +kernel)) (fun _ h9 => h9) rfl (by decide +kernel) rfl rfl (Nat.le_of_ble_eq_true rfl) dX4_reset_10 (fun H locs hP hD hS => ?_)
  have hP : va_P D vwCl [(a0, .inr (4, [.int 200, .int 10, .int en, .int (nI n), .ref ak, .ref ap, .ref al, .ref ar]))] H := hP
  have hD : va_D A [(a0, .inr (4, [.int 200, .int 10, .int en, .int (nI n), .ref ak, .ref ap, .ref al, .ref ar]))] := hD
  refine lv_aload_n hx hb dX4_reset_13 rfl (lv_at hl 0 rfl) ?_
  refine lv_sipush (v := 12000) hx hb dX4_reset_14 (by decide) ?_
  refine va_put (D := D) (ci := 4) (v := .int 12000) (ty := .int) (C := RX4) (T := TX4) (N := 8) hx hb hts (by decide +kernel) tyX4 tyX4_ok nmX4 hown hK hP hD hS 0 rfl rfl 2 (by decide) (hts (.fieldLink RX4 34 "FiberTrace$Link" "end" "I") (by decide +kernel)) (fun _ h9 => h9) rfl (by decide +kernel) rfl rfl (Nat.le_of_ble_eq_true rfl) dX4_reset_17 (fun H locs hP hD hS => ?_)
  have hP : va_P D vwCl [(a0, .inr (4, [.int 200, .int 10, .int 12000, .int (nI n), .ref ak, .ref ap, .ref al, .ref ar]))] H := hP
  have hD : va_D A [(a0, .inr (4, [.int 200, .int 10, .int 12000, .int (nI n), .ref ak, .ref ap, .ref al, .ref ar]))] := hD
  refine lv_aload_n hx hb dX4_reset_20 rfl (lv_at hl 0 rfl) ?_
  refine lv_iconst (v := 0) hx hb dX4_reset_21 (by decide) ?_
  refine va_put (D := D) (ci := 4) (v := .int 0) (ty := .int) (C := RX4) (T := TX4) (N := 8) hx hb hts (by decide +kernel) tyX4 tyX4_ok nmX4 hown hK hP hD hS 0 rfl rfl 3 (by decide) (hts (.fieldLink RX4 37 "FiberTrace$Link" "size" "I") (by decide +kernel)) (fun _ h9 => h9) rfl (by decide +kernel) rfl rfl (Nat.le_of_ble_eq_true rfl) dX4_reset_22 (fun H locs hP hD hS => ?_)
  have hP : va_P D vwCl [(a0, .inr (4, [.int 200, .int 10, .int 12000, .int 0, .ref ak, .ref ap, .ref al, .ref ar]))] H := hP
  have hD : va_D A [(a0, .inr (4, [.int 200, .int 10, .int 12000, .int 0, .ref ak, .ref ap, .ref al, .ref ar]))] := hD
  have hw9 : ([(a0, .inr (4, [.int 200, .int 10, .int 12000, .int 0, .ref ak, .ref ap, .ref al, .ref ar]))] : va_W) = [(a0, .inr (4, [.int 200, .int 10, .int 12000, .int 0, .ref ak, .ref ap, .ref al, .ref ar]))] := rfl
  rw [hw9] at hP hD
  exact W.vret hx hb hr (fun t ht hW => ⟨⟨(), rfl, trivial, by rw [ht]; exact hP, by rw [hAe]; exact hD⟩, by rw [hAe]; exact hS.F ht⟩) hS.2.2 dX4_reset_25
set_option maxHeartbeats 4000000 in
set_option maxRecDepth 100000 in
theorem c_X4_copyFrom (l : Launch) (D : va_G) (cI cS : ClassId) (sz : Nat) (a0 : Nat) (len att en : Int32) (n ak ap al ar : Nat) (kf pf lf rf : Nat → Int32) (b0 : Nat) (len2 att2 en2 : Int32) (n2 bk bp bl br : Nat) (kg pg lg rg : Nat → Int32)  : Met l yX4_copyFrom wsX4_copyFrom ({ frames := 1, cells := 0, slots := 0, locals := 30 }) (ftRW D cI cS [.ref a0, .ref b0] [(a0, .inr (4, [.int len, .int att, .int en, .int (nI n), .ref ak, .ref ap, .ref al, .ref ar])), (ak, .inl (cI, 10, .inl kf)), (ap, .inl (cI, 10, .inl pf)), (al, .inl (cI, 10, .inl lf)), (ar, .inl (cI, 10, .inl rf)), (b0, .inr (4, [.int len2, .int att2, .int en2, .int (nI n2), .ref bk, .ref bp, .ref bl, .ref br])), (bk, .inl (cI, 10, .inl kg)), (bp, .inl (cI, 10, .inl pg)), (bl, .inl (cI, 10, .inl lg)), (br, .inl (cI, 10, .inl rg))] sz) (ftQv D [(a0, .inr (4, [.int len, .int att, .int en, .int (nI n), .ref ak, .ref ap, .ref al, .ref ar])), (ak, .inl (cI, 10, .inl kf)), (ap, .inl (cI, 10, .inl pf)), (al, .inl (cI, 10, .inl lf)), (ar, .inl (cI, 10, .inl rf)), (b0, .inr (4, [.int len2, .int att2, .int en2, .int (nI n2), .ref bk, .ref bp, .ref bl, .ref br])), (bk, .inl (cI, 10, .inl kg)), (bp, .inl (cI, 10, .inl pg)), (bl, .inl (cI, 10, .inl lg)), (br, .inl (cI, 10, .inl rg))] [(a0, .inr (4, [.int len2, .int att2, .int en2, .int (nI n2), .ref ak, .ref ap, .ref al, .ref ar])), (ak, .inl (cI, 10, .inl (va_cpy kg kf 0 0 10))), (ap, .inl (cI, 10, .inl (va_cpy pg pf 0 0 10))), (al, .inl (cI, 10, .inl (va_cpy lg lf 0 0 10))), (ar, .inl (cI, 10, .inl (va_cpy rg rf 0 0 10))), (b0, .inr (4, [.int len2, .int att2, .int en2, .int (nI n2), .ref bk, .ref bp, .ref bl, .ref br])), (bk, .inl (cI, 10, .inl kg)), (bp, .inl (cI, 10, .inl pg)), (bl, .inl (cI, 10, .inl lg)), (br, .inl (cI, 10, .inl rg))] sz) 0 0 (va_A [(a0, .inr (4, [.int len, .int att, .int en, .int (nI n), .ref ak, .ref ap, .ref al, .ref ar])), (ak, .inl (cI, 10, .inl kf)), (ap, .inl (cI, 10, .inl pf)), (al, .inl (cI, 10, .inl lf)), (ar, .inl (cI, 10, .inl rf)), (b0, .inr (4, [.int len2, .int att2, .int en2, .int (nI n2), .ref bk, .ref bp, .ref bl, .ref br])), (bk, .inl (cI, 10, .inl kg)), (bp, .inl (cI, 10, .inl pg)), (bl, .inl (cI, 10, .inl lg)), (br, .inl (cI, 10, .inl rg))] sz) := by
  refine Met.ofW (cc := cX4_copyFrom) (maxL := 2) (ret := none) (by decide) rfl ?_
  intro p e s m args below meth c s₁ B hml hv
  obtain ⟨rfl, hsz, hP, hKK, hD0⟩ := hv
  have hK := hKK.1
  have hx := B.exec
  have hb := B.bytes
  have hr := B.returns
  have hts := atoms_spec (ws := wsX4_copyFrom) B.pre
  have hown : s.vm.findClass RX4 = some m.cls := findClass_of_methodNamed B.named
  have hlocks := B.notSynchronized
  subst hsz
  have hD := hD0.self (sz := s.heap.size)
  generalize hAe : va_A [(a0, .inr (4, [.int len, .int att, .int en, .int (nI n), .ref ak, .ref ap, .ref al, .ref ar])), (ak, .inl (cI, 10, .inl kf)), (ap, .inl (cI, 10, .inl pf)), (al, .inl (cI, 10, .inl lf)), (ar, .inl (cI, 10, .inl rf)), (b0, .inr (4, [.int len2, .int att2, .int en2, .int (nI n2), .ref bk, .ref bp, .ref bl, .ref br])), (bk, .inl (cI, 10, .inl kg)), (bp, .inl (cI, 10, .inl pg)), (bl, .inl (cI, 10, .inl lg)), (br, .inl (cI, 10, .inl rg))] s.heap.size = A at hD ⊢
  have hA : ∀ q : Nat, s.heap.size ≤ q → A q := fun q h => by rw [← hAe]; exact Or.inr h
  have hS : va_S A s.heap s.heap [] := va_S.rf
  have hD : va_D A [(a0, .inr (4, [.int len, .int att, .int en, .int (nI n), .ref ak, .ref ap, .ref al, .ref ar])), (ak, .inl (cI, 10, .inl kf)), (ap, .inl (cI, 10, .inl pf)), (al, .inl (cI, 10, .inl lf)), (ar, .inl (cI, 10, .inl rf)), (b0, .inr (4, [.int len2, .int att2, .int en2, .int (nI n2), .ref bk, .ref bp, .ref bl, .ref br])), (bk, .inl (cI, 10, .inl kg)), (bp, .inl (cI, 10, .inl pg)), (bl, .inl (cI, 10, .inl lg)), (br, .inl (cI, 10, .inl rg))] := hD
  have hP : va_P D vwCl [(a0, .inr (4, [.int len, .int att, .int en, .int (nI n), .ref ak, .ref ap, .ref al, .ref ar])), (ak, .inl (cI, 10, .inl kf)), (ap, .inl (cI, 10, .inl pf)), (al, .inl (cI, 10, .inl lf)), (ar, .inl (cI, 10, .inl rf)), (b0, .inr (4, [.int len2, .int att2, .int en2, .int (nI n2), .ref bk, .ref bp, .ref bl, .ref br])), (bk, .inl (cI, 10, .inl kg)), (bp, .inl (cI, 10, .inl pg)), (bl, .inl (cI, 10, .inl lg)), (br, .inl (cI, 10, .inl rg))] s.heap := hP
  have hl := lv_entry ([.ref a0, .ref b0]) (n := 2) (Nat.le_of_ble_eq_true rfl)
  rw [lg_entry_eq]
  generalize (lg_sl ([.ref a0, .ref b0]) ++ List.replicate (2 - (lg_sl ([.ref a0, .ref b0])).length) Slot.unset).toArray = ls at hl ⊢
  have hl : lv_has ls 2 [(0, .ref a0), (1, .ref b0)] := hl
  refine lv_aload_n hx hb dX4_copyFrom_0 rfl (lv_at hl 0 rfl) ?_
  refine lv_aload_n hx hb dX4_copyFrom_1 rfl (lv_at hl 1 rfl) ?_
  refine va_get (D := D) (ci := 4) (v := .int len2) (C := RX4) (T := TX4) (N := 8) hx hb hts (by decide +kernel) hown hK hP 5 rfl rfl 0 (by decide) (hts (.fieldLink RX4 27 "FiberTrace$Link" "length" "I") (by decide +kernel)) (fun _ h9 => h9) rfl dX4_copyFrom_2 ?_
  refine va_put (D := D) (ci := 4) (v := .int len2) (ty := .int) (C := RX4) (T := TX4) (N := 8) hx hb hts (by decide +kernel) tyX4 tyX4_ok nmX4 hown hK hP hD hS 0 rfl rfl 0 (by decide) (hts (.fieldLink RX4 27 "FiberTrace$Link" "length" "I") (by decide +kernel)) (fun _ h9 => h9) rfl (by decide +kernel) rfl rfl (Nat.le_of_ble_eq_true rfl) dX4_copyFrom_5 (fun H locs hP hD hS => ?_)
  have hP : va_P D vwCl [(a0, .inr (4, [.int len2, .int att, .int en, .int (nI n), .ref ak, .ref ap, .ref al, .ref ar])), (ak, .inl (cI, 10, .inl kf)), (ap, .inl (cI, 10, .inl pf)), (al, .inl (cI, 10, .inl lf)), (ar, .inl (cI, 10, .inl rf)), (b0, .inr (4, [.int len2, .int att2, .int en2, .int (nI n2), .ref bk, .ref bp, .ref bl, .ref br])), (bk, .inl (cI, 10, .inl kg)), (bp, .inl (cI, 10, .inl pg)), (bl, .inl (cI, 10, .inl lg)), (br, .inl (cI, 10, .inl rg))] H := hP
  have hD : va_D A [(a0, .inr (4, [.int len2, .int att, .int en, .int (nI n), .ref ak, .ref ap, .ref al, .ref ar])), (ak, .inl (cI, 10, .inl kf)), (ap, .inl (cI, 10, .inl pf)), (al, .inl (cI, 10, .inl lf)), (ar, .inl (cI, 10, .inl rf)), (b0, .inr (4, [.int len2, .int att2, .int en2, .int (nI n2), .ref bk, .ref bp, .ref bl, .ref br])), (bk, .inl (cI, 10, .inl kg)), (bp, .inl (cI, 10, .inl pg)), (bl, .inl (cI, 10, .inl lg)), (br, .inl (cI, 10, .inl rg))] := hD
  refine lv_aload_n hx hb dX4_copyFrom_8 rfl (lv_at hl 0 rfl) ?_
  refine lv_aload_n hx hb dX4_copyFrom_9 rfl (lv_at hl 1 rfl) ?_
  refine va_get (D := D) (ci := 4) (v := .int att2) (C := RX4) (T := TX4) (N := 8) hx hb hts (by decide +kernel) hown hK hP 5 rfl rfl 1 (by decide) (hts (.fieldLink RX4 31 "FiberTrace$Link" "attenuation" "I") (by decide +kernel)) (fun _ h9 => h9) rfl dX4_copyFrom_10 ?_
  refine va_put (D := D) (ci := 4) (v := .int att2) (ty := .int) (C := RX4) (T := TX4) (N := 8) hx hb hts (by decide +kernel) tyX4 tyX4_ok nmX4 hown hK hP hD hS 0 rfl rfl 1 (by decide) (hts (.fieldLink RX4 31 "FiberTrace$Link" "attenuation" "I") (by decide +kernel)) (fun _ h9 => h9) rfl (by decide +kernel) rfl rfl (Nat.le_of_ble_eq_true rfl) dX4_copyFrom_13 (fun H locs hP hD hS => ?_)
  have hP : va_P D vwCl [(a0, .inr (4, [.int len2, .int att2, .int en, .int (nI n), .ref ak, .ref ap, .ref al, .ref ar])), (ak, .inl (cI, 10, .inl kf)), (ap, .inl (cI, 10, .inl pf)), (al, .inl (cI, 10, .inl lf)), (ar, .inl (cI, 10, .inl rf)), (b0, .inr (4, [.int len2, .int att2, .int en2, .int (nI n2), .ref bk, .ref bp, .ref bl, .ref br])), (bk, .inl (cI, 10, .inl kg)), (bp, .inl (cI, 10, .inl pg)), (bl, .inl (cI, 10, .inl lg)), (br, .inl (cI, 10, .inl rg))] H := hP
  have hD : va_D A [(a0, .inr (4, [.int len2, .int att2, .int en, .int (nI n), .ref ak, .ref ap, .ref al, .ref ar])), (ak, .inl (cI, 10, .inl kf)), (ap, .inl (cI, 10, .inl pf)), (al, .inl (cI, 10, .inl lf)), (ar, .inl (cI, 10, .inl rf)), (b0, .inr (4, [.int len2, .int att2, .int en2, .int (nI n2), .ref bk, .ref bp, .ref bl, .ref br])), (bk, .inl (cI, 10, .inl kg)), (bp, .inl (cI, 10, .inl pg)), (bl, .inl (cI, 10, .inl lg)), (br, .inl (cI, 10, .inl rg))] := hD
  refine lv_aload_n hx hb dX4_copyFrom_16 rfl (lv_at hl 0 rfl) ?_
  refine lv_aload_n hx hb dX4_copyFrom_17 rfl (lv_at hl 1 rfl) ?_
  refine va_get (D := D) (ci := 4) (v := .int en2) (C := RX4) (T := TX4) (N := 8) hx hb hts (by decide +kernel) hown hK hP 5 rfl rfl 2 (by decide) (hts (.fieldLink RX4 34 "FiberTrace$Link" "end" "I") (by decide +kernel)) (fun _ h9 => h9) rfl dX4_copyFrom_18 ?_
  refine va_put (D := D) (ci := 4) (v := .int en2) (ty := .int) (C := RX4) (T := TX4) (N := 8) hx hb hts (by decide +kernel) tyX4 tyX4_ok nmX4 hown hK hP hD hS 0 rfl rfl 2 (by decide) (hts (.fieldLink RX4 34 "FiberTrace$Link" "end" "I") (by decide +kernel)) (fun _ h9 => h9) rfl (by decide +kernel) rfl rfl (Nat.le_of_ble_eq_true rfl) dX4_copyFrom_21 (fun H locs hP hD hS => ?_)
  have hP : va_P D vwCl [(a0, .inr (4, [.int len2, .int att2, .int en2, .int (nI n), .ref ak, .ref ap, .ref al, .ref ar])), (ak, .inl (cI, 10, .inl kf)), (ap, .inl (cI, 10, .inl pf)), (al, .inl (cI, 10, .inl lf)), (ar, .inl (cI, 10, .inl rf)), (b0, .inr (4, [.int len2, .int att2, .int en2, .int (nI n2), .ref bk, .ref bp, .ref bl, .ref br])), (bk, .inl (cI, 10, .inl kg)), (bp, .inl (cI, 10, .inl pg)), (bl, .inl (cI, 10, .inl lg)), (br, .inl (cI, 10, .inl rg))] H := hP
  have hD : va_D A [(a0, .inr (4, [.int len2, .int att2, .int en2, .int (nI n), .ref ak, .ref ap, .ref al, .ref ar])), (ak, .inl (cI, 10, .inl kf)), (ap, .inl (cI, 10, .inl pf)), (al, .inl (cI, 10, .inl lf)), (ar, .inl (cI, 10, .inl rf)), (b0, .inr (4, [.int len2, .int att2, .int en2, .int (nI n2), .ref bk, .ref bp, .ref bl, .ref br])), (bk, .inl (cI, 10, .inl kg)), (bp, .inl (cI, 10, .inl pg)), (bl, .inl (cI, 10, .inl lg)), (br, .inl (cI, 10, .inl rg))] := hD
  refine lv_aload_n hx hb dX4_copyFrom_24 rfl (lv_at hl 0 rfl) ?_
  refine lv_aload_n hx hb dX4_copyFrom_25 rfl (lv_at hl 1 rfl) ?_
  refine va_get (D := D) (ci := 4) (v := .int (nI n2)) (C := RX4) (T := TX4) (N := 8) hx hb hts (by decide +kernel) hown hK hP 5 rfl rfl 3 (by decide) (hts (.fieldLink RX4 37 "FiberTrace$Link" "size" "I") (by decide +kernel)) (fun _ h9 => h9) rfl dX4_copyFrom_26 ?_
  refine va_put (D := D) (ci := 4) (v := .int (nI n2)) (ty := .int) (C := RX4) (T := TX4) (N := 8) hx hb hts (by decide +kernel) tyX4 tyX4_ok nmX4 hown hK hP hD hS 0 rfl rfl 3 (by decide) (hts (.fieldLink RX4 37 "FiberTrace$Link" "size" "I") (by decide +kernel)) (fun _ h9 => h9) rfl (by decide +kernel) rfl rfl (Nat.le_of_ble_eq_true rfl) dX4_copyFrom_29 (fun H locs hP hD hS => ?_)
  have hP : va_P D vwCl [(a0, .inr (4, [.int len2, .int att2, .int en2, .int (nI n2), .ref ak, .ref ap, .ref al, .ref ar])), (ak, .inl (cI, 10, .inl kf)), (ap, .inl (cI, 10, .inl pf)), (al, .inl (cI, 10, .inl lf)), (ar, .inl (cI, 10, .inl rf)), (b0, .inr (4, [.int len2, .int att2, .int en2, .int (nI n2), .ref bk, .ref bp, .ref bl, .ref br])), (bk, .inl (cI, 10, .inl kg)), (bp, .inl (cI, 10, .inl pg)), (bl, .inl (cI, 10, .inl lg)), (br, .inl (cI, 10, .inl rg))] H := hP
  have hD : va_D A [(a0, .inr (4, [.int len2, .int att2, .int en2, .int (nI n2), .ref ak, .ref ap, .ref al, .ref ar])), (ak, .inl (cI, 10, .inl kf)), (ap, .inl (cI, 10, .inl pf)), (al, .inl (cI, 10, .inl lf)), (ar, .inl (cI, 10, .inl rf)), (b0, .inr (4, [.int len2, .int att2, .int en2, .int (nI n2), .ref bk, .ref bp, .ref bl, .ref br])), (bk, .inl (cI, 10, .inl kg)), (bp, .inl (cI, 10, .inl pg)), (bl, .inl (cI, 10, .inl lg)), (br, .inl (cI, 10, .inl rg))] := hD
  refine lv_aload_n hx hb dX4_copyFrom_32 rfl (lv_at hl 1 rfl) ?_
  refine va_get (D := D) (ci := 4) (v := .ref bk) (C := RX4) (T := TX4) (N := 8) hx hb hts (by decide +kernel) hown hK hP 5 rfl rfl 4 (by decide) (hts (.fieldLink RX4 9 "FiberTrace$Link" "kinds" "[I") (by decide +kernel)) (fun _ h9 => h9) rfl dX4_copyFrom_33 ?_
  refine lv_iconst (v := 0) hx hb dX4_copyFrom_36 (by decide) ?_
  refine lv_aload_n hx hb dX4_copyFrom_37 rfl (lv_at hl 0 rfl) ?_
  refine va_get (D := D) (ci := 4) (v := .ref ak) (C := RX4) (T := TX4) (N := 8) hx hb hts (by decide +kernel) hown hK hP 0 rfl rfl 4 (by decide) (hts (.fieldLink RX4 9 "FiberTrace$Link" "kinds" "[I") (by decide +kernel)) (fun _ h9 => h9) rfl dX4_copyFrom_38 ?_
  refine lv_iconst (v := 0) hx hb dX4_copyFrom_41 (by decide) ?_
  refine lv_bipush (v := 10) hx hb dX4_copyFrom_42 (by decide) ?_
  refine va_copyi hx hb (hml.trans hl.1.symm) hown (hts (.methodLink RX4 40 arraycopyName) (by decide +kernel)) (hts (.native arraycopyName) (by decide +kernel)) (hts (.static arraycopyName) (by decide +kernel)) (hts (.initialized "java/lang/System") (by decide +kernel)) hK hP hD hS 6 1 0 0 rfl rfl rfl rfl rfl (by decide) (by decide) (by decide) (by decide) (by decide) (fun _ _ => rfl) (Nat.le_of_ble_eq_true rfl) (Nat.le_of_ble_eq_true rfl) dX4_copyFrom_44 (fun H locs hP hD hS => ?_)
  have hP : va_P D vwCl [(a0, .inr (4, [.int len2, .int att2, .int en2, .int (nI n2), .ref ak, .ref ap, .ref al, .ref ar])), (ak, .inl (cI, 10, .inl (va_cpy kg kf 0 0 10))), (ap, .inl (cI, 10, .inl pf)), (al, .inl (cI, 10, .inl lf)), (ar, .inl (cI, 10, .inl rf)), (b0, .inr (4, [.int len2, .int att2, .int en2, .int (nI n2), .ref bk, .ref bp, .ref bl, .ref br])), (bk, .inl (cI, 10, .inl kg)), (bp, .inl (cI, 10, .inl pg)), (bl, .inl (cI, 10, .inl lg)), (br, .inl (cI, 10, .inl rg))] H := hP
  have hD : va_D A [(a0, .inr (4, [.int len2, .int att2, .int en2, .int (nI n2), .ref ak, .ref ap, .ref al, .ref ar])), (ak, .inl (cI, 10, .inl (va_cpy kg kf 0 0 10))), (ap, .inl (cI, 10, .inl pf)), (al, .inl (cI, 10, .inl lf)), (ar, .inl (cI, 10, .inl rf)), (b0, .inr (4, [.int len2, .int att2, .int en2, .int (nI n2), .ref bk, .ref bp, .ref bl, .ref br])), (bk, .inl (cI, 10, .inl kg)), (bp, .inl (cI, 10, .inl pg)), (bl, .inl (cI, 10, .inl lg)), (br, .inl (cI, 10, .inl rg))] := hD
  refine lv_aload_n hx hb dX4_copyFrom_47 rfl (lv_at hl 1 rfl) ?_
  refine va_get (D := D) (ci := 4) (v := .ref bp) (C := RX4) (T := TX4) (N := 8) hx hb hts (by decide +kernel) hown hK hP 5 rfl rfl 5 (by decide) (hts (.fieldLink RX4 15 "FiberTrace$Link" "places" "[I") (by decide +kernel)) (fun _ h9 => h9) rfl dX4_copyFrom_48 ?_
  refine lv_iconst (v := 0) hx hb dX4_copyFrom_51 (by decide) ?_
  refine lv_aload_n hx hb dX4_copyFrom_52 rfl (lv_at hl 0 rfl) ?_
  refine va_get (D := D) (ci := 4) (v := .ref ap) (C := RX4) (T := TX4) (N := 8) hx hb hts (by decide +kernel) hown hK hP 0 rfl rfl 5 (by decide) (hts (.fieldLink RX4 15 "FiberTrace$Link" "places" "[I") (by decide +kernel)) (fun _ h9 => h9) rfl dX4_copyFrom_53 ?_
  refine lv_iconst (v := 0) hx hb dX4_copyFrom_56 (by decide) ?_
  refine lv_bipush (v := 10) hx hb dX4_copyFrom_57 (by decide) ?_
  refine va_copyi hx hb (hml.trans hl.1.symm) hown (hts (.methodLink RX4 40 arraycopyName) (by decide +kernel)) (hts (.native arraycopyName) (by decide +kernel)) (hts (.static arraycopyName) (by decide +kernel)) (hts (.initialized "java/lang/System") (by decide +kernel)) hK hP hD hS 7 2 0 0 rfl rfl rfl rfl rfl (by decide) (by decide) (by decide) (by decide) (by decide) (fun _ _ => rfl) (Nat.le_of_ble_eq_true rfl) (Nat.le_of_ble_eq_true rfl) dX4_copyFrom_59 (fun H locs hP hD hS => ?_)
  have hP : va_P D vwCl [(a0, .inr (4, [.int len2, .int att2, .int en2, .int (nI n2), .ref ak, .ref ap, .ref al, .ref ar])), (ak, .inl (cI, 10, .inl (va_cpy kg kf 0 0 10))), (ap, .inl (cI, 10, .inl (va_cpy pg pf 0 0 10))), (al, .inl (cI, 10, .inl lf)), (ar, .inl (cI, 10, .inl rf)), (b0, .inr (4, [.int len2, .int att2, .int en2, .int (nI n2), .ref bk, .ref bp, .ref bl, .ref br])), (bk, .inl (cI, 10, .inl kg)), (bp, .inl (cI, 10, .inl pg)), (bl, .inl (cI, 10, .inl lg)), (br, .inl (cI, 10, .inl rg))] H := hP
  have hD : va_D A [(a0, .inr (4, [.int len2, .int att2, .int en2, .int (nI n2), .ref ak, .ref ap, .ref al, .ref ar])), (ak, .inl (cI, 10, .inl (va_cpy kg kf 0 0 10))), (ap, .inl (cI, 10, .inl (va_cpy pg pf 0 0 10))), (al, .inl (cI, 10, .inl lf)), (ar, .inl (cI, 10, .inl rf)), (b0, .inr (4, [.int len2, .int att2, .int en2, .int (nI n2), .ref bk, .ref bp, .ref bl, .ref br])), (bk, .inl (cI, 10, .inl kg)), (bp, .inl (cI, 10, .inl pg)), (bl, .inl (cI, 10, .inl lg)), (br, .inl (cI, 10, .inl rg))] := hD
  refine lv_aload_n hx hb dX4_copyFrom_62 rfl (lv_at hl 1 rfl) ?_
  refine va_get (D := D) (ci := 4) (v := .ref bl) (C := RX4) (T := TX4) (N := 8) hx hb hts (by decide +kernel) hown hK hP 5 rfl rfl 6 (by decide) (hts (.fieldLink RX4 18 "FiberTrace$Link" "losses" "[I") (by decide +kernel)) (fun _ h9 => h9) rfl dX4_copyFrom_63 ?_
  refine lv_iconst (v := 0) hx hb dX4_copyFrom_66 (by decide) ?_
  refine lv_aload_n hx hb dX4_copyFrom_67 rfl (lv_at hl 0 rfl) ?_
  refine va_get (D := D) (ci := 4) (v := .ref al) (C := RX4) (T := TX4) (N := 8) hx hb hts (by decide +kernel) hown hK hP 0 rfl rfl 6 (by decide) (hts (.fieldLink RX4 18 "FiberTrace$Link" "losses" "[I") (by decide +kernel)) (fun _ h9 => h9) rfl dX4_copyFrom_68 ?_
  refine lv_iconst (v := 0) hx hb dX4_copyFrom_71 (by decide) ?_
  refine lv_bipush (v := 10) hx hb dX4_copyFrom_72 (by decide) ?_
  refine va_copyi hx hb (hml.trans hl.1.symm) hown (hts (.methodLink RX4 40 arraycopyName) (by decide +kernel)) (hts (.native arraycopyName) (by decide +kernel)) (hts (.static arraycopyName) (by decide +kernel)) (hts (.initialized "java/lang/System") (by decide +kernel)) hK hP hD hS 8 3 0 0 rfl rfl rfl rfl rfl (by decide) (by decide) (by decide) (by decide) (by decide) (fun _ _ => rfl) (Nat.le_of_ble_eq_true rfl) (Nat.le_of_ble_eq_true rfl) dX4_copyFrom_74 (fun H locs hP hD hS => ?_)
  have hP : va_P D vwCl [(a0, .inr (4, [.int len2, .int att2, .int en2, .int (nI n2), .ref ak, .ref ap, .ref al, .ref ar])), (ak, .inl (cI, 10, .inl (va_cpy kg kf 0 0 10))), (ap, .inl (cI, 10, .inl (va_cpy pg pf 0 0 10))), (al, .inl (cI, 10, .inl (va_cpy lg lf 0 0 10))), (ar, .inl (cI, 10, .inl rf)), (b0, .inr (4, [.int len2, .int att2, .int en2, .int (nI n2), .ref bk, .ref bp, .ref bl, .ref br])), (bk, .inl (cI, 10, .inl kg)), (bp, .inl (cI, 10, .inl pg)), (bl, .inl (cI, 10, .inl lg)), (br, .inl (cI, 10, .inl rg))] H := hP
  have hD : va_D A [(a0, .inr (4, [.int len2, .int att2, .int en2, .int (nI n2), .ref ak, .ref ap, .ref al, .ref ar])), (ak, .inl (cI, 10, .inl (va_cpy kg kf 0 0 10))), (ap, .inl (cI, 10, .inl (va_cpy pg pf 0 0 10))), (al, .inl (cI, 10, .inl (va_cpy lg lf 0 0 10))), (ar, .inl (cI, 10, .inl rf)), (b0, .inr (4, [.int len2, .int att2, .int en2, .int (nI n2), .ref bk, .ref bp, .ref bl, .ref br])), (bk, .inl (cI, 10, .inl kg)), (bp, .inl (cI, 10, .inl pg)), (bl, .inl (cI, 10, .inl lg)), (br, .inl (cI, 10, .inl rg))] := hD
  refine lv_aload_n hx hb dX4_copyFrom_77 rfl (lv_at hl 1 rfl) ?_
  refine va_get (D := D) (ci := 4) (v := .ref br) (C := RX4) (T := TX4) (N := 8) hx hb hts (by decide +kernel) hown hK hP 5 rfl rfl 7 (by decide) (hts (.fieldLink RX4 21 "FiberTrace$Link" "reflections" "[I") (by decide +kernel)) (fun _ h9 => h9) rfl dX4_copyFrom_78 ?_
  refine lv_iconst (v := 0) hx hb dX4_copyFrom_81 (by decide) ?_
  refine lv_aload_n hx hb dX4_copyFrom_82 rfl (lv_at hl 0 rfl) ?_
  refine va_get (D := D) (ci := 4) (v := .ref ar) (C := RX4) (T := TX4) (N := 8) hx hb hts (by decide +kernel) hown hK hP 0 rfl rfl 7 (by decide) (hts (.fieldLink RX4 21 "FiberTrace$Link" "reflections" "[I") (by decide +kernel)) (fun _ h9 => h9) rfl dX4_copyFrom_83 ?_
  refine lv_iconst (v := 0) hx hb dX4_copyFrom_86 (by decide) ?_
  refine lv_bipush (v := 10) hx hb dX4_copyFrom_87 (by decide) ?_
  refine va_copyi hx hb (hml.trans hl.1.symm) hown (hts (.methodLink RX4 40 arraycopyName) (by decide +kernel)) (hts (.native arraycopyName) (by decide +kernel)) (hts (.static arraycopyName) (by decide +kernel)) (hts (.initialized "java/lang/System") (by decide +kernel)) hK hP hD hS 9 4 0 0 rfl rfl rfl rfl rfl (by decide) (by decide) (by decide) (by decide) (by decide) (fun _ _ => rfl) (Nat.le_of_ble_eq_true rfl) (Nat.le_of_ble_eq_true rfl) dX4_copyFrom_89 (fun H locs hP hD hS => ?_)
  have hP : va_P D vwCl [(a0, .inr (4, [.int len2, .int att2, .int en2, .int (nI n2), .ref ak, .ref ap, .ref al, .ref ar])), (ak, .inl (cI, 10, .inl (va_cpy kg kf 0 0 10))), (ap, .inl (cI, 10, .inl (va_cpy pg pf 0 0 10))), (al, .inl (cI, 10, .inl (va_cpy lg lf 0 0 10))), (ar, .inl (cI, 10, .inl (va_cpy rg rf 0 0 10))), (b0, .inr (4, [.int len2, .int att2, .int en2, .int (nI n2), .ref bk, .ref bp, .ref bl, .ref br])), (bk, .inl (cI, 10, .inl kg)), (bp, .inl (cI, 10, .inl pg)), (bl, .inl (cI, 10, .inl lg)), (br, .inl (cI, 10, .inl rg))] H := hP
  have hD : va_D A [(a0, .inr (4, [.int len2, .int att2, .int en2, .int (nI n2), .ref ak, .ref ap, .ref al, .ref ar])), (ak, .inl (cI, 10, .inl (va_cpy kg kf 0 0 10))), (ap, .inl (cI, 10, .inl (va_cpy pg pf 0 0 10))), (al, .inl (cI, 10, .inl (va_cpy lg lf 0 0 10))), (ar, .inl (cI, 10, .inl (va_cpy rg rf 0 0 10))), (b0, .inr (4, [.int len2, .int att2, .int en2, .int (nI n2), .ref bk, .ref bp, .ref bl, .ref br])), (bk, .inl (cI, 10, .inl kg)), (bp, .inl (cI, 10, .inl pg)), (bl, .inl (cI, 10, .inl lg)), (br, .inl (cI, 10, .inl rg))] := hD
  have hw9 : ([(a0, .inr (4, [.int len2, .int att2, .int en2, .int (nI n2), .ref ak, .ref ap, .ref al, .ref ar])), (ak, .inl (cI, 10, .inl (va_cpy kg kf 0 0 10))), (ap, .inl (cI, 10, .inl (va_cpy pg pf 0 0 10))), (al, .inl (cI, 10, .inl (va_cpy lg lf 0 0 10))), (ar, .inl (cI, 10, .inl (va_cpy rg rf 0 0 10))), (b0, .inr (4, [.int len2, .int att2, .int en2, .int (nI n2), .ref bk, .ref bp, .ref bl, .ref br])), (bk, .inl (cI, 10, .inl kg)), (bp, .inl (cI, 10, .inl pg)), (bl, .inl (cI, 10, .inl lg)), (br, .inl (cI, 10, .inl rg))] : va_W) = [(a0, .inr (4, [.int len2, .int att2, .int en2, .int (nI n2), .ref ak, .ref ap, .ref al, .ref ar])), (ak, .inl (cI, 10, .inl (va_cpy kg kf 0 0 10))), (ap, .inl (cI, 10, .inl (va_cpy pg pf 0 0 10))), (al, .inl (cI, 10, .inl (va_cpy lg lf 0 0 10))), (ar, .inl (cI, 10, .inl (va_cpy rg rf 0 0 10))), (b0, .inr (4, [.int len2, .int att2, .int en2, .int (nI n2), .ref bk, .ref bp, .ref bl, .ref br])), (bk, .inl (cI, 10, .inl kg)), (bp, .inl (cI, 10, .inl pg)), (bl, .inl (cI, 10, .inl lg)), (br, .inl (cI, 10, .inl rg))] := rfl
  rw [hw9] at hP hD
  exact W.vret hx hb hr (fun t ht hW => ⟨⟨(), rfl, trivial, by rw [ht]; exact hP, by rw [hAe]; exact hD⟩, by rw [hAe]; exact hS.F ht⟩) hS.2.2 dX4_copyFrom_92
