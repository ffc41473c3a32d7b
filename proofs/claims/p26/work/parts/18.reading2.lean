/-! reading: ghosts, questions -/
def ftMk (ro : Nat → Nat → Int32) (tl : Int32) (i j e : Nat) : Prop := ro 4 i = 1 ∧ ro 4 j = 1 ∧ ftAbs (2 * ro 0 j - ro 0 i - ro 0 e) ≤ tl
noncomputable def ftMkIn (ro : Nat → Nat → Int32) (tl : Int32) (i e : Nat) : Nat → Option Nat
  | 0 => none
  | k + 1 => @ite _ (ftMk ro tl i (e - (k + 1)) e) (Classical.propDecidable _) (some (e - (k + 1))) (ftMkIn ro tl i e k)
noncomputable def ftMkOut (ro : Nat → Nat → Int32) (tl : Int32) (e : Nat) : Nat → Option (Nat × Nat)
  | 0 => none
  | k + 1 => match ftMkIn ro tl (e - (k + 1)) e (e - (e - (k + 1) + 1)) with
    | some j => some (e - (k + 1), j)
    | none => ftMkOut ro tl e k
theorem ftMkIn_hit {ro : Nat → Nat → Int32} {tl : Int32} {i j e : Nat} (hj : j < e) (h : ftMk ro tl i j e) : ftMkIn ro tl i e (e - j) = some j := by
  obtain ⟨k, hk⟩ : ∃ k, e - j = k + 1 := ⟨e - j - 1, by omega⟩
  rw [hk, ftMkIn, show e - (k + 1) = j by omega]
  exact if_pos h
theorem ftMkIn_go {ro : Nat → Nat → Int32} {tl : Int32} {i j e : Nat} (hj : j < e) (h : ¬ ftMk ro tl i j e) : ftMkIn ro tl i e (e - j) = ftMkIn ro tl i e (e - (j + 1)) := by
  obtain ⟨k, hk⟩ : ∃ k, e - j = k + 1 := ⟨e - j - 1, by omega⟩
  rw [hk, ftMkIn, show e - (k + 1) = j by omega, show e - (j + 1) = k by omega]
  exact if_neg h
theorem ftMkIn_end {ro : Nat → Nat → Int32} {tl : Int32} {i j e : Nat} (hj : e ≤ j) : ftMkIn ro tl i e (e - j) = none := by
  rw [show e - j = 0 by omega]; rfl
theorem ftMkOut_hit {ro : Nat → Nat → Int32} {tl : Int32} {i j e : Nat} (hi : i < e) (h : ftMkIn ro tl i e (e - (i + 1)) = some j) : ftMkOut ro tl e (e - i) = some (i, j) := by
  obtain ⟨k, hk⟩ : ∃ k, e - i = k + 1 := ⟨e - i - 1, by omega⟩
  rw [hk, ftMkOut, show e - (k + 1) = i by omega, h]
theorem ftMkOut_go {ro : Nat → Nat → Int32} {tl : Int32} {i e : Nat} (hi : i < e) (h : ftMkIn ro tl i e (e - (i + 1)) = none) : ftMkOut ro tl e (e - i) = ftMkOut ro tl e (e - (i + 1)) := by
  obtain ⟨k, hk⟩ : ∃ k, e - i = k + 1 := ⟨e - i - 1, by omega⟩
  rw [hk, ftMkOut, show e - (k + 1) = i by omega, h, show e - (i + 1) = k by omega]
theorem ftMkOut_end {ro : Nat → Nat → Int32} {tl : Int32} {i e : Nat} (hi : e ≤ i) : ftMkOut ro tl e (e - i) = none := by
  rw [show e - i = 0 by omega]; rfl
def ftMkSet (ro : Nat → Nat → Int32) (e i j c : Nat) : Nat → Int32 := if c = 4 then upd (ro 4) e 2 else if c = 6 then upd (ro 6) e (nI i) else if c = 7 then upd (ro 7) e (nI j) else ro c
noncomputable def ftMkRow (ro : Nat → Nat → Int32) (tl : Int32) (e : Nat) : Nat → Nat → Int32 := match ftMkOut ro tl e e with
  | none => ro
  | some (i, j) => ftMkSet ro e i j
theorem ftMkRow_some {ro : Nat → Nat → Int32} {tl : Int32} {e i j : Nat} (h : ftMkOut ro tl e e = some (i, j)) : ftMkRow ro tl e = ftMkSet ro e i j := by unfold ftMkRow; rw [h]
theorem ftMkRow_none {ro : Nat → Nat → Int32} {tl : Int32} {e : Nat} (h : ftMkOut ro tl e e = none) : ftMkRow ro tl e = ro := by unfold ftMkRow; rw [h]
noncomputable def ftGhosts (ro : Nat → Nat → Int32) (tl gl : Int32) : Nat → (Nat → Nat → Int32)
  | 0 => ro
  | i + 1 => @ite _ (ftGhosts ro tl gl i 4 i = 1 ∧ ftAbs (ftGhosts ro tl gl i 2 i) ≤ gl) (Classical.propDecidable _) (ftMkRow (ftGhosts ro tl gl i) tl i) (ftGhosts ro tl gl i)
theorem ftGhosts_t {ro rg : Nat → Nat → Int32} {tl gl : Int32} {i : Nat} (e : rg = ftGhosts ro tl gl i) (h : rg 4 i = 1 ∧ ftAbs (rg 2 i) ≤ gl) : ftMkRow rg tl i = ftGhosts ro tl gl (i + 1) := by
  subst e; exact (if_pos h).symm
theorem ftGhosts_f {ro rg : Nat → Nat → Int32} {tl gl : Int32} {i : Nat} (e : rg = ftGhosts ro tl gl i) (h : ¬ (rg 4 i = 1 ∧ ftAbs (rg 2 i) ≤ gl)) : rg = ftGhosts ro tl gl (i + 1) := by
  subst e; exact (if_neg h).symm
noncomputable def ftCount (P : Nat → Prop) : Nat → Int32
  | 0 => 0
  | i + 1 => ftCount P i + ftB (P i)
theorem ftCount_t {P : Nat → Prop} {i : Nat} {x : Int32} (e : x = ftCount P i) (h : P i) : x + 1 = ftCount P (i + 1) := by rw [e, ftCount, ftB_t h]
theorem ftCount_f {P : Nat → Prop} {i : Nat} {x : Int32} (e : x = ftCount P i) (h : ¬ P i) : x + 0 = ftCount P (i + 1) := by rw [e, ftCount, ftB_f h]
/-- the first place of k with P, or -1 -/
noncomputable def ftFst (P : Nat → Prop) : Nat → Int32
  | 0 => -1
  | k + 1 => if ftFst P k = -1 then @ite _ (P k) (Classical.propDecidable _) (nI k) (-1) else ftFst P k
theorem ftFst_none {P : Nat → Prop} {k : Nat} (h : ∀ t, t < k → ¬ P t) : ftFst P k = -1 := by
  induction k with
  | zero => rfl
  | succ k ih => rw [ftFst, if_pos (ih (fun t ht => h t (by omega)))]; exact if_neg (h k (by omega))
theorem ft_nIm1 {i : Nat} (h : i < 2 ^ 31) : ¬ nI i = -1 := fun q => by
  have := nI_pos' h
  rw [q] at this
  exact absurd this (by decide)
theorem ftFst_some {P : Nat → Prop} {i : Nat} (hi2 : i < 2 ^ 31) (hp : P i) (h : ∀ t, t < i → ¬ P t) : ∀ k, i < k → ftFst P k = nI i := by
  intro k
  induction k with
  | zero => intro q; omega
  | succ k ih =>
    intro q
    by_cases r : i = k
    · subst r; rw [ftFst, if_pos (ftFst_none h)]; exact if_pos hp
    · rw [ftFst, ih (by omega), if_neg (ft_nIm1 hi2)]
def ftNear (tl a b : Int32) : Prop := ftAbs (a - b) ≤ tl
noncomputable def ftCov (ro : Nat → Nat → Int32) (k : Nat) (x : Int32) : Int32 := ftFst (fun i => ro 0 i ≤ x ∧ x ≤ ro 1 i) k
noncomputable def ftFinder (ro : Nat → Nat → Int32) (k : Nat) (tl x : Int32) : Int32 := ftFst (fun i => ¬ ro 4 i = 2 ∧ ftNear tl (ro 0 i) x) k
noncomputable def ftFinding (ro : Nat → Nat → Int32) (k : Nat) (tl x kd : Int32) : Int32 := if kd = 2 then 2 else if ftFinder ro k tl x = -1 then (if ftCov ro k x = -1 then 2 else 1) else 0
noncomputable def ftWitness (ro : Nat → Nat → Int32) (k : Nat) (tl x kd : Int32) : Int32 := if ftFinding ro k tl x kd = 0 then ftFinder ro k tl x else if ftFinding ro k tl x kd = 1 then ftCov ro k x else -1
noncomputable def ftFindings (ro : Nat → Nat → Int32) (k : Nat) (tl : Int32) (kf pf : Nat → Int32) (fd : Int32) (n : Nat) : Int32 := ftCount (fun i => ¬ kf i = 2 ∧ ftFinding ro k tl (pf i) (kf i) = fd) n
def ftNearJ (tl : Int32) (kf pf : Nat → Int32) (n : Nat) (x : Int32) : Prop := ∃ i, i < n ∧ ¬ kf i = 2 ∧ ftNear tl (pf i) x
noncomputable def ftStrange (ro : Nat → Nat → Int32) (k : Nat) (tl : Int32) (kf pf : Nat → Int32) (n : Nat) : Int32 := ftCount (fun i => (ro 4 i = 0 ∨ ro 4 i = 1) ∧ ¬ ftNearJ tl kf pf n (ro 0 i)) k
def ftLossG (ro : Nat → Nat → Int32) : Nat → Int32
  | 0 => 0
  | i + 1 => ftLossG ro i + (if ro 4 i = 2 then ro 2 i else 0)
def ftWorst (ro : Nat → Nat → Int32) : Nat → Int32
  | 0 => -1
  | i + 1 => if ¬ ro 4 i = 3 ∧ (ftWorst ro i = -1 ∨ ftAt 30 (ro 2) (ftWorst ro i) < ro 2 i) then nI i else ftWorst ro i
theorem ftWorst_n {ro : Nat → Nat → Int32} {x : Int32} {i : Nat} (e : x = ftWorst ro i) (h1 : ¬ ro 4 i = 3) (h : x = -1 ∨ ftAt 30 (ro 2) x < ro 2 i) : nI i = ftWorst ro (i + 1) := by subst e; exact (if_pos ⟨h1, h⟩).symm
theorem ftWorst_k3 {ro : Nat → Nat → Int32} {x : Int32} {i : Nat} (e : x = ftWorst ro i) (h1 : ro 4 i = 3) : x = ftWorst ro (i + 1) := by subst e; exact (if_neg (fun q => q.1 h1)).symm
theorem ftWorst_k {ro : Nat → Nat → Int32} {x : Int32} {i : Nat} (e : x = ftWorst ro i) (h1 : ¬ x = -1) (h : ro 2 i ≤ ftAt 30 (ro 2) x) : x = ftWorst ro (i + 1) := by subst e; exact (if_neg (fun q => q.2.elim h1 (fun r => absurd r (Int32.not_lt.mpr h)))).symm
set_option maxHeartbeats 4000000 in
set_option maxRecDepth 100000 in
theorem c_X7_makeGhost (l : Launch) (D : va_G) (cI cS : ClassId) (a0 r0 r1 r2 r3 r4 r5 r6 r7 k : Nat) (tl : Int32) (ro : Nat → Nat → Int32) (i j e2 : Nat) (hi : i < 30) (hj : j < 30) (he : e2 < 30) : Met l yX7_makeGhost wsX7_makeGhost ({ frames := 1, cells := 0, slots := 0, locals := 30 }) (ftRO D cI cS [.ref a0, .int (nI i), .int (nI j), .int (nI e2)] [(a0, .inr (7, [.ref r0, .ref r1, .ref r2, .ref r3, .ref r4, .ref r5, .ref r6, .ref r7, .int (nI k), .int tl])), (r0, .inl (cI, 30, .inl (ro 0))), (r4, .inl (cI, 30, .inl (ro 4)))]) (vp_Si (fun o9 => o9 = ftB (ftMk ro tl i j e2))) 0 0 (fun _ => False) := by
  refine Met.ofW (cc := cX7_makeGhost) (maxL := 5) (ret := (some .boolean)) (by decide) rfl ?_
  intro p e s m args below meth c s₁ B hml hv
  obtain ⟨rfl, hP, hKK⟩ := hv
  have hK := hKK.1
  have hx := B.exec
  have hb := B.bytes
  have hr := B.returns
  have hts := atoms_spec (ws := wsX7_makeGhost) B.pre
  have hown : s.vm.findClass RX7 = some m.cls := findClass_of_methodNamed B.named
  have hlocks := B.notSynchronized
  have hP : va_P D vwCl [(a0, .inr (7, [.ref r0, .ref r1, .ref r2, .ref r3, .ref r4, .ref r5, .ref r6, .ref r7, .int (nI k), .int tl])), (r0, .inl (cI, 30, .inl (ro 0))), (r4, .inl (cI, 30, .inl (ro 4)))] s.heap := hP
  have hl := lv_entry ([.ref a0, .int (nI i), .int (nI j), .int (nI e2)]) (n := 5) (Nat.le_of_ble_eq_true rfl)
  rw [lg_entry_eq]
  generalize (lg_sl ([.ref a0, .int (nI i), .int (nI j), .int (nI e2)]) ++ List.replicate (5 - (lg_sl ([.ref a0, .int (nI i), .int (nI j), .int (nI e2)])).length) Slot.unset).toArray = ls at hl ⊢
  have hl : lv_has ls 5 [(0, .ref a0), (1, .int (nI i)), (2, .int (nI j)), (3, .int (nI e2))] := hl
  refine lv_iconst (v := 2) hx hb dX7_makeGhost_0 (by decide) ?_
  refine lv_aload_n hx hb dX7_makeGhost_1 rfl (lv_at hl 0 rfl) ?_
  refine va_get (D := D) (ci := 7) (v := .ref r0) (C := RX7) (T := TX7) (N := 10) hx hb hts (by decide +kernel) hown hK hP 0 rfl rfl 0 (by decide) (hts (.fieldLink RX7 9 "FiberTrace$Reading" "begins" "[I") (by decide +kernel)) (fun _ h9 => h9) rfl dX7_makeGhost_2 ?_
  refine lv_iload_n hx hb dX7_makeGhost_5 rfl (lv_at hl 2 rfl) ?_
  refine ft_csi (r := ftAt 30 (ro 0) (nI j)) (va_runSN (As := [.ref r0, .int (nI j)]) (rest := [.int 2]) ⟨hx, hb, hml, hown, hts⟩ (c_X10_at l D cI cS r0 30 (ro 0) (nI j) (by first | assumption | omega)) ⟨va_cnB 2 hts gX7_makeGhost_X10_at_n40 rfl rfl rfl (hKK.2 _ (List.mem_of_getElem? (i := 21) rfl)) (hts (.initialized RX10) (by decide +kernel)) (by decide +kernel) ⟨Nat.le_of_ble_eq_true rfl, Nat.le_of_ble_eq_true rfl⟩, hts (.static yX10_at) (by decide +kernel), trivial⟩ (ft_preRO hP hKK [1] rfl) rfl rfl hl.1 rfl (lv_room (Nat.le_of_ble_eq_true rfl)) dX7_makeGhost_6 ⟨Nat.le_of_ble_eq_true rfl, Nat.le_of_ble_eq_true rfl⟩) ?_
  refine ft_top (y := (ro 0) j) (ftAt_N (by omega) (by omega)) ?_
  refine lv_imul hx hb dX7_makeGhost_9 ?_
  refine lv_aload_n hx hb dX7_makeGhost_10 rfl (lv_at hl 0 rfl) ?_
  refine va_get (D := D) (ci := 7) (v := .ref r0) (C := RX7) (T := TX7) (N := 10) hx hb hts (by decide +kernel) hown hK hP 0 rfl rfl 0 (by decide) (hts (.fieldLink RX7 9 "FiberTrace$Reading" "begins" "[I") (by decide +kernel)) (fun _ h9 => h9) rfl dX7_makeGhost_11 ?_
  refine lv_iload_n hx hb dX7_makeGhost_14 rfl (lv_at hl 1 rfl) ?_
  refine ft_csi (r := ftAt 30 (ro 0) (nI i)) (va_runSN (As := [.ref r0, .int (nI i)]) (rest := [.int (2 * ((ro 0) j))]) ⟨hx, hb, hml, hown, hts⟩ (c_X10_at l D cI cS r0 30 (ro 0) (nI i) (by first | assumption | omega)) ⟨va_cnB 2 hts gX7_makeGhost_X10_at_n40 rfl rfl rfl (hKK.2 _ (List.mem_of_getElem? (i := 21) rfl)) (hts (.initialized RX10) (by decide +kernel)) (by decide +kernel) ⟨Nat.le_of_ble_eq_true rfl, Nat.le_of_ble_eq_true rfl⟩, hts (.static yX10_at) (by decide +kernel), trivial⟩ (ft_preRO hP hKK [1] rfl) rfl rfl hl.1 rfl (lv_room (Nat.le_of_ble_eq_true rfl)) dX7_makeGhost_15 ⟨Nat.le_of_ble_eq_true rfl, Nat.le_of_ble_eq_true rfl⟩) ?_
  refine ft_top (y := (ro 0) i) (ftAt_N (by omega) (by omega)) ?_
  refine lv_isub hx hb dX7_makeGhost_18 ?_
  refine lv_istore (lv' := [(4, .int ((2 * ((ro 0) j)) - ((ro 0) i))), (0, .ref a0), (1, .int (nI i)), (2, .int (nI j)), (3, .int (nI e2))]) hx hb dX7_makeGhost_19 hl (by decide) rfl (fun ls hl => ?_)
  refine lv_aload_n hx hb dX7_makeGhost_21 rfl (lv_at hl 1 rfl) ?_
  refine va_get (D := D) (ci := 7) (v := .ref r4) (C := RX7) (T := TX7) (N := 10) hx hb hts (by decide +kernel) hown hK hP 0 rfl rfl 4 (by decide) (hts (.fieldLink RX7 24 "FiberTrace$Reading" "kinds" "[I") (by decide +kernel)) (fun _ h9 => h9) rfl dX7_makeGhost_22 ?_
  refine lv_iload_n hx hb dX7_makeGhost_25 rfl (lv_at hl 2 rfl) ?_
  refine ft_csi (r := ftAt 30 (ro 4) (nI i)) (va_runSN (As := [.ref r4, .int (nI i)]) (rest := []) ⟨hx, hb, hml, hown, hts⟩ (c_X10_at l D cI cS r4 30 (ro 4) (nI i) (by first | assumption | omega)) ⟨va_cnB 2 hts gX7_makeGhost_X10_at_n40 rfl rfl rfl (hKK.2 _ (List.mem_of_getElem? (i := 21) rfl)) (hts (.initialized RX10) (by decide +kernel)) (by decide +kernel) ⟨Nat.le_of_ble_eq_true rfl, Nat.le_of_ble_eq_true rfl⟩, hts (.static yX10_at) (by decide +kernel), trivial⟩ (ft_preRO hP hKK [2] rfl) rfl rfl hl.1 rfl (lv_room (Nat.le_of_ble_eq_true rfl)) dX7_makeGhost_26 ⟨Nat.le_of_ble_eq_true rfl, Nat.le_of_ble_eq_true rfl⟩) ?_
  refine ft_top (y := (ro 4) i) (ftAt_N (by omega) (by omega)) ?_
  refine lv_iconst (v := 1) hx hb dX7_makeGhost_29 (by decide) ?_
  refine lv_icmp_ne (tgt := 70) hx hb dX7_makeGhost_30 (by decide) (fun c30 => ?_) (fun c30 => ?_)
  · refine lv_iconst (v := 0) hx hb dX7_makeGhost_70 (by decide) ?_
    exact W.zret (v := 0) hx hb hr (by rfl) (fun t ht hW => ⟨0, rfl, (by show (0 : Int32) = ftB (ftMk ro tl i j e2); first | exact (ftB_t ⟨c30, c42, Int32.not_lt.mp c63⟩).symm | exact (ftB_f (fun q => absurd q.2.2 (Int32.not_le.mpr c63))).symm | exact (ftB_f (fun q => c42 q.2.1)).symm | exact (ftB_f (fun q => c30 q.1)).symm), ht⟩) (fun _ h9 => absurd h9 List.not_mem_nil) dX7_makeGhost_71
  · refine lv_aload_n hx hb dX7_makeGhost_33 rfl (lv_at hl 1 rfl) ?_
    refine va_get (D := D) (ci := 7) (v := .ref r4) (C := RX7) (T := TX7) (N := 10) hx hb hts (by decide +kernel) hown hK hP 0 rfl rfl 4 (by decide) (hts (.fieldLink RX7 24 "FiberTrace$Reading" "kinds" "[I") (by decide +kernel)) (fun _ h9 => h9) rfl dX7_makeGhost_34 ?_
    refine lv_iload_n hx hb dX7_makeGhost_37 rfl (lv_at hl 3 rfl) ?_
    refine ft_csi (r := ftAt 30 (ro 4) (nI j)) (va_runSN (As := [.ref r4, .int (nI j)]) (rest := []) ⟨hx, hb, hml, hown, hts⟩ (c_X10_at l D cI cS r4 30 (ro 4) (nI j) (by first | assumption | omega)) ⟨va_cnB 2 hts gX7_makeGhost_X10_at_n40 rfl rfl rfl (hKK.2 _ (List.mem_of_getElem? (i := 21) rfl)) (hts (.initialized RX10) (by decide +kernel)) (by decide +kernel) ⟨Nat.le_of_ble_eq_true rfl, Nat.le_of_ble_eq_true rfl⟩, hts (.static yX10_at) (by decide +kernel), trivial⟩ (ft_preRO hP hKK [2] rfl) rfl rfl hl.1 rfl (lv_room (Nat.le_of_ble_eq_true rfl)) dX7_makeGhost_38 ⟨Nat.le_of_ble_eq_true rfl, Nat.le_of_ble_eq_true rfl⟩) ?_
    refine ft_top (y := (ro 4) j) (ftAt_N (by omega) (by omega)) ?_
    refine lv_iconst (v := 1) hx hb dX7_makeGhost_41 (by decide) ?_
    refine lv_icmp_ne (tgt := 70) hx hb dX7_makeGhost_42 (by decide) (fun c42 => ?_) (fun c42 => ?_)
    · refine lv_iconst (v := 0) hx hb dX7_makeGhost_70 (by decide) ?_
      exact W.zret (v := 0) hx hb hr (by rfl) (fun t ht hW => ⟨0, rfl, (by show (0 : Int32) = ftB (ftMk ro tl i j e2); first | exact (ftB_t ⟨c30, c42, Int32.not_lt.mp c63⟩).symm | exact (ftB_f (fun q => absurd q.2.2 (Int32.not_le.mpr c63))).symm | exact (ftB_f (fun q => c42 q.2.1)).symm | exact (ftB_f (fun q => c30 q.1)).symm), ht⟩) (fun _ h9 => absurd h9 List.not_mem_nil) dX7_makeGhost_71
    · refine lv_iload hx hb dX7_makeGhost_45 (lv_at hl 0 rfl) ?_
      refine lv_aload_n hx hb dX7_makeGhost_47 rfl (lv_at hl 1 rfl) ?_
      refine va_get (D := D) (ci := 7) (v := .ref r0) (C := RX7) (T := TX7) (N := 10) hx hb hts (by decide +kernel) hown hK hP 0 rfl rfl 0 (by decide) (hts (.fieldLink RX7 9 "FiberTrace$Reading" "begins" "[I") (by decide +kernel)) (fun _ h9 => h9) rfl dX7_makeGhost_48 ?_
      refine lv_iload_n hx hb dX7_makeGhost_51 rfl (lv_at hl 4 rfl) ?_
      refine ft_csi (r := ftAt 30 (ro 0) (nI e2)) (va_runSN (As := [.ref r0, .int (nI e2)]) (rest := [.int ((2 * ((ro 0) j)) - ((ro 0) i))]) ⟨hx, hb, hml, hown, hts⟩ (c_X10_at l D cI cS r0 30 (ro 0) (nI e2) (by first | assumption | omega)) ⟨va_cnB 2 hts gX7_makeGhost_X10_at_n40 rfl rfl rfl (hKK.2 _ (List.mem_of_getElem? (i := 21) rfl)) (hts (.initialized RX10) (by decide +kernel)) (by decide +kernel) ⟨Nat.le_of_ble_eq_true rfl, Nat.le_of_ble_eq_true rfl⟩, hts (.static yX10_at) (by decide +kernel), trivial⟩ (ft_preRO hP hKK [1] rfl) rfl rfl hl.1 rfl (lv_room (Nat.le_of_ble_eq_true rfl)) dX7_makeGhost_52 ⟨Nat.le_of_ble_eq_true rfl, Nat.le_of_ble_eq_true rfl⟩) ?_
      refine ft_top (y := (ro 0) e2) (ftAt_N (by omega) (by omega)) ?_
      refine lv_isub hx hb dX7_makeGhost_55 ?_
      refine va_mabs hx hb (hml.trans hl.1.symm) hown (hts (.methodLink RX7 65 Lib.Math.abs.name) (by decide +kernel)) (hts (.static Lib.Math.abs.name) (by decide +kernel)) (hts (.initialized "java/lang/Math") (by decide +kernel)) (hts (.code Lib.Math.abs.name Lib.Math.abs.code 1 (some .int)) (by decide +kernel)) (Nat.le_of_ble_eq_true rfl) (Nat.le_of_ble_eq_true rfl) (Nat.le_of_ble_eq_true rfl) (Nat.le_of_ble_eq_true rfl) dX7_makeGhost_56 ?_
      refine ft_top (y := ftAbs (((2 * ((ro 0) j)) - ((ro 0) i)) - ((ro 0) e2))) rfl ?_
      refine lv_aload_n hx hb dX7_makeGhost_59 rfl (lv_at hl 1 rfl) ?_
      refine va_get (D := D) (ci := 7) (v := .int tl) (C := RX7) (T := TX7) (N := 10) hx hb hts (by decide +kernel) hown hK hP 0 rfl rfl 9 (by decide) (hts (.fieldLink RX7 44 "FiberTrace$Reading" "tolerance" "I") (by decide +kernel)) (fun _ h9 => h9) rfl dX7_makeGhost_60 ?_
      refine lv_icmp_gt (tgt := 70) hx hb dX7_makeGhost_63 (by decide) (fun c63 => ?_) (fun c63 => ?_)
      · refine lv_iconst (v := 0) hx hb dX7_makeGhost_70 (by decide) ?_
        exact W.zret (v := 0) hx hb hr (by rfl) (fun t ht hW => ⟨0, rfl, (by show (0 : Int32) = ftB (ftMk ro tl i j e2); first | exact (ftB_t ⟨c30, c42, Int32.not_lt.mp c63⟩).symm | exact (ftB_f (fun q => absurd q.2.2 (Int32.not_le.mpr c63))).symm | exact (ftB_f (fun q => c42 q.2.1)).symm | exact (ftB_f (fun q => c30 q.1)).symm), ht⟩) (fun _ h9 => absurd h9 List.not_mem_nil) dX7_makeGhost_71
      · refine lv_iconst (v := 1) hx hb dX7_makeGhost_66 (by decide) ?_
        refine lv_goto (tgt := 71) hx hb dX7_makeGhost_67 (by decide) ?_
        exact W.zret (v := 1) hx hb hr (by rfl) (fun t ht hW => ⟨1, rfl, (by show (1 : Int32) = ftB (ftMk ro tl i j e2); first | exact (ftB_t ⟨c30, c42, Int32.not_lt.mp c63⟩).symm | exact (ftB_f (fun q => absurd q.2.2 (Int32.not_le.mpr c63))).symm | exact (ftB_f (fun q => c42 q.2.1)).symm | exact (ftB_f (fun q => c30 q.1)).symm), ht⟩) (fun _ h9 => absurd h9 List.not_mem_nil) dX7_makeGhost_71
set_option maxHeartbeats 4000000 in
set_option maxRecDepth 100000 in
theorem c_X7_isNear (l : Launch) (D : va_G) (cI cS : ClassId) (a0 r0 r1 r2 r3 r4 r5 r6 r7 k : Nat) (tl : Int32) (x y : Int32)  : Met l yX7_isNear wsX7_isNear ({ frames := 1, cells := 0, slots := 0, locals := 30 }) (ftRO D cI cS [.ref a0, .int x, .int y] [(a0, .inr (7, [.ref r0, .ref r1, .ref r2, .ref r3, .ref r4, .ref r5, .ref r6, .ref r7, .int (nI k), .int tl]))]) (vp_Si (fun o9 => o9 = ftB (ftNear tl x y))) 0 0 (fun _ => False) := by
  refine Met.ofW (cc := cX7_isNear) (maxL := 3) (ret := (some .boolean)) (by decide) rfl ?_
  intro p e s m args below meth c s₁ B hml hv
  obtain ⟨rfl, hP, hKK⟩ := hv
  have hK := hKK.1
  have hx := B.exec
  have hb := B.bytes
  have hr := B.returns
  have hts := atoms_spec (ws := wsX7_isNear) B.pre
  have hown : s.vm.findClass RX7 = some m.cls := findClass_of_methodNamed B.named
  have hlocks := B.notSynchronized
  have hP : va_P D vwCl [(a0, .inr (7, [.ref r0, .ref r1, .ref r2, .ref r3, .ref r4, .ref r5, .ref r6, .ref r7, .int (nI k), .int tl]))] s.heap := hP
  have hl := lv_entry ([.ref a0, .int x, .int y]) (n := 3) (Nat.le_of_ble_eq_true rfl)
  rw [lg_entry_eq]
  generalize (lg_sl ([.ref a0, .int x, .int y]) ++ List.replicate (3 - (lg_sl ([.ref a0, .int x, .int y])).length) Slot.unset).toArray = ls at hl ⊢
  have hl : lv_has ls 3 [(0, .ref a0), (1, .int x), (2, .int y)] := hl
  refine lv_iload_n hx hb dX7_isNear_0 rfl (lv_at hl 1 rfl) ?_
  refine lv_iload_n hx hb dX7_isNear_1 rfl (lv_at hl 2 rfl) ?_
  refine lv_isub hx hb dX7_isNear_2 ?_
  refine va_mabs hx hb (hml.trans hl.1.symm) hown (hts (.methodLink RX7 65 Lib.Math.abs.name) (by decide +kernel)) (hts (.static Lib.Math.abs.name) (by decide +kernel)) (hts (.initialized "java/lang/Math") (by decide +kernel)) (hts (.code Lib.Math.abs.name Lib.Math.abs.code 1 (some .int)) (by decide +kernel)) (Nat.le_of_ble_eq_true rfl) (Nat.le_of_ble_eq_true rfl) (Nat.le_of_ble_eq_true rfl) (Nat.le_of_ble_eq_true rfl) dX7_isNear_3 ?_
  refine ft_top (y := ftAbs (x - y)) rfl ?_
  refine lv_aload_n hx hb dX7_isNear_6 rfl (lv_at hl 0 rfl) ?_
  refine va_get (D := D) (ci := 7) (v := .int tl) (C := RX7) (T := TX7) (N := 10) hx hb hts (by decide +kernel) hown hK hP 0 rfl rfl 9 (by decide) (hts (.fieldLink RX7 44 "FiberTrace$Reading" "tolerance" "I") (by decide +kernel)) (fun _ h9 => h9) rfl dX7_isNear_7 ?_
  refine lv_icmp_gt (tgt := 17) hx hb dX7_isNear_10 (by decide) (fun c10 => ?_) (fun c10 => ?_)
  · refine lv_iconst (v := 0) hx hb dX7_isNear_17 (by decide) ?_
    exact W.zret (v := 0) hx hb hr (by rfl) (fun t ht hW => ⟨0, rfl, (by show (0 : Int32) = ftB (ftNear tl x y); first | exact (ftB_t (Int32.not_lt.mp c10)).symm | exact (ftB_f (fun q => absurd q (Int32.not_le.mpr c10))).symm), ht⟩) (fun _ h9 => absurd h9 List.not_mem_nil) dX7_isNear_18
  · refine lv_iconst (v := 1) hx hb dX7_isNear_13 (by decide) ?_
    refine lv_goto (tgt := 18) hx hb dX7_isNear_14 (by decide) ?_
    exact W.zret (v := 1) hx hb hr (by rfl) (fun t ht hW => ⟨1, rfl, (by show (1 : Int32) = ftB (ftNear tl x y); first | exact (ftB_t (Int32.not_lt.mp c10)).symm | exact (ftB_f (fun q => absurd q (Int32.not_le.mpr c10))).symm), ht⟩) (fun _ h9 => absurd h9 List.not_mem_nil) dX7_isNear_18
set_option maxHeartbeats 4000000 in
set_option maxRecDepth 100000 in
theorem c_X7_findMakers (l : Launch) (D : va_G) (cI cS : ClassId) (sz : Nat) (a0 r0 r1 r2 r3 r4 r5 r6 r7 k : Nat) (tl : Int32) (ro : Nat → Nat → Int32) (e2 : Nat) (he : e2 < 30) : Met l yX7_findMakers wsX7_findMakers ({ frames := 2, cells := 0, slots := 0, locals := 54 }) (ftRW D cI cS [.ref a0, .int (nI e2)] [(a0, .inr (7, [.ref r0, .ref r1, .ref r2, .ref r3, .ref r4, .ref r5, .ref r6, .ref r7, .int (nI k), .int tl])), (r0, .inl (cI, 30, .inl (ro 0))), (r1, .inl (cI, 30, .inl (ro 1))), (r2, .inl (cI, 30, .inl (ro 2))), (r3, .inl (cI, 30, .inl (ro 3))), (r4, .inl (cI, 30, .inl (ro 4))), (r5, .inl (cI, 30, .inl (ro 5))), (r6, .inl (cI, 30, .inl (ro 6))), (r7, .inl (cI, 30, .inl (ro 7)))] sz) (ftQv D [(a0, .inr (7, [.ref r0, .ref r1, .ref r2, .ref r3, .ref r4, .ref r5, .ref r6, .ref r7, .int (nI k), .int tl])), (r0, .inl (cI, 30, .inl (ro 0))), (r1, .inl (cI, 30, .inl (ro 1))), (r2, .inl (cI, 30, .inl (ro 2))), (r3, .inl (cI, 30, .inl (ro 3))), (r4, .inl (cI, 30, .inl (ro 4))), (r5, .inl (cI, 30, .inl (ro 5))), (r6, .inl (cI, 30, .inl (ro 6))), (r7, .inl (cI, 30, .inl (ro 7)))] [(a0, .inr (7, [.ref r0, .ref r1, .ref r2, .ref r3, .ref r4, .ref r5, .ref r6, .ref r7, .int (nI k), .int tl])), (r0, .inl (cI, 30, .inl (ftMkRow ro tl e2 0))), (r1, .inl (cI, 30, .inl (ftMkRow ro tl e2 1))), (r2, .inl (cI, 30, .inl (ftMkRow ro tl e2 2))), (r3, .inl (cI, 30, .inl (ftMkRow ro tl e2 3))), (r4, .inl (cI, 30, .inl (ftMkRow ro tl e2 4))), (r5, .inl (cI, 30, .inl (ftMkRow ro tl e2 5))), (r6, .inl (cI, 30, .inl (ftMkRow ro tl e2 6))), (r7, .inl (cI, 30, .inl (ftMkRow ro tl e2 7)))] sz) 0 0 (va_A [(a0, .inr (7, [.ref r0, .ref r1, .ref r2, .ref r3, .ref r4, .ref r5, .ref r6, .ref r7, .int (nI k), .int tl])), (r0, .inl (cI, 30, .inl (ro 0))), (r1, .inl (cI, 30, .inl (ro 1))), (r2, .inl (cI, 30, .inl (ro 2))), (r3, .inl (cI, 30, .inl (ro 3))), (r4, .inl (cI, 30, .inl (ro 4))), (r5, .inl (cI, 30, .inl (ro 5))), (r6, .inl (cI, 30, .inl (ro 6))), (r7, .inl (cI, 30, .inl (ro 7)))] sz) := by
  refine Met.ofW (cc := cX7_findMakers) (maxL := 4) (ret := none) (by decide) rfl ?_
  intro p e s m args below meth c s₁ B hml hv
  obtain ⟨rfl, hsz, hP, hKK, hD0⟩ := hv
  have hK := hKK.1
  have hx := B.exec
  have hb := B.bytes
  have hr := B.returns
  have hts := atoms_spec (ws := wsX7_findMakers) B.pre
  have hown : s.vm.findClass RX7 = some m.cls := findClass_of_methodNamed B.named
  have hlocks := B.notSynchronized
  subst hsz
  have hD := hD0.self (sz := s.heap.size)
  generalize hAe : va_A [(a0, .inr (7, [.ref r0, .ref r1, .ref r2, .ref r3, .ref r4, .ref r5, .ref r6, .ref r7, .int (nI k), .int tl])), (r0, .inl (cI, 30, .inl (ro 0))), (r1, .inl (cI, 30, .inl (ro 1))), (r2, .inl (cI, 30, .inl (ro 2))), (r3, .inl (cI, 30, .inl (ro 3))), (r4, .inl (cI, 30, .inl (ro 4))), (r5, .inl (cI, 30, .inl (ro 5))), (r6, .inl (cI, 30, .inl (ro 6))), (r7, .inl (cI, 30, .inl (ro 7)))] s.heap.size = A at hD ⊢
  have hA : ∀ q : Nat, s.heap.size ≤ q → A q := fun q h => by rw [← hAe]; exact Or.inr h
  have hS : va_S A s.heap s.heap [] := va_S.rf
  have hD : va_D A [(a0, .inr (7, [.ref r0, .ref r1, .ref r2, .ref r3, .ref r4, .ref r5, .ref r6, .ref r7, .int (nI k), .int tl])), (r0, .inl (cI, 30, .inl (ro 0))), (r1, .inl (cI, 30, .inl (ro 1))), (r2, .inl (cI, 30, .inl (ro 2))), (r3, .inl (cI, 30, .inl (ro 3))), (r4, .inl (cI, 30, .inl (ro 4))), (r5, .inl (cI, 30, .inl (ro 5))), (r6, .inl (cI, 30, .inl (ro 6))), (r7, .inl (cI, 30, .inl (ro 7)))] := hD
  have hP : va_P D vwCl [(a0, .inr (7, [.ref r0, .ref r1, .ref r2, .ref r3, .ref r4, .ref r5, .ref r6, .ref r7, .int (nI k), .int tl])), (r0, .inl (cI, 30, .inl (ro 0))), (r1, .inl (cI, 30, .inl (ro 1))), (r2, .inl (cI, 30, .inl (ro 2))), (r3, .inl (cI, 30, .inl (ro 3))), (r4, .inl (cI, 30, .inl (ro 4))), (r5, .inl (cI, 30, .inl (ro 5))), (r6, .inl (cI, 30, .inl (ro 6))), (r7, .inl (cI, 30, .inl (ro 7)))] s.heap := hP
  have hl := lv_entry ([.ref a0, .int (nI e2)]) (n := 4) (Nat.le_of_ble_eq_true rfl)
  rw [lg_entry_eq]
  generalize (lg_sl ([.ref a0, .int (nI e2)]) ++ List.replicate (4 - (lg_sl ([.ref a0, .int (nI e2)])).length) Slot.unset).toArray = ls at hl ⊢
  have hl : lv_has ls 4 [(0, .ref a0), (1, .int (nI e2))] := hl
  refine lv_iconst (v := 0) hx hb dX7_findMakers_0 (by decide) ?_
  refine lv_istore_n (lv' := [(2, .int 0), (0, .ref a0), (1, .int (nI e2))]) hx hb dX7_findMakers_1 rfl hl (by decide) rfl (fun ls hl => ?_)
  have lp2 : ∀ (n2 : Nat) (i : Nat) (x2_2 : Int32), e2 - i < n2 → (i ≤ e2) → (ftMkOut ro tl e2 e2 = ftMkOut ro tl e2 (e2 - i)) → x2_2 = nI i → ∀ (H : Heap) (locs : List Loc), va_P D vwCl [(a0, .inr (7, [.ref r0, .ref r1, .ref r2, .ref r3, .ref r4, .ref r5, .ref r6, .ref r7, .int (nI k), .int tl])), (r0, .inl (cI, 30, .inl (ro 0))), (r1, .inl (cI, 30, .inl (ro 1))), (r2, .inl (cI, 30, .inl (ro 2))), (r3, .inl (cI, 30, .inl (ro 3))), (r4, .inl (cI, 30, .inl (ro 4))), (r5, .inl (cI, 30, .inl (ro 5))), (r6, .inl (cI, 30, .inl (ro 6))), (r7, .inl (cI, 30, .inl (ro 7)))] H → va_D A [(a0, .inr (7, [.ref r0, .ref r1, .ref r2, .ref r3, .ref r4, .ref r5, .ref r6, .ref r7, .int (nI k), .int tl])), (r0, .inl (cI, 30, .inl (ro 0))), (r1, .inl (cI, 30, .inl (ro 1))), (r2, .inl (cI, 30, .inl (ro 2))), (r3, .inl (cI, 30, .inl (ro 3))), (r4, .inl (cI, 30, .inl (ro 4))), (r5, .inl (cI, 30, .inl (ro 5))), (r6, .inl (cI, 30, .inl (ro 6))), (r7, .inl (cI, 30, .inl (ro 7)))] → va_S A s.heap H locs → ∀ ls : Array Slot, lv_has ls 4 [(0, .ref a0), (1, .int (nI e2)), (2, .int x2_2)] → W p l e (headSpec wsX7_findMakers { frames := 2, cells := 0, slots := 0, locals := 54 }).room s m ([.ref a0, .int (nI e2)] : List Value).toArray below meth c H locs 0 0 (MQ below (ftQv D [(a0, .inr (7, [.ref r0, .ref r1, .ref r2, .ref r3, .ref r4, .ref r5, .ref r6, .ref r7, .int (nI k), .int tl])), (r0, .inl (cI, 30, .inl (ro 0))), (r1, .inl (cI, 30, .inl (ro 1))), (r2, .inl (cI, 30, .inl (ro 2))), (r3, .inl (cI, 30, .inl (ro 3))), (r4, .inl (cI, 30, .inl (ro 4))), (r5, .inl (cI, 30, .inl (ro 5))), (r6, .inl (cI, 30, .inl (ro 6))), (r7, .inl (cI, 30, .inl (ro 7)))] [(a0, .inr (7, [.ref r0, .ref r1, .ref r2, .ref r3, .ref r4, .ref r5, .ref r6, .ref r7, .int (nI k), .int tl])), (r0, .inl (cI, 30, .inl (ftMkRow ro tl e2 0))), (r1, .inl (cI, 30, .inl (ftMkRow ro tl e2 1))), (r2, .inl (cI, 30, .inl (ftMkRow ro tl e2 2))), (r3, .inl (cI, 30, .inl (ftMkRow ro tl e2 3))), (r4, .inl (cI, 30, .inl (ftMkRow ro tl e2 4))), (r5, .inl (cI, 30, .inl (ftMkRow ro tl e2 5))), (r6, .inl (cI, 30, .inl (ftMkRow ro tl e2 6))), (r7, .inl (cI, 30, .inl (ftMkRow ro tl e2 7)))] s.heap.size) ([.ref a0, .int (nI e2)] : List Value).toArray s 0 0 A) (F0 m 2 ls []) := by
    intro n2
    induction n2 with
    | zero =>
      intro i x2_2  hm2
      exact absurd hm2 (Nat.not_lt_zero _)
    | succ n2 ih2 =>
      intro i x2_2  hm2 hie ho ex2_2  H locs hP hD hS ls hl
      subst ex2_2
      refine lv_iload_n hx hb dX7_findMakers_2 rfl (lv_at hl 2 rfl) ?_
      refine lv_iload_n hx hb dX7_findMakers_3 rfl (lv_at hl 1 rfl) ?_
      refine lv_icmp_ge (tgt := 66) hx hb dX7_findMakers_4 (by decide) (fun c4 => ?_) (fun c4 => ?_)
      · have c4n : e2 ≤ i := ft_leN (by omega) (by omega) c4
        have hw9 : ([(a0, .inr (7, [.ref r0, .ref r1, .ref r2, .ref r3, .ref r4, .ref r5, .ref r6, .ref r7, .int (nI k), .int tl])), (r0, .inl (cI, 30, .inl (ro 0))), (r1, .inl (cI, 30, .inl (ro 1))), (r2, .inl (cI, 30, .inl (ro 2))), (r3, .inl (cI, 30, .inl (ro 3))), (r4, .inl (cI, 30, .inl (ro 4))), (r5, .inl (cI, 30, .inl (ro 5))), (r6, .inl (cI, 30, .inl (ro 6))), (r7, .inl (cI, 30, .inl (ro 7)))] : va_W) = [(a0, .inr (7, [.ref r0, .ref r1, .ref r2, .ref r3, .ref r4, .ref r5, .ref r6, .ref r7, .int (nI k), .int tl])), (r0, .inl (cI, 30, .inl (ftMkRow ro tl e2 0))), (r1, .inl (cI, 30, .inl (ftMkRow ro tl e2 1))), (r2, .inl (cI, 30, .inl (ftMkRow ro tl e2 2))), (r3, .inl (cI, 30, .inl (ftMkRow ro tl e2 3))), (r4, .inl (cI, 30, .inl (ftMkRow ro tl e2 4))), (r5, .inl (cI, 30, .inl (ftMkRow ro tl e2 5))), (r6, .inl (cI, 30, .inl (ftMkRow ro tl e2 6))), (r7, .inl (cI, 30, .inl (ftMkRow ro tl e2 7)))] := by rw [ftMkRow_none (ho.trans (ftMkOut_end (by omega)))]
        rw [hw9] at hP hD
        exact W.vret hx hb hr (fun t ht hW => ⟨⟨(), rfl, trivial, by rw [ht]; exact hP, by rw [hAe]; exact hD⟩, by rw [hAe]; exact hS.F ht⟩) hS.2.2 dX7_findMakers_66
      · have c4n : i < e2 := ft_nleN (by omega) (by omega) c4
        refine lv_iload_n hx hb dX7_findMakers_7 rfl (lv_at hl 2 rfl) ?_
        refine lv_iconst (v := 1) hx hb dX7_findMakers_8 (by decide) ?_
        refine lv_iadd hx hb dX7_findMakers_9 ?_
        refine ft_top (y := nI (i + 1)) (ft_addN i 1) ?_
        refine lv_istore_n (lv' := [(3, .int (nI (i + 1))), (0, .ref a0), (1, .int (nI e2)), (2, .int (nI i))]) hx hb dX7_findMakers_10 rfl hl (by decide) rfl (fun ls hl => ?_)
        have lp11 : ∀ (n11 : Nat) (j : Nat) (x11_3 : Int32), e2 - j < n11 → (i + 1 ≤ j) → (j ≤ e2) → (ftMkIn ro tl i e2 (e2 - (i + 1)) = ftMkIn ro tl i e2 (e2 - j)) → x11_3 = nI j → ∀ (H : Heap) (locs : List Loc), va_P D vwCl [(a0, .inr (7, [.ref r0, .ref r1, .ref r2, .ref r3, .ref r4, .ref r5, .ref r6, .ref r7, .int (nI k), .int tl])), (r0, .inl (cI, 30, .inl (ro 0))), (r1, .inl (cI, 30, .inl (ro 1))), (r2, .inl (cI, 30, .inl (ro 2))), (r3, .inl (cI, 30, .inl (ro 3))), (r4, .inl (cI, 30, .inl (ro 4))), (r5, .inl (cI, 30, .inl (ro 5))), (r6, .inl (cI, 30, .inl (ro 6))), (r7, .inl (cI, 30, .inl (ro 7)))] H → va_D A [(a0, .inr (7, [.ref r0, .ref r1, .ref r2, .ref r3, .ref r4, .ref r5, .ref r6, .ref r7, .int (nI k), .int tl])), (r0, .inl (cI, 30, .inl (ro 0))), (r1, .inl (cI, 30, .inl (ro 1))), (r2, .inl (cI, 30, .inl (ro 2))), (r3, .inl (cI, 30, .inl (ro 3))), (r4, .inl (cI, 30, .inl (ro 4))), (r5, .inl (cI, 30, .inl (ro 5))), (r6, .inl (cI, 30, .inl (ro 6))), (r7, .inl (cI, 30, .inl (ro 7)))] → va_S A s.heap H locs → ∀ ls : Array Slot, lv_has ls 4 [(0, .ref a0), (1, .int (nI e2)), (2, .int (nI i)), (3, .int x11_3)] → W p l e (headSpec wsX7_findMakers { frames := 2, cells := 0, slots := 0, locals := 54 }).room s m ([.ref a0, .int (nI e2)] : List Value).toArray below meth c H locs 0 0 (MQ below (ftQv D [(a0, .inr (7, [.ref r0, .ref r1, .ref r2, .ref r3, .ref r4, .ref r5, .ref r6, .ref r7, .int (nI k), .int tl])), (r0, .inl (cI, 30, .inl (ro 0))), (r1, .inl (cI, 30, .inl (ro 1))), (r2, .inl (cI, 30, .inl (ro 2))), (r3, .inl (cI, 30, .inl (ro 3))), (r4, .inl (cI, 30, .inl (ro 4))), (r5, .inl (cI, 30, .inl (ro 5))), (r6, .inl (cI, 30, .inl (ro 6))), (r7, .inl (cI, 30, .inl (ro 7)))] [(a0, .inr (7, [.ref r0, .ref r1, .ref r2, .ref r3, .ref r4, .ref r5, .ref r6, .ref r7, .int (nI k), .int tl])), (r0, .inl (cI, 30, .inl (ftMkRow ro tl e2 0))), (r1, .inl (cI, 30, .inl (ftMkRow ro tl e2 1))), (r2, .inl (cI, 30, .inl (ftMkRow ro tl e2 2))), (r3, .inl (cI, 30, .inl (ftMkRow ro tl e2 3))), (r4, .inl (cI, 30, .inl (ftMkRow ro tl e2 4))), (r5, .inl (cI, 30, .inl (ftMkRow ro tl e2 5))), (r6, .inl (cI, 30, .inl (ftMkRow ro tl e2 6))), (r7, .inl (cI, 30, .inl (ftMkRow ro tl e2 7)))] s.heap.size) ([.ref a0, .int (nI e2)] : List Value).toArray s 0 0 A) (F0 m 11 ls []) := by
          intro n11
          induction n11 with
          | zero =>
            intro j x11_3  hm11
            exact absurd hm11 (Nat.not_lt_zero _)
          | succ n11 ih11 =>
            intro j x11_3  hm11 hij hje hin ex11_3  H locs hP hD hS ls hl
            subst ex11_3
            refine lv_iload_n hx hb dX7_findMakers_11 rfl (lv_at hl 3 rfl) ?_
            refine lv_iload_n hx hb dX7_findMakers_12 rfl (lv_at hl 1 rfl) ?_
            refine lv_icmp_ge (tgt := 60) hx hb dX7_findMakers_13 (by decide) (fun c13 => ?_) (fun c13 => ?_)
            · have c13n : e2 ≤ j := ft_leN (by omega) (by omega) c13
              refine lv_iinc (v := nI (i + 1)) (lv' := [(2, .int (nI (i + 1))), (0, .ref a0), (1, .int (nI e2)), (3, .int (nI j))]) hx hb dX7_findMakers_60 hl (k := 2) rfl (ft_inc i) (by decide) rfl (fun ls hl => ?_)
              refine lv_goto (tgt := 2) hx hb dX7_findMakers_63 (by decide) ?_
              exact ih2 (i + 1) (nI (i + 1))  (by omega) (by omega) (by rw [ho]; exact ftMkOut_go (by omega) (hin.trans (ftMkIn_end (by omega)))) (by first | rfl | assumption)  _ _ hP hD hS ls (lv_sub hl [1, 2, 0] rfl)
            · have c13n : j < e2 := ft_nleN (by omega) (by omega) c13
              refine lv_aload_n hx hb dX7_findMakers_16 rfl (lv_at hl 0 rfl) ?_
              refine lv_iload_n hx hb dX7_findMakers_17 rfl (lv_at hl 2 rfl) ?_
              refine lv_iload_n hx hb dX7_findMakers_18 rfl (lv_at hl 3 rfl) ?_
              refine lv_iload_n hx hb dX7_findMakers_19 rfl (lv_at hl 1 rfl) ?_
              refine ft_csi (r := ftB (ftMk ro tl i j e2)) (va_runV (C := RX7) (As := [.int (nI i), .int (nI j), .int (nI e2)]) (rest := []) ⟨hx, hb, hml, hown, hts⟩ (c_X7_makeGhost l D cI cS a0 r0 r1 r2 r3 r4 r5 r6 r7 k tl ro i j e2 (by first | assumption | omega) (by first | assumption | omega) (by first | assumption | omega)) (cwV 3 hts gX7_findMakers_X7_makeGhost rfl rfl rfl (by decide +kernel) ⟨Nat.le_of_ble_eq_true rfl, Nat.le_of_ble_eq_true rfl⟩) (ft_preROV (ci := 7) (q0 := 0) hP hKK [0, 1, 5] rfl rfl rfl) rfl rfl hl.1 rfl (lv_room (Nat.le_of_ble_eq_true rfl)) dX7_findMakers_20 ⟨Nat.le_of_ble_eq_true rfl, Nat.le_of_ble_eq_true rfl⟩) ?_
              refine lv_if_eq (tgt := 54) hx hb dX7_findMakers_23 (by decide) (fun c23 => ?_) (fun c23 => ?_)
              · replace c23 := ftB_eq c23
                refine lv_iinc (v := nI (j + 1)) (lv' := [(3, .int (nI (j + 1))), (0, .ref a0), (1, .int (nI e2)), (2, .int (nI i))]) hx hb dX7_findMakers_54 hl (k := 3) rfl (ft_inc j) (by decide) rfl (fun ls hl => ?_)
                refine lv_goto (tgt := 11) hx hb dX7_findMakers_57 (by decide) ?_
                exact ih11 (j + 1) (nI (j + 1))  (by omega) (by omega) (by omega) (by rw [hin]; exact ftMkIn_go (by omega) c23) (by first | rfl | assumption)  _ _ hP hD hS ls (lv_sub hl [1, 2, 3, 0] rfl)
              · replace c23 := ftB_ne c23
                refine lv_aload_n hx hb dX7_findMakers_26 rfl (lv_at hl 0 rfl) ?_
                refine va_get (D := D) (ci := 7) (v := .ref r4) (C := RX7) (T := TX7) (N := 10) hx hb hts (by decide +kernel) hown hK hP 0 rfl rfl 4 (by decide) (hts (.fieldLink RX7 24 "FiberTrace$Reading" "kinds" "[I") (by decide +kernel)) (fun _ h9 => h9) rfl dX7_findMakers_27 ?_
                refine lv_iload_n hx hb dX7_findMakers_30 rfl (lv_at hl 1 rfl) ?_
                refine lv_iconst (v := 2) hx hb dX7_findMakers_31 (by decide) ?_
                refine ft_cv (wc := [(r4, .inl (cI, 30, .inl (ro 4)))]) (wr := [(a0, .inr (7, [.ref r0, .ref r1, .ref r2, .ref r3, .ref r4, .ref r5, .ref r6, .ref r7, .int (nI k), .int tl])), (r0, .inl (cI, 30, .inl (ro 0))), (r1, .inl (cI, 30, .inl (ro 1))), (r2, .inl (cI, 30, .inl (ro 2))), (r3, .inl (cI, 30, .inl (ro 3))), (r5, .inl (cI, 30, .inl (ro 5))), (r6, .inl (cI, 30, .inl (ro 6))), (r7, .inl (cI, 30, .inl (ro 7)))]) (w1 := [(r4, .inl (cI, 30, .inl (ftPut 30 (ro 4) (nI e2) 2)))]) (ws1 := [(a0, .inr (7, [.ref r0, .ref r1, .ref r2, .ref r3, .ref r4, .ref r5, .ref r6, .ref r7, .int (nI k), .int tl])), (r0, .inl (cI, 30, .inl (ro 0))), (r1, .inl (cI, 30, .inl (ro 1))), (r2, .inl (cI, 30, .inl (ro 2))), (r3, .inl (cI, 30, .inl (ro 3))), (r4, .inl (cI, 30, .inl (ftPut 30 (ro 4) (nI e2) 2))), (r5, .inl (cI, 30, .inl (ro 5))), (r6, .inl (cI, 30, .inl (ro 6))), (r7, .inl (cI, 30, .inl (ro 7)))]) (va_runSN (As := [.ref r4, .int (nI e2), .int 2]) (rest := []) ⟨hx, hb, hml, hown, hts⟩ (c_X10_put l D cI cS H.size r4 30 (ro 4) (nI e2) 2 (by first | assumption | omega)) ⟨va_cnB 3 hts gX7_findMakers_X10_put_n55 rfl rfl rfl (hKK.2 _ (List.mem_of_getElem? (i := 22) rfl)) (hts (.initialized RX10) (by decide +kernel)) (by decide +kernel) ⟨Nat.le_of_ble_eq_true rfl, Nat.le_of_ble_eq_true rfl⟩, hts (.static yX10_put) (by decide +kernel), trivial⟩ (ft_preRW hP hD hKK [5] rfl rfl rfl) rfl rfl hl.1 rfl (lv_room (Nat.le_of_ble_eq_true rfl)) dX7_findMakers_32 ⟨Nat.le_of_ble_eq_true rfl, Nat.le_of_ble_eq_true rfl⟩) hP hD hS hA [5] [0, 1, 2, 3, 4, 6, 7, 8] [0, 1, 2, 3, 4, 8, 5, 6, 7] rfl rfl (by decide) (by decide) (by decide) rfl rfl (fun H locs hP hD hS => ?_)
                rw [ftPut_N (k := e2) (by omega) (by omega)] at hP hD
                have hP : va_P D vwCl [(a0, .inr (7, [.ref r0, .ref r1, .ref r2, .ref r3, .ref r4, .ref r5, .ref r6, .ref r7, .int (nI k), .int tl])), (r0, .inl (cI, 30, .inl (ro 0))), (r1, .inl (cI, 30, .inl (ro 1))), (r2, .inl (cI, 30, .inl (ro 2))), (r3, .inl (cI, 30, .inl (ro 3))), (r4, .inl (cI, 30, .inl (upd (ro 4) e2 2))), (r5, .inl (cI, 30, .inl (ro 5))), (r6, .inl (cI, 30, .inl (ro 6))), (r7, .inl (cI, 30, .inl (ro 7)))] H := hP
                have hD : va_D A [(a0, .inr (7, [.ref r0, .ref r1, .ref r2, .ref r3, .ref r4, .ref r5, .ref r6, .ref r7, .int (nI k), .int tl])), (r0, .inl (cI, 30, .inl (ro 0))), (r1, .inl (cI, 30, .inl (ro 1))), (r2, .inl (cI, 30, .inl (ro 2))), (r3, .inl (cI, 30, .inl (ro 3))), (r4, .inl (cI, 30, .inl (upd (ro 4) e2 2))), (r5, .inl (cI, 30, .inl (ro 5))), (r6, .inl (cI, 30, .inl (ro 6))), (r7, .inl (cI, 30, .inl (ro 7)))] := hD
                refine lv_aload_n hx hb dX7_findMakers_35 rfl (lv_at hl 0 rfl) ?_
                refine va_get (D := D) (ci := 7) (v := .ref r6) (C := RX7) (T := TX7) (N := 10) hx hb hts (by decide +kernel) hown hK hP 0 rfl rfl 6 (by decide) (hts (.fieldLink RX7 30 "FiberTrace$Reading" "firstMakers" "[I") (by decide +kernel)) (fun _ h9 => h9) rfl dX7_findMakers_36 ?_
                refine lv_iload_n hx hb dX7_findMakers_39 rfl (lv_at hl 1 rfl) ?_
                refine lv_iload_n hx hb dX7_findMakers_40 rfl (lv_at hl 2 rfl) ?_
                refine ft_cv (wc := [(r6, .inl (cI, 30, .inl (ro 6)))]) (wr := [(a0, .inr (7, [.ref r0, .ref r1, .ref r2, .ref r3, .ref r4, .ref r5, .ref r6, .ref r7, .int (nI k), .int tl])), (r0, .inl (cI, 30, .inl (ro 0))), (r1, .inl (cI, 30, .inl (ro 1))), (r2, .inl (cI, 30, .inl (ro 2))), (r3, .inl (cI, 30, .inl (ro 3))), (r4, .inl (cI, 30, .inl (upd (ro 4) e2 2))), (r5, .inl (cI, 30, .inl (ro 5))), (r7, .inl (cI, 30, .inl (ro 7)))]) (w1 := [(r6, .inl (cI, 30, .inl (ftPut 30 (ro 6) (nI e2) (nI i))))]) (ws1 := [(a0, .inr (7, [.ref r0, .ref r1, .ref r2, .ref r3, .ref r4, .ref r5, .ref r6, .ref r7, .int (nI k), .int tl])), (r0, .inl (cI, 30, .inl (ro 0))), (r1, .inl (cI, 30, .inl (ro 1))), (r2, .inl (cI, 30, .inl (ro 2))), (r3, .inl (cI, 30, .inl (ro 3))), (r4, .inl (cI, 30, .inl (upd (ro 4) e2 2))), (r5, .inl (cI, 30, .inl (ro 5))), (r6, .inl (cI, 30, .inl (ftPut 30 (ro 6) (nI e2) (nI i)))), (r7, .inl (cI, 30, .inl (ro 7)))]) (va_runSN (As := [.ref r6, .int (nI e2), .int (nI i)]) (rest := []) ⟨hx, hb, hml, hown, hts⟩ (c_X10_put l D cI cS H.size r6 30 (ro 6) (nI e2) (nI i) (by first | assumption | omega)) ⟨va_cnB 3 hts gX7_findMakers_X10_put_n55 rfl rfl rfl (hKK.2 _ (List.mem_of_getElem? (i := 22) rfl)) (hts (.initialized RX10) (by decide +kernel)) (by decide +kernel) ⟨Nat.le_of_ble_eq_true rfl, Nat.le_of_ble_eq_true rfl⟩, hts (.static yX10_put) (by decide +kernel), trivial⟩ (ft_preRW hP hD hKK [7] rfl rfl rfl) rfl rfl hl.1 rfl (lv_room (Nat.le_of_ble_eq_true rfl)) dX7_findMakers_41 ⟨Nat.le_of_ble_eq_true rfl, Nat.le_of_ble_eq_true rfl⟩) hP hD hS hA [7] [0, 1, 2, 3, 4, 5, 6, 8] [0, 1, 2, 3, 4, 5, 6, 8, 7] rfl rfl (by decide) (by decide) (by decide) rfl rfl (fun H locs hP hD hS => ?_)
                rw [ftPut_N (k := e2) (by omega) (by omega)] at hP hD
                have hP : va_P D vwCl [(a0, .inr (7, [.ref r0, .ref r1, .ref r2, .ref r3, .ref r4, .ref r5, .ref r6, .ref r7, .int (nI k), .int tl])), (r0, .inl (cI, 30, .inl (ro 0))), (r1, .inl (cI, 30, .inl (ro 1))), (r2, .inl (cI, 30, .inl (ro 2))), (r3, .inl (cI, 30, .inl (ro 3))), (r4, .inl (cI, 30, .inl (upd (ro 4) e2 2))), (r5, .inl (cI, 30, .inl (ro 5))), (r6, .inl (cI, 30, .inl (upd (ro 6) e2 (nI i)))), (r7, .inl (cI, 30, .inl (ro 7)))] H := hP
                have hD : va_D A [(a0, .inr (7, [.ref r0, .ref r1, .ref r2, .ref r3, .ref r4, .ref r5, .ref r6, .ref r7, .int (nI k), .int tl])), (r0, .inl (cI, 30, .inl (ro 0))), (r1, .inl (cI, 30, .inl (ro 1))), (r2, .inl (cI, 30, .inl (ro 2))), (r3, .inl (cI, 30, .inl (ro 3))), (r4, .inl (cI, 30, .inl (upd (ro 4) e2 2))), (r5, .inl (cI, 30, .inl (ro 5))), (r6, .inl (cI, 30, .inl (upd (ro 6) e2 (nI i)))), (r7, .inl (cI, 30, .inl (ro 7)))] := hD
                refine lv_aload_n hx hb dX7_findMakers_44 rfl (lv_at hl 0 rfl) ?_
                refine va_get (D := D) (ci := 7) (v := .ref r7) (C := RX7) (T := TX7) (N := 10) hx hb hts (by decide +kernel) hown hK hP 0 rfl rfl 7 (by decide) (hts (.fieldLink RX7 33 "FiberTrace$Reading" "secondMakers" "[I") (by decide +kernel)) (fun _ h9 => h9) rfl dX7_findMakers_45 ?_
                refine lv_iload_n hx hb dX7_findMakers_48 rfl (lv_at hl 1 rfl) ?_
                refine lv_iload_n hx hb dX7_findMakers_49 rfl (lv_at hl 3 rfl) ?_
                refine ft_cv (wc := [(r7, .inl (cI, 30, .inl (ro 7)))]) (wr := [(a0, .inr (7, [.ref r0, .ref r1, .ref r2, .ref r3, .ref r4, .ref r5, .ref r6, .ref r7, .int (nI k), .int tl])), (r0, .inl (cI, 30, .inl (ro 0))), (r1, .inl (cI, 30, .inl (ro 1))), (r2, .inl (cI, 30, .inl (ro 2))), (r3, .inl (cI, 30, .inl (ro 3))), (r4, .inl (cI, 30, .inl (upd (ro 4) e2 2))), (r5, .inl (cI, 30, .inl (ro 5))), (r6, .inl (cI, 30, .inl (upd (ro 6) e2 (nI i))))]) (w1 := [(r7, .inl (cI, 30, .inl (ftPut 30 (ro 7) (nI e2) (nI j))))]) (ws1 := [(a0, .inr (7, [.ref r0, .ref r1, .ref r2, .ref r3, .ref r4, .ref r5, .ref r6, .ref r7, .int (nI k), .int tl])), (r0, .inl (cI, 30, .inl (ro 0))), (r1, .inl (cI, 30, .inl (ro 1))), (r2, .inl (cI, 30, .inl (ro 2))), (r3, .inl (cI, 30, .inl (ro 3))), (r4, .inl (cI, 30, .inl (upd (ro 4) e2 2))), (r5, .inl (cI, 30, .inl (ro 5))), (r6, .inl (cI, 30, .inl (upd (ro 6) e2 (nI i)))), (r7, .inl (cI, 30, .inl (ftPut 30 (ro 7) (nI e2) (nI j))))]) (va_runSN (As := [.ref r7, .int (nI e2), .int (nI j)]) (rest := []) ⟨hx, hb, hml, hown, hts⟩ (c_X10_put l D cI cS H.size r7 30 (ro 7) (nI e2) (nI j) (by first | assumption | omega)) ⟨va_cnB 3 hts gX7_findMakers_X10_put_n55 rfl rfl rfl (hKK.2 _ (List.mem_of_getElem? (i := 22) rfl)) (hts (.initialized RX10) (by decide +kernel)) (by decide +kernel) ⟨Nat.le_of_ble_eq_true rfl, Nat.le_of_ble_eq_true rfl⟩, hts (.static yX10_put) (by decide +kernel), trivial⟩ (ft_preRW hP hD hKK [8] rfl rfl rfl) rfl rfl hl.1 rfl (lv_room (Nat.le_of_ble_eq_true rfl)) dX7_findMakers_50 ⟨Nat.le_of_ble_eq_true rfl, Nat.le_of_ble_eq_true rfl⟩) hP hD hS hA [8] [0, 1, 2, 3, 4, 5, 6, 7] [0, 1, 2, 3, 4, 5, 6, 7, 8] rfl rfl (by decide) (by decide) (by decide) rfl rfl (fun H locs hP hD hS => ?_)
                rw [ftPut_N (k := e2) (by omega) (by omega)] at hP hD
                have hP : va_P D vwCl [(a0, .inr (7, [.ref r0, .ref r1, .ref r2, .ref r3, .ref r4, .ref r5, .ref r6, .ref r7, .int (nI k), .int tl])), (r0, .inl (cI, 30, .inl (ro 0))), (r1, .inl (cI, 30, .inl (ro 1))), (r2, .inl (cI, 30, .inl (ro 2))), (r3, .inl (cI, 30, .inl (ro 3))), (r4, .inl (cI, 30, .inl (upd (ro 4) e2 2))), (r5, .inl (cI, 30, .inl (ro 5))), (r6, .inl (cI, 30, .inl (upd (ro 6) e2 (nI i)))), (r7, .inl (cI, 30, .inl (upd (ro 7) e2 (nI j))))] H := hP
                have hD : va_D A [(a0, .inr (7, [.ref r0, .ref r1, .ref r2, .ref r3, .ref r4, .ref r5, .ref r6, .ref r7, .int (nI k), .int tl])), (r0, .inl (cI, 30, .inl (ro 0))), (r1, .inl (cI, 30, .inl (ro 1))), (r2, .inl (cI, 30, .inl (ro 2))), (r3, .inl (cI, 30, .inl (ro 3))), (r4, .inl (cI, 30, .inl (upd (ro 4) e2 2))), (r5, .inl (cI, 30, .inl (ro 5))), (r6, .inl (cI, 30, .inl (upd (ro 6) e2 (nI i)))), (r7, .inl (cI, 30, .inl (upd (ro 7) e2 (nI j))))] := hD
                have hw9 : ([(a0, .inr (7, [.ref r0, .ref r1, .ref r2, .ref r3, .ref r4, .ref r5, .ref r6, .ref r7, .int (nI k), .int tl])), (r0, .inl (cI, 30, .inl (ro 0))), (r1, .inl (cI, 30, .inl (ro 1))), (r2, .inl (cI, 30, .inl (ro 2))), (r3, .inl (cI, 30, .inl (ro 3))), (r4, .inl (cI, 30, .inl (upd (ro 4) e2 2))), (r5, .inl (cI, 30, .inl (ro 5))), (r6, .inl (cI, 30, .inl (upd (ro 6) e2 (nI i)))), (r7, .inl (cI, 30, .inl (upd (ro 7) e2 (nI j))))] : va_W) = [(a0, .inr (7, [.ref r0, .ref r1, .ref r2, .ref r3, .ref r4, .ref r5, .ref r6, .ref r7, .int (nI k), .int tl])), (r0, .inl (cI, 30, .inl (ftMkRow ro tl e2 0))), (r1, .inl (cI, 30, .inl (ftMkRow ro tl e2 1))), (r2, .inl (cI, 30, .inl (ftMkRow ro tl e2 2))), (r3, .inl (cI, 30, .inl (ftMkRow ro tl e2 3))), (r4, .inl (cI, 30, .inl (ftMkRow ro tl e2 4))), (r5, .inl (cI, 30, .inl (ftMkRow ro tl e2 5))), (r6, .inl (cI, 30, .inl (ftMkRow ro tl e2 6))), (r7, .inl (cI, 30, .inl (ftMkRow ro tl e2 7)))] := by rw [ftMkRow_some (ho.trans (ftMkOut_hit (by omega) (hin.trans (ftMkIn_hit (by omega) c23))))]; rfl
                rw [hw9] at hP hD
                exact W.vret hx hb hr (fun t ht hW => ⟨⟨(), rfl, trivial, by rw [ht]; exact hP, by rw [hAe]; exact hD⟩, by rw [hAe]; exact hS.F ht⟩) hS.2.2 dX7_findMakers_53
        exact lp11 _ (i + 1) (nI (i + 1))  (Nat.lt_succ_self _) (by omega) (by omega) (by rfl) (by rfl) _ _ hP hD hS ls (lv_sub hl [1, 2, 3, 0] rfl)
  exact lp2 _ 0 0  (Nat.lt_succ_self _) (by omega) (by rfl) (by rfl) _ _ hP hD hS ls (lv_sub hl [1, 2, 0] rfl)
set_option maxHeartbeats 4000000 in
set_option maxRecDepth 100000 in
theorem c_X7_findGhosts (l : Launch) (D : va_G) (cI cS : ClassId) (sz : Nat) (a0 r0 r1 r2 r3 r4 r5 r6 r7 k : Nat) (tl : Int32) (ro : Nat → Nat → Int32) (gl : Int32) (hk : k ≤ 30) : Met l yX7_findGhosts wsX7_findGhosts ({ frames := 3, cells := 0, slots := 0, locals := 77 }) (ftRW D cI cS [.ref a0, .int gl] [(a0, .inr (7, [.ref r0, .ref r1, .ref r2, .ref r3, .ref r4, .ref r5, .ref r6, .ref r7, .int (nI k), .int tl])), (r0, .inl (cI, 30, .inl (ro 0))), (r1, .inl (cI, 30, .inl (ro 1))), (r2, .inl (cI, 30, .inl (ro 2))), (r3, .inl (cI, 30, .inl (ro 3))), (r4, .inl (cI, 30, .inl (ro 4))), (r5, .inl (cI, 30, .inl (ro 5))), (r6, .inl (cI, 30, .inl (ro 6))), (r7, .inl (cI, 30, .inl (ro 7)))] sz) (ftQv D [(a0, .inr (7, [.ref r0, .ref r1, .ref r2, .ref r3, .ref r4, .ref r5, .ref r6, .ref r7, .int (nI k), .int tl])), (r0, .inl (cI, 30, .inl (ro 0))), (r1, .inl (cI, 30, .inl (ro 1))), (r2, .inl (cI, 30, .inl (ro 2))), (r3, .inl (cI, 30, .inl (ro 3))), (r4, .inl (cI, 30, .inl (ro 4))), (r5, .inl (cI, 30, .inl (ro 5))), (r6, .inl (cI, 30, .inl (ro 6))), (r7, .inl (cI, 30, .inl (ro 7)))] [(a0, .inr (7, [.ref r0, .ref r1, .ref r2, .ref r3, .ref r4, .ref r5, .ref r6, .ref r7, .int (nI k), .int tl])), (r0, .inl (cI, 30, .inl (ftGhosts ro tl gl k 0))), (r1, .inl (cI, 30, .inl (ftGhosts ro tl gl k 1))), (r2, .inl (cI, 30, .inl (ftGhosts ro tl gl k 2))), (r3, .inl (cI, 30, .inl (ftGhosts ro tl gl k 3))), (r4, .inl (cI, 30, .inl (ftGhosts ro tl gl k 4))), (r5, .inl (cI, 30, .inl (ftGhosts ro tl gl k 5))), (r6, .inl (cI, 30, .inl (ftGhosts ro tl gl k 6))), (r7, .inl (cI, 30, .inl (ftGhosts ro tl gl k 7)))] sz) 0 0 (va_A [(a0, .inr (7, [.ref r0, .ref r1, .ref r2, .ref r3, .ref r4, .ref r5, .ref r6, .ref r7, .int (nI k), .int tl])), (r0, .inl (cI, 30, .inl (ro 0))), (r1, .inl (cI, 30, .inl (ro 1))), (r2, .inl (cI, 30, .inl (ro 2))), (r3, .inl (cI, 30, .inl (ro 3))), (r4, .inl (cI, 30, .inl (ro 4))), (r5, .inl (cI, 30, .inl (ro 5))), (r6, .inl (cI, 30, .inl (ro 6))), (r7, .inl (cI, 30, .inl (ro 7)))] sz) := by
  refine Met.ofW (cc := cX7_findGhosts) (maxL := 3) (ret := none) (by decide) rfl ?_
  intro p e s m args below meth c s₁ B hml hv
  obtain ⟨rfl, hsz, hP, hKK, hD0⟩ := hv
  have hK := hKK.1
  have hx := B.exec
  have hb := B.bytes
  have hr := B.returns
  have hts := atoms_spec (ws := wsX7_findGhosts) B.pre
  have hown : s.vm.findClass RX7 = some m.cls := findClass_of_methodNamed B.named
  have hlocks := B.notSynchronized
  subst hsz
  have hD := hD0.self (sz := s.heap.size)
  generalize hAe : va_A [(a0, .inr (7, [.ref r0, .ref r1, .ref r2, .ref r3, .ref r4, .ref r5, .ref r6, .ref r7, .int (nI k), .int tl])), (r0, .inl (cI, 30, .inl (ro 0))), (r1, .inl (cI, 30, .inl (ro 1))), (r2, .inl (cI, 30, .inl (ro 2))), (r3, .inl (cI, 30, .inl (ro 3))), (r4, .inl (cI, 30, .inl (ro 4))), (r5, .inl (cI, 30, .inl (ro 5))), (r6, .inl (cI, 30, .inl (ro 6))), (r7, .inl (cI, 30, .inl (ro 7)))] s.heap.size = A at hD ⊢
  have hA : ∀ q : Nat, s.heap.size ≤ q → A q := fun q h => by rw [← hAe]; exact Or.inr h
  have hS : va_S A s.heap s.heap [] := va_S.rf
  have hD : va_D A [(a0, .inr (7, [.ref r0, .ref r1, .ref r2, .ref r3, .ref r4, .ref r5, .ref r6, .ref r7, .int (nI k), .int tl])), (r0, .inl (cI, 30, .inl (ro 0))), (r1, .inl (cI, 30, .inl (ro 1))), (r2, .inl (cI, 30, .inl (ro 2))), (r3, .inl (cI, 30, .inl (ro 3))), (r4, .inl (cI, 30, .inl (ro 4))), (r5, .inl (cI, 30, .inl (ro 5))), (r6, .inl (cI, 30, .inl (ro 6))), (r7, .inl (cI, 30, .inl (ro 7)))] := hD
  have hP : va_P D vwCl [(a0, .inr (7, [.ref r0, .ref r1, .ref r2, .ref r3, .ref r4, .ref r5, .ref r6, .ref r7, .int (nI k), .int tl])), (r0, .inl (cI, 30, .inl (ro 0))), (r1, .inl (cI, 30, .inl (ro 1))), (r2, .inl (cI, 30, .inl (ro 2))), (r3, .inl (cI, 30, .inl (ro 3))), (r4, .inl (cI, 30, .inl (ro 4))), (r5, .inl (cI, 30, .inl (ro 5))), (r6, .inl (cI, 30, .inl (ro 6))), (r7, .inl (cI, 30, .inl (ro 7)))] s.heap := hP
  have hl := lv_entry ([.ref a0, .int gl]) (n := 3) (Nat.le_of_ble_eq_true rfl)
  rw [lg_entry_eq]
  generalize (lg_sl ([.ref a0, .int gl]) ++ List.replicate (3 - (lg_sl ([.ref a0, .int gl])).length) Slot.unset).toArray = ls at hl ⊢
  have hl : lv_has ls 3 [(0, .ref a0), (1, .int gl)] := hl
  refine lv_iconst (v := 0) hx hb dX7_findGhosts_0 (by decide) ?_
  refine lv_istore_n (lv' := [(2, .int 0), (0, .ref a0), (1, .int gl)]) hx hb dX7_findGhosts_1 rfl hl (by decide) rfl (fun ls hl => ?_)
  have lp2 : ∀ (n2 : Nat) (i : Nat) (rg : Nat → Nat → Int32) (x2_2 : Int32) (g2_r0 : Nat → Int32) (g2_r1 : Nat → Int32) (g2_r2 : Nat → Int32) (g2_r3 : Nat → Int32) (g2_r4 : Nat → Int32) (g2_r5 : Nat → Int32) (g2_r6 : Nat → Int32) (g2_r7 : Nat → Int32), k - i < n2 → (i ≤ k) → (rg = ftGhosts ro tl gl i) → x2_2 = nI i → g2_r0 = rg 0 → g2_r1 = rg 1 → g2_r2 = rg 2 → g2_r3 = rg 3 → g2_r4 = rg 4 → g2_r5 = rg 5 → g2_r6 = rg 6 → g2_r7 = rg 7 → ∀ (H : Heap) (locs : List Loc), va_P D vwCl [(a0, .inr (7, [.ref r0, .ref r1, .ref r2, .ref r3, .ref r4, .ref r5, .ref r6, .ref r7, .int (nI k), .int tl])), (r0, .inl (cI, 30, .inl g2_r0)), (r1, .inl (cI, 30, .inl g2_r1)), (r2, .inl (cI, 30, .inl g2_r2)), (r3, .inl (cI, 30, .inl g2_r3)), (r4, .inl (cI, 30, .inl g2_r4)), (r5, .inl (cI, 30, .inl g2_r5)), (r6, .inl (cI, 30, .inl g2_r6)), (r7, .inl (cI, 30, .inl g2_r7))] H → va_D A [(a0, .inr (7, [.ref r0, .ref r1, .ref r2, .ref r3, .ref r4, .ref r5, .ref r6, .ref r7, .int (nI k), .int tl])), (r0, .inl (cI, 30, .inl g2_r0)), (r1, .inl (cI, 30, .inl g2_r1)), (r2, .inl (cI, 30, .inl g2_r2)), (r3, .inl (cI, 30, .inl g2_r3)), (r4, .inl (cI, 30, .inl g2_r4)), (r5, .inl (cI, 30, .inl g2_r5)), (r6, .inl (cI, 30, .inl g2_r6)), (r7, .inl (cI, 30, .inl g2_r7))] → va_S A s.heap H locs → ∀ ls : Array Slot, lv_has ls 3 [(0, .ref a0), (1, .int gl), (2, .int x2_2)] → W p l e (headSpec wsX7_findGhosts { frames := 3, cells := 0, slots := 0, locals := 77 }).room s m ([.ref a0, .int gl] : List Value).toArray below meth c H locs 0 0 (MQ below (ftQv D [(a0, .inr (7, [.ref r0, .ref r1, .ref r2, .ref r3, .ref r4, .ref r5, .ref r6, .ref r7, .int (nI k), .int tl])), (r0, .inl (cI, 30, .inl (ro 0))), (r1, .inl (cI, 30, .inl (ro 1))), (r2, .inl (cI, 30, .inl (ro 2))), (r3, .inl (cI, 30, .inl (ro 3))), (r4, .inl (cI, 30, .inl (ro 4))), (r5, .inl (cI, 30, .inl (ro 5))), (r6, .inl (cI, 30, .inl (ro 6))), (r7, .inl (cI, 30, .inl (ro 7)))] [(a0, .inr (7, [.ref r0, .ref r1, .ref r2, .ref r3, .ref r4, .ref r5, .ref r6, .ref r7, .int (nI k), .int tl])), (r0, .inl (cI, 30, .inl (ftGhosts ro tl gl k 0))), (r1, .inl (cI, 30, .inl (ftGhosts ro tl gl k 1))), (r2, .inl (cI, 30, .inl (ftGhosts ro tl gl k 2))), (r3, .inl (cI, 30, .inl (ftGhosts ro tl gl k 3))), (r4, .inl (cI, 30, .inl (ftGhosts ro tl gl k 4))), (r5, .inl (cI, 30, .inl (ftGhosts ro tl gl k 5))), (r6, .inl (cI, 30, .inl (ftGhosts ro tl gl k 6))), (r7, .inl (cI, 30, .inl (ftGhosts ro tl gl k 7)))] s.heap.size) ([.ref a0, .int gl] : List Value).toArray s 0 0 A) (F0 m 2 ls []) := by
    intro n2
    induction n2 with
    | zero =>
      intro i rg x2_2 g2_r0 g2_r1 g2_r2 g2_r3 g2_r4 g2_r5 g2_r6 g2_r7 hm2
      exact absurd hm2 (Nat.not_lt_zero _)
    | succ n2 ih2 =>
      intro i rg x2_2 g2_r0 g2_r1 g2_r2 g2_r3 g2_r4 g2_r5 g2_r6 g2_r7 hm2 hik hg ex2_2 eg2_r0 eg2_r1 eg2_r2 eg2_r3 eg2_r4 eg2_r5 eg2_r6 eg2_r7 H locs hP hD hS ls hl
      subst ex2_2
      subst eg2_r0
      subst eg2_r1
      subst eg2_r2
      subst eg2_r3
      subst eg2_r4
      subst eg2_r5
      subst eg2_r6
      subst eg2_r7
      refine lv_iload_n hx hb dX7_findGhosts_2 rfl (lv_at hl 2 rfl) ?_
      refine lv_aload_n hx hb dX7_findGhosts_3 rfl (lv_at hl 0 rfl) ?_
      refine va_get (D := D) (ci := 7) (v := .int (nI k)) (C := RX7) (T := TX7) (N := 10) hx hb hts (by decide +kernel) hown hK hP 0 rfl rfl 8 (by decide) (hts (.fieldLink RX7 36 "FiberTrace$Reading" "size" "I") (by decide +kernel)) (fun _ h9 => h9) rfl dX7_findGhosts_4 ?_
      refine lv_icmp_ge (tgt := 48) hx hb dX7_findGhosts_7 (by decide) (fun c7 => ?_) (fun c7 => ?_)
      · have c7n : k ≤ i := ft_leN (by omega) (by omega) c7
        have hw9 : ([(a0, .inr (7, [.ref r0, .ref r1, .ref r2, .ref r3, .ref r4, .ref r5, .ref r6, .ref r7, .int (nI k), .int tl])), (r0, .inl (cI, 30, .inl (rg 0))), (r1, .inl (cI, 30, .inl (rg 1))), (r2, .inl (cI, 30, .inl (rg 2))), (r3, .inl (cI, 30, .inl (rg 3))), (r4, .inl (cI, 30, .inl (rg 4))), (r5, .inl (cI, 30, .inl (rg 5))), (r6, .inl (cI, 30, .inl (rg 6))), (r7, .inl (cI, 30, .inl (rg 7)))] : va_W) = [(a0, .inr (7, [.ref r0, .ref r1, .ref r2, .ref r3, .ref r4, .ref r5, .ref r6, .ref r7, .int (nI k), .int tl])), (r0, .inl (cI, 30, .inl (ftGhosts ro tl gl k 0))), (r1, .inl (cI, 30, .inl (ftGhosts ro tl gl k 1))), (r2, .inl (cI, 30, .inl (ftGhosts ro tl gl k 2))), (r3, .inl (cI, 30, .inl (ftGhosts ro tl gl k 3))), (r4, .inl (cI, 30, .inl (ftGhosts ro tl gl k 4))), (r5, .inl (cI, 30, .inl (ftGhosts ro tl gl k 5))), (r6, .inl (cI, 30, .inl (ftGhosts ro tl gl k 6))), (r7, .inl (cI, 30, .inl (ftGhosts ro tl gl k 7)))] := by (obtain rfl : i = k := by omega); rw [hg]
        rw [hw9] at hP hD
        exact W.vret hx hb hr (fun t ht hW => ⟨⟨(), rfl, trivial, by rw [ht]; exact hP, by rw [hAe]; exact hD⟩, by rw [hAe]; exact hS.F ht⟩) hS.2.2 dX7_findGhosts_48
      · have c7n : i < k := ft_nleN (by omega) (by omega) c7
        refine lv_aload_n hx hb dX7_findGhosts_10 rfl (lv_at hl 0 rfl) ?_
        refine va_get (D := D) (ci := 7) (v := .ref r4) (C := RX7) (T := TX7) (N := 10) hx hb hts (by decide +kernel) hown hK hP 0 rfl rfl 4 (by decide) (hts (.fieldLink RX7 24 "FiberTrace$Reading" "kinds" "[I") (by decide +kernel)) (fun _ h9 => h9) rfl dX7_findGhosts_11 ?_
        refine lv_iload_n hx hb dX7_findGhosts_14 rfl (lv_at hl 2 rfl) ?_
        refine ft_csi (r := ftAt 30 (rg 4) (nI i)) (va_runSN (As := [.ref r4, .int (nI i)]) (rest := []) ⟨hx, hb, hml, hown, hts⟩ (c_X10_at l D cI cS r4 30 (rg 4) (nI i) (by first | assumption | omega)) ⟨va_cnB 2 hts gX7_findGhosts_X10_at_n40 rfl rfl rfl (hKK.2 _ (List.mem_of_getElem? (i := 21) rfl)) (hts (.initialized RX10) (by decide +kernel)) (by decide +kernel) ⟨Nat.le_of_ble_eq_true rfl, Nat.le_of_ble_eq_true rfl⟩, hts (.static yX10_at) (by decide +kernel), trivial⟩ (ft_preRO hP hKK [5] rfl) rfl rfl hl.1 rfl (lv_room (Nat.le_of_ble_eq_true rfl)) dX7_findGhosts_15 ⟨Nat.le_of_ble_eq_true rfl, Nat.le_of_ble_eq_true rfl⟩) ?_
        refine ft_top (y := (rg 4) i) (ftAt_N (by omega) (by omega)) ?_
        refine lv_iconst (v := 1) hx hb dX7_findGhosts_18 (by decide) ?_
        refine lv_icmp_ne (tgt := 42) hx hb dX7_findGhosts_19 (by decide) (fun c19 => ?_) (fun c19 => ?_)
        · obtain ⟨r9, hr9⟩ : ∃ r9, r9 = rg := ⟨rg, rfl⟩
          refine lv_iinc (v := nI (i + 1)) (lv' := [(2, .int (nI (i + 1))), (0, .ref a0), (1, .int gl)]) hx hb dX7_findGhosts_42 hl (k := 2) rfl (ft_inc i) (by decide) rfl (fun ls hl => ?_)
          refine lv_goto (tgt := 2) hx hb dX7_findGhosts_45 (by decide) ?_
          exact ih2 (i + 1) r9 (nI (i + 1)) (rg 0) (rg 1) (rg 2) (rg 3) (rg 4) (rg 5) (rg 6) (rg 7) (by omega) (by omega) (by first | (rw [hr9]; exact ftGhosts_t hg ⟨c19, Int32.not_lt.mp c34⟩) | (rw [hr9]; exact ftGhosts_f hg (fun q => absurd q.2 (Int32.not_le.mpr c34))) | (rw [hr9]; exact ftGhosts_f hg (fun q => c19 q.1))) (by first | rfl | assumption) (by rw [hr9]) (by rw [hr9]) (by rw [hr9]) (by rw [hr9]) (by rw [hr9]) (by rw [hr9]) (by rw [hr9]) (by rw [hr9]) _ _ hP hD hS ls (lv_sub hl [1, 2, 0] rfl)
        · refine lv_aload_n hx hb dX7_findGhosts_22 rfl (lv_at hl 0 rfl) ?_
          refine va_get (D := D) (ci := 7) (v := .ref r2) (C := RX7) (T := TX7) (N := 10) hx hb hts (by decide +kernel) hown hK hP 0 rfl rfl 2 (by decide) (hts (.fieldLink RX7 18 "FiberTrace$Reading" "losses" "[I") (by decide +kernel)) (fun _ h9 => h9) rfl dX7_findGhosts_23 ?_
          refine lv_iload_n hx hb dX7_findGhosts_26 rfl (lv_at hl 2 rfl) ?_
          refine ft_csi (r := ftAt 30 (rg 2) (nI i)) (va_runSN (As := [.ref r2, .int (nI i)]) (rest := []) ⟨hx, hb, hml, hown, hts⟩ (c_X10_at l D cI cS r2 30 (rg 2) (nI i) (by first | assumption | omega)) ⟨va_cnB 2 hts gX7_findGhosts_X10_at_n40 rfl rfl rfl (hKK.2 _ (List.mem_of_getElem? (i := 21) rfl)) (hts (.initialized RX10) (by decide +kernel)) (by decide +kernel) ⟨Nat.le_of_ble_eq_true rfl, Nat.le_of_ble_eq_true rfl⟩, hts (.static yX10_at) (by decide +kernel), trivial⟩ (ft_preRO hP hKK [3] rfl) rfl rfl hl.1 rfl (lv_room (Nat.le_of_ble_eq_true rfl)) dX7_findGhosts_27 ⟨Nat.le_of_ble_eq_true rfl, Nat.le_of_ble_eq_true rfl⟩) ?_
          refine ft_top (y := (rg 2) i) (ftAt_N (by omega) (by omega)) ?_
          refine va_mabs hx hb (hml.trans hl.1.symm) hown (hts (.methodLink RX7 65 Lib.Math.abs.name) (by decide +kernel)) (hts (.static Lib.Math.abs.name) (by decide +kernel)) (hts (.initialized "java/lang/Math") (by decide +kernel)) (hts (.code Lib.Math.abs.name Lib.Math.abs.code 1 (some .int)) (by decide +kernel)) (Nat.le_of_ble_eq_true rfl) (Nat.le_of_ble_eq_true rfl) (Nat.le_of_ble_eq_true rfl) (Nat.le_of_ble_eq_true rfl) dX7_findGhosts_30 ?_
          refine ft_top (y := ftAbs ((rg 2) i)) rfl ?_
          refine lv_iload_n hx hb dX7_findGhosts_33 rfl (lv_at hl 1 rfl) ?_
          refine lv_icmp_gt (tgt := 42) hx hb dX7_findGhosts_34 (by decide) (fun c34 => ?_) (fun c34 => ?_)
          · obtain ⟨r9, hr9⟩ : ∃ r9, r9 = rg := ⟨rg, rfl⟩
            refine lv_iinc (v := nI (i + 1)) (lv' := [(2, .int (nI (i + 1))), (0, .ref a0), (1, .int gl)]) hx hb dX7_findGhosts_42 hl (k := 2) rfl (ft_inc i) (by decide) rfl (fun ls hl => ?_)
            refine lv_goto (tgt := 2) hx hb dX7_findGhosts_45 (by decide) ?_
            exact ih2 (i + 1) r9 (nI (i + 1)) (rg 0) (rg 1) (rg 2) (rg 3) (rg 4) (rg 5) (rg 6) (rg 7) (by omega) (by omega) (by first | (rw [hr9]; exact ftGhosts_t hg ⟨c19, Int32.not_lt.mp c34⟩) | (rw [hr9]; exact ftGhosts_f hg (fun q => absurd q.2 (Int32.not_le.mpr c34))) | (rw [hr9]; exact ftGhosts_f hg (fun q => c19 q.1))) (by first | rfl | assumption) (by rw [hr9]) (by rw [hr9]) (by rw [hr9]) (by rw [hr9]) (by rw [hr9]) (by rw [hr9]) (by rw [hr9]) (by rw [hr9]) _ _ hP hD hS ls (lv_sub hl [1, 2, 0] rfl)
          · obtain ⟨r9, hr9⟩ : ∃ r9, r9 = ftMkRow rg tl i := ⟨_, rfl⟩
            refine lv_aload_n hx hb dX7_findGhosts_37 rfl (lv_at hl 0 rfl) ?_
            refine lv_iload_n hx hb dX7_findGhosts_38 rfl (lv_at hl 2 rfl) ?_
            refine ft_cv (wc := [(a0, .inr (7, [.ref r0, .ref r1, .ref r2, .ref r3, .ref r4, .ref r5, .ref r6, .ref r7, .int (nI k), .int tl])), (r0, .inl (cI, 30, .inl (rg 0))), (r1, .inl (cI, 30, .inl (rg 1))), (r2, .inl (cI, 30, .inl (rg 2))), (r3, .inl (cI, 30, .inl (rg 3))), (r4, .inl (cI, 30, .inl (rg 4))), (r5, .inl (cI, 30, .inl (rg 5))), (r6, .inl (cI, 30, .inl (rg 6))), (r7, .inl (cI, 30, .inl (rg 7)))]) (wr := []) (w1 := [(a0, .inr (7, [.ref r0, .ref r1, .ref r2, .ref r3, .ref r4, .ref r5, .ref r6, .ref r7, .int (nI k), .int tl])), (r0, .inl (cI, 30, .inl (ftMkRow rg tl i 0))), (r1, .inl (cI, 30, .inl (ftMkRow rg tl i 1))), (r2, .inl (cI, 30, .inl (ftMkRow rg tl i 2))), (r3, .inl (cI, 30, .inl (ftMkRow rg tl i 3))), (r4, .inl (cI, 30, .inl (ftMkRow rg tl i 4))), (r5, .inl (cI, 30, .inl (ftMkRow rg tl i 5))), (r6, .inl (cI, 30, .inl (ftMkRow rg tl i 6))), (r7, .inl (cI, 30, .inl (ftMkRow rg tl i 7)))]) (ws1 := [(a0, .inr (7, [.ref r0, .ref r1, .ref r2, .ref r3, .ref r4, .ref r5, .ref r6, .ref r7, .int (nI k), .int tl])), (r0, .inl (cI, 30, .inl (ftMkRow rg tl i 0))), (r1, .inl (cI, 30, .inl (ftMkRow rg tl i 1))), (r2, .inl (cI, 30, .inl (ftMkRow rg tl i 2))), (r3, .inl (cI, 30, .inl (ftMkRow rg tl i 3))), (r4, .inl (cI, 30, .inl (ftMkRow rg tl i 4))), (r5, .inl (cI, 30, .inl (ftMkRow rg tl i 5))), (r6, .inl (cI, 30, .inl (ftMkRow rg tl i 6))), (r7, .inl (cI, 30, .inl (ftMkRow rg tl i 7)))]) (va_runV (C := RX7) (As := [.int (nI i)]) (rest := []) ⟨hx, hb, hml, hown, hts⟩ (c_X7_findMakers l D cI cS H.size a0 r0 r1 r2 r3 r4 r5 r6 r7 k tl rg i (by first | assumption | omega)) (cwV 1 hts gX7_findGhosts_X7_findMakers rfl rfl rfl (by decide +kernel) ⟨Nat.le_of_ble_eq_true rfl, Nat.le_of_ble_eq_true rfl⟩) (ft_preRWV (ci := 7) (q0 := 0) hP hD hKK [0, 1, 2, 3, 4, 5, 6, 7, 8] rfl rfl rfl rfl rfl) rfl rfl hl.1 rfl (lv_room (Nat.le_of_ble_eq_true rfl)) dX7_findGhosts_39 ⟨Nat.le_of_ble_eq_true rfl, Nat.le_of_ble_eq_true rfl⟩) hP hD hS hA [0, 1, 2, 3, 4, 5, 6, 7, 8] [] [0, 1, 2, 3, 4, 5, 6, 7, 8] rfl rfl (by decide) (by decide) (by decide) rfl rfl (fun H locs hP hD hS => ?_)
            have hP : va_P D vwCl [(a0, .inr (7, [.ref r0, .ref r1, .ref r2, .ref r3, .ref r4, .ref r5, .ref r6, .ref r7, .int (nI k), .int tl])), (r0, .inl (cI, 30, .inl (ftMkRow rg tl i 0))), (r1, .inl (cI, 30, .inl (ftMkRow rg tl i 1))), (r2, .inl (cI, 30, .inl (ftMkRow rg tl i 2))), (r3, .inl (cI, 30, .inl (ftMkRow rg tl i 3))), (r4, .inl (cI, 30, .inl (ftMkRow rg tl i 4))), (r5, .inl (cI, 30, .inl (ftMkRow rg tl i 5))), (r6, .inl (cI, 30, .inl (ftMkRow rg tl i 6))), (r7, .inl (cI, 30, .inl (ftMkRow rg tl i 7)))] H := hP
            have hD : va_D A [(a0, .inr (7, [.ref r0, .ref r1, .ref r2, .ref r3, .ref r4, .ref r5, .ref r6, .ref r7, .int (nI k), .int tl])), (r0, .inl (cI, 30, .inl (ftMkRow rg tl i 0))), (r1, .inl (cI, 30, .inl (ftMkRow rg tl i 1))), (r2, .inl (cI, 30, .inl (ftMkRow rg tl i 2))), (r3, .inl (cI, 30, .inl (ftMkRow rg tl i 3))), (r4, .inl (cI, 30, .inl (ftMkRow rg tl i 4))), (r5, .inl (cI, 30, .inl (ftMkRow rg tl i 5))), (r6, .inl (cI, 30, .inl (ftMkRow rg tl i 6))), (r7, .inl (cI, 30, .inl (ftMkRow rg tl i 7)))] := hD
            refine lv_iinc (v := nI (i + 1)) (lv' := [(2, .int (nI (i + 1))), (0, .ref a0), (1, .int gl)]) hx hb dX7_findGhosts_42 hl (k := 2) rfl (ft_inc i) (by decide) rfl (fun ls hl => ?_)
            refine lv_goto (tgt := 2) hx hb dX7_findGhosts_45 (by decide) ?_
            exact ih2 (i + 1) r9 (nI (i + 1)) (ftMkRow rg tl i 0) (ftMkRow rg tl i 1) (ftMkRow rg tl i 2) (ftMkRow rg tl i 3) (ftMkRow rg tl i 4) (ftMkRow rg tl i 5) (ftMkRow rg tl i 6) (ftMkRow rg tl i 7) (by omega) (by omega) (by first | (rw [hr9]; exact ftGhosts_t hg ⟨c19, Int32.not_lt.mp c34⟩) | (rw [hr9]; exact ftGhosts_f hg (fun q => absurd q.2 (Int32.not_le.mpr c34))) | (rw [hr9]; exact ftGhosts_f hg (fun q => c19 q.1))) (by first | rfl | assumption) (by rw [hr9]) (by rw [hr9]) (by rw [hr9]) (by rw [hr9]) (by rw [hr9]) (by rw [hr9]) (by rw [hr9]) (by rw [hr9]) _ _ hP hD hS ls (lv_sub hl [1, 2, 0] rfl)
  exact lp2 _ 0 ro 0 (ro 0) (ro 1) (ro 2) (ro 3) (ro 4) (ro 5) (ro 6) (ro 7) (Nat.lt_succ_self _) (by omega) (by rfl) (by rfl) (by rfl) (by rfl) (by rfl) (by rfl) (by rfl) (by rfl) (by rfl) (by rfl) _ _ hP hD hS ls (lv_sub hl [1, 2, 0] rfl)
set_option maxHeartbeats 4000000 in
set_option maxRecDepth 100000 in
theorem c_X7_lossOfGhosts (l : Launch) (D : va_G) (cI cS : ClassId) (a0 r0 r1 r2 r3 r4 r5 r6 r7 k : Nat) (tl : Int32) (ro : Nat → Nat → Int32) (hk : k ≤ 30) : Met l yX7_lossOfGhosts wsX7_lossOfGhosts ({ frames := 1, cells := 0, slots := 0, locals := 21 }) (ftRO D cI cS [.ref a0] [(a0, .inr (7, [.ref r0, .ref r1, .ref r2, .ref r3, .ref r4, .ref r5, .ref r6, .ref r7, .int (nI k), .int tl])), (r2, .inl (cI, 30, .inl (ro 2))), (r4, .inl (cI, 30, .inl (ro 4)))]) (vp_Si (fun o9 => o9 = ftLossG ro k)) 0 0 (fun _ => False) := by
  refine Met.ofW (cc := cX7_lossOfGhosts) (maxL := 3) (ret := (some .int)) (by decide) rfl ?_
  intro p e s m args below meth c s₁ B hml hv
  obtain ⟨rfl, hP, hKK⟩ := hv
  have hK := hKK.1
  have hx := B.exec
  have hb := B.bytes
  have hr := B.returns
  have hts := atoms_spec (ws := wsX7_lossOfGhosts) B.pre
  have hown : s.vm.findClass RX7 = some m.cls := findClass_of_methodNamed B.named
  have hlocks := B.notSynchronized
  have hP : va_P D vwCl [(a0, .inr (7, [.ref r0, .ref r1, .ref r2, .ref r3, .ref r4, .ref r5, .ref r6, .ref r7, .int (nI k), .int tl])), (r2, .inl (cI, 30, .inl (ro 2))), (r4, .inl (cI, 30, .inl (ro 4)))] s.heap := hP
  have hl := lv_entry ([.ref a0]) (n := 3) (Nat.le_of_ble_eq_true rfl)
  rw [lg_entry_eq]
  generalize (lg_sl ([.ref a0]) ++ List.replicate (3 - (lg_sl ([.ref a0])).length) Slot.unset).toArray = ls at hl ⊢
  have hl : lv_has ls 3 [(0, .ref a0)] := hl
  refine lv_iconst (v := 0) hx hb dX7_lossOfGhosts_0 (by decide) ?_
  refine lv_istore_n (lv' := [(1, .int 0), (0, .ref a0)]) hx hb dX7_lossOfGhosts_1 rfl hl (by decide) rfl (fun ls hl => ?_)
  refine lv_iconst (v := 0) hx hb dX7_lossOfGhosts_2 (by decide) ?_
  refine lv_istore_n (lv' := [(2, .int 0), (1, .int 0), (0, .ref a0)]) hx hb dX7_lossOfGhosts_3 rfl hl (by decide) rfl (fun ls hl => ?_)
  have lp4 : ∀ (n4 : Nat) (i : Nat) (x4_1 : Int32) (x4_2 : Int32), k - i < n4 → (i ≤ k) → x4_1 = ftLossG ro i → x4_2 = nI i → ∀ ls : Array Slot, lv_has ls 3 [(0, .ref a0), (1, .int x4_1), (2, .int x4_2)] → W p l e (headSpec wsX7_lossOfGhosts { frames := 1, cells := 0, slots := 0, locals := 21 }).room s m ([.ref a0] : List Value).toArray below meth c s.heap [] 0 0 (MQ below (vp_Si (fun o9 => o9 = ftLossG ro k)) ([.ref a0] : List Value).toArray s 0 0 (fun _ => False)) (F0 m 4 ls []) := by
    intro n4
    induction n4 with
    | zero =>
      intro i x4_1 x4_2  hm4
      exact absurd hm4 (Nat.not_lt_zero _)
    | succ n4 ih4 =>
      intro i x4_1 x4_2  hm4 hik ex4_1 ex4_2  ls hl
      subst ex4_2
      refine lv_iload_n hx hb dX7_lossOfGhosts_4 rfl (lv_at hl 2 rfl) ?_
      refine lv_aload_n hx hb dX7_lossOfGhosts_5 rfl (lv_at hl 0 rfl) ?_
      refine va_get (D := D) (ci := 7) (v := .int (nI k)) (C := RX7) (T := TX7) (N := 10) hx hb hts (by decide +kernel) hown hK hP 0 rfl rfl 8 (by decide) (hts (.fieldLink RX7 36 "FiberTrace$Reading" "size" "I") (by decide +kernel)) (fun _ h9 => h9) rfl dX7_lossOfGhosts_6 ?_
      refine lv_icmp_ge (tgt := 45) hx hb dX7_lossOfGhosts_9 (by decide) (fun c9 => ?_) (fun c9 => ?_)
      · have c9n : k ≤ i := ft_leN (by omega) (by omega) c9
        refine lv_iload_n hx hb dX7_lossOfGhosts_45 rfl (lv_at hl 1 rfl) ?_
        exact W.iret (v := x4_1) hx hb hr (fun t ht hW => ⟨x4_1, rfl, (by show (x4_1 : Int32) = ftLossG ro k; (obtain rfl : i = k := by omega); exact ex4_1), ht⟩) (fun _ h9 => absurd h9 List.not_mem_nil) dX7_lossOfGhosts_46
      · have c9n : i < k := ft_nleN (by omega) (by omega) c9
        refine lv_iload_n hx hb dX7_lossOfGhosts_12 rfl (lv_at hl 1 rfl) ?_
        refine lv_aload_n hx hb dX7_lossOfGhosts_13 rfl (lv_at hl 0 rfl) ?_
        refine va_get (D := D) (ci := 7) (v := .ref r4) (C := RX7) (T := TX7) (N := 10) hx hb hts (by decide +kernel) hown hK hP 0 rfl rfl 4 (by decide) (hts (.fieldLink RX7 24 "FiberTrace$Reading" "kinds" "[I") (by decide +kernel)) (fun _ h9 => h9) rfl dX7_lossOfGhosts_14 ?_
        refine lv_iload_n hx hb dX7_lossOfGhosts_17 rfl (lv_at hl 2 rfl) ?_
        refine ft_csi (r := ftAt 30 (ro 4) (nI i)) (va_runSN (As := [.ref r4, .int (nI i)]) (rest := [.int x4_1]) ⟨hx, hb, hml, hown, hts⟩ (c_X10_at l D cI cS r4 30 (ro 4) (nI i) (by first | assumption | omega)) ⟨va_cnB 2 hts gX7_lossOfGhosts_X10_at_n40 rfl rfl rfl (hKK.2 _ (List.mem_of_getElem? (i := 21) rfl)) (hts (.initialized RX10) (by decide +kernel)) (by decide +kernel) ⟨Nat.le_of_ble_eq_true rfl, Nat.le_of_ble_eq_true rfl⟩, hts (.static yX10_at) (by decide +kernel), trivial⟩ (ft_preRO hP hKK [2] rfl) rfl rfl hl.1 rfl (lv_room (Nat.le_of_ble_eq_true rfl)) dX7_lossOfGhosts_18 ⟨Nat.le_of_ble_eq_true rfl, Nat.le_of_ble_eq_true rfl⟩) ?_
        refine ft_top (y := (ro 4) i) (ftAt_N (by omega) (by omega)) ?_
        refine lv_iconst (v := 2) hx hb dX7_lossOfGhosts_21 (by decide) ?_
        refine lv_icmp_ne (tgt := 36) hx hb dX7_lossOfGhosts_22 (by decide) (fun c22 => ?_) (fun c22 => ?_)
        · refine lv_iconst (v := 0) hx hb dX7_lossOfGhosts_36 (by decide) ?_
          refine lv_iadd hx hb dX7_lossOfGhosts_37 ?_
          refine lv_istore_n (lv' := [(1, .int (x4_1 + 0)), (0, .ref a0), (2, .int (nI i))]) hx hb dX7_lossOfGhosts_38 rfl hl (by decide) rfl (fun ls hl => ?_)
          refine lv_iinc (v := nI (i + 1)) (lv' := [(2, .int (nI (i + 1))), (1, .int (x4_1 + 0)), (0, .ref a0)]) hx hb dX7_lossOfGhosts_39 hl (k := 2) rfl (ft_inc i) (by decide) rfl (fun ls hl => ?_)
          refine lv_goto (tgt := 4) hx hb dX7_lossOfGhosts_42 (by decide) ?_
          exact ih4 (i + 1) (x4_1 + 0) (nI (i + 1))  (by omega) (by omega) (by rw [ftLossG]; first | (rw [if_pos c22, ex4_1]; done) | (rw [if_neg c22, ex4_1]; done)) (by first | rfl | assumption)  ls (lv_sub hl [2, 1, 0] rfl)
        · refine lv_aload_n hx hb dX7_lossOfGhosts_25 rfl (lv_at hl 0 rfl) ?_
          refine va_get (D := D) (ci := 7) (v := .ref r2) (C := RX7) (T := TX7) (N := 10) hx hb hts (by decide +kernel) hown hK hP 0 rfl rfl 2 (by decide) (hts (.fieldLink RX7 18 "FiberTrace$Reading" "losses" "[I") (by decide +kernel)) (fun _ h9 => h9) rfl dX7_lossOfGhosts_26 ?_
          refine lv_iload_n hx hb dX7_lossOfGhosts_29 rfl (lv_at hl 2 rfl) ?_
          refine ft_csi (r := ftAt 30 (ro 2) (nI i)) (va_runSN (As := [.ref r2, .int (nI i)]) (rest := [.int x4_1]) ⟨hx, hb, hml, hown, hts⟩ (c_X10_at l D cI cS r2 30 (ro 2) (nI i) (by first | assumption | omega)) ⟨va_cnB 2 hts gX7_lossOfGhosts_X10_at_n40 rfl rfl rfl (hKK.2 _ (List.mem_of_getElem? (i := 21) rfl)) (hts (.initialized RX10) (by decide +kernel)) (by decide +kernel) ⟨Nat.le_of_ble_eq_true rfl, Nat.le_of_ble_eq_true rfl⟩, hts (.static yX10_at) (by decide +kernel), trivial⟩ (ft_preRO hP hKK [1] rfl) rfl rfl hl.1 rfl (lv_room (Nat.le_of_ble_eq_true rfl)) dX7_lossOfGhosts_30 ⟨Nat.le_of_ble_eq_true rfl, Nat.le_of_ble_eq_true rfl⟩) ?_
          refine ft_top (y := (ro 2) i) (ftAt_N (by omega) (by omega)) ?_
          refine lv_goto (tgt := 37) hx hb dX7_lossOfGhosts_33 (by decide) ?_
          refine lv_iadd hx hb dX7_lossOfGhosts_37 ?_
          refine lv_istore_n (lv' := [(1, .int (x4_1 + ((ro 2) i))), (0, .ref a0), (2, .int (nI i))]) hx hb dX7_lossOfGhosts_38 rfl hl (by decide) rfl (fun ls hl => ?_)
          refine lv_iinc (v := nI (i + 1)) (lv' := [(2, .int (nI (i + 1))), (1, .int (x4_1 + ((ro 2) i))), (0, .ref a0)]) hx hb dX7_lossOfGhosts_39 hl (k := 2) rfl (ft_inc i) (by decide) rfl (fun ls hl => ?_)
          refine lv_goto (tgt := 4) hx hb dX7_lossOfGhosts_42 (by decide) ?_
          exact ih4 (i + 1) (x4_1 + ((ro 2) i)) (nI (i + 1))  (by omega) (by omega) (by rw [ftLossG]; first | (rw [if_pos c22, ex4_1]; done) | (rw [if_neg c22, ex4_1]; done)) (by first | rfl | assumption)  ls (lv_sub hl [2, 1, 0] rfl)
  exact lp4 _ 0 0 0  (Nat.lt_succ_self _) (by omega) (by rfl) (by rfl) ls (lv_sub hl [2, 1, 0] rfl)
set_option maxHeartbeats 4000000 in
set_option maxRecDepth 100000 in
theorem c_X7_countOf (l : Launch) (D : va_G) (cI cS : ClassId) (a0 r0 r1 r2 r3 r4 r5 r6 r7 k : Nat) (tl : Int32) (ro : Nat → Nat → Int32) (kd : Int32) (hk : k ≤ 30) : Met l yX7_countOf wsX7_countOf ({ frames := 1, cells := 0, slots := 0, locals := 21 }) (ftRO D cI cS [.ref a0, .int kd] [(a0, .inr (7, [.ref r0, .ref r1, .ref r2, .ref r3, .ref r4, .ref r5, .ref r6, .ref r7, .int (nI k), .int tl])), (r4, .inl (cI, 30, .inl (ro 4)))]) (vp_Si (fun o9 => o9 = ftCount (fun i => ro 4 i = kd) k)) 0 0 (fun _ => False) := by
  refine Met.ofW (cc := cX7_countOf) (maxL := 4) (ret := (some .int)) (by decide) rfl ?_
  intro p e s m args below meth c s₁ B hml hv
  obtain ⟨rfl, hP, hKK⟩ := hv
  have hK := hKK.1
  have hx := B.exec
  have hb := B.bytes
  have hr := B.returns
  have hts := atoms_spec (ws := wsX7_countOf) B.pre
  have hown : s.vm.findClass RX7 = some m.cls := findClass_of_methodNamed B.named
  have hlocks := B.notSynchronized
  have hP : va_P D vwCl [(a0, .inr (7, [.ref r0, .ref r1, .ref r2, .ref r3, .ref r4, .ref r5, .ref r6, .ref r7, .int (nI k), .int tl])), (r4, .inl (cI, 30, .inl (ro 4)))] s.heap := hP
  have hl := lv_entry ([.ref a0, .int kd]) (n := 4) (Nat.le_of_ble_eq_true rfl)
  rw [lg_entry_eq]
  generalize (lg_sl ([.ref a0, .int kd]) ++ List.replicate (4 - (lg_sl ([.ref a0, .int kd])).length) Slot.unset).toArray = ls at hl ⊢
  have hl : lv_has ls 4 [(0, .ref a0), (1, .int kd)] := hl
  refine lv_iconst (v := 0) hx hb dX7_countOf_0 (by decide) ?_
  refine lv_istore_n (lv' := [(2, .int 0), (0, .ref a0), (1, .int kd)]) hx hb dX7_countOf_1 rfl hl (by decide) rfl (fun ls hl => ?_)
  refine lv_iconst (v := 0) hx hb dX7_countOf_2 (by decide) ?_
  refine lv_istore_n (lv' := [(3, .int 0), (2, .int 0), (0, .ref a0), (1, .int kd)]) hx hb dX7_countOf_3 rfl hl (by decide) rfl (fun ls hl => ?_)
  have lp4 : ∀ (n4 : Nat) (i : Nat) (x4_2 : Int32) (x4_3 : Int32), k - i < n4 → (i ≤ k) → x4_2 = ftCount (fun i => ro 4 i = kd) i → x4_3 = nI i → ∀ ls : Array Slot, lv_has ls 4 [(0, .ref a0), (1, .int kd), (2, .int x4_2), (3, .int x4_3)] → W p l e (headSpec wsX7_countOf { frames := 1, cells := 0, slots := 0, locals := 21 }).room s m ([.ref a0, .int kd] : List Value).toArray below meth c s.heap [] 0 0 (MQ below (vp_Si (fun o9 => o9 = ftCount (fun i => ro 4 i = kd) k)) ([.ref a0, .int kd] : List Value).toArray s 0 0 (fun _ => False)) (F0 m 4 ls []) := by
    intro n4
    induction n4 with
    | zero =>
      intro i x4_2 x4_3  hm4
      exact absurd hm4 (Nat.not_lt_zero _)
    | succ n4 ih4 =>
      intro i x4_2 x4_3  hm4 hik ex4_2 ex4_3  ls hl
      subst ex4_3
      refine lv_iload_n hx hb dX7_countOf_4 rfl (lv_at hl 3 rfl) ?_
      refine lv_aload_n hx hb dX7_countOf_5 rfl (lv_at hl 0 rfl) ?_
      refine va_get (D := D) (ci := 7) (v := .int (nI k)) (C := RX7) (T := TX7) (N := 10) hx hb hts (by decide +kernel) hown hK hP 0 rfl rfl 8 (by decide) (hts (.fieldLink RX7 36 "FiberTrace$Reading" "size" "I") (by decide +kernel)) (fun _ h9 => h9) rfl dX7_countOf_6 ?_
      refine lv_icmp_ge (tgt := 38) hx hb dX7_countOf_9 (by decide) (fun c9 => ?_) (fun c9 => ?_)
      · have c9n : k ≤ i := ft_leN (by omega) (by omega) c9
        refine lv_iload_n hx hb dX7_countOf_38 rfl (lv_at hl 2 rfl) ?_
        exact W.iret (v := x4_2) hx hb hr (fun t ht hW => ⟨x4_2, rfl, (by show (x4_2 : Int32) = ftCount (fun i => ro 4 i = kd) k; (obtain rfl : i = k := by omega); exact ex4_2), ht⟩) (fun _ h9 => absurd h9 List.not_mem_nil) dX7_countOf_39
      · have c9n : i < k := ft_nleN (by omega) (by omega) c9
        refine lv_iload_n hx hb dX7_countOf_12 rfl (lv_at hl 2 rfl) ?_
        refine lv_aload_n hx hb dX7_countOf_13 rfl (lv_at hl 0 rfl) ?_
        refine va_get (D := D) (ci := 7) (v := .ref r4) (C := RX7) (T := TX7) (N := 10) hx hb hts (by decide +kernel) hown hK hP 0 rfl rfl 4 (by decide) (hts (.fieldLink RX7 24 "FiberTrace$Reading" "kinds" "[I") (by decide +kernel)) (fun _ h9 => h9) rfl dX7_countOf_14 ?_
        refine lv_iload_n hx hb dX7_countOf_17 rfl (lv_at hl 3 rfl) ?_
        refine ft_csi (r := ftAt 30 (ro 4) (nI i)) (va_runSN (As := [.ref r4, .int (nI i)]) (rest := [.int x4_2]) ⟨hx, hb, hml, hown, hts⟩ (c_X10_at l D cI cS r4 30 (ro 4) (nI i) (by first | assumption | omega)) ⟨va_cnB 2 hts gX7_countOf_X10_at_n40 rfl rfl rfl (hKK.2 _ (List.mem_of_getElem? (i := 21) rfl)) (hts (.initialized RX10) (by decide +kernel)) (by decide +kernel) ⟨Nat.le_of_ble_eq_true rfl, Nat.le_of_ble_eq_true rfl⟩, hts (.static yX10_at) (by decide +kernel), trivial⟩ (ft_preRO hP hKK [1] rfl) rfl rfl hl.1 rfl (lv_room (Nat.le_of_ble_eq_true rfl)) dX7_countOf_18 ⟨Nat.le_of_ble_eq_true rfl, Nat.le_of_ble_eq_true rfl⟩) ?_
        refine ft_top (y := (ro 4) i) (ftAt_N (by omega) (by omega)) ?_
        refine lv_iload_n hx hb dX7_countOf_21 rfl (lv_at hl 1 rfl) ?_
        refine lv_icmp_ne (tgt := 29) hx hb dX7_countOf_22 (by decide) (fun c22 => ?_) (fun c22 => ?_)
        · refine lv_iconst (v := 0) hx hb dX7_countOf_29 (by decide) ?_
          refine lv_iadd hx hb dX7_countOf_30 ?_
          refine lv_istore_n (lv' := [(2, .int (x4_2 + 0)), (0, .ref a0), (1, .int kd), (3, .int (nI i))]) hx hb dX7_countOf_31 rfl hl (by decide) rfl (fun ls hl => ?_)
          refine lv_iinc (v := nI (i + 1)) (lv' := [(3, .int (nI (i + 1))), (2, .int (x4_2 + 0)), (0, .ref a0), (1, .int kd)]) hx hb dX7_countOf_32 hl (k := 3) rfl (ft_inc i) (by decide) rfl (fun ls hl => ?_)
          refine lv_goto (tgt := 4) hx hb dX7_countOf_35 (by decide) ?_
          exact ih4 (i + 1) (x4_2 + 0) (nI (i + 1))  (by omega) (by omega) (by first | exact ftCount_t ex4_2 c22 | exact ftCount_f ex4_2 c22) (by first | rfl | assumption)  ls (lv_sub hl [2, 3, 1, 0] rfl)
        · refine lv_iconst (v := 1) hx hb dX7_countOf_25 (by decide) ?_
          refine lv_goto (tgt := 30) hx hb dX7_countOf_26 (by decide) ?_
          refine lv_iadd hx hb dX7_countOf_30 ?_
          refine lv_istore_n (lv' := [(2, .int (x4_2 + 1)), (0, .ref a0), (1, .int kd), (3, .int (nI i))]) hx hb dX7_countOf_31 rfl hl (by decide) rfl (fun ls hl => ?_)
          refine lv_iinc (v := nI (i + 1)) (lv' := [(3, .int (nI (i + 1))), (2, .int (x4_2 + 1)), (0, .ref a0), (1, .int kd)]) hx hb dX7_countOf_32 hl (k := 3) rfl (ft_inc i) (by decide) rfl (fun ls hl => ?_)
          refine lv_goto (tgt := 4) hx hb dX7_countOf_35 (by decide) ?_
          exact ih4 (i + 1) (x4_2 + 1) (nI (i + 1))  (by omega) (by omega) (by first | exact ftCount_t ex4_2 c22 | exact ftCount_f ex4_2 c22) (by first | rfl | assumption)  ls (lv_sub hl [2, 3, 1, 0] rfl)
  exact lp4 _ 0 0 0  (Nat.lt_succ_self _) (by omega) (by rfl) (by rfl) ls (lv_sub hl [2, 3, 1, 0] rfl)
set_option maxHeartbeats 4000000 in
set_option maxRecDepth 100000 in
theorem c_X7_covering (l : Launch) (D : va_G) (cI cS : ClassId) (a0 r0 r1 r2 r3 r4 r5 r6 r7 k : Nat) (tl : Int32) (ro : Nat → Nat → Int32) (x : Int32) (hk : k ≤ 30) : Met l yX7_covering wsX7_covering ({ frames := 1, cells := 0, slots := 0, locals := 22 }) (ftRO D cI cS [.ref a0, .int x] [(a0, .inr (7, [.ref r0, .ref r1, .ref r2, .ref r3, .ref r4, .ref r5, .ref r6, .ref r7, .int (nI k), .int tl])), (r0, .inl (cI, 30, .inl (ro 0))), (r1, .inl (cI, 30, .inl (ro 1)))]) (vp_Si (fun o9 => o9 = ftCov ro k x)) 0 0 (fun _ => False) := by
  refine Met.ofW (cc := cX7_covering) (maxL := 3) (ret := (some .int)) (by decide) rfl ?_
  intro p e s m args below meth c s₁ B hml hv
  obtain ⟨rfl, hP, hKK⟩ := hv
  have hK := hKK.1
  have hx := B.exec
  have hb := B.bytes
  have hr := B.returns
  have hts := atoms_spec (ws := wsX7_covering) B.pre
  have hown : s.vm.findClass RX7 = some m.cls := findClass_of_methodNamed B.named
  have hlocks := B.notSynchronized
  have hP : va_P D vwCl [(a0, .inr (7, [.ref r0, .ref r1, .ref r2, .ref r3, .ref r4, .ref r5, .ref r6, .ref r7, .int (nI k), .int tl])), (r0, .inl (cI, 30, .inl (ro 0))), (r1, .inl (cI, 30, .inl (ro 1)))] s.heap := hP
  have hl := lv_entry ([.ref a0, .int x]) (n := 3) (Nat.le_of_ble_eq_true rfl)
  rw [lg_entry_eq]
  generalize (lg_sl ([.ref a0, .int x]) ++ List.replicate (3 - (lg_sl ([.ref a0, .int x])).length) Slot.unset).toArray = ls at hl ⊢
  have hl : lv_has ls 3 [(0, .ref a0), (1, .int x)] := hl
  refine lv_iconst (v := 0) hx hb dX7_covering_0 (by decide) ?_
  refine lv_istore_n (lv' := [(2, .int 0), (0, .ref a0), (1, .int x)]) hx hb dX7_covering_1 rfl hl (by decide) rfl (fun ls hl => ?_)
  have lp2 : ∀ (n2 : Nat) (i : Nat) (x2_2 : Int32), k - i < n2 → (i ≤ k) → (∀ t, t < i → ¬ (ro 0 t ≤ x ∧ x ≤ ro 1 t)) → x2_2 = nI i → ∀ ls : Array Slot, lv_has ls 3 [(0, .ref a0), (1, .int x), (2, .int x2_2)] → W p l e (headSpec wsX7_covering { frames := 1, cells := 0, slots := 0, locals := 22 }).room s m ([.ref a0, .int x] : List Value).toArray below meth c s.heap [] 0 0 (MQ below (vp_Si (fun o9 => o9 = ftCov ro k x)) ([.ref a0, .int x] : List Value).toArray s 0 0 (fun _ => False)) (F0 m 2 ls []) := by
    intro n2
    induction n2 with
    | zero =>
      intro i x2_2  hm2
      exact absurd hm2 (Nat.not_lt_zero _)
    | succ n2 ih2 =>
      intro i x2_2  hm2 hik hno ex2_2  ls hl
      subst ex2_2
      refine lv_iload_n hx hb dX7_covering_2 rfl (lv_at hl 2 rfl) ?_
      refine lv_aload_n hx hb dX7_covering_3 rfl (lv_at hl 0 rfl) ?_
      refine va_get (D := D) (ci := 7) (v := .int (nI k)) (C := RX7) (T := TX7) (N := 10) hx hb hts (by decide +kernel) hown hK hP 0 rfl rfl 8 (by decide) (hts (.fieldLink RX7 36 "FiberTrace$Reading" "size" "I") (by decide +kernel)) (fun _ h9 => h9) rfl dX7_covering_4 ?_
      refine lv_icmp_ge (tgt := 41) hx hb dX7_covering_7 (by decide) (fun c7 => ?_) (fun c7 => ?_)
      · have c7n : k ≤ i := ft_leN (by omega) (by omega) c7
        refine lv_iconst (v := (-1)) hx hb dX7_covering_41 (by decide) ?_
        exact W.iret (v := (-1)) hx hb hr (fun t ht hW => ⟨(-1), rfl, (by show ((-1) : Int32) = ftCov ro k x; exact (ftFst_none (P := fun i => ro 0 i ≤ x ∧ x ≤ ro 1 i) (fun t ht => hno t (by omega))).symm), ht⟩) (fun _ h9 => absurd h9 List.not_mem_nil) dX7_covering_42
      · have c7n : i < k := ft_nleN (by omega) (by omega) c7
        refine lv_iload_n hx hb dX7_covering_10 rfl (lv_at hl 1 rfl) ?_
        refine lv_aload_n hx hb dX7_covering_11 rfl (lv_at hl 0 rfl) ?_
        refine va_get (D := D) (ci := 7) (v := .ref r0) (C := RX7) (T := TX7) (N := 10) hx hb hts (by decide +kernel) hown hK hP 0 rfl rfl 0 (by decide) (hts (.fieldLink RX7 9 "FiberTrace$Reading" "begins" "[I") (by decide +kernel)) (fun _ h9 => h9) rfl dX7_covering_12 ?_
        refine lv_iload_n hx hb dX7_covering_15 rfl (lv_at hl 2 rfl) ?_
        refine ft_csi (r := ftAt 30 (ro 0) (nI i)) (va_runSN (As := [.ref r0, .int (nI i)]) (rest := [.int x]) ⟨hx, hb, hml, hown, hts⟩ (c_X10_at l D cI cS r0 30 (ro 0) (nI i) (by first | assumption | omega)) ⟨va_cnB 2 hts gX7_covering_X10_at_n40 rfl rfl rfl (hKK.2 _ (List.mem_of_getElem? (i := 21) rfl)) (hts (.initialized RX10) (by decide +kernel)) (by decide +kernel) ⟨Nat.le_of_ble_eq_true rfl, Nat.le_of_ble_eq_true rfl⟩, hts (.static yX10_at) (by decide +kernel), trivial⟩ (ft_preRO hP hKK [1] rfl) rfl rfl hl.1 rfl (lv_room (Nat.le_of_ble_eq_true rfl)) dX7_covering_16 ⟨Nat.le_of_ble_eq_true rfl, Nat.le_of_ble_eq_true rfl⟩) ?_
        refine ft_top (y := (ro 0) i) (ftAt_N (by omega) (by omega)) ?_
        refine lv_aload_n hx hb dX7_covering_19 rfl (lv_at hl 0 rfl) ?_
        refine va_get (D := D) (ci := 7) (v := .ref r1) (C := RX7) (T := TX7) (N := 10) hx hb hts (by decide +kernel) hown hK hP 0 rfl rfl 1 (by decide) (hts (.fieldLink RX7 15 "FiberTrace$Reading" "ends" "[I") (by decide +kernel)) (fun _ h9 => h9) rfl dX7_covering_20 ?_
        refine lv_iload_n hx hb dX7_covering_23 rfl (lv_at hl 2 rfl) ?_
        refine ft_csi (r := ftAt 30 (ro 1) (nI i)) (va_runSN (As := [.ref r1, .int (nI i)]) (rest := [.int ((ro 0) i), .int x]) ⟨hx, hb, hml, hown, hts⟩ (c_X10_at l D cI cS r1 30 (ro 1) (nI i) (by first | assumption | omega)) ⟨va_cnB 2 hts gX7_covering_X10_at_n40 rfl rfl rfl (hKK.2 _ (List.mem_of_getElem? (i := 21) rfl)) (hts (.initialized RX10) (by decide +kernel)) (by decide +kernel) ⟨Nat.le_of_ble_eq_true rfl, Nat.le_of_ble_eq_true rfl⟩, hts (.static yX10_at) (by decide +kernel), trivial⟩ (ft_preRO hP hKK [2] rfl) rfl rfl hl.1 rfl (lv_room (Nat.le_of_ble_eq_true rfl)) dX7_covering_24 ⟨Nat.le_of_ble_eq_true rfl, Nat.le_of_ble_eq_true rfl⟩) ?_
        refine ft_top (y := (ro 1) i) (ftAt_N (by omega) (by omega)) ?_
        refine ft_csi (r := ftB (((ro 0) i) ≤ x ∧ x ≤ ((ro 1) i))) (va_runSN (As := [.int x, .int ((ro 0) i), .int ((ro 1) i)]) (rest := []) ⟨hx, hb, hml, hown, hts⟩ (c_X10_isWithin l D cI cS x ((ro 0) i) ((ro 1) i)) ⟨va_cnB 3 hts gX7_covering_X10_isWithin_n81 rfl rfl rfl (hKK.2 _ (List.mem_of_getElem? (i := 23) rfl)) (hts (.initialized RX10) (by decide +kernel)) (by decide +kernel) ⟨Nat.le_of_ble_eq_true rfl, Nat.le_of_ble_eq_true rfl⟩, hts (.static yX10_isWithin) (by decide +kernel), trivial⟩ (ft_preRO hP hKK [] rfl) rfl rfl hl.1 rfl (lv_room (Nat.le_of_ble_eq_true rfl)) dX7_covering_27 ⟨Nat.le_of_ble_eq_true rfl, Nat.le_of_ble_eq_true rfl⟩) ?_
        refine lv_if_eq (tgt := 35) hx hb dX7_covering_30 (by decide) (fun c30 => ?_) (fun c30 => ?_)
        · replace c30 := ftB_eq c30
          refine lv_iinc (v := nI (i + 1)) (lv' := [(2, .int (nI (i + 1))), (0, .ref a0), (1, .int x)]) hx hb dX7_covering_35 hl (k := 2) rfl (ft_inc i) (by decide) rfl (fun ls hl => ?_)
          refine lv_goto (tgt := 2) hx hb dX7_covering_38 (by decide) ?_
          exact ih2 (i + 1) (nI (i + 1))  (by omega) (by omega) (by intro t ht; rcases Nat.lt_succ_iff_lt_or_eq.mp ht with r | r; exact hno t r; subst r; exact c30) (by first | rfl | assumption)  ls (lv_sub hl [1, 2, 0] rfl)
        · replace c30 := ftB_ne c30
          refine lv_iload_n hx hb dX7_covering_33 rfl (lv_at hl 2 rfl) ?_
          exact W.iret (v := nI i) hx hb hr (fun t ht hW => ⟨nI i, rfl, (by show (nI i : Int32) = ftCov ro k x; exact (ftFst_some (P := fun i => ro 0 i ≤ x ∧ x ≤ ro 1 i) (by omega) c30 hno k (by omega)).symm), ht⟩) (fun _ h9 => absurd h9 List.not_mem_nil) dX7_covering_34
  exact lp2 _ 0 0  (Nat.lt_succ_self _) (by omega) (by intro t ht; omega) (by rfl) ls (lv_sub hl [1, 2, 0] rfl)

set_option maxHeartbeats 4000000 in
set_option maxRecDepth 100000 in
theorem c_X7_finderOf (l : Launch) (D : va_G) (cI cS : ClassId) (a0 r0 r1 r2 r3 r4 r5 r6 r7 k : Nat) (tl : Int32) (ro : Nat → Nat → Int32) (x : Int32) (hk : k ≤ 30) : Met l yX7_finderOf wsX7_finderOf ({ frames := 2, cells := 0, slots := 0, locals := 52 }) (ftRO D cI cS [.ref a0, .int x] [(a0, .inr (7, [.ref r0, .ref r1, .ref r2, .ref r3, .ref r4, .ref r5, .ref r6, .ref r7, .int (nI k), .int tl])), (r0, .inl (cI, 30, .inl (ro 0))), (r4, .inl (cI, 30, .inl (ro 4)))]) (vp_Si (fun o9 => o9 = ftFinder ro k tl x)) 0 0 (fun _ => False) := by
  refine Met.ofW (cc := cX7_finderOf) (maxL := 3) (ret := (some .int)) (by decide) rfl ?_
  intro p e s m args below meth c s₁ B hml hv
  obtain ⟨rfl, hP, hKK⟩ := hv
  have hK := hKK.1
  have hx := B.exec
  have hb := B.bytes
  have hr := B.returns
  have hts := atoms_spec (ws := wsX7_finderOf) B.pre
  have hown : s.vm.findClass RX7 = some m.cls := findClass_of_methodNamed B.named
  have hlocks := B.notSynchronized
  have hP : va_P D vwCl [(a0, .inr (7, [.ref r0, .ref r1, .ref r2, .ref r3, .ref r4, .ref r5, .ref r6, .ref r7, .int (nI k), .int tl])), (r0, .inl (cI, 30, .inl (ro 0))), (r4, .inl (cI, 30, .inl (ro 4)))] s.heap := hP
  have hl := lv_entry ([.ref a0, .int x]) (n := 3) (Nat.le_of_ble_eq_true rfl)
  rw [lg_entry_eq]
  generalize (lg_sl ([.ref a0, .int x]) ++ List.replicate (3 - (lg_sl ([.ref a0, .int x])).length) Slot.unset).toArray = ls at hl ⊢
  have hl : lv_has ls 3 [(0, .ref a0), (1, .int x)] := hl
  refine lv_iconst (v := 0) hx hb dX7_finderOf_0 (by decide) ?_
  refine lv_istore_n (lv' := [(2, .int 0), (0, .ref a0), (1, .int x)]) hx hb dX7_finderOf_1 rfl hl (by decide) rfl (fun ls hl => ?_)
  have lp2 : ∀ (n2 : Nat) (i : Nat) (x2_2 : Int32), k - i < n2 → (i ≤ k) → (∀ t, t < i → ¬ (¬ ro 4 t = 2 ∧ ftNear tl (ro 0 t) x)) → x2_2 = nI i → ∀ ls : Array Slot, lv_has ls 3 [(0, .ref a0), (1, .int x), (2, .int x2_2)] → W p l e (headSpec wsX7_finderOf { frames := 2, cells := 0, slots := 0, locals := 52 }).room s m ([.ref a0, .int x] : List Value).toArray below meth c s.heap [] 0 0 (MQ below (vp_Si (fun o9 => o9 = ftFinder ro k tl x)) ([.ref a0, .int x] : List Value).toArray s 0 0 (fun _ => False)) (F0 m 2 ls []) := by
    intro n2
    induction n2 with
    | zero =>
      intro i x2_2  hm2
      exact absurd hm2 (Nat.not_lt_zero _)
    | succ n2 ih2 =>
      intro i x2_2  hm2 hik hno ex2_2  ls hl
      subst ex2_2
      refine lv_iload_n hx hb dX7_finderOf_2 rfl (lv_at hl 2 rfl) ?_
      refine lv_aload_n hx hb dX7_finderOf_3 rfl (lv_at hl 0 rfl) ?_
      refine va_get (D := D) (ci := 7) (v := .int (nI k)) (C := RX7) (T := TX7) (N := 10) hx hb hts (by decide +kernel) hown hK hP 0 rfl rfl 8 (by decide) (hts (.fieldLink RX7 36 "FiberTrace$Reading" "size" "I") (by decide +kernel)) (fun _ h9 => h9) rfl dX7_finderOf_4 ?_
      refine lv_icmp_ge (tgt := 46) hx hb dX7_finderOf_7 (by decide) (fun c7 => ?_) (fun c7 => ?_)
      · have c7n : k ≤ i := ft_leN (by omega) (by omega) c7
        refine lv_iconst (v := (-1)) hx hb dX7_finderOf_46 (by decide) ?_
        exact W.iret (v := (-1)) hx hb hr (fun t ht hW => ⟨(-1), rfl, (by show ((-1) : Int32) = ftFinder ro k tl x; exact (ftFst_none (P := fun i => ¬ ro 4 i = 2 ∧ ftNear tl (ro 0 i) x) (fun t ht => hno t (by omega))).symm), ht⟩) (fun _ h9 => absurd h9 List.not_mem_nil) dX7_finderOf_47
      · have c7n : i < k := ft_nleN (by omega) (by omega) c7
        refine lv_aload_n hx hb dX7_finderOf_10 rfl (lv_at hl 0 rfl) ?_
        refine va_get (D := D) (ci := 7) (v := .ref r4) (C := RX7) (T := TX7) (N := 10) hx hb hts (by decide +kernel) hown hK hP 0 rfl rfl 4 (by decide) (hts (.fieldLink RX7 24 "FiberTrace$Reading" "kinds" "[I") (by decide +kernel)) (fun _ h9 => h9) rfl dX7_finderOf_11 ?_
        refine lv_iload_n hx hb dX7_finderOf_14 rfl (lv_at hl 2 rfl) ?_
        refine ft_csi (r := ftAt 30 (ro 4) (nI i)) (va_runSN (As := [.ref r4, .int (nI i)]) (rest := []) ⟨hx, hb, hml, hown, hts⟩ (c_X10_at l D cI cS r4 30 (ro 4) (nI i) (by first | assumption | omega)) ⟨va_cnB 2 hts gX7_finderOf_X10_at_n40 rfl rfl rfl (hKK.2 _ (List.mem_of_getElem? (i := 21) rfl)) (hts (.initialized RX10) (by decide +kernel)) (by decide +kernel) ⟨Nat.le_of_ble_eq_true rfl, Nat.le_of_ble_eq_true rfl⟩, hts (.static yX10_at) (by decide +kernel), trivial⟩ (ft_preRO hP hKK [2] rfl) rfl rfl hl.1 rfl (lv_room (Nat.le_of_ble_eq_true rfl)) dX7_finderOf_15 ⟨Nat.le_of_ble_eq_true rfl, Nat.le_of_ble_eq_true rfl⟩) ?_
        refine ft_top (y := (ro 4) i) (ftAt_N (by omega) (by omega)) ?_
        refine lv_iconst (v := 2) hx hb dX7_finderOf_18 (by decide) ?_
        refine lv_icmp_eq (tgt := 40) hx hb dX7_finderOf_19 (by decide) (fun c19 => ?_) (fun c19 => ?_)
        · refine lv_iinc (v := nI (i + 1)) (lv' := [(2, .int (nI (i + 1))), (0, .ref a0), (1, .int x)]) hx hb dX7_finderOf_40 hl (k := 2) rfl (ft_inc i) (by decide) rfl (fun ls hl => ?_)
          refine lv_goto (tgt := 2) hx hb dX7_finderOf_43 (by decide) ?_
          exact ih2 (i + 1) (nI (i + 1))  (by omega) (by omega) (by intro t ht; rcases Nat.lt_succ_iff_lt_or_eq.mp ht with r | r; exact hno t r; subst r; first | exact (fun q => q.1 c19) | exact (fun q => c35 q.2)) (by first | rfl | assumption)  ls (lv_sub hl [1, 2, 0] rfl)
        · refine lv_aload_n hx hb dX7_finderOf_22 rfl (lv_at hl 0 rfl) ?_
          refine lv_aload_n hx hb dX7_finderOf_23 rfl (lv_at hl 0 rfl) ?_
          refine va_get (D := D) (ci := 7) (v := .ref r0) (C := RX7) (T := TX7) (N := 10) hx hb hts (by decide +kernel) hown hK hP 0 rfl rfl 0 (by decide) (hts (.fieldLink RX7 9 "FiberTrace$Reading" "begins" "[I") (by decide +kernel)) (fun _ h9 => h9) rfl dX7_finderOf_24 ?_
          refine lv_iload_n hx hb dX7_finderOf_27 rfl (lv_at hl 2 rfl) ?_
          refine ft_csi (r := ftAt 30 (ro 0) (nI i)) (va_runSN (As := [.ref r0, .int (nI i)]) (rest := [.ref a0]) ⟨hx, hb, hml, hown, hts⟩ (c_X10_at l D cI cS r0 30 (ro 0) (nI i) (by first | assumption | omega)) ⟨va_cnB 2 hts gX7_finderOf_X10_at_n40 rfl rfl rfl (hKK.2 _ (List.mem_of_getElem? (i := 21) rfl)) (hts (.initialized RX10) (by decide +kernel)) (by decide +kernel) ⟨Nat.le_of_ble_eq_true rfl, Nat.le_of_ble_eq_true rfl⟩, hts (.static yX10_at) (by decide +kernel), trivial⟩ (ft_preRO hP hKK [1] rfl) rfl rfl hl.1 rfl (lv_room (Nat.le_of_ble_eq_true rfl)) dX7_finderOf_28 ⟨Nat.le_of_ble_eq_true rfl, Nat.le_of_ble_eq_true rfl⟩) ?_
          refine ft_top (y := (ro 0) i) (ftAt_N (by omega) (by omega)) ?_
          refine lv_iload_n hx hb dX7_finderOf_31 rfl (lv_at hl 1 rfl) ?_
          refine ft_csi (r := ftB (ftNear tl ((ro 0) i) x)) (va_runV (C := RX7) (As := [.int ((ro 0) i), .int x]) (rest := []) ⟨hx, hb, hml, hown, hts⟩ (c_X7_isNear l D cI cS a0 r0 r1 r2 r3 r4 r5 r6 r7 k tl ((ro 0) i) x) (cwV 2 hts gX7_finderOf_X7_isNear rfl rfl rfl (by decide +kernel) ⟨Nat.le_of_ble_eq_true rfl, Nat.le_of_ble_eq_true rfl⟩) (ft_preROV (ci := 7) (q0 := 0) hP hKK [0] rfl rfl rfl) rfl rfl hl.1 rfl (lv_room (Nat.le_of_ble_eq_true rfl)) dX7_finderOf_32 ⟨Nat.le_of_ble_eq_true rfl, Nat.le_of_ble_eq_true rfl⟩) ?_
          refine lv_if_eq (tgt := 40) hx hb dX7_finderOf_35 (by decide) (fun c35 => ?_) (fun c35 => ?_)
          · replace c35 := ftB_eq c35
            refine lv_iinc (v := nI (i + 1)) (lv' := [(2, .int (nI (i + 1))), (0, .ref a0), (1, .int x)]) hx hb dX7_finderOf_40 hl (k := 2) rfl (ft_inc i) (by decide) rfl (fun ls hl => ?_)
            refine lv_goto (tgt := 2) hx hb dX7_finderOf_43 (by decide) ?_
            exact ih2 (i + 1) (nI (i + 1))  (by omega) (by omega) (by intro t ht; rcases Nat.lt_succ_iff_lt_or_eq.mp ht with r | r; exact hno t r; subst r; first | exact (fun q => q.1 c19) | exact (fun q => c35 q.2)) (by first | rfl | assumption)  ls (lv_sub hl [1, 2, 0] rfl)
          · replace c35 := ftB_ne c35
            refine lv_iload_n hx hb dX7_finderOf_38 rfl (lv_at hl 2 rfl) ?_
            exact W.iret (v := nI i) hx hb hr (fun t ht hW => ⟨nI i, rfl, (by show (nI i : Int32) = ftFinder ro k tl x; exact (ftFst_some (P := fun i => ¬ ro 4 i = 2 ∧ ftNear tl (ro 0 i) x) (by omega) ⟨c19, c35⟩ hno k (by omega)).symm), ht⟩) (fun _ h9 => absurd h9 List.not_mem_nil) dX7_finderOf_39
  exact lp2 _ 0 0  (Nat.lt_succ_self _) (by omega) (by intro t ht; omega) (by rfl) ls (lv_sub hl [1, 2, 0] rfl)
set_option maxHeartbeats 4000000 in
set_option maxRecDepth 100000 in
theorem c_X7_findingOf (l : Launch) (D : va_G) (cI cS : ClassId) (a0 r0 r1 r2 r3 r4 r5 r6 r7 k : Nat) (tl : Int32) (ro : Nat → Nat → Int32) (b0 : Nat) (len att en : Int32) (n bk bp bl br : Nat) (kf pf : Nat → Int32) (pt : Nat) (hk : k ≤ 30) (hpt : pt < 10) : Met l yX7_findingOf wsX7_findingOf ({ frames := 3, cells := 0, slots := 0, locals := 74 }) (ftRO D cI cS [.ref a0, .ref b0, .int (nI pt)] [(a0, .inr (7, [.ref r0, .ref r1, .ref r2, .ref r3, .ref r4, .ref r5, .ref r6, .ref r7, .int (nI k), .int tl])), (r0, .inl (cI, 30, .inl (ro 0))), (r1, .inl (cI, 30, .inl (ro 1))), (r4, .inl (cI, 30, .inl (ro 4))), (b0, .inr (4, [.int len, .int att, .int en, .int (nI n), .ref bk, .ref bp, .ref bl, .ref br])), (bk, .inl (cI, 10, .inl kf)), (bp, .inl (cI, 10, .inl pf))]) (vp_Si (fun o9 => o9 = ftFinding ro k tl (pf pt) (kf pt))) 0 0 (fun _ => False) := by
  refine Met.ofW (cc := cX7_findingOf) (maxL := 4) (ret := (some .int)) (by decide) rfl ?_
  intro p e s m args below meth c s₁ B hml hv
  obtain ⟨rfl, hP, hKK⟩ := hv
  have hK := hKK.1
  have hx := B.exec
  have hb := B.bytes
  have hr := B.returns
  have hts := atoms_spec (ws := wsX7_findingOf) B.pre
  have hown : s.vm.findClass RX7 = some m.cls := findClass_of_methodNamed B.named
  have hlocks := B.notSynchronized
  have hP : va_P D vwCl [(a0, .inr (7, [.ref r0, .ref r1, .ref r2, .ref r3, .ref r4, .ref r5, .ref r6, .ref r7, .int (nI k), .int tl])), (r0, .inl (cI, 30, .inl (ro 0))), (r1, .inl (cI, 30, .inl (ro 1))), (r4, .inl (cI, 30, .inl (ro 4))), (b0, .inr (4, [.int len, .int att, .int en, .int (nI n), .ref bk, .ref bp, .ref bl, .ref br])), (bk, .inl (cI, 10, .inl kf)), (bp, .inl (cI, 10, .inl pf))] s.heap := hP
  have hl := lv_entry ([.ref a0, .ref b0, .int (nI pt)]) (n := 4) (Nat.le_of_ble_eq_true rfl)
  rw [lg_entry_eq]
  generalize (lg_sl ([.ref a0, .ref b0, .int (nI pt)]) ++ List.replicate (4 - (lg_sl ([.ref a0, .ref b0, .int (nI pt)])).length) Slot.unset).toArray = ls at hl ⊢
  have hl : lv_has ls 4 [(0, .ref a0), (1, .ref b0), (2, .int (nI pt))] := hl
  refine lv_aload_n hx hb dX7_findingOf_0 rfl (lv_at hl 1 rfl) ?_
  refine va_get (D := D) (ci := 4) (v := .ref bp) (C := RX4) (T := TX4) (N := 8) hx hb hts (by decide +kernel) hown hK hP 4 rfl rfl 5 (by decide) (hts (.fieldLink RX7 88 "FiberTrace$Link" "places" "[I") (by decide +kernel)) (fun _ h9 => h9) rfl dX7_findingOf_1 ?_
  refine lv_iload_n hx hb dX7_findingOf_4 rfl (lv_at hl 2 rfl) ?_
  refine ft_csi (r := ftAt 10 pf (nI pt)) (va_runSN (As := [.ref bp, .int (nI pt)]) (rest := []) ⟨hx, hb, hml, hown, hts⟩ (c_X10_at l D cI cS bp 10 pf (nI pt) (by first | assumption | omega)) ⟨va_cnB 2 hts gX7_findingOf_X10_at_n40 rfl rfl rfl (hKK.2 _ (List.mem_of_getElem? (i := 21) rfl)) (hts (.initialized RX10) (by decide +kernel)) (by decide +kernel) ⟨Nat.le_of_ble_eq_true rfl, Nat.le_of_ble_eq_true rfl⟩, hts (.static yX10_at) (by decide +kernel), trivial⟩ (ft_preRO hP hKK [6] rfl) rfl rfl hl.1 rfl (lv_room (Nat.le_of_ble_eq_true rfl)) dX7_findingOf_5 ⟨Nat.le_of_ble_eq_true rfl, Nat.le_of_ble_eq_true rfl⟩) ?_
  refine ft_top (y := pf pt) (ftAt_N (by omega) (by omega)) ?_
  refine lv_istore_n (lv' := [(3, .int (pf pt)), (0, .ref a0), (1, .ref b0), (2, .int (nI pt))]) hx hb dX7_findingOf_8 rfl hl (by decide) rfl (fun ls hl => ?_)
  refine lv_aload_n hx hb dX7_findingOf_9 rfl (lv_at hl 2 rfl) ?_
  refine lv_iload_n hx hb dX7_findingOf_10 rfl (lv_at hl 3 rfl) ?_
  refine ft_csi (r := ftB (¬ kf pt = 2)) (va_runV (C := RX4) (As := [.int (nI pt)]) (rest := []) ⟨hx, hb, hml, hown, hts⟩ (c_X4_isJoint l D cI cS b0 len att en n bk bp bl br kf pt (by first | assumption | omega)) (cwV 1 hts gX7_findingOf_X4_isJoint rfl rfl rfl (by decide +kernel) ⟨Nat.le_of_ble_eq_true rfl, Nat.le_of_ble_eq_true rfl⟩) (ft_preROV (ci := 4) (q0 := 4) hP hKK [4, 5] rfl rfl rfl) rfl rfl hl.1 rfl (lv_room (Nat.le_of_ble_eq_true rfl)) dX7_findingOf_11 ⟨Nat.le_of_ble_eq_true rfl, Nat.le_of_ble_eq_true rfl⟩) ?_
  refine lv_if_ne (tgt := 19) hx hb dX7_findingOf_14 (by decide) (fun c14 => ?_) (fun c14 => ?_)
  · replace c14 := ftB_ne c14
    refine lv_aload_n hx hb dX7_findingOf_19 rfl (lv_at hl 1 rfl) ?_
    refine lv_iload_n hx hb dX7_findingOf_20 rfl (lv_at hl 0 rfl) ?_
    refine ft_csi (r := ftFinder ro k tl (pf pt)) (va_runV (C := RX7) (As := [.int (pf pt)]) (rest := []) ⟨hx, hb, hml, hown, hts⟩ (c_X7_finderOf l D cI cS a0 r0 r1 r2 r3 r4 r5 r6 r7 k tl ro (pf pt) (by first | assumption | omega)) (cwV 1 hts gX7_findingOf_X7_finderOf rfl rfl rfl (by decide +kernel) ⟨Nat.le_of_ble_eq_true rfl, Nat.le_of_ble_eq_true rfl⟩) (ft_preROV (ci := 7) (q0 := 0) hP hKK [0, 1, 3] rfl rfl rfl) rfl rfl hl.1 rfl (lv_room (Nat.le_of_ble_eq_true rfl)) dX7_findingOf_21 ⟨Nat.le_of_ble_eq_true rfl, Nat.le_of_ble_eq_true rfl⟩) ?_
    refine lv_iconst (v := (-1)) hx hb dX7_findingOf_24 (by decide) ?_
    refine lv_icmp_eq (tgt := 30) hx hb dX7_findingOf_25 (by decide) (fun c25 => ?_) (fun c25 => ?_)
    · refine lv_aload_n hx hb dX7_findingOf_30 rfl (lv_at hl 1 rfl) ?_
      refine lv_iload_n hx hb dX7_findingOf_31 rfl (lv_at hl 0 rfl) ?_
      refine ft_csi (r := ftCov ro k (pf pt)) (va_runV (C := RX7) (As := [.int (pf pt)]) (rest := []) ⟨hx, hb, hml, hown, hts⟩ (c_X7_covering l D cI cS a0 r0 r1 r2 r3 r4 r5 r6 r7 k tl ro (pf pt) (by first | assumption | omega)) (cwV 1 hts gX7_findingOf_X7_covering rfl rfl rfl (by decide +kernel) ⟨Nat.le_of_ble_eq_true rfl, Nat.le_of_ble_eq_true rfl⟩) (ft_preROV (ci := 7) (q0 := 0) hP hKK [0, 1, 2] rfl rfl rfl) rfl rfl hl.1 rfl (lv_room (Nat.le_of_ble_eq_true rfl)) dX7_findingOf_32 ⟨Nat.le_of_ble_eq_true rfl, Nat.le_of_ble_eq_true rfl⟩) ?_
      refine lv_iconst (v := (-1)) hx hb dX7_findingOf_35 (by decide) ?_
      refine lv_icmp_eq (tgt := 43) hx hb dX7_findingOf_36 (by decide) (fun c36 => ?_) (fun c36 => ?_)
      · refine lv_iconst (v := 2) hx hb dX7_findingOf_43 (by decide) ?_
        exact W.iret (v := 2) hx hb hr (fun t ht hW => ⟨2, rfl, (by show (2 : Int32) = ftFinding ro k tl (pf pt) (kf pt); unfold ftFinding; first | (rw [if_pos (Classical.not_not.mp c14)]; done) | (rw [if_neg c14, if_neg c25]; done) | (rw [if_neg c14, if_pos c25, if_pos c36]; done) | (rw [if_neg c14, if_pos c25, if_neg c36]; done)), ht⟩) (fun _ h9 => absurd h9 List.not_mem_nil) dX7_findingOf_44
      · refine lv_iconst (v := 1) hx hb dX7_findingOf_39 (by decide) ?_
        refine lv_goto (tgt := 44) hx hb dX7_findingOf_40 (by decide) ?_
        exact W.iret (v := 1) hx hb hr (fun t ht hW => ⟨1, rfl, (by show (1 : Int32) = ftFinding ro k tl (pf pt) (kf pt); unfold ftFinding; first | (rw [if_pos (Classical.not_not.mp c14)]; done) | (rw [if_neg c14, if_neg c25]; done) | (rw [if_neg c14, if_pos c25, if_pos c36]; done) | (rw [if_neg c14, if_pos c25, if_neg c36]; done)), ht⟩) (fun _ h9 => absurd h9 List.not_mem_nil) dX7_findingOf_44
    · refine lv_iconst (v := 0) hx hb dX7_findingOf_28 (by decide) ?_
      exact W.iret (v := 0) hx hb hr (fun t ht hW => ⟨0, rfl, (by show (0 : Int32) = ftFinding ro k tl (pf pt) (kf pt); unfold ftFinding; first | (rw [if_pos (Classical.not_not.mp c14)]; done) | (rw [if_neg c14, if_neg c25]; done) | (rw [if_neg c14, if_pos c25, if_pos c36]; done) | (rw [if_neg c14, if_pos c25, if_neg c36]; done)), ht⟩) (fun _ h9 => absurd h9 List.not_mem_nil) dX7_findingOf_29
  · replace c14 := ftB_eq c14
    refine lv_iconst (v := 2) hx hb dX7_findingOf_17 (by decide) ?_
    exact W.iret (v := 2) hx hb hr (fun t ht hW => ⟨2, rfl, (by show (2 : Int32) = ftFinding ro k tl (pf pt) (kf pt); unfold ftFinding; first | (rw [if_pos (Classical.not_not.mp c14)]; done) | (rw [if_neg c14, if_neg c25]; done) | (rw [if_neg c14, if_pos c25, if_pos c36]; done) | (rw [if_neg c14, if_pos c25, if_neg c36]; done)), ht⟩) (fun _ h9 => absurd h9 List.not_mem_nil) dX7_findingOf_18
set_option maxHeartbeats 4000000 in
set_option maxRecDepth 100000 in
theorem c_X7_witnessOf (l : Launch) (D : va_G) (cI cS : ClassId) (a0 r0 r1 r2 r3 r4 r5 r6 r7 k : Nat) (tl : Int32) (ro : Nat → Nat → Int32) (b0 : Nat) (len att en : Int32) (n bk bp bl br : Nat) (kf pf : Nat → Int32) (pt : Nat) (hk : k ≤ 30) (hpt : pt < 10) : Met l yX7_witnessOf wsX7_witnessOf ({ frames := 4, cells := 0, slots := 0, locals := 97 }) (ftRO D cI cS [.ref a0, .ref b0, .int (nI pt)] [(a0, .inr (7, [.ref r0, .ref r1, .ref r2, .ref r3, .ref r4, .ref r5, .ref r6, .ref r7, .int (nI k), .int tl])), (r0, .inl (cI, 30, .inl (ro 0))), (r1, .inl (cI, 30, .inl (ro 1))), (r4, .inl (cI, 30, .inl (ro 4))), (b0, .inr (4, [.int len, .int att, .int en, .int (nI n), .ref bk, .ref bp, .ref bl, .ref br])), (bk, .inl (cI, 10, .inl kf)), (bp, .inl (cI, 10, .inl pf))]) (vp_Si (fun o9 => o9 = ftWitness ro k tl (pf pt) (kf pt))) 0 0 (fun _ => False) := by
  refine Met.ofW (cc := cX7_witnessOf) (maxL := 4) (ret := (some .int)) (by decide) rfl ?_
  intro p e s m args below meth c s₁ B hml hv
  obtain ⟨rfl, hP, hKK⟩ := hv
  have hK := hKK.1
  have hx := B.exec
  have hb := B.bytes
  have hr := B.returns
  have hts := atoms_spec (ws := wsX7_witnessOf) B.pre
  have hown : s.vm.findClass RX7 = some m.cls := findClass_of_methodNamed B.named
  have hlocks := B.notSynchronized
  have hP : va_P D vwCl [(a0, .inr (7, [.ref r0, .ref r1, .ref r2, .ref r3, .ref r4, .ref r5, .ref r6, .ref r7, .int (nI k), .int tl])), (r0, .inl (cI, 30, .inl (ro 0))), (r1, .inl (cI, 30, .inl (ro 1))), (r4, .inl (cI, 30, .inl (ro 4))), (b0, .inr (4, [.int len, .int att, .int en, .int (nI n), .ref bk, .ref bp, .ref bl, .ref br])), (bk, .inl (cI, 10, .inl kf)), (bp, .inl (cI, 10, .inl pf))] s.heap := hP
  have hl := lv_entry ([.ref a0, .ref b0, .int (nI pt)]) (n := 4) (Nat.le_of_ble_eq_true rfl)
  rw [lg_entry_eq]
  generalize (lg_sl ([.ref a0, .ref b0, .int (nI pt)]) ++ List.replicate (4 - (lg_sl ([.ref a0, .ref b0, .int (nI pt)])).length) Slot.unset).toArray = ls at hl ⊢
  have hl : lv_has ls 4 [(0, .ref a0), (1, .ref b0), (2, .int (nI pt))] := hl
  refine lv_aload_n hx hb dX7_witnessOf_0 rfl (lv_at hl 1 rfl) ?_
  refine va_get (D := D) (ci := 4) (v := .ref bp) (C := RX4) (T := TX4) (N := 8) hx hb hts (by decide +kernel) hown hK hP 4 rfl rfl 5 (by decide) (hts (.fieldLink RX7 88 "FiberTrace$Link" "places" "[I") (by decide +kernel)) (fun _ h9 => h9) rfl dX7_witnessOf_1 ?_
  refine lv_iload_n hx hb dX7_witnessOf_4 rfl (lv_at hl 2 rfl) ?_
  refine ft_csi (r := ftAt 10 pf (nI pt)) (va_runSN (As := [.ref bp, .int (nI pt)]) (rest := []) ⟨hx, hb, hml, hown, hts⟩ (c_X10_at l D cI cS bp 10 pf (nI pt) (by first | assumption | omega)) ⟨va_cnB 2 hts gX7_witnessOf_X10_at_n40 rfl rfl rfl (hKK.2 _ (List.mem_of_getElem? (i := 21) rfl)) (hts (.initialized RX10) (by decide +kernel)) (by decide +kernel) ⟨Nat.le_of_ble_eq_true rfl, Nat.le_of_ble_eq_true rfl⟩, hts (.static yX10_at) (by decide +kernel), trivial⟩ (ft_preRO hP hKK [6] rfl) rfl rfl hl.1 rfl (lv_room (Nat.le_of_ble_eq_true rfl)) dX7_witnessOf_5 ⟨Nat.le_of_ble_eq_true rfl, Nat.le_of_ble_eq_true rfl⟩) ?_
  refine ft_top (y := pf pt) (ftAt_N (by omega) (by omega)) ?_
  refine lv_istore_n (lv' := [(3, .int (pf pt)), (0, .ref a0), (1, .ref b0), (2, .int (nI pt))]) hx hb dX7_witnessOf_8 rfl hl (by decide) rfl (fun ls hl => ?_)
  refine lv_aload_n hx hb dX7_witnessOf_9 rfl (lv_at hl 1 rfl) ?_
  refine lv_aload_n hx hb dX7_witnessOf_10 rfl (lv_at hl 2 rfl) ?_
  refine lv_iload_n hx hb dX7_witnessOf_11 rfl (lv_at hl 3 rfl) ?_
  refine ft_csi (r := ftFinding ro k tl (pf pt) (kf pt)) (va_runV (C := RX7) (As := [.ref b0, .int (nI pt)]) (rest := []) ⟨hx, hb, hml, hown, hts⟩ (c_X7_findingOf l D cI cS a0 r0 r1 r2 r3 r4 r5 r6 r7 k tl ro b0 len att en n bk bp bl br kf pf pt (by first | assumption | omega) (by first | assumption | omega)) (cwV 2 hts gX7_witnessOf_X7_findingOf rfl rfl rfl (by decide +kernel) ⟨Nat.le_of_ble_eq_true rfl, Nat.le_of_ble_eq_true rfl⟩) (ft_preROV (ci := 7) (q0 := 0) hP hKK [0, 1, 2, 3, 4, 5, 6] rfl rfl rfl) rfl rfl hl.1 rfl (lv_room (Nat.le_of_ble_eq_true rfl)) dX7_witnessOf_12 ⟨Nat.le_of_ble_eq_true rfl, Nat.le_of_ble_eq_true rfl⟩) ?_
  by_cases c15_0 : (ftFinding ro k tl (pf pt) (kf pt)) = 0
  · refine lv_lookup (off := 25) (tgt := 40) hx hb dX7_witnessOf_15 (by decide) (by rw [c15_0]; decide) (by decide) ?_
    refine lv_aload_n hx hb dX7_witnessOf_40 rfl (lv_at hl 1 rfl) ?_
    refine lv_iload_n hx hb dX7_witnessOf_41 rfl (lv_at hl 0 rfl) ?_
    refine ft_csi (r := ftFinder ro k tl (pf pt)) (va_runV (C := RX7) (As := [.int (pf pt)]) (rest := []) ⟨hx, hb, hml, hown, hts⟩ (c_X7_finderOf l D cI cS a0 r0 r1 r2 r3 r4 r5 r6 r7 k tl ro (pf pt) (by first | assumption | omega)) (cwV 1 hts gX7_witnessOf_X7_finderOf rfl rfl rfl (by decide +kernel) ⟨Nat.le_of_ble_eq_true rfl, Nat.le_of_ble_eq_true rfl⟩) (ft_preROV (ci := 7) (q0 := 0) hP hKK [0, 1, 3] rfl rfl rfl) rfl rfl hl.1 rfl (lv_room (Nat.le_of_ble_eq_true rfl)) dX7_witnessOf_42 ⟨Nat.le_of_ble_eq_true rfl, Nat.le_of_ble_eq_true rfl⟩) ?_
    exact W.iret (v := ftFinder ro k tl (pf pt)) hx hb hr (fun t ht hW => ⟨ftFinder ro k tl (pf pt), rfl, (by show (ftFinder ro k tl (pf pt) : Int32) = ftWitness ro k tl (pf pt) (kf pt); unfold ftWitness; first | (rw [if_pos c15_0]; done) | (rw [if_neg c15_0, if_pos c15_1]; done) | (rw [if_neg c15_0, if_neg c15_1]; done)), ht⟩) (fun _ h9 => absurd h9 List.not_mem_nil) dX7_witnessOf_45
  by_cases c15_1 : (ftFinding ro k tl (pf pt) (kf pt)) = 1
  · refine lv_lookup (off := 31) (tgt := 46) hx hb dX7_witnessOf_15 (by decide) (by rw [c15_1]; decide) (by decide) ?_
    refine lv_aload_n hx hb dX7_witnessOf_46 rfl (lv_at hl 1 rfl) ?_
    refine lv_iload_n hx hb dX7_witnessOf_47 rfl (lv_at hl 0 rfl) ?_
    refine ft_csi (r := ftCov ro k (pf pt)) (va_runV (C := RX7) (As := [.int (pf pt)]) (rest := []) ⟨hx, hb, hml, hown, hts⟩ (c_X7_covering l D cI cS a0 r0 r1 r2 r3 r4 r5 r6 r7 k tl ro (pf pt) (by first | assumption | omega)) (cwV 1 hts gX7_witnessOf_X7_covering rfl rfl rfl (by decide +kernel) ⟨Nat.le_of_ble_eq_true rfl, Nat.le_of_ble_eq_true rfl⟩) (ft_preROV (ci := 7) (q0 := 0) hP hKK [0, 1, 2] rfl rfl rfl) rfl rfl hl.1 rfl (lv_room (Nat.le_of_ble_eq_true rfl)) dX7_witnessOf_48 ⟨Nat.le_of_ble_eq_true rfl, Nat.le_of_ble_eq_true rfl⟩) ?_
    exact W.iret (v := ftCov ro k (pf pt)) hx hb hr (fun t ht hW => ⟨ftCov ro k (pf pt), rfl, (by show (ftCov ro k (pf pt) : Int32) = ftWitness ro k tl (pf pt) (kf pt); unfold ftWitness; first | (rw [if_pos c15_0]; done) | (rw [if_neg c15_0, if_pos c15_1]; done) | (rw [if_neg c15_0, if_neg c15_1]; done)), ht⟩) (fun _ h9 => absurd h9 List.not_mem_nil) dX7_witnessOf_51
  have c15_0i := lv_neT (a := 0) c15_0 (by decide)
  have c15_1i := lv_neT (a := 1) c15_1 (by decide)
  refine lv_lookup (off := 37) (tgt := 52) hx hb dX7_witnessOf_15 (by decide) (by simp [Op.lookupswitch.offset, c15_0i, Ne.symm c15_0i, c15_1i, Ne.symm c15_1i]) (by decide) ?_
  refine lv_iconst (v := (-1)) hx hb dX7_witnessOf_52 (by decide) ?_
  exact W.iret (v := (-1)) hx hb hr (fun t ht hW => ⟨(-1), rfl, (by show ((-1) : Int32) = ftWitness ro k tl (pf pt) (kf pt); unfold ftWitness; first | (rw [if_pos c15_0]; done) | (rw [if_neg c15_0, if_pos c15_1]; done) | (rw [if_neg c15_0, if_neg c15_1]; done)), ht⟩) (fun _ h9 => absurd h9 List.not_mem_nil) dX7_witnessOf_53




