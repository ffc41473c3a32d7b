/-! what lies outside the worlds: texts, tables of the class -/
def ftLe : List Nat := [6, 11, 3, 6, 9, 6]
def ftBy : List (List Int32) := [[108, 101, 110, 103, 116, 104], [97, 116, 116, 101, 110, 117, 97, 116, 105, 111, 110], [101, 110, 100], [115, 112, 108, 105, 99, 101], [99, 111, 110, 110, 101, 99, 116, 111, 114], [99, 104, 97, 110, 103, 101]]
def ftNi : List Nat := [97, 98, 100, 102, 104, 106]
def ftNt : List String := ["length", "attenuation", "end", "splice", "connector", "change"]
def ftTbs : List (List Int32) := [[1, 100, 0, 0, 1, 0, 10, 5, 0, 0, 0], [20, 5000, 40000, 400, 32, 65535, 5000, 2000, 40000, 20, 2000], [5, 1500, 9000, 0, 4, 1, 600, 60, 8000, 3, 150]]
def ftTb (k : Nat) : Nat → Int32 := fun j => (ftTbs.getD k []).getD j 0
def ftTn9 : List String := ["LEAST_VALUES", "GREATEST_VALUES", "FIRST_VALUES"]
def ftSt (sK sV : Nat → Nat) (A : Nat → Prop) (U : State) (H : Heap) : Prop :=
  vk_S 6 ftLe ftBy sK sV A U H ∧ va_Z "java/lang/String" "COMPACT_STRINGS" "Z" (.int 1) A U H ∧ va_Zq "jdk/internal/util/Preconditions" "SIOOBE_FORMATTER" "Ljava/util/function/BiFunction;" A U H ∧ (∀ i, i < 6 → vk_R RX5 (ftNi.getD i 0) (ftNt.getD i "") (sK i) U) ∧ (∀ k, k < 3 → va_T .int (sV (6 + k)) 11 (fun j => .int (ftTb k j)) A U H) ∧ ∀ k, k < 3 → va_Z "FiberTrace" (ftTn9.getD k "") "[I" (.ref (sV (6 + k))) A U H
theorem ftSt.go {sK sV : Nat → Nat} {A B : Nat → Prop} {s U : State} {H : Heap} {locs : List Loc} (h : ftSt sK sV A s s.heap) (hS : va_S A s.heap H locs) (hB : ∀ q, B q → A q) (hU : U.heap = H) (hW : s.WarmedH U.vm) : ftSt sK sV B U U.heap := by
  obtain ⟨h1, h2, h3, h4, h5, h6⟩ := h
  rw [hU]
  exact ⟨vk_S.moved hW.alike ((h1.kept hS.2.1).narrow hB), va_Z.moved hW.alike ((h2.kept hS.2.1).narrow hB), va_Zq.moved hW.alike ((h3.kept hS.2.1).narrow hB), fun i hi => vk_R.warm hW (h4 i hi), fun k hk => va_T.moved hW.alike (((h5 k hk).kept hS.2.1).narrow hB), fun k hk => va_Z.moved hW.alike (((h6 k hk).kept hS.2.1).narrow hB)⟩
theorem ftSt.call {sK sV : Nat → Nat} {A : Nat → Prop} {U : State} {g : JFrame} {mk : MethodId} {a : Array Value} (h : ftSt sK sV A U U.heap) : ftSt sK sV A (U.calling g mk a) (U.calling g mk a).heap := by
  obtain ⟨h1, h2, h3, h4, h5, h6⟩ := h
  have al : U.vm.Alike (U.calling g mk a).vm := Vm.Alike.refl U.vm
  exact ⟨vk_S.moved al h1, va_Z.moved al h2, va_Zq.moved al h3, fun i hi => vk_R.same (u := U) rfl (h4 i hi), fun k hk => va_T.moved al (h5 k hk), fun k hk => va_Z.moved al (h6 k hk)⟩
abbrev ftROS (D : va_G) (cI cS : ClassId) (sK sV : Nat → Nat) (av : List Value) (ws : va_W) : Array Value → State → Prop := va_Pc av (fun U => va_P D vwCl ws U.heap ∧ ftK D cI cS U ∧ ftSt sK sV (fun _ => False) U U.heap)
abbrev ftRWS (D : va_G) (cI cS : ClassId) (sK sV : Nat → Nat) (av : List Value) (ws : va_W) (sz : Nat) : Array Value → State → Prop := va_Pc av (fun U => U.heap.size = sz ∧ va_P D vwCl ws U.heap ∧ ftK D cI cS U ∧ va_D (fun _ => True) ws ∧ ftSt sK sV (va_A ws sz) U U.heap)
theorem ft_blindROS {D : va_G} {cI cS : ClassId} {sK sV : Nat → Nat} {av : List Value} {ws : va_W} : FrameBlind (ftROS D cI cS sK sV av ws) := fun a U g mk q => ⟨q.1, q.2.1, q.2.2.1.call, q.2.2.2.call⟩
theorem ft_blindRWS {D : va_G} {cI cS : ClassId} {sK sV : Nat → Nat} {av : List Value} {ws : va_W} {sz : Nat} : FrameBlind (ftRWS D cI cS sK sV av ws sz) := fun a U g mk q => ⟨q.1, q.2.1, q.2.2.1, q.2.2.2.1.call, q.2.2.2.2.1, q.2.2.2.2.2.call⟩
/-- the end of one that writes nothing and answers nothing -/
def ftSv : Array Value → State → Outcome → State → Prop := fun _ st oc t => oc = .returned none ∧ t.heap = st.heap
theorem ft_csv {p : Program} {l : Launch} {e : Env} {R : Room} {s : State} {m : MethodId} {args : Array Value} {below : List Frame} {meth : Method} {c : Code} {H : Heap} {locs : List Loc} {cells slots : Nat} {Q : State → Prop} {a : Array Value} {st0 rest : List Value} {pc : Nat} {ls : Array Slot} (hr : va_Run p l e R s m args below meth c H locs cells slots 0 0 (F0 m pc ls st0) rest (ftSv a) (fun _ => False))
    (kk : W p l e R s m args below meth c H locs cells slots Q (F0 m (pc + 3) ls rest)) : W p l e R s m args below meth c H locs cells slots Q (F0 m pc ls st0) := by
  intro T hT X
  obtain ⟨v, st₀, t, T', L, h0, X', hL, e1, -, ⟨hv, hh⟩, st⟩ := hr T hT X
  cases hv
  obtain ⟨t2, a1, b1⟩ := kk T' (by rw [e1, hh, h0]) (Stand.forget X' (fun q h => (hL q h).elim))
  exact ⟨t2, st t2 a1, b1⟩
section FTST
variable {D : va_G} {cI cS : ClassId} {sK sV : Nat → Nat} {As : List Value} {ws wc : va_W} {s : State} {H : Heap} {A : Nat → Prop} {locs : List Loc}
theorem ft_preROS (hP : va_P D vwCl ws H) (hK : ftK D cI cS s) (hSt : ftSt sK sV A s s.heap) (hS : va_S A s.heap H locs) (is : List Nat) (hs : is.filterMap (fun i => ws[i]?) = wc) : PreS s H (ftROS D cI cS sK sV As wc) As :=
  ⟨ft_blindROS, fun U hU hW => ⟨rfl, by rw [hU]; exact hP.sub is hs, hK.warm hW, hSt.go hS (fun _ h => h.elim) hU hW⟩⟩
theorem ft_preROVS {a q0 ci : Nat} {q : vw_C} {fs : List Value} (hP : va_P D vwCl ws H) (hK : ftK D cI cS s) (hSt : ftSt sK sV A s s.heap) (hS : va_S A s.heap H locs) (is : List Nat) (hs : is.filterMap (fun i => ws[i]?) = wc) (hc : vwCl[ci]? = some q) (he : ws[q0]? = some (a, .inr (ci, fs))) : PreV s H q.1 a (ftROS D cI cS sK sV (.ref a :: As) wc) As :=
  ⟨ft_blindROS, va_recv hK.1 hP hc he, fun U hU hW => ⟨rfl, by rw [hU]; exact hP.sub is hs, hK.warm hW, hSt.go hS (fun _ h => h.elim) hU hW⟩⟩
theorem ft_preJ {a : Nat} {C : String} (hP : va_P D vwCl ws H) (hK : ftK D cI cS s) (hSt : ftSt sK sV A s s.heap) (hS : va_S A s.heap H locs) (hr : ∃ cell : Cell, H[a]? = some cell ∧ cell.vm.isStatics = false ∧ s.vm.findClass C = some cell.cls) (is : List Nat) (hs : is.filterMap (fun i => ws[i]?) = wc) : PreV s H C a (ftROS D cI cS sK sV (.ref a :: As) wc) As :=
  ⟨ft_blindROS, hr, fun U hU hW => ⟨rfl, by rw [hU]; exact hP.sub is hs, hK.warm hW, hSt.go hS (fun _ h => h.elim) hU hW⟩⟩
theorem ft_preRWS (hP : va_P D vwCl ws H) (hD : va_D A ws) (hK : ftK D cI cS s) (hSt : ftSt sK sV A s s.heap) (hS : va_S A s.heap H locs) (hA : ∀ q, s.heap.size ≤ q → A q) (is : List Nat) (hs : is.filterMap (fun i => ws[i]?) = wc) (hn : va_nd is = true) (hm : is.map (fun i => ws[i]?) = wc.map some) : PreS s H (ftRWS D cI cS sK sV As wc H.size) As :=
  ⟨ft_blindRWS, fun U hU hW => ⟨rfl, by rw [hU], by rw [hU]; exact hP.sub is hs, hK.warm hW, (hD.sub is hn hm).weaken (fun _ _ _ _ => trivial), hSt.go hS (va_free hD hS hA is hm) hU hW⟩⟩
theorem ft_preRWVS {a q0 ci : Nat} {q : vw_C} {fs : List Value} (hP : va_P D vwCl ws H) (hD : va_D A ws) (hK : ftK D cI cS s) (hSt : ftSt sK sV A s s.heap) (hS : va_S A s.heap H locs) (hA : ∀ q, s.heap.size ≤ q → A q) (is : List Nat) (hs : is.filterMap (fun i => ws[i]?) = wc) (hn : va_nd is = true) (hm : is.map (fun i => ws[i]?) = wc.map some) (hc : vwCl[ci]? = some q) (he : ws[q0]? = some (a, .inr (ci, fs))) : PreV s H q.1 a (ftRWS D cI cS sK sV (.ref a :: As) wc H.size) As :=
  ⟨ft_blindRWS, va_recv hK.1 hP hc he, fun U hU hW => ⟨rfl, by rw [hU], by rw [hU]; exact hP.sub is hs, hK.warm hW, (hD.sub is hn hm).weaken (fun _ _ _ _ => trivial), hSt.go hS (va_free hD hS hA is hm) hU hW⟩⟩
end FTST
/-- a text's letters are those of the reference's words -/
theorem ftBy_lt : ∀ j, j < 6 → ∀ t, t < ftLe.getD j 0 → (ftBy.getD j []).getD t 0 &&& 255 = ftLt (nI (100 * j + t)) ∧ (((ftBy.getD j []).getD t 0 &&& 255).toUInt32 % 65536).toInt32 = (ftBy.getD j []).getD t 0 &&& 255 ∧ narrow .char (.int ((ftBy.getD j []).getD t 0 &&& 255)) = .int ((ftBy.getD j []).getD t 0 &&& 255) := by decide +kernel
theorem ftLe_ws : ∀ j, j < 6 → ftLe.getD j 0 = ftWs j := by decide +kernel
theorem ftTb_le : ∀ k, k < 11 → ftTb 0 k = ftLeast (nI k) ∧ ftTb 1 k = ftMost (nI k) ∧ ftTb 2 k = ftFirst (nI k) := by decide +kernel
set_option maxHeartbeats 4000000 in
set_option maxRecDepth 100000 in
theorem c_J0_coder_7d493 (l : Launch) (D : va_G) (cI cS : ClassId) (sK sV : Nat → Nat) (j : Nat) (hj : j < 6) : Met l yJ0_coder_7d493 wsJ0_coder_7d493 ({ frames := 0, cells := 0, slots := 0, locals := 0 }) (ftROS D cI cS sK sV [.ref (sK j)] []) (vp_Si (fun o9 => o9 = 0)) 0 0 (fun _ => False) := by
  refine ft_ofWF (cc := cJ0_coder_7d493) (maxL := 1) (ret := (some .byte)) (by decide +kernel) rfl ?_
  intro p e s m args below meth c s₁ B hml hv
  obtain ⟨rfl, hP, hKK, hSt⟩ := hv
  have hS : va_S (fun _ => False) s.heap s.heap [] := va_S.rf
  have hK := hKK.1
  have hx := B.exec
  have hb := B.bytes
  have hr := B.returns
  have hts := atoms_spec (ws := wsJ0_coder_7d493) B.pre
  have hown : s.vm.findClass RJ0 = some m.cls := findClass_of_methodNamed B.named
  have hlocks := B.notSynchronized
  have hP : va_P D vwCl [] s.heap := hP
  have hl := lv_entry ([.ref (sK j)]) (n := 1) (Nat.le_of_ble_eq_true rfl)
  rw [lg_entry_eq]
  generalize (lg_sl ([.ref (sK j)]) ++ List.replicate (1 - (lg_sl ([.ref (sK j)])).length) Slot.unset).toArray = ls at hl ⊢
  have hl : lv_has ls 1 [(0, .ref (sK j))] := hl
  refine va_gets hx hb hSt.2.1 hS hown (hts (.fieldLink RJ0 38 "java/lang/String" "COMPACT_STRINGS" "Z") (by decide +kernel)) (fun _ h9 => h9) dJ0_coder_7d493_0 ?_
  refine lv_if_eq (tgt := 13) hx hb dJ0_coder_7d493_3 (by decide) (fun c3 => ?_) (fun c3 => ?_)
  · exact absurd c3 (by decide)
  · refine lv_aload_n hx hb dJ0_coder_7d493_6 rfl (lv_at hl 0 rfl) ?_
    refine vk_getf hx hb (hSt.1.1 j hj).2.1 hS hown (hts (.fieldLink RJ0 15 "java/lang/String" "coder" "B") (by decide +kernel)) (fun _ h9 => h9) dJ0_coder_7d493_7 ?_
    refine lv_goto (tgt := 14) hx hb dJ0_coder_7d493_10 (by decide) ?_
    exact W.zret (v := 0) hx hb hr (by rfl) (fun t ht hW => ⟨0, rfl, rfl, ht⟩) (fun _ h9 => absurd h9 List.not_mem_nil) dJ0_coder_7d493_14
set_option maxHeartbeats 4000000 in
set_option maxRecDepth 100000 in
theorem c_J0_length_8abf5 (l : Launch) (D : va_G) (cI cS : ClassId) (sK sV : Nat → Nat) (j : Nat) (hj : j < 6) : Met l yJ0_length_8abf5 wsJ0_length_8abf5 ({ frames := 1, cells := 0, slots := 0, locals := 20 }) (ftROS D cI cS sK sV [.ref (sK j)] []) (vp_Si (fun o9 => o9 = nI (ftWs j))) 0 0 (fun _ => False) := by
  refine ft_ofWF (cc := cJ0_length_8abf5) (maxL := 1) (ret := (some .int)) (by decide +kernel) rfl ?_
  intro p e s m args below meth c s₁ B hml hv
  obtain ⟨rfl, hP, hKK, hSt⟩ := hv
  have hS : va_S (fun _ => False) s.heap s.heap [] := va_S.rf
  have hK := hKK.1
  have hx := B.exec
  have hb := B.bytes
  have hr := B.returns
  have hts := atoms_spec (ws := wsJ0_length_8abf5) B.pre
  have hown : s.vm.findClass RJ0 = some m.cls := findClass_of_methodNamed B.named
  have hlocks := B.notSynchronized
  have hP : va_P D vwCl [] s.heap := hP
  have hl := lv_entry ([.ref (sK j)]) (n := 1) (Nat.le_of_ble_eq_true rfl)
  rw [lg_entry_eq]
  generalize (lg_sl ([.ref (sK j)]) ++ List.replicate (1 - (lg_sl ([.ref (sK j)])).length) Slot.unset).toArray = ls at hl ⊢
  have hl : lv_has ls 1 [(0, .ref (sK j))] := hl
  refine lv_aload_n hx hb dJ0_length_8abf5_0 rfl (lv_at hl 0 rfl) ?_
  refine vk_getf hx hb (hSt.1.1 j hj).2.2.1 hS hown (hts (.fieldLink RJ0 9 "java/lang/String" "value" "[B") (by decide +kernel)) (fun _ h9 => h9) dJ0_length_8abf5_1 ?_
  refine va_tlen (v := nI (ftWs j)) hx hb (hSt.1.1 j hj).2.2.2 hS (congrArg Int32.ofNat (ftLe_ws j hj)) dJ0_length_8abf5_4 ?_
  refine lv_aload_n hx hb dJ0_length_8abf5_5 rfl (lv_at hl 0 rfl) ?_
  refine ft_csi (r := 0) (va_runV (C := RJ0) (As := []) (rest := [.int (nI (ftWs j))]) ⟨hx, hb, hml, hown, hts⟩ (c_J0_coder_7d493 l D cI cS sK sV j (by first | assumption | omega)) (cwV 0 hts gJ0_length_8abf5_J0_coder_7d493 rfl rfl rfl (by decide +kernel) ⟨Nat.le_of_ble_eq_true rfl, Nat.le_of_ble_eq_true rfl⟩) (ft_preJ (a := sK j) hP hKK hSt hS (vk_recv hSt.1 (by omega) hS) [] rfl) rfl rfl hl.1 rfl (lv_room (Nat.le_of_ble_eq_true rfl)) dJ0_length_8abf5_6 ⟨Nat.le_of_ble_eq_true rfl, Nat.le_of_ble_eq_true rfl⟩) ?_
  refine lv_ishr hx hb dJ0_length_8abf5_9 ?_
  refine ft_top (y := nI (ftWs j)) (sc_shr0 (Nat.lt_of_le_of_lt (ftWs_le j) (by omega))) ?_
  exact W.iret (v := nI (ftWs j)) hx hb hr (fun t ht hW => ⟨nI (ftWs j), rfl, rfl, ht⟩) (fun _ h9 => absurd h9 List.not_mem_nil) dJ0_length_8abf5_10
set_option maxHeartbeats 4000000 in
set_option maxRecDepth 100000 in
theorem c_J0_isLatin1_aae02 (l : Launch) (D : va_G) (cI cS : ClassId) (sK sV : Nat → Nat) (j : Nat) (hj : j < 6) : Met l yJ0_isLatin1_aae02 wsJ0_isLatin1_aae02 ({ frames := 0, cells := 0, slots := 0, locals := 0 }) (ftROS D cI cS sK sV [.ref (sK j)] []) (vp_Si (fun o9 => o9 = 1)) 0 0 (fun _ => False) := by
  refine ft_ofWF (cc := cJ0_isLatin1_aae02) (maxL := 1) (ret := (some .boolean)) (by decide +kernel) rfl ?_
  intro p e s m args below meth c s₁ B hml hv
  obtain ⟨rfl, hP, hKK, hSt⟩ := hv
  have hS : va_S (fun _ => False) s.heap s.heap [] := va_S.rf
  have hK := hKK.1
  have hx := B.exec
  have hb := B.bytes
  have hr := B.returns
  have hts := atoms_spec (ws := wsJ0_isLatin1_aae02) B.pre
  have hown : s.vm.findClass RJ0 = some m.cls := findClass_of_methodNamed B.named
  have hlocks := B.notSynchronized
  have hP : va_P D vwCl [] s.heap := hP
  have hl := lv_entry ([.ref (sK j)]) (n := 1) (Nat.le_of_ble_eq_true rfl)
  rw [lg_entry_eq]
  generalize (lg_sl ([.ref (sK j)]) ++ List.replicate (1 - (lg_sl ([.ref (sK j)])).length) Slot.unset).toArray = ls at hl ⊢
  have hl : lv_has ls 1 [(0, .ref (sK j))] := hl
  refine va_gets hx hb hSt.2.1 hS hown (hts (.fieldLink RJ0 38 "java/lang/String" "COMPACT_STRINGS" "Z") (by decide +kernel)) (fun _ h9 => h9) dJ0_isLatin1_aae02_0 ?_
  refine lv_if_eq (tgt := 17) hx hb dJ0_isLatin1_aae02_3 (by decide) (fun c3 => ?_) (fun c3 => ?_)
  · exact absurd c3 (by decide)
  · refine lv_aload_n hx hb dJ0_isLatin1_aae02_6 rfl (lv_at hl 0 rfl) ?_
    refine vk_getf hx hb (hSt.1.1 j hj).2.1 hS hown (hts (.fieldLink RJ0 15 "java/lang/String" "coder" "B") (by decide +kernel)) (fun _ h9 => h9) dJ0_isLatin1_aae02_7 ?_
    refine lv_if_ne (tgt := 17) hx hb dJ0_isLatin1_aae02_10 (by decide) (fun c10 => ?_) (fun c10 => ?_)
    · exact absurd rfl c10
    · refine lv_iconst (v := 1) hx hb dJ0_isLatin1_aae02_13 (by decide) ?_
      refine lv_goto (tgt := 18) hx hb dJ0_isLatin1_aae02_14 (by decide) ?_
      exact W.zret (v := 1) hx hb hr (by rfl) (fun t ht hW => ⟨1, rfl, rfl, ht⟩) (fun _ h9 => absurd h9 List.not_mem_nil) dJ0_isLatin1_aae02_18
set_option maxHeartbeats 4000000 in
set_option maxRecDepth 100000 in
theorem c_J3_checkIndex_8e157n (l : Launch) (D : va_G) (cI cS : ClassId) (i n : Nat) (hin : i < n) (hn : n < 1000) : Met l yJ3_checkIndex_8e157 wsJ3_checkIndex_8e157 ({ frames := 1, cells := 0, slots := 0, locals := 30 }) (ftRO D cI cS [.int (nI i), .int (nI n), .null] []) (vp_Si (fun o9 => o9 = nI i)) 0 0 (fun _ => False) := by
  refine ft_ofWF (cc := cJ3_checkIndex_8e157) (maxL := 3) (ret := (some .int)) (by decide +kernel) rfl ?_
  intro p e s m args below meth c s₁ B hml hv
  obtain ⟨rfl, hP, hKK⟩ := hv
  have hK := hKK.1
  have hx := B.exec
  have hb := B.bytes
  have hr := B.returns
  have hts := atoms_spec (ws := wsJ3_checkIndex_8e157) B.pre
  have hown : s.vm.findClass RJ3 = some m.cls := findClass_of_methodNamed B.named
  have hlocks := B.notSynchronized
  have hP : va_P D vwCl [] s.heap := hP
  have hl := lv_entry ([.int (nI i), .int (nI n), .null]) (n := 3) (Nat.le_of_ble_eq_true rfl)
  rw [lg_entry_eq]
  generalize (lg_sl ([.int (nI i), .int (nI n), .null]) ++ List.replicate (3 - (lg_sl ([.int (nI i), .int (nI n), .null])).length) Slot.unset).toArray = ls at hl ⊢
  have hl : lv_has ls 3 [(0, .int (nI i)), (1, .int (nI n)), (2, .null)] := hl
  refine lv_iload_n hx hb dJ3_checkIndex_8e157_0 rfl (lv_at hl 0 rfl) ?_
  refine lv_if_lt (tgt := 9) hx hb dJ3_checkIndex_8e157_1 (by decide) (fun c1 => ?_) (fun c1 => ?_)
  · exact absurd c1 (nI_pos (by omega))
  · refine lv_iload_n hx hb dJ3_checkIndex_8e157_4 rfl (lv_at hl 0 rfl) ?_
    refine lv_iload_n hx hb dJ3_checkIndex_8e157_5 rfl (lv_at hl 1 rfl) ?_
    refine lv_icmp_lt (tgt := 16) hx hb dJ3_checkIndex_8e157_6 (by decide) (fun c6 => ?_) (fun c6 => ?_)
    · have c6n : i < n := ft_ltN (by omega) (by omega) c6
      refine lv_iload_n hx hb dJ3_checkIndex_8e157_16 rfl (lv_at hl 0 rfl) ?_
      exact W.iret (v := nI i) hx hb hr (fun t ht hW => ⟨nI i, rfl, rfl, ht⟩) (fun _ h9 => absurd h9 List.not_mem_nil) dJ3_checkIndex_8e157_17
    · have c6n : n ≤ i := ft_nltN (by omega) (by omega) c6
      exact absurd c6n (by omega)
set_option maxHeartbeats 4000000 in
set_option maxRecDepth 100000 in
theorem c_J3_checkIndex_8e157r (l : Launch) (D : va_G) (cI cS : ClassId) (i n t9 : Nat) (hin : i < n) (hn : n < 1000) : Met l yJ3_checkIndex_8e157 wsJ3_checkIndex_8e157 ({ frames := 1, cells := 0, slots := 0, locals := 30 }) (ftRO D cI cS [.int (nI i), .int (nI n), .ref t9] []) (vp_Si (fun o9 => o9 = nI i)) 0 0 (fun _ => False) := by
  refine ft_ofWF (cc := cJ3_checkIndex_8e157) (maxL := 3) (ret := (some .int)) (by decide +kernel) rfl ?_
  intro p e s m args below meth c s₁ B hml hv
  obtain ⟨rfl, hP, hKK⟩ := hv
  have hK := hKK.1
  have hx := B.exec
  have hb := B.bytes
  have hr := B.returns
  have hts := atoms_spec (ws := wsJ3_checkIndex_8e157) B.pre
  have hown : s.vm.findClass RJ3 = some m.cls := findClass_of_methodNamed B.named
  have hlocks := B.notSynchronized
  have hP : va_P D vwCl [] s.heap := hP
  have hl := lv_entry ([.int (nI i), .int (nI n), .ref t9]) (n := 3) (Nat.le_of_ble_eq_true rfl)
  rw [lg_entry_eq]
  generalize (lg_sl ([.int (nI i), .int (nI n), .ref t9]) ++ List.replicate (3 - (lg_sl ([.int (nI i), .int (nI n), .ref t9])).length) Slot.unset).toArray = ls at hl ⊢
  have hl : lv_has ls 3 [(0, .int (nI i)), (1, .int (nI n)), (2, .ref t9)] := hl
  refine lv_iload_n hx hb dJ3_checkIndex_8e157_0 rfl (lv_at hl 0 rfl) ?_
  refine lv_if_lt (tgt := 9) hx hb dJ3_checkIndex_8e157_1 (by decide) (fun c1 => ?_) (fun c1 => ?_)
  · exact absurd c1 (nI_pos (by omega))
  · refine lv_iload_n hx hb dJ3_checkIndex_8e157_4 rfl (lv_at hl 0 rfl) ?_
    refine lv_iload_n hx hb dJ3_checkIndex_8e157_5 rfl (lv_at hl 1 rfl) ?_
    refine lv_icmp_lt (tgt := 16) hx hb dJ3_checkIndex_8e157_6 (by decide) (fun c6 => ?_) (fun c6 => ?_)
    · have c6n : i < n := ft_ltN (by omega) (by omega) c6
      refine lv_iload_n hx hb dJ3_checkIndex_8e157_16 rfl (lv_at hl 0 rfl) ?_
      exact W.iret (v := nI i) hx hb hr (fun t ht hW => ⟨nI i, rfl, rfl, ht⟩) (fun _ h9 => absurd h9 List.not_mem_nil) dJ3_checkIndex_8e157_17
    · have c6n : n ≤ i := ft_nltN (by omega) (by omega) c6
      exact absurd c6n (by omega)
set_option maxHeartbeats 4000000 in
set_option maxRecDepth 100000 in
theorem c_J0_checkIndex_df160 (l : Launch) (D : va_G) (cI cS : ClassId) (sK sV : Nat → Nat) (i n : Nat) (hin : i < n) (hn : n < 1000) : Met l yJ0_checkIndex_df160 wsJ0_checkIndex_df160 ({ frames := 2, cells := 0, slots := 0, locals := 52 }) (ftROS D cI cS sK sV [.int (nI i), .int (nI n)] []) (ftSv) 0 0 (fun _ => False) := by
  refine ft_ofWF (cc := cJ0_checkIndex_df160) (maxL := 2) (ret := none) (by decide +kernel) rfl ?_
  intro p e s m args below meth c s₁ B hml hv
  obtain ⟨rfl, hP, hKK, hSt⟩ := hv
  have hS : va_S (fun _ => False) s.heap s.heap [] := va_S.rf
  have hK := hKK.1
  have hx := B.exec
  have hb := B.bytes
  have hr := B.returns
  have hts := atoms_spec (ws := wsJ0_checkIndex_df160) B.pre
  have hown : s.vm.findClass RJ0 = some m.cls := findClass_of_methodNamed B.named
  have hlocks := B.notSynchronized
  have hP : va_P D vwCl [] s.heap := hP
  have hl := lv_entry ([.int (nI i), .int (nI n)]) (n := 2) (Nat.le_of_ble_eq_true rfl)
  rw [lg_entry_eq]
  generalize (lg_sl ([.int (nI i), .int (nI n)]) ++ List.replicate (2 - (lg_sl ([.int (nI i), .int (nI n)])).length) Slot.unset).toArray = ls at hl ⊢
  have hl : lv_has ls 2 [(0, .int (nI i)), (1, .int (nI n))] := hl
  refine lv_iload_n hx hb dJ0_checkIndex_df160_0 rfl (lv_at hl 0 rfl) ?_
  refine lv_iload_n hx hb dJ0_checkIndex_df160_1 rfl (lv_at hl 1 rfl) ?_
  rcases hSt.2.2.1 with hz9 | ⟨t9, hz9⟩
  · refine va_gets hx hb hz9 hS hown (hts (.fieldLink RJ0 1053 "jdk/internal/util/Preconditions" "SIOOBE_FORMATTER" "Ljava/util/function/BiFunction;") (by decide +kernel)) (fun _ h9 => h9) dJ0_checkIndex_df160_2 ?_
    refine ft_csi (r := nI i) (va_runS (As := [.int (nI i), .int (nI n), .null]) (rest := []) ⟨hx, hb, hml, hown, hts⟩ (c_J3_checkIndex_8e157n l D cI cS i n (by first | assumption | omega) (by first | assumption | omega)) (va_cwS 3 hts gJ0_checkIndex_df160_J3_checkIndex_8e157 rfl rfl rfl (by decide +kernel) ⟨Nat.le_of_ble_eq_true rfl, Nat.le_of_ble_eq_true rfl⟩) (ft_preRO hP hKK [] rfl) rfl rfl hl.1 rfl (lv_room (Nat.le_of_ble_eq_true rfl)) dJ0_checkIndex_df160_5 ⟨Nat.le_of_ble_eq_true rfl, Nat.le_of_ble_eq_true rfl⟩) ?_
    refine lv_pop hx hb dJ0_checkIndex_df160_8 rfl ?_
    exact W.vret hx hb hr (fun t ht hW => ⟨rfl, ht⟩) (fun _ h9 => absurd h9 List.not_mem_nil) dJ0_checkIndex_df160_9
  · refine va_gets hx hb hz9 hS hown (hts (.fieldLink RJ0 1053 "jdk/internal/util/Preconditions" "SIOOBE_FORMATTER" "Ljava/util/function/BiFunction;") (by decide +kernel)) (fun _ h9 => h9) dJ0_checkIndex_df160_2 ?_
    refine ft_csi (r := nI i) (va_runS (As := [.int (nI i), .int (nI n), .ref t9]) (rest := []) ⟨hx, hb, hml, hown, hts⟩ (c_J3_checkIndex_8e157r l D cI cS i n t9 (by first | assumption | omega) (by first | assumption | omega)) (va_cwS 3 hts gJ0_checkIndex_df160_J3_checkIndex_8e157 rfl rfl rfl (by decide +kernel) ⟨Nat.le_of_ble_eq_true rfl, Nat.le_of_ble_eq_true rfl⟩) (ft_preRO hP hKK [] rfl) rfl rfl hl.1 rfl (lv_room (Nat.le_of_ble_eq_true rfl)) dJ0_checkIndex_df160_5 ⟨Nat.le_of_ble_eq_true rfl, Nat.le_of_ble_eq_true rfl⟩) ?_
    refine lv_pop hx hb dJ0_checkIndex_df160_8 rfl ?_
    exact W.vret hx hb hr (fun t ht hW => ⟨rfl, ht⟩) (fun _ h9 => absurd h9 List.not_mem_nil) dJ0_checkIndex_df160_9
set_option maxHeartbeats 4000000 in
set_option maxRecDepth 100000 in
theorem c_J1_charAt_3b067 (l : Launch) (D : va_G) (cI cS : ClassId) (sK sV : Nat → Nat) (j tq : Nat) (hj : j < 6) (htq : tq < ftWs j) : Met l yJ1_charAt_3b067 wsJ1_charAt_3b067 ({ frames := 3, cells := 0, slots := 0, locals := 73 }) (ftROS D cI cS sK sV [.ref (sV j), .int (nI tq)] []) (vp_Si (fun o9 => o9 = ftLt (nI (100 * j + tq)))) 0 0 (fun _ => False) := by
  refine ft_ofWF (cc := cJ1_charAt_3b067) (maxL := 2) (ret := (some .char)) (by decide +kernel) rfl ?_
  intro p e s m args below meth c s₁ B hml hv
  obtain ⟨rfl, hP, hKK, hSt⟩ := hv
  have hS : va_S (fun _ => False) s.heap s.heap [] := va_S.rf
  have hK := hKK.1
  have hx := B.exec
  have hb := B.bytes
  have hr := B.returns
  have hts := atoms_spec (ws := wsJ1_charAt_3b067) B.pre
  have hown : s.vm.findClass RJ1 = some m.cls := findClass_of_methodNamed B.named
  have hlocks := B.notSynchronized
  have hP : va_P D vwCl [] s.heap := hP
  have hl := lv_entry ([.ref (sV j), .int (nI tq)]) (n := 2) (Nat.le_of_ble_eq_true rfl)
  rw [lg_entry_eq]
  generalize (lg_sl ([.ref (sV j), .int (nI tq)]) ++ List.replicate (2 - (lg_sl ([.ref (sV j), .int (nI tq)])).length) Slot.unset).toArray = ls at hl ⊢
  have hl : lv_has ls 2 [(0, .ref (sV j)), (1, .int (nI tq))] := hl
  have hw11 := ftWs_le j
  have ht8 : tq < ftLe.getD j 0 := by rw [ftLe_ws j hj]; exact htq
  refine lv_iload_n hx hb dJ1_charAt_3b067_0 rfl (lv_at hl 1 rfl) ?_
  refine lv_aload_n hx hb dJ1_charAt_3b067_1 rfl (lv_at hl 0 rfl) ?_
  refine va_tlen (v := nI (ftWs j)) hx hb (hSt.1.1 j hj).2.2.2 hS (congrArg Int32.ofNat (ftLe_ws j hj)) dJ1_charAt_3b067_2 ?_
  refine ft_csv (va_runS (As := [.int (nI tq), .int (nI (ftWs j))]) (rest := []) ⟨hx, hb, hml, hown, hts⟩ (c_J0_checkIndex_df160 l D cI cS sK sV tq (ftWs j) (by first | assumption | omega) (by first | assumption | omega)) (va_cwS 2 hts gJ1_charAt_3b067_J0_checkIndex_df160 rfl rfl rfl (by decide +kernel) ⟨Nat.le_of_ble_eq_true rfl, Nat.le_of_ble_eq_true rfl⟩) (ft_preROS hP hKK hSt hS [] rfl) rfl rfl hl.1 rfl (lv_room (Nat.le_of_ble_eq_true rfl)) dJ1_charAt_3b067_3 ⟨Nat.le_of_ble_eq_true rfl, Nat.le_of_ble_eq_true rfl⟩) ?_
  refine lv_aload_n hx hb dJ1_charAt_3b067_6 rfl (lv_at hl 0 rfl) ?_
  refine lv_iload_n hx hb dJ1_charAt_3b067_7 rfl (lv_at hl 1 rfl) ?_
  refine va_tb hx hb (hSt.1.1 j hj).2.2.2 hS (by rw [ftLe_ws j hj]; exact vp_in_nI htq (by omega)) (v := .int ((ftBy.getD j []).getD tq 0)) (by rw [nI_clamp (by omega)]) dJ1_charAt_3b067_8 ?_
  refine lv_sipush (v := 255) hx hb dJ1_charAt_3b067_9 (by decide) ?_
  refine lv_iand hx hb dJ1_charAt_3b067_12 ?_
  refine lv_i2c (v := ((ftBy.getD j []).getD tq 0) &&& 255) hx hb dJ1_charAt_3b067_13 (ftBy_lt j hj tq ht8).2.1 ?_
  exact W.zret (v := ((ftBy.getD j []).getD tq 0) &&& 255) hx hb hr (by exact (ftBy_lt j hj tq ht8).2.2) (fun t ht hW => ⟨((ftBy.getD j []).getD tq 0) &&& 255, rfl, (by show (((ftBy.getD j []).getD tq 0) &&& 255 : Int32) = ftLt (nI (100 * j + tq)); exact (ftBy_lt j hj tq ht8).1), ht⟩) (fun _ h9 => absurd h9 List.not_mem_nil) dJ1_charAt_3b067_14
set_option maxHeartbeats 4000000 in
set_option maxRecDepth 100000 in
theorem c_J0_charAt_5068e (l : Launch) (D : va_G) (cI cS : ClassId) (sK sV : Nat → Nat) (j tq : Nat) (hj : j < 6) (htq : tq < ftWs j) : Met l yJ0_charAt_5068e wsJ0_charAt_5068e ({ frames := 4, cells := 0, slots := 0, locals := 94 }) (ftROS D cI cS sK sV [.ref (sK j), .int (nI tq)] []) (vp_Si (fun o9 => o9 = ftLt (nI (100 * j + tq)))) 0 0 (fun _ => False) := by
  refine ft_ofWF (cc := cJ0_charAt_5068e) (maxL := 2) (ret := (some .char)) (by decide +kernel) rfl ?_
  intro p e s m args below meth c s₁ B hml hv
  obtain ⟨rfl, hP, hKK, hSt⟩ := hv
  have hS : va_S (fun _ => False) s.heap s.heap [] := va_S.rf
  have hK := hKK.1
  have hx := B.exec
  have hb := B.bytes
  have hr := B.returns
  have hts := atoms_spec (ws := wsJ0_charAt_5068e) B.pre
  have hown : s.vm.findClass RJ0 = some m.cls := findClass_of_methodNamed B.named
  have hlocks := B.notSynchronized
  have hP : va_P D vwCl [] s.heap := hP
  have hl := lv_entry ([.ref (sK j), .int (nI tq)]) (n := 2) (Nat.le_of_ble_eq_true rfl)
  rw [lg_entry_eq]
  generalize (lg_sl ([.ref (sK j), .int (nI tq)]) ++ List.replicate (2 - (lg_sl ([.ref (sK j), .int (nI tq)])).length) Slot.unset).toArray = ls at hl ⊢
  have hl : lv_has ls 2 [(0, .ref (sK j)), (1, .int (nI tq))] := hl
  refine lv_aload_n hx hb dJ0_charAt_5068e_0 rfl (lv_at hl 0 rfl) ?_
  refine ft_csi (r := 1) (va_runV (C := RJ0) (As := []) (rest := []) ⟨hx, hb, hml, hown, hts⟩ (c_J0_isLatin1_aae02 l D cI cS sK sV j (by first | assumption | omega)) (cwV 0 hts gJ0_charAt_5068e_J0_isLatin1_aae02 rfl rfl rfl (by decide +kernel) ⟨Nat.le_of_ble_eq_true rfl, Nat.le_of_ble_eq_true rfl⟩) (ft_preJ (a := sK j) hP hKK hSt hS (vk_recv hSt.1 (by omega) hS) [] rfl) rfl rfl hl.1 rfl (lv_room (Nat.le_of_ble_eq_true rfl)) dJ0_charAt_5068e_1 ⟨Nat.le_of_ble_eq_true rfl, Nat.le_of_ble_eq_true rfl⟩) ?_
  refine lv_if_eq (tgt := 16) hx hb dJ0_charAt_5068e_4 (by decide) (fun c4 => ?_) (fun c4 => ?_)
  · exact absurd c4 (by decide)
  · refine lv_aload_n hx hb dJ0_charAt_5068e_7 rfl (lv_at hl 0 rfl) ?_
    refine vk_getf hx hb (hSt.1.1 j hj).2.2.1 hS hown (hts (.fieldLink RJ0 9 "java/lang/String" "value" "[B") (by decide +kernel)) (fun _ h9 => h9) dJ0_charAt_5068e_8 ?_
    refine lv_iload_n hx hb dJ0_charAt_5068e_11 rfl (lv_at hl 1 rfl) ?_
    refine ft_csi (r := ftLt (nI (100 * j + tq))) (va_runS (As := [.ref (sV j), .int (nI tq)]) (rest := []) ⟨hx, hb, hml, hown, hts⟩ (c_J1_charAt_3b067 l D cI cS sK sV j tq (by first | assumption | omega) (by first | assumption | omega)) (va_cwS 2 hts gJ0_charAt_5068e_J1_charAt_3b067 rfl rfl rfl (by decide +kernel) ⟨Nat.le_of_ble_eq_true rfl, Nat.le_of_ble_eq_true rfl⟩) (ft_preROS hP hKK hSt hS [] rfl) rfl rfl hl.1 rfl (lv_room (Nat.le_of_ble_eq_true rfl)) dJ0_charAt_5068e_12 ⟨Nat.le_of_ble_eq_true rfl, Nat.le_of_ble_eq_true rfl⟩) ?_
    exact W.zret (v := ftLt (nI (100 * j + tq))) hx hb hr (by rw [← (ftBy_lt j hj tq (by rw [ftLe_ws j hj]; exact htq)).1]; exact (ftBy_lt j hj tq (by rw [ftLe_ws j hj]; exact htq)).2.2) (fun t ht hW => ⟨ftLt (nI (100 * j + tq)), rfl, rfl, ht⟩) (fun _ h9 => absurd h9 List.not_mem_nil) dJ0_charAt_5068e_15
set_option maxHeartbeats 4000000 in
set_option maxRecDepth 100000 in
theorem c_X10_att (l : Launch) (D : va_G) (cI cS : ClassId) (sK sV : Nat → Nat) (k : Nat) (i : Int32) (hk : k < 3) : Met l yX10_at wsX10_at ({ frames := 0, cells := 0, slots := 0, locals := 0 }) (ftROS D cI cS sK sV [.ref (sV (6 + k)), .int i] []) (vp_Si (fun o9 => o9 = ftAt 11 (ftTb k) i)) 0 0 (fun _ => False) := by
  refine Met.ofW (cc := cX10_at) (maxL := 2) (ret := (some .int)) (by decide) rfl ?_
  intro p e s m args below meth c s₁ B hml hv
  obtain ⟨rfl, hP, hKK, hSt⟩ := hv
  have hS : va_S (fun _ => False) s.heap s.heap [] := va_S.rf
  have hK := hKK.1
  have hx := B.exec
  have hb := B.bytes
  have hr := B.returns
  have hts := atoms_spec (ws := wsX10_at) B.pre
  have hown : s.vm.findClass RX10 = some m.cls := findClass_of_methodNamed B.named
  have hlocks := B.notSynchronized
  have hP : va_P D vwCl [] s.heap := hP
  have hl := lv_entry ([.ref (sV (6 + k)), .int i]) (n := 2) (Nat.le_of_ble_eq_true rfl)
  rw [lg_entry_eq]
  generalize (lg_sl ([.ref (sV (6 + k)), .int i]) ++ List.replicate (2 - (lg_sl ([.ref (sV (6 + k)), .int i])).length) Slot.unset).toArray = ls at hl ⊢
  have hl : lv_has ls 2 [(0, .ref (sV (6 + k))), (1, .int i)] := hl
  refine lv_aload_n hx hb dX10_at_0 rfl (lv_at hl 0 rfl) ?_
  refine lv_ifnull hx hb dX10_at_1 ?_
  refine lv_iload_n hx hb dX10_at_4 rfl (lv_at hl 1 rfl) ?_
  refine lv_if_lt (tgt := 20) hx hb dX10_at_5 (by decide) (fun c5 => ?_) (fun c5 => ?_)
  · refine lv_iconst (v := 0) hx hb dX10_at_20 (by decide) ?_
    exact W.iret (v := 0) hx hb hr (fun t ht hW => ⟨0, rfl, (by show (0 : Int32) = ftAt 11 (ftTb k) i; first | exact (ftAt_in (ft_in (by omega) c5 c11)).symm | exact (ftAt_out (ft_out (by omega) c5 c11)).symm | exact (ftAt_out (fun q => q (Or.inl c5))).symm), ht⟩) (fun _ h9 => absurd h9 List.not_mem_nil) dX10_at_21
  · refine lv_iload_n hx hb dX10_at_8 rfl (lv_at hl 1 rfl) ?_
    refine lv_aload_n hx hb dX10_at_9 rfl (lv_at hl 0 rfl) ?_
    refine va_tlen (v := nI 11) hx hb (hSt.2.2.2.2.1 k hk) hS rfl dX10_at_10 ?_
    refine lv_icmp_ge (tgt := 20) hx hb dX10_at_11 (by decide) (fun c11 => ?_) (fun c11 => ?_)
    · refine lv_iconst (v := 0) hx hb dX10_at_20 (by decide) ?_
      exact W.iret (v := 0) hx hb hr (fun t ht hW => ⟨0, rfl, (by show (0 : Int32) = ftAt 11 (ftTb k) i; first | exact (ftAt_in (ft_in (by omega) c5 c11)).symm | exact (ftAt_out (ft_out (by omega) c5 c11)).symm | exact (ftAt_out (fun q => q (Or.inl c5))).symm), ht⟩) (fun _ h9 => absurd h9 List.not_mem_nil) dX10_at_21
    · refine lv_aload_n hx hb dX10_at_14 rfl (lv_at hl 0 rfl) ?_
      refine lv_iload_n hx hb dX10_at_15 rfl (lv_at hl 1 rfl) ?_
      refine va_ti hx hb (hSt.2.2.2.2.1 k hk) hS (ft_in (by omega) c5 c11) (v := .int (ftTb k i.toNatClampNeg)) rfl dX10_at_16 ?_
      refine lv_goto (tgt := 21) hx hb dX10_at_17 (by decide) ?_
      exact W.iret (v := ftTb k i.toNatClampNeg) hx hb hr (fun t ht hW => ⟨ftTb k i.toNatClampNeg, rfl, (by show (ftTb k i.toNatClampNeg : Int32) = ftAt 11 (ftTb k) i; first | exact (ftAt_in (ft_in (by omega) c5 c11)).symm | exact (ftAt_out (ft_out (by omega) c5 c11)).symm | exact (ftAt_out (fun q => q (Or.inl c5))).symm), ht⟩) (fun _ h9 => absurd h9 List.not_mem_nil) dX10_at_21
