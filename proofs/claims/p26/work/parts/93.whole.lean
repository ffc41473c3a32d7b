set_option maxHeartbeats 4000000 in
set_option maxRecDepth 100000 in
theorem whole_start {p : Program} {e : Env} {s : State} {m : MethodId} {below : List Frame} {meth : Method} {c : Code} (l : Launch) (hflags : l.flags = flags0) {b L : Nat} {xs : Nat → Int32} (hL : L ≤ 260) (C0 : lw_At p s m meth c b L xs) : W p l e room_1 s m #[Value.ref b] below meth c s.heap [] 0 0 (lw_Z below #[Value.ref b] s) (entryFrame m ([Value.ref b] : List Value).toArray 7) := by
  obtain ⟨hx, hb, hr, hml, hown, hts0, hX, hbl, hlocks, hgv⟩ := id C0
  have hts : ∀ w ∈ wsL_law, w.before #[Value.ref b] s = true := fun w h => hts0 w (wsL_law_in w h)
  have hA : ∀ q : Nat, s.heap.size ≤ q → (fun q : Nat => s.heap.size ≤ q) q := fun _ h => h
  obtain ⟨D, cI, cS, sK, sV, hKK, hSt, hAO⟩ := ft_start hts0 hgv
  have hK := hKK.1
  have hScr := lx_scrT (A := fun q : Nat => s.heap.size ≤ q) hX (Nat.not_le.mpr hbl)
  have hS : va_S (fun q : Nat => s.heap.size ≤ q) s.heap s.heap [] := va_S.rf
  have hP : va_P D vwCl [] s.heap := fun k q h => by simp at h
  have hD : va_D (fun q : Nat => s.heap.size ≤ q) [] := ⟨fun i j p q h => by simp at h, fun k q h => by simp at h⟩
  have hl := lv_entry ([.ref b]) (n := 7) (Nat.le_of_ble_eq_true rfl)
  rw [lg_entry_eq]
  generalize (lg_sl ([.ref b]) ++ List.replicate (7 - (lg_sl ([.ref b])).length) Slot.unset).toArray = ls at hl ⊢
  have hl : lv_has ls 7 [(0, .ref b)] := hl
  generalize hAe : (fun q : Nat => s.heap.size ≤ q) = A at hA hSt hScr hS hD
  refine lv_bipush (v := 12) hx hb dL_law_0 (by decide) ?_
  refine ft_newI (n := 12) (N := 12) hx hb (hts0 (.arrayClass .int) (by decide +kernel)) hKK hP hD hS hA (by decide) rfl (by decide) (Nat.le_of_ble_eq_true rfl) (Nat.le_of_ble_eq_true rfl) dL_law_2 (fun q0 H hP hD hS => ?_)
  refine W.widen (k := 1) (n := 12) (Nat.le_of_ble_eq_true rfl) (Nat.le_of_ble_eq_true rfl) ?_
  refine lv_astore_n (lv' := [(1, .ref q0), (0, .ref b)]) hx hb dL_law_4 rfl hl (by decide) rfl (fun ls hl => ?_)
  refine va_new (ci := 10) (fs := [.null, .null, .null, .null, .null, .null, .null, .null, .null, .null, .int 0]) (C := RX10) (T := TX10) (N := 11) hx hb hts0 inX10 tyX10 tyX10_ok hown (hts0 (.classLink RL 10 RX10) (by decide +kernel)) (hts0 (.instantiable RX10 11) (by decide +kernel)) (hts0 (.initialized RX10) (by decide +kernel)) hK hP hD hS hA rfl nwX10 (Nat.le_of_ble_eq_true rfl) (Nat.le_of_ble_eq_true rfl) dL_law_5 (fun q5 H hP hD hS => ?_)
  refine W.widen (k := 2) (n := 23) (Nat.le_of_ble_eq_true rfl) (Nat.le_of_ble_eq_true rfl) ?_
  refine lv_dup hx hb dL_law_8 rfl ?_
  generalize hX5 : ([(q0, .inl (cI, 12, .inl (fun _ => 0)))] : va_W) = X5 at hP hD
  refine ft_newc (ws := X5) (x := (q5, .inr (10, [.null, .null, .null, .null, .null, .null, .null, .null, .null, .null, .int 0]))) (S := Nat → Nat → Nat) (w1 := fun (A5 : Nat → Nat → Nat) => [(q5, .inr (10, [.ref (A5 0 0), .ref (A5 0 1), .ref (A5 0 2), .ref (A5 0 3), .ref (A5 0 4), .ref (A5 0 5), .ref (A5 0 6), .ref (A5 0 7), .ref (A5 0 8), .ref (A5 0 9), .int 0])), (A5 0 0, .inr (8, [.ref (A5 1 0), .ref (A5 1 5), .int 0])), (A5 1 0, .inr (4, [.int 200, .int 10, .int 12000, .int 0, .ref (A5 1 1), .ref (A5 1 2), .ref (A5 1 3), .ref (A5 1 4)])), (A5 1 1, .inl (cI, 10, .inl (fun _ => 0))), (A5 1 2, .inl (cI, 10, .inl (fun _ => 0))), (A5 1 3, .inl (cI, 10, .inl (fun _ => 0))), (A5 1 4, .inl (cI, 10, .inl (fun _ => 0))), (A5 1 5, .inl (cI, 11, .inl (va_cpy (ftTb 2) (fun _ => 0) 0 0 11))), (A5 0 1, .inr (2, [.ref (A5 17 0), .int 0, .int 0])), (A5 17 0, .inl (cS, 5, .inr (.inr (.inr (.inr (fun t => some (A5 10 t))))))), (A5 10 0, .inr (8, [.ref (A5 11 0), .ref (A5 16 0), .int 0])), (A5 11 0, .inr (4, [.int 200, .int 10, .int 12000, .int 0, .ref (A5 12 0), .ref (A5 13 0), .ref (A5 14 0), .ref (A5 15 0)])), (A5 12 0, .inl (cI, 10, .inl (fun _ => 0))), (A5 13 0, .inl (cI, 10, .inl (fun _ => 0))), (A5 14 0, .inl (cI, 10, .inl (fun _ => 0))), (A5 15 0, .inl (cI, 10, .inl (fun _ => 0))), (A5 16 0, .inl (cI, 11, .inl (va_cpy (ftTb 2) (fun _ => 0) 0 0 11))), (A5 10 1, .inr (8, [.ref (A5 11 1), .ref (A5 16 1), .int 0])), (A5 11 1, .inr (4, [.int 200, .int 10, .int 12000, .int 0, .ref (A5 12 1), .ref (A5 13 1), .ref (A5 14 1), .ref (A5 15 1)])), (A5 12 1, .inl (cI, 10, .inl (fun _ => 0))), (A5 13 1, .inl (cI, 10, .inl (fun _ => 0))), (A5 14 1, .inl (cI, 10, .inl (fun _ => 0))), (A5 15 1, .inl (cI, 10, .inl (fun _ => 0))), (A5 16 1, .inl (cI, 11, .inl (va_cpy (ftTb 2) (fun _ => 0) 0 0 11))), (A5 10 2, .inr (8, [.ref (A5 11 2), .ref (A5 16 2), .int 0])), (A5 11 2, .inr (4, [.int 200, .int 10, .int 12000, .int 0, .ref (A5 12 2), .ref (A5 13 2), .ref (A5 14 2), .ref (A5 15 2)])), (A5 12 2, .inl (cI, 10, .inl (fun _ => 0))), (A5 13 2, .inl (cI, 10, .inl (fun _ => 0))), (A5 14 2, .inl (cI, 10, .inl (fun _ => 0))), (A5 15 2, .inl (cI, 10, .inl (fun _ => 0))), (A5 16 2, .inl (cI, 11, .inl (va_cpy (ftTb 2) (fun _ => 0) 0 0 11))), (A5 10 3, .inr (8, [.ref (A5 11 3), .ref (A5 16 3), .int 0])), (A5 11 3, .inr (4, [.int 200, .int 10, .int 12000, .int 0, .ref (A5 12 3), .ref (A5 13 3), .ref (A5 14 3), .ref (A5 15 3)])), (A5 12 3, .inl (cI, 10, .inl (fun _ => 0))), (A5 13 3, .inl (cI, 10, .inl (fun _ => 0))), (A5 14 3, .inl (cI, 10, .inl (fun _ => 0))), (A5 15 3, .inl (cI, 10, .inl (fun _ => 0))), (A5 16 3, .inl (cI, 11, .inl (va_cpy (ftTb 2) (fun _ => 0) 0 0 11))), (A5 10 4, .inr (8, [.ref (A5 11 4), .ref (A5 16 4), .int 0])), (A5 11 4, .inr (4, [.int 200, .int 10, .int 12000, .int 0, .ref (A5 12 4), .ref (A5 13 4), .ref (A5 14 4), .ref (A5 15 4)])), (A5 12 4, .inl (cI, 10, .inl (fun _ => 0))), (A5 13 4, .inl (cI, 10, .inl (fun _ => 0))), (A5 14 4, .inl (cI, 10, .inl (fun _ => 0))), (A5 15 4, .inl (cI, 10, .inl (fun _ => 0))), (A5 16 4, .inl (cI, 11, .inl (va_cpy (ftTb 2) (fun _ => 0) 0 0 11))), (A5 0 2, .inr (5, [.ref (A5 3 0), .ref (A5 3 1), .ref (A5 3 2), .ref (A5 3 3), .int 0, .int 0, .int 0, .int 0, .int 0])), (A5 3 0, .inl (cI, 120, .inl (fun _ => 0))), (A5 3 1, .inl (cI, 3, .inl (fun _ => 0))), (A5 3 2, .inl (cI, 3, .inl (fun _ => 0))), (A5 3 3, .inr (4, [.int 200, .int 10, .int 12000, .int 0, .ref (A5 3 4), .ref (A5 3 5), .ref (A5 3 6), .ref (A5 3 7)])), (A5 3 4, .inl (cI, 10, .inl (fun _ => 0))), (A5 3 5, .inl (cI, 10, .inl (fun _ => 0))), (A5 3 6, .inl (cI, 10, .inl (fun _ => 0))), (A5 3 7, .inl (cI, 10, .inl (fun _ => 0))), (A5 0 3, .inr (3, [.ref (A5 4 0), .ref (A5 4 1)])), (A5 4 0, .inl (cI, 3680, .inl (fun _ => 0))), (A5 4 1, .inl (cI, 8, .inl (fun _ => 0))), (A5 0 4, .inr (0, [.int 0, .int 0, .int 0, .int 0])), (A5 0 5, .inr (6, [.int 0, .int 0])), (A5 0 6, .inr (1, [.ref (A5 6 0), .ref (A5 6 1), .int 0, .ref (A5 6 2), .ref (A5 6 3), .ref (A5 6 4), .int 0])), (A5 6 0, .inl (cI, 11, .inl (fun _ => 0))), (A5 6 1, .inl (cI, 11, .inl (fun _ => 0))), (A5 6 2, .inl (cI, 55, .inl (fun _ => 0))), (A5 6 3, .inl (cI, 55, .inl (fun _ => 0))), (A5 6 4, .inl (cI, 55, .inl (fun _ => 0))), (A5 0 7, .inr (9, [.ref (A5 7 0), .ref (A5 7 1), .ref (A5 7 2), .ref (A5 7 3), .int 0, .int 0, .int 0, .int 0, .int 0])), (A5 7 0, .inl (cI, 460, .inl (fun _ => 0))), (A5 7 1, .inl (cI, 460, .inl (fun _ => 0))), (A5 7 2, .inl (cI, 460, .inl (fun _ => 0))), (A5 7 3, .inl (cI, 460, .inl (fun _ => 0))), (A5 0 8, .inr (7, [.ref (A5 8 0), .ref (A5 8 1), .ref (A5 8 2), .ref (A5 8 3), .ref (A5 8 4), .ref (A5 8 5), .ref (A5 8 6), .ref (A5 8 7), .int 0, .int 0])), (A5 8 0, .inl (cI, 30, .inl (fun _ => 0))), (A5 8 1, .inl (cI, 30, .inl (fun _ => 0))), (A5 8 2, .inl (cI, 30, .inl (fun _ => 0))), (A5 8 3, .inl (cI, 30, .inl (fun _ => 0))), (A5 8 4, .inl (cI, 30, .inl (fun _ => 0))), (A5 8 5, .inl (cI, 30, .inl (fun _ => 0))), (A5 8 6, .inl (cI, 30, .inl (fun _ => 0))), (A5 8 7, .inl (cI, 30, .inl (fun _ => 0))), (A5 0 9, .inl (cI, 11, .inl (fun _ => 0)))]) (va_runI (As := []) (rest := [.ref q5]) ⟨hx, hb, hml, hown, hts⟩ (c_X10_init l D cI cS H.size sK sV q5) (cwI 0 hts gL_law_X10_init rfl rfl rfl (hts0 (.initialized RX10) (by decide +kernel)) (hts0 (.methodLink RL 93 yX10_init) (by decide +kernel)) (hts0 (.instanceMethod yX10_init) (by decide +kernel)) rfl (by decide +kernel) ⟨Nat.le_of_ble_eq_true rfl, Nat.le_of_ble_eq_true rfl⟩) (ft_preNA hP hD hKK hSt hAO hS hA) rfl rfl hl.1 rfl (lv_room (Nat.le_of_ble_eq_true rfl)) dL_law_9 ⟨Nat.le_of_ble_eq_true rfl, Nat.le_of_ble_eq_true rfl⟩) hP hD hS hA (fun A5 _ H locs hP hD hS => ?_)
  refine W.widen (k := 81) (n := 6586) (Nat.le_of_ble_eq_true rfl) (Nat.le_of_ble_eq_true rfl) ?_
  rw [← hX5] at hP hD
  have hP : va_P D vwCl ([(q0, .inl (cI, 12, .inl (fun _ => 0)))] ++ ftCB9 cI cS q5 A5 (ftC0.1.2.1 0) ftC0) H := hP
  have hD : va_D A ([(q0, .inl (cI, 12, .inl (fun _ => 0)))] ++ ftCB9 cI cS q5 A5 (ftC0.1.2.1 0) ftC0) := hD
  refine lv_astore_n (lv' := [(2, .ref q5), (1, .ref q0), (0, .ref b)]) hx hb dL_law_12 rfl hl (by decide) rfl (fun ls hl => ?_)
  refine va_new (ci := 10) (fs := [.null, .null, .null, .null, .null, .null, .null, .null, .null, .null, .int 0]) (C := RX10) (T := TX10) (N := 11) hx hb hts0 inX10 tyX10 tyX10_ok hown (hts0 (.classLink RL 10 RX10) (by decide +kernel)) (hts0 (.instantiable RX10 11) (by decide +kernel)) (hts0 (.initialized RX10) (by decide +kernel)) hK hP hD hS hA rfl nwX10 (Nat.le_of_ble_eq_true rfl) (Nat.le_of_ble_eq_true rfl) dL_law_13 (fun q13 H hP hD hS => ?_)
  refine W.widen (k := 82) (n := 6597) (Nat.le_of_ble_eq_true rfl) (Nat.le_of_ble_eq_true rfl) ?_
  refine lv_dup hx hb dL_law_16 rfl ?_
  generalize hX13 : ([(q0, .inl (cI, 12, .inl (fun _ => 0)))] ++ ftCB9 cI cS q5 A5 (ftC0.1.2.1 0) ftC0 : va_W) = X13 at hP hD
  refine ft_newc (ws := X13) (x := (q13, .inr (10, [.null, .null, .null, .null, .null, .null, .null, .null, .null, .null, .int 0]))) (S := Nat → Nat → Nat) (w1 := fun (A13 : Nat → Nat → Nat) => [(q13, .inr (10, [.ref (A13 0 0), .ref (A13 0 1), .ref (A13 0 2), .ref (A13 0 3), .ref (A13 0 4), .ref (A13 0 5), .ref (A13 0 6), .ref (A13 0 7), .ref (A13 0 8), .ref (A13 0 9), .int 0])), (A13 0 0, .inr (8, [.ref (A13 1 0), .ref (A13 1 5), .int 0])), (A13 1 0, .inr (4, [.int 200, .int 10, .int 12000, .int 0, .ref (A13 1 1), .ref (A13 1 2), .ref (A13 1 3), .ref (A13 1 4)])), (A13 1 1, .inl (cI, 10, .inl (fun _ => 0))), (A13 1 2, .inl (cI, 10, .inl (fun _ => 0))), (A13 1 3, .inl (cI, 10, .inl (fun _ => 0))), (A13 1 4, .inl (cI, 10, .inl (fun _ => 0))), (A13 1 5, .inl (cI, 11, .inl (va_cpy (ftTb 2) (fun _ => 0) 0 0 11))), (A13 0 1, .inr (2, [.ref (A13 17 0), .int 0, .int 0])), (A13 17 0, .inl (cS, 5, .inr (.inr (.inr (.inr (fun t => some (A13 10 t))))))), (A13 10 0, .inr (8, [.ref (A13 11 0), .ref (A13 16 0), .int 0])), (A13 11 0, .inr (4, [.int 200, .int 10, .int 12000, .int 0, .ref (A13 12 0), .ref (A13 13 0), .ref (A13 14 0), .ref (A13 15 0)])), (A13 12 0, .inl (cI, 10, .inl (fun _ => 0))), (A13 13 0, .inl (cI, 10, .inl (fun _ => 0))), (A13 14 0, .inl (cI, 10, .inl (fun _ => 0))), (A13 15 0, .inl (cI, 10, .inl (fun _ => 0))), (A13 16 0, .inl (cI, 11, .inl (va_cpy (ftTb 2) (fun _ => 0) 0 0 11))), (A13 10 1, .inr (8, [.ref (A13 11 1), .ref (A13 16 1), .int 0])), (A13 11 1, .inr (4, [.int 200, .int 10, .int 12000, .int 0, .ref (A13 12 1), .ref (A13 13 1), .ref (A13 14 1), .ref (A13 15 1)])), (A13 12 1, .inl (cI, 10, .inl (fun _ => 0))), (A13 13 1, .inl (cI, 10, .inl (fun _ => 0))), (A13 14 1, .inl (cI, 10, .inl (fun _ => 0))), (A13 15 1, .inl (cI, 10, .inl (fun _ => 0))), (A13 16 1, .inl (cI, 11, .inl (va_cpy (ftTb 2) (fun _ => 0) 0 0 11))), (A13 10 2, .inr (8, [.ref (A13 11 2), .ref (A13 16 2), .int 0])), (A13 11 2, .inr (4, [.int 200, .int 10, .int 12000, .int 0, .ref (A13 12 2), .ref (A13 13 2), .ref (A13 14 2), .ref (A13 15 2)])), (A13 12 2, .inl (cI, 10, .inl (fun _ => 0))), (A13 13 2, .inl (cI, 10, .inl (fun _ => 0))), (A13 14 2, .inl (cI, 10, .inl (fun _ => 0))), (A13 15 2, .inl (cI, 10, .inl (fun _ => 0))), (A13 16 2, .inl (cI, 11, .inl (va_cpy (ftTb 2) (fun _ => 0) 0 0 11))), (A13 10 3, .inr (8, [.ref (A13 11 3), .ref (A13 16 3), .int 0])), (A13 11 3, .inr (4, [.int 200, .int 10, .int 12000, .int 0, .ref (A13 12 3), .ref (A13 13 3), .ref (A13 14 3), .ref (A13 15 3)])), (A13 12 3, .inl (cI, 10, .inl (fun _ => 0))), (A13 13 3, .inl (cI, 10, .inl (fun _ => 0))), (A13 14 3, .inl (cI, 10, .inl (fun _ => 0))), (A13 15 3, .inl (cI, 10, .inl (fun _ => 0))), (A13 16 3, .inl (cI, 11, .inl (va_cpy (ftTb 2) (fun _ => 0) 0 0 11))), (A13 10 4, .inr (8, [.ref (A13 11 4), .ref (A13 16 4), .int 0])), (A13 11 4, .inr (4, [.int 200, .int 10, .int 12000, .int 0, .ref (A13 12 4), .ref (A13 13 4), .ref (A13 14 4), .ref (A13 15 4)])), (A13 12 4, .inl (cI, 10, .inl (fun _ => 0))), (A13 13 4, .inl (cI, 10, .inl (fun _ => 0))), (A13 14 4, .inl (cI, 10, .inl (fun _ => 0))), (A13 15 4, .inl (cI, 10, .inl (fun _ => 0))), (A13 16 4, .inl (cI, 11, .inl (va_cpy (ftTb 2) (fun _ => 0) 0 0 11))), (A13 0 2, .inr (5, [.ref (A13 3 0), .ref (A13 3 1), .ref (A13 3 2), .ref (A13 3 3), .int 0, .int 0, .int 0, .int 0, .int 0])), (A13 3 0, .inl (cI, 120, .inl (fun _ => 0))), (A13 3 1, .inl (cI, 3, .inl (fun _ => 0))), (A13 3 2, .inl (cI, 3, .inl (fun _ => 0))), (A13 3 3, .inr (4, [.int 200, .int 10, .int 12000, .int 0, .ref (A13 3 4), .ref (A13 3 5), .ref (A13 3 6), .ref (A13 3 7)])), (A13 3 4, .inl (cI, 10, .inl (fun _ => 0))), (A13 3 5, .inl (cI, 10, .inl (fun _ => 0))), (A13 3 6, .inl (cI, 10, .inl (fun _ => 0))), (A13 3 7, .inl (cI, 10, .inl (fun _ => 0))), (A13 0 3, .inr (3, [.ref (A13 4 0), .ref (A13 4 1)])), (A13 4 0, .inl (cI, 3680, .inl (fun _ => 0))), (A13 4 1, .inl (cI, 8, .inl (fun _ => 0))), (A13 0 4, .inr (0, [.int 0, .int 0, .int 0, .int 0])), (A13 0 5, .inr (6, [.int 0, .int 0])), (A13 0 6, .inr (1, [.ref (A13 6 0), .ref (A13 6 1), .int 0, .ref (A13 6 2), .ref (A13 6 3), .ref (A13 6 4), .int 0])), (A13 6 0, .inl (cI, 11, .inl (fun _ => 0))), (A13 6 1, .inl (cI, 11, .inl (fun _ => 0))), (A13 6 2, .inl (cI, 55, .inl (fun _ => 0))), (A13 6 3, .inl (cI, 55, .inl (fun _ => 0))), (A13 6 4, .inl (cI, 55, .inl (fun _ => 0))), (A13 0 7, .inr (9, [.ref (A13 7 0), .ref (A13 7 1), .ref (A13 7 2), .ref (A13 7 3), .int 0, .int 0, .int 0, .int 0, .int 0])), (A13 7 0, .inl (cI, 460, .inl (fun _ => 0))), (A13 7 1, .inl (cI, 460, .inl (fun _ => 0))), (A13 7 2, .inl (cI, 460, .inl (fun _ => 0))), (A13 7 3, .inl (cI, 460, .inl (fun _ => 0))), (A13 0 8, .inr (7, [.ref (A13 8 0), .ref (A13 8 1), .ref (A13 8 2), .ref (A13 8 3), .ref (A13 8 4), .ref (A13 8 5), .ref (A13 8 6), .ref (A13 8 7), .int 0, .int 0])), (A13 8 0, .inl (cI, 30, .inl (fun _ => 0))), (A13 8 1, .inl (cI, 30, .inl (fun _ => 0))), (A13 8 2, .inl (cI, 30, .inl (fun _ => 0))), (A13 8 3, .inl (cI, 30, .inl (fun _ => 0))), (A13 8 4, .inl (cI, 30, .inl (fun _ => 0))), (A13 8 5, .inl (cI, 30, .inl (fun _ => 0))), (A13 8 6, .inl (cI, 30, .inl (fun _ => 0))), (A13 8 7, .inl (cI, 30, .inl (fun _ => 0))), (A13 0 9, .inl (cI, 11, .inl (fun _ => 0)))]) (va_runI (As := []) (rest := [.ref q13]) ⟨hx, hb, hml, hown, hts⟩ (c_X10_init l D cI cS H.size sK sV q13) (cwI 0 hts gL_law_X10_init rfl rfl rfl (hts0 (.initialized RX10) (by decide +kernel)) (hts0 (.methodLink RL 93 yX10_init) (by decide +kernel)) (hts0 (.instanceMethod yX10_init) (by decide +kernel)) rfl (by decide +kernel) ⟨Nat.le_of_ble_eq_true rfl, Nat.le_of_ble_eq_true rfl⟩) (ft_preNA hP hD hKK hSt hAO hS hA) rfl rfl hl.1 rfl (lv_room (Nat.le_of_ble_eq_true rfl)) dL_law_17 ⟨Nat.le_of_ble_eq_true rfl, Nat.le_of_ble_eq_true rfl⟩) hP hD hS hA (fun A13 _ H locs hP hD hS => ?_)
  refine W.widen (k := 600000) (n := 7302250) (Nat.le_of_ble_eq_true rfl) (Nat.le_of_ble_eq_true rfl) ?_
  rw [← hX13] at hP hD
  rw [List.append_assoc] at hP hD
  have hP : va_P D vwCl ([(q0, .inl (cI, 12, .inl (fun _ => 0)))] ++ (ftCB9 cI cS q5 A5 (ftC0.1.2.1 0) ftC0 ++ ftCB9 cI cS q13 A13 (ftC0.1.2.1 0) ftC0)) H := hP
  have hD : va_D A ([(q0, .inl (cI, 12, .inl (fun _ => 0)))] ++ (ftCB9 cI cS q5 A5 (ftC0.1.2.1 0) ftC0 ++ ftCB9 cI cS q13 A13 (ftC0.1.2.1 0) ftC0)) := hD
  refine lv_astore_n (lv' := [(3, .ref q13), (2, .ref q5), (1, .ref q0), (0, .ref b)]) hx hb dL_law_20 rfl hl (by decide) rfl (fun ls hl => ?_)
  have hO := lxO_st
  have hQ := lxQ_st
  refine lv_aload_n hx hb dL_law_21 rfl (lv_at hl 1 rfl) ?_
  refine lv_iconst (v := 0) hx hb dL_law_22 (by decide) ?_
  refine ft_callB (X := (ftCB9 cI cS q5 A5 (ftC0.1.2.1 0) ftC0)) (Y := ([(q0, .inl (cI, 12, .inl (fun _ => 0)))] ++ ftCB9 cI cS q13 A13 (ftC0.1.2.1 0) ftC0)) (X1 := fun (u23 : ftCdT) => (ftCB9 cI cS q5 A5 (u23.1.2.1 0) u23)) (ws1 := fun (u23 : ftCdT) => ([(q0, .inl (cI, 12, .inl (fun _ => 0)))] ++ (ftCB9 cI cS q5 A5 (u23.1.2.1 0) u23 ++ ftCB9 cI cS q13 A13 (ftC0.1.2.1 0) ftC0))) (va_runV (C := RX10) (As := [.int 0]) (rest := []) ⟨hx, hb, hml, hown, hts⟩ (eo_fault l D cI cS H.size sK sV q5 A5 ftC0 0 ftW0 ftZr 0 (fun _ => 0) 0 0 (by omega) hO) (cwV 1 hts gL_law_X10_fault rfl rfl rfl (by decide +kernel) ⟨Nat.le_of_ble_eq_true rfl, Nat.le_of_ble_eq_true rfl⟩) (ft_preB (ci := 10) (List.perm_append_comm_assoc _ _ _) hP hD hKK hSt hS hA rfl rfl) rfl rfl hl.1 rfl (lv_room (Nat.le_of_ble_eq_true rfl)) dL_law_23 ⟨Nat.le_of_ble_eq_true rfl, Nat.le_of_ble_eq_true rfl⟩) hP hD hS hA (List.perm_append_comm_assoc _ _ _) (fun _ => (List.Perm.symm (List.perm_append_comm_assoc _ _ _))) (fun r23 u23 h23 H locs hP hD hS => ?_)
  have hP : va_P D vwCl ([(q0, .inl (cI, 12, .inl (fun _ => 0)))] ++ (ftCB9 cI cS q5 A5 (u23.1.2.1 0) u23 ++ ftCB9 cI cS q13 A13 (ftC0.1.2.1 0) ftC0)) H := hP
  have hD : va_D A ([(q0, .inl (cI, 12, .inl (fun _ => 0)))] ++ (ftCB9 cI cS q5 A5 (u23.1.2.1 0) u23 ++ ftCB9 cI cS q13 A13 (ftC0.1.2.1 0) ftC0)) := hD
  obtain ⟨hr23, hO⟩ := h23
  have e23 : r23 = (-1000004) := lx_faO hr23 ⟨by decide, by decide⟩ (lx_par0 _)
  subst e23
  refine lv_ldc (v := (-1000004)) hx hb hown (hts (.constant RL 70 (-1000004)) (by decide +kernel)) dL_law_26 ?_
  refine lv_icmp_ne (tgt := 80) hx hb dL_law_28 (by decide) (fun c28 => ?_) (fun c28 => ?_)
  · exact absurd (by decide) c28
  · refine lv_aload_n hx hb dL_law_31 rfl (lv_at hl 1 rfl) ?_
    refine ft_callB (X := (ftCB9 cI cS q5 A5 (u23.1.2.1 0) u23)) (Y := ([(q0, .inl (cI, 12, .inl (fun _ => 0)))] ++ ftCB9 cI cS q13 A13 (ftC0.1.2.1 0) ftC0)) (X1 := fun (u32 : ftCdT) => (ftCB9 cI cS q5 A5 (u32.1.2.1 0) u32)) (ws1 := fun (u32 : ftCdT) => ([(q0, .inl (cI, 12, .inl (fun _ => 0)))] ++ (ftCB9 cI cS q5 A5 (u32.1.2.1 0) u32 ++ ftCB9 cI cS q13 A13 (ftC0.1.2.1 0) ftC0))) (va_runV (C := RX10) (As := []) (rest := []) ⟨hx, hb, hml, hown, hts⟩ (eo_lay l D cI cS H.size sK sV q5 A5 u23 0 ftW0 ftZr 0 (fun _ => 0) 0 (by omega) hO (lx_par0 _)) (cwV 0 hts gL_law_X10_lay rfl rfl rfl (by decide +kernel) ⟨Nat.le_of_ble_eq_true rfl, Nat.le_of_ble_eq_true rfl⟩) (ft_preB (ci := 10) (List.perm_append_comm_assoc _ _ _) hP hD hKK hSt hS hA rfl rfl) rfl rfl hl.1 rfl (lv_room (Nat.le_of_ble_eq_true rfl)) dL_law_32 ⟨Nat.le_of_ble_eq_true rfl, Nat.le_of_ble_eq_true rfl⟩) hP hD hS hA (List.perm_append_comm_assoc _ _ _) (fun _ => (List.Perm.symm (List.perm_append_comm_assoc _ _ _))) (fun r32 u32 h32 H locs hP hD hS => ?_)
    have hP : va_P D vwCl ([(q0, .inl (cI, 12, .inl (fun _ => 0)))] ++ (ftCB9 cI cS q5 A5 (u32.1.2.1 0) u32 ++ ftCB9 cI cS q13 A13 (ftC0.1.2.1 0) ftC0)) H := hP
    have hD : va_D A ([(q0, .inl (cI, 12, .inl (fun _ => 0)))] ++ (ftCB9 cI cS q5 A5 (u32.1.2.1 0) u32 ++ ftCB9 cI cS q13 A13 (ftC0.1.2.1 0) ftC0)) := hD
    obtain ⟨hr32, hO⟩ := h32
    subst hr32
    refine ft_top (y := 0) (congrArg nI (show ftCN (ftMd0 (fun _ => 0)) = 0 from rfl)) ?_
    refine lv_if_ne (tgt := 80) hx hb dL_law_35 (by decide) (fun c35 => ?_) (fun c35 => ?_)
    · exact absurd rfl c35
    · refine lv_aload_n hx hb dL_law_38 rfl (lv_at hl 1 rfl) ?_
      refine ft_callB (X := (ftCB9 cI cS q5 A5 (u32.1.2.1 0) u32)) (Y := ([(q0, .inl (cI, 12, .inl (fun _ => 0)))] ++ ftCB9 cI cS q13 A13 (ftC0.1.2.1 0) ftC0)) (X1 := fun (u39 : ftCdT) => (ftCB9 cI cS q5 A5 (u39.1.2.1 0) u39)) (ws1 := fun (u39 : ftCdT) => ([(q0, .inl (cI, 12, .inl (fun _ => 0)))] ++ (ftCB9 cI cS q5 A5 (u39.1.2.1 0) u39 ++ ftCB9 cI cS q13 A13 (ftC0.1.2.1 0) ftC0))) (va_runV (C := RX10) (As := []) (rest := []) ⟨hx, hb, hml, hown, hts⟩ (eo_undo l D cI cS H.size sK sV q5 A5 u32 0 (ftLayW ftW0 (ftMd0 (fun _ => 0))) (ftPush ftW0 ftZr 0) (min (0 + 1) 5) (fun _ => 0) 0 (by omega) hO (by decide)) (cwV 0 hts gL_law_X10_undo rfl rfl rfl (by decide +kernel) ⟨Nat.le_of_ble_eq_true rfl, Nat.le_of_ble_eq_true rfl⟩) (ft_preB (ci := 10) (List.perm_append_comm_assoc _ _ _) hP hD hKK hSt hS hA rfl rfl) rfl rfl hl.1 rfl (lv_room (Nat.le_of_ble_eq_true rfl)) dL_law_39 ⟨Nat.le_of_ble_eq_true rfl, Nat.le_of_ble_eq_true rfl⟩) hP hD hS hA (List.perm_append_comm_assoc _ _ _) (fun _ => (List.Perm.symm (List.perm_append_comm_assoc _ _ _))) (fun r39 u39 h39 H locs hP hD hS => ?_)
      have hP : va_P D vwCl ([(q0, .inl (cI, 12, .inl (fun _ => 0)))] ++ (ftCB9 cI cS q5 A5 (u39.1.2.1 0) u39 ++ ftCB9 cI cS q13 A13 (ftC0.1.2.1 0) ftC0)) H := hP
      have hD : va_D A ([(q0, .inl (cI, 12, .inl (fun _ => 0)))] ++ (ftCB9 cI cS q5 A5 (u39.1.2.1 0) u39 ++ ftCB9 cI cS q13 A13 (ftC0.1.2.1 0) ftC0)) := hD
      obtain ⟨hr39, hO⟩ := h39
      subst hr39
      refine ft_top (y := 0) rfl ?_
      have hO := lx_undo hO (by omega) (fun t ht => ftLay_hi (by omega))
      refine lv_if_ne (tgt := 80) hx hb dL_law_42 (by decide) (fun c42 => ?_) (fun c42 => ?_)
      · exact absurd rfl c42
      · refine lv_aload_n hx hb dL_law_45 rfl (lv_at hl 1 rfl) ?_
        refine ft_callB (X := (ftCB9 cI cS q5 A5 (u39.1.2.1 0) u39)) (Y := ([(q0, .inl (cI, 12, .inl (fun _ => 0)))] ++ ftCB9 cI cS q13 A13 (ftC0.1.2.1 0) ftC0)) (X1 := fun (u46 : ftCdT) => (ftCB9 cI cS q5 A5 (u46.1.2.1 0) u46)) (ws1 := fun (u46 : ftCdT) => ([(q0, .inl (cI, 12, .inl (fun _ => 0)))] ++ (ftCB9 cI cS q5 A5 (u46.1.2.1 0) u46 ++ ftCB9 cI cS q13 A13 (ftC0.1.2.1 0) ftC0))) (va_runV (C := RX10) (As := []) (rest := []) ⟨hx, hb, hml, hown, hts⟩ (eo_undoN l D cI cS H.size sK sV q5 A5 u39 0 ftW0 (ftPush ftW0 ftZr 0) ((min (0 + 1) 5) - 1) (fun _ => 0) 0 (by omega) hO (by decide)) (cwV 0 hts gL_law_X10_undo rfl rfl rfl (by decide +kernel) ⟨Nat.le_of_ble_eq_true rfl, Nat.le_of_ble_eq_true rfl⟩) (ft_preB (ci := 10) (List.perm_append_comm_assoc _ _ _) hP hD hKK hSt hS hA rfl rfl) rfl rfl hl.1 rfl (lv_room (Nat.le_of_ble_eq_true rfl)) dL_law_46 ⟨Nat.le_of_ble_eq_true rfl, Nat.le_of_ble_eq_true rfl⟩) hP hD hS hA (List.perm_append_comm_assoc _ _ _) (fun _ => (List.Perm.symm (List.perm_append_comm_assoc _ _ _))) (fun r46 u46 h46 H locs hP hD hS => ?_)
        have hP : va_P D vwCl ([(q0, .inl (cI, 12, .inl (fun _ => 0)))] ++ (ftCB9 cI cS q5 A5 (u46.1.2.1 0) u46 ++ ftCB9 cI cS q13 A13 (ftC0.1.2.1 0) ftC0)) H := hP
        have hD : va_D A ([(q0, .inl (cI, 12, .inl (fun _ => 0)))] ++ (ftCB9 cI cS q5 A5 (u46.1.2.1 0) u46 ++ ftCB9 cI cS q13 A13 (ftC0.1.2.1 0) ftC0)) := hD
        obtain ⟨hr46, hO⟩ := h46
        subst hr46
        refine lv_ldc (v := (-1000002)) hx hb hown (hts (.constant RL 66 (-1000002)) (by decide +kernel)) dL_law_49 ?_
        refine lv_icmp_ne (tgt := 80) hx hb dL_law_51 (by decide) (fun c51 => ?_) (fun c51 => ?_)
        · exact absurd (by decide) c51
        · refine lv_aload_n hx hb dL_law_54 rfl (lv_at hl 1 rfl) ?_
          refine lv_iconst (v := 3) hx hb dL_law_55 (by decide) ?_
          refine ft_callB (X := (ftCB9 cI cS q5 A5 (u46.1.2.1 0) u46)) (Y := ([(q0, .inl (cI, 12, .inl (fun _ => 0)))] ++ ftCB9 cI cS q13 A13 (ftC0.1.2.1 0) ftC0)) (X1 := fun (u56 : ftCdT) => (ftCB9 cI cS q5 A5 (u56.1.2.1 0) u56)) (ws1 := fun (u56 : ftCdT) => ([(q0, .inl (cI, 12, .inl (fun _ => 0)))] ++ (ftCB9 cI cS q5 A5 (u56.1.2.1 0) u56 ++ ftCB9 cI cS q13 A13 (ftC0.1.2.1 0) ftC0))) (va_runV (C := RX10) (As := [.int 3]) (rest := []) ⟨hx, hb, hml, hown, hts⟩ (eo_fault l D cI cS H.size sK sV q5 A5 u46 0 ftW0 (ftPush ftW0 ftZr 0) ((min (0 + 1) 5) - 1) (fun _ => 0) 0 3 (by omega) hO) (cwV 1 hts gL_law_X10_fault rfl rfl rfl (by decide +kernel) ⟨Nat.le_of_ble_eq_true rfl, Nat.le_of_ble_eq_true rfl⟩) (ft_preB (ci := 10) (List.perm_append_comm_assoc _ _ _) hP hD hKK hSt hS hA rfl rfl) rfl rfl hl.1 rfl (lv_room (Nat.le_of_ble_eq_true rfl)) dL_law_56 ⟨Nat.le_of_ble_eq_true rfl, Nat.le_of_ble_eq_true rfl⟩) hP hD hS hA (List.perm_append_comm_assoc _ _ _) (fun _ => (List.Perm.symm (List.perm_append_comm_assoc _ _ _))) (fun r56 u56 h56 H locs hP hD hS => ?_)
          have hP : va_P D vwCl ([(q0, .inl (cI, 12, .inl (fun _ => 0)))] ++ (ftCB9 cI cS q5 A5 (u56.1.2.1 0) u56 ++ ftCB9 cI cS q13 A13 (ftC0.1.2.1 0) ftC0)) H := hP
          have hD : va_D A ([(q0, .inl (cI, 12, .inl (fun _ => 0)))] ++ (ftCB9 cI cS q5 A5 (u56.1.2.1 0) u56 ++ ftCB9 cI cS q13 A13 (ftC0.1.2.1 0) ftC0)) := hD
          obtain ⟨hr56, hO⟩ := h56
          have e56 : r56 = (-1000001) := hr56.1 (by decide)
          subst e56
          refine lv_ldc (v := (-1000001)) hx hb hown (hts (.constant RL 82 (-1000001)) (by decide +kernel)) dL_law_59 ?_
          refine lv_icmp_ne (tgt := 80) hx hb dL_law_61 (by decide) (fun c61 => ?_) (fun c61 => ?_)
          · exact absurd (by decide) c61
          · refine lv_aload_n hx hb dL_law_64 rfl (lv_at hl 1 rfl) ?_
            refine lv_iconst (v := 0) hx hb dL_law_65 (by decide) ?_
            refine lv_iconst (v := 0) hx hb dL_law_66 (by decide) ?_
            refine lv_iconst (v := 0) hx hb dL_law_67 (by decide) ?_
            refine ft_callB (X := (ftCB9 cI cS q5 A5 (u56.1.2.1 0) u56)) (Y := ([(q0, .inl (cI, 12, .inl (fun _ => 0)))] ++ ftCB9 cI cS q13 A13 (ftC0.1.2.1 0) ftC0)) (X1 := fun (u68 : ftCdT) => (ftCB9 cI cS q5 A5 (u68.1.2.1 0) u68)) (ws1 := fun (u68 : ftCdT) => ([(q0, .inl (cI, 12, .inl (fun _ => 0)))] ++ (ftCB9 cI cS q5 A5 (u68.1.2.1 0) u68 ++ ftCB9 cI cS q13 A13 (ftC0.1.2.1 0) ftC0))) (va_runV (C := RX10) (As := [.int 0, .int 0, .int 0]) (rest := []) ⟨hx, hb, hml, hown, hts⟩ (eo_compare l D cI cS H.size sK sV q5 A5 u56 0 ftW0 (ftPush ftW0 ftZr 0) ((min (0 + 1) 5) - 1) (fun _ => 0) 0 0 0 0 (by omega) hO) (cwV 3 hts gL_law_X10_compare rfl rfl rfl (by decide +kernel) ⟨Nat.le_of_ble_eq_true rfl, Nat.le_of_ble_eq_true rfl⟩) (ft_preB (ci := 10) (List.perm_append_comm_assoc _ _ _) hP hD hKK hSt hS hA rfl rfl) rfl rfl hl.1 rfl (lv_room (Nat.le_of_ble_eq_true rfl)) dL_law_68 ⟨Nat.le_of_ble_eq_true rfl, Nat.le_of_ble_eq_true rfl⟩) hP hD hS hA (List.perm_append_comm_assoc _ _ _) (fun _ => (List.Perm.symm (List.perm_append_comm_assoc _ _ _))) (fun r68 u68 h68 H locs hP hD hS => ?_)
            have hP : va_P D vwCl ([(q0, .inl (cI, 12, .inl (fun _ => 0)))] ++ (ftCB9 cI cS q5 A5 (u68.1.2.1 0) u68 ++ ftCB9 cI cS q13 A13 (ftC0.1.2.1 0) ftC0)) H := hP
            have hD : va_D A ([(q0, .inl (cI, 12, .inl (fun _ => 0)))] ++ (ftCB9 cI cS q5 A5 (u68.1.2.1 0) u68 ++ ftCB9 cI cS q13 A13 (ftC0.1.2.1 0) ftC0)) := hD
            obtain ⟨hr68, hO⟩ := h68
            subst hr68
            refine ft_top (y := (-1000001)) (ftIte_f (by decide +kernel)) ?_
            refine lv_ldc (v := (-1000001)) hx hb hown (hts (.constant RL 82 (-1000001)) (by decide +kernel)) dL_law_71 ?_
            refine lv_icmp_ne (tgt := 80) hx hb dL_law_73 (by decide) (fun c73 => ?_) (fun c73 => ?_)
            · exact absurd (by decide) c73
            · refine lv_iconst (v := 1) hx hb dL_law_76 (by decide) ?_
              refine lv_goto (tgt := 81) hx hb dL_law_77 (by decide) ?_
              refine lv_istore (lv' := [(4, .int 1), (3, .ref q13), (2, .ref q5), (1, .ref q0), (0, .ref b)]) hx hb dL_law_81 hl (by decide) rfl (fun ls hl => ?_)
              refine lv_iconst (v := 0) hx hb dL_law_83 (by decide) ?_
              refine lv_istore (lv' := [(5, .int 0), (4, .int 1), (3, .ref q13), (2, .ref q5), (1, .ref q0), (0, .ref b)]) hx hb dL_law_84 hl (by decide) rfl (fun ls hl => ?_)
              have lp86 : ∀ (n86 : Nat) (i k9 : Nat) (o9 p9 : ftCdT) (w9 z9 : Nat → Int32) (h9 : Nat) (to9 : Nat → Int32) (no9 : Nat) (wq9 tq9 : Nat → Int32) (nq9 : Nat) (tf9 : Nat → Int32) (x86_5 : Int32) (g86_q0 : Nat → Int32), 6 - i < n86 → (i ≤ 6) → (k9 ≤ i) → (lxO k9 o9 w9 z9 h9 to9 no9) → (lxQ p9 wq9 tq9 nq9) → (∀ j, j < 11 → w9 (44 + j) = ftW0 (44 + j)) → (∀ j, j < 11 → wq9 (44 + j) = ftW0 (44 + j)) → x86_5 = nI i → g86_q0 = tf9 → ∀ (H : Heap) (locs : List Loc), va_P D vwCl ([(q0, .inl (cI, 12, .inl g86_q0))] ++ (ftCB9 cI cS q5 A5 (o9.1.2.1 0) o9 ++ ftCB9 cI cS q13 A13 (p9.1.2.1 0) p9)) H → va_D A ([(q0, .inl (cI, 12, .inl g86_q0))] ++ (ftCB9 cI cS q5 A5 (o9.1.2.1 0) o9 ++ ftCB9 cI cS q13 A13 (p9.1.2.1 0) p9)) → va_S A s.heap H locs → ∀ ls : Array Slot, lv_has ls 7 [(0, .ref b), (1, .ref q0), (2, .ref q5), (3, .ref q13), (4, .int 1), (5, .int x86_5)] → W p l e room_1 s m #[Value.ref b] below meth c H locs 600000 7302250 (lw_Z below #[Value.ref b] s) (F0 m 86 ls []) := by
                intro n86
                induction n86 with
                | zero =>
                  intro i k9 o9 p9 w9 z9 h9 to9 no9 wq9 tq9 nq9 tf9 x86_5 g86_q0 hm86
                  exact absurd hm86 (Nat.not_lt_zero _)
                | succ n86 ih86 =>
                  intro i k9 o9 p9 w9 z9 h9 to9 no9 wq9 tq9 nq9 tf9 x86_5 g86_q0 hm86 hi6 hk9 hO hQ hF hFq ex86_5 eg86_q0 H locs hP hD hS ls hl
                  subst ex86_5
                  replace eg86_q0 := eg86_q0.symm; subst eg86_q0
                  refine lv_iload hx hb dL_law_86 (lv_at hl 5 rfl) ?_
                  refine lv_bipush (v := 6) hx hb dL_law_88 (by decide) ?_
                  refine lv_icmp_ge (tgt := 180) hx hb dL_law_90 (by decide) (fun c90 => ?_) (fun c90 => ?_)
                  · have c90n : 6 ≤ i := ft_leN (by omega) (by omega) c90
                    refine lv_iload hx hb dL_law_180 (lv_at hl 4 rfl) ?_
                    refine lv_if_eq (tgt := 223) hx hb dL_law_182 (by decide) (fun c182 => ?_) (fun c182 => ?_)
                    · exact absurd c182 (by decide)
                    · refine lv_aload_n hx hb dL_law_185 rfl (lv_at hl 2 rfl) ?_
                      refine lv_bipush (v := 31) hx hb dL_law_186 (by decide) ?_
                      refine ft_callB (X := (ftCB9 cI cS q5 A5 (o9.1.2.1 0) o9)) (Y := ([(q0, .inl (cI, 12, .inl tf9))] ++ ftCB9 cI cS q13 A13 (p9.1.2.1 0) p9)) (X1 := fun (u188 : ftCdT) => (ftCB9 cI cS q5 A5 (u188.1.2.1 0) u188)) (ws1 := fun (u188 : ftCdT) => ([(q0, .inl (cI, 12, .inl tf9))] ++ (ftCB9 cI cS q5 A5 (u188.1.2.1 0) u188 ++ ftCB9 cI cS q13 A13 (p9.1.2.1 0) p9))) (va_runV (C := RX10) (As := [.int 31]) (rest := []) ⟨hx, hb, hml, hown, hts⟩ (et_typeN l D cI cS H.size sK sV q5 A5 o9 31 (by decide) (by rw [hO.2.2.2]; exact lxO_t hO)) (cwV 1 hts gL_law_X10_type rfl rfl rfl (by decide +kernel) ⟨Nat.le_of_ble_eq_true rfl, Nat.le_of_ble_eq_true rfl⟩) (ft_preB (ci := 10) (List.perm_append_comm_assoc _ _ _) hP hD hKK hSt hS hA rfl rfl) rfl rfl hl.1 rfl (lv_room (Nat.le_of_ble_eq_true rfl)) dL_law_188 ⟨Nat.le_of_ble_eq_true rfl, Nat.le_of_ble_eq_true rfl⟩) hP hD hS hA (List.perm_append_comm_assoc _ _ _) (fun _ => (List.Perm.symm (List.perm_append_comm_assoc _ _ _))) (fun r188 u188 h188 H locs hP hD hS => ?_)
                      have hP : va_P D vwCl ([(q0, .inl (cI, 12, .inl tf9))] ++ (ftCB9 cI cS q5 A5 (u188.1.2.1 0) u188 ++ ftCB9 cI cS q13 A13 (p9.1.2.1 0) p9)) H := hP
                      have hD : va_D A ([(q0, .inl (cI, 12, .inl tf9))] ++ (ftCB9 cI cS q5 A5 (u188.1.2.1 0) u188 ++ ftCB9 cI cS q13 A13 (p9.1.2.1 0) p9)) := hD
                      obtain ⟨hr188, hu188⟩ := h188
                      rw [hu188] at hP hD
                      have hP : va_P D vwCl ([(q0, .inl (cI, 12, .inl tf9))] ++ (ftCB9 cI cS q5 A5 (o9.1.2.1 0) o9 ++ ftCB9 cI cS q13 A13 (p9.1.2.1 0) p9)) H := hP
                      have hD : va_D A ([(q0, .inl (cI, 12, .inl tf9))] ++ (ftCB9 cI cS q5 A5 (o9.1.2.1 0) o9 ++ ftCB9 cI cS q13 A13 (p9.1.2.1 0) p9)) := hD
                      subst hr188
                      refine lv_ldc (v := (-1000001)) hx hb hown (hts (.constant RL 82 (-1000001)) (by decide +kernel)) dL_law_191 ?_
                      refine lv_icmp_ne (tgt := 223) hx hb dL_law_193 (by decide) (fun c193 => ?_) (fun c193 => ?_)
                      · exact absurd (by decide) c193
                      · refine lv_aload_n hx hb dL_law_196 rfl (lv_at hl 2 rfl) ?_
                        refine lv_bipush (v := 19) hx hb dL_law_197 (by decide) ?_
                        refine ft_callB (X := (ftCB9 cI cS q5 A5 (o9.1.2.1 0) o9)) (Y := ([(q0, .inl (cI, 12, .inl tf9))] ++ ftCB9 cI cS q13 A13 (p9.1.2.1 0) p9)) (X1 := fun (u199 : ftCdT) => (ftCB9 cI cS q5 A5 (u199.1.2.1 0) u199)) (ws1 := fun (u199 : ftCdT) => ([(q0, .inl (cI, 12, .inl tf9))] ++ (ftCB9 cI cS q5 A5 (u199.1.2.1 0) u199 ++ ftCB9 cI cS q13 A13 (p9.1.2.1 0) p9))) (va_runV (C := RX10) (As := [.int 19]) (rest := []) ⟨hx, hb, hml, hown, hts⟩ (eo_count l D cI cS H.size sK sV q5 A5 o9 k9 w9 z9 h9 to9 no9 19 (by omega) hO) (cwV 1 hts gL_law_X10_count rfl rfl rfl (by decide +kernel) ⟨Nat.le_of_ble_eq_true rfl, Nat.le_of_ble_eq_true rfl⟩) (ft_preB (ci := 10) (List.perm_append_comm_assoc _ _ _) hP hD hKK hSt hS hA rfl rfl) rfl rfl hl.1 rfl (lv_room (Nat.le_of_ble_eq_true rfl)) dL_law_199 ⟨Nat.le_of_ble_eq_true rfl, Nat.le_of_ble_eq_true rfl⟩) hP hD hS hA (List.perm_append_comm_assoc _ _ _) (fun _ => (List.Perm.symm (List.perm_append_comm_assoc _ _ _))) (fun r199 u199 h199 H locs hP hD hS => ?_)
                        have hP : va_P D vwCl ([(q0, .inl (cI, 12, .inl tf9))] ++ (ftCB9 cI cS q5 A5 (u199.1.2.1 0) u199 ++ ftCB9 cI cS q13 A13 (p9.1.2.1 0) p9)) H := hP
                        have hD : va_D A ([(q0, .inl (cI, 12, .inl tf9))] ++ (ftCB9 cI cS q5 A5 (u199.1.2.1 0) u199 ++ ftCB9 cI cS q13 A13 (p9.1.2.1 0) p9)) := hD
                        obtain ⟨hr199, hO⟩ := h199
                        subst hr199
                        refine ft_top (y := (-1000001)) (ftIte_f (by decide)) ?_
                        refine lv_ldc (v := (-1000001)) hx hb hown (hts (.constant RL 82 (-1000001)) (by decide +kernel)) dL_law_202 ?_
                        refine lv_icmp_ne (tgt := 223) hx hb dL_law_204 (by decide) (fun c204 => ?_) (fun c204 => ?_)
                        · exact absurd (by decide) c204
                        · refine lv_aload_n hx hb dL_law_207 rfl (lv_at hl 2 rfl) ?_
                          refine lv_bipush (v := 10) hx hb dL_law_208 (by decide) ?_
                          refine lv_iconst (v := 0) hx hb dL_law_210 (by decide) ?_
                          refine ft_callB (X := (ftCB9 cI cS q5 A5 (u199.1.2.1 0) u199)) (Y := ([(q0, .inl (cI, 12, .inl tf9))] ++ ftCB9 cI cS q13 A13 (p9.1.2.1 0) p9)) (X1 := fun (u211 : ftCdT) => (ftCB9 cI cS q5 A5 (u211.1.2.1 0) u211)) (ws1 := fun (u211 : ftCdT) => ([(q0, .inl (cI, 12, .inl tf9))] ++ (ftCB9 cI cS q5 A5 (u211.1.2.1 0) u211 ++ ftCB9 cI cS q13 A13 (p9.1.2.1 0) p9))) (va_runV (C := RX10) (As := [.int 10, .int 0]) (rest := []) ⟨hx, hb, hml, hown, hts⟩ (eo_part l D cI cS H.size sK sV q5 A5 u199 k9 w9 z9 h9 to9 no9 10 0 (by omega) hO) (cwV 2 hts gL_law_X10_part rfl rfl rfl (by decide +kernel) ⟨Nat.le_of_ble_eq_true rfl, Nat.le_of_ble_eq_true rfl⟩) (ft_preB (ci := 10) (List.perm_append_comm_assoc _ _ _) hP hD hKK hSt hS hA rfl rfl) rfl rfl hl.1 rfl (lv_room (Nat.le_of_ble_eq_true rfl)) dL_law_211 ⟨Nat.le_of_ble_eq_true rfl, Nat.le_of_ble_eq_true rfl⟩) hP hD hS hA (List.perm_append_comm_assoc _ _ _) (fun _ => (List.Perm.symm (List.perm_append_comm_assoc _ _ _))) (fun r211 u211 h211 H locs hP hD hS => ?_)
                          have hP : va_P D vwCl ([(q0, .inl (cI, 12, .inl tf9))] ++ (ftCB9 cI cS q5 A5 (u211.1.2.1 0) u211 ++ ftCB9 cI cS q13 A13 (p9.1.2.1 0) p9)) H := hP
                          have hD : va_D A ([(q0, .inl (cI, 12, .inl tf9))] ++ (ftCB9 cI cS q5 A5 (u211.1.2.1 0) u211 ++ ftCB9 cI cS q13 A13 (p9.1.2.1 0) p9)) := hD
                          obtain ⟨hr211, hO⟩ := h211
                          subst hr211
                          refine ft_top (y := (-1000001)) (lxPt_10 (lxO_W hO)) ?_
                          refine lv_ldc (v := (-1000001)) hx hb hown (hts (.constant RL 82 (-1000001)) (by decide +kernel)) dL_law_214 ?_
                          refine lv_icmp_ne (tgt := 223) hx hb dL_law_216 (by decide) (fun c216 => ?_) (fun c216 => ?_)
                          · exact absurd (by decide) c216
                          · refine lv_iconst (v := 1) hx hb dL_law_219 (by decide) ?_
                            refine lv_goto (tgt := 224) hx hb dL_law_220 (by decide) ?_
                            refine va_forget (fun q hq => by have h9 := hS.2.2 q hq; rw [← hAe] at h9; exact h9) ?_
                            exact lw_ret hx hb hr hlocks dL_law_224
                  · have c90n : i < 6 := ft_nleN (by omega) (by omega) c90
                    refine lv_iload hx hb dL_law_93 (lv_at hl 4 rfl) ?_
                    refine lv_if_eq (tgt := 180) hx hb dL_law_95 (by decide) (fun c95 => ?_) (fun c95 => ?_)
                    · exact absurd c95 (by decide)
                    · refine lv_aload_n hx hb dL_law_98 rfl (lv_at hl 0 rfl) ?_
                      refine lv_iconst (v := 2) hx hb dL_law_99 (by decide) ?_
                      refine lv_iload hx hb dL_law_100 (lv_at hl 5 rfl) ?_
                      refine lv_imul hx hb dL_law_102 ?_
                      refine ft_top (y := nI (2 * i)) (ft_mulN 2 i) ?_
                      refine ft_csp (va_runS (As := [.ref b, .int (nI (2 * i))]) (rest := []) ⟨hx, hb, hml, hown, hts⟩ (c_L_cell l D cI cS b L xs (2 * i) (by omega) (by omega)) (va_cwS 2 hts gL_law_L_cell rfl rfl rfl (by decide +kernel) ⟨Nat.le_of_ble_eq_true rfl, Nat.le_of_ble_eq_true rfl⟩) (lx_preS hScr hKK hS) rfl rfl hl.1 rfl (lv_room (Nat.le_of_ble_eq_true rfl)) dL_law_103 ⟨Nat.le_of_ble_eq_true rfl, Nat.le_of_ble_eq_true rfl⟩) (fun r103 hr103 => ?_)
                      obtain ⟨C103, hC103, hr103⟩ := hr103
                      subst hr103
                      refine lv_istore (lv' := [(6, .int (nI C103)), (0, .ref b), (1, .ref q0), (2, .ref q5), (3, .ref q13), (4, .int 1), (5, .int (nI i))]) hx hb dL_law_106 hl (by decide) rfl (fun ls hl => ?_)
                      refine lv_aload_n hx hb dL_law_108 rfl (lv_at hl 3 rfl) ?_
                      refine lv_aload_n hx hb dL_law_109 rfl (lv_at hl 4 rfl) ?_
                      refine lv_aload_n hx hb dL_law_110 rfl (lv_at hl 2 rfl) ?_
                      refine lv_iload hx hb dL_law_111 (lv_at hl 0 rfl) ?_
                      refine ft_callB (X := ([(q0, .inl (cI, 12, .inl tf9))] ++ (ftCB9 cI cS q5 A5 (o9.1.2.1 0) o9 ++ ftCB9 cI cS q13 A13 (p9.1.2.1 0) p9))) (Y := []) (X1 := fun (u113 : ftCdT × ftCdT × (Nat → Int32)) => ([(q0, .inl (cI, 12, .inl u113.2.2))] ++ (ftCB9 cI cS q5 A5 (u113.1.1.2.1 0) u113.1 ++ ftCB9 cI cS q13 A13 (u113.2.1.1.2.1 0) u113.2.1))) (ws1 := fun (u113 : ftCdT × ftCdT × (Nat → Int32)) => ([(q0, .inl (cI, 12, .inl u113.2.2))] ++ (ftCB9 cI cS q5 A5 (u113.1.1.2.1 0) u113.1 ++ ftCB9 cI cS q13 A13 (u113.2.1.1.2.1 0) u113.2.1))) (va_runS (As := [.ref q5, .ref q13, .ref q0, .int (nI C103)]) (rest := []) ⟨hx, hb, hml, hown, hts⟩ (c_L_isTold l D cI cS H.size sK sV q5 q13 q0 A5 A13 o9 p9 tf9 k9 w9 z9 h9 to9 no9 wq9 tq9 nq9 C103 (by omega) hO hQ (by assumption) hF hFq) (va_cwS 4 hts gL_law_L_isTold rfl rfl rfl (by decide +kernel) ⟨Nat.le_of_ble_eq_true rfl, Nat.le_of_ble_eq_true rfl⟩) (ft_preBS (ft_pmE _) hP hD hKK hSt hS hA) rfl rfl hl.1 rfl (lv_room (Nat.le_of_ble_eq_true rfl)) dL_law_113 ⟨Nat.le_of_ble_eq_true rfl, Nat.le_of_ble_eq_true rfl⟩) hP hD hS hA (ft_pmE _) (fun _ => (ft_pmE _).symm) (fun r113 u113 h113 H locs hP hD hS => ?_)
                      have hP : va_P D vwCl ([(q0, .inl (cI, 12, .inl u113.2.2))] ++ (ftCB9 cI cS q5 A5 (u113.1.1.2.1 0) u113.1 ++ ftCB9 cI cS q13 A13 (u113.2.1.1.2.1 0) u113.2.1)) H := hP
                      have hD : va_D A ([(q0, .inl (cI, 12, .inl u113.2.2))] ++ (ftCB9 cI cS q5 A5 (u113.1.1.2.1 0) u113.1 ++ ftCB9 cI cS q13 A13 (u113.2.1.1.2.1 0) u113.2.1)) := hD
                      obtain ⟨hr113, w113, z113, g113, t113, n113, v113, y113, m113, x113, hO, hQ, hF, hFq, hfr113, hx113⟩ := h113
                      subst hr113
                      refine lv_istore (lv' := [(4, .int 1), (6, .int (nI C103)), (0, .ref b), (1, .ref q0), (2, .ref q5), (3, .ref q13), (5, .int (nI i))]) hx hb dL_law_116 hl (by decide) rfl (fun ls hl => ?_)
                      refine lv_iload hx hb dL_law_118 (lv_at hl 0 rfl) ?_
                      refine lv_if_eq (tgt := 174) hx hb dL_law_120 (by decide) (fun c120 => ?_) (fun c120 => ?_)
                      · exact absurd c120 (by decide)
                      · refine lv_aload_n hx hb dL_law_123 rfl (lv_at hl 4 rfl) ?_
                        refine lv_iconst (v := 1) hx hb dL_law_124 (by decide) ?_
                        refine ft_callB (X := (ftCB9 cI cS q5 A5 (u113.1.1.2.1 0) u113.1)) (Y := ([(q0, .inl (cI, 12, .inl u113.2.2))] ++ ftCB9 cI cS q13 A13 (u113.2.1.1.2.1 0) u113.2.1)) (X1 := fun (u125 : ftCdT) => (ftCB9 cI cS q5 A5 (u125.1.2.1 0) u125)) (ws1 := fun (u125 : ftCdT) => ([(q0, .inl (cI, 12, .inl u113.2.2))] ++ (ftCB9 cI cS q5 A5 (u125.1.2.1 0) u125 ++ ftCB9 cI cS q13 A13 (u113.2.1.1.2.1 0) u113.2.1))) (va_runV (C := RX10) (As := [.int 1]) (rest := []) ⟨hx, hb, hml, hown, hts⟩ (eo_fault l D cI cS H.size sK sV q5 A5 u113.1 k9 w113 z113 g113 t113 n113 1 (by omega) hO) (cwV 1 hts gL_law_X10_fault rfl rfl rfl (by decide +kernel) ⟨Nat.le_of_ble_eq_true rfl, Nat.le_of_ble_eq_true rfl⟩) (ft_preB (ci := 10) (List.perm_append_comm_assoc _ _ _) hP hD hKK hSt hS hA rfl rfl) rfl rfl hl.1 rfl (lv_room (Nat.le_of_ble_eq_true rfl)) dL_law_125 ⟨Nat.le_of_ble_eq_true rfl, Nat.le_of_ble_eq_true rfl⟩) hP hD hS hA (List.perm_append_comm_assoc _ _ _) (fun _ => (List.Perm.symm (List.perm_append_comm_assoc _ _ _))) (fun r125 u125 h125 H locs hP hD hS => ?_)
                        have hP : va_P D vwCl ([(q0, .inl (cI, 12, .inl u113.2.2))] ++ (ftCB9 cI cS q5 A5 (u125.1.2.1 0) u125 ++ ftCB9 cI cS q13 A13 (u113.2.1.1.2.1 0) u113.2.1)) H := hP
                        have hD : va_D A ([(q0, .inl (cI, 12, .inl u113.2.2))] ++ (ftCB9 cI cS q5 A5 (u125.1.2.1 0) u125 ++ ftCB9 cI cS q13 A13 (u113.2.1.1.2.1 0) u113.2.1)) := hD
                        obtain ⟨hr125, hO⟩ := h125
                        have e125 : r125 = x113 := lx_faX hr125 hfr113
                        subst e125
                        refine lv_iconst (v := 4) hx hb dL_law_128 (by decide) ?_
                        refine lv_icmp_eq (tgt := 174) hx hb dL_law_129 (by decide) (fun c129 => ?_) (fun c129 => ?_)
                        · refine lv_iinc (v := nI (i + 1)) (lv' := [(5, .int (nI (i + 1))), (4, .int 1), (6, .int (nI C103)), (0, .ref b), (1, .ref q0), (2, .ref q5), (3, .ref q13)]) hx hb dL_law_174 hl (k := 6) rfl (ft_inc i) (by decide) rfl (fun ls hl => ?_)
                          refine lv_goto (tgt := 86) hx hb dL_law_177 (by decide) ?_
                          exact ih86 (i + 1) k9 u125 u113.2.1 w113 z113 g113 t113 n113 v113 y113 m113 u113.2.2 (nI (i + 1)) u113.2.2 (by omega) (by omega) (by omega) (by exact hO) (by exact hQ) (by exact hF) (by exact hFq) (by first | rfl | assumption) (by first | rfl | assumption) _ _ hP hD hS ls (lv_sub hl [3, 4, 5, 6, 1, 0] rfl)
                        · obtain ⟨-, he9, hn9⟩ := hx113.resolve_left c129
                          rw [he9] at hQ
                          have hFq := hF
                          refine lv_aload_n hx hb dL_law_132 rfl (lv_at hl 4 rfl) ?_
                          refine lv_aload_n hx hb dL_law_133 rfl (lv_at hl 5 rfl) ?_
                          refine lv_aload_n hx hb dL_law_134 rfl (lv_at hl 2 rfl) ?_
                          refine lv_iconst (v := 2) hx hb dL_law_135 (by decide) ?_
                          refine lv_iload hx hb dL_law_136 (lv_at hl 6 rfl) ?_
                          refine lv_imul hx hb dL_law_138 ?_
                          refine ft_top (y := nI (2 * i)) (ft_mulN 2 i) ?_
                          refine lv_iconst (v := 1) hx hb dL_law_139 (by decide) ?_
                          refine lv_iadd hx hb dL_law_140 ?_
                          refine ft_top (y := nI ((2 * i) + 1)) (ft_addN (2 * i) 1) ?_
                          refine ft_csp (va_runS (As := [.ref b, .int (nI ((2 * i) + 1))]) (rest := [.ref q13, .ref q5]) ⟨hx, hb, hml, hown, hts⟩ (c_L_cell l D cI cS b L xs ((2 * i) + 1) (by omega) (by omega)) (va_cwS 2 hts gL_law_L_cell rfl rfl rfl (by decide +kernel) ⟨Nat.le_of_ble_eq_true rfl, Nat.le_of_ble_eq_true rfl⟩) (lx_preS hScr hKK hS) rfl rfl hl.1 rfl (lv_room (Nat.le_of_ble_eq_true rfl)) dL_law_141 ⟨Nat.le_of_ble_eq_true rfl, Nat.le_of_ble_eq_true rfl⟩) (fun r141 hr141 => ?_)
                          obtain ⟨C141, hC141, hr141⟩ := hr141
                          subst hr141
                          refine ft_callB (X := (ftCB9 cI cS q5 A5 (u125.1.2.1 0) u125 ++ ftCB9 cI cS q13 A13 (u113.2.1.1.2.1 0) u113.2.1)) (Y := [(q0, .inl (cI, 12, .inl u113.2.2))]) (X1 := fun (u144 : ftCdT × ftCdT) => (ftCB9 cI cS q5 A5 (u144.1.1.2.1 0) u144.1 ++ ftCB9 cI cS q13 A13 (u144.2.1.2.1 0) u144.2)) (ws1 := fun (u144 : ftCdT × ftCdT) => ([(q0, .inl (cI, 12, .inl u113.2.2))] ++ (ftCB9 cI cS q5 A5 (u144.1.1.2.1 0) u144.1 ++ ftCB9 cI cS q13 A13 (u144.2.1.2.1 0) u144.2))) (va_runS (As := [.ref q5, .ref q13, .int (nI C141)]) (rest := []) ⟨hx, hb, hml, hown, hts⟩ (c_L_isAltered l D cI cS H.size sK sV q5 q13 A5 A13 u125 u113.2.1 k9 w113 z113 g113 t113 n113 y113 m113 C141 (by omega) hO hQ hC141 (hn9)) (va_cwS 3 hts gL_law_L_isAltered rfl rfl rfl (by decide +kernel) ⟨Nat.le_of_ble_eq_true rfl, Nat.le_of_ble_eq_true rfl⟩) (ft_preBS List.perm_append_comm hP hD hKK hSt hS hA) rfl rfl hl.1 rfl (lv_room (Nat.le_of_ble_eq_true rfl)) dL_law_144 ⟨Nat.le_of_ble_eq_true rfl, Nat.le_of_ble_eq_true rfl⟩) hP hD hS hA List.perm_append_comm (fun _ => (List.Perm.symm List.perm_append_comm)) (fun r144 u144 h144 H locs hP hD hS => ?_)
                          have hP : va_P D vwCl ([(q0, .inl (cI, 12, .inl u113.2.2))] ++ (ftCB9 cI cS q5 A5 (u144.1.1.2.1 0) u144.1 ++ ftCB9 cI cS q13 A13 (u144.2.1.2.1 0) u144.2)) H := hP
                          have hD : va_D A ([(q0, .inl (cI, 12, .inl u113.2.2))] ++ (ftCB9 cI cS q5 A5 (u144.1.1.2.1 0) u144.1 ++ ftCB9 cI cS q13 A13 (u144.2.1.2.1 0) u144.2)) := hD
                          obtain ⟨hr144, ⟨z144, g144, hO⟩, hQ⟩ := h144
                          subst hr144
                          refine lv_if_eq (tgt := 171) hx hb dL_law_147 (by decide) (fun c147 => ?_) (fun c147 => ?_)
                          · exact absurd c147 (by decide)
                          · refine lv_iload hx hb dL_law_150 (lv_at hl 6 rfl) ?_
                            refine lv_iconst (v := 2) hx hb dL_law_152 (by decide) ?_
                            refine lv_irem hx hb dL_law_153 (by decide) ?_
                            refine ft_top (y := ftRemI (nI i) 2) rfl ?_
                            refine ft_top (y := nI (i % 2)) (ft_remN (b := 2) (by omega) (by omega) (by omega)) ?_
                            refine lv_iconst (v := 1) hx hb dL_law_154 (by decide) ?_
                            refine lv_icmp_eq (tgt := 167) hx hb dL_law_155 (by decide) (fun c155 => ?_) (fun c155 => ?_)
                            · have c155n : (i % 2) = 1 := ft_eqN (by omega) (by omega) c155
                              refine lv_iconst (v := 1) hx hb dL_law_167 (by decide) ?_
                              refine lv_goto (tgt := 172) hx hb dL_law_168 (by decide) ?_
                              refine lv_istore (lv' := [(4, .int 1), (6, .int (nI C103)), (0, .ref b), (1, .ref q0), (2, .ref q5), (3, .ref q13), (5, .int (nI i))]) hx hb dL_law_172 hl (by decide) rfl (fun ls hl => ?_)
                              refine lv_iinc (v := nI (i + 1)) (lv' := [(5, .int (nI (i + 1))), (4, .int 1), (6, .int (nI C103)), (0, .ref b), (1, .ref q0), (2, .ref q5), (3, .ref q13)]) hx hb dL_law_174 hl (k := 6) rfl (ft_inc i) (by decide) rfl (fun ls hl => ?_)
                              refine lv_goto (tgt := 86) hx hb dL_law_177 (by decide) ?_
                              exact ih86 (i + 1) k9 u144.1 u144.2 w113 z144 g144 t113 n113 w113 y113 m113 u113.2.2 (nI (i + 1)) u113.2.2 (by omega) (by omega) (by omega) (by exact hO) (by exact hQ) (by exact hF) (by exact hFq) (by first | rfl | assumption) (by first | rfl | assumption) _ _ hP hD hS ls (lv_sub hl [3, 4, 5, 6, 1, 0] rfl)
                            · have c155n : (i % 2) ≠ 1 := ft_neN (by omega) (by omega) c155
                              refine lv_aload_n hx hb dL_law_158 rfl (lv_at hl 4 rfl) ?_
                              refine lv_iload hx hb dL_law_159 (lv_at hl 1 rfl) ?_
                              refine ft_callB (X := (ftCB9 cI cS q5 A5 (u144.1.1.2.1 0) u144.1)) (Y := ([(q0, .inl (cI, 12, .inl u113.2.2))] ++ ftCB9 cI cS q13 A13 (u144.2.1.2.1 0) u144.2)) (X1 := fun (u161 : ftCdT) => (ftCB9 cI cS q5 A5 (u161.1.2.1 0) u161)) (ws1 := fun (u161 : ftCdT) => ([(q0, .inl (cI, 12, .inl u113.2.2))] ++ (ftCB9 cI cS q5 A5 (u161.1.2.1 0) u161 ++ ftCB9 cI cS q13 A13 (u144.2.1.2.1 0) u144.2))) (va_runS (As := [.ref q5, .int (nI C103)]) (rest := []) ⟨hx, hb, hml, hown, hts⟩ (c_L_isKept l D cI cS H.size sK sV q5 A5 u144.1 k9 w113 z144 g144 t113 n113 C103 (by omega) hO (by omega) ((hF 3 (by omega)).trans (by decide +kernel))) (va_cwS 2 hts gL_law_L_isKept rfl rfl rfl (by decide +kernel) ⟨Nat.le_of_ble_eq_true rfl, Nat.le_of_ble_eq_true rfl⟩) (ft_preBS (List.perm_append_comm_assoc _ _ _) hP hD hKK hSt hS hA) rfl rfl hl.1 rfl (lv_room (Nat.le_of_ble_eq_true rfl)) dL_law_161 ⟨Nat.le_of_ble_eq_true rfl, Nat.le_of_ble_eq_true rfl⟩) hP hD hS hA (List.perm_append_comm_assoc _ _ _) (fun _ => (List.Perm.symm (List.perm_append_comm_assoc _ _ _))) (fun r161 u161 h161 H locs hP hD hS => ?_)
                              have hP : va_P D vwCl ([(q0, .inl (cI, 12, .inl u113.2.2))] ++ (ftCB9 cI cS q5 A5 (u161.1.2.1 0) u161 ++ ftCB9 cI cS q13 A13 (u144.2.1.2.1 0) u144.2)) H := hP
                              have hD : va_D A ([(q0, .inl (cI, 12, .inl u113.2.2))] ++ (ftCB9 cI cS q5 A5 (u161.1.2.1 0) u161 ++ ftCB9 cI cS q13 A13 (u144.2.1.2.1 0) u144.2)) := hD
                              obtain ⟨hr161, z161, g161, hO⟩ := h161
                              subst hr161
                              replace hF := fun j (hj : j < 11) => (ftKeep_lo (w := w113) (t := 44 + j) (by omega)).trans (hF j hj)
                              refine lv_if_eq (tgt := 171) hx hb dL_law_164 (by decide) (fun c164 => ?_) (fun c164 => ?_)
                              · exact absurd c164 (by decide)
                              · refine lv_iconst (v := 1) hx hb dL_law_167 (by decide) ?_
                                refine lv_goto (tgt := 172) hx hb dL_law_168 (by decide) ?_
                                refine lv_istore (lv' := [(4, .int 1), (6, .int (nI C103)), (0, .ref b), (1, .ref q0), (2, .ref q5), (3, .ref q13), (5, .int (nI i))]) hx hb dL_law_172 hl (by decide) rfl (fun ls hl => ?_)
                                refine lv_iinc (v := nI (i + 1)) (lv' := [(5, .int (nI (i + 1))), (4, .int 1), (6, .int (nI C103)), (0, .ref b), (1, .ref q0), (2, .ref q5), (3, .ref q13)]) hx hb dL_law_174 hl (k := 6) rfl (ft_inc i) (by decide) rfl (fun ls hl => ?_)
                                refine lv_goto (tgt := 86) hx hb dL_law_177 (by decide) ?_
                                exact ih86 (i + 1) (k9 + 1) u161 u144.2 (ftKeep w113) z161 g161 t113 n113 w113 y113 m113 u113.2.2 (nI (i + 1)) u113.2.2 (by omega) (by omega) (by omega) (by exact hO) (by exact hQ) (by exact hF) (by exact hFq) (by first | rfl | assumption) (by first | rfl | assumption) _ _ hP hD hS ls (lv_sub hl [3, 4, 5, 6, 1, 0] rfl)
              exact lp86 _ 0 0 u68 ftC0 ftW0 (ftPush ftW0 ftZr 0) (min (0 + 1) 5 - 1) (fun _ => 0) 0 ftW0 (fun _ => 0) 0 (fun _ => 0) 0 (fun _ => 0) (Nat.lt_succ_self _) (by omega) (by omega) (by exact hO) (by exact hQ) (by exact fun _ _ => rfl) (by exact fun _ _ => rfl) (by rfl) (by rfl) _ _ hP hD hS ls (lv_sub hl [5, 4, 3, 2, 1, 0] rfl)
set_option maxHeartbeats 4000000 in
theorem lw_walk (l : Launch) (hflags : l.flags = flags0) (b : Addr) (xs : List Int32) : MetFree l x (headSpec (Jvm.Cond.code x code maxLocals ret :: tables_1) room_1) (lw_P b xs) (fun _ _ _ _ _ => True) lw_Q := by
  refine MetFree.of_bodyS (code := code) (maxLocals := maxLocals) (ret := ret) (by decide) ?_ ?_
  · intro args s m h hn
    obtain ⟨meth, c, h1, h2, h3, h4, h5, h6, -, -⟩ := Cond.code_spec hn (atoms_spec (ws := Jvm.Cond.code x code maxLocals ret :: tables_1) h _ List.mem_cons_self)
    exact ⟨meth, c, h1, h2, h3, h4, h5, h6⟩
  · intro p e s m args below meth c s₁ B hml0 hP _
    obtain ⟨rfl, hx, hbd, hgv⟩ := hP
    obtain ⟨scr, harrAt, hlist, hof, hsmall⟩ := hx
    obtain ⟨hcb, hkn, -, -⟩ := State.arrayAt?_spec harrAt
    have hown : s.vm.findClass R_law = some m.cls := findClass_of_methodNamed B.named
    have hts0 : ∀ c ∈ (Jvm.Cond.code x code maxLocals ret :: tables_1), c.before #[Value.ref b] s = true := atoms_spec (ws := Jvm.Cond.code x code maxLocals ret :: tables_1) B.pre
    have hts : ∀ w ∈ lw_tbl, w.before #[Value.ref b] s = true := k2_hts_sels lw_privs (fun w hw => hts0 w (List.mem_cons_of_mem _ hw)) lw_privs_ok
    have hml : c.maxLocals = 7 := B.maxLocals_eq (hts0 _ List.mem_cons_self)
    have X₀ : Stand p l e room_1 s m #[Value.ref b] below meth c s₁ [] 0 0 := Stand.of_body B
    have hh0 : s₁.heap = s.heap := by rw [B.state]; rfl
    have hsz : scr.slots.size = xs.length := by rw [← Array.length_toList, hlist, List.length_map]
    have hval : ∀ j : Nat, j < xs.length → scr.slots[j]? = some (.int (xs.getD j 0)) := fun j hj => by
      rw [← Array.getElem?_toList, hlist]
      simp [hj]
    have hbl : b < s.heap.size := (Array.getElem?_eq_some_iff.mp hcb).1
    have hX : va_X b xs.length (fun j => xs.getD j 0) s s.heap := ⟨scr, hcb, hof, hkn, hsz, hval⟩
    have K : W p l e room_1 s m #[Value.ref b] below meth c s₁.heap [] 0 0 (lw_Z below #[Value.ref b] s) (entryFrame m ([Value.ref b] : List Value).toArray 7) := by
      rw [hh0]
      exact whole_start l hflags hbd ⟨B.exec, B.bytes, B.returns, hml, hown, hts, hX, hbl, B.notSynchronized, hgv⟩
    obtain ⟨t, a1, o, b1, b2, b3⟩ := K s₁ rfl X₀
    exact ⟨t, o, a1, b1, b2, b3⟩
theorem lw_pre_spec {args : Array Value} {s : State} (h : (Jvm.Cond.and given_1 narrow_1).before args s = true) (hr : rest_1_c.before args s = true) : ∃ (b : Addr) (xs : List Int32), lw_P b xs args s := by
  have hs := flat_of_before _ h
  have hq := flat_of_before _ hr
  have hc : (Cond.count 1).before args s = true := hs _ (by decide +kernel)
  have harr : (Cond.arrayOf (.arg 0) .int).before args s = true := hs _ (by decide +kernel)
  have hle : (Cond.le (.length (.arg 0)) (.int 260)).before args s = true := hs _ (by decide +kernel)
  have hlen : (Cond.isInt (.length (.arg 0))).before args s = true := hq _ (by decide +kernel)
  have hall : (Cond.all (.arg 0) (.isInt (.elem (.arg 0) (.index 0)))).before args s = true := hq _ (by decide +kernel)
  obtain ⟨b, xs, hb, hx⟩ := State.ints_of_pre rfl harr hlen hall
  have hsm : xs.length < 2 ^ 31 := hx.choose_spec.2.2.2
  have hev : (Term.length (.arg 0)).eval args s none [] s = some (.int xs.length.toInt32) := hx.length_eval hb
  have hv := Cond.le_ints hev (show (Term.int 260).eval args s none [] s = some (.int 260) from rfl)
  have hd : xs.length.toInt32 ≤ 260 := by
    simpa [Cond.before, Cond.holds, hv] using hle
  have hN : xs.length ≤ 260 := (Int32.ofNat_le_ofNat hsm (by decide)).mp (show Int32.ofNat xs.length ≤ Int32.ofNat 260 from hd)
  exact ⟨b, xs, Cond.one_arg hc (show args[0]? = some (.ref b) from hb), hx, hN, h⟩
theorem lw_comes (l : Launch) (hflags : l.flags = flags0) : Comes l x (Jvm.Cond.code x code maxLocals ret :: tables_1) room_1 (fun tb e args s => Calls_1 tb e args s ∧ rest_1 tb e args s ∧ Pre_1 tb e args s)
    (fun _ _ args s o t => lw_Q args s o t) := by
  intro p e ha hc hk s m args below hf hfit hheap happ hpre
  obtain ⟨b, xs, hP⟩ := lw_pre_spec hpre.2.2 hpre.2.1
  obtain ⟨k, o, h1, h2, h3, hQ⟩ := lw_walk l hflags b xs p e ha hc hk s m args below hf ((Spec.applies_iff_loose hf).mp happ).1 hP trivial
  exact ⟨k, o, h1, h2, h3, hQ⟩
theorem lw_frame {s t : State} {o : Outcome} {args : Array Value} (h : Framed s o t [] 600000 7302250) :
    Framed s o t (fieldLocs frame_1_writes args s ++ arrayLocs frame_1_arrays args s ++ staticLocs frame_1_statics s) 600000 7302250 := h
theorem lw_limb (L : Cond) (hL : ∀ (args : Array Value) (s t : State), L.after args s (.returned (some (.int 1))) t = true) :
    ArmFor flags0 classFile x code maxLocals ret World_1 tables_1 room_1 Calls_1 rest_1 Pre_1
      (fun tb e a s o t => postC L tb e a s o t ∧ Framed s o t (fieldLocs frame_1_writes a s ++ arrayLocs frame_1_arrays a s ++ staticLocs frame_1_statics s) 600000 7302250) := by
  intro l hflags _ _ p e ha hc hk s m args below hf hfit hheap happ hpre
  obtain ⟨k, o, h1, h2, h3, rfl, hF⟩ := lw_comes l hflags p e ha hc hk s m args below hf hfit hheap happ hpre
  exact ⟨k, _, h1, h2, h3, hL args s _, lw_frame hF⟩
theorem i_vc : Claimed_1_1 ∧ Claimed_1_2 := ⟨lw_limb limb_1_1 (fun args s t => by simp [limb_1_1, Cond.after, Cond.holds, Cond.value]), lw_limb limb_1_2 (fun args s t => Cond.after_iff.mpr (by
  first | (rw [show limb_1_2 = Cond.eq .result (.int 1) from rfl, Cond.eq_ints (x := 1) (y := 1) rfl rfl]; simp; done) | (simp [limb_1_2, Cond.value, Term.eval]; done)))⟩
