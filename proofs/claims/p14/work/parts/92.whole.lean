theorem ft_preN {D : va_G} {cI cS : ClassId} {As : List Value} {X : va_W} {x : Nat × va_E} {s : State} {H : Heap} {A : Nat → Prop} (hP : va_P D vwCl (X ++ [x]) H) (hD : va_D A (X ++ [x])) (hK : ftK D cI cS s) : PreS s H (ftRW D cI cS As [x] H.size) As :=
  ⟨ft_blindRW, fun U hU hW => ⟨rfl, by rw [hU], by rw [hU]; exact ft_PR hP, hK.warm hW, (ft_DR hD).weaken (fun _ _ _ _ => trivial)⟩⟩
theorem ftR2_0 : ftR2 0 ftC0 ftW0 ftZr := by
  obtain ⟨h1, h2, h3, h4, h5, h6, h7, h8, h9, h10, h11, h12⟩ := ftC0_cr
  exact ⟨⟨h1, h2, h3, h6, fun i hi => absurd (show i < 0 from hi) (Nat.not_lt_zero i)⟩, h4, h5, h9, h11, h12, fun m hm => absurd (show m < 0 from hm) (Nat.not_lt_zero m), fun a b _ hb => absurd (show b < 0 from hb) (Nat.not_lt_zero b), fun a ha => absurd (show a < 0 from ha) (Nat.not_lt_zero a)⟩
set_option maxHeartbeats 4000000 in
set_option maxRecDepth 100000 in
/-- THE LAW'S LOOP: n calls done, the class's state and the reference's agree -/
theorem lw_loop {l : Launch} {p : Program} {e : Env} {s : State} {m : MethodId} {below : List Frame} {meth : Method} {c : Code} {b L : Nat} {xs : Nat → Int32} {D : va_G} {cI cS : ClassId} {sK sV : Nat → Nat} (C1 : lw_Cx p s m meth c b L xs D cI cS sK sV) (hL : L ≤ 2560) {o0 m0 : Nat} {A0 : Nat → Nat → Nat} {P : Nat → Nat} :
    ∀ (k n : Nat) (cd : ftCdT) (w z : Nat → Int32) (j : ftRD), L < 5 * n + 5 + 5 * k → 5 * n ≤ L + 5 → ftR2 n cd w z → ∀ (H : Heap) (locs : List Loc), va_P D vwCl (ftCB9 cI cS o0 A0 (cd.1.2.1 0) cd ++ ftRB cI m0 P ((w, z, cd.2.2.1.2.1), (cd.1.1 3, cd.2.2.1.1), j)) H → va_D (fun q => s.heap.size ≤ q) (ftCB9 cI cS o0 A0 (cd.1.2.1 0) cd ++ ftRB cI m0 P ((w, z, cd.2.2.1.2.1), (cd.1.1 3, cd.2.2.1.1), j)) → va_S (fun q => s.heap.size ≤ q) s.heap H locs → ∀ ls : Array Slot, ftLs ls b o0 m0 (5 * n) → ftLW l p e s m below meth c b H locs (F0 m 18 ls []) := by
  obtain ⟨⟨hx, hb, hr, hml, hown, hts, hX, hbl, hlocks, hgv⟩, hKK, hSt, hL30⟩ := id C1
  intro k
  induction k with
  | zero =>
    intro n cd w z j h1 h2 hR H locs hP hD hS ls hl
    exact lw_exit C1 (by omega) (by omega) hS hl
  | succ k ih =>
    intro n cd w z j h1 h2 hR H locs hP hD hS ls hl
    by_cases hL5 : L < 5 * n + 5
    · exact lw_exit C1 (by omega) hL5 hS hl
    have hLi : 5 * n + 5 ≤ L := by omega
    have hC := ftR2_cr hR
    have go : ∀ (c9 : ftCdT) (q9 : ftRR), ftSt2 (n + 1) c9 q9 → ∀ (H : Heap) (locs : List Loc), va_P D vwCl (ftCB9 cI cS o0 A0 (c9.1.2.1 0) c9 ++ ftRB cI m0 P q9) H → va_D (fun q => s.heap.size ≤ q) (ftCB9 cI cS o0 A0 (c9.1.2.1 0) c9 ++ ftRB cI m0 P q9) → va_S (fun q => s.heap.size ≤ q) s.heap H locs → ftLW l p e s m below meth c b H locs (F0 m 699 ls []) := by
      intro c9 q9 h9 H locs hP hD hS
      obtain ⟨hR9, e1, e2, e3⟩ := h9
      have hq : q9 = ((q9.1.1, q9.1.2.1, c9.2.2.1.2.1), (c9.1.1 3, c9.2.2.1.1), q9.2.2) := by rw [← e1, ← e2, ← e3]
      refine lw_next C1 hl (fun ls hl => ?_)
      rw [hq] at hP hD
      exact ih (n + 1) c9 q9.1.1 q9.1.2.1 q9.2.2 (by omega) (by omega) hR9 H locs hP hD hS ls (show ftLs ls b o0 m0 (5 * (n + 1)) by rw [show 5 * (n + 1) = 5 * n + 5 by omega]; exact hl)
    refine lw_head C1 hLi hS hl (fun x => ?_)
    by_cases c32_0 : x = 0
    · refine lv_tableIn (off := 108) (tgt := 140) hx hb dL_law_32 (by rw [c32_0]; decide) (by rw [c32_0]; decide) (by rw [c32_0]; decide) (by decide) ?_
      exact lw_case_type C1 (n9 := n) (by omega) hC hLi hP hD hS hl (fun c9 q9 r1 r2 hc hq => go c9 q9 (st_type hR hc hq))
    by_cases c32_1 : x = 1
    · refine lv_tableIn (off := 131) (tgt := 163) hx hb dL_law_32 (by rw [c32_1]; decide) (by rw [c32_1]; decide) (by rw [c32_1]; decide) (by decide) ?_
      exact lw_case_clearText C1 (n9 := n) (by omega) hC hLi hP hD hS hl (fun c9 q9 r1 r2 hc hq => go c9 q9 (st_clearText hR hc hq))
    by_cases c32_2 : x = 2
    · refine lv_tableIn (off := 144) (tgt := 176) hx hb dL_law_32 (by rw [c32_2]; decide) (by rw [c32_2]; decide) (by rw [c32_2]; decide) (by decide) ?_
      exact lw_case_fault C1 (n9 := n) (by omega) hC hLi hP hD hS hl (fun c9 q9 r1 r2 hc hq => go c9 q9 (st_fault hR hc hq))
    by_cases c32_3 : x = 3
    · refine lv_tableIn (off := 167) (tgt := 199) hx hb dL_law_32 (by rw [c32_3]; decide) (by rw [c32_3]; decide) (by rw [c32_3]; decide) (by decide) ?_
      exact lw_case_lay C1 (n9 := n) (by omega) hC hLi hP hD hS hl (fun c9 q9 r1 r2 hc hq => go c9 q9 (st_lay hR hc hq))
    by_cases c32_4 : x = 4
    · refine lv_tableIn (off := 180) (tgt := 212) hx hb dL_law_32 (by rw [c32_4]; decide) (by rw [c32_4]; decide) (by rw [c32_4]; decide) (by decide) ?_
      exact lw_case_addPart C1 (n9 := n) (by omega) hC hLi hP hD hS hl (fun c9 q9 r1 r2 hc hq => go c9 q9 (st_addPart hR hc hq))
    by_cases c32_5 : x = 5
    · refine lv_tableIn (off := 233) (tgt := 265) hx hb dL_law_32 (by rw [c32_5]; decide) (by rw [c32_5]; decide) (by rw [c32_5]; decide) (by decide) ?_
      exact lw_case_removePart C1 (n9 := n) (by omega) hC hLi hP hD hS hl (fun c9 q9 r1 r2 hc hq => go c9 q9 (st_removePart hR hc hq))
    by_cases c32_6 : x = 6
    · refine lv_tableIn (off := 256) (tgt := 288) hx hb dL_law_32 (by rw [c32_6]; decide) (by rw [c32_6]; decide) (by rw [c32_6]; decide) (by decide) ?_
      exact lw_case_set C1 (n9 := n) (by omega) hC hLi hP hD hS hl (fun c9 q9 r1 r2 hc hq => go c9 q9 (st_set hR hc hq))
    by_cases c32_7 : x = 7
    · refine lv_tableIn (off := 289) (tgt := 321) hx hb dL_law_32 (by rw [c32_7]; decide) (by rw [c32_7]; decide) (by rw [c32_7]; decide) (by decide) ?_
      exact lw_case_undo C1 (n9 := n) (by omega) hC hLi hP hD hS hl (fun c9 q9 r1 r2 hc hq => go c9 q9 (st_undo hR hc hq))
    by_cases c32_8 : x = 8
    · refine lv_tableIn (off := 302) (tgt := 334) hx hb dL_law_32 (by rw [c32_8]; decide) (by rw [c32_8]; decide) (by rw [c32_8]; decide) (by decide) ?_
      exact lw_case_count C1 (n9 := n) (by omega) hC hLi hP hD hS hl (fun c9 q9 r1 r2 hc hq => go c9 q9 (st_count hR hc hq))
    by_cases c32_9 : x = 9
    · refine lv_tableIn (off := 325) (tgt := 357) hx hb dL_law_32 (by rw [c32_9]; decide) (by rw [c32_9]; decide) (by rw [c32_9]; decide) (by decide) ?_
      exact lw_case_part C1 (n9 := n) (by omega) hC hLi hP hD hS hl (fun c9 q9 r1 r2 hc hq => go c9 q9 (st_part hR hc hq))
    by_cases c32_10 : x = 10
    · refine lv_tableIn (off := 358) (tgt := 390) hx hb dL_law_32 (by rw [c32_10]; decide) (by rw [c32_10]; decide) (by rw [c32_10]; decide) (by decide) ?_
      exact lw_case_lineLoss C1 (n9 := n) (by omega) hC hLi hP hD hS hl (fun c9 q9 r1 r2 hc hq => go c9 q9 (st_lineLoss hR hc hq))
    by_cases c32_11 : x = 11
    · refine lv_tableIn (off := 381) (tgt := 413) hx hb dL_law_32 (by rw [c32_11]; decide) (by rw [c32_11]; decide) (by rw [c32_11]; decide) (by decide) ?_
      exact lw_case_sample C1 (n9 := n) (by omega) hC hLi hP hD hS hl (fun c9 q9 r1 r2 hc hq => go c9 q9 (st_sample hR hc hq))
    by_cases c32_12 : x = 12
    · refine lv_tableIn (off := 414) (tgt := 446) hx hb dL_law_32 (by rw [c32_12]; decide) (by rw [c32_12]; decide) (by rw [c32_12]; decide) (by decide) ?_
      exact lw_case_echo C1 (n9 := n) (by omega) hC hLi hP hD hS hl (fun c9 q9 r1 r2 hc hq => go c9 q9 (st_echo hR hc hq))
    by_cases c32_13 : x = 13
    · refine lv_tableIn (off := 447) (tgt := 479) hx hb dL_law_32 (by rw [c32_13]; decide) (by rw [c32_13]; decide) (by rw [c32_13]; decide) (by decide) ?_
      exact lw_case_pulsesFor C1 (n9 := n) (by omega) hC hLi hP hD hS hl (fun c9 q9 r1 r2 hc hq => go c9 q9 (st_pulsesFor hR hc hq))
    by_cases c32_14 : x = 14
    · refine lv_tableIn (off := 470) (tgt := 502) hx hb dL_law_32 (by rw [c32_14]; decide) (by rw [c32_14]; decide) (by rw [c32_14]; decide) (by decide) ?_
      exact lw_case_events C1 (n9 := n) (by omega) hC hLi hP hD hS hl (fun c9 q9 r1 r2 hc hq => go c9 q9 (st_events hR hc hq))
    by_cases c32_15 : x = 15
    · refine lv_tableIn (off := 483) (tgt := 515) hx hb dL_law_32 (by rw [c32_15]; decide) (by rw [c32_15]; decide) (by rw [c32_15]; decide) (by decide) ?_
      exact lw_case_event C1 (n9 := n) (by omega) hC hLi hP hD hS hl (fun c9 q9 r1 r2 hc hq => go c9 q9 (st_event hR hc hq))
    by_cases c32_16 : x = 16
    · refine lv_tableIn (off := 516) (tgt := 548) hx hb dL_law_32 (by rw [c32_16]; decide) (by rw [c32_16]; decide) (by rw [c32_16]; decide) (by decide) ?_
      exact lw_case_total C1 (n9 := n) (by omega) hC hLi hP hD hS hl (fun c9 q9 r1 r2 hc hq => go c9 q9 (st_total hR hc hq))
    by_cases c32_17 : x = 17
    · refine lv_tableIn (off := 539) (tgt := 571) hx hb dL_law_32 (by rw [c32_17]; decide) (by rw [c32_17]; decide) (by rw [c32_17]; decide) (by decide) ?_
      exact lw_case_eventAt C1 (n9 := n) (by omega) hC hLi hP hD hS hl (fun c9 q9 r1 r2 hc hq => go c9 q9 (st_eventAt hR hc hq))
    by_cases c32_18 : x = 18
    · refine lv_tableIn (off := 562) (tgt := 594) hx hb dL_law_32 (by rw [c32_18]; decide) (by rw [c32_18]; decide) (by rw [c32_18]; decide) (by decide) ?_
      exact lw_case_worst C1 (n9 := n) (by omega) hC hLi hP hD hS hl (fun c9 q9 r1 r2 hc hq => go c9 q9 (st_worst hR hc hq))
    by_cases c32_19 : x = 19
    · refine lv_tableIn (off := 575) (tgt := 607) hx hb dL_law_32 (by rw [c32_19]; decide) (by rw [c32_19]; decide) (by rw [c32_19]; decide) (by decide) ?_
      exact lw_case_findings C1 (n9 := n) (by omega) hC hLi hP hD hS hl (fun c9 q9 r1 r2 hc hq => go c9 q9 (st_findings hR hc hq))
    by_cases c32_20 : x = 20
    · refine lv_tableIn (off := 598) (tgt := 630) hx hb dL_law_32 (by rw [c32_20]; decide) (by rw [c32_20]; decide) (by rw [c32_20]; decide) (by decide) ?_
      exact lw_case_widthFor C1 (n9 := n) (by omega) hC hLi hP hD hS hl (fun c9 q9 r1 r2 hc hq => go c9 q9 (st_widthFor hR hc hq))
    by_cases c32_21 : x = 21
    · refine lv_tableIn (off := 611) (tgt := 643) hx hb dL_law_32 (by rw [c32_21]; decide) (by rw [c32_21]; decide) (by rw [c32_21]; decide) (by decide) ?_
      exact lw_case_keep C1 (n9 := n) (by omega) hC hLi hP hD hS hl (fun c9 q9 r1 r2 hc hq => go c9 q9 (st_keep hR hc hq))
    by_cases c32_22 : x = 22
    · refine lv_tableIn (off := 624) (tgt := 656) hx hb dL_law_32 (by rw [c32_22]; decide) (by rw [c32_22]; decide) (by rw [c32_22]; decide) (by decide) ?_
      exact lw_case_compare C1 (n9 := n) (by omega) hC hLi hP hD hS hl (fun c9 q9 r1 r2 hc hq => go c9 q9 (st_compare hR hc hq))
    have c32_0i := lv_neT (a := 0) c32_0 (by decide)
    have c32_1i := lv_neT (a := 1) c32_1 (by decide)
    have c32_2i := lv_neT (a := 2) c32_2 (by decide)
    have c32_3i := lv_neT (a := 3) c32_3 (by decide)
    have c32_4i := lv_neT (a := 4) c32_4 (by decide)
    have c32_5i := lv_neT (a := 5) c32_5 (by decide)
    have c32_6i := lv_neT (a := 6) c32_6 (by decide)
    have c32_7i := lv_neT (a := 7) c32_7 (by decide)
    have c32_8i := lv_neT (a := 8) c32_8 (by decide)
    have c32_9i := lv_neT (a := 9) c32_9 (by decide)
    have c32_10i := lv_neT (a := 10) c32_10 (by decide)
    have c32_11i := lv_neT (a := 11) c32_11 (by decide)
    have c32_12i := lv_neT (a := 12) c32_12 (by decide)
    have c32_13i := lv_neT (a := 13) c32_13 (by decide)
    have c32_14i := lv_neT (a := 14) c32_14 (by decide)
    have c32_15i := lv_neT (a := 15) c32_15 (by decide)
    have c32_16i := lv_neT (a := 16) c32_16 (by decide)
    have c32_17i := lv_neT (a := 17) c32_17 (by decide)
    have c32_18i := lv_neT (a := 18) c32_18 (by decide)
    have c32_19i := lv_neT (a := 19) c32_19 (by decide)
    have c32_20i := lv_neT (a := 20) c32_20 (by decide)
    have c32_21i := lv_neT (a := 21) c32_21 (by decide)
    have c32_22i := lv_neT (a := 22) c32_22 (by decide)
    refine lv_tableOut (tgt := 699) hx hb dL_law_32 (by omega) (by decide) ?_
    refine lw_next C1 hl (fun ls hl => ?_)
    exact ih (n + 1) cd w z j (by omega) (by omega) (ftR2_up0 hR rfl hR.2.1 rfl rfl hR.2.2.2.2.2.1) H locs hP hD hS ls (show ftLs ls b o0 m0 (5 * (n + 1)) by rw [show 5 * (n + 1) = 5 * n + 5 by omega]; exact hl)
set_option maxHeartbeats 4000000 in
set_option maxRecDepth 100000 in
theorem whole_start {p : Program} {e : Env} {s : State} {m : MethodId} {below : List Frame} {meth : Method} {c : Code} (l : Launch) (hflags : l.flags = flags0) {b L : Nat} {xs : Nat → Int32} (hL : L ≤ 2560) (C0 : lw_At p s m meth c b L xs) : W p l e room_1 s m #[Value.ref b] below meth c s.heap [] 0 0 (lw_Z below #[Value.ref b] s) (entryFrame m ([Value.ref b] : List Value).toArray 4) := by
  obtain ⟨hx, hb, hr, hml, hown, hts, hX, hbl, hlocks, hgv⟩ := id C0
  have htl : ∀ w ∈ wsL_law, w.before #[Value.ref b] s = true := fun w h => hts w (wsL_law_in w h)
  have hA : ∀ q : Nat, s.heap.size ≤ q → (fun q : Nat => s.heap.size ≤ q) q := fun _ h => h
  obtain ⟨D, cI, cS, sK, sV, hKK, hSt, hAO⟩ := ft_start hts hgv
  have hK := hKK.1
  have C1 : lw_Cx p s m meth c b L xs D cI cS sK sV := ⟨C0, hKK, hSt, by omega⟩
  have hS : va_S (fun q : Nat => s.heap.size ≤ q) s.heap s.heap [] := va_S.rf
  have hP : va_P D vwCl [] s.heap := fun k q h => by simp at h
  have hD : va_D (fun q : Nat => s.heap.size ≤ q) [] := ⟨fun i j p q h => by simp at h, fun k q h => by simp at h⟩
  have hl := lv_entry ([.ref b]) (n := 4) (Nat.le_of_ble_eq_true rfl)
  rw [lg_entry_eq]
  generalize (lg_sl ([.ref b]) ++ List.replicate (4 - (lg_sl ([.ref b])).length) Slot.unset).toArray = ls at hl ⊢
  have hl : lv_has ls 4 [(0, .ref b)] := hl
  refine va_new (ci := 10) (fs := [.null, .null, .null, .null, .null, .null, .null, .null, .null, .null, .int 0]) (C := RX10) (T := TX10) (N := 11) hx hb hts inX10 tyX10 tyX10_ok hown (hts (.classLink RL 7 RX10) (by decide +kernel)) (hts (.instantiable RX10 11) (by decide +kernel)) (hts (.initialized RX10) (by decide +kernel)) hK hP hD hS hA rfl nwX10 (Nat.le_of_ble_eq_true rfl) (Nat.le_of_ble_eq_true rfl) dL_law_0 (fun q0 H hP hD hS => ?_)
  refine W.widen (k := 1) (n := 11) (Nat.le_of_ble_eq_true rfl) (Nat.le_of_ble_eq_true rfl) ?_
  refine lv_dup hx hb dL_law_3 rfl ?_
  refine ft_newc (ws := []) (x := (q0, .inr (10, [.null, .null, .null, .null, .null, .null, .null, .null, .null, .null, .int 0]))) (S := Nat → Nat → Nat) (w1 := fun (A0 : Nat → Nat → Nat) => [(q0, .inr (10, [.ref (A0 0 0), .ref (A0 0 1), .ref (A0 0 2), .ref (A0 0 3), .ref (A0 0 4), .ref (A0 0 5), .ref (A0 0 6), .ref (A0 0 7), .ref (A0 0 8), .ref (A0 0 9), .int 0])), (A0 0 0, .inr (8, [.ref (A0 1 0), .ref (A0 1 5), .int 0])), (A0 1 0, .inr (4, [.int 200, .int 10, .int 12000, .int 0, .ref (A0 1 1), .ref (A0 1 2), .ref (A0 1 3), .ref (A0 1 4)])), (A0 1 1, .inl (cI, 10, .inl (fun _ => 0))), (A0 1 2, .inl (cI, 10, .inl (fun _ => 0))), (A0 1 3, .inl (cI, 10, .inl (fun _ => 0))), (A0 1 4, .inl (cI, 10, .inl (fun _ => 0))), (A0 1 5, .inl (cI, 11, .inl (va_cpy (ftTb 2) (fun _ => 0) 0 0 11))), (A0 0 1, .inr (2, [.ref (A0 17 0), .int 0, .int 0])), (A0 17 0, .inl (cS, 5, .inr (.inr (.inr (.inr (fun t => some (A0 10 t))))))), (A0 10 0, .inr (8, [.ref (A0 11 0), .ref (A0 16 0), .int 0])), (A0 11 0, .inr (4, [.int 200, .int 10, .int 12000, .int 0, .ref (A0 12 0), .ref (A0 13 0), .ref (A0 14 0), .ref (A0 15 0)])), (A0 12 0, .inl (cI, 10, .inl (fun _ => 0))), (A0 13 0, .inl (cI, 10, .inl (fun _ => 0))), (A0 14 0, .inl (cI, 10, .inl (fun _ => 0))), (A0 15 0, .inl (cI, 10, .inl (fun _ => 0))), (A0 16 0, .inl (cI, 11, .inl (va_cpy (ftTb 2) (fun _ => 0) 0 0 11))), (A0 10 1, .inr (8, [.ref (A0 11 1), .ref (A0 16 1), .int 0])), (A0 11 1, .inr (4, [.int 200, .int 10, .int 12000, .int 0, .ref (A0 12 1), .ref (A0 13 1), .ref (A0 14 1), .ref (A0 15 1)])), (A0 12 1, .inl (cI, 10, .inl (fun _ => 0))), (A0 13 1, .inl (cI, 10, .inl (fun _ => 0))), (A0 14 1, .inl (cI, 10, .inl (fun _ => 0))), (A0 15 1, .inl (cI, 10, .inl (fun _ => 0))), (A0 16 1, .inl (cI, 11, .inl (va_cpy (ftTb 2) (fun _ => 0) 0 0 11))), (A0 10 2, .inr (8, [.ref (A0 11 2), .ref (A0 16 2), .int 0])), (A0 11 2, .inr (4, [.int 200, .int 10, .int 12000, .int 0, .ref (A0 12 2), .ref (A0 13 2), .ref (A0 14 2), .ref (A0 15 2)])), (A0 12 2, .inl (cI, 10, .inl (fun _ => 0))), (A0 13 2, .inl (cI, 10, .inl (fun _ => 0))), (A0 14 2, .inl (cI, 10, .inl (fun _ => 0))), (A0 15 2, .inl (cI, 10, .inl (fun _ => 0))), (A0 16 2, .inl (cI, 11, .inl (va_cpy (ftTb 2) (fun _ => 0) 0 0 11))), (A0 10 3, .inr (8, [.ref (A0 11 3), .ref (A0 16 3), .int 0])), (A0 11 3, .inr (4, [.int 200, .int 10, .int 12000, .int 0, .ref (A0 12 3), .ref (A0 13 3), .ref (A0 14 3), .ref (A0 15 3)])), (A0 12 3, .inl (cI, 10, .inl (fun _ => 0))), (A0 13 3, .inl (cI, 10, .inl (fun _ => 0))), (A0 14 3, .inl (cI, 10, .inl (fun _ => 0))), (A0 15 3, .inl (cI, 10, .inl (fun _ => 0))), (A0 16 3, .inl (cI, 11, .inl (va_cpy (ftTb 2) (fun _ => 0) 0 0 11))), (A0 10 4, .inr (8, [.ref (A0 11 4), .ref (A0 16 4), .int 0])), (A0 11 4, .inr (4, [.int 200, .int 10, .int 12000, .int 0, .ref (A0 12 4), .ref (A0 13 4), .ref (A0 14 4), .ref (A0 15 4)])), (A0 12 4, .inl (cI, 10, .inl (fun _ => 0))), (A0 13 4, .inl (cI, 10, .inl (fun _ => 0))), (A0 14 4, .inl (cI, 10, .inl (fun _ => 0))), (A0 15 4, .inl (cI, 10, .inl (fun _ => 0))), (A0 16 4, .inl (cI, 11, .inl (va_cpy (ftTb 2) (fun _ => 0) 0 0 11))), (A0 0 2, .inr (5, [.ref (A0 3 0), .ref (A0 3 1), .ref (A0 3 2), .ref (A0 3 3), .int 0, .int 0, .int 0, .int 0, .int 0])), (A0 3 0, .inl (cI, 120, .inl (fun _ => 0))), (A0 3 1, .inl (cI, 3, .inl (fun _ => 0))), (A0 3 2, .inl (cI, 3, .inl (fun _ => 0))), (A0 3 3, .inr (4, [.int 200, .int 10, .int 12000, .int 0, .ref (A0 3 4), .ref (A0 3 5), .ref (A0 3 6), .ref (A0 3 7)])), (A0 3 4, .inl (cI, 10, .inl (fun _ => 0))), (A0 3 5, .inl (cI, 10, .inl (fun _ => 0))), (A0 3 6, .inl (cI, 10, .inl (fun _ => 0))), (A0 3 7, .inl (cI, 10, .inl (fun _ => 0))), (A0 0 3, .inr (3, [.ref (A0 4 0), .ref (A0 4 1)])), (A0 4 0, .inl (cI, 3680, .inl (fun _ => 0))), (A0 4 1, .inl (cI, 8, .inl (fun _ => 0))), (A0 0 4, .inr (0, [.int 0, .int 0, .int 0, .int 0])), (A0 0 5, .inr (6, [.int 0, .int 0])), (A0 0 6, .inr (1, [.ref (A0 6 0), .ref (A0 6 1), .int 0, .ref (A0 6 2), .ref (A0 6 3), .ref (A0 6 4), .int 0])), (A0 6 0, .inl (cI, 11, .inl (fun _ => 0))), (A0 6 1, .inl (cI, 11, .inl (fun _ => 0))), (A0 6 2, .inl (cI, 55, .inl (fun _ => 0))), (A0 6 3, .inl (cI, 55, .inl (fun _ => 0))), (A0 6 4, .inl (cI, 55, .inl (fun _ => 0))), (A0 0 7, .inr (9, [.ref (A0 7 0), .ref (A0 7 1), .ref (A0 7 2), .ref (A0 7 3), .int 0, .int 0, .int 0, .int 0, .int 0])), (A0 7 0, .inl (cI, 460, .inl (fun _ => 0))), (A0 7 1, .inl (cI, 460, .inl (fun _ => 0))), (A0 7 2, .inl (cI, 460, .inl (fun _ => 0))), (A0 7 3, .inl (cI, 460, .inl (fun _ => 0))), (A0 0 8, .inr (7, [.ref (A0 8 0), .ref (A0 8 1), .ref (A0 8 2), .ref (A0 8 3), .ref (A0 8 4), .ref (A0 8 5), .ref (A0 8 6), .ref (A0 8 7), .int 0, .int 0])), (A0 8 0, .inl (cI, 30, .inl (fun _ => 0))), (A0 8 1, .inl (cI, 30, .inl (fun _ => 0))), (A0 8 2, .inl (cI, 30, .inl (fun _ => 0))), (A0 8 3, .inl (cI, 30, .inl (fun _ => 0))), (A0 8 4, .inl (cI, 30, .inl (fun _ => 0))), (A0 8 5, .inl (cI, 30, .inl (fun _ => 0))), (A0 8 6, .inl (cI, 30, .inl (fun _ => 0))), (A0 8 7, .inl (cI, 30, .inl (fun _ => 0))), (A0 0 9, .inl (cI, 11, .inl (fun _ => 0)))]) (va_runI (As := []) (rest := [.ref q0]) ⟨hx, hb, hml, hown, htl⟩ (c_X10_init l D cI cS H.size sK sV q0) (cwI 0 htl gL_law_X10_init rfl rfl rfl (hts (.initialized RX10) (by decide +kernel)) (hts (.methodLink RL 9 yX10_init) (by decide +kernel)) (hts (.instanceMethod yX10_init) (by decide +kernel)) rfl (by decide +kernel) ⟨Nat.le_of_ble_eq_true rfl, Nat.le_of_ble_eq_true rfl⟩) (ft_preRWSA hP hD hKK hSt hAO hS hA [0] rfl rfl rfl) rfl rfl hl.1 rfl (lv_room (Nat.le_of_ble_eq_true rfl)) dL_law_4 ⟨Nat.le_of_ble_eq_true rfl, Nat.le_of_ble_eq_true rfl⟩) hP hD hS hA (fun A0 _ H locs hP hD hS => ?_)
  refine W.widen (k := 80) (n := 6574) (Nat.le_of_ble_eq_true rfl) (Nat.le_of_ble_eq_true rfl) ?_
  have hP : va_P D vwCl (ftCB9 cI cS q0 A0 (ftC0.1.2.1 0) ftC0) H := hP
  have hD : va_D (fun q : Nat => s.heap.size ≤ q) (ftCB9 cI cS q0 A0 (ftC0.1.2.1 0) ftC0) := hD
  refine lv_astore_n (lv' := [(1, .ref q0), (0, .ref b)]) hx hb dL_law_7 rfl hl (by decide) rfl (fun ls hl => ?_)
  refine va_new (ci := 11) (fs := [.null, .null, .int 0, .null, .int 0, .null, .int 0, .int 0, .int 0, .int 0, .null, .int 0, .null, .null, .null, .int 0, .null, .null, .int 0, .null, .null, .null, .null, .int 0, .int 0, .null, .null, .null, .null, .null, .null, .null, .null]) (C := RX11) (T := TX11) (N := 33) hx hb hts inX11 tyX11 tyX11_ok hown (hts (.classLink RL 10 RX11) (by decide +kernel)) (hts (.instantiable RX11 33) (by decide +kernel)) (hts (.initialized RX11) (by decide +kernel)) hK hP hD hS hA rfl nwX11 (Nat.le_of_ble_eq_true rfl) (Nat.le_of_ble_eq_true rfl) dL_law_8 (fun q8 H hP hD hS => ?_)
  refine W.widen (k := 81) (n := 6607) (Nat.le_of_ble_eq_true rfl) (Nat.le_of_ble_eq_true rfl) ?_
  refine lv_dup hx hb dL_law_11 rfl ?_
  generalize hX9 : ftCB9 cI cS q0 A0 (ftC0.1.2.1 0) ftC0 = X9 at hP hD
  have hX8 : X9.length = 80 := by rw [← hX9]; rfl
  refine ft_newc (ws := X9) (x := (q8, .inr (11, [.null, .null, .int 0, .null, .int 0, .null, .int 0, .int 0, .int 0, .int 0, .null, .int 0, .null, .null, .null, .int 0, .null, .null, .int 0, .null, .null, .null, .null, .int 0, .int 0, .null, .null, .null, .null, .null, .null, .null, .null]))) (S := Nat → Nat) (w1 := fun (P : Nat → Nat) => ftRB cI q8 P ((ftW0, ftZr, ftZr), (0, 0), ftJ0)) (va_runI (As := []) (rest := [.ref q8]) ⟨hx, hb, hml, hown, htl⟩ (c_X11_init l D cI cS H.size q8) (cwI 0 htl gL_law_X11_init rfl rfl rfl (hts (.initialized RX11) (by decide +kernel)) (hts (.methodLink RL 12 yX11_init) (by decide +kernel)) (hts (.instanceMethod yX11_init) (by decide +kernel)) rfl (by decide +kernel) ⟨Nat.le_of_ble_eq_true rfl, Nat.le_of_ble_eq_true rfl⟩) (ft_preN hP hD hKK) rfl rfl hl.1 rfl (lv_room (Nat.le_of_ble_eq_true rfl)) dL_law_12 ⟨Nat.le_of_ble_eq_true rfl, Nat.le_of_ble_eq_true rfl⟩) hP hD hS hA (fun P _ H locs hP hD hS => ?_)
  refine W.widen (k := 600000) (n := 7302250) (Nat.le_of_ble_eq_true rfl) (Nat.le_of_ble_eq_true rfl) ?_
  rw [← hX9] at hP hD
  refine lv_astore_n (lv' := [(2, .ref q8), (1, .ref q0), (0, .ref b)]) hx hb dL_law_15 rfl hl (by decide) rfl (fun ls hl => ?_)
  refine lv_iconst (v := 0) hx hb dL_law_16 (by decide) ?_
  refine lv_istore_n (lv' := [(3, .int 0), (2, .ref q8), (1, .ref q0), (0, .ref b)]) hx hb dL_law_17 rfl hl (by decide) rfl (fun ls hl => ?_)
  have hl : ftLs ls b q0 q8 0 := lv_sub hl [3, 2, 1, 0] rfl
  exact lw_loop C1 hL L 0 ftC0 ftW0 ftZr ftJ0 (by omega) (by omega) ftR2_0 _ _ hP hD hS ls hl
set_option maxHeartbeats 4000000 in
theorem lw_walk (l : Launch) (hflags : l.flags = flags0) (b : Addr) (xs : List Int32) : MetFree l x (headSpec (Jvm.Cond.code x code maxLocals ret :: tables_1) room_1) (lw_P b xs) (fun _ _ _ _ _ => True) lw_Q := by
  refine MetFree.of_bodyS (code := code) (maxLocals := maxLocals) (ret := ret) (by decide) ?_ ?_
  · intro args s m h hn
    obtain ⟨meth, c, h1, h2, h3, h4, h5, h6, -, -⟩ := Cond.code_spec hn (atoms_spec (ws := Jvm.Cond.code x code maxLocals ret :: tables_1) h _ List.mem_cons_self)
    exact ⟨meth, c, h1, h2, h3, h4, h5, h6⟩
  · intro p e s m args below meth c s₁ B hml0 hP _
    obtain ⟨rfl, hx, hbd, hgv⟩ := hP
    obtain ⟨scr, harrAt, hlist, hof, hsmall⟩ := hx
    obtain ⟨hcb, hkn, -, -⟩ := State.arrayAt?_spec harrAt
    have hown : s.vm.findClass R_law = some m.cls := findClass_of_methodNamed B.named
    have hts0 : ∀ c ∈ (Jvm.Cond.code x code maxLocals ret :: tables_1), c.before #[Value.ref b] s = true := atoms_spec (ws := Jvm.Cond.code x code maxLocals ret :: tables_1) B.pre
    have hts : ∀ w ∈ lw_tbl, w.before #[Value.ref b] s = true := k2_hts_sels lw_privs (fun w hw => hts0 w (List.mem_cons_of_mem _ hw)) lw_privs_ok
    have hml : c.maxLocals = 4 := B.maxLocals_eq (hts0 _ List.mem_cons_self)
    have X₀ : Stand p l e room_1 s m #[Value.ref b] below meth c s₁ [] 0 0 := Stand.of_body B
    have hh0 : s₁.heap = s.heap := by rw [B.state]; rfl
    have hsz : scr.slots.size = xs.length := by rw [← Array.length_toList, hlist, List.length_map]
    have hval : ∀ j : Nat, j < xs.length → scr.slots[j]? = some (.int (xs.getD j 0)) := fun j hj => by
      rw [← Array.getElem?_toList, hlist]
      simp [hj]
    have hbl : b < s.heap.size := (Array.getElem?_eq_some_iff.mp hcb).1
    have hX : va_X b xs.length (fun j => xs.getD j 0) s s.heap := ⟨scr, hcb, hof, hkn, hsz, hval⟩
    have K : W p l e room_1 s m #[Value.ref b] below meth c s₁.heap [] 0 0 (lw_Z below #[Value.ref b] s) (entryFrame m ([Value.ref b] : List Value).toArray 4) := by
      rw [hh0]
      exact whole_start l hflags hbd ⟨B.exec, B.bytes, B.returns, hml, hown, hts, hX, hbl, B.notSynchronized, hgv⟩
    obtain ⟨t, a1, o, b1, b2, b3⟩ := K s₁ rfl X₀
    exact ⟨t, o, a1, b1, b2, b3⟩
theorem lw_pre_spec {args : Array Value} {s : State} (h : (Jvm.Cond.and given_1 narrow_1).before args s = true) (hr : rest_1_c.before args s = true) : ∃ (b : Addr) (xs : List Int32), lw_P b xs args s := by
  have hs := flat_of_before _ h
  have hq := flat_of_before _ hr
  have hc : (Cond.count 1).before args s = true := hs _ (by decide +kernel)
  have harr : (Cond.arrayOf (.arg 0) .int).before args s = true := hs _ (by decide +kernel)
  have hle : (Cond.le (.length (.arg 0)) (.int 2560)).before args s = true := hs _ (by decide +kernel)
  have hlen : (Cond.isInt (.length (.arg 0))).before args s = true := hq _ (by decide +kernel)
  have hall : (Cond.all (.arg 0) (.isInt (.elem (.arg 0) (.index 0)))).before args s = true := hq _ (by decide +kernel)
  obtain ⟨b, xs, hb, hx⟩ := State.ints_of_pre rfl harr hlen hall
  have hsm : xs.length < 2 ^ 31 := hx.choose_spec.2.2.2
  have hev : (Term.length (.arg 0)).eval args s none [] s = some (.int xs.length.toInt32) := hx.length_eval hb
  have hv := Cond.le_ints hev (show (Term.int 2560).eval args s none [] s = some (.int 2560) from rfl)
  have hd : xs.length.toInt32 ≤ 2560 := by
    simpa [Cond.before, Cond.holds, hv] using hle
  have hN : xs.length ≤ 2560 := (Int32.ofNat_le_ofNat hsm (by decide)).mp (show Int32.ofNat xs.length ≤ Int32.ofNat 2560 from hd)
  exact ⟨b, xs, Cond.one_arg hc (show args[0]? = some (.ref b) from hb), hx, hN, h⟩
theorem lw_comes (l : Launch) (hflags : l.flags = flags0) : Comes l x (Jvm.Cond.code x code maxLocals ret :: tables_1) room_1 (fun tb e args s => Calls_1 tb e args s ∧ rest_1 tb e args s ∧ Pre_1 tb e args s)
    (fun _ _ args s o t => lw_Q args s o t) := by
  intro p e ha hc hk s m args below hf hfit hheap happ hpre
  obtain ⟨b, xs, hP⟩ := lw_pre_spec hpre.2.2 hpre.2.1
  obtain ⟨k, o, h1, h2, h3, hQ⟩ := lw_walk l hflags b xs p e ha hc hk s m args below hf ((Spec.applies_iff_loose hf).mp happ).1 hP trivial
  exact ⟨k, o, h1, h2, h3, hQ⟩
theorem lw_frame {s t : State} {o : Outcome} {args : Array Value} (h : Framed s o t [] 600000 7302250) :
    Framed s o t (fieldLocs frame_1_writes args s ++ arrayLocs frame_1_arrays args s ++ staticLocs frame_1_statics s) 600000 7302250 := h
theorem lw_limb (L : Cond) (hL : ∀ (args : Array Value) (s t : State), L.after args s (.returned (some (.int 1))) t = true) :
    ArmFor flags0 classFile x code maxLocals ret World_1 tables_1 room_1 Calls_1 rest_1 Pre_1
      (fun tb e a s o t => postC L tb e a s o t ∧ Framed s o t (fieldLocs frame_1_writes a s ++ arrayLocs frame_1_arrays a s ++ staticLocs frame_1_statics s) 600000 7302250) := by
  intro l hflags _ _ p e ha hc hk s m args below hf hfit hheap happ hpre
  obtain ⟨k, o, h1, h2, h3, rfl, hF⟩ := lw_comes l hflags p e ha hc hk s m args below hf hfit hheap happ hpre
  exact ⟨k, _, h1, h2, h3, hL args s _, lw_frame hF⟩
theorem i_vc : Claimed_1_1 ∧ Claimed_1_2 := ⟨lw_limb limb_1_1 (fun args s t => by simp [limb_1_1, Cond.after, Cond.holds, Cond.value]), lw_limb limb_1_2 (fun args s t => Cond.after_iff.mpr (by
  first | (rw [show limb_1_2 = Cond.eq .result (.int 1) from rfl, Cond.eq_ints (x := 1) (y := 1) rfl rfl]; simp; done) | (simp [limb_1_2, Cond.value, Term.eval]; done)))⟩
