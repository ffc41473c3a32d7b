section
set_option maxHeartbeats 4000000 in
set_option maxRecDepth 100000 in
theorem lw_case_type {l : Launch} {p : Program} {e : Env} {s : State} {m : MethodId} {below : List Frame} {meth : Method} {c : Code} {b L : Nat} {xs : Nat → Int32} {D : va_G} {cI cS : ClassId} {sK sV : Nat → Nat} (C0 : lw_Cx p s m meth c b L xs D cI cS sK sV) {o0 m0 i : Nat} {A0 : Nat → Nat → Nat} {P : Nat → Nat} {cd : ftCdT} {w z : Nat → Int32} {j : ftRD} {n9 : Nat} (hn9 : n9 < 1000) (hR : ftCR n9 cd w (cd.1.1 3)) (hLi : i + 5 ≤ L) {H : Heap} {locs : List Loc} (hP : va_P D vwCl (ftCB9 cI cS o0 A0 (cd.1.2.1 0) cd ++ ftRB cI m0 P ((w, z, cd.2.2.1.2.1), (cd.1.1 3, cd.2.2.1.1), j)) H) (hD : va_D (fun q => s.heap.size ≤ q) (ftCB9 cI cS o0 A0 (cd.1.2.1 0) cd ++ ftRB cI m0 P ((w, z, cd.2.2.1.2.1), (cd.1.1 3, cd.2.2.1.1), j))) (hS : va_S (fun q => s.heap.size ≤ q) s.heap H locs) {ls : Array Slot} (hl : ftLs ls b o0 m0 i) (kk : ∀ (c9 : ftCdT) (q9 : ftRR) (r1 r2 : Int32), (fun (r : Int32) (c9 : ftCdT) => ∃ _u : Unit, c9 = (cd.1, cd.2.1, (ftTl cd.2.2.1.1 (xs (nI (i + 1)).toNatClampNeg), ftTt cd.2.2.1.2.1 cd.2.2.1.1 (xs (nI (i + 1)).toNatClampNeg), cd.2.2.1.2.2), cd.2.2.2) ∧ r = ftIte (32 ≤ (xs (nI (i + 1)).toNatClampNeg) ∧ (xs (nI (i + 1)).toNatClampNeg) ≤ 126) (if (cd.2.2.1.1) = 120 then -1000003 else nI ((cd.2.2.1.1) + 1)) (-1000001)) r1 c9 → (fun (r : Int32) (q9 : ftRR) => ∃ _u : Unit, q9 = ((w, z, ftTt cd.2.2.1.2.1 (cd.2.2.1.1) (xs (nI (i + 1)).toNatClampNeg)), ((cd.1.1 3), ftTl cd.2.2.1.1 (xs (nI (i + 1)).toNatClampNeg)), j) ∧ r = ftIte (32 ≤ (xs (nI (i + 1)).toNatClampNeg) ∧ (xs (nI (i + 1)).toNatClampNeg) ≤ 126) (if (cd.2.2.1.1) = 120 then -1000003 else nI ((cd.2.2.1.1) + 1)) (-1000001)) r2 q9 → ∀ (H : Heap) (locs : List Loc), va_P D vwCl (ftCB9 cI cS o0 A0 (c9.1.2.1 0) c9 ++ ftRB cI m0 P q9) H → va_D (fun q => s.heap.size ≤ q) (ftCB9 cI cS o0 A0 (c9.1.2.1 0) c9 ++ ftRB cI m0 P q9) → va_S (fun q => s.heap.size ≤ q) s.heap H locs → ftLW l p e s m below meth c b H locs (F0 m 699 ls [])) : ftLW l p e s m below meth c b H locs (F0 m 140 ls []) := by
  obtain ⟨⟨hx, hb, hr, hml, hown, hts, hX, hbl, hlocks, hgv⟩, hKK, hSt, hL30⟩ := C0
  have hbA : ¬ (fun q : Nat => s.heap.size ≤ q) b := Nat.not_le.mpr hbl
  have hA : ∀ q : Nat, s.heap.size ≤ q → (fun q : Nat => s.heap.size ≤ q) q := fun _ h => h
  have htl : ∀ w ∈ wsL_law, w.before #[Value.ref b] s = true := fun w h => hts w (wsL_law_in w h)
  obtain ⟨h1, -, -, -, -, -, -, -, -, -, h11, h12⟩ := id hR
  refine lv_aload_n hx hb dL_law_140 rfl (lv_at hl 1 rfl) ?_
  refine lv_aload_n hx hb dL_law_141 rfl (lv_at hl 0 rfl) ?_
  refine lv_iload_n hx hb dL_law_142 rfl (lv_at hl 3 rfl) ?_
  refine lv_iconst (v := 1) hx hb dL_law_143 (by decide) ?_
  refine lv_iadd hx hb dL_law_144 ?_
  refine ft_top (y := nI (i + 1)) (ft_addN i 1) ?_
  refine va_sld hx hb hX hbl hbA hS (vp_in_nI (by omega) (by omega)) dL_law_145 ?_
  refine ft_callL (X1 := fun c9 => ftCB9 cI cS o0 A0 (c9.1.2.1 0) c9) (va_runV (C := RX10) (As := [.int (xs (nI (i + 1)).toNatClampNeg)]) (rest := []) ⟨hx, hb, hml, hown, htl⟩ (b_X10_type l D cI cS H.size sK sV o0 A0 n9 hn9 cd w (cd.1.1 3) (xs (nI (i + 1)).toNatClampNeg) hR) (cwV 1 htl gL_law_X10_type rfl rfl rfl (by decide +kernel) ⟨Nat.le_of_ble_eq_true rfl, Nat.le_of_ble_eq_true rfl⟩) (ft_preL (ci := 10) hP hD hKK hSt hS hA rfl rfl) rfl rfl hl.1 rfl (lv_room (Nat.le_of_ble_eq_true rfl)) dL_law_146 ⟨Nat.le_of_ble_eq_true rfl, Nat.le_of_ble_eq_true rfl⟩) hP hD hS hA (fun r1 c9 hc9 H locs hP hD hS => ?_)
  refine lv_pop hx hb dL_law_149 rfl ?_
  refine lv_aload_n hx hb dL_law_150 rfl (lv_at hl 2 rfl) ?_
  refine lv_aload_n hx hb dL_law_151 rfl (lv_at hl 0 rfl) ?_
  refine lv_iload_n hx hb dL_law_152 rfl (lv_at hl 3 rfl) ?_
  refine lv_iconst (v := 1) hx hb dL_law_153 (by decide) ?_
  refine lv_iadd hx hb dL_law_154 ?_
  refine ft_top (y := nI (i + 1)) (ft_addN i 1) ?_
  refine va_sld hx hb hX hbl hbA hS (vp_in_nI (by omega) (by omega)) dL_law_155 ?_
  refine ft_callR (X1 := fun (q9 : ftRR) => ftRB cI m0 P q9) (va_runV (C := RX11) (As := [.int (xs (nI (i + 1)).toNatClampNeg)]) (rest := []) ⟨hx, hb, hml, hown, htl⟩ (b_X11_type l D cI cS H.size sK sV m0 P w z cd.2.2.1.2.1 (cd.1.1 3) cd.2.2.1.1 j (xs (nI (i + 1)).toNatClampNeg) h1 h11 h12) (cwV 1 htl gL_law_X11_type rfl rfl rfl (by decide +kernel) ⟨Nat.le_of_ble_eq_true rfl, Nat.le_of_ble_eq_true rfl⟩) (ft_preR (ci := 11) hP hD hKK hSt hS hA rfl rfl) rfl rfl hl.1 rfl (lv_room (Nat.le_of_ble_eq_true rfl)) dL_law_156 ⟨Nat.le_of_ble_eq_true rfl, Nat.le_of_ble_eq_true rfl⟩) hP hD hS hA (fun r2 q9 hq9 H locs hP hD hS => ?_)
  refine lv_pop hx hb dL_law_159 rfl ?_
  refine lv_goto (tgt := 699) hx hb dL_law_160 (by decide) ?_
  exact kk c9 q9 r1 r2 hc9 hq9 H locs hP hD hS
set_option maxHeartbeats 4000000 in
set_option maxRecDepth 100000 in
theorem lw_case_clearText {l : Launch} {p : Program} {e : Env} {s : State} {m : MethodId} {below : List Frame} {meth : Method} {c : Code} {b L : Nat} {xs : Nat → Int32} {D : va_G} {cI cS : ClassId} {sK sV : Nat → Nat} (C0 : lw_Cx p s m meth c b L xs D cI cS sK sV) {o0 m0 i : Nat} {A0 : Nat → Nat → Nat} {P : Nat → Nat} {cd : ftCdT} {w z : Nat → Int32} {j : ftRD} {n9 : Nat} (hn9 : n9 < 1000) (hR : ftCR n9 cd w (cd.1.1 3)) (hLi : i + 5 ≤ L) {H : Heap} {locs : List Loc} (hP : va_P D vwCl (ftCB9 cI cS o0 A0 (cd.1.2.1 0) cd ++ ftRB cI m0 P ((w, z, cd.2.2.1.2.1), (cd.1.1 3, cd.2.2.1.1), j)) H) (hD : va_D (fun q => s.heap.size ≤ q) (ftCB9 cI cS o0 A0 (cd.1.2.1 0) cd ++ ftRB cI m0 P ((w, z, cd.2.2.1.2.1), (cd.1.1 3, cd.2.2.1.1), j))) (hS : va_S (fun q => s.heap.size ≤ q) s.heap H locs) {ls : Array Slot} (hl : ftLs ls b o0 m0 i) (kk : ∀ (c9 : ftCdT) (q9 : ftRR) (r1 r2 : Int32), (fun (r : Int32) (c9 : ftCdT) => ∃ _u : Unit, c9 = (cd.1, cd.2.1, (0, cd.2.2.1.2.1, cd.2.2.1.2.2), cd.2.2.2) ∧ r = nI (cd.2.2.1.1)) r1 c9 → (fun (r : Int32) (q9 : ftRR) => ∃ _u : Unit, q9 = ((w, z, cd.2.2.1.2.1), ((cd.1.1 3), 0), j) ∧ r = (nI (cd.2.2.1.1))) r2 q9 → ∀ (H : Heap) (locs : List Loc), va_P D vwCl (ftCB9 cI cS o0 A0 (c9.1.2.1 0) c9 ++ ftRB cI m0 P q9) H → va_D (fun q => s.heap.size ≤ q) (ftCB9 cI cS o0 A0 (c9.1.2.1 0) c9 ++ ftRB cI m0 P q9) → va_S (fun q => s.heap.size ≤ q) s.heap H locs → ftLW l p e s m below meth c b H locs (F0 m 699 ls [])) : ftLW l p e s m below meth c b H locs (F0 m 163 ls []) := by
  obtain ⟨⟨hx, hb, hr, hml, hown, hts, hX, hbl, hlocks, hgv⟩, hKK, hSt, hL30⟩ := C0
  have hbA : ¬ (fun q : Nat => s.heap.size ≤ q) b := Nat.not_le.mpr hbl
  have hA : ∀ q : Nat, s.heap.size ≤ q → (fun q : Nat => s.heap.size ≤ q) q := fun _ h => h
  have htl : ∀ w ∈ wsL_law, w.before #[Value.ref b] s = true := fun w h => hts w (wsL_law_in w h)
  obtain ⟨h1, -, -, -, -, -, -, -, -, -, h11, h12⟩ := id hR
  refine lv_aload_n hx hb dL_law_163 rfl (lv_at hl 1 rfl) ?_
  refine ft_callL (X1 := fun c9 => ftCB9 cI cS o0 A0 (c9.1.2.1 0) c9) (va_runV (C := RX10) (As := []) (rest := []) ⟨hx, hb, hml, hown, htl⟩ (b_X10_clearText l D cI cS H.size sK sV o0 A0 n9 hn9 cd w (cd.1.1 3) hR) (cwV 0 htl gL_law_X10_clearText rfl rfl rfl (by decide +kernel) ⟨Nat.le_of_ble_eq_true rfl, Nat.le_of_ble_eq_true rfl⟩) (ft_preL (ci := 10) hP hD hKK hSt hS hA rfl rfl) rfl rfl hl.1 rfl (lv_room (Nat.le_of_ble_eq_true rfl)) dL_law_164 ⟨Nat.le_of_ble_eq_true rfl, Nat.le_of_ble_eq_true rfl⟩) hP hD hS hA (fun r1 c9 hc9 H locs hP hD hS => ?_)
  refine lv_pop hx hb dL_law_167 rfl ?_
  refine lv_aload_n hx hb dL_law_168 rfl (lv_at hl 2 rfl) ?_
  refine ft_callR (X1 := fun (q9 : ftRR) => ftRB cI m0 P q9) (va_runV (C := RX11) (As := []) (rest := []) ⟨hx, hb, hml, hown, htl⟩ (b_X11_clearText l D cI cS H.size sK sV m0 P w z cd.2.2.1.2.1 (cd.1.1 3) cd.2.2.1.1 j h1 h11 h12) (cwV 0 htl gL_law_X11_clearText rfl rfl rfl (by decide +kernel) ⟨Nat.le_of_ble_eq_true rfl, Nat.le_of_ble_eq_true rfl⟩) (ft_preR (ci := 11) hP hD hKK hSt hS hA rfl rfl) rfl rfl hl.1 rfl (lv_room (Nat.le_of_ble_eq_true rfl)) dL_law_169 ⟨Nat.le_of_ble_eq_true rfl, Nat.le_of_ble_eq_true rfl⟩) hP hD hS hA (fun r2 q9 hq9 H locs hP hD hS => ?_)
  refine lv_pop hx hb dL_law_172 rfl ?_
  refine lv_goto (tgt := 699) hx hb dL_law_173 (by decide) ?_
  exact kk c9 q9 r1 r2 hc9 hq9 H locs hP hD hS
set_option maxHeartbeats 4000000 in
set_option maxRecDepth 100000 in
theorem lw_case_fault {l : Launch} {p : Program} {e : Env} {s : State} {m : MethodId} {below : List Frame} {meth : Method} {c : Code} {b L : Nat} {xs : Nat → Int32} {D : va_G} {cI cS : ClassId} {sK sV : Nat → Nat} (C0 : lw_Cx p s m meth c b L xs D cI cS sK sV) {o0 m0 i : Nat} {A0 : Nat → Nat → Nat} {P : Nat → Nat} {cd : ftCdT} {w z : Nat → Int32} {j : ftRD} {n9 : Nat} (hn9 : n9 < 1000) (hR : ftCR n9 cd w (cd.1.1 3)) (hLi : i + 5 ≤ L) {H : Heap} {locs : List Loc} (hP : va_P D vwCl (ftCB9 cI cS o0 A0 (cd.1.2.1 0) cd ++ ftRB cI m0 P ((w, z, cd.2.2.1.2.1), (cd.1.1 3, cd.2.2.1.1), j)) H) (hD : va_D (fun q => s.heap.size ≤ q) (ftCB9 cI cS o0 A0 (cd.1.2.1 0) cd ++ ftRB cI m0 P ((w, z, cd.2.2.1.2.1), (cd.1.1 3, cd.2.2.1.1), j))) (hS : va_S (fun q => s.heap.size ≤ q) s.heap H locs) {ls : Array Slot} (hl : ftLs ls b o0 m0 i) (kk : ∀ (c9 : ftCdT) (q9 : ftRR) (r1 r2 : Int32), (fun (r : Int32) (c9 : ftCdT) => ∃ u : Int32 × Nat × (Nat → Int32) × (Nat → Nat → Int32), c9 = (cd.1, cd.2.1, (cd.2.2.1.1, cd.2.2.1.2.1, u.2), cd.2.2.2) ∧ (r = u.1 ∧ (¬ (0 ≤ (xs (nI (i + 1)).toNatClampNeg) ∧ (xs (nI (i + 1)).toNatClampNeg) ≤ 2) → u.1 = -1000001) ∧ ((0 ≤ (xs (nI (i + 1)).toNatClampNeg) ∧ (xs (nI (i + 1)).toNatClampNeg) ≤ 2) → ¬ ftCPar cd.2.2.1.2.1 (cd.2.2.1.1) = none → u.1 = -1000004))) r1 c9 → (fun (r : Int32) (q9 : ftRR) => ∃ u : (Nat → Int32) × (Nat → Nat → Int32), q9 = ((w, z, cd.2.2.1.2.1), ((cd.1.1 3), cd.2.2.1.1), ((fun k => match k with | 6 => u.1 6 | 7 => u.1 7 | 8 => u.1 8 | 9 => u.1 9 | 11 => u.1 11 | k => j.1 k), (fun k => match k with | 5 => u.2 5 | 10 => u.2 10 | k => j.2 k))) ∧ (r = u.1 50 ∧ (¬ (0 ≤ (xs (nI (i + 1)).toNatClampNeg) ∧ (xs (nI (i + 1)).toNatClampNeg) ≤ 2) → u.1 50 = -1000001) ∧ ((0 ≤ (xs (nI (i + 1)).toNatClampNeg) ∧ (xs (nI (i + 1)).toNatClampNeg) ≤ 2) → ¬ ftCPar cd.2.2.1.2.1 (cd.2.2.1.1) = none → u.1 50 = -1000004))) r2 q9 → ∀ (H : Heap) (locs : List Loc), va_P D vwCl (ftCB9 cI cS o0 A0 (c9.1.2.1 0) c9 ++ ftRB cI m0 P q9) H → va_D (fun q => s.heap.size ≤ q) (ftCB9 cI cS o0 A0 (c9.1.2.1 0) c9 ++ ftRB cI m0 P q9) → va_S (fun q => s.heap.size ≤ q) s.heap H locs → ftLW l p e s m below meth c b H locs (F0 m 699 ls [])) : ftLW l p e s m below meth c b H locs (F0 m 176 ls []) := by
  obtain ⟨⟨hx, hb, hr, hml, hown, hts, hX, hbl, hlocks, hgv⟩, hKK, hSt, hL30⟩ := C0
  have hbA : ¬ (fun q : Nat => s.heap.size ≤ q) b := Nat.not_le.mpr hbl
  have hA : ∀ q : Nat, s.heap.size ≤ q → (fun q : Nat => s.heap.size ≤ q) q := fun _ h => h
  have htl : ∀ w ∈ wsL_law, w.before #[Value.ref b] s = true := fun w h => hts w (wsL_law_in w h)
  obtain ⟨h1, -, -, -, -, -, -, -, -, -, h11, h12⟩ := id hR
  refine lv_aload_n hx hb dL_law_176 rfl (lv_at hl 1 rfl) ?_
  refine lv_aload_n hx hb dL_law_177 rfl (lv_at hl 0 rfl) ?_
  refine lv_iload_n hx hb dL_law_178 rfl (lv_at hl 3 rfl) ?_
  refine lv_iconst (v := 1) hx hb dL_law_179 (by decide) ?_
  refine lv_iadd hx hb dL_law_180 ?_
  refine ft_top (y := nI (i + 1)) (ft_addN i 1) ?_
  refine va_sld hx hb hX hbl hbA hS (vp_in_nI (by omega) (by omega)) dL_law_181 ?_
  refine ft_callL (X1 := fun c9 => ftCB9 cI cS o0 A0 (c9.1.2.1 0) c9) (va_runV (C := RX10) (As := [.int (xs (nI (i + 1)).toNatClampNeg)]) (rest := []) ⟨hx, hb, hml, hown, htl⟩ (b_X10_fault l D cI cS H.size sK sV o0 A0 n9 hn9 cd w (cd.1.1 3) (xs (nI (i + 1)).toNatClampNeg) hR) (cwV 1 htl gL_law_X10_fault rfl rfl rfl (by decide +kernel) ⟨Nat.le_of_ble_eq_true rfl, Nat.le_of_ble_eq_true rfl⟩) (ft_preL (ci := 10) hP hD hKK hSt hS hA rfl rfl) rfl rfl hl.1 rfl (lv_room (Nat.le_of_ble_eq_true rfl)) dL_law_182 ⟨Nat.le_of_ble_eq_true rfl, Nat.le_of_ble_eq_true rfl⟩) hP hD hS hA (fun r1 c9 hc9 H locs hP hD hS => ?_)
  refine lv_pop hx hb dL_law_185 rfl ?_
  refine lv_aload_n hx hb dL_law_186 rfl (lv_at hl 2 rfl) ?_
  refine lv_aload_n hx hb dL_law_187 rfl (lv_at hl 0 rfl) ?_
  refine lv_iload_n hx hb dL_law_188 rfl (lv_at hl 3 rfl) ?_
  refine lv_iconst (v := 1) hx hb dL_law_189 (by decide) ?_
  refine lv_iadd hx hb dL_law_190 ?_
  refine ft_top (y := nI (i + 1)) (ft_addN i 1) ?_
  refine va_sld hx hb hX hbl hbA hS (vp_in_nI (by omega) (by omega)) dL_law_191 ?_
  refine ft_callR (X1 := fun (q9 : ftRR) => ftRB cI m0 P q9) (va_runV (C := RX11) (As := [.int (xs (nI (i + 1)).toNatClampNeg)]) (rest := []) ⟨hx, hb, hml, hown, htl⟩ (b_X11_fault l D cI cS H.size sK sV m0 P w z cd.2.2.1.2.1 (cd.1.1 3) cd.2.2.1.1 j (xs (nI (i + 1)).toNatClampNeg) h1 h11 h12) (cwV 1 htl gL_law_X11_fault rfl rfl rfl (by decide +kernel) ⟨Nat.le_of_ble_eq_true rfl, Nat.le_of_ble_eq_true rfl⟩) (ft_preR (ci := 11) hP hD hKK hSt hS hA rfl rfl) rfl rfl hl.1 rfl (lv_room (Nat.le_of_ble_eq_true rfl)) dL_law_192 ⟨Nat.le_of_ble_eq_true rfl, Nat.le_of_ble_eq_true rfl⟩) hP hD hS hA (fun r2 q9 hq9 H locs hP hD hS => ?_)
  refine lv_pop hx hb dL_law_195 rfl ?_
  refine lv_goto (tgt := 699) hx hb dL_law_196 (by decide) ?_
  exact kk c9 q9 r1 r2 hc9 hq9 H locs hP hD hS
set_option maxHeartbeats 4000000 in
set_option maxRecDepth 100000 in
theorem lw_case_lay {l : Launch} {p : Program} {e : Env} {s : State} {m : MethodId} {below : List Frame} {meth : Method} {c : Code} {b L : Nat} {xs : Nat → Int32} {D : va_G} {cI cS : ClassId} {sK sV : Nat → Nat} (C0 : lw_Cx p s m meth c b L xs D cI cS sK sV) {o0 m0 i : Nat} {A0 : Nat → Nat → Nat} {P : Nat → Nat} {cd : ftCdT} {w z : Nat → Int32} {j : ftRD} {n9 : Nat} (hn9 : n9 < 1000) (hR : ftCR n9 cd w (cd.1.1 3)) (hLi : i + 5 ≤ L) {H : Heap} {locs : List Loc} (hP : va_P D vwCl (ftCB9 cI cS o0 A0 (cd.1.2.1 0) cd ++ ftRB cI m0 P ((w, z, cd.2.2.1.2.1), (cd.1.1 3, cd.2.2.1.1), j)) H) (hD : va_D (fun q => s.heap.size ≤ q) (ftCB9 cI cS o0 A0 (cd.1.2.1 0) cd ++ ftRB cI m0 P ((w, z, cd.2.2.1.2.1), (cd.1.1 3, cd.2.2.1.1), j))) (hS : va_S (fun q => s.heap.size ≤ q) s.heap H locs) {ls : Array Slot} (hl : ftLs ls b o0 m0 i) (kk : ∀ (c9 : ftCdT) (q9 : ftRR) (r1 r2 : Int32), (fun (r : Int32) (c9 : ftCdT) => ∃ u : ftSd × Nat × (Nat → Int32) × (Nat → Nat → Int32), c9 = (u.1, cd.2.1, (cd.2.2.1.1, cd.2.2.1.2.1, u.2), cd.2.2.2) ∧ (r = ftIte (¬ ftCPar cd.2.2.1.2.1 (cd.2.2.1.1) = none) (nI (ftCN (ftCPm cd.2.2.1.2.1 (cd.2.2.1.1)))) (-1000002) ∧ (u.1 = ftCh (¬ ftCPar cd.2.2.1.2.1 (cd.2.2.1.1) = none) (ftLayS (ftBg cd.1) u.2) cd.1) ∧ (¬ ftCPar cd.2.2.1.2.1 (cd.2.2.1.1) = none → ftLR (ftCPm cd.2.2.1.2.1 (cd.2.2.1.1)) (u.2.2.1 4) (u.2.2.1 5) (u.2.2.1 6) u.2.1 (u.2.2.2 2) (u.2.2.2 3) (u.2.2.2 4) (u.2.2.2 5)))) r1 c9 → (fun (r : Int32) (q9 : ftRR) => ∃ u : (Nat → Int32) × (Nat → Nat → Int32), q9 = ((ftCh (¬ ftCPar cd.2.2.1.2.1 (cd.2.2.1.1) = none) (ftLayW w (ftCPm cd.2.2.1.2.1 (cd.2.2.1.1))) w, ftCh (¬ ftCPar cd.2.2.1.2.1 (cd.2.2.1.1) = none) (ftPush w z ((cd.1.1 3))) z, cd.2.2.1.2.1), (ftCh (¬ ftCPar cd.2.2.1.2.1 cd.2.2.1.1 = none) (min ((cd.1.1 3) + 1) 5) (cd.1.1 3), cd.2.2.1.1), ((fun k => match k with | 6 => u.1 6 | 7 => u.1 7 | 8 => u.1 8 | 9 => u.1 9 | 11 => u.1 11 | k => j.1 k), (fun k => match k with | 5 => u.2 5 | 10 => u.2 10 | k => j.2 k))) ∧ (r = ftIte (¬ ftCPar cd.2.2.1.2.1 (cd.2.2.1.1) = none) (nI (ftCN (ftCPm cd.2.2.1.2.1 (cd.2.2.1.1)))) (-1000002) ∧ True)) r2 q9 → ∀ (H : Heap) (locs : List Loc), va_P D vwCl (ftCB9 cI cS o0 A0 (c9.1.2.1 0) c9 ++ ftRB cI m0 P q9) H → va_D (fun q => s.heap.size ≤ q) (ftCB9 cI cS o0 A0 (c9.1.2.1 0) c9 ++ ftRB cI m0 P q9) → va_S (fun q => s.heap.size ≤ q) s.heap H locs → ftLW l p e s m below meth c b H locs (F0 m 699 ls [])) : ftLW l p e s m below meth c b H locs (F0 m 199 ls []) := by
  obtain ⟨⟨hx, hb, hr, hml, hown, hts, hX, hbl, hlocks, hgv⟩, hKK, hSt, hL30⟩ := C0
  have hbA : ¬ (fun q : Nat => s.heap.size ≤ q) b := Nat.not_le.mpr hbl
  have hA : ∀ q : Nat, s.heap.size ≤ q → (fun q : Nat => s.heap.size ≤ q) q := fun _ h => h
  have htl : ∀ w ∈ wsL_law, w.before #[Value.ref b] s = true := fun w h => hts w (wsL_law_in w h)
  obtain ⟨h1, -, -, -, -, -, -, -, -, -, h11, h12⟩ := id hR
  refine lv_aload_n hx hb dL_law_199 rfl (lv_at hl 1 rfl) ?_
  refine ft_callL (X1 := fun c9 => ftCB9 cI cS o0 A0 (c9.1.2.1 0) c9) (va_runV (C := RX10) (As := []) (rest := []) ⟨hx, hb, hml, hown, htl⟩ (b_X10_lay l D cI cS H.size sK sV o0 A0 n9 hn9 cd w (cd.1.1 3) hR) (cwV 0 htl gL_law_X10_lay rfl rfl rfl (by decide +kernel) ⟨Nat.le_of_ble_eq_true rfl, Nat.le_of_ble_eq_true rfl⟩) (ft_preL (ci := 10) hP hD hKK hSt hS hA rfl rfl) rfl rfl hl.1 rfl (lv_room (Nat.le_of_ble_eq_true rfl)) dL_law_200 ⟨Nat.le_of_ble_eq_true rfl, Nat.le_of_ble_eq_true rfl⟩) hP hD hS hA (fun r1 c9 hc9 H locs hP hD hS => ?_)
  refine lv_pop hx hb dL_law_203 rfl ?_
  refine lv_aload_n hx hb dL_law_204 rfl (lv_at hl 2 rfl) ?_
  refine ft_callR (X1 := fun (q9 : ftRR) => ftRB cI m0 P q9) (va_runV (C := RX11) (As := []) (rest := []) ⟨hx, hb, hml, hown, htl⟩ (b_X11_lay l D cI cS H.size sK sV m0 P w z cd.2.2.1.2.1 (cd.1.1 3) cd.2.2.1.1 j h1 h11 h12) (cwV 0 htl gL_law_X11_lay rfl rfl rfl (by decide +kernel) ⟨Nat.le_of_ble_eq_true rfl, Nat.le_of_ble_eq_true rfl⟩) (ft_preR (ci := 11) hP hD hKK hSt hS hA rfl rfl) rfl rfl hl.1 rfl (lv_room (Nat.le_of_ble_eq_true rfl)) dL_law_205 ⟨Nat.le_of_ble_eq_true rfl, Nat.le_of_ble_eq_true rfl⟩) hP hD hS hA (fun r2 q9 hq9 H locs hP hD hS => ?_)
  refine lv_pop hx hb dL_law_208 rfl ?_
  refine lv_goto (tgt := 699) hx hb dL_law_209 (by decide) ?_
  exact kk c9 q9 r1 r2 hc9 hq9 H locs hP hD hS
set_option maxHeartbeats 4000000 in
set_option maxRecDepth 100000 in
theorem lw_case_addPart {l : Launch} {p : Program} {e : Env} {s : State} {m : MethodId} {below : List Frame} {meth : Method} {c : Code} {b L : Nat} {xs : Nat → Int32} {D : va_G} {cI cS : ClassId} {sK sV : Nat → Nat} (C0 : lw_Cx p s m meth c b L xs D cI cS sK sV) {o0 m0 i : Nat} {A0 : Nat → Nat → Nat} {P : Nat → Nat} {cd : ftCdT} {w z : Nat → Int32} {j : ftRD} {n9 : Nat} (hn9 : n9 < 1000) (hR : ftCR n9 cd w (cd.1.1 3)) (hLi : i + 5 ≤ L) {H : Heap} {locs : List Loc} (hP : va_P D vwCl (ftCB9 cI cS o0 A0 (cd.1.2.1 0) cd ++ ftRB cI m0 P ((w, z, cd.2.2.1.2.1), (cd.1.1 3, cd.2.2.1.1), j)) H) (hD : va_D (fun q => s.heap.size ≤ q) (ftCB9 cI cS o0 A0 (cd.1.2.1 0) cd ++ ftRB cI m0 P ((w, z, cd.2.2.1.2.1), (cd.1.1 3, cd.2.2.1.1), j))) (hS : va_S (fun q => s.heap.size ≤ q) s.heap H locs) {ls : Array Slot} (hl : ftLs ls b o0 m0 i) (kk : ∀ (c9 : ftCdT) (q9 : ftRR) (r1 r2 : Int32), (fun (r : Int32) (c9 : ftCdT) => ∃ u : ftSd, c9 = (u, cd.2) ∧ (r = ftAdA w (xs (nI (i + 1)).toNatClampNeg) (xs (nI (i + 2)).toNatClampNeg) (xs (nI (i + 3)).toNatClampNeg) (xs (nI (i + 4)).toNatClampNeg) ∧ (u = ftCh (ftAdC w (xs (nI (i + 1)).toNatClampNeg) (xs (nI (i + 2)).toNatClampNeg) (xs (nI (i + 3)).toNatClampNeg) (xs (nI (i + 4)).toNatClampNeg)) (ftInsS (ftBg cd.1) (xs (nI (i + 1)).toNatClampNeg) (xs (nI (i + 2)).toNatClampNeg) (xs (nI (i + 3)).toNatClampNeg) (xs (nI (i + 4)).toNatClampNeg)) cd.1))) r1 c9 → (fun (r : Int32) (q9 : ftRR) => ∃ _u : Unit, q9 = ((ftCh (ftAdC w (xs (nI (i + 1)).toNatClampNeg) (xs (nI (i + 2)).toNatClampNeg) (xs (nI (i + 3)).toNatClampNeg) (xs (nI (i + 4)).toNatClampNeg)) (ftAdd w (ftCN w) (xs (nI (i + 1)).toNatClampNeg) (xs (nI (i + 2)).toNatClampNeg) (xs (nI (i + 3)).toNatClampNeg) (xs (nI (i + 4)).toNatClampNeg)) w, ftCh (ftAdC w (xs (nI (i + 1)).toNatClampNeg) (xs (nI (i + 2)).toNatClampNeg) (xs (nI (i + 3)).toNatClampNeg) (xs (nI (i + 4)).toNatClampNeg)) (ftPush w z ((cd.1.1 3))) z, cd.2.2.1.2.1), (ftCh (ftAdC w (xs (nI (i + 1)).toNatClampNeg) (xs (nI (i + 2)).toNatClampNeg) (xs (nI (i + 3)).toNatClampNeg) (xs (nI (i + 4)).toNatClampNeg)) (min ((cd.1.1 3) + 1) 5) (cd.1.1 3), cd.2.2.1.1), j) ∧ r = ftAdA w (xs (nI (i + 1)).toNatClampNeg) (xs (nI (i + 2)).toNatClampNeg) (xs (nI (i + 3)).toNatClampNeg) (xs (nI (i + 4)).toNatClampNeg)) r2 q9 → ∀ (H : Heap) (locs : List Loc), va_P D vwCl (ftCB9 cI cS o0 A0 (c9.1.2.1 0) c9 ++ ftRB cI m0 P q9) H → va_D (fun q => s.heap.size ≤ q) (ftCB9 cI cS o0 A0 (c9.1.2.1 0) c9 ++ ftRB cI m0 P q9) → va_S (fun q => s.heap.size ≤ q) s.heap H locs → ftLW l p e s m below meth c b H locs (F0 m 699 ls [])) : ftLW l p e s m below meth c b H locs (F0 m 212 ls []) := by
  obtain ⟨⟨hx, hb, hr, hml, hown, hts, hX, hbl, hlocks, hgv⟩, hKK, hSt, hL30⟩ := C0
  have hbA : ¬ (fun q : Nat => s.heap.size ≤ q) b := Nat.not_le.mpr hbl
  have hA : ∀ q : Nat, s.heap.size ≤ q → (fun q : Nat => s.heap.size ≤ q) q := fun _ h => h
  have htl : ∀ w ∈ wsL_law, w.before #[Value.ref b] s = true := fun w h => hts w (wsL_law_in w h)
  obtain ⟨h1, -, -, -, -, -, -, -, -, -, h11, h12⟩ := id hR
  refine lv_aload_n hx hb dL_law_212 rfl (lv_at hl 1 rfl) ?_
  refine lv_aload_n hx hb dL_law_213 rfl (lv_at hl 0 rfl) ?_
  refine lv_iload_n hx hb dL_law_214 rfl (lv_at hl 3 rfl) ?_
  refine lv_iconst (v := 1) hx hb dL_law_215 (by decide) ?_
  refine lv_iadd hx hb dL_law_216 ?_
  refine ft_top (y := nI (i + 1)) (ft_addN i 1) ?_
  refine va_sld hx hb hX hbl hbA hS (vp_in_nI (by omega) (by omega)) dL_law_217 ?_
  refine lv_aload_n hx hb dL_law_218 rfl (lv_at hl 0 rfl) ?_
  refine lv_iload_n hx hb dL_law_219 rfl (lv_at hl 3 rfl) ?_
  refine lv_iconst (v := 2) hx hb dL_law_220 (by decide) ?_
  refine lv_iadd hx hb dL_law_221 ?_
  refine ft_top (y := nI (i + 2)) (ft_addN i 2) ?_
  refine va_sld hx hb hX hbl hbA hS (vp_in_nI (by omega) (by omega)) dL_law_222 ?_
  refine lv_aload_n hx hb dL_law_223 rfl (lv_at hl 0 rfl) ?_
  refine lv_iload_n hx hb dL_law_224 rfl (lv_at hl 3 rfl) ?_
  refine lv_iconst (v := 3) hx hb dL_law_225 (by decide) ?_
  refine lv_iadd hx hb dL_law_226 ?_
  refine ft_top (y := nI (i + 3)) (ft_addN i 3) ?_
  refine va_sld hx hb hX hbl hbA hS (vp_in_nI (by omega) (by omega)) dL_law_227 ?_
  refine lv_aload_n hx hb dL_law_228 rfl (lv_at hl 0 rfl) ?_
  refine lv_iload_n hx hb dL_law_229 rfl (lv_at hl 3 rfl) ?_
  refine lv_iconst (v := 4) hx hb dL_law_230 (by decide) ?_
  refine lv_iadd hx hb dL_law_231 ?_
  refine ft_top (y := nI (i + 4)) (ft_addN i 4) ?_
  refine va_sld hx hb hX hbl hbA hS (vp_in_nI (by omega) (by omega)) dL_law_232 ?_
  refine ft_callL (X1 := fun c9 => ftCB9 cI cS o0 A0 (c9.1.2.1 0) c9) (va_runV (C := RX10) (As := [.int (xs (nI (i + 1)).toNatClampNeg), .int (xs (nI (i + 2)).toNatClampNeg), .int (xs (nI (i + 3)).toNatClampNeg), .int (xs (nI (i + 4)).toNatClampNeg)]) (rest := []) ⟨hx, hb, hml, hown, htl⟩ (b_X10_addPart l D cI cS H.size sK sV o0 A0 n9 hn9 cd w (cd.1.1 3) (xs (nI (i + 1)).toNatClampNeg) (xs (nI (i + 2)).toNatClampNeg) (xs (nI (i + 3)).toNatClampNeg) (xs (nI (i + 4)).toNatClampNeg) hR) (cwV 4 htl gL_law_X10_addPart rfl rfl rfl (by decide +kernel) ⟨Nat.le_of_ble_eq_true rfl, Nat.le_of_ble_eq_true rfl⟩) (ft_preL (ci := 10) hP hD hKK hSt hS hA rfl rfl) rfl rfl hl.1 rfl (lv_room (Nat.le_of_ble_eq_true rfl)) dL_law_233 ⟨Nat.le_of_ble_eq_true rfl, Nat.le_of_ble_eq_true rfl⟩) hP hD hS hA (fun r1 c9 hc9 H locs hP hD hS => ?_)
  refine lv_pop hx hb dL_law_236 rfl ?_
  refine lv_aload_n hx hb dL_law_237 rfl (lv_at hl 2 rfl) ?_
  refine lv_aload_n hx hb dL_law_238 rfl (lv_at hl 0 rfl) ?_
  refine lv_iload_n hx hb dL_law_239 rfl (lv_at hl 3 rfl) ?_
  refine lv_iconst (v := 1) hx hb dL_law_240 (by decide) ?_
  refine lv_iadd hx hb dL_law_241 ?_
  refine ft_top (y := nI (i + 1)) (ft_addN i 1) ?_
  refine va_sld hx hb hX hbl hbA hS (vp_in_nI (by omega) (by omega)) dL_law_242 ?_
  refine lv_aload_n hx hb dL_law_243 rfl (lv_at hl 0 rfl) ?_
  refine lv_iload_n hx hb dL_law_244 rfl (lv_at hl 3 rfl) ?_
  refine lv_iconst (v := 2) hx hb dL_law_245 (by decide) ?_
  refine lv_iadd hx hb dL_law_246 ?_
  refine ft_top (y := nI (i + 2)) (ft_addN i 2) ?_
  refine va_sld hx hb hX hbl hbA hS (vp_in_nI (by omega) (by omega)) dL_law_247 ?_
  refine lv_aload_n hx hb dL_law_248 rfl (lv_at hl 0 rfl) ?_
  refine lv_iload_n hx hb dL_law_249 rfl (lv_at hl 3 rfl) ?_
  refine lv_iconst (v := 3) hx hb dL_law_250 (by decide) ?_
  refine lv_iadd hx hb dL_law_251 ?_
  refine ft_top (y := nI (i + 3)) (ft_addN i 3) ?_
  refine va_sld hx hb hX hbl hbA hS (vp_in_nI (by omega) (by omega)) dL_law_252 ?_
  refine lv_aload_n hx hb dL_law_253 rfl (lv_at hl 0 rfl) ?_
  refine lv_iload_n hx hb dL_law_254 rfl (lv_at hl 3 rfl) ?_
  refine lv_iconst (v := 4) hx hb dL_law_255 (by decide) ?_
  refine lv_iadd hx hb dL_law_256 ?_
  refine ft_top (y := nI (i + 4)) (ft_addN i 4) ?_
  refine va_sld hx hb hX hbl hbA hS (vp_in_nI (by omega) (by omega)) dL_law_257 ?_
  refine ft_callR (X1 := fun (q9 : ftRR) => ftRB cI m0 P q9) (va_runV (C := RX11) (As := [.int (xs (nI (i + 1)).toNatClampNeg), .int (xs (nI (i + 2)).toNatClampNeg), .int (xs (nI (i + 3)).toNatClampNeg), .int (xs (nI (i + 4)).toNatClampNeg)]) (rest := []) ⟨hx, hb, hml, hown, htl⟩ (b_X11_addPart l D cI cS H.size sK sV m0 P w z cd.2.2.1.2.1 (cd.1.1 3) cd.2.2.1.1 j (xs (nI (i + 1)).toNatClampNeg) (xs (nI (i + 2)).toNatClampNeg) (xs (nI (i + 3)).toNatClampNeg) (xs (nI (i + 4)).toNatClampNeg) h1 h11 h12) (cwV 4 htl gL_law_X11_addPart rfl rfl rfl (by decide +kernel) ⟨Nat.le_of_ble_eq_true rfl, Nat.le_of_ble_eq_true rfl⟩) (ft_preR (ci := 11) hP hD hKK hSt hS hA rfl rfl) rfl rfl hl.1 rfl (lv_room (Nat.le_of_ble_eq_true rfl)) dL_law_258 ⟨Nat.le_of_ble_eq_true rfl, Nat.le_of_ble_eq_true rfl⟩) hP hD hS hA (fun r2 q9 hq9 H locs hP hD hS => ?_)
  refine lv_pop hx hb dL_law_261 rfl ?_
  refine lv_goto (tgt := 699) hx hb dL_law_262 (by decide) ?_
  exact kk c9 q9 r1 r2 hc9 hq9 H locs hP hD hS
set_option maxHeartbeats 4000000 in
set_option maxRecDepth 100000 in
theorem lw_case_removePart {l : Launch} {p : Program} {e : Env} {s : State} {m : MethodId} {below : List Frame} {meth : Method} {c : Code} {b L : Nat} {xs : Nat → Int32} {D : va_G} {cI cS : ClassId} {sK sV : Nat → Nat} (C0 : lw_Cx p s m meth c b L xs D cI cS sK sV) {o0 m0 i : Nat} {A0 : Nat → Nat → Nat} {P : Nat → Nat} {cd : ftCdT} {w z : Nat → Int32} {j : ftRD} {n9 : Nat} (hn9 : n9 < 1000) (hR : ftCR n9 cd w (cd.1.1 3)) (hLi : i + 5 ≤ L) {H : Heap} {locs : List Loc} (hP : va_P D vwCl (ftCB9 cI cS o0 A0 (cd.1.2.1 0) cd ++ ftRB cI m0 P ((w, z, cd.2.2.1.2.1), (cd.1.1 3, cd.2.2.1.1), j)) H) (hD : va_D (fun q => s.heap.size ≤ q) (ftCB9 cI cS o0 A0 (cd.1.2.1 0) cd ++ ftRB cI m0 P ((w, z, cd.2.2.1.2.1), (cd.1.1 3, cd.2.2.1.1), j))) (hS : va_S (fun q => s.heap.size ≤ q) s.heap H locs) {ls : Array Slot} (hl : ftLs ls b o0 m0 i) (kk : ∀ (c9 : ftCdT) (q9 : ftRR) (r1 r2 : Int32), (fun (r : Int32) (c9 : ftCdT) => ∃ u : ftSd, c9 = (u, cd.2) ∧ (r = ftIte (ftRmC w (xs (nI (i + 1)).toNatClampNeg)) (nI (ftCN w - 1)) (-1000001) ∧ (u = ftCh (ftRmC w (xs (nI (i + 1)).toNatClampNeg)) (ftRemS (ftBg cd.1) (xs (nI (i + 1)).toNatClampNeg).toNatClampNeg) cd.1))) r1 c9 → (fun (r : Int32) (q9 : ftRR) => ∃ _u : Unit, q9 = ((ftCh (ftRmC w (xs (nI (i + 1)).toNatClampNeg)) (ftDel w (xs (nI (i + 1)).toNatClampNeg).toNatClampNeg) w, ftCh (ftRmC w (xs (nI (i + 1)).toNatClampNeg)) (ftPush w z ((cd.1.1 3))) z, cd.2.2.1.2.1), (ftCh (ftRmC w (xs (nI (i + 1)).toNatClampNeg)) (min ((cd.1.1 3) + 1) 5) (cd.1.1 3), cd.2.2.1.1), j) ∧ r = ftIte (ftRmC w (xs (nI (i + 1)).toNatClampNeg)) (nI (ftCN w - 1)) (-1000001)) r2 q9 → ∀ (H : Heap) (locs : List Loc), va_P D vwCl (ftCB9 cI cS o0 A0 (c9.1.2.1 0) c9 ++ ftRB cI m0 P q9) H → va_D (fun q => s.heap.size ≤ q) (ftCB9 cI cS o0 A0 (c9.1.2.1 0) c9 ++ ftRB cI m0 P q9) → va_S (fun q => s.heap.size ≤ q) s.heap H locs → ftLW l p e s m below meth c b H locs (F0 m 699 ls [])) : ftLW l p e s m below meth c b H locs (F0 m 265 ls []) := by
  obtain ⟨⟨hx, hb, hr, hml, hown, hts, hX, hbl, hlocks, hgv⟩, hKK, hSt, hL30⟩ := C0
  have hbA : ¬ (fun q : Nat => s.heap.size ≤ q) b := Nat.not_le.mpr hbl
  have hA : ∀ q : Nat, s.heap.size ≤ q → (fun q : Nat => s.heap.size ≤ q) q := fun _ h => h
  have htl : ∀ w ∈ wsL_law, w.before #[Value.ref b] s = true := fun w h => hts w (wsL_law_in w h)
  obtain ⟨h1, -, -, -, -, -, -, -, -, -, h11, h12⟩ := id hR
  refine lv_aload_n hx hb dL_law_265 rfl (lv_at hl 1 rfl) ?_
  refine lv_aload_n hx hb dL_law_266 rfl (lv_at hl 0 rfl) ?_
  refine lv_iload_n hx hb dL_law_267 rfl (lv_at hl 3 rfl) ?_
  refine lv_iconst (v := 1) hx hb dL_law_268 (by decide) ?_
  refine lv_iadd hx hb dL_law_269 ?_
  refine ft_top (y := nI (i + 1)) (ft_addN i 1) ?_
  refine va_sld hx hb hX hbl hbA hS (vp_in_nI (by omega) (by omega)) dL_law_270 ?_
  refine ft_callL (X1 := fun c9 => ftCB9 cI cS o0 A0 (c9.1.2.1 0) c9) (va_runV (C := RX10) (As := [.int (xs (nI (i + 1)).toNatClampNeg)]) (rest := []) ⟨hx, hb, hml, hown, htl⟩ (b_X10_removePart l D cI cS H.size sK sV o0 A0 n9 hn9 cd w (cd.1.1 3) (xs (nI (i + 1)).toNatClampNeg) hR) (cwV 1 htl gL_law_X10_removePart rfl rfl rfl (by decide +kernel) ⟨Nat.le_of_ble_eq_true rfl, Nat.le_of_ble_eq_true rfl⟩) (ft_preL (ci := 10) hP hD hKK hSt hS hA rfl rfl) rfl rfl hl.1 rfl (lv_room (Nat.le_of_ble_eq_true rfl)) dL_law_271 ⟨Nat.le_of_ble_eq_true rfl, Nat.le_of_ble_eq_true rfl⟩) hP hD hS hA (fun r1 c9 hc9 H locs hP hD hS => ?_)
  refine lv_pop hx hb dL_law_274 rfl ?_
  refine lv_aload_n hx hb dL_law_275 rfl (lv_at hl 2 rfl) ?_
  refine lv_aload_n hx hb dL_law_276 rfl (lv_at hl 0 rfl) ?_
  refine lv_iload_n hx hb dL_law_277 rfl (lv_at hl 3 rfl) ?_
  refine lv_iconst (v := 1) hx hb dL_law_278 (by decide) ?_
  refine lv_iadd hx hb dL_law_279 ?_
  refine ft_top (y := nI (i + 1)) (ft_addN i 1) ?_
  refine va_sld hx hb hX hbl hbA hS (vp_in_nI (by omega) (by omega)) dL_law_280 ?_
  refine ft_callR (X1 := fun (q9 : ftRR) => ftRB cI m0 P q9) (va_runV (C := RX11) (As := [.int (xs (nI (i + 1)).toNatClampNeg)]) (rest := []) ⟨hx, hb, hml, hown, htl⟩ (b_X11_removePart l D cI cS H.size sK sV m0 P w z cd.2.2.1.2.1 (cd.1.1 3) cd.2.2.1.1 j (xs (nI (i + 1)).toNatClampNeg) h1 h11 h12) (cwV 1 htl gL_law_X11_removePart rfl rfl rfl (by decide +kernel) ⟨Nat.le_of_ble_eq_true rfl, Nat.le_of_ble_eq_true rfl⟩) (ft_preR (ci := 11) hP hD hKK hSt hS hA rfl rfl) rfl rfl hl.1 rfl (lv_room (Nat.le_of_ble_eq_true rfl)) dL_law_281 ⟨Nat.le_of_ble_eq_true rfl, Nat.le_of_ble_eq_true rfl⟩) hP hD hS hA (fun r2 q9 hq9 H locs hP hD hS => ?_)
  refine lv_pop hx hb dL_law_284 rfl ?_
  refine lv_goto (tgt := 699) hx hb dL_law_285 (by decide) ?_
  exact kk c9 q9 r1 r2 hc9 hq9 H locs hP hD hS
set_option maxHeartbeats 4000000 in
set_option maxRecDepth 100000 in
theorem lw_case_set {l : Launch} {p : Program} {e : Env} {s : State} {m : MethodId} {below : List Frame} {meth : Method} {c : Code} {b L : Nat} {xs : Nat → Int32} {D : va_G} {cI cS : ClassId} {sK sV : Nat → Nat} (C0 : lw_Cx p s m meth c b L xs D cI cS sK sV) {o0 m0 i : Nat} {A0 : Nat → Nat → Nat} {P : Nat → Nat} {cd : ftCdT} {w z : Nat → Int32} {j : ftRD} {n9 : Nat} (hn9 : n9 < 1000) (hR : ftCR n9 cd w (cd.1.1 3)) (hLi : i + 5 ≤ L) {H : Heap} {locs : List Loc} (hP : va_P D vwCl (ftCB9 cI cS o0 A0 (cd.1.2.1 0) cd ++ ftRB cI m0 P ((w, z, cd.2.2.1.2.1), (cd.1.1 3, cd.2.2.1.1), j)) H) (hD : va_D (fun q => s.heap.size ≤ q) (ftCB9 cI cS o0 A0 (cd.1.2.1 0) cd ++ ftRB cI m0 P ((w, z, cd.2.2.1.2.1), (cd.1.1 3, cd.2.2.1.1), j))) (hS : va_S (fun q => s.heap.size ≤ q) s.heap H locs) {ls : Array Slot} (hl : ftLs ls b o0 m0 i) (kk : ∀ (c9 : ftCdT) (q9 : ftRR) (r1 r2 : Int32), (fun (r : Int32) (c9 : ftCdT) => ∃ u : ftSd, c9 = (u, cd.2) ∧ (r = ftIte (ftSetC (xs (nI (i + 1)).toNatClampNeg) (xs (nI (i + 2)).toNatClampNeg)) (w (44 + (xs (nI (i + 1)).toNatClampNeg).toNatClampNeg)) (-1000001) ∧ (u = ftCh (ftSetC (xs (nI (i + 1)).toNatClampNeg) (xs (nI (i + 2)).toNatClampNeg)) (ftSetS (ftBg cd.1) (upd ((ftBg cd.1).2.2.1 4) (xs (nI (i + 1)).toNatClampNeg).toNatClampNeg (xs (nI (i + 2)).toNatClampNeg))) cd.1))) r1 c9 → (fun (r : Int32) (q9 : ftRR) => ∃ _u : Unit, q9 = ((ftCh (ftSetC (xs (nI (i + 1)).toNatClampNeg) (xs (nI (i + 2)).toNatClampNeg)) (upd w (44 + (xs (nI (i + 1)).toNatClampNeg).toNatClampNeg) (xs (nI (i + 2)).toNatClampNeg)) w, ftCh (ftSetC (xs (nI (i + 1)).toNatClampNeg) (xs (nI (i + 2)).toNatClampNeg)) (ftPush w z ((cd.1.1 3))) z, cd.2.2.1.2.1), (ftCh (ftSetC (xs (nI (i + 1)).toNatClampNeg) (xs (nI (i + 2)).toNatClampNeg)) (min ((cd.1.1 3) + 1) 5) (cd.1.1 3), cd.2.2.1.1), j) ∧ r = ftIte (ftSetC (xs (nI (i + 1)).toNatClampNeg) (xs (nI (i + 2)).toNatClampNeg)) (w (44 + (xs (nI (i + 1)).toNatClampNeg).toNatClampNeg)) (-1000001)) r2 q9 → ∀ (H : Heap) (locs : List Loc), va_P D vwCl (ftCB9 cI cS o0 A0 (c9.1.2.1 0) c9 ++ ftRB cI m0 P q9) H → va_D (fun q => s.heap.size ≤ q) (ftCB9 cI cS o0 A0 (c9.1.2.1 0) c9 ++ ftRB cI m0 P q9) → va_S (fun q => s.heap.size ≤ q) s.heap H locs → ftLW l p e s m below meth c b H locs (F0 m 699 ls [])) : ftLW l p e s m below meth c b H locs (F0 m 288 ls []) := by
  obtain ⟨⟨hx, hb, hr, hml, hown, hts, hX, hbl, hlocks, hgv⟩, hKK, hSt, hL30⟩ := C0
  have hbA : ¬ (fun q : Nat => s.heap.size ≤ q) b := Nat.not_le.mpr hbl
  have hA : ∀ q : Nat, s.heap.size ≤ q → (fun q : Nat => s.heap.size ≤ q) q := fun _ h => h
  have htl : ∀ w ∈ wsL_law, w.before #[Value.ref b] s = true := fun w h => hts w (wsL_law_in w h)
  obtain ⟨h1, -, -, -, -, -, -, -, -, -, h11, h12⟩ := id hR
  refine lv_aload_n hx hb dL_law_288 rfl (lv_at hl 1 rfl) ?_
  refine lv_aload_n hx hb dL_law_289 rfl (lv_at hl 0 rfl) ?_
  refine lv_iload_n hx hb dL_law_290 rfl (lv_at hl 3 rfl) ?_
  refine lv_iconst (v := 1) hx hb dL_law_291 (by decide) ?_
  refine lv_iadd hx hb dL_law_292 ?_
  refine ft_top (y := nI (i + 1)) (ft_addN i 1) ?_
  refine va_sld hx hb hX hbl hbA hS (vp_in_nI (by omega) (by omega)) dL_law_293 ?_
  refine lv_aload_n hx hb dL_law_294 rfl (lv_at hl 0 rfl) ?_
  refine lv_iload_n hx hb dL_law_295 rfl (lv_at hl 3 rfl) ?_
  refine lv_iconst (v := 2) hx hb dL_law_296 (by decide) ?_
  refine lv_iadd hx hb dL_law_297 ?_
  refine ft_top (y := nI (i + 2)) (ft_addN i 2) ?_
  refine va_sld hx hb hX hbl hbA hS (vp_in_nI (by omega) (by omega)) dL_law_298 ?_
  refine ft_callL (X1 := fun c9 => ftCB9 cI cS o0 A0 (c9.1.2.1 0) c9) (va_runV (C := RX10) (As := [.int (xs (nI (i + 1)).toNatClampNeg), .int (xs (nI (i + 2)).toNatClampNeg)]) (rest := []) ⟨hx, hb, hml, hown, htl⟩ (b_X10_set l D cI cS H.size sK sV o0 A0 n9 hn9 cd w (cd.1.1 3) (xs (nI (i + 1)).toNatClampNeg) (xs (nI (i + 2)).toNatClampNeg) hR) (cwV 2 htl gL_law_X10_set rfl rfl rfl (by decide +kernel) ⟨Nat.le_of_ble_eq_true rfl, Nat.le_of_ble_eq_true rfl⟩) (ft_preL (ci := 10) hP hD hKK hSt hS hA rfl rfl) rfl rfl hl.1 rfl (lv_room (Nat.le_of_ble_eq_true rfl)) dL_law_299 ⟨Nat.le_of_ble_eq_true rfl, Nat.le_of_ble_eq_true rfl⟩) hP hD hS hA (fun r1 c9 hc9 H locs hP hD hS => ?_)
  refine lv_pop hx hb dL_law_302 rfl ?_
  refine lv_aload_n hx hb dL_law_303 rfl (lv_at hl 2 rfl) ?_
  refine lv_aload_n hx hb dL_law_304 rfl (lv_at hl 0 rfl) ?_
  refine lv_iload_n hx hb dL_law_305 rfl (lv_at hl 3 rfl) ?_
  refine lv_iconst (v := 1) hx hb dL_law_306 (by decide) ?_
  refine lv_iadd hx hb dL_law_307 ?_
  refine ft_top (y := nI (i + 1)) (ft_addN i 1) ?_
  refine va_sld hx hb hX hbl hbA hS (vp_in_nI (by omega) (by omega)) dL_law_308 ?_
  refine lv_aload_n hx hb dL_law_309 rfl (lv_at hl 0 rfl) ?_
  refine lv_iload_n hx hb dL_law_310 rfl (lv_at hl 3 rfl) ?_
  refine lv_iconst (v := 2) hx hb dL_law_311 (by decide) ?_
  refine lv_iadd hx hb dL_law_312 ?_
  refine ft_top (y := nI (i + 2)) (ft_addN i 2) ?_
  refine va_sld hx hb hX hbl hbA hS (vp_in_nI (by omega) (by omega)) dL_law_313 ?_
  refine ft_callR (X1 := fun (q9 : ftRR) => ftRB cI m0 P q9) (va_runV (C := RX11) (As := [.int (xs (nI (i + 1)).toNatClampNeg), .int (xs (nI (i + 2)).toNatClampNeg)]) (rest := []) ⟨hx, hb, hml, hown, htl⟩ (b_X11_set l D cI cS H.size sK sV m0 P w z cd.2.2.1.2.1 (cd.1.1 3) cd.2.2.1.1 j (xs (nI (i + 1)).toNatClampNeg) (xs (nI (i + 2)).toNatClampNeg) h1 h11 h12) (cwV 2 htl gL_law_X11_set rfl rfl rfl (by decide +kernel) ⟨Nat.le_of_ble_eq_true rfl, Nat.le_of_ble_eq_true rfl⟩) (ft_preR (ci := 11) hP hD hKK hSt hS hA rfl rfl) rfl rfl hl.1 rfl (lv_room (Nat.le_of_ble_eq_true rfl)) dL_law_314 ⟨Nat.le_of_ble_eq_true rfl, Nat.le_of_ble_eq_true rfl⟩) hP hD hS hA (fun r2 q9 hq9 H locs hP hD hS => ?_)
  refine lv_pop hx hb dL_law_317 rfl ?_
  refine lv_goto (tgt := 699) hx hb dL_law_318 (by decide) ?_
  exact kk c9 q9 r1 r2 hc9 hq9 H locs hP hD hS
set_option maxHeartbeats 4000000 in
set_option maxRecDepth 100000 in
theorem lw_case_undo {l : Launch} {p : Program} {e : Env} {s : State} {m : MethodId} {below : List Frame} {meth : Method} {c : Code} {b L : Nat} {xs : Nat → Int32} {D : va_G} {cI cS : ClassId} {sK sV : Nat → Nat} (C0 : lw_Cx p s m meth c b L xs D cI cS sK sV) {o0 m0 i : Nat} {A0 : Nat → Nat → Nat} {P : Nat → Nat} {cd : ftCdT} {w z : Nat → Int32} {j : ftRD} {n9 : Nat} (hn9 : n9 < 1000) (hR : ftCR n9 cd w (cd.1.1 3)) (hLi : i + 5 ≤ L) {H : Heap} {locs : List Loc} (hP : va_P D vwCl (ftCB9 cI cS o0 A0 (cd.1.2.1 0) cd ++ ftRB cI m0 P ((w, z, cd.2.2.1.2.1), (cd.1.1 3, cd.2.2.1.1), j)) H) (hD : va_D (fun q => s.heap.size ≤ q) (ftCB9 cI cS o0 A0 (cd.1.2.1 0) cd ++ ftRB cI m0 P ((w, z, cd.2.2.1.2.1), (cd.1.1 3, cd.2.2.1.1), j))) (hS : va_S (fun q => s.heap.size ≤ q) s.heap H locs) {ls : Array Slot} (hl : ftLs ls b o0 m0 i) (kk : ∀ (c9 : ftCdT) (q9 : ftRR) (r1 r2 : Int32), (fun (r : Int32) (c9 : ftCdT) => ∃ u : ftSd, c9 = (u, cd.2) ∧ (r = (if cd.1.1 3 = 0 then -1000002 else nI (cd.1.1 3 - 1) : Int32) ∧ (u = ftCh (¬ cd.1.1 3 = 0) (ftUnS cd.1 ((cd.1.1 2 + 4) % 5)) cd.1))) r1 c9 → (fun (r : Int32) (q9 : ftRR) => ∃ _u : Unit, q9 = ((if ((cd.1.1 3)) = 0 then w else ftFill (fun t => z ((((cd.1.1 3)) - 1) * 1439 + t)) w 1439, z, cd.2.2.1.2.1), ((cd.1.1 3) - 1, cd.2.2.1.1), j) ∧ r = if ((cd.1.1 3)) = 0 then -1000002 else nI (((cd.1.1 3)) - 1)) r2 q9 → ∀ (H : Heap) (locs : List Loc), va_P D vwCl (ftCB9 cI cS o0 A0 (c9.1.2.1 0) c9 ++ ftRB cI m0 P q9) H → va_D (fun q => s.heap.size ≤ q) (ftCB9 cI cS o0 A0 (c9.1.2.1 0) c9 ++ ftRB cI m0 P q9) → va_S (fun q => s.heap.size ≤ q) s.heap H locs → ftLW l p e s m below meth c b H locs (F0 m 699 ls [])) : ftLW l p e s m below meth c b H locs (F0 m 321 ls []) := by
  obtain ⟨⟨hx, hb, hr, hml, hown, hts, hX, hbl, hlocks, hgv⟩, hKK, hSt, hL30⟩ := C0
  have hbA : ¬ (fun q : Nat => s.heap.size ≤ q) b := Nat.not_le.mpr hbl
  have hA : ∀ q : Nat, s.heap.size ≤ q → (fun q : Nat => s.heap.size ≤ q) q := fun _ h => h
  have htl : ∀ w ∈ wsL_law, w.before #[Value.ref b] s = true := fun w h => hts w (wsL_law_in w h)
  obtain ⟨h1, -, -, -, -, -, -, -, -, -, h11, h12⟩ := id hR
  refine lv_aload_n hx hb dL_law_321 rfl (lv_at hl 1 rfl) ?_
  refine ft_callL (X1 := fun c9 => ftCB9 cI cS o0 A0 (c9.1.2.1 0) c9) (va_runV (C := RX10) (As := []) (rest := []) ⟨hx, hb, hml, hown, htl⟩ (b_X10_undo l D cI cS H.size sK sV o0 A0 n9 hn9 cd w (cd.1.1 3) hR) (cwV 0 htl gL_law_X10_undo rfl rfl rfl (by decide +kernel) ⟨Nat.le_of_ble_eq_true rfl, Nat.le_of_ble_eq_true rfl⟩) (ft_preL (ci := 10) hP hD hKK hSt hS hA rfl rfl) rfl rfl hl.1 rfl (lv_room (Nat.le_of_ble_eq_true rfl)) dL_law_322 ⟨Nat.le_of_ble_eq_true rfl, Nat.le_of_ble_eq_true rfl⟩) hP hD hS hA (fun r1 c9 hc9 H locs hP hD hS => ?_)
  refine lv_pop hx hb dL_law_325 rfl ?_
  refine lv_aload_n hx hb dL_law_326 rfl (lv_at hl 2 rfl) ?_
  refine ft_callR (X1 := fun (q9 : ftRR) => ftRB cI m0 P q9) (va_runV (C := RX11) (As := []) (rest := []) ⟨hx, hb, hml, hown, htl⟩ (b_X11_undo l D cI cS H.size sK sV m0 P w z cd.2.2.1.2.1 (cd.1.1 3) cd.2.2.1.1 j h1 h11 h12) (cwV 0 htl gL_law_X11_undo rfl rfl rfl (by decide +kernel) ⟨Nat.le_of_ble_eq_true rfl, Nat.le_of_ble_eq_true rfl⟩) (ft_preR (ci := 11) hP hD hKK hSt hS hA rfl rfl) rfl rfl hl.1 rfl (lv_room (Nat.le_of_ble_eq_true rfl)) dL_law_327 ⟨Nat.le_of_ble_eq_true rfl, Nat.le_of_ble_eq_true rfl⟩) hP hD hS hA (fun r2 q9 hq9 H locs hP hD hS => ?_)
  refine lv_pop hx hb dL_law_330 rfl ?_
  refine lv_goto (tgt := 699) hx hb dL_law_331 (by decide) ?_
  exact kk c9 q9 r1 r2 hc9 hq9 H locs hP hD hS
set_option maxHeartbeats 4000000 in
set_option maxRecDepth 100000 in
theorem lw_case_count {l : Launch} {p : Program} {e : Env} {s : State} {m : MethodId} {below : List Frame} {meth : Method} {c : Code} {b L : Nat} {xs : Nat → Int32} {D : va_G} {cI cS : ClassId} {sK sV : Nat → Nat} (C0 : lw_Cx p s m meth c b L xs D cI cS sK sV) {o0 m0 i : Nat} {A0 : Nat → Nat → Nat} {P : Nat → Nat} {cd : ftCdT} {w z : Nat → Int32} {j : ftRD} {n9 : Nat} (hn9 : n9 < 1000) (hR : ftCR n9 cd w (cd.1.1 3)) (hLi : i + 5 ≤ L) {H : Heap} {locs : List Loc} (hP : va_P D vwCl (ftCB9 cI cS o0 A0 (cd.1.2.1 0) cd ++ ftRB cI m0 P ((w, z, cd.2.2.1.2.1), (cd.1.1 3, cd.2.2.1.1), j)) H) (hD : va_D (fun q => s.heap.size ≤ q) (ftCB9 cI cS o0 A0 (cd.1.2.1 0) cd ++ ftRB cI m0 P ((w, z, cd.2.2.1.2.1), (cd.1.1 3, cd.2.2.1.1), j))) (hS : va_S (fun q => s.heap.size ≤ q) s.heap H locs) {ls : Array Slot} (hl : ftLs ls b o0 m0 i) (kk : ∀ (c9 : ftCdT) (q9 : ftRR) (r1 r2 : Int32), (fun (r : Int32) (c9 : ftCdT) => ∃ _u : Unit, c9 = cd ∧ r = ftCntA w (cd.1.1 3) (cd.2.2.1.1) (xs (nI (i + 1)).toNatClampNeg)) r1 c9 → (fun (r : Int32) (q9 : ftRR) => ∃ _u : Unit, q9 = ((w, z, cd.2.2.1.2.1), ((cd.1.1 3), cd.2.2.1.1), j) ∧ r = ftCntA w ((cd.1.1 3)) (cd.2.2.1.1) (xs (nI (i + 1)).toNatClampNeg)) r2 q9 → ∀ (H : Heap) (locs : List Loc), va_P D vwCl (ftCB9 cI cS o0 A0 (c9.1.2.1 0) c9 ++ ftRB cI m0 P q9) H → va_D (fun q => s.heap.size ≤ q) (ftCB9 cI cS o0 A0 (c9.1.2.1 0) c9 ++ ftRB cI m0 P q9) → va_S (fun q => s.heap.size ≤ q) s.heap H locs → ftLW l p e s m below meth c b H locs (F0 m 699 ls [])) : ftLW l p e s m below meth c b H locs (F0 m 334 ls []) := by
  obtain ⟨⟨hx, hb, hr, hml, hown, hts, hX, hbl, hlocks, hgv⟩, hKK, hSt, hL30⟩ := C0
  have hbA : ¬ (fun q : Nat => s.heap.size ≤ q) b := Nat.not_le.mpr hbl
  have hA : ∀ q : Nat, s.heap.size ≤ q → (fun q : Nat => s.heap.size ≤ q) q := fun _ h => h
  have htl : ∀ w ∈ wsL_law, w.before #[Value.ref b] s = true := fun w h => hts w (wsL_law_in w h)
  obtain ⟨h1, -, -, -, -, -, -, -, -, -, h11, h12⟩ := id hR
  refine lv_aload_n hx hb dL_law_334 rfl (lv_at hl 1 rfl) ?_
  refine lv_aload_n hx hb dL_law_335 rfl (lv_at hl 0 rfl) ?_
  refine lv_iload_n hx hb dL_law_336 rfl (lv_at hl 3 rfl) ?_
  refine lv_iconst (v := 1) hx hb dL_law_337 (by decide) ?_
  refine lv_iadd hx hb dL_law_338 ?_
  refine ft_top (y := nI (i + 1)) (ft_addN i 1) ?_
  refine va_sld hx hb hX hbl hbA hS (vp_in_nI (by omega) (by omega)) dL_law_339 ?_
  refine ft_callL (X1 := fun c9 => ftCB9 cI cS o0 A0 (c9.1.2.1 0) c9) (va_runV (C := RX10) (As := [.int (xs (nI (i + 1)).toNatClampNeg)]) (rest := []) ⟨hx, hb, hml, hown, htl⟩ (b_X10_count l D cI cS H.size sK sV o0 A0 n9 hn9 cd w (cd.1.1 3) (xs (nI (i + 1)).toNatClampNeg) hR) (cwV 1 htl gL_law_X10_count rfl rfl rfl (by decide +kernel) ⟨Nat.le_of_ble_eq_true rfl, Nat.le_of_ble_eq_true rfl⟩) (ft_preL (ci := 10) hP hD hKK hSt hS hA rfl rfl) rfl rfl hl.1 rfl (lv_room (Nat.le_of_ble_eq_true rfl)) dL_law_340 ⟨Nat.le_of_ble_eq_true rfl, Nat.le_of_ble_eq_true rfl⟩) hP hD hS hA (fun r1 c9 hc9 H locs hP hD hS => ?_)
  refine lv_pop hx hb dL_law_343 rfl ?_
  refine lv_aload_n hx hb dL_law_344 rfl (lv_at hl 2 rfl) ?_
  refine lv_aload_n hx hb dL_law_345 rfl (lv_at hl 0 rfl) ?_
  refine lv_iload_n hx hb dL_law_346 rfl (lv_at hl 3 rfl) ?_
  refine lv_iconst (v := 1) hx hb dL_law_347 (by decide) ?_
  refine lv_iadd hx hb dL_law_348 ?_
  refine ft_top (y := nI (i + 1)) (ft_addN i 1) ?_
  refine va_sld hx hb hX hbl hbA hS (vp_in_nI (by omega) (by omega)) dL_law_349 ?_
  refine ft_callR (X1 := fun (q9 : ftRR) => ftRB cI m0 P q9) (va_runV (C := RX11) (As := [.int (xs (nI (i + 1)).toNatClampNeg)]) (rest := []) ⟨hx, hb, hml, hown, htl⟩ (b_X11_count l D cI cS H.size sK sV m0 P w z cd.2.2.1.2.1 (cd.1.1 3) cd.2.2.1.1 j (xs (nI (i + 1)).toNatClampNeg) h1 h11 h12) (cwV 1 htl gL_law_X11_count rfl rfl rfl (by decide +kernel) ⟨Nat.le_of_ble_eq_true rfl, Nat.le_of_ble_eq_true rfl⟩) (ft_preR (ci := 11) hP hD hKK hSt hS hA rfl rfl) rfl rfl hl.1 rfl (lv_room (Nat.le_of_ble_eq_true rfl)) dL_law_350 ⟨Nat.le_of_ble_eq_true rfl, Nat.le_of_ble_eq_true rfl⟩) hP hD hS hA (fun r2 q9 hq9 H locs hP hD hS => ?_)
  refine lv_pop hx hb dL_law_353 rfl ?_
  refine lv_goto (tgt := 699) hx hb dL_law_354 (by decide) ?_
  exact kk c9 q9 r1 r2 hc9 hq9 H locs hP hD hS
set_option maxHeartbeats 4000000 in
set_option maxRecDepth 100000 in
theorem lw_case_part {l : Launch} {p : Program} {e : Env} {s : State} {m : MethodId} {below : List Frame} {meth : Method} {c : Code} {b L : Nat} {xs : Nat → Int32} {D : va_G} {cI cS : ClassId} {sK sV : Nat → Nat} (C0 : lw_Cx p s m meth c b L xs D cI cS sK sV) {o0 m0 i : Nat} {A0 : Nat → Nat → Nat} {P : Nat → Nat} {cd : ftCdT} {w z : Nat → Int32} {j : ftRD} {n9 : Nat} (hn9 : n9 < 1000) (hR : ftCR n9 cd w (cd.1.1 3)) (hLi : i + 5 ≤ L) {H : Heap} {locs : List Loc} (hP : va_P D vwCl (ftCB9 cI cS o0 A0 (cd.1.2.1 0) cd ++ ftRB cI m0 P ((w, z, cd.2.2.1.2.1), (cd.1.1 3, cd.2.2.1.1), j)) H) (hD : va_D (fun q => s.heap.size ≤ q) (ftCB9 cI cS o0 A0 (cd.1.2.1 0) cd ++ ftRB cI m0 P ((w, z, cd.2.2.1.2.1), (cd.1.1 3, cd.2.2.1.1), j))) (hS : va_S (fun q => s.heap.size ≤ q) s.heap H locs) {ls : Array Slot} (hl : ftLs ls b o0 m0 i) (kk : ∀ (c9 : ftCdT) (q9 : ftRR) (r1 r2 : Int32), (fun (r : Int32) (c9 : ftCdT) => ∃ u : Int32 × ftUm, c9 = (ftFlS cd.1 u.1, u.2, cd.2.2) ∧ (r = ftPtA w (xs (nI (i + 1)).toNatClampNeg) (xs (nI (i + 2)).toNatClampNeg) ∧ (ftMi w u.1 u.2))) r1 c9 → (fun (r : Int32) (q9 : ftRR) => ∃ u : (Nat → Int32) × (Nat → Nat → Int32), q9 = ((w, z, cd.2.2.1.2.1), ((cd.1.1 3), cd.2.2.1.1), ((fun k => match k with | 15 => u.1 15 | 18 => u.1 18 | 23 => u.1 23 | 24 => u.1 24 | k => j.1 k), (fun k => match k with | 12 => u.2 12 | 13 => u.2 13 | 14 => u.2 14 | 16 => u.2 16 | 17 => u.2 17 | 19 => u.2 19 | 20 => u.2 20 | 21 => u.2 21 | 22 => u.2 22 | 25 => u.2 25 | 26 => u.2 26 | 27 => u.2 27 | 28 => u.2 28 | 29 => u.2 29 | 30 => u.2 30 | 31 => u.2 31 | 32 => u.2 32 | k => j.2 k))) ∧ (r = ftPtA w (xs (nI (i + 1)).toNatClampNeg) (xs (nI (i + 2)).toNatClampNeg) ∧ True)) r2 q9 → ∀ (H : Heap) (locs : List Loc), va_P D vwCl (ftCB9 cI cS o0 A0 (c9.1.2.1 0) c9 ++ ftRB cI m0 P q9) H → va_D (fun q => s.heap.size ≤ q) (ftCB9 cI cS o0 A0 (c9.1.2.1 0) c9 ++ ftRB cI m0 P q9) → va_S (fun q => s.heap.size ≤ q) s.heap H locs → ftLW l p e s m below meth c b H locs (F0 m 699 ls [])) : ftLW l p e s m below meth c b H locs (F0 m 357 ls []) := by
  obtain ⟨⟨hx, hb, hr, hml, hown, hts, hX, hbl, hlocks, hgv⟩, hKK, hSt, hL30⟩ := C0
  have hbA : ¬ (fun q : Nat => s.heap.size ≤ q) b := Nat.not_le.mpr hbl
  have hA : ∀ q : Nat, s.heap.size ≤ q → (fun q : Nat => s.heap.size ≤ q) q := fun _ h => h
  have htl : ∀ w ∈ wsL_law, w.before #[Value.ref b] s = true := fun w h => hts w (wsL_law_in w h)
  obtain ⟨h1, -, -, -, -, -, -, -, -, -, h11, h12⟩ := id hR
  refine lv_aload_n hx hb dL_law_357 rfl (lv_at hl 1 rfl) ?_
  refine lv_aload_n hx hb dL_law_358 rfl (lv_at hl 0 rfl) ?_
  refine lv_iload_n hx hb dL_law_359 rfl (lv_at hl 3 rfl) ?_
  refine lv_iconst (v := 1) hx hb dL_law_360 (by decide) ?_
  refine lv_iadd hx hb dL_law_361 ?_
  refine ft_top (y := nI (i + 1)) (ft_addN i 1) ?_
  refine va_sld hx hb hX hbl hbA hS (vp_in_nI (by omega) (by omega)) dL_law_362 ?_
  refine lv_aload_n hx hb dL_law_363 rfl (lv_at hl 0 rfl) ?_
  refine lv_iload_n hx hb dL_law_364 rfl (lv_at hl 3 rfl) ?_
  refine lv_iconst (v := 2) hx hb dL_law_365 (by decide) ?_
  refine lv_iadd hx hb dL_law_366 ?_
  refine ft_top (y := nI (i + 2)) (ft_addN i 2) ?_
  refine va_sld hx hb hX hbl hbA hS (vp_in_nI (by omega) (by omega)) dL_law_367 ?_
  refine ft_callL (X1 := fun c9 => ftCB9 cI cS o0 A0 (c9.1.2.1 0) c9) (va_runV (C := RX10) (As := [.int (xs (nI (i + 1)).toNatClampNeg), .int (xs (nI (i + 2)).toNatClampNeg)]) (rest := []) ⟨hx, hb, hml, hown, htl⟩ (b_X10_part l D cI cS H.size sK sV o0 A0 n9 hn9 cd w (cd.1.1 3) (xs (nI (i + 1)).toNatClampNeg) (xs (nI (i + 2)).toNatClampNeg) hR) (cwV 2 htl gL_law_X10_part rfl rfl rfl (by decide +kernel) ⟨Nat.le_of_ble_eq_true rfl, Nat.le_of_ble_eq_true rfl⟩) (ft_preL (ci := 10) hP hD hKK hSt hS hA rfl rfl) rfl rfl hl.1 rfl (lv_room (Nat.le_of_ble_eq_true rfl)) dL_law_368 ⟨Nat.le_of_ble_eq_true rfl, Nat.le_of_ble_eq_true rfl⟩) hP hD hS hA (fun r1 c9 hc9 H locs hP hD hS => ?_)
  refine lv_pop hx hb dL_law_371 rfl ?_
  refine lv_aload_n hx hb dL_law_372 rfl (lv_at hl 2 rfl) ?_
  refine lv_aload_n hx hb dL_law_373 rfl (lv_at hl 0 rfl) ?_
  refine lv_iload_n hx hb dL_law_374 rfl (lv_at hl 3 rfl) ?_
  refine lv_iconst (v := 1) hx hb dL_law_375 (by decide) ?_
  refine lv_iadd hx hb dL_law_376 ?_
  refine ft_top (y := nI (i + 1)) (ft_addN i 1) ?_
  refine va_sld hx hb hX hbl hbA hS (vp_in_nI (by omega) (by omega)) dL_law_377 ?_
  refine lv_aload_n hx hb dL_law_378 rfl (lv_at hl 0 rfl) ?_
  refine lv_iload_n hx hb dL_law_379 rfl (lv_at hl 3 rfl) ?_
  refine lv_iconst (v := 2) hx hb dL_law_380 (by decide) ?_
  refine lv_iadd hx hb dL_law_381 ?_
  refine ft_top (y := nI (i + 2)) (ft_addN i 2) ?_
  refine va_sld hx hb hX hbl hbA hS (vp_in_nI (by omega) (by omega)) dL_law_382 ?_
  refine ft_callR (X1 := fun (q9 : ftRR) => ftRB cI m0 P q9) (va_runV (C := RX11) (As := [.int (xs (nI (i + 1)).toNatClampNeg), .int (xs (nI (i + 2)).toNatClampNeg)]) (rest := []) ⟨hx, hb, hml, hown, htl⟩ (b_X11_part l D cI cS H.size sK sV m0 P w z cd.2.2.1.2.1 (cd.1.1 3) cd.2.2.1.1 j (xs (nI (i + 1)).toNatClampNeg) (xs (nI (i + 2)).toNatClampNeg) h1 h11 h12) (cwV 2 htl gL_law_X11_part rfl rfl rfl (by decide +kernel) ⟨Nat.le_of_ble_eq_true rfl, Nat.le_of_ble_eq_true rfl⟩) (ft_preR (ci := 11) hP hD hKK hSt hS hA rfl rfl) rfl rfl hl.1 rfl (lv_room (Nat.le_of_ble_eq_true rfl)) dL_law_383 ⟨Nat.le_of_ble_eq_true rfl, Nat.le_of_ble_eq_true rfl⟩) hP hD hS hA (fun r2 q9 hq9 H locs hP hD hS => ?_)
  refine lv_pop hx hb dL_law_386 rfl ?_
  refine lv_goto (tgt := 699) hx hb dL_law_387 (by decide) ?_
  exact kk c9 q9 r1 r2 hc9 hq9 H locs hP hD hS
set_option maxHeartbeats 4000000 in
set_option maxRecDepth 100000 in
theorem lw_case_lineLoss {l : Launch} {p : Program} {e : Env} {s : State} {m : MethodId} {below : List Frame} {meth : Method} {c : Code} {b L : Nat} {xs : Nat → Int32} {D : va_G} {cI cS : ClassId} {sK sV : Nat → Nat} (C0 : lw_Cx p s m meth c b L xs D cI cS sK sV) {o0 m0 i : Nat} {A0 : Nat → Nat → Nat} {P : Nat → Nat} {cd : ftCdT} {w z : Nat → Int32} {j : ftRD} {n9 : Nat} (hn9 : n9 < 1000) (hR : ftCR n9 cd w (cd.1.1 3)) (hLi : i + 5 ≤ L) {H : Heap} {locs : List Loc} (hP : va_P D vwCl (ftCB9 cI cS o0 A0 (cd.1.2.1 0) cd ++ ftRB cI m0 P ((w, z, cd.2.2.1.2.1), (cd.1.1 3, cd.2.2.1.1), j)) H) (hD : va_D (fun q => s.heap.size ≤ q) (ftCB9 cI cS o0 A0 (cd.1.2.1 0) cd ++ ftRB cI m0 P ((w, z, cd.2.2.1.2.1), (cd.1.1 3, cd.2.2.1.1), j))) (hS : va_S (fun q => s.heap.size ≤ q) s.heap H locs) {ls : Array Slot} (hl : ftLs ls b o0 m0 i) (kk : ∀ (c9 : ftCdT) (q9 : ftRR) (r1 r2 : Int32), (fun (r : Int32) (c9 : ftCdT) => ∃ _u : Unit, c9 = cd ∧ r = ftLlA w (xs (nI (i + 1)).toNatClampNeg)) r1 c9 → (fun (r : Int32) (q9 : ftRR) => ∃ _u : Unit, q9 = ((w, z, cd.2.2.1.2.1), ((cd.1.1 3), cd.2.2.1.1), j) ∧ r = ftLlA w (xs (nI (i + 1)).toNatClampNeg)) r2 q9 → ∀ (H : Heap) (locs : List Loc), va_P D vwCl (ftCB9 cI cS o0 A0 (c9.1.2.1 0) c9 ++ ftRB cI m0 P q9) H → va_D (fun q => s.heap.size ≤ q) (ftCB9 cI cS o0 A0 (c9.1.2.1 0) c9 ++ ftRB cI m0 P q9) → va_S (fun q => s.heap.size ≤ q) s.heap H locs → ftLW l p e s m below meth c b H locs (F0 m 699 ls [])) : ftLW l p e s m below meth c b H locs (F0 m 390 ls []) := by
  obtain ⟨⟨hx, hb, hr, hml, hown, hts, hX, hbl, hlocks, hgv⟩, hKK, hSt, hL30⟩ := C0
  have hbA : ¬ (fun q : Nat => s.heap.size ≤ q) b := Nat.not_le.mpr hbl
  have hA : ∀ q : Nat, s.heap.size ≤ q → (fun q : Nat => s.heap.size ≤ q) q := fun _ h => h
  have htl : ∀ w ∈ wsL_law, w.before #[Value.ref b] s = true := fun w h => hts w (wsL_law_in w h)
  obtain ⟨h1, -, -, -, -, -, -, -, -, -, h11, h12⟩ := id hR
  refine lv_aload_n hx hb dL_law_390 rfl (lv_at hl 1 rfl) ?_
  refine lv_aload_n hx hb dL_law_391 rfl (lv_at hl 0 rfl) ?_
  refine lv_iload_n hx hb dL_law_392 rfl (lv_at hl 3 rfl) ?_
  refine lv_iconst (v := 1) hx hb dL_law_393 (by decide) ?_
  refine lv_iadd hx hb dL_law_394 ?_
  refine ft_top (y := nI (i + 1)) (ft_addN i 1) ?_
  refine va_sld hx hb hX hbl hbA hS (vp_in_nI (by omega) (by omega)) dL_law_395 ?_
  refine ft_callL (X1 := fun c9 => ftCB9 cI cS o0 A0 (c9.1.2.1 0) c9) (va_runV (C := RX10) (As := [.int (xs (nI (i + 1)).toNatClampNeg)]) (rest := []) ⟨hx, hb, hml, hown, htl⟩ (b_X10_lineLoss l D cI cS H.size sK sV o0 A0 n9 hn9 cd w (cd.1.1 3) (xs (nI (i + 1)).toNatClampNeg) hR) (cwV 1 htl gL_law_X10_lineLoss rfl rfl rfl (by decide +kernel) ⟨Nat.le_of_ble_eq_true rfl, Nat.le_of_ble_eq_true rfl⟩) (ft_preL (ci := 10) hP hD hKK hSt hS hA rfl rfl) rfl rfl hl.1 rfl (lv_room (Nat.le_of_ble_eq_true rfl)) dL_law_396 ⟨Nat.le_of_ble_eq_true rfl, Nat.le_of_ble_eq_true rfl⟩) hP hD hS hA (fun r1 c9 hc9 H locs hP hD hS => ?_)
  refine lv_pop hx hb dL_law_399 rfl ?_
  refine lv_aload_n hx hb dL_law_400 rfl (lv_at hl 2 rfl) ?_
  refine lv_aload_n hx hb dL_law_401 rfl (lv_at hl 0 rfl) ?_
  refine lv_iload_n hx hb dL_law_402 rfl (lv_at hl 3 rfl) ?_
  refine lv_iconst (v := 1) hx hb dL_law_403 (by decide) ?_
  refine lv_iadd hx hb dL_law_404 ?_
  refine ft_top (y := nI (i + 1)) (ft_addN i 1) ?_
  refine va_sld hx hb hX hbl hbA hS (vp_in_nI (by omega) (by omega)) dL_law_405 ?_
  refine ft_callR (X1 := fun (q9 : ftRR) => ftRB cI m0 P q9) (va_runV (C := RX11) (As := [.int (xs (nI (i + 1)).toNatClampNeg)]) (rest := []) ⟨hx, hb, hml, hown, htl⟩ (b_X11_lineLoss l D cI cS H.size sK sV m0 P w z cd.2.2.1.2.1 (cd.1.1 3) cd.2.2.1.1 j (xs (nI (i + 1)).toNatClampNeg) h1 h11 h12) (cwV 1 htl gL_law_X11_lineLoss rfl rfl rfl (by decide +kernel) ⟨Nat.le_of_ble_eq_true rfl, Nat.le_of_ble_eq_true rfl⟩) (ft_preR (ci := 11) hP hD hKK hSt hS hA rfl rfl) rfl rfl hl.1 rfl (lv_room (Nat.le_of_ble_eq_true rfl)) dL_law_406 ⟨Nat.le_of_ble_eq_true rfl, Nat.le_of_ble_eq_true rfl⟩) hP hD hS hA (fun r2 q9 hq9 H locs hP hD hS => ?_)
  refine lv_pop hx hb dL_law_409 rfl ?_
  refine lv_goto (tgt := 699) hx hb dL_law_410 (by decide) ?_
  exact kk c9 q9 r1 r2 hc9 hq9 H locs hP hD hS
set_option maxHeartbeats 4000000 in
set_option maxRecDepth 100000 in
theorem lw_case_sample {l : Launch} {p : Program} {e : Env} {s : State} {m : MethodId} {below : List Frame} {meth : Method} {c : Code} {b L : Nat} {xs : Nat → Int32} {D : va_G} {cI cS : ClassId} {sK sV : Nat → Nat} (C0 : lw_Cx p s m meth c b L xs D cI cS sK sV) {o0 m0 i : Nat} {A0 : Nat → Nat → Nat} {P : Nat → Nat} {cd : ftCdT} {w z : Nat → Int32} {j : ftRD} {n9 : Nat} (hn9 : n9 < 1000) (hR : ftCR n9 cd w (cd.1.1 3)) (hLi : i + 5 ≤ L) {H : Heap} {locs : List Loc} (hP : va_P D vwCl (ftCB9 cI cS o0 A0 (cd.1.2.1 0) cd ++ ftRB cI m0 P ((w, z, cd.2.2.1.2.1), (cd.1.1 3, cd.2.2.1.1), j)) H) (hD : va_D (fun q => s.heap.size ≤ q) (ftCB9 cI cS o0 A0 (cd.1.2.1 0) cd ++ ftRB cI m0 P ((w, z, cd.2.2.1.2.1), (cd.1.1 3, cd.2.2.1.1), j))) (hS : va_S (fun q => s.heap.size ≤ q) s.heap H locs) {ls : Array Slot} (hl : ftLs ls b o0 m0 i) (kk : ∀ (c9 : ftCdT) (q9 : ftRR) (r1 r2 : Int32), (fun (r : Int32) (c9 : ftCdT) => ∃ u : Int32 × ftUm, c9 = (ftFlS cd.1 u.1, u.2, cd.2.2) ∧ (r = ftSmA w (xs (nI (i + 1)).toNatClampNeg) (xs (nI (i + 2)).toNatClampNeg) ∧ (ftMi w u.1 u.2))) r1 c9 → (fun (r : Int32) (q9 : ftRR) => ∃ u : (Nat → Int32) × (Nat → Nat → Int32), q9 = ((w, z, cd.2.2.1.2.1), ((cd.1.1 3), cd.2.2.1.1), ((fun k => match k with | 15 => u.1 15 | 18 => u.1 18 | k => j.1 k), (fun k => match k with | 12 => u.2 12 | 13 => u.2 13 | 14 => u.2 14 | 16 => u.2 16 | 17 => u.2 17 | 19 => u.2 19 | 20 => u.2 20 | 21 => u.2 21 | 22 => u.2 22 | k => j.2 k))) ∧ (r = ftSmA w (xs (nI (i + 1)).toNatClampNeg) (xs (nI (i + 2)).toNatClampNeg) ∧ True)) r2 q9 → ∀ (H : Heap) (locs : List Loc), va_P D vwCl (ftCB9 cI cS o0 A0 (c9.1.2.1 0) c9 ++ ftRB cI m0 P q9) H → va_D (fun q => s.heap.size ≤ q) (ftCB9 cI cS o0 A0 (c9.1.2.1 0) c9 ++ ftRB cI m0 P q9) → va_S (fun q => s.heap.size ≤ q) s.heap H locs → ftLW l p e s m below meth c b H locs (F0 m 699 ls [])) : ftLW l p e s m below meth c b H locs (F0 m 413 ls []) := by
  obtain ⟨⟨hx, hb, hr, hml, hown, hts, hX, hbl, hlocks, hgv⟩, hKK, hSt, hL30⟩ := C0
  have hbA : ¬ (fun q : Nat => s.heap.size ≤ q) b := Nat.not_le.mpr hbl
  have hA : ∀ q : Nat, s.heap.size ≤ q → (fun q : Nat => s.heap.size ≤ q) q := fun _ h => h
  have htl : ∀ w ∈ wsL_law, w.before #[Value.ref b] s = true := fun w h => hts w (wsL_law_in w h)
  obtain ⟨h1, -, -, -, -, -, -, -, -, -, h11, h12⟩ := id hR
  refine lv_aload_n hx hb dL_law_413 rfl (lv_at hl 1 rfl) ?_
  refine lv_aload_n hx hb dL_law_414 rfl (lv_at hl 0 rfl) ?_
  refine lv_iload_n hx hb dL_law_415 rfl (lv_at hl 3 rfl) ?_
  refine lv_iconst (v := 1) hx hb dL_law_416 (by decide) ?_
  refine lv_iadd hx hb dL_law_417 ?_
  refine ft_top (y := nI (i + 1)) (ft_addN i 1) ?_
  refine va_sld hx hb hX hbl hbA hS (vp_in_nI (by omega) (by omega)) dL_law_418 ?_
  refine lv_aload_n hx hb dL_law_419 rfl (lv_at hl 0 rfl) ?_
  refine lv_iload_n hx hb dL_law_420 rfl (lv_at hl 3 rfl) ?_
  refine lv_iconst (v := 2) hx hb dL_law_421 (by decide) ?_
  refine lv_iadd hx hb dL_law_422 ?_
  refine ft_top (y := nI (i + 2)) (ft_addN i 2) ?_
  refine va_sld hx hb hX hbl hbA hS (vp_in_nI (by omega) (by omega)) dL_law_423 ?_
  refine ft_callL (X1 := fun c9 => ftCB9 cI cS o0 A0 (c9.1.2.1 0) c9) (va_runV (C := RX10) (As := [.int (xs (nI (i + 1)).toNatClampNeg), .int (xs (nI (i + 2)).toNatClampNeg)]) (rest := []) ⟨hx, hb, hml, hown, htl⟩ (b_X10_sample l D cI cS H.size sK sV o0 A0 n9 hn9 cd w (cd.1.1 3) (xs (nI (i + 1)).toNatClampNeg) (xs (nI (i + 2)).toNatClampNeg) hR) (cwV 2 htl gL_law_X10_sample rfl rfl rfl (by decide +kernel) ⟨Nat.le_of_ble_eq_true rfl, Nat.le_of_ble_eq_true rfl⟩) (ft_preL (ci := 10) hP hD hKK hSt hS hA rfl rfl) rfl rfl hl.1 rfl (lv_room (Nat.le_of_ble_eq_true rfl)) dL_law_424 ⟨Nat.le_of_ble_eq_true rfl, Nat.le_of_ble_eq_true rfl⟩) hP hD hS hA (fun r1 c9 hc9 H locs hP hD hS => ?_)
  refine lv_pop hx hb dL_law_427 rfl ?_
  refine lv_aload_n hx hb dL_law_428 rfl (lv_at hl 2 rfl) ?_
  refine lv_aload_n hx hb dL_law_429 rfl (lv_at hl 0 rfl) ?_
  refine lv_iload_n hx hb dL_law_430 rfl (lv_at hl 3 rfl) ?_
  refine lv_iconst (v := 1) hx hb dL_law_431 (by decide) ?_
  refine lv_iadd hx hb dL_law_432 ?_
  refine ft_top (y := nI (i + 1)) (ft_addN i 1) ?_
  refine va_sld hx hb hX hbl hbA hS (vp_in_nI (by omega) (by omega)) dL_law_433 ?_
  refine lv_aload_n hx hb dL_law_434 rfl (lv_at hl 0 rfl) ?_
  refine lv_iload_n hx hb dL_law_435 rfl (lv_at hl 3 rfl) ?_
  refine lv_iconst (v := 2) hx hb dL_law_436 (by decide) ?_
  refine lv_iadd hx hb dL_law_437 ?_
  refine ft_top (y := nI (i + 2)) (ft_addN i 2) ?_
  refine va_sld hx hb hX hbl hbA hS (vp_in_nI (by omega) (by omega)) dL_law_438 ?_
  refine ft_callR (X1 := fun (q9 : ftRR) => ftRB cI m0 P q9) (va_runV (C := RX11) (As := [.int (xs (nI (i + 1)).toNatClampNeg), .int (xs (nI (i + 2)).toNatClampNeg)]) (rest := []) ⟨hx, hb, hml, hown, htl⟩ (b_X11_sample l D cI cS H.size sK sV m0 P w z cd.2.2.1.2.1 (cd.1.1 3) cd.2.2.1.1 j (xs (nI (i + 1)).toNatClampNeg) (xs (nI (i + 2)).toNatClampNeg) h1 h11 h12) (cwV 2 htl gL_law_X11_sample rfl rfl rfl (by decide +kernel) ⟨Nat.le_of_ble_eq_true rfl, Nat.le_of_ble_eq_true rfl⟩) (ft_preR (ci := 11) hP hD hKK hSt hS hA rfl rfl) rfl rfl hl.1 rfl (lv_room (Nat.le_of_ble_eq_true rfl)) dL_law_439 ⟨Nat.le_of_ble_eq_true rfl, Nat.le_of_ble_eq_true rfl⟩) hP hD hS hA (fun r2 q9 hq9 H locs hP hD hS => ?_)
  refine lv_pop hx hb dL_law_442 rfl ?_
  refine lv_goto (tgt := 699) hx hb dL_law_443 (by decide) ?_
  exact kk c9 q9 r1 r2 hc9 hq9 H locs hP hD hS
set_option maxHeartbeats 4000000 in
set_option maxRecDepth 100000 in
theorem lw_case_echo {l : Launch} {p : Program} {e : Env} {s : State} {m : MethodId} {below : List Frame} {meth : Method} {c : Code} {b L : Nat} {xs : Nat → Int32} {D : va_G} {cI cS : ClassId} {sK sV : Nat → Nat} (C0 : lw_Cx p s m meth c b L xs D cI cS sK sV) {o0 m0 i : Nat} {A0 : Nat → Nat → Nat} {P : Nat → Nat} {cd : ftCdT} {w z : Nat → Int32} {j : ftRD} {n9 : Nat} (hn9 : n9 < 1000) (hR : ftCR n9 cd w (cd.1.1 3)) (hLi : i + 5 ≤ L) {H : Heap} {locs : List Loc} (hP : va_P D vwCl (ftCB9 cI cS o0 A0 (cd.1.2.1 0) cd ++ ftRB cI m0 P ((w, z, cd.2.2.1.2.1), (cd.1.1 3, cd.2.2.1.1), j)) H) (hD : va_D (fun q => s.heap.size ≤ q) (ftCB9 cI cS o0 A0 (cd.1.2.1 0) cd ++ ftRB cI m0 P ((w, z, cd.2.2.1.2.1), (cd.1.1 3, cd.2.2.1.1), j))) (hS : va_S (fun q => s.heap.size ≤ q) s.heap H locs) {ls : Array Slot} (hl : ftLs ls b o0 m0 i) (kk : ∀ (c9 : ftCdT) (q9 : ftRR) (r1 r2 : Int32), (fun (r : Int32) (c9 : ftCdT) => ∃ u : Int32 × ftUm, c9 = (ftFlS cd.1 u.1, u.2, cd.2.2) ∧ (r = ftEcA w (xs (nI (i + 1)).toNatClampNeg) (xs (nI (i + 2)).toNatClampNeg) ∧ (ftMi w u.1 u.2))) r1 c9 → (fun (r : Int32) (q9 : ftRR) => ∃ u : (Nat → Int32) × (Nat → Nat → Int32), q9 = ((w, z, cd.2.2.1.2.1), ((cd.1.1 3), cd.2.2.1.1), ((fun k => match k with | 15 => u.1 15 | 18 => u.1 18 | k => j.1 k), (fun k => match k with | 16 => u.2 16 | 17 => u.2 17 | 19 => u.2 19 | 20 => u.2 20 | 21 => u.2 21 | 22 => u.2 22 | k => j.2 k))) ∧ (r = ftEcA w (xs (nI (i + 1)).toNatClampNeg) (xs (nI (i + 2)).toNatClampNeg) ∧ True)) r2 q9 → ∀ (H : Heap) (locs : List Loc), va_P D vwCl (ftCB9 cI cS o0 A0 (c9.1.2.1 0) c9 ++ ftRB cI m0 P q9) H → va_D (fun q => s.heap.size ≤ q) (ftCB9 cI cS o0 A0 (c9.1.2.1 0) c9 ++ ftRB cI m0 P q9) → va_S (fun q => s.heap.size ≤ q) s.heap H locs → ftLW l p e s m below meth c b H locs (F0 m 699 ls [])) : ftLW l p e s m below meth c b H locs (F0 m 446 ls []) := by
  obtain ⟨⟨hx, hb, hr, hml, hown, hts, hX, hbl, hlocks, hgv⟩, hKK, hSt, hL30⟩ := C0
  have hbA : ¬ (fun q : Nat => s.heap.size ≤ q) b := Nat.not_le.mpr hbl
  have hA : ∀ q : Nat, s.heap.size ≤ q → (fun q : Nat => s.heap.size ≤ q) q := fun _ h => h
  have htl : ∀ w ∈ wsL_law, w.before #[Value.ref b] s = true := fun w h => hts w (wsL_law_in w h)
  obtain ⟨h1, -, -, -, -, -, -, -, -, -, h11, h12⟩ := id hR
  refine lv_aload_n hx hb dL_law_446 rfl (lv_at hl 1 rfl) ?_
  refine lv_aload_n hx hb dL_law_447 rfl (lv_at hl 0 rfl) ?_
  refine lv_iload_n hx hb dL_law_448 rfl (lv_at hl 3 rfl) ?_
  refine lv_iconst (v := 1) hx hb dL_law_449 (by decide) ?_
  refine lv_iadd hx hb dL_law_450 ?_
  refine ft_top (y := nI (i + 1)) (ft_addN i 1) ?_
  refine va_sld hx hb hX hbl hbA hS (vp_in_nI (by omega) (by omega)) dL_law_451 ?_
  refine lv_aload_n hx hb dL_law_452 rfl (lv_at hl 0 rfl) ?_
  refine lv_iload_n hx hb dL_law_453 rfl (lv_at hl 3 rfl) ?_
  refine lv_iconst (v := 2) hx hb dL_law_454 (by decide) ?_
  refine lv_iadd hx hb dL_law_455 ?_
  refine ft_top (y := nI (i + 2)) (ft_addN i 2) ?_
  refine va_sld hx hb hX hbl hbA hS (vp_in_nI (by omega) (by omega)) dL_law_456 ?_
  refine ft_callL (X1 := fun c9 => ftCB9 cI cS o0 A0 (c9.1.2.1 0) c9) (va_runV (C := RX10) (As := [.int (xs (nI (i + 1)).toNatClampNeg), .int (xs (nI (i + 2)).toNatClampNeg)]) (rest := []) ⟨hx, hb, hml, hown, htl⟩ (b_X10_echo l D cI cS H.size sK sV o0 A0 n9 hn9 cd w (cd.1.1 3) (xs (nI (i + 1)).toNatClampNeg) (xs (nI (i + 2)).toNatClampNeg) hR) (cwV 2 htl gL_law_X10_echo rfl rfl rfl (by decide +kernel) ⟨Nat.le_of_ble_eq_true rfl, Nat.le_of_ble_eq_true rfl⟩) (ft_preL (ci := 10) hP hD hKK hSt hS hA rfl rfl) rfl rfl hl.1 rfl (lv_room (Nat.le_of_ble_eq_true rfl)) dL_law_457 ⟨Nat.le_of_ble_eq_true rfl, Nat.le_of_ble_eq_true rfl⟩) hP hD hS hA (fun r1 c9 hc9 H locs hP hD hS => ?_)
  refine lv_aload_n hx hb dL_law_460 rfl (lv_at hl 2 rfl) ?_
  refine lv_aload_n hx hb dL_law_461 rfl (lv_at hl 0 rfl) ?_
  refine lv_iload_n hx hb dL_law_462 rfl (lv_at hl 3 rfl) ?_
  refine lv_iconst (v := 1) hx hb dL_law_463 (by decide) ?_
  refine lv_iadd hx hb dL_law_464 ?_
  refine ft_top (y := nI (i + 1)) (ft_addN i 1) ?_
  refine va_sld hx hb hX hbl hbA hS (vp_in_nI (by omega) (by omega)) dL_law_465 ?_
  refine lv_aload_n hx hb dL_law_466 rfl (lv_at hl 0 rfl) ?_
  refine lv_iload_n hx hb dL_law_467 rfl (lv_at hl 3 rfl) ?_
  refine lv_iconst (v := 2) hx hb dL_law_468 (by decide) ?_
  refine lv_iadd hx hb dL_law_469 ?_
  refine ft_top (y := nI (i + 2)) (ft_addN i 2) ?_
  refine va_sld hx hb hX hbl hbA hS (vp_in_nI (by omega) (by omega)) dL_law_470 ?_
  refine ft_callR (X1 := fun (q9 : ftRR) => ftRB cI m0 P q9) (va_runV (C := RX11) (As := [.int (xs (nI (i + 1)).toNatClampNeg), .int (xs (nI (i + 2)).toNatClampNeg)]) (rest := [.int r1]) ⟨hx, hb, hml, hown, htl⟩ (b_X11_echo l D cI cS H.size sK sV m0 P w z cd.2.2.1.2.1 (cd.1.1 3) cd.2.2.1.1 j (xs (nI (i + 1)).toNatClampNeg) (xs (nI (i + 2)).toNatClampNeg) h1 h11 h12) (cwV 2 htl gL_law_X11_echo rfl rfl rfl (by decide +kernel) ⟨Nat.le_of_ble_eq_true rfl, Nat.le_of_ble_eq_true rfl⟩) (ft_preR (ci := 11) hP hD hKK hSt hS hA rfl rfl) rfl rfl hl.1 rfl (lv_room (Nat.le_of_ble_eq_true rfl)) dL_law_471 ⟨Nat.le_of_ble_eq_true rfl, Nat.le_of_ble_eq_true rfl⟩) hP hD hS hA (fun r2 q9 hq9 H locs hP hD hS => ?_)
  refine lv_icmp_eq (tgt := 699) hx hb dL_law_474 (by decide) (fun _ => ?_) (fun cne => ?_)
  · exact kk c9 q9 r1 r2 hc9 hq9 H locs hP hD hS
  · refine absurd ?_ cne
    obtain ⟨u1, -, e1, f1⟩ := hc9
    obtain ⟨u2, -, e2, f2⟩ := hq9
    exact e1.trans e2.symm
set_option maxHeartbeats 4000000 in
set_option maxRecDepth 100000 in
theorem lw_case_pulsesFor {l : Launch} {p : Program} {e : Env} {s : State} {m : MethodId} {below : List Frame} {meth : Method} {c : Code} {b L : Nat} {xs : Nat → Int32} {D : va_G} {cI cS : ClassId} {sK sV : Nat → Nat} (C0 : lw_Cx p s m meth c b L xs D cI cS sK sV) {o0 m0 i : Nat} {A0 : Nat → Nat → Nat} {P : Nat → Nat} {cd : ftCdT} {w z : Nat → Int32} {j : ftRD} {n9 : Nat} (hn9 : n9 < 1000) (hR : ftCR n9 cd w (cd.1.1 3)) (hLi : i + 5 ≤ L) {H : Heap} {locs : List Loc} (hP : va_P D vwCl (ftCB9 cI cS o0 A0 (cd.1.2.1 0) cd ++ ftRB cI m0 P ((w, z, cd.2.2.1.2.1), (cd.1.1 3, cd.2.2.1.1), j)) H) (hD : va_D (fun q => s.heap.size ≤ q) (ftCB9 cI cS o0 A0 (cd.1.2.1 0) cd ++ ftRB cI m0 P ((w, z, cd.2.2.1.2.1), (cd.1.1 3, cd.2.2.1.1), j))) (hS : va_S (fun q => s.heap.size ≤ q) s.heap H locs) {ls : Array Slot} (hl : ftLs ls b o0 m0 i) (kk : ∀ (c9 : ftCdT) (q9 : ftRR) (r1 r2 : Int32), (fun (r : Int32) (c9 : ftCdT) => ∃ u : Int32 × Int32, c9 = (cd.1, (cd.2.1.1, fun k => match k with | 0 => u.1 | 1 => u.2 | k => cd.2.1.2.1 k, cd.2.1.2.2), cd.2.2) ∧ (r = ftPuA w (xs (nI (i + 1)).toNatClampNeg) ∧ True)) r1 c9 → (fun (r : Int32) (q9 : ftRR) => ∃ u : Nat → Int32, q9 = ((w, z, cd.2.2.1.2.1), ((cd.1.1 3), cd.2.2.1.1), (j.1, (fun k => match k with | 14 => u | k => j.2 k))) ∧ (r = ftPuA w (xs (nI (i + 1)).toNatClampNeg) ∧ True)) r2 q9 → ∀ (H : Heap) (locs : List Loc), va_P D vwCl (ftCB9 cI cS o0 A0 (c9.1.2.1 0) c9 ++ ftRB cI m0 P q9) H → va_D (fun q => s.heap.size ≤ q) (ftCB9 cI cS o0 A0 (c9.1.2.1 0) c9 ++ ftRB cI m0 P q9) → va_S (fun q => s.heap.size ≤ q) s.heap H locs → ftLW l p e s m below meth c b H locs (F0 m 699 ls [])) : ftLW l p e s m below meth c b H locs (F0 m 479 ls []) := by
  obtain ⟨⟨hx, hb, hr, hml, hown, hts, hX, hbl, hlocks, hgv⟩, hKK, hSt, hL30⟩ := C0
  have hbA : ¬ (fun q : Nat => s.heap.size ≤ q) b := Nat.not_le.mpr hbl
  have hA : ∀ q : Nat, s.heap.size ≤ q → (fun q : Nat => s.heap.size ≤ q) q := fun _ h => h
  have htl : ∀ w ∈ wsL_law, w.before #[Value.ref b] s = true := fun w h => hts w (wsL_law_in w h)
  obtain ⟨h1, -, -, -, -, -, -, -, -, -, h11, h12⟩ := id hR
  refine lv_aload_n hx hb dL_law_479 rfl (lv_at hl 1 rfl) ?_
  refine lv_aload_n hx hb dL_law_480 rfl (lv_at hl 0 rfl) ?_
  refine lv_iload_n hx hb dL_law_481 rfl (lv_at hl 3 rfl) ?_
  refine lv_iconst (v := 1) hx hb dL_law_482 (by decide) ?_
  refine lv_iadd hx hb dL_law_483 ?_
  refine ft_top (y := nI (i + 1)) (ft_addN i 1) ?_
  refine va_sld hx hb hX hbl hbA hS (vp_in_nI (by omega) (by omega)) dL_law_484 ?_
  refine ft_callL (X1 := fun c9 => ftCB9 cI cS o0 A0 (c9.1.2.1 0) c9) (va_runV (C := RX10) (As := [.int (xs (nI (i + 1)).toNatClampNeg)]) (rest := []) ⟨hx, hb, hml, hown, htl⟩ (b_X10_pulsesFor l D cI cS H.size sK sV o0 A0 n9 hn9 cd w (cd.1.1 3) (xs (nI (i + 1)).toNatClampNeg) hR) (cwV 1 htl gL_law_X10_pulsesFor rfl rfl rfl (by decide +kernel) ⟨Nat.le_of_ble_eq_true rfl, Nat.le_of_ble_eq_true rfl⟩) (ft_preL (ci := 10) hP hD hKK hSt hS hA rfl rfl) rfl rfl hl.1 rfl (lv_room (Nat.le_of_ble_eq_true rfl)) dL_law_485 ⟨Nat.le_of_ble_eq_true rfl, Nat.le_of_ble_eq_true rfl⟩) hP hD hS hA (fun r1 c9 hc9 H locs hP hD hS => ?_)
  refine lv_pop hx hb dL_law_488 rfl ?_
  refine lv_aload_n hx hb dL_law_489 rfl (lv_at hl 2 rfl) ?_
  refine lv_aload_n hx hb dL_law_490 rfl (lv_at hl 0 rfl) ?_
  refine lv_iload_n hx hb dL_law_491 rfl (lv_at hl 3 rfl) ?_
  refine lv_iconst (v := 1) hx hb dL_law_492 (by decide) ?_
  refine lv_iadd hx hb dL_law_493 ?_
  refine ft_top (y := nI (i + 1)) (ft_addN i 1) ?_
  refine va_sld hx hb hX hbl hbA hS (vp_in_nI (by omega) (by omega)) dL_law_494 ?_
  refine ft_callR (X1 := fun (q9 : ftRR) => ftRB cI m0 P q9) (va_runV (C := RX11) (As := [.int (xs (nI (i + 1)).toNatClampNeg)]) (rest := []) ⟨hx, hb, hml, hown, htl⟩ (b_X11_pulsesFor l D cI cS H.size sK sV m0 P w z cd.2.2.1.2.1 (cd.1.1 3) cd.2.2.1.1 j (xs (nI (i + 1)).toNatClampNeg) h1 h11 h12) (cwV 1 htl gL_law_X11_pulsesFor rfl rfl rfl (by decide +kernel) ⟨Nat.le_of_ble_eq_true rfl, Nat.le_of_ble_eq_true rfl⟩) (ft_preR (ci := 11) hP hD hKK hSt hS hA rfl rfl) rfl rfl hl.1 rfl (lv_room (Nat.le_of_ble_eq_true rfl)) dL_law_495 ⟨Nat.le_of_ble_eq_true rfl, Nat.le_of_ble_eq_true rfl⟩) hP hD hS hA (fun r2 q9 hq9 H locs hP hD hS => ?_)
  refine lv_pop hx hb dL_law_498 rfl ?_
  refine lv_goto (tgt := 699) hx hb dL_law_499 (by decide) ?_
  exact kk c9 q9 r1 r2 hc9 hq9 H locs hP hD hS
set_option maxHeartbeats 4000000 in
set_option maxRecDepth 100000 in
theorem lw_case_events {l : Launch} {p : Program} {e : Env} {s : State} {m : MethodId} {below : List Frame} {meth : Method} {c : Code} {b L : Nat} {xs : Nat → Int32} {D : va_G} {cI cS : ClassId} {sK sV : Nat → Nat} (C0 : lw_Cx p s m meth c b L xs D cI cS sK sV) {o0 m0 i : Nat} {A0 : Nat → Nat → Nat} {P : Nat → Nat} {cd : ftCdT} {w z : Nat → Int32} {j : ftRD} {n9 : Nat} (hn9 : n9 < 1000) (hR : ftCR n9 cd w (cd.1.1 3)) (hLi : i + 5 ≤ L) {H : Heap} {locs : List Loc} (hP : va_P D vwCl (ftCB9 cI cS o0 A0 (cd.1.2.1 0) cd ++ ftRB cI m0 P ((w, z, cd.2.2.1.2.1), (cd.1.1 3, cd.2.2.1.1), j)) H) (hD : va_D (fun q => s.heap.size ≤ q) (ftCB9 cI cS o0 A0 (cd.1.2.1 0) cd ++ ftRB cI m0 P ((w, z, cd.2.2.1.2.1), (cd.1.1 3, cd.2.2.1.1), j))) (hS : va_S (fun q => s.heap.size ≤ q) s.heap H locs) {ls : Array Slot} (hl : ftLs ls b o0 m0 i) (kk : ∀ (c9 : ftCdT) (q9 : ftRR) (r1 r2 : Int32), (fun (r : Int32) (c9 : ftCdT) => ∃ u : Int32 × ftUm, c9 = (ftFlS cd.1 u.1, u.2, cd.2.2) ∧ (r = nI (ftCE w).1 ∧ (ftMi w u.1 u.2))) r1 c9 → (fun (r : Int32) (q9 : ftRR) => ∃ u : (Nat → Int32) × (Nat → Nat → Int32), q9 = ((w, z, cd.2.2.1.2.1), ((cd.1.1 3), cd.2.2.1.1), ((fun k => match k with | 15 => u.1 15 | 18 => u.1 18 | 23 => u.1 23 | 24 => u.1 24 | k => j.1 k), (fun k => match k with | 12 => u.2 12 | 13 => u.2 13 | 14 => u.2 14 | 16 => u.2 16 | 17 => u.2 17 | 19 => u.2 19 | 20 => u.2 20 | 21 => u.2 21 | 22 => u.2 22 | 25 => u.2 25 | 26 => u.2 26 | 27 => u.2 27 | 28 => u.2 28 | 29 => u.2 29 | 30 => u.2 30 | 31 => u.2 31 | 32 => u.2 32 | k => j.2 k))) ∧ (r = nI (ftCE w).1 ∧ True)) r2 q9 → ∀ (H : Heap) (locs : List Loc), va_P D vwCl (ftCB9 cI cS o0 A0 (c9.1.2.1 0) c9 ++ ftRB cI m0 P q9) H → va_D (fun q => s.heap.size ≤ q) (ftCB9 cI cS o0 A0 (c9.1.2.1 0) c9 ++ ftRB cI m0 P q9) → va_S (fun q => s.heap.size ≤ q) s.heap H locs → ftLW l p e s m below meth c b H locs (F0 m 699 ls [])) : ftLW l p e s m below meth c b H locs (F0 m 502 ls []) := by
  obtain ⟨⟨hx, hb, hr, hml, hown, hts, hX, hbl, hlocks, hgv⟩, hKK, hSt, hL30⟩ := C0
  have hbA : ¬ (fun q : Nat => s.heap.size ≤ q) b := Nat.not_le.mpr hbl
  have hA : ∀ q : Nat, s.heap.size ≤ q → (fun q : Nat => s.heap.size ≤ q) q := fun _ h => h
  have htl : ∀ w ∈ wsL_law, w.before #[Value.ref b] s = true := fun w h => hts w (wsL_law_in w h)
  obtain ⟨h1, -, -, -, -, -, -, -, -, -, h11, h12⟩ := id hR
  refine lv_aload_n hx hb dL_law_502 rfl (lv_at hl 1 rfl) ?_
  refine ft_callL (X1 := fun c9 => ftCB9 cI cS o0 A0 (c9.1.2.1 0) c9) (va_runV (C := RX10) (As := []) (rest := []) ⟨hx, hb, hml, hown, htl⟩ (b_X10_events l D cI cS H.size sK sV o0 A0 n9 hn9 cd w (cd.1.1 3) hR) (cwV 0 htl gL_law_X10_events rfl rfl rfl (by decide +kernel) ⟨Nat.le_of_ble_eq_true rfl, Nat.le_of_ble_eq_true rfl⟩) (ft_preL (ci := 10) hP hD hKK hSt hS hA rfl rfl) rfl rfl hl.1 rfl (lv_room (Nat.le_of_ble_eq_true rfl)) dL_law_503 ⟨Nat.le_of_ble_eq_true rfl, Nat.le_of_ble_eq_true rfl⟩) hP hD hS hA (fun r1 c9 hc9 H locs hP hD hS => ?_)
  refine lv_pop hx hb dL_law_506 rfl ?_
  refine lv_aload_n hx hb dL_law_507 rfl (lv_at hl 2 rfl) ?_
  refine ft_callR (X1 := fun (q9 : ftRR) => ftRB cI m0 P q9) (va_runV (C := RX11) (As := []) (rest := []) ⟨hx, hb, hml, hown, htl⟩ (b_X11_events l D cI cS H.size sK sV m0 P w z cd.2.2.1.2.1 (cd.1.1 3) cd.2.2.1.1 j h1 h11 h12) (cwV 0 htl gL_law_X11_events rfl rfl rfl (by decide +kernel) ⟨Nat.le_of_ble_eq_true rfl, Nat.le_of_ble_eq_true rfl⟩) (ft_preR (ci := 11) hP hD hKK hSt hS hA rfl rfl) rfl rfl hl.1 rfl (lv_room (Nat.le_of_ble_eq_true rfl)) dL_law_508 ⟨Nat.le_of_ble_eq_true rfl, Nat.le_of_ble_eq_true rfl⟩) hP hD hS hA (fun r2 q9 hq9 H locs hP hD hS => ?_)
  refine lv_pop hx hb dL_law_511 rfl ?_
  refine lv_goto (tgt := 699) hx hb dL_law_512 (by decide) ?_
  exact kk c9 q9 r1 r2 hc9 hq9 H locs hP hD hS
set_option maxHeartbeats 4000000 in
set_option maxRecDepth 100000 in
theorem lw_case_event {l : Launch} {p : Program} {e : Env} {s : State} {m : MethodId} {below : List Frame} {meth : Method} {c : Code} {b L : Nat} {xs : Nat → Int32} {D : va_G} {cI cS : ClassId} {sK sV : Nat → Nat} (C0 : lw_Cx p s m meth c b L xs D cI cS sK sV) {o0 m0 i : Nat} {A0 : Nat → Nat → Nat} {P : Nat → Nat} {cd : ftCdT} {w z : Nat → Int32} {j : ftRD} {n9 : Nat} (hn9 : n9 < 1000) (hR : ftCR n9 cd w (cd.1.1 3)) (hLi : i + 5 ≤ L) {H : Heap} {locs : List Loc} (hP : va_P D vwCl (ftCB9 cI cS o0 A0 (cd.1.2.1 0) cd ++ ftRB cI m0 P ((w, z, cd.2.2.1.2.1), (cd.1.1 3, cd.2.2.1.1), j)) H) (hD : va_D (fun q => s.heap.size ≤ q) (ftCB9 cI cS o0 A0 (cd.1.2.1 0) cd ++ ftRB cI m0 P ((w, z, cd.2.2.1.2.1), (cd.1.1 3, cd.2.2.1.1), j))) (hS : va_S (fun q => s.heap.size ≤ q) s.heap H locs) {ls : Array Slot} (hl : ftLs ls b o0 m0 i) (kk : ∀ (c9 : ftCdT) (q9 : ftRR) (r1 r2 : Int32), (fun (r : Int32) (c9 : ftCdT) => ∃ u : Int32 × ftUm, c9 = (ftFlS cd.1 u.1, u.2, cd.2.2) ∧ (r = ftEvA w (xs (nI (i + 1)).toNatClampNeg) (xs (nI (i + 2)).toNatClampNeg) ∧ (ftMi w u.1 u.2))) r1 c9 → (fun (r : Int32) (q9 : ftRR) => ∃ u : (Nat → Int32) × (Nat → Nat → Int32), q9 = ((w, z, cd.2.2.1.2.1), ((cd.1.1 3), cd.2.2.1.1), ((fun k => match k with | 15 => u.1 15 | 18 => u.1 18 | 23 => u.1 23 | 24 => u.1 24 | k => j.1 k), (fun k => match k with | 12 => u.2 12 | 13 => u.2 13 | 14 => u.2 14 | 16 => u.2 16 | 17 => u.2 17 | 19 => u.2 19 | 20 => u.2 20 | 21 => u.2 21 | 22 => u.2 22 | 25 => u.2 25 | 26 => u.2 26 | 27 => u.2 27 | 28 => u.2 28 | 29 => u.2 29 | 30 => u.2 30 | 31 => u.2 31 | 32 => u.2 32 | k => j.2 k))) ∧ (r = ftEvA w (xs (nI (i + 1)).toNatClampNeg) (xs (nI (i + 2)).toNatClampNeg) ∧ True)) r2 q9 → ∀ (H : Heap) (locs : List Loc), va_P D vwCl (ftCB9 cI cS o0 A0 (c9.1.2.1 0) c9 ++ ftRB cI m0 P q9) H → va_D (fun q => s.heap.size ≤ q) (ftCB9 cI cS o0 A0 (c9.1.2.1 0) c9 ++ ftRB cI m0 P q9) → va_S (fun q => s.heap.size ≤ q) s.heap H locs → ftLW l p e s m below meth c b H locs (F0 m 699 ls [])) : ftLW l p e s m below meth c b H locs (F0 m 515 ls []) := by
  obtain ⟨⟨hx, hb, hr, hml, hown, hts, hX, hbl, hlocks, hgv⟩, hKK, hSt, hL30⟩ := C0
  have hbA : ¬ (fun q : Nat => s.heap.size ≤ q) b := Nat.not_le.mpr hbl
  have hA : ∀ q : Nat, s.heap.size ≤ q → (fun q : Nat => s.heap.size ≤ q) q := fun _ h => h
  have htl : ∀ w ∈ wsL_law, w.before #[Value.ref b] s = true := fun w h => hts w (wsL_law_in w h)
  obtain ⟨h1, -, -, -, -, -, -, -, -, -, h11, h12⟩ := id hR
  refine lv_aload_n hx hb dL_law_515 rfl (lv_at hl 1 rfl) ?_
  refine lv_aload_n hx hb dL_law_516 rfl (lv_at hl 0 rfl) ?_
  refine lv_iload_n hx hb dL_law_517 rfl (lv_at hl 3 rfl) ?_
  refine lv_iconst (v := 1) hx hb dL_law_518 (by decide) ?_
  refine lv_iadd hx hb dL_law_519 ?_
  refine ft_top (y := nI (i + 1)) (ft_addN i 1) ?_
  refine va_sld hx hb hX hbl hbA hS (vp_in_nI (by omega) (by omega)) dL_law_520 ?_
  refine lv_aload_n hx hb dL_law_521 rfl (lv_at hl 0 rfl) ?_
  refine lv_iload_n hx hb dL_law_522 rfl (lv_at hl 3 rfl) ?_
  refine lv_iconst (v := 2) hx hb dL_law_523 (by decide) ?_
  refine lv_iadd hx hb dL_law_524 ?_
  refine ft_top (y := nI (i + 2)) (ft_addN i 2) ?_
  refine va_sld hx hb hX hbl hbA hS (vp_in_nI (by omega) (by omega)) dL_law_525 ?_
  refine ft_callL (X1 := fun c9 => ftCB9 cI cS o0 A0 (c9.1.2.1 0) c9) (va_runV (C := RX10) (As := [.int (xs (nI (i + 1)).toNatClampNeg), .int (xs (nI (i + 2)).toNatClampNeg)]) (rest := []) ⟨hx, hb, hml, hown, htl⟩ (b_X10_event l D cI cS H.size sK sV o0 A0 n9 hn9 cd w (cd.1.1 3) (xs (nI (i + 1)).toNatClampNeg) (xs (nI (i + 2)).toNatClampNeg) hR) (cwV 2 htl gL_law_X10_event rfl rfl rfl (by decide +kernel) ⟨Nat.le_of_ble_eq_true rfl, Nat.le_of_ble_eq_true rfl⟩) (ft_preL (ci := 10) hP hD hKK hSt hS hA rfl rfl) rfl rfl hl.1 rfl (lv_room (Nat.le_of_ble_eq_true rfl)) dL_law_526 ⟨Nat.le_of_ble_eq_true rfl, Nat.le_of_ble_eq_true rfl⟩) hP hD hS hA (fun r1 c9 hc9 H locs hP hD hS => ?_)
  refine lv_pop hx hb dL_law_529 rfl ?_
  refine lv_aload_n hx hb dL_law_530 rfl (lv_at hl 2 rfl) ?_
  refine lv_aload_n hx hb dL_law_531 rfl (lv_at hl 0 rfl) ?_
  refine lv_iload_n hx hb dL_law_532 rfl (lv_at hl 3 rfl) ?_
  refine lv_iconst (v := 1) hx hb dL_law_533 (by decide) ?_
  refine lv_iadd hx hb dL_law_534 ?_
  refine ft_top (y := nI (i + 1)) (ft_addN i 1) ?_
  refine va_sld hx hb hX hbl hbA hS (vp_in_nI (by omega) (by omega)) dL_law_535 ?_
  refine lv_aload_n hx hb dL_law_536 rfl (lv_at hl 0 rfl) ?_
  refine lv_iload_n hx hb dL_law_537 rfl (lv_at hl 3 rfl) ?_
  refine lv_iconst (v := 2) hx hb dL_law_538 (by decide) ?_
  refine lv_iadd hx hb dL_law_539 ?_
  refine ft_top (y := nI (i + 2)) (ft_addN i 2) ?_
  refine va_sld hx hb hX hbl hbA hS (vp_in_nI (by omega) (by omega)) dL_law_540 ?_
  refine ft_callR (X1 := fun (q9 : ftRR) => ftRB cI m0 P q9) (va_runV (C := RX11) (As := [.int (xs (nI (i + 1)).toNatClampNeg), .int (xs (nI (i + 2)).toNatClampNeg)]) (rest := []) ⟨hx, hb, hml, hown, htl⟩ (b_X11_event l D cI cS H.size sK sV m0 P w z cd.2.2.1.2.1 (cd.1.1 3) cd.2.2.1.1 j (xs (nI (i + 1)).toNatClampNeg) (xs (nI (i + 2)).toNatClampNeg) h1 h11 h12) (cwV 2 htl gL_law_X11_event rfl rfl rfl (by decide +kernel) ⟨Nat.le_of_ble_eq_true rfl, Nat.le_of_ble_eq_true rfl⟩) (ft_preR (ci := 11) hP hD hKK hSt hS hA rfl rfl) rfl rfl hl.1 rfl (lv_room (Nat.le_of_ble_eq_true rfl)) dL_law_541 ⟨Nat.le_of_ble_eq_true rfl, Nat.le_of_ble_eq_true rfl⟩) hP hD hS hA (fun r2 q9 hq9 H locs hP hD hS => ?_)
  refine lv_pop hx hb dL_law_544 rfl ?_
  refine lv_goto (tgt := 699) hx hb dL_law_545 (by decide) ?_
  exact kk c9 q9 r1 r2 hc9 hq9 H locs hP hD hS
set_option maxHeartbeats 4000000 in
set_option maxRecDepth 100000 in
theorem lw_case_total {l : Launch} {p : Program} {e : Env} {s : State} {m : MethodId} {below : List Frame} {meth : Method} {c : Code} {b L : Nat} {xs : Nat → Int32} {D : va_G} {cI cS : ClassId} {sK sV : Nat → Nat} (C0 : lw_Cx p s m meth c b L xs D cI cS sK sV) {o0 m0 i : Nat} {A0 : Nat → Nat → Nat} {P : Nat → Nat} {cd : ftCdT} {w z : Nat → Int32} {j : ftRD} {n9 : Nat} (hn9 : n9 < 1000) (hR : ftCR n9 cd w (cd.1.1 3)) (hLi : i + 5 ≤ L) {H : Heap} {locs : List Loc} (hP : va_P D vwCl (ftCB9 cI cS o0 A0 (cd.1.2.1 0) cd ++ ftRB cI m0 P ((w, z, cd.2.2.1.2.1), (cd.1.1 3, cd.2.2.1.1), j)) H) (hD : va_D (fun q => s.heap.size ≤ q) (ftCB9 cI cS o0 A0 (cd.1.2.1 0) cd ++ ftRB cI m0 P ((w, z, cd.2.2.1.2.1), (cd.1.1 3, cd.2.2.1.1), j))) (hS : va_S (fun q => s.heap.size ≤ q) s.heap H locs) {ls : Array Slot} (hl : ftLs ls b o0 m0 i) (kk : ∀ (c9 : ftCdT) (q9 : ftRR) (r1 r2 : Int32), (fun (r : Int32) (c9 : ftCdT) => ∃ u : Int32 × ftUm, c9 = (ftFlS cd.1 u.1, u.2, cd.2.2) ∧ (r = ftToA w (xs (nI (i + 1)).toNatClampNeg) ∧ (ftMi w u.1 u.2))) r1 c9 → (fun (r : Int32) (q9 : ftRR) => ∃ u : (Nat → Int32) × (Nat → Nat → Int32), q9 = ((w, z, cd.2.2.1.2.1), ((cd.1.1 3), cd.2.2.1.1), ((fun k => match k with | 15 => u.1 15 | 18 => u.1 18 | 23 => u.1 23 | 24 => u.1 24 | k => j.1 k), (fun k => match k with | 12 => u.2 12 | 13 => u.2 13 | 14 => u.2 14 | 16 => u.2 16 | 17 => u.2 17 | 19 => u.2 19 | 20 => u.2 20 | 21 => u.2 21 | 22 => u.2 22 | 25 => u.2 25 | 26 => u.2 26 | 27 => u.2 27 | 28 => u.2 28 | 29 => u.2 29 | 30 => u.2 30 | 31 => u.2 31 | 32 => u.2 32 | k => j.2 k))) ∧ (r = ftToA w (xs (nI (i + 1)).toNatClampNeg) ∧ True)) r2 q9 → ∀ (H : Heap) (locs : List Loc), va_P D vwCl (ftCB9 cI cS o0 A0 (c9.1.2.1 0) c9 ++ ftRB cI m0 P q9) H → va_D (fun q => s.heap.size ≤ q) (ftCB9 cI cS o0 A0 (c9.1.2.1 0) c9 ++ ftRB cI m0 P q9) → va_S (fun q => s.heap.size ≤ q) s.heap H locs → ftLW l p e s m below meth c b H locs (F0 m 699 ls [])) : ftLW l p e s m below meth c b H locs (F0 m 548 ls []) := by
  obtain ⟨⟨hx, hb, hr, hml, hown, hts, hX, hbl, hlocks, hgv⟩, hKK, hSt, hL30⟩ := C0
  have hbA : ¬ (fun q : Nat => s.heap.size ≤ q) b := Nat.not_le.mpr hbl
  have hA : ∀ q : Nat, s.heap.size ≤ q → (fun q : Nat => s.heap.size ≤ q) q := fun _ h => h
  have htl : ∀ w ∈ wsL_law, w.before #[Value.ref b] s = true := fun w h => hts w (wsL_law_in w h)
  obtain ⟨h1, -, -, -, -, -, -, -, -, -, h11, h12⟩ := id hR
  refine lv_aload_n hx hb dL_law_548 rfl (lv_at hl 1 rfl) ?_
  refine lv_aload_n hx hb dL_law_549 rfl (lv_at hl 0 rfl) ?_
  refine lv_iload_n hx hb dL_law_550 rfl (lv_at hl 3 rfl) ?_
  refine lv_iconst (v := 1) hx hb dL_law_551 (by decide) ?_
  refine lv_iadd hx hb dL_law_552 ?_
  refine ft_top (y := nI (i + 1)) (ft_addN i 1) ?_
  refine va_sld hx hb hX hbl hbA hS (vp_in_nI (by omega) (by omega)) dL_law_553 ?_
  refine ft_callL (X1 := fun c9 => ftCB9 cI cS o0 A0 (c9.1.2.1 0) c9) (va_runV (C := RX10) (As := [.int (xs (nI (i + 1)).toNatClampNeg)]) (rest := []) ⟨hx, hb, hml, hown, htl⟩ (b_X10_total l D cI cS H.size sK sV o0 A0 n9 hn9 cd w (cd.1.1 3) (xs (nI (i + 1)).toNatClampNeg) hR) (cwV 1 htl gL_law_X10_total rfl rfl rfl (by decide +kernel) ⟨Nat.le_of_ble_eq_true rfl, Nat.le_of_ble_eq_true rfl⟩) (ft_preL (ci := 10) hP hD hKK hSt hS hA rfl rfl) rfl rfl hl.1 rfl (lv_room (Nat.le_of_ble_eq_true rfl)) dL_law_554 ⟨Nat.le_of_ble_eq_true rfl, Nat.le_of_ble_eq_true rfl⟩) hP hD hS hA (fun r1 c9 hc9 H locs hP hD hS => ?_)
  refine lv_pop hx hb dL_law_557 rfl ?_
  refine lv_aload_n hx hb dL_law_558 rfl (lv_at hl 2 rfl) ?_
  refine lv_aload_n hx hb dL_law_559 rfl (lv_at hl 0 rfl) ?_
  refine lv_iload_n hx hb dL_law_560 rfl (lv_at hl 3 rfl) ?_
  refine lv_iconst (v := 1) hx hb dL_law_561 (by decide) ?_
  refine lv_iadd hx hb dL_law_562 ?_
  refine ft_top (y := nI (i + 1)) (ft_addN i 1) ?_
  refine va_sld hx hb hX hbl hbA hS (vp_in_nI (by omega) (by omega)) dL_law_563 ?_
  refine ft_callR (X1 := fun (q9 : ftRR) => ftRB cI m0 P q9) (va_runV (C := RX11) (As := [.int (xs (nI (i + 1)).toNatClampNeg)]) (rest := []) ⟨hx, hb, hml, hown, htl⟩ (b_X11_total l D cI cS H.size sK sV m0 P w z cd.2.2.1.2.1 (cd.1.1 3) cd.2.2.1.1 j (xs (nI (i + 1)).toNatClampNeg) h1 h11 h12) (cwV 1 htl gL_law_X11_total rfl rfl rfl (by decide +kernel) ⟨Nat.le_of_ble_eq_true rfl, Nat.le_of_ble_eq_true rfl⟩) (ft_preR (ci := 11) hP hD hKK hSt hS hA rfl rfl) rfl rfl hl.1 rfl (lv_room (Nat.le_of_ble_eq_true rfl)) dL_law_564 ⟨Nat.le_of_ble_eq_true rfl, Nat.le_of_ble_eq_true rfl⟩) hP hD hS hA (fun r2 q9 hq9 H locs hP hD hS => ?_)
  refine lv_pop hx hb dL_law_567 rfl ?_
  refine lv_goto (tgt := 699) hx hb dL_law_568 (by decide) ?_
  exact kk c9 q9 r1 r2 hc9 hq9 H locs hP hD hS
set_option maxHeartbeats 4000000 in
set_option maxRecDepth 100000 in
theorem lw_case_eventAt {l : Launch} {p : Program} {e : Env} {s : State} {m : MethodId} {below : List Frame} {meth : Method} {c : Code} {b L : Nat} {xs : Nat → Int32} {D : va_G} {cI cS : ClassId} {sK sV : Nat → Nat} (C0 : lw_Cx p s m meth c b L xs D cI cS sK sV) {o0 m0 i : Nat} {A0 : Nat → Nat → Nat} {P : Nat → Nat} {cd : ftCdT} {w z : Nat → Int32} {j : ftRD} {n9 : Nat} (hn9 : n9 < 1000) (hR : ftCR n9 cd w (cd.1.1 3)) (hLi : i + 5 ≤ L) {H : Heap} {locs : List Loc} (hP : va_P D vwCl (ftCB9 cI cS o0 A0 (cd.1.2.1 0) cd ++ ftRB cI m0 P ((w, z, cd.2.2.1.2.1), (cd.1.1 3, cd.2.2.1.1), j)) H) (hD : va_D (fun q => s.heap.size ≤ q) (ftCB9 cI cS o0 A0 (cd.1.2.1 0) cd ++ ftRB cI m0 P ((w, z, cd.2.2.1.2.1), (cd.1.1 3, cd.2.2.1.1), j))) (hS : va_S (fun q => s.heap.size ≤ q) s.heap H locs) {ls : Array Slot} (hl : ftLs ls b o0 m0 i) (kk : ∀ (c9 : ftCdT) (q9 : ftRR) (r1 r2 : Int32), (fun (r : Int32) (c9 : ftCdT) => ∃ u : Int32 × ftUm, c9 = (ftFlS cd.1 u.1, u.2, cd.2.2) ∧ (r = ftEaA w (xs (nI (i + 1)).toNatClampNeg) ∧ (ftMi w u.1 u.2))) r1 c9 → (fun (r : Int32) (q9 : ftRR) => ∃ u : (Nat → Int32) × (Nat → Nat → Int32), q9 = ((w, z, cd.2.2.1.2.1), ((cd.1.1 3), cd.2.2.1.1), ((fun k => match k with | 15 => u.1 15 | 18 => u.1 18 | 23 => u.1 23 | 24 => u.1 24 | k => j.1 k), (fun k => match k with | 12 => u.2 12 | 13 => u.2 13 | 14 => u.2 14 | 16 => u.2 16 | 17 => u.2 17 | 19 => u.2 19 | 20 => u.2 20 | 21 => u.2 21 | 22 => u.2 22 | 25 => u.2 25 | 26 => u.2 26 | 27 => u.2 27 | 28 => u.2 28 | 29 => u.2 29 | 30 => u.2 30 | 31 => u.2 31 | 32 => u.2 32 | k => j.2 k))) ∧ (r = ftEaA w (xs (nI (i + 1)).toNatClampNeg) ∧ True)) r2 q9 → ∀ (H : Heap) (locs : List Loc), va_P D vwCl (ftCB9 cI cS o0 A0 (c9.1.2.1 0) c9 ++ ftRB cI m0 P q9) H → va_D (fun q => s.heap.size ≤ q) (ftCB9 cI cS o0 A0 (c9.1.2.1 0) c9 ++ ftRB cI m0 P q9) → va_S (fun q => s.heap.size ≤ q) s.heap H locs → ftLW l p e s m below meth c b H locs (F0 m 699 ls [])) : ftLW l p e s m below meth c b H locs (F0 m 571 ls []) := by
  obtain ⟨⟨hx, hb, hr, hml, hown, hts, hX, hbl, hlocks, hgv⟩, hKK, hSt, hL30⟩ := C0
  have hbA : ¬ (fun q : Nat => s.heap.size ≤ q) b := Nat.not_le.mpr hbl
  have hA : ∀ q : Nat, s.heap.size ≤ q → (fun q : Nat => s.heap.size ≤ q) q := fun _ h => h
  have htl : ∀ w ∈ wsL_law, w.before #[Value.ref b] s = true := fun w h => hts w (wsL_law_in w h)
  obtain ⟨h1, -, -, -, -, -, -, -, -, -, h11, h12⟩ := id hR
  refine lv_aload_n hx hb dL_law_571 rfl (lv_at hl 1 rfl) ?_
  refine lv_aload_n hx hb dL_law_572 rfl (lv_at hl 0 rfl) ?_
  refine lv_iload_n hx hb dL_law_573 rfl (lv_at hl 3 rfl) ?_
  refine lv_iconst (v := 1) hx hb dL_law_574 (by decide) ?_
  refine lv_iadd hx hb dL_law_575 ?_
  refine ft_top (y := nI (i + 1)) (ft_addN i 1) ?_
  refine va_sld hx hb hX hbl hbA hS (vp_in_nI (by omega) (by omega)) dL_law_576 ?_
  refine ft_callL (X1 := fun c9 => ftCB9 cI cS o0 A0 (c9.1.2.1 0) c9) (va_runV (C := RX10) (As := [.int (xs (nI (i + 1)).toNatClampNeg)]) (rest := []) ⟨hx, hb, hml, hown, htl⟩ (b_X10_eventAt l D cI cS H.size sK sV o0 A0 n9 hn9 cd w (cd.1.1 3) (xs (nI (i + 1)).toNatClampNeg) hR) (cwV 1 htl gL_law_X10_eventAt rfl rfl rfl (by decide +kernel) ⟨Nat.le_of_ble_eq_true rfl, Nat.le_of_ble_eq_true rfl⟩) (ft_preL (ci := 10) hP hD hKK hSt hS hA rfl rfl) rfl rfl hl.1 rfl (lv_room (Nat.le_of_ble_eq_true rfl)) dL_law_577 ⟨Nat.le_of_ble_eq_true rfl, Nat.le_of_ble_eq_true rfl⟩) hP hD hS hA (fun r1 c9 hc9 H locs hP hD hS => ?_)
  refine lv_pop hx hb dL_law_580 rfl ?_
  refine lv_aload_n hx hb dL_law_581 rfl (lv_at hl 2 rfl) ?_
  refine lv_aload_n hx hb dL_law_582 rfl (lv_at hl 0 rfl) ?_
  refine lv_iload_n hx hb dL_law_583 rfl (lv_at hl 3 rfl) ?_
  refine lv_iconst (v := 1) hx hb dL_law_584 (by decide) ?_
  refine lv_iadd hx hb dL_law_585 ?_
  refine ft_top (y := nI (i + 1)) (ft_addN i 1) ?_
  refine va_sld hx hb hX hbl hbA hS (vp_in_nI (by omega) (by omega)) dL_law_586 ?_
  refine ft_callR (X1 := fun (q9 : ftRR) => ftRB cI m0 P q9) (va_runV (C := RX11) (As := [.int (xs (nI (i + 1)).toNatClampNeg)]) (rest := []) ⟨hx, hb, hml, hown, htl⟩ (b_X11_eventAt l D cI cS H.size sK sV m0 P w z cd.2.2.1.2.1 (cd.1.1 3) cd.2.2.1.1 j (xs (nI (i + 1)).toNatClampNeg) h1 h11 h12) (cwV 1 htl gL_law_X11_eventAt rfl rfl rfl (by decide +kernel) ⟨Nat.le_of_ble_eq_true rfl, Nat.le_of_ble_eq_true rfl⟩) (ft_preR (ci := 11) hP hD hKK hSt hS hA rfl rfl) rfl rfl hl.1 rfl (lv_room (Nat.le_of_ble_eq_true rfl)) dL_law_587 ⟨Nat.le_of_ble_eq_true rfl, Nat.le_of_ble_eq_true rfl⟩) hP hD hS hA (fun r2 q9 hq9 H locs hP hD hS => ?_)
  refine lv_pop hx hb dL_law_590 rfl ?_
  refine lv_goto (tgt := 699) hx hb dL_law_591 (by decide) ?_
  exact kk c9 q9 r1 r2 hc9 hq9 H locs hP hD hS
set_option maxHeartbeats 4000000 in
set_option maxRecDepth 100000 in
theorem lw_case_worst {l : Launch} {p : Program} {e : Env} {s : State} {m : MethodId} {below : List Frame} {meth : Method} {c : Code} {b L : Nat} {xs : Nat → Int32} {D : va_G} {cI cS : ClassId} {sK sV : Nat → Nat} (C0 : lw_Cx p s m meth c b L xs D cI cS sK sV) {o0 m0 i : Nat} {A0 : Nat → Nat → Nat} {P : Nat → Nat} {cd : ftCdT} {w z : Nat → Int32} {j : ftRD} {n9 : Nat} (hn9 : n9 < 1000) (hR : ftCR n9 cd w (cd.1.1 3)) (hLi : i + 5 ≤ L) {H : Heap} {locs : List Loc} (hP : va_P D vwCl (ftCB9 cI cS o0 A0 (cd.1.2.1 0) cd ++ ftRB cI m0 P ((w, z, cd.2.2.1.2.1), (cd.1.1 3, cd.2.2.1.1), j)) H) (hD : va_D (fun q => s.heap.size ≤ q) (ftCB9 cI cS o0 A0 (cd.1.2.1 0) cd ++ ftRB cI m0 P ((w, z, cd.2.2.1.2.1), (cd.1.1 3, cd.2.2.1.1), j))) (hS : va_S (fun q => s.heap.size ≤ q) s.heap H locs) {ls : Array Slot} (hl : ftLs ls b o0 m0 i) (kk : ∀ (c9 : ftCdT) (q9 : ftRR) (r1 r2 : Int32), (fun (r : Int32) (c9 : ftCdT) => ∃ u : Int32 × ftUm, c9 = (ftFlS cd.1 u.1, u.2, cd.2.2) ∧ (r = ftWo (ftCE w) (ftCE w).1 ∧ (ftMi w u.1 u.2))) r1 c9 → (fun (r : Int32) (q9 : ftRR) => ∃ u : (Nat → Int32) × (Nat → Nat → Int32), q9 = ((w, z, cd.2.2.1.2.1), ((cd.1.1 3), cd.2.2.1.1), ((fun k => match k with | 15 => u.1 15 | 18 => u.1 18 | 23 => u.1 23 | 24 => u.1 24 | k => j.1 k), (fun k => match k with | 12 => u.2 12 | 13 => u.2 13 | 14 => u.2 14 | 16 => u.2 16 | 17 => u.2 17 | 19 => u.2 19 | 20 => u.2 20 | 21 => u.2 21 | 22 => u.2 22 | 25 => u.2 25 | 26 => u.2 26 | 27 => u.2 27 | 28 => u.2 28 | 29 => u.2 29 | 30 => u.2 30 | 31 => u.2 31 | 32 => u.2 32 | k => j.2 k))) ∧ (r = ftWo (ftCE w) (ftCE w).1 ∧ True)) r2 q9 → ∀ (H : Heap) (locs : List Loc), va_P D vwCl (ftCB9 cI cS o0 A0 (c9.1.2.1 0) c9 ++ ftRB cI m0 P q9) H → va_D (fun q => s.heap.size ≤ q) (ftCB9 cI cS o0 A0 (c9.1.2.1 0) c9 ++ ftRB cI m0 P q9) → va_S (fun q => s.heap.size ≤ q) s.heap H locs → ftLW l p e s m below meth c b H locs (F0 m 699 ls [])) : ftLW l p e s m below meth c b H locs (F0 m 594 ls []) := by
  obtain ⟨⟨hx, hb, hr, hml, hown, hts, hX, hbl, hlocks, hgv⟩, hKK, hSt, hL30⟩ := C0
  have hbA : ¬ (fun q : Nat => s.heap.size ≤ q) b := Nat.not_le.mpr hbl
  have hA : ∀ q : Nat, s.heap.size ≤ q → (fun q : Nat => s.heap.size ≤ q) q := fun _ h => h
  have htl : ∀ w ∈ wsL_law, w.before #[Value.ref b] s = true := fun w h => hts w (wsL_law_in w h)
  obtain ⟨h1, -, -, -, -, -, -, -, -, -, h11, h12⟩ := id hR
  refine lv_aload_n hx hb dL_law_594 rfl (lv_at hl 1 rfl) ?_
  refine ft_callL (X1 := fun c9 => ftCB9 cI cS o0 A0 (c9.1.2.1 0) c9) (va_runV (C := RX10) (As := []) (rest := []) ⟨hx, hb, hml, hown, htl⟩ (b_X10_worst l D cI cS H.size sK sV o0 A0 n9 hn9 cd w (cd.1.1 3) hR) (cwV 0 htl gL_law_X10_worst rfl rfl rfl (by decide +kernel) ⟨Nat.le_of_ble_eq_true rfl, Nat.le_of_ble_eq_true rfl⟩) (ft_preL (ci := 10) hP hD hKK hSt hS hA rfl rfl) rfl rfl hl.1 rfl (lv_room (Nat.le_of_ble_eq_true rfl)) dL_law_595 ⟨Nat.le_of_ble_eq_true rfl, Nat.le_of_ble_eq_true rfl⟩) hP hD hS hA (fun r1 c9 hc9 H locs hP hD hS => ?_)
  refine lv_pop hx hb dL_law_598 rfl ?_
  refine lv_aload_n hx hb dL_law_599 rfl (lv_at hl 2 rfl) ?_
  refine ft_callR (X1 := fun (q9 : ftRR) => ftRB cI m0 P q9) (va_runV (C := RX11) (As := []) (rest := []) ⟨hx, hb, hml, hown, htl⟩ (b_X11_worst l D cI cS H.size sK sV m0 P w z cd.2.2.1.2.1 (cd.1.1 3) cd.2.2.1.1 j h1 h11 h12) (cwV 0 htl gL_law_X11_worst rfl rfl rfl (by decide +kernel) ⟨Nat.le_of_ble_eq_true rfl, Nat.le_of_ble_eq_true rfl⟩) (ft_preR (ci := 11) hP hD hKK hSt hS hA rfl rfl) rfl rfl hl.1 rfl (lv_room (Nat.le_of_ble_eq_true rfl)) dL_law_600 ⟨Nat.le_of_ble_eq_true rfl, Nat.le_of_ble_eq_true rfl⟩) hP hD hS hA (fun r2 q9 hq9 H locs hP hD hS => ?_)
  refine lv_pop hx hb dL_law_603 rfl ?_
  refine lv_goto (tgt := 699) hx hb dL_law_604 (by decide) ?_
  exact kk c9 q9 r1 r2 hc9 hq9 H locs hP hD hS
set_option maxHeartbeats 4000000 in
set_option maxRecDepth 100000 in
theorem lw_case_findings {l : Launch} {p : Program} {e : Env} {s : State} {m : MethodId} {below : List Frame} {meth : Method} {c : Code} {b L : Nat} {xs : Nat → Int32} {D : va_G} {cI cS : ClassId} {sK sV : Nat → Nat} (C0 : lw_Cx p s m meth c b L xs D cI cS sK sV) {o0 m0 i : Nat} {A0 : Nat → Nat → Nat} {P : Nat → Nat} {cd : ftCdT} {w z : Nat → Int32} {j : ftRD} {n9 : Nat} (hn9 : n9 < 1000) (hR : ftCR n9 cd w (cd.1.1 3)) (hLi : i + 5 ≤ L) {H : Heap} {locs : List Loc} (hP : va_P D vwCl (ftCB9 cI cS o0 A0 (cd.1.2.1 0) cd ++ ftRB cI m0 P ((w, z, cd.2.2.1.2.1), (cd.1.1 3, cd.2.2.1.1), j)) H) (hD : va_D (fun q => s.heap.size ≤ q) (ftCB9 cI cS o0 A0 (cd.1.2.1 0) cd ++ ftRB cI m0 P ((w, z, cd.2.2.1.2.1), (cd.1.1 3, cd.2.2.1.1), j))) (hS : va_S (fun q => s.heap.size ≤ q) s.heap H locs) {ls : Array Slot} (hl : ftLs ls b o0 m0 i) (kk : ∀ (c9 : ftCdT) (q9 : ftRR) (r1 r2 : Int32), (fun (r : Int32) (c9 : ftCdT) => ∃ u : Int32 × ftUm, c9 = (ftFlS cd.1 u.1, u.2, cd.2.2) ∧ (r = ftFiA w (xs (nI (i + 1)).toNatClampNeg) ∧ (ftMi w u.1 u.2))) r1 c9 → (fun (r : Int32) (q9 : ftRR) => ∃ u : (Nat → Int32) × (Nat → Nat → Int32), q9 = ((w, z, cd.2.2.1.2.1), ((cd.1.1 3), cd.2.2.1.1), ((fun k => match k with | 15 => u.1 15 | 18 => u.1 18 | 23 => u.1 23 | 24 => u.1 24 | k => j.1 k), (fun k => match k with | 12 => u.2 12 | 13 => u.2 13 | 14 => u.2 14 | 16 => u.2 16 | 17 => u.2 17 | 19 => u.2 19 | 20 => u.2 20 | 21 => u.2 21 | 22 => u.2 22 | 25 => u.2 25 | 26 => u.2 26 | 27 => u.2 27 | 28 => u.2 28 | 29 => u.2 29 | 30 => u.2 30 | 31 => u.2 31 | 32 => u.2 32 | k => j.2 k))) ∧ (r = ftFiA w (xs (nI (i + 1)).toNatClampNeg) ∧ True)) r2 q9 → ∀ (H : Heap) (locs : List Loc), va_P D vwCl (ftCB9 cI cS o0 A0 (c9.1.2.1 0) c9 ++ ftRB cI m0 P q9) H → va_D (fun q => s.heap.size ≤ q) (ftCB9 cI cS o0 A0 (c9.1.2.1 0) c9 ++ ftRB cI m0 P q9) → va_S (fun q => s.heap.size ≤ q) s.heap H locs → ftLW l p e s m below meth c b H locs (F0 m 699 ls [])) : ftLW l p e s m below meth c b H locs (F0 m 607 ls []) := by
  obtain ⟨⟨hx, hb, hr, hml, hown, hts, hX, hbl, hlocks, hgv⟩, hKK, hSt, hL30⟩ := C0
  have hbA : ¬ (fun q : Nat => s.heap.size ≤ q) b := Nat.not_le.mpr hbl
  have hA : ∀ q : Nat, s.heap.size ≤ q → (fun q : Nat => s.heap.size ≤ q) q := fun _ h => h
  have htl : ∀ w ∈ wsL_law, w.before #[Value.ref b] s = true := fun w h => hts w (wsL_law_in w h)
  obtain ⟨h1, -, -, -, -, -, -, -, -, -, h11, h12⟩ := id hR
  refine lv_aload_n hx hb dL_law_607 rfl (lv_at hl 1 rfl) ?_
  refine lv_aload_n hx hb dL_law_608 rfl (lv_at hl 0 rfl) ?_
  refine lv_iload_n hx hb dL_law_609 rfl (lv_at hl 3 rfl) ?_
  refine lv_iconst (v := 1) hx hb dL_law_610 (by decide) ?_
  refine lv_iadd hx hb dL_law_611 ?_
  refine ft_top (y := nI (i + 1)) (ft_addN i 1) ?_
  refine va_sld hx hb hX hbl hbA hS (vp_in_nI (by omega) (by omega)) dL_law_612 ?_
  refine ft_callL (X1 := fun c9 => ftCB9 cI cS o0 A0 (c9.1.2.1 0) c9) (va_runV (C := RX10) (As := [.int (xs (nI (i + 1)).toNatClampNeg)]) (rest := []) ⟨hx, hb, hml, hown, htl⟩ (b_X10_findings l D cI cS H.size sK sV o0 A0 n9 hn9 cd w (cd.1.1 3) (xs (nI (i + 1)).toNatClampNeg) hR) (cwV 1 htl gL_law_X10_findings rfl rfl rfl (by decide +kernel) ⟨Nat.le_of_ble_eq_true rfl, Nat.le_of_ble_eq_true rfl⟩) (ft_preL (ci := 10) hP hD hKK hSt hS hA rfl rfl) rfl rfl hl.1 rfl (lv_room (Nat.le_of_ble_eq_true rfl)) dL_law_613 ⟨Nat.le_of_ble_eq_true rfl, Nat.le_of_ble_eq_true rfl⟩) hP hD hS hA (fun r1 c9 hc9 H locs hP hD hS => ?_)
  refine lv_pop hx hb dL_law_616 rfl ?_
  refine lv_aload_n hx hb dL_law_617 rfl (lv_at hl 2 rfl) ?_
  refine lv_aload_n hx hb dL_law_618 rfl (lv_at hl 0 rfl) ?_
  refine lv_iload_n hx hb dL_law_619 rfl (lv_at hl 3 rfl) ?_
  refine lv_iconst (v := 1) hx hb dL_law_620 (by decide) ?_
  refine lv_iadd hx hb dL_law_621 ?_
  refine ft_top (y := nI (i + 1)) (ft_addN i 1) ?_
  refine va_sld hx hb hX hbl hbA hS (vp_in_nI (by omega) (by omega)) dL_law_622 ?_
  refine ft_callR (X1 := fun (q9 : ftRR) => ftRB cI m0 P q9) (va_runV (C := RX11) (As := [.int (xs (nI (i + 1)).toNatClampNeg)]) (rest := []) ⟨hx, hb, hml, hown, htl⟩ (b_X11_findings l D cI cS H.size sK sV m0 P w z cd.2.2.1.2.1 (cd.1.1 3) cd.2.2.1.1 j (xs (nI (i + 1)).toNatClampNeg) h1 h11 h12) (cwV 1 htl gL_law_X11_findings rfl rfl rfl (by decide +kernel) ⟨Nat.le_of_ble_eq_true rfl, Nat.le_of_ble_eq_true rfl⟩) (ft_preR (ci := 11) hP hD hKK hSt hS hA rfl rfl) rfl rfl hl.1 rfl (lv_room (Nat.le_of_ble_eq_true rfl)) dL_law_623 ⟨Nat.le_of_ble_eq_true rfl, Nat.le_of_ble_eq_true rfl⟩) hP hD hS hA (fun r2 q9 hq9 H locs hP hD hS => ?_)
  refine lv_pop hx hb dL_law_626 rfl ?_
  refine lv_goto (tgt := 699) hx hb dL_law_627 (by decide) ?_
  exact kk c9 q9 r1 r2 hc9 hq9 H locs hP hD hS
set_option maxHeartbeats 4000000 in
set_option maxRecDepth 100000 in
theorem lw_case_widthFor {l : Launch} {p : Program} {e : Env} {s : State} {m : MethodId} {below : List Frame} {meth : Method} {c : Code} {b L : Nat} {xs : Nat → Int32} {D : va_G} {cI cS : ClassId} {sK sV : Nat → Nat} (C0 : lw_Cx p s m meth c b L xs D cI cS sK sV) {o0 m0 i : Nat} {A0 : Nat → Nat → Nat} {P : Nat → Nat} {cd : ftCdT} {w z : Nat → Int32} {j : ftRD} {n9 : Nat} (hn9 : n9 < 1000) (hR : ftCR n9 cd w (cd.1.1 3)) (hLi : i + 5 ≤ L) {H : Heap} {locs : List Loc} (hP : va_P D vwCl (ftCB9 cI cS o0 A0 (cd.1.2.1 0) cd ++ ftRB cI m0 P ((w, z, cd.2.2.1.2.1), (cd.1.1 3, cd.2.2.1.1), j)) H) (hD : va_D (fun q => s.heap.size ≤ q) (ftCB9 cI cS o0 A0 (cd.1.2.1 0) cd ++ ftRB cI m0 P ((w, z, cd.2.2.1.2.1), (cd.1.1 3, cd.2.2.1.1), j))) (hS : va_S (fun q => s.heap.size ≤ q) s.heap H locs) {ls : Array Slot} (hl : ftLs ls b o0 m0 i) (kk : ∀ (c9 : ftCdT) (q9 : ftRR) (r1 r2 : Int32), (fun (r : Int32) (c9 : ftCdT) => ∃ u : ftUm × (Nat → Int32), c9 = (ftFlS cd.1 0, u.1, cd.2.2.1, fun k => match k with | 3 => u.2 | k => cd.2.2.2 k) ∧ (r = ftWfA w ∧ (ftNc u.1))) r1 c9 → (fun (r : Int32) (q9 : ftRR) => ∃ u : (Nat → Int32) × (Nat → Nat → Int32), q9 = ((w, z, cd.2.2.1.2.1), ((cd.1.1 3), cd.2.2.1.1), ((fun k => match k with | 15 => u.1 15 | 18 => u.1 18 | 23 => u.1 23 | 24 => u.1 24 | k => j.1 k), (fun k => match k with | 12 => u.2 12 | 13 => u.2 13 | 14 => u.2 14 | 16 => u.2 16 | 17 => u.2 17 | 19 => u.2 19 | 20 => u.2 20 | 21 => u.2 21 | 22 => u.2 22 | 25 => u.2 25 | 26 => u.2 26 | 27 => u.2 27 | 28 => u.2 28 | 29 => u.2 29 | 30 => u.2 30 | 31 => u.2 31 | 32 => u.2 32 | k => j.2 k))) ∧ (r = ftWfA w ∧ True)) r2 q9 → ∀ (H : Heap) (locs : List Loc), va_P D vwCl (ftCB9 cI cS o0 A0 (c9.1.2.1 0) c9 ++ ftRB cI m0 P q9) H → va_D (fun q => s.heap.size ≤ q) (ftCB9 cI cS o0 A0 (c9.1.2.1 0) c9 ++ ftRB cI m0 P q9) → va_S (fun q => s.heap.size ≤ q) s.heap H locs → ftLW l p e s m below meth c b H locs (F0 m 699 ls [])) : ftLW l p e s m below meth c b H locs (F0 m 630 ls []) := by
  obtain ⟨⟨hx, hb, hr, hml, hown, hts, hX, hbl, hlocks, hgv⟩, hKK, hSt, hL30⟩ := C0
  have hbA : ¬ (fun q : Nat => s.heap.size ≤ q) b := Nat.not_le.mpr hbl
  have hA : ∀ q : Nat, s.heap.size ≤ q → (fun q : Nat => s.heap.size ≤ q) q := fun _ h => h
  have htl : ∀ w ∈ wsL_law, w.before #[Value.ref b] s = true := fun w h => hts w (wsL_law_in w h)
  obtain ⟨h1, -, -, -, -, -, -, -, -, -, h11, h12⟩ := id hR
  refine lv_aload_n hx hb dL_law_630 rfl (lv_at hl 1 rfl) ?_
  refine ft_callL (X1 := fun c9 => ftCB9 cI cS o0 A0 (c9.1.2.1 0) c9) (va_runV (C := RX10) (As := []) (rest := []) ⟨hx, hb, hml, hown, htl⟩ (b_X10_widthFor l D cI cS H.size sK sV o0 A0 n9 hn9 cd w (cd.1.1 3) hR) (cwV 0 htl gL_law_X10_widthFor rfl rfl rfl (by decide +kernel) ⟨Nat.le_of_ble_eq_true rfl, Nat.le_of_ble_eq_true rfl⟩) (ft_preL (ci := 10) hP hD hKK hSt hS hA rfl rfl) rfl rfl hl.1 rfl (lv_room (Nat.le_of_ble_eq_true rfl)) dL_law_631 ⟨Nat.le_of_ble_eq_true rfl, Nat.le_of_ble_eq_true rfl⟩) hP hD hS hA (fun r1 c9 hc9 H locs hP hD hS => ?_)
  refine lv_pop hx hb dL_law_634 rfl ?_
  refine lv_aload_n hx hb dL_law_635 rfl (lv_at hl 2 rfl) ?_
  refine ft_callR (X1 := fun (q9 : ftRR) => ftRB cI m0 P q9) (va_runV (C := RX11) (As := []) (rest := []) ⟨hx, hb, hml, hown, htl⟩ (b_X11_widthFor l D cI cS H.size sK sV m0 P w z cd.2.2.1.2.1 (cd.1.1 3) cd.2.2.1.1 j h1 h11 h12) (cwV 0 htl gL_law_X11_widthFor rfl rfl rfl (by decide +kernel) ⟨Nat.le_of_ble_eq_true rfl, Nat.le_of_ble_eq_true rfl⟩) (ft_preR (ci := 11) hP hD hKK hSt hS hA rfl rfl) rfl rfl hl.1 rfl (lv_room (Nat.le_of_ble_eq_true rfl)) dL_law_636 ⟨Nat.le_of_ble_eq_true rfl, Nat.le_of_ble_eq_true rfl⟩) hP hD hS hA (fun r2 q9 hq9 H locs hP hD hS => ?_)
  refine lv_pop hx hb dL_law_639 rfl ?_
  refine lv_goto (tgt := 699) hx hb dL_law_640 (by decide) ?_
  exact kk c9 q9 r1 r2 hc9 hq9 H locs hP hD hS
set_option maxHeartbeats 4000000 in
set_option maxRecDepth 100000 in
theorem lw_case_keep {l : Launch} {p : Program} {e : Env} {s : State} {m : MethodId} {below : List Frame} {meth : Method} {c : Code} {b L : Nat} {xs : Nat → Int32} {D : va_G} {cI cS : ClassId} {sK sV : Nat → Nat} (C0 : lw_Cx p s m meth c b L xs D cI cS sK sV) {o0 m0 i : Nat} {A0 : Nat → Nat → Nat} {P : Nat → Nat} {cd : ftCdT} {w z : Nat → Int32} {j : ftRD} {n9 : Nat} (hn9 : n9 < 1000) (hR : ftCR n9 cd w (cd.1.1 3)) (hLi : i + 5 ≤ L) {H : Heap} {locs : List Loc} (hP : va_P D vwCl (ftCB9 cI cS o0 A0 (cd.1.2.1 0) cd ++ ftRB cI m0 P ((w, z, cd.2.2.1.2.1), (cd.1.1 3, cd.2.2.1.1), j)) H) (hD : va_D (fun q => s.heap.size ≤ q) (ftCB9 cI cS o0 A0 (cd.1.2.1 0) cd ++ ftRB cI m0 P ((w, z, cd.2.2.1.2.1), (cd.1.1 3, cd.2.2.1.1), j))) (hS : va_S (fun q => s.heap.size ≤ q) s.heap H locs) {ls : Array Slot} (hl : ftLs ls b o0 m0 i) (kk : ∀ (c9 : ftCdT) (q9 : ftRR) (r1 r2 : Int32), (fun (r : Int32) (c9 : ftCdT) => ∃ u : ftSd × ftUm × (Nat → Int32) × (Nat → Int32), c9 = (ftFlS u.1 0, u.2.1, cd.2.2.1, fun k => match k with | 1 => u.2.2.1 | 2 => u.2.2.2 | k => cd.2.2.2 k) ∧ (r = nI (ftKk w + 1) ∧ (u.1 = ftKeS (ftBg cd.1)) ∧ (ftMs w u.2.1) ∧ (ftNc u.2.1) ∧ (u.2.2.1 = ftSeg (u.2.1.2.2.1 8) (cd.2.2.2 1) ((cd.1.1 1 % 8) * 460) (ftCL w + 60)) ∧ (u.2.2.2 = upd (cd.2.2.2 2) (cd.1.1 1 % 8) (nI (ftCL w + 60))))) r1 c9 → (fun (r : Int32) (q9 : ftRR) => ∃ u : (Nat → Int32) × (Nat → Nat → Int32), q9 = ((ftKeep w, ftPush w z ((cd.1.1 3)), cd.2.2.1.2.1), (min ((cd.1.1 3) + 1) 5, cd.2.2.1.1), ((fun k => match k with | 15 => u.1 15 | 18 => u.1 18 | k => j.1 k), (fun k => match k with | 12 => u.2 12 | 13 => u.2 13 | 14 => u.2 14 | 16 => u.2 16 | 17 => u.2 17 | 19 => u.2 19 | 20 => u.2 20 | 21 => u.2 21 | 22 => u.2 22 | k => j.2 k))) ∧ (r = nI (ftKk w + 1) ∧ True)) r2 q9 → ∀ (H : Heap) (locs : List Loc), va_P D vwCl (ftCB9 cI cS o0 A0 (c9.1.2.1 0) c9 ++ ftRB cI m0 P q9) H → va_D (fun q => s.heap.size ≤ q) (ftCB9 cI cS o0 A0 (c9.1.2.1 0) c9 ++ ftRB cI m0 P q9) → va_S (fun q => s.heap.size ≤ q) s.heap H locs → ftLW l p e s m below meth c b H locs (F0 m 699 ls [])) : ftLW l p e s m below meth c b H locs (F0 m 643 ls []) := by
  obtain ⟨⟨hx, hb, hr, hml, hown, hts, hX, hbl, hlocks, hgv⟩, hKK, hSt, hL30⟩ := C0
  have hbA : ¬ (fun q : Nat => s.heap.size ≤ q) b := Nat.not_le.mpr hbl
  have hA : ∀ q : Nat, s.heap.size ≤ q → (fun q : Nat => s.heap.size ≤ q) q := fun _ h => h
  have htl : ∀ w ∈ wsL_law, w.before #[Value.ref b] s = true := fun w h => hts w (wsL_law_in w h)
  obtain ⟨h1, -, -, -, -, -, -, -, -, -, h11, h12⟩ := id hR
  refine lv_aload_n hx hb dL_law_643 rfl (lv_at hl 1 rfl) ?_
  refine ft_callL (X1 := fun c9 => ftCB9 cI cS o0 A0 (c9.1.2.1 0) c9) (va_runV (C := RX10) (As := []) (rest := []) ⟨hx, hb, hml, hown, htl⟩ (b_X10_keep l D cI cS H.size sK sV o0 A0 n9 hn9 cd w (cd.1.1 3) hR) (cwV 0 htl gL_law_X10_keep rfl rfl rfl (by decide +kernel) ⟨Nat.le_of_ble_eq_true rfl, Nat.le_of_ble_eq_true rfl⟩) (ft_preL (ci := 10) hP hD hKK hSt hS hA rfl rfl) rfl rfl hl.1 rfl (lv_room (Nat.le_of_ble_eq_true rfl)) dL_law_644 ⟨Nat.le_of_ble_eq_true rfl, Nat.le_of_ble_eq_true rfl⟩) hP hD hS hA (fun r1 c9 hc9 H locs hP hD hS => ?_)
  refine lv_pop hx hb dL_law_647 rfl ?_
  refine lv_aload_n hx hb dL_law_648 rfl (lv_at hl 2 rfl) ?_
  refine ft_callR (X1 := fun (q9 : ftRR) => ftRB cI m0 P q9) (va_runV (C := RX11) (As := []) (rest := []) ⟨hx, hb, hml, hown, htl⟩ (b_X11_keep l D cI cS H.size sK sV m0 P w z cd.2.2.1.2.1 (cd.1.1 3) cd.2.2.1.1 j h1 h11 h12) (cwV 0 htl gL_law_X11_keep rfl rfl rfl (by decide +kernel) ⟨Nat.le_of_ble_eq_true rfl, Nat.le_of_ble_eq_true rfl⟩) (ft_preR (ci := 11) hP hD hKK hSt hS hA rfl rfl) rfl rfl hl.1 rfl (lv_room (Nat.le_of_ble_eq_true rfl)) dL_law_649 ⟨Nat.le_of_ble_eq_true rfl, Nat.le_of_ble_eq_true rfl⟩) hP hD hS hA (fun r2 q9 hq9 H locs hP hD hS => ?_)
  refine lv_pop hx hb dL_law_652 rfl ?_
  refine lv_goto (tgt := 699) hx hb dL_law_653 (by decide) ?_
  exact kk c9 q9 r1 r2 hc9 hq9 H locs hP hD hS
set_option maxHeartbeats 4000000 in
set_option maxRecDepth 100000 in
theorem lw_case_compare {l : Launch} {p : Program} {e : Env} {s : State} {m : MethodId} {below : List Frame} {meth : Method} {c : Code} {b L : Nat} {xs : Nat → Int32} {D : va_G} {cI cS : ClassId} {sK sV : Nat → Nat} (C0 : lw_Cx p s m meth c b L xs D cI cS sK sV) {o0 m0 i : Nat} {A0 : Nat → Nat → Nat} {P : Nat → Nat} {cd : ftCdT} {w z : Nat → Int32} {j : ftRD} {n9 : Nat} (hn9 : n9 < 1000) (hR : ftCR n9 cd w (cd.1.1 3)) (hLi : i + 5 ≤ L) {H : Heap} {locs : List Loc} (hP : va_P D vwCl (ftCB9 cI cS o0 A0 (cd.1.2.1 0) cd ++ ftRB cI m0 P ((w, z, cd.2.2.1.2.1), (cd.1.1 3, cd.2.2.1.1), j)) H) (hD : va_D (fun q => s.heap.size ≤ q) (ftCB9 cI cS o0 A0 (cd.1.2.1 0) cd ++ ftRB cI m0 P ((w, z, cd.2.2.1.2.1), (cd.1.1 3, cd.2.2.1.1), j))) (hS : va_S (fun q => s.heap.size ≤ q) s.heap H locs) {ls : Array Slot} (hl : ftLs ls b o0 m0 i) (kk : ∀ (c9 : ftCdT) (q9 : ftRR) (r1 r2 : Int32), (fun (r : Int32) (c9 : ftCdT) => ∃ u : Int32 × ftUm × ftCm, c9 = (ftFlS cd.1 u.1, u.2.1, cd.2.2.1, fun k => match k with | 0 => (fun j => match j with | 0 => u.2.2.1 | 1 => u.2.2.2.1 | 2 => u.2.2.2.2.1 | _ => u.2.2.2.2.2) | k => cd.2.2.2 k) ∧ (r = ftCmA w (xs (nI (i + 1)).toNatClampNeg) (xs (nI (i + 2)).toNatClampNeg) (xs (nI (i + 3)).toNatClampNeg) ∧ (ftMi w u.1 u.2.1))) r1 c9 → (fun (r : Int32) (q9 : ftRR) => ∃ u : (Nat → Int32) × (Nat → Nat → Int32), q9 = ((w, z, cd.2.2.1.2.1), ((cd.1.1 3), cd.2.2.1.1), ((fun k => match k with | 15 => u.1 15 | 18 => u.1 18 | k => j.1 k), (fun k => match k with | 12 => u.2 12 | 13 => u.2 13 | 14 => u.2 14 | 16 => u.2 16 | 17 => u.2 17 | 19 => u.2 19 | 20 => u.2 20 | 21 => u.2 21 | 22 => u.2 22 | k => j.2 k))) ∧ (r = ftCmA w (xs (nI (i + 1)).toNatClampNeg) (xs (nI (i + 2)).toNatClampNeg) (xs (nI (i + 3)).toNatClampNeg) ∧ True)) r2 q9 → ∀ (H : Heap) (locs : List Loc), va_P D vwCl (ftCB9 cI cS o0 A0 (c9.1.2.1 0) c9 ++ ftRB cI m0 P q9) H → va_D (fun q => s.heap.size ≤ q) (ftCB9 cI cS o0 A0 (c9.1.2.1 0) c9 ++ ftRB cI m0 P q9) → va_S (fun q => s.heap.size ≤ q) s.heap H locs → ftLW l p e s m below meth c b H locs (F0 m 699 ls [])) : ftLW l p e s m below meth c b H locs (F0 m 656 ls []) := by
  obtain ⟨⟨hx, hb, hr, hml, hown, hts, hX, hbl, hlocks, hgv⟩, hKK, hSt, hL30⟩ := C0
  have hbA : ¬ (fun q : Nat => s.heap.size ≤ q) b := Nat.not_le.mpr hbl
  have hA : ∀ q : Nat, s.heap.size ≤ q → (fun q : Nat => s.heap.size ≤ q) q := fun _ h => h
  have htl : ∀ w ∈ wsL_law, w.before #[Value.ref b] s = true := fun w h => hts w (wsL_law_in w h)
  obtain ⟨h1, -, -, -, -, -, -, -, -, -, h11, h12⟩ := id hR
  refine lv_aload_n hx hb dL_law_656 rfl (lv_at hl 1 rfl) ?_
  refine lv_aload_n hx hb dL_law_657 rfl (lv_at hl 0 rfl) ?_
  refine lv_iload_n hx hb dL_law_658 rfl (lv_at hl 3 rfl) ?_
  refine lv_iconst (v := 1) hx hb dL_law_659 (by decide) ?_
  refine lv_iadd hx hb dL_law_660 ?_
  refine ft_top (y := nI (i + 1)) (ft_addN i 1) ?_
  refine va_sld hx hb hX hbl hbA hS (vp_in_nI (by omega) (by omega)) dL_law_661 ?_
  refine lv_aload_n hx hb dL_law_662 rfl (lv_at hl 0 rfl) ?_
  refine lv_iload_n hx hb dL_law_663 rfl (lv_at hl 3 rfl) ?_
  refine lv_iconst (v := 2) hx hb dL_law_664 (by decide) ?_
  refine lv_iadd hx hb dL_law_665 ?_
  refine ft_top (y := nI (i + 2)) (ft_addN i 2) ?_
  refine va_sld hx hb hX hbl hbA hS (vp_in_nI (by omega) (by omega)) dL_law_666 ?_
  refine lv_aload_n hx hb dL_law_667 rfl (lv_at hl 0 rfl) ?_
  refine lv_iload_n hx hb dL_law_668 rfl (lv_at hl 3 rfl) ?_
  refine lv_iconst (v := 3) hx hb dL_law_669 (by decide) ?_
  refine lv_iadd hx hb dL_law_670 ?_
  refine ft_top (y := nI (i + 3)) (ft_addN i 3) ?_
  refine va_sld hx hb hX hbl hbA hS (vp_in_nI (by omega) (by omega)) dL_law_671 ?_
  refine ft_callL (X1 := fun c9 => ftCB9 cI cS o0 A0 (c9.1.2.1 0) c9) (va_runV (C := RX10) (As := [.int (xs (nI (i + 1)).toNatClampNeg), .int (xs (nI (i + 2)).toNatClampNeg), .int (xs (nI (i + 3)).toNatClampNeg)]) (rest := []) ⟨hx, hb, hml, hown, htl⟩ (b_X10_compare l D cI cS H.size sK sV o0 A0 n9 hn9 cd w (cd.1.1 3) (xs (nI (i + 1)).toNatClampNeg) (xs (nI (i + 2)).toNatClampNeg) (xs (nI (i + 3)).toNatClampNeg) hR) (cwV 3 htl gL_law_X10_compare rfl rfl rfl (by decide +kernel) ⟨Nat.le_of_ble_eq_true rfl, Nat.le_of_ble_eq_true rfl⟩) (ft_preL (ci := 10) hP hD hKK hSt hS hA rfl rfl) rfl rfl hl.1 rfl (lv_room (Nat.le_of_ble_eq_true rfl)) dL_law_672 ⟨Nat.le_of_ble_eq_true rfl, Nat.le_of_ble_eq_true rfl⟩) hP hD hS hA (fun r1 c9 hc9 H locs hP hD hS => ?_)
  refine lv_pop hx hb dL_law_675 rfl ?_
  refine lv_aload_n hx hb dL_law_676 rfl (lv_at hl 2 rfl) ?_
  refine lv_aload_n hx hb dL_law_677 rfl (lv_at hl 0 rfl) ?_
  refine lv_iload_n hx hb dL_law_678 rfl (lv_at hl 3 rfl) ?_
  refine lv_iconst (v := 1) hx hb dL_law_679 (by decide) ?_
  refine lv_iadd hx hb dL_law_680 ?_
  refine ft_top (y := nI (i + 1)) (ft_addN i 1) ?_
  refine va_sld hx hb hX hbl hbA hS (vp_in_nI (by omega) (by omega)) dL_law_681 ?_
  refine lv_aload_n hx hb dL_law_682 rfl (lv_at hl 0 rfl) ?_
  refine lv_iload_n hx hb dL_law_683 rfl (lv_at hl 3 rfl) ?_
  refine lv_iconst (v := 2) hx hb dL_law_684 (by decide) ?_
  refine lv_iadd hx hb dL_law_685 ?_
  refine ft_top (y := nI (i + 2)) (ft_addN i 2) ?_
  refine va_sld hx hb hX hbl hbA hS (vp_in_nI (by omega) (by omega)) dL_law_686 ?_
  refine lv_aload_n hx hb dL_law_687 rfl (lv_at hl 0 rfl) ?_
  refine lv_iload_n hx hb dL_law_688 rfl (lv_at hl 3 rfl) ?_
  refine lv_iconst (v := 3) hx hb dL_law_689 (by decide) ?_
  refine lv_iadd hx hb dL_law_690 ?_
  refine ft_top (y := nI (i + 3)) (ft_addN i 3) ?_
  refine va_sld hx hb hX hbl hbA hS (vp_in_nI (by omega) (by omega)) dL_law_691 ?_
  refine ft_callR (X1 := fun (q9 : ftRR) => ftRB cI m0 P q9) (va_runV (C := RX11) (As := [.int (xs (nI (i + 1)).toNatClampNeg), .int (xs (nI (i + 2)).toNatClampNeg), .int (xs (nI (i + 3)).toNatClampNeg)]) (rest := []) ⟨hx, hb, hml, hown, htl⟩ (b_X11_compare l D cI cS H.size sK sV m0 P w z cd.2.2.1.2.1 (cd.1.1 3) cd.2.2.1.1 j (xs (nI (i + 1)).toNatClampNeg) (xs (nI (i + 2)).toNatClampNeg) (xs (nI (i + 3)).toNatClampNeg) h1 h11 h12) (cwV 3 htl gL_law_X11_compare rfl rfl rfl (by decide +kernel) ⟨Nat.le_of_ble_eq_true rfl, Nat.le_of_ble_eq_true rfl⟩) (ft_preR (ci := 11) hP hD hKK hSt hS hA rfl rfl) rfl rfl hl.1 rfl (lv_room (Nat.le_of_ble_eq_true rfl)) dL_law_692 ⟨Nat.le_of_ble_eq_true rfl, Nat.le_of_ble_eq_true rfl⟩) hP hD hS hA (fun r2 q9 hq9 H locs hP hD hS => ?_)
  refine lv_pop hx hb dL_law_695 rfl ?_
  refine lv_goto (tgt := 699) hx hb dL_law_696 (by decide) ?_
  exact kk c9 q9 r1 r2 hc9 hq9 H locs hP hD hS
end
section
/-! the start -/
def ftS0 : ftSd := (fun _ => 0, fun k => match k with | 0 => 200 | 1 => 10 | 2 => 12000 | _ => 0, fun k => match k with | 4 => va_cpy (ftTb 2) (fun _ => 0) 0 0 11 | _ => fun _ => 0, fun k _ => match k with | 0 => 200 | 1 => 10 | _ => 12000, fun _ _ => 0, fun k _ => match k with | 4 => va_cpy (ftTb 2) (fun _ => 0) 0 0 11 | _ => fun _ => 0)
def ftC0 : ftCdT := (ftS0, (fun _ => 0, fun _ => 0, fun _ _ => 0, fun _ _ => 0), (0, fun _ => 0, (0, fun k => match k with | 4 => 200 | 5 => 10 | 6 => 12000 | _ => 0, fun _ _ => 0)), fun _ _ => 0)
def ftW0 : Nat → Int32 := upd (upd (upd (upd (upd (upd (upd (upd (upd (upd (upd (upd (upd (upd (fun _ => 0) 0 200) 1 10) 2 12000) 44 (ftFirst 0)) 45 (ftFirst 1)) 46 (ftFirst 2)) 47 (ftFirst 3)) 48 (ftFirst 4)) 49 (ftFirst 5)) 50 (ftFirst 6)) 51 (ftFirst 7)) 52 (ftFirst 8)) 53 (ftFirst 9)) 54 (ftFirst 10)
abbrev ftZr : Nat → Int32 := fun _ => 0
def ftJ0 : ftRD := (fun _ => 0, fun _ _ => 0)
theorem ftC0_par : ¬ ftCPar ftC0.2.2.1.2.1 ftC0.2.2.1.1 = none := by
  show ¬ ftPar (fun _ => 0) 0 1 0 0 _ = none
  rw [ftPar, if_neg (Nat.lt_irrefl 0)]
  exact Option.some_ne_none _
theorem ftW0_wf : ftWf ftW0 := by
  refine ⟨⟨by decide +kernel, by decide +kernel, by decide +kernel, by decide +kernel, fun k hk => ?_, fun a b _ hk => ?_⟩, by decide +kernel, by decide +kernel, fun i hi => ?_⟩
  · exact absurd (show k < 0 from hk) (Nat.not_lt_zero k)
  · exact absurd (show b < 0 from hk) (Nat.not_lt_zero b)
  · exact absurd (show i < 0 from hi) (Nat.not_lt_zero i)
theorem ftC0_cr : ftCR 0 ftC0 ftW0 (ftC0.1.1 3) := by
  refine ⟨ftW0_wf, ⟨by decide +kernel, by decide +kernel, by decide +kernel, by decide +kernel, by decide +kernel, fun k hk => absurd (show k < 0 from hk) (Nat.not_lt_zero k)⟩, ?_, ⟨Or.inl (by decide +kernel), fun h => absurd (by decide +kernel) h, ?_⟩, Nat.le_refl 0, by decide +kernel, fun i hi => absurd (show i < 0 from hi) (Nat.not_lt_zero i), fun i hi => absurd (show i < 0 from hi) (Nat.not_lt_zero i), by decide +kernel, rfl, by decide +kernel, by decide +kernel⟩
  · show ∀ j, j < 11 → (va_cpy (ftTb 2) (fun _ => 0) 0 0 11) j = ftW0 (44 + j)
    decide +kernel
  · intro N pu hN hpu h1 h2 x hx
    have h1 : (0 : Int32) = nI N := h1
    have hN0 : N = 0 := ft_eq0N (by omega) h1.symm
    omega
end
