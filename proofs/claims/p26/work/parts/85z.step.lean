set_option maxHeartbeats 4000000 in
set_option maxRecDepth 100000 in
theorem st_type {n : Nat} {c : ftCdT} {w z : Nat → Int32} {j : ftRD} {p0 : Int32} (hR : ftR2 n c w z) {r1 r2 : Int32} {c9 : ftCdT} {q9 : ftRR} (hc : (fun (r : Int32) (c9 : ftCdT) => ∃ _u : Unit, c9 = (c.1, c.2.1, (ftTl c.2.2.1.1 p0, ftTt c.2.2.1.2.1 c.2.2.1.1 p0, c.2.2.1.2.2), c.2.2.2) ∧ r = ftIte (32 ≤ p0 ∧ p0 ≤ 126) (if (c.2.2.1.1) = 120 then -1000003 else nI ((c.2.2.1.1) + 1)) (-1000001)) r1 c9) (hq : (fun (r : Int32) (q9 : ftRR) => ∃ _u : Unit, q9 = ((w, z, ftTt c.2.2.1.2.1 (c.2.2.1.1) p0), ((c.1.1 3), ftTl c.2.2.1.1 p0), j) ∧ r = ftIte (32 ≤ p0 ∧ p0 ≤ 126) (if (c.2.2.1.1) = 120 then -1000003 else nI ((c.2.2.1.1) + 1)) (-1000001)) r2 q9) : ftSt2 (n + 1) c9 q9 := by
  obtain ⟨_, rfl, -⟩ := hc
  obtain ⟨_, rfl, -⟩ := hq
  exact ⟨ftR2_up0 hR rfl hR.2.1 rfl rfl (ftTl_120 hR.2.2.2.2.2.1), rfl, rfl, rfl⟩
set_option maxHeartbeats 4000000 in
set_option maxRecDepth 100000 in
theorem st_clearText {n : Nat} {c : ftCdT} {w z : Nat → Int32} {j : ftRD} (hR : ftR2 n c w z) {r1 r2 : Int32} {c9 : ftCdT} {q9 : ftRR} (hc : (fun (r : Int32) (c9 : ftCdT) => ∃ _u : Unit, c9 = (c.1, c.2.1, (0, c.2.2.1.2.1, c.2.2.1.2.2), c.2.2.2) ∧ r = nI (c.2.2.1.1)) r1 c9) (hq : (fun (r : Int32) (q9 : ftRR) => ∃ _u : Unit, q9 = ((w, z, c.2.2.1.2.1), ((c.1.1 3), 0), j) ∧ r = (nI (c.2.2.1.1))) r2 q9) : ftSt2 (n + 1) c9 q9 := by
  obtain ⟨_, rfl, -⟩ := hc
  obtain ⟨_, rfl, -⟩ := hq
  exact ⟨ftR2_up0 hR rfl hR.2.1 rfl rfl (Nat.zero_le _), rfl, rfl, rfl⟩
set_option maxHeartbeats 4000000 in
set_option maxRecDepth 100000 in
theorem st_fault {n : Nat} {c : ftCdT} {w z : Nat → Int32} {j : ftRD} {p0 : Int32} (hR : ftR2 n c w z) {r1 r2 : Int32} {c9 : ftCdT} {q9 : ftRR} (hc : (fun (r : Int32) (c9 : ftCdT) => ∃ u : Int32 × Nat × (Nat → Int32) × (Nat → Nat → Int32), c9 = (c.1, c.2.1, (c.2.2.1.1, c.2.2.1.2.1, u.2), c.2.2.2) ∧ (r = u.1 ∧ (¬ (0 ≤ p0 ∧ p0 ≤ 2) → u.1 = -1000001) ∧ ((0 ≤ p0 ∧ p0 ≤ 2) → ¬ ftCPar c.2.2.1.2.1 (c.2.2.1.1) = none → u.1 = -1000004))) r1 c9) (hq : (fun (r : Int32) (q9 : ftRR) => ∃ u : (Nat → Int32) × (Nat → Nat → Int32), q9 = ((w, z, c.2.2.1.2.1), ((c.1.1 3), c.2.2.1.1), ((fun k => match k with | 6 => u.1 6 | 7 => u.1 7 | 8 => u.1 8 | 9 => u.1 9 | 11 => u.1 11 | k => j.1 k), (fun k => match k with | 5 => u.2 5 | 10 => u.2 10 | k => j.2 k))) ∧ (r = u.1 50 ∧ (¬ (0 ≤ p0 ∧ p0 ≤ 2) → u.1 50 = -1000001) ∧ ((0 ≤ p0 ∧ p0 ≤ 2) → ¬ ftCPar c.2.2.1.2.1 (c.2.2.1.1) = none → u.1 50 = -1000004))) r2 q9) : ftSt2 (n + 1) c9 q9 := by
  obtain ⟨u, rfl, -⟩ := hc
  obtain ⟨u2, rfl, -⟩ := hq
  exact ⟨ftR2_up0 hR rfl hR.2.1 rfl rfl hR.2.2.2.2.2.1, rfl, rfl, rfl⟩
set_option maxHeartbeats 4000000 in
set_option maxRecDepth 100000 in
theorem st_lay {n : Nat} {c : ftCdT} {w z : Nat → Int32} {j : ftRD} (hR : ftR2 n c w z) {r1 r2 : Int32} {c9 : ftCdT} {q9 : ftRR} (hc : (fun (r : Int32) (c9 : ftCdT) => ∃ u : ftSd × Nat × (Nat → Int32) × (Nat → Nat → Int32), c9 = (u.1, c.2.1, (c.2.2.1.1, c.2.2.1.2.1, u.2), c.2.2.2) ∧ (r = ftIte (¬ ftCPar c.2.2.1.2.1 (c.2.2.1.1) = none) (nI (ftCN (ftCPm c.2.2.1.2.1 (c.2.2.1.1)))) (-1000002) ∧ (u.1 = ftCh (¬ ftCPar c.2.2.1.2.1 (c.2.2.1.1) = none) (ftLayS (ftBg c.1) u.2) c.1) ∧ (¬ ftCPar c.2.2.1.2.1 (c.2.2.1.1) = none → ftLR (ftCPm c.2.2.1.2.1 (c.2.2.1.1)) (u.2.2.1 4) (u.2.2.1 5) (u.2.2.1 6) u.2.1 (u.2.2.2 2) (u.2.2.2 3) (u.2.2.2 4) (u.2.2.2 5)))) r1 c9) (hq : (fun (r : Int32) (q9 : ftRR) => ∃ u : (Nat → Int32) × (Nat → Nat → Int32), q9 = ((ftCh (¬ ftCPar c.2.2.1.2.1 (c.2.2.1.1) = none) (ftLayW w (ftCPm c.2.2.1.2.1 (c.2.2.1.1))) w, ftCh (¬ ftCPar c.2.2.1.2.1 (c.2.2.1.1) = none) (ftPush w z ((c.1.1 3))) z, c.2.2.1.2.1), (ftCh (¬ ftCPar c.2.2.1.2.1 c.2.2.1.1 = none) (min ((c.1.1 3) + 1) 5) (c.1.1 3), c.2.2.1.1), ((fun k => match k with | 6 => u.1 6 | 7 => u.1 7 | 8 => u.1 8 | 9 => u.1 9 | 11 => u.1 11 | k => j.1 k), (fun k => match k with | 5 => u.2 5 | 10 => u.2 10 | k => j.2 k))) ∧ (r = ftIte (¬ ftCPar c.2.2.1.2.1 (c.2.2.1.1) = none) (nI (ftCN (ftCPm c.2.2.1.2.1 (c.2.2.1.1)))) (-1000002) ∧ True)) r2 q9) : ftSt2 (n + 1) c9 q9 := by
  obtain ⟨⟨s1, m1⟩, rfl, -, hu, hlr⟩ := hc
  obtain ⟨u2, rfl, -⟩ := hq
  have hN := hR.1
  have hu : s1 = ftCh (¬ ftCPar c.2.2.1.2.1 c.2.2.1.1 = none) (ftLayS (ftBg c.1) m1) c.1 := hu
  by_cases hC : ¬ ftCPar c.2.2.1.2.1 c.2.2.1.1 = none
  · rw [ftCh_t hC] at hu
    subst hu
    refine ⟨?_, rfl, ?_, rfl⟩
    · show ftR2 (n + 1) (ftLayS (ftBg c.1) m1, c.2.1, (c.2.2.1.1, c.2.2.1.2.1, m1), c.2.2.2) (ftCh (¬ ftCPar c.2.2.1.2.1 c.2.2.1.1 = none) _ _) (ftCh (¬ ftCPar c.2.2.1.2.1 c.2.2.1.1 = none) _ _)
      rw [ftCh_t hC, ftCh_t hC]
      refine ftR2_ch hR rfl rfl rfl rfl rfl rfl rfl rfl hR.2.2.2.2.2.1 ?_
      have hL := hlr hC
      have hn10 : m1.1 ≤ 10 := hL.2.2.2.2.1
      exact ftSR_tail hN (ftWf_lay hN.1 (ftCPm_lf hC)) (ftLR_cong (ftLR_lay hL) (fun t ht => ⟨ftCpy_lt (Nat.lt_of_lt_of_le ht hn10), ftCpy_lt (Nat.lt_of_lt_of_le ht hn10), ftCpy_lt (Nat.lt_of_lt_of_le ht hn10), ftCpy_lt (Nat.lt_of_lt_of_le ht hn10)⟩)) (fun t ht => ftLay_hi ht)
    · show ftCh (¬ ftCPar c.2.2.1.2.1 c.2.2.1.1 = none) _ _ = _
      rw [ftCh_t hC]; rfl
  · rw [ftCh_f hC] at hu
    subst hu
    refine ⟨?_, rfl, ?_, rfl⟩
    · show ftR2 (n + 1) _ (ftCh (¬ ftCPar c.2.2.1.2.1 c.2.2.1.1 = none) _ _) (ftCh (¬ ftCPar c.2.2.1.2.1 c.2.2.1.1 = none) _ _)
      rw [ftCh_f hC, ftCh_f hC]
      exact ftR2_up0 hR rfl hR.2.1 rfl rfl hR.2.2.2.2.2.1
    · show ftCh (¬ ftCPar c.2.2.1.2.1 c.2.2.1.1 = none) _ _ = _
      rw [ftCh_f hC]
set_option maxHeartbeats 4000000 in
set_option maxRecDepth 100000 in
theorem st_addPart {n : Nat} {c : ftCdT} {w z : Nat → Int32} {j : ftRD} {p0 p1 p2 p3 : Int32} (hR : ftR2 n c w z) {r1 r2 : Int32} {c9 : ftCdT} {q9 : ftRR} (hc : (fun (r : Int32) (c9 : ftCdT) => ∃ u : ftSd, c9 = (u, c.2) ∧ (r = ftAdA w p0 p1 p2 p3 ∧ (u = ftCh (ftAdC w p0 p1 p2 p3) (ftInsS (ftBg c.1) p0 p1 p2 p3) c.1))) r1 c9) (hq : (fun (r : Int32) (q9 : ftRR) => ∃ _u : Unit, q9 = ((ftCh (ftAdC w p0 p1 p2 p3) (ftAdd w (ftCN w) p0 p1 p2 p3) w, ftCh (ftAdC w p0 p1 p2 p3) (ftPush w z ((c.1.1 3))) z, c.2.2.1.2.1), (ftCh (ftAdC w p0 p1 p2 p3) (min ((c.1.1 3) + 1) 5) (c.1.1 3), c.2.2.1.1), j) ∧ r = ftAdA w p0 p1 p2 p3) r2 q9) : ftSt2 (n + 1) c9 q9 := by
  obtain ⟨u, rfl, -, hu⟩ := hc
  obtain ⟨_, rfl, -⟩ := hq
  have hN := hR.1
  have hcn := ftLR_n hN.2.1
  by_cases hC : ftAdC w p0 p1 p2 p3
  · rw [ftCh_t hC] at hu
    subst hu
    refine ⟨?_, rfl, ?_, rfl⟩
    · show ftR2 (n + 1) (ftInsS (ftBg c.1) p0 p1 p2 p3, c.2) (ftCh (ftAdC w p0 p1 p2 p3) _ _) (ftCh (ftAdC w p0 p1 p2 p3) _ _)
      rw [ftCh_t hC, ftCh_t hC]
      refine ftR2_ch hR rfl rfl rfl rfl rfl rfl rfl rfl hR.2.2.2.2.2.1 ?_
      have hn10 := ftWf_n hN.1
      have h10 : ftCN w < 10 := by
        rcases Nat.eq_or_lt_of_le hn10 with q | q
        · exact absurd (by rw [ftWf_3 hN.1, q]; rfl) hC.2.2
        · exact q
      have hne := (ftPa_neg (w := w) (x := p1) (ftCN w) (by omega)).mp hC.2.1
      have hL := ftLR_add (kd := p0) (x := p1) (lo := p2) (re := p3) hN.2.1 (by omega) (fun a b hab hb => hN.1.1.2.2.2.2.2 a b hab (by omega)) (fun t ht => hne t (by omega))
      have hW := ftWf_add hN.1 hC
      rw [hcn] at hW ⊢
      exact ftSR_tail hN hW hL (fun t ht => ftAdd_tl (by omega) ht)
    · show ftCh (ftAdC w p0 p1 p2 p3) _ _ = _
      rw [ftCh_t hC]; rfl
  · rw [ftCh_f hC] at hu
    subst hu
    refine ⟨?_, rfl, ?_, rfl⟩
    · show ftR2 (n + 1) _ (ftCh (ftAdC w p0 p1 p2 p3) _ _) (ftCh (ftAdC w p0 p1 p2 p3) _ _)
      rw [ftCh_f hC, ftCh_f hC]
      exact ftR2_up0 hR rfl hR.2.1 rfl rfl hR.2.2.2.2.2.1
    · show ftCh (ftAdC w p0 p1 p2 p3) _ _ = _
      rw [ftCh_f hC]
set_option maxHeartbeats 4000000 in
set_option maxRecDepth 100000 in
theorem st_removePart {n : Nat} {c : ftCdT} {w z : Nat → Int32} {j : ftRD} {p0 : Int32} (hR : ftR2 n c w z) {r1 r2 : Int32} {c9 : ftCdT} {q9 : ftRR} (hc : (fun (r : Int32) (c9 : ftCdT) => ∃ u : ftSd, c9 = (u, c.2) ∧ (r = ftIte (ftRmC w p0) (nI (ftCN w - 1)) (-1000001) ∧ (u = ftCh (ftRmC w p0) (ftRemS (ftBg c.1) p0.toNatClampNeg) c.1))) r1 c9) (hq : (fun (r : Int32) (q9 : ftRR) => ∃ _u : Unit, q9 = ((ftCh (ftRmC w p0) (ftDel w p0.toNatClampNeg) w, ftCh (ftRmC w p0) (ftPush w z ((c.1.1 3))) z, c.2.2.1.2.1), (ftCh (ftRmC w p0) (min ((c.1.1 3) + 1) 5) (c.1.1 3), c.2.2.1.1), j) ∧ r = ftIte (ftRmC w p0) (nI (ftCN w - 1)) (-1000001)) r2 q9) : ftSt2 (n + 1) c9 q9 := by
  obtain ⟨u, rfl, -, hu⟩ := hc
  obtain ⟨_, rfl, -⟩ := hq
  have hN := hR.1
  have hcn := ftLR_n hN.2.1
  by_cases hC : ftRmC w p0
  · rw [ftCh_t hC] at hu
    subst hu
    refine ⟨?_, rfl, ?_, rfl⟩
    · show ftR2 (n + 1) (ftRemS (ftBg c.1) p0.toNatClampNeg, c.2) (ftCh (ftRmC w p0) _ _) (ftCh (ftRmC w p0) _ _)
      rw [ftCh_t hC, ftCh_t hC]
      refine ftR2_ch hR rfl rfl rfl rfl rfl rfl rfl rfl hR.2.2.2.2.2.1 ?_
      have hn10 := ftWf_n hN.1
      have hk : p0.toNatClampNeg < ftCN w := ftRm_lt hN.1 hC
      have hL := ftLR_del (k := p0.toNatClampNeg) hN.2.1 (show p0.toNatClampNeg < c.1.1 0 by omega)
      exact ftSR_tail hN (ftWf_del hN.1 hk) hL (fun t ht => ftDel_hi rfl hn10 ht)
    · show ftCh (ftRmC w p0) _ _ = _
      rw [ftCh_t hC]; rfl
  · rw [ftCh_f hC] at hu
    subst hu
    refine ⟨?_, rfl, ?_, rfl⟩
    · show ftR2 (n + 1) _ (ftCh (ftRmC w p0) _ _) (ftCh (ftRmC w p0) _ _)
      rw [ftCh_f hC, ftCh_f hC]
      exact ftR2_up0 hR rfl hR.2.1 rfl rfl hR.2.2.2.2.2.1
    · show ftCh (ftRmC w p0) _ _ = _
      rw [ftCh_f hC]
set_option maxHeartbeats 4000000 in
set_option maxRecDepth 100000 in
theorem st_set {n : Nat} {c : ftCdT} {w z : Nat → Int32} {j : ftRD} {p0 p1 : Int32} (hR : ftR2 n c w z) {r1 r2 : Int32} {c9 : ftCdT} {q9 : ftRR} (hc : (fun (r : Int32) (c9 : ftCdT) => ∃ u : ftSd, c9 = (u, c.2) ∧ (r = ftIte (ftSetC p0 p1) (w (44 + p0.toNatClampNeg)) (-1000001) ∧ (u = ftCh (ftSetC p0 p1) (ftSetS (ftBg c.1) (upd ((ftBg c.1).2.2.1 4) p0.toNatClampNeg p1)) c.1))) r1 c9) (hq : (fun (r : Int32) (q9 : ftRR) => ∃ _u : Unit, q9 = ((ftCh (ftSetC p0 p1) (upd w (44 + p0.toNatClampNeg) p1) w, ftCh (ftSetC p0 p1) (ftPush w z ((c.1.1 3))) z, c.2.2.1.2.1), (ftCh (ftSetC p0 p1) (min ((c.1.1 3) + 1) 5) (c.1.1 3), c.2.2.1.1), j) ∧ r = ftIte (ftSetC p0 p1) (w (44 + p0.toNatClampNeg)) (-1000001)) r2 q9) : ftSt2 (n + 1) c9 q9 := by
  obtain ⟨u, rfl, -, hu⟩ := hc
  obtain ⟨_, rfl, -⟩ := hq
  have hN := hR.1
  by_cases hC : ftSetC p0 p1
  · rw [ftCh_t hC] at hu
    subst hu
    refine ⟨?_, rfl, ?_, rfl⟩
    · show ftR2 (n + 1) (ftSetS (ftBg c.1) (upd ((ftBg c.1).2.2.1 4) p0.toNatClampNeg p1), c.2) (ftCh (ftSetC p0 p1) _ _) (ftCh (ftSetC p0 p1) _ _)
      rw [ftCh_t hC, ftCh_t hC]
      refine ftR2_ch hR rfl rfl rfl rfl rfl rfl rfl rfl hR.2.2.2.2.2.1 ?_
      exact ftSR_set hN hC
    · show ftCh (ftSetC p0 p1) _ _ = _
      rw [ftCh_t hC]; rfl
  · rw [ftCh_f hC] at hu
    subst hu
    refine ⟨?_, rfl, ?_, rfl⟩
    · show ftR2 (n + 1) _ (ftCh (ftSetC p0 p1) _ _) (ftCh (ftSetC p0 p1) _ _)
      rw [ftCh_f hC, ftCh_f hC]
      exact ftR2_up0 hR rfl hR.2.1 rfl rfl hR.2.2.2.2.2.1
    · show ftCh (ftSetC p0 p1) _ _ = _
      rw [ftCh_f hC]
set_option maxHeartbeats 4000000 in
set_option maxRecDepth 100000 in
theorem st_undo {n : Nat} {c : ftCdT} {w z : Nat → Int32} {j : ftRD} (hR : ftR2 n c w z) {r1 r2 : Int32} {c9 : ftCdT} {q9 : ftRR} (hc : (fun (r : Int32) (c9 : ftCdT) => ∃ u : ftSd, c9 = (u, c.2) ∧ (r = (if c.1.1 3 = 0 then -1000002 else nI (c.1.1 3 - 1) : Int32) ∧ (u = ftCh (¬ c.1.1 3 = 0) (ftUnS c.1 ((c.1.1 2 + 4) % 5)) c.1))) r1 c9) (hq : (fun (r : Int32) (q9 : ftRR) => ∃ _u : Unit, q9 = ((if ((c.1.1 3)) = 0 then w else ftFill (fun t => z ((((c.1.1 3)) - 1) * 1439 + t)) w 1439, z, c.2.2.1.2.1), ((c.1.1 3) - 1, c.2.2.1.1), j) ∧ r = if ((c.1.1 3)) = 0 then -1000002 else nI (((c.1.1 3)) - 1)) r2 q9) : ftSt2 (n + 1) c9 q9 := by
  obtain ⟨u, rfl, -, hu⟩ := hc
  obtain ⟨_, rfl, -⟩ := hq
  by_cases h0 : c.1.1 3 = 0
  · rw [ftCh_f (fun q => q h0)] at hu
    subst hu
    refine ⟨?_, rfl, ?_, rfl⟩
    · show ftR2 (n + 1) _ (if c.1.1 3 = 0 then w else _) z
      rw [if_pos h0]
      exact ftR2_up0 hR rfl hR.2.1 rfl rfl hR.2.2.2.2.2.1
    · show c.1.1 3 - 1 = c.1.1 3
      omega
  · rw [ftCh_t h0] at hu
    subst hu
    refine ⟨?_, rfl, rfl, rfl⟩
    show ftR2 (n + 1) _ (if c.1.1 3 = 0 then w else _) z
    rw [if_neg h0]
    obtain ⟨g1, g6, g7, g8, g9, g10, g11, g12⟩ := hR
    have h00 := Nat.pos_of_ne_zero h0
    exact ⟨ftUn_now g11 g8 g9 h00, ⟨Or.inl rfl, fun q => absurd rfl q, g6.2.2⟩, Nat.le_succ_of_le (Nat.le_trans (ftUn_ke g12 g8 g9 h00) g7), Nat.mod_lt _ (by omega), Nat.le_trans (Nat.sub_le _ _) g9, g10, ftUn_HR g11 g8 g9 h00, ftUn_KC g12 g8 g9 h00⟩
set_option maxHeartbeats 4000000 in
set_option maxRecDepth 100000 in
theorem st_count {n : Nat} {c : ftCdT} {w z : Nat → Int32} {j : ftRD} {p0 : Int32} (hR : ftR2 n c w z) {r1 r2 : Int32} {c9 : ftCdT} {q9 : ftRR} (hc : (fun (r : Int32) (c9 : ftCdT) => ∃ _u : Unit, c9 = c ∧ r = ftCntA w (c.1.1 3) (c.2.2.1.1) p0) r1 c9) (hq : (fun (r : Int32) (q9 : ftRR) => ∃ _u : Unit, q9 = ((w, z, c.2.2.1.2.1), ((c.1.1 3), c.2.2.1.1), j) ∧ r = ftCntA w ((c.1.1 3)) (c.2.2.1.1) p0) r2 q9) : ftSt2 (n + 1) c9 q9 := by
  obtain ⟨_, rfl, -⟩ := hc
  obtain ⟨_, rfl, -⟩ := hq
  exact ⟨ftR2_up0 hR rfl hR.2.1 rfl rfl hR.2.2.2.2.2.1, rfl, rfl, rfl⟩
set_option maxHeartbeats 4000000 in
set_option maxRecDepth 100000 in
theorem st_part {n : Nat} {c : ftCdT} {w z : Nat → Int32} {j : ftRD} {p0 p1 : Int32} (hR : ftR2 n c w z) {r1 r2 : Int32} {c9 : ftCdT} {q9 : ftRR} (hc : (fun (r : Int32) (c9 : ftCdT) => ∃ u : Int32 × ftUm, c9 = (ftFlS c.1 u.1, u.2, c.2.2) ∧ (r = ftPtA w p0 p1 ∧ (ftMi w u.1 u.2))) r1 c9) (hq : (fun (r : Int32) (q9 : ftRR) => ∃ u : (Nat → Int32) × (Nat → Nat → Int32), q9 = ((w, z, c.2.2.1.2.1), ((c.1.1 3), c.2.2.1.1), ((fun k => match k with | 15 => u.1 15 | 18 => u.1 18 | 23 => u.1 23 | 24 => u.1 24 | k => j.1 k), (fun k => match k with | 12 => u.2 12 | 13 => u.2 13 | 14 => u.2 14 | 16 => u.2 16 | 17 => u.2 17 | 19 => u.2 19 | 20 => u.2 20 | 21 => u.2 21 | 22 => u.2 22 | 25 => u.2 25 | 26 => u.2 26 | 27 => u.2 27 | 28 => u.2 28 | 29 => u.2 29 | 30 => u.2 30 | 31 => u.2 31 | 32 => u.2 32 | k => j.2 k))) ∧ (r = ftPtA w p0 p1 ∧ True)) r2 q9) : ftSt2 (n + 1) c9 q9 := by
  obtain ⟨u, rfl, -, hmi⟩ := hc
  obtain ⟨u2, rfl, -⟩ := hq
  exact ⟨ftR2_up (f := u.1) hR rfl hmi rfl rfl hR.2.2.2.2.2.1, rfl, rfl, rfl⟩
set_option maxHeartbeats 4000000 in
set_option maxRecDepth 100000 in
theorem st_lineLoss {n : Nat} {c : ftCdT} {w z : Nat → Int32} {j : ftRD} {p0 : Int32} (hR : ftR2 n c w z) {r1 r2 : Int32} {c9 : ftCdT} {q9 : ftRR} (hc : (fun (r : Int32) (c9 : ftCdT) => ∃ _u : Unit, c9 = c ∧ r = ftLlA w p0) r1 c9) (hq : (fun (r : Int32) (q9 : ftRR) => ∃ _u : Unit, q9 = ((w, z, c.2.2.1.2.1), ((c.1.1 3), c.2.2.1.1), j) ∧ r = ftLlA w p0) r2 q9) : ftSt2 (n + 1) c9 q9 := by
  obtain ⟨_, rfl, -⟩ := hc
  obtain ⟨_, rfl, -⟩ := hq
  exact ⟨ftR2_up0 hR rfl hR.2.1 rfl rfl hR.2.2.2.2.2.1, rfl, rfl, rfl⟩
set_option maxHeartbeats 4000000 in
set_option maxRecDepth 100000 in
theorem st_sample {n : Nat} {c : ftCdT} {w z : Nat → Int32} {j : ftRD} {p0 p1 : Int32} (hR : ftR2 n c w z) {r1 r2 : Int32} {c9 : ftCdT} {q9 : ftRR} (hc : (fun (r : Int32) (c9 : ftCdT) => ∃ u : Int32 × ftUm, c9 = (ftFlS c.1 u.1, u.2, c.2.2) ∧ (r = ftSmA w p0 p1 ∧ (ftMi w u.1 u.2))) r1 c9) (hq : (fun (r : Int32) (q9 : ftRR) => ∃ u : (Nat → Int32) × (Nat → Nat → Int32), q9 = ((w, z, c.2.2.1.2.1), ((c.1.1 3), c.2.2.1.1), ((fun k => match k with | 15 => u.1 15 | 18 => u.1 18 | k => j.1 k), (fun k => match k with | 12 => u.2 12 | 13 => u.2 13 | 14 => u.2 14 | 16 => u.2 16 | 17 => u.2 17 | 19 => u.2 19 | 20 => u.2 20 | 21 => u.2 21 | 22 => u.2 22 | k => j.2 k))) ∧ (r = ftSmA w p0 p1 ∧ True)) r2 q9) : ftSt2 (n + 1) c9 q9 := by
  obtain ⟨u, rfl, -, hmi⟩ := hc
  obtain ⟨u2, rfl, -⟩ := hq
  exact ⟨ftR2_up (f := u.1) hR rfl hmi rfl rfl hR.2.2.2.2.2.1, rfl, rfl, rfl⟩
set_option maxHeartbeats 4000000 in
set_option maxRecDepth 100000 in
theorem st_echo {n : Nat} {c : ftCdT} {w z : Nat → Int32} {j : ftRD} {p0 p1 : Int32} (hR : ftR2 n c w z) {r1 r2 : Int32} {c9 : ftCdT} {q9 : ftRR} (hc : (fun (r : Int32) (c9 : ftCdT) => ∃ u : Int32 × ftUm, c9 = (ftFlS c.1 u.1, u.2, c.2.2) ∧ (r = ftEcA w p0 p1 ∧ (ftMi w u.1 u.2))) r1 c9) (hq : (fun (r : Int32) (q9 : ftRR) => ∃ u : (Nat → Int32) × (Nat → Nat → Int32), q9 = ((w, z, c.2.2.1.2.1), ((c.1.1 3), c.2.2.1.1), ((fun k => match k with | 15 => u.1 15 | 18 => u.1 18 | k => j.1 k), (fun k => match k with | 16 => u.2 16 | 17 => u.2 17 | 19 => u.2 19 | 20 => u.2 20 | 21 => u.2 21 | 22 => u.2 22 | k => j.2 k))) ∧ (r = ftEcA w p0 p1 ∧ True)) r2 q9) : ftSt2 (n + 1) c9 q9 := by
  obtain ⟨u, rfl, -, hmi⟩ := hc
  obtain ⟨u2, rfl, -⟩ := hq
  exact ⟨ftR2_up (f := u.1) hR rfl hmi rfl rfl hR.2.2.2.2.2.1, rfl, rfl, rfl⟩
set_option maxHeartbeats 4000000 in
set_option maxRecDepth 100000 in
theorem st_pulsesFor {n : Nat} {c : ftCdT} {w z : Nat → Int32} {j : ftRD} {p0 : Int32} (hR : ftR2 n c w z) {r1 r2 : Int32} {c9 : ftCdT} {q9 : ftRR} (hc : (fun (r : Int32) (c9 : ftCdT) => ∃ u : Int32 × Int32, c9 = (c.1, (c.2.1.1, fun k => match k with | 0 => u.1 | 1 => u.2 | k => c.2.1.2.1 k, c.2.1.2.2), c.2.2) ∧ (r = ftPuA w p0 ∧ True)) r1 c9) (hq : (fun (r : Int32) (q9 : ftRR) => ∃ u : Nat → Int32, q9 = ((w, z, c.2.2.1.2.1), ((c.1.1 3), c.2.2.1.1), (j.1, (fun k => match k with | 14 => u | k => j.2 k))) ∧ (r = ftPuA w p0 ∧ True)) r2 q9) : ftSt2 (n + 1) c9 q9 := by
  obtain ⟨u, rfl, -⟩ := hc
  obtain ⟨u2, rfl, -⟩ := hq
  exact ⟨ftR2_up0 hR rfl (by obtain ⟨m1, m2, m3⟩ := hR.2.1; exact ⟨m1, m2, m3⟩) rfl rfl hR.2.2.2.2.2.1, rfl, rfl, rfl⟩
set_option maxHeartbeats 4000000 in
set_option maxRecDepth 100000 in
theorem st_events {n : Nat} {c : ftCdT} {w z : Nat → Int32} {j : ftRD} (hR : ftR2 n c w z) {r1 r2 : Int32} {c9 : ftCdT} {q9 : ftRR} (hc : (fun (r : Int32) (c9 : ftCdT) => ∃ u : Int32 × ftUm, c9 = (ftFlS c.1 u.1, u.2, c.2.2) ∧ (r = nI (ftCE w).1 ∧ (ftMi w u.1 u.2))) r1 c9) (hq : (fun (r : Int32) (q9 : ftRR) => ∃ u : (Nat → Int32) × (Nat → Nat → Int32), q9 = ((w, z, c.2.2.1.2.1), ((c.1.1 3), c.2.2.1.1), ((fun k => match k with | 15 => u.1 15 | 18 => u.1 18 | 23 => u.1 23 | 24 => u.1 24 | k => j.1 k), (fun k => match k with | 12 => u.2 12 | 13 => u.2 13 | 14 => u.2 14 | 16 => u.2 16 | 17 => u.2 17 | 19 => u.2 19 | 20 => u.2 20 | 21 => u.2 21 | 22 => u.2 22 | 25 => u.2 25 | 26 => u.2 26 | 27 => u.2 27 | 28 => u.2 28 | 29 => u.2 29 | 30 => u.2 30 | 31 => u.2 31 | 32 => u.2 32 | k => j.2 k))) ∧ (r = nI (ftCE w).1 ∧ True)) r2 q9) : ftSt2 (n + 1) c9 q9 := by
  obtain ⟨u, rfl, -, hmi⟩ := hc
  obtain ⟨u2, rfl, -⟩ := hq
  exact ⟨ftR2_up (f := u.1) hR rfl hmi rfl rfl hR.2.2.2.2.2.1, rfl, rfl, rfl⟩
set_option maxHeartbeats 4000000 in
set_option maxRecDepth 100000 in
theorem st_event {n : Nat} {c : ftCdT} {w z : Nat → Int32} {j : ftRD} {p0 p1 : Int32} (hR : ftR2 n c w z) {r1 r2 : Int32} {c9 : ftCdT} {q9 : ftRR} (hc : (fun (r : Int32) (c9 : ftCdT) => ∃ u : Int32 × ftUm, c9 = (ftFlS c.1 u.1, u.2, c.2.2) ∧ (r = ftEvA w p0 p1 ∧ (ftMi w u.1 u.2))) r1 c9) (hq : (fun (r : Int32) (q9 : ftRR) => ∃ u : (Nat → Int32) × (Nat → Nat → Int32), q9 = ((w, z, c.2.2.1.2.1), ((c.1.1 3), c.2.2.1.1), ((fun k => match k with | 15 => u.1 15 | 18 => u.1 18 | 23 => u.1 23 | 24 => u.1 24 | k => j.1 k), (fun k => match k with | 12 => u.2 12 | 13 => u.2 13 | 14 => u.2 14 | 16 => u.2 16 | 17 => u.2 17 | 19 => u.2 19 | 20 => u.2 20 | 21 => u.2 21 | 22 => u.2 22 | 25 => u.2 25 | 26 => u.2 26 | 27 => u.2 27 | 28 => u.2 28 | 29 => u.2 29 | 30 => u.2 30 | 31 => u.2 31 | 32 => u.2 32 | k => j.2 k))) ∧ (r = ftEvA w p0 p1 ∧ True)) r2 q9) : ftSt2 (n + 1) c9 q9 := by
  obtain ⟨u, rfl, -, hmi⟩ := hc
  obtain ⟨u2, rfl, -⟩ := hq
  exact ⟨ftR2_up (f := u.1) hR rfl hmi rfl rfl hR.2.2.2.2.2.1, rfl, rfl, rfl⟩
set_option maxHeartbeats 4000000 in
set_option maxRecDepth 100000 in
theorem st_total {n : Nat} {c : ftCdT} {w z : Nat → Int32} {j : ftRD} {p0 : Int32} (hR : ftR2 n c w z) {r1 r2 : Int32} {c9 : ftCdT} {q9 : ftRR} (hc : (fun (r : Int32) (c9 : ftCdT) => ∃ u : Int32 × ftUm, c9 = (ftFlS c.1 u.1, u.2, c.2.2) ∧ (r = ftToA w p0 ∧ (ftMi w u.1 u.2))) r1 c9) (hq : (fun (r : Int32) (q9 : ftRR) => ∃ u : (Nat → Int32) × (Nat → Nat → Int32), q9 = ((w, z, c.2.2.1.2.1), ((c.1.1 3), c.2.2.1.1), ((fun k => match k with | 15 => u.1 15 | 18 => u.1 18 | 23 => u.1 23 | 24 => u.1 24 | k => j.1 k), (fun k => match k with | 12 => u.2 12 | 13 => u.2 13 | 14 => u.2 14 | 16 => u.2 16 | 17 => u.2 17 | 19 => u.2 19 | 20 => u.2 20 | 21 => u.2 21 | 22 => u.2 22 | 25 => u.2 25 | 26 => u.2 26 | 27 => u.2 27 | 28 => u.2 28 | 29 => u.2 29 | 30 => u.2 30 | 31 => u.2 31 | 32 => u.2 32 | k => j.2 k))) ∧ (r = ftToA w p0 ∧ True)) r2 q9) : ftSt2 (n + 1) c9 q9 := by
  obtain ⟨u, rfl, -, hmi⟩ := hc
  obtain ⟨u2, rfl, -⟩ := hq
  exact ⟨ftR2_up (f := u.1) hR rfl hmi rfl rfl hR.2.2.2.2.2.1, rfl, rfl, rfl⟩
set_option maxHeartbeats 4000000 in
set_option maxRecDepth 100000 in
theorem st_eventAt {n : Nat} {c : ftCdT} {w z : Nat → Int32} {j : ftRD} {p0 : Int32} (hR : ftR2 n c w z) {r1 r2 : Int32} {c9 : ftCdT} {q9 : ftRR} (hc : (fun (r : Int32) (c9 : ftCdT) => ∃ u : Int32 × ftUm, c9 = (ftFlS c.1 u.1, u.2, c.2.2) ∧ (r = ftEaA w p0 ∧ (ftMi w u.1 u.2))) r1 c9) (hq : (fun (r : Int32) (q9 : ftRR) => ∃ u : (Nat → Int32) × (Nat → Nat → Int32), q9 = ((w, z, c.2.2.1.2.1), ((c.1.1 3), c.2.2.1.1), ((fun k => match k with | 15 => u.1 15 | 18 => u.1 18 | 23 => u.1 23 | 24 => u.1 24 | k => j.1 k), (fun k => match k with | 12 => u.2 12 | 13 => u.2 13 | 14 => u.2 14 | 16 => u.2 16 | 17 => u.2 17 | 19 => u.2 19 | 20 => u.2 20 | 21 => u.2 21 | 22 => u.2 22 | 25 => u.2 25 | 26 => u.2 26 | 27 => u.2 27 | 28 => u.2 28 | 29 => u.2 29 | 30 => u.2 30 | 31 => u.2 31 | 32 => u.2 32 | k => j.2 k))) ∧ (r = ftEaA w p0 ∧ True)) r2 q9) : ftSt2 (n + 1) c9 q9 := by
  obtain ⟨u, rfl, -, hmi⟩ := hc
  obtain ⟨u2, rfl, -⟩ := hq
  exact ⟨ftR2_up (f := u.1) hR rfl hmi rfl rfl hR.2.2.2.2.2.1, rfl, rfl, rfl⟩
set_option maxHeartbeats 4000000 in
set_option maxRecDepth 100000 in
theorem st_worst {n : Nat} {c : ftCdT} {w z : Nat → Int32} {j : ftRD} (hR : ftR2 n c w z) {r1 r2 : Int32} {c9 : ftCdT} {q9 : ftRR} (hc : (fun (r : Int32) (c9 : ftCdT) => ∃ u : Int32 × ftUm, c9 = (ftFlS c.1 u.1, u.2, c.2.2) ∧ (r = ftWo (ftCE w) (ftCE w).1 ∧ (ftMi w u.1 u.2))) r1 c9) (hq : (fun (r : Int32) (q9 : ftRR) => ∃ u : (Nat → Int32) × (Nat → Nat → Int32), q9 = ((w, z, c.2.2.1.2.1), ((c.1.1 3), c.2.2.1.1), ((fun k => match k with | 15 => u.1 15 | 18 => u.1 18 | 23 => u.1 23 | 24 => u.1 24 | k => j.1 k), (fun k => match k with | 12 => u.2 12 | 13 => u.2 13 | 14 => u.2 14 | 16 => u.2 16 | 17 => u.2 17 | 19 => u.2 19 | 20 => u.2 20 | 21 => u.2 21 | 22 => u.2 22 | 25 => u.2 25 | 26 => u.2 26 | 27 => u.2 27 | 28 => u.2 28 | 29 => u.2 29 | 30 => u.2 30 | 31 => u.2 31 | 32 => u.2 32 | k => j.2 k))) ∧ (r = ftWo (ftCE w) (ftCE w).1 ∧ True)) r2 q9) : ftSt2 (n + 1) c9 q9 := by
  obtain ⟨u, rfl, -, hmi⟩ := hc
  obtain ⟨u2, rfl, -⟩ := hq
  exact ⟨ftR2_up (f := u.1) hR rfl hmi rfl rfl hR.2.2.2.2.2.1, rfl, rfl, rfl⟩
set_option maxHeartbeats 4000000 in
set_option maxRecDepth 100000 in
theorem st_findings {n : Nat} {c : ftCdT} {w z : Nat → Int32} {j : ftRD} {p0 : Int32} (hR : ftR2 n c w z) {r1 r2 : Int32} {c9 : ftCdT} {q9 : ftRR} (hc : (fun (r : Int32) (c9 : ftCdT) => ∃ u : Int32 × ftUm, c9 = (ftFlS c.1 u.1, u.2, c.2.2) ∧ (r = ftFiA w p0 ∧ (ftMi w u.1 u.2))) r1 c9) (hq : (fun (r : Int32) (q9 : ftRR) => ∃ u : (Nat → Int32) × (Nat → Nat → Int32), q9 = ((w, z, c.2.2.1.2.1), ((c.1.1 3), c.2.2.1.1), ((fun k => match k with | 15 => u.1 15 | 18 => u.1 18 | 23 => u.1 23 | 24 => u.1 24 | k => j.1 k), (fun k => match k with | 12 => u.2 12 | 13 => u.2 13 | 14 => u.2 14 | 16 => u.2 16 | 17 => u.2 17 | 19 => u.2 19 | 20 => u.2 20 | 21 => u.2 21 | 22 => u.2 22 | 25 => u.2 25 | 26 => u.2 26 | 27 => u.2 27 | 28 => u.2 28 | 29 => u.2 29 | 30 => u.2 30 | 31 => u.2 31 | 32 => u.2 32 | k => j.2 k))) ∧ (r = ftFiA w p0 ∧ True)) r2 q9) : ftSt2 (n + 1) c9 q9 := by
  obtain ⟨u, rfl, -, hmi⟩ := hc
  obtain ⟨u2, rfl, -⟩ := hq
  exact ⟨ftR2_up (f := u.1) hR rfl hmi rfl rfl hR.2.2.2.2.2.1, rfl, rfl, rfl⟩
set_option maxHeartbeats 4000000 in
set_option maxRecDepth 100000 in
theorem st_widthFor {n : Nat} {c : ftCdT} {w z : Nat → Int32} {j : ftRD} (hR : ftR2 n c w z) {r1 r2 : Int32} {c9 : ftCdT} {q9 : ftRR} (hc : (fun (r : Int32) (c9 : ftCdT) => ∃ u : ftUm × (Nat → Int32), c9 = (ftFlS c.1 0, u.1, c.2.2.1, fun k => match k with | 3 => u.2 | k => c.2.2.2 k) ∧ (r = ftWfA w ∧ (ftNc u.1))) r1 c9) (hq : (fun (r : Int32) (q9 : ftRR) => ∃ u : (Nat → Int32) × (Nat → Nat → Int32), q9 = ((w, z, c.2.2.1.2.1), ((c.1.1 3), c.2.2.1.1), ((fun k => match k with | 15 => u.1 15 | 18 => u.1 18 | 23 => u.1 23 | 24 => u.1 24 | k => j.1 k), (fun k => match k with | 12 => u.2 12 | 13 => u.2 13 | 14 => u.2 14 | 16 => u.2 16 | 17 => u.2 17 | 19 => u.2 19 | 20 => u.2 20 | 21 => u.2 21 | 22 => u.2 22 | 25 => u.2 25 | 26 => u.2 26 | 27 => u.2 27 | 28 => u.2 28 | 29 => u.2 29 | 30 => u.2 30 | 31 => u.2 31 | 32 => u.2 32 | k => j.2 k))) ∧ (r = ftWfA w ∧ True)) r2 q9) : ftSt2 (n + 1) c9 q9 := by
  obtain ⟨u, rfl, -, hnc⟩ := hc
  obtain ⟨u2, rfl, -⟩ := hq
  exact ⟨ftR2_up (f := 0) hR rfl ⟨Or.inl rfl, fun q => absurd rfl q, hnc⟩ rfl rfl hR.2.2.2.2.2.1, rfl, rfl, rfl⟩
set_option maxHeartbeats 4000000 in
set_option maxRecDepth 100000 in
theorem st_keep {n : Nat} {c : ftCdT} {w z : Nat → Int32} {j : ftRD} (hR : ftR2 n c w z) {r1 r2 : Int32} {c9 : ftCdT} {q9 : ftRR} (hc : (fun (r : Int32) (c9 : ftCdT) => ∃ u : ftSd × ftUm × (Nat → Int32) × (Nat → Int32), c9 = (ftFlS u.1 0, u.2.1, c.2.2.1, fun k => match k with | 1 => u.2.2.1 | 2 => u.2.2.2 | k => c.2.2.2 k) ∧ (r = nI (ftKk w + 1) ∧ (u.1 = ftKeS (ftBg c.1)) ∧ (ftMs w u.2.1) ∧ (ftNc u.2.1) ∧ (u.2.2.1 = ftSeg (u.2.1.2.2.1 8) (c.2.2.2 1) ((c.1.1 1 % 8) * 460) (ftCL w + 60)) ∧ (u.2.2.2 = upd (c.2.2.2 2) (c.1.1 1 % 8) (nI (ftCL w + 60))))) r1 c9) (hq : (fun (r : Int32) (q9 : ftRR) => ∃ u : (Nat → Int32) × (Nat → Nat → Int32), q9 = ((ftKeep w, ftPush w z ((c.1.1 3)), c.2.2.1.2.1), (min ((c.1.1 3) + 1) 5, c.2.2.1.1), ((fun k => match k with | 15 => u.1 15 | 18 => u.1 18 | k => j.1 k), (fun k => match k with | 12 => u.2 12 | 13 => u.2 13 | 14 => u.2 14 | 16 => u.2 16 | 17 => u.2 17 | 19 => u.2 19 | 20 => u.2 20 | 21 => u.2 21 | 22 => u.2 22 | k => j.2 k))) ∧ (r = nI (ftKk w + 1) ∧ True)) r2 q9) : ftSt2 (n + 1) c9 q9 := by
  obtain ⟨⟨s1, m1, k1, z1⟩, rfl, -, hu0, hms, hnc, hks0, hkz0⟩ := hc
  obtain ⟨u2, rfl, -⟩ := hq
  have hu : s1 = ftKeS (ftBg c.1) := hu0
  have hks : k1 = ftSeg (m1.2.2.1 8) (c.2.2.2 1) ((c.1.1 1 % 8) * 460) (ftCL w + 60) := hks0
  have hkz : z1 = upd (c.2.2.2 2) (c.1.1 1 % 8) (nI (ftCL w + 60)) := hkz0
  clear hu0 hks0 hkz0
  subst hu
  subst hks
  subst hkz
  obtain ⟨g1, g6, g7, g8, g9, g10, g11, g12⟩ := hR
  have hln := ftWf_ln g1.1
  refine ⟨⟨?_, ⟨Or.inl rfl, fun q => absurd rfl q, hnc⟩, Nat.succ_le_succ g7, Nat.mod_lt _ (by omega), Nat.min_le_right _ _, g10, ?_, ?_⟩, rfl, rfl, rfl⟩
  · exact ftSR_kept g1 (ftCV_0 g1.1) (fun x hx => (hms.2.1 x hx).2.2.2)
  · intro m hm9
    have q := ftBg_HR g1 g11 g8 g9 m hm9
    have q2 := ftKC_near g8 g9 g12 hm9
    exact ftSR_keep (K := c.1.1 1) (N := ftCL w + 60) (g := m1.2.2.1 8) (x := nI (ftCL w + 60)) q q2.1 q2.2 (by omega)
  · exact ftKC_bg g8 g9 g12 (fun m => rfl) (Nat.le_succ _) (Nat.le_refl _)
set_option maxHeartbeats 4000000 in
set_option maxRecDepth 100000 in
theorem st_compare {n : Nat} {c : ftCdT} {w z : Nat → Int32} {j : ftRD} {p0 p1 p2 : Int32} (hR : ftR2 n c w z) {r1 r2 : Int32} {c9 : ftCdT} {q9 : ftRR} (hc : (fun (r : Int32) (c9 : ftCdT) => ∃ u : Int32 × ftUm × ftCm, c9 = (ftFlS c.1 u.1, u.2.1, c.2.2.1, fun k => match k with | 0 => (fun j => match j with | 0 => u.2.2.1 | 1 => u.2.2.2.1 | 2 => u.2.2.2.2.1 | _ => u.2.2.2.2.2) | k => c.2.2.2 k) ∧ (r = ftCmA w p0 p1 p2 ∧ (ftMi w u.1 u.2.1))) r1 c9) (hq : (fun (r : Int32) (q9 : ftRR) => ∃ u : (Nat → Int32) × (Nat → Nat → Int32), q9 = ((w, z, c.2.2.1.2.1), ((c.1.1 3), c.2.2.1.1), ((fun k => match k with | 15 => u.1 15 | 18 => u.1 18 | k => j.1 k), (fun k => match k with | 12 => u.2 12 | 13 => u.2 13 | 14 => u.2 14 | 16 => u.2 16 | 17 => u.2 17 | 19 => u.2 19 | 20 => u.2 20 | 21 => u.2 21 | 22 => u.2 22 | k => j.2 k))) ∧ (r = ftCmA w p0 p1 p2 ∧ True)) r2 q9) : ftSt2 (n + 1) c9 q9 := by
  obtain ⟨u, rfl, -, hmi⟩ := hc
  obtain ⟨u2, rfl, -⟩ := hq
  exact ⟨ftR2_up (f := u.1) hR rfl hmi rfl rfl hR.2.2.2.2.2.1, rfl, rfl, rfl⟩
