set_option maxHeartbeats 4000000 in
set_option maxRecDepth 100000 in
theorem eo_fault (l : Launch) (D : va_G) (cI cS : ClassId) (sz : Nat) (sK sV : Nat → Nat) (o0 : Nat) (A : Nat → Nat → Nat) (c : ftCdT) (k : Nat) (w z : Nat → Int32) (hn : Nat) (tx : Nat → Int32) (tn : Nat) (p0 : Int32) (hk : k < 900) (hO : lxO k c w z hn tx tn) : Met l yX10_fault wsX10_fault ({ frames := 9, cells := 0, slots := 0, locals := 207 }) (ftRWS D cI cS sK sV [.ref o0, .int p0] (ftCB9 cI cS o0 A (c.1.2.1 0) c) sz) (ftXi D (ftCB9 cI cS o0 A (c.1.2.1 0) c) sz (fun (r : Int32) (c9 : ftCdT) => ((¬ (0 ≤ p0 ∧ p0 ≤ 2) → r = -1000001) ∧ ((0 ≤ p0 ∧ p0 ≤ 2) → ¬ ftCPar tx tn = none → r = -1000004) ∧ ((0 ≤ p0 ∧ p0 ≤ 2) → ftCPar tx tn = none → ∃ rs pl nu, ftFx tx tn rs pl nu ∧ r = if p0 = 0 then pl else if p0 = 1 then rs else nu)) ∧ lxO k c9 w z hn (tx) (tn)) (fun c9 => ftCB9 cI cS o0 A (c9.1.2.1 0) c9)) 0 0 (va_A (ftCB9 cI cS o0 A (c.1.2.1 0) c) sz) := by
  obtain ⟨hR, h1, h2, h3⟩ := hO
  subst h1
  subst h2
  subst h3
  refine ft_post (b_X10_fault l D cI cS sz sK sV o0 A k (by omega) c w (c.1.1 3) p0 (ftR2_cr hR)) (fun r c9 hc => ?_)
  obtain ⟨u, rfl, e, f1, f2, f3⟩ := hc
  subst e
  exact ⟨⟨f1, f2, f3⟩, ⟨hR.1, hR.2.1, hR.2.2.1, hR.2.2.2.1, hR.2.2.2.2.1, hR.2.2.2.2.2.1, hR.2.2.2.2.2.2⟩, rfl, rfl, rfl⟩
set_option maxHeartbeats 4000000 in
set_option maxRecDepth 100000 in
theorem eo_count (l : Launch) (D : va_G) (cI cS : ClassId) (sz : Nat) (sK sV : Nat → Nat) (o0 : Nat) (A : Nat → Nat → Nat) (c : ftCdT) (k : Nat) (w z : Nat → Int32) (hn : Nat) (tx : Nat → Int32) (tn : Nat) (p0 : Int32) (hk : k < 900) (hO : lxO k c w z hn tx tn) : Met l yX10_count wsX10_count ({ frames := 2, cells := 0, slots := 0, locals := 50 }) (ftRWS D cI cS sK sV [.ref o0, .int p0] (ftCB9 cI cS o0 A (c.1.2.1 0) c) sz) (ftXi D (ftCB9 cI cS o0 A (c.1.2.1 0) c) sz (fun (r : Int32) (c9 : ftCdT) => (r = ftCntA w hn tn p0) ∧ lxO k c9 w z hn (tx) (tn)) (fun c9 => ftCB9 cI cS o0 A (c9.1.2.1 0) c9)) 0 0 (va_A (ftCB9 cI cS o0 A (c.1.2.1 0) c) sz) := by
  obtain ⟨hR, h1, h2, h3⟩ := hO
  subst h1
  subst h2
  subst h3
  refine ft_post (b_X10_count l D cI cS sz sK sV o0 A k (by omega) c w (c.1.1 3) p0 (ftR2_cr hR)) (fun r c9 hc => ?_)
  obtain ⟨_, rfl, e⟩ := hc
  exact ⟨e, ⟨hR.1, hR.2.1, hR.2.2.1, hR.2.2.2.1, hR.2.2.2.2.1, hR.2.2.2.2.2.1, hR.2.2.2.2.2.2⟩, rfl, rfl, rfl⟩
set_option maxHeartbeats 4000000 in
set_option maxRecDepth 100000 in
theorem eo_lineLoss (l : Launch) (D : va_G) (cI cS : ClassId) (sz : Nat) (sK sV : Nat → Nat) (o0 : Nat) (A : Nat → Nat → Nat) (c : ftCdT) (k : Nat) (w z : Nat → Int32) (hn : Nat) (tx : Nat → Int32) (tn : Nat) (p0 : Int32) (hk : k < 900) (hO : lxO k c w z hn tx tn) : Met l yX10_lineLoss wsX10_lineLoss ({ frames := 3, cells := 0, slots := 0, locals := 69 }) (ftRWS D cI cS sK sV [.ref o0, .int p0] (ftCB9 cI cS o0 A (c.1.2.1 0) c) sz) (ftXi D (ftCB9 cI cS o0 A (c.1.2.1 0) c) sz (fun (r : Int32) (c9 : ftCdT) => (r = ftLlA w p0) ∧ lxO k c9 w z hn (tx) (tn)) (fun c9 => ftCB9 cI cS o0 A (c9.1.2.1 0) c9)) 0 0 (va_A (ftCB9 cI cS o0 A (c.1.2.1 0) c) sz) := by
  obtain ⟨hR, h1, h2, h3⟩ := hO
  subst h1
  subst h2
  subst h3
  refine ft_post (b_X10_lineLoss l D cI cS sz sK sV o0 A k (by omega) c w (c.1.1 3) p0 (ftR2_cr hR)) (fun r c9 hc => ?_)
  obtain ⟨_, rfl, e⟩ := hc
  exact ⟨e, ⟨hR.1, hR.2.1, hR.2.2.1, hR.2.2.2.1, hR.2.2.2.2.1, hR.2.2.2.2.2.1, hR.2.2.2.2.2.2⟩, rfl, rfl, rfl⟩
set_option maxHeartbeats 4000000 in
set_option maxRecDepth 100000 in
theorem eo_part (l : Launch) (D : va_G) (cI cS : ClassId) (sz : Nat) (sK sV : Nat → Nat) (o0 : Nat) (A : Nat → Nat → Nat) (c : ftCdT) (k : Nat) (w z : Nat → Int32) (hn : Nat) (tx : Nat → Int32) (tn : Nat) (p0 : Int32) (p1 : Int32) (hk : k < 900) (hO : lxO k c w z hn tx tn) : Met l yX10_part wsX10_part ({ frames := 6, cells := 0, slots := 0, locals := 150 }) (ftRWS D cI cS sK sV [.ref o0, .int p0, .int p1] (ftCB9 cI cS o0 A (c.1.2.1 0) c) sz) (ftXi D (ftCB9 cI cS o0 A (c.1.2.1 0) c) sz (fun (r : Int32) (c9 : ftCdT) => (r = ftPtA w p0 p1) ∧ lxO k c9 w z hn (tx) (tn)) (fun c9 => ftCB9 cI cS o0 A (c9.1.2.1 0) c9)) 0 0 (va_A (ftCB9 cI cS o0 A (c.1.2.1 0) c) sz) := by
  obtain ⟨hR, h1, h2, h3⟩ := hO
  subst h1
  subst h2
  subst h3
  refine ft_post (b_X10_part l D cI cS sz sK sV o0 A k (by omega) c w (c.1.1 3) p0 p1 (ftR2_cr hR)) (fun r c9 hc => ?_)
  obtain ⟨u, rfl, e, hmi⟩ := hc
  have hs := ftR2_up (c' := (ftFlS c.1 u.1, u.2, c.2.2)) (f := u.1) hR rfl hmi rfl rfl hR.2.2.2.2.2.1
  exact ⟨e, lx_R2k hs (show c.1.1 1 ≤ k from hR.2.2.1), rfl, rfl, rfl⟩
set_option maxHeartbeats 4000000 in
set_option maxRecDepth 100000 in
theorem eo_sample (l : Launch) (D : va_G) (cI cS : ClassId) (sz : Nat) (sK sV : Nat → Nat) (o0 : Nat) (A : Nat → Nat → Nat) (c : ftCdT) (k : Nat) (w z : Nat → Int32) (hn : Nat) (tx : Nat → Int32) (tn : Nat) (p0 : Int32) (p1 : Int32) (hk : k < 900) (hO : lxO k c w z hn tx tn) : Met l yX10_sample wsX10_sample ({ frames := 6, cells := 0, slots := 0, locals := 150 }) (ftRWS D cI cS sK sV [.ref o0, .int p0, .int p1] (ftCB9 cI cS o0 A (c.1.2.1 0) c) sz) (ftXi D (ftCB9 cI cS o0 A (c.1.2.1 0) c) sz (fun (r : Int32) (c9 : ftCdT) => (r = ftSmA w p0 p1) ∧ lxO k c9 w z hn (tx) (tn)) (fun c9 => ftCB9 cI cS o0 A (c9.1.2.1 0) c9)) 0 0 (va_A (ftCB9 cI cS o0 A (c.1.2.1 0) c) sz) := by
  obtain ⟨hR, h1, h2, h3⟩ := hO
  subst h1
  subst h2
  subst h3
  refine ft_post (b_X10_sample l D cI cS sz sK sV o0 A k (by omega) c w (c.1.1 3) p0 p1 (ftR2_cr hR)) (fun r c9 hc => ?_)
  obtain ⟨u, rfl, e, hmi⟩ := hc
  have hs := ftR2_up (c' := (ftFlS c.1 u.1, u.2, c.2.2)) (f := u.1) hR rfl hmi rfl rfl hR.2.2.2.2.2.1
  exact ⟨e, lx_R2k hs (show c.1.1 1 ≤ k from hR.2.2.1), rfl, rfl, rfl⟩
set_option maxHeartbeats 4000000 in
set_option maxRecDepth 100000 in
theorem eo_total (l : Launch) (D : va_G) (cI cS : ClassId) (sz : Nat) (sK sV : Nat → Nat) (o0 : Nat) (A : Nat → Nat → Nat) (c : ftCdT) (k : Nat) (w z : Nat → Int32) (hn : Nat) (tx : Nat → Int32) (tn : Nat) (p0 : Int32) (hk : k < 900) (hO : lxO k c w z hn tx tn) : Met l yX10_total wsX10_total ({ frames := 6, cells := 0, slots := 0, locals := 150 }) (ftRWS D cI cS sK sV [.ref o0, .int p0] (ftCB9 cI cS o0 A (c.1.2.1 0) c) sz) (ftXi D (ftCB9 cI cS o0 A (c.1.2.1 0) c) sz (fun (r : Int32) (c9 : ftCdT) => (r = ftToA w p0) ∧ lxO k c9 w z hn (tx) (tn)) (fun c9 => ftCB9 cI cS o0 A (c9.1.2.1 0) c9)) 0 0 (va_A (ftCB9 cI cS o0 A (c.1.2.1 0) c) sz) := by
  obtain ⟨hR, h1, h2, h3⟩ := hO
  subst h1
  subst h2
  subst h3
  refine ft_post (b_X10_total l D cI cS sz sK sV o0 A k (by omega) c w (c.1.1 3) p0 (ftR2_cr hR)) (fun r c9 hc => ?_)
  obtain ⟨u, rfl, e, hmi⟩ := hc
  have hs := ftR2_up (c' := (ftFlS c.1 u.1, u.2, c.2.2)) (f := u.1) hR rfl hmi rfl rfl hR.2.2.2.2.2.1
  exact ⟨e, lx_R2k hs (show c.1.1 1 ≤ k from hR.2.2.1), rfl, rfl, rfl⟩
set_option maxHeartbeats 4000000 in
set_option maxRecDepth 100000 in
theorem eo_compare (l : Launch) (D : va_G) (cI cS : ClassId) (sz : Nat) (sK sV : Nat → Nat) (o0 : Nat) (A : Nat → Nat → Nat) (c : ftCdT) (k : Nat) (w z : Nat → Int32) (hn : Nat) (tx : Nat → Int32) (tn : Nat) (p0 : Int32) (p1 : Int32) (p2 : Int32) (hk : k < 900) (hO : lxO k c w z hn tx tn) : Met l yX10_compare wsX10_compare ({ frames := 6, cells := 0, slots := 0, locals := 150 }) (ftRWS D cI cS sK sV [.ref o0, .int p0, .int p1, .int p2] (ftCB9 cI cS o0 A (c.1.2.1 0) c) sz) (ftXi D (ftCB9 cI cS o0 A (c.1.2.1 0) c) sz (fun (r : Int32) (c9 : ftCdT) => (r = ftCmA w p0 p1 p2) ∧ lxO k c9 w z hn (tx) (tn)) (fun c9 => ftCB9 cI cS o0 A (c9.1.2.1 0) c9)) 0 0 (va_A (ftCB9 cI cS o0 A (c.1.2.1 0) c) sz) := by
  obtain ⟨hR, h1, h2, h3⟩ := hO
  subst h1
  subst h2
  subst h3
  refine ft_post (b_X10_compare l D cI cS sz sK sV o0 A k (by omega) c w (c.1.1 3) p0 p1 p2 (ftR2_cr hR)) (fun r c9 hc => ?_)
  obtain ⟨u, rfl, e, hmi⟩ := hc
  have hs := ftR2_up (c' := (ftFlS c.1 u.1, u.2.1, c.2.2.1, fun k => match k with | 0 => (fun j => match j with | 0 => u.2.2.1 | 1 => u.2.2.2.1 | 2 => u.2.2.2.2.1 | _ => u.2.2.2.2.2) | k => c.2.2.2 k)) (f := u.1) hR rfl hmi rfl rfl hR.2.2.2.2.2.1
  exact ⟨e, lx_R2k hs (show c.1.1 1 ≤ k from hR.2.2.1), rfl, rfl, rfl⟩
set_option maxHeartbeats 4000000 in
set_option maxRecDepth 100000 in
theorem eo_addPart (l : Launch) (D : va_G) (cI cS : ClassId) (sz : Nat) (sK sV : Nat → Nat) (o0 : Nat) (A : Nat → Nat → Nat) (c : ftCdT) (k : Nat) (w z : Nat → Int32) (hn : Nat) (tx : Nat → Int32) (tn : Nat) (p0 : Int32) (p1 : Int32) (p2 : Int32) (p3 : Int32) (hk : k < 900) (hO : lxO k c w z hn tx tn) (hC : ftAdC w p0 p1 p2 p3) : Met l yX10_addPart wsX10_addPart ({ frames := 5, cells := 0, slots := 0, locals := 114 }) (ftRWS D cI cS sK sV [.ref o0, .int p0, .int p1, .int p2, .int p3] (ftCB9 cI cS o0 A (c.1.2.1 0) c) sz) (ftXi D (ftCB9 cI cS o0 A (c.1.2.1 0) c) sz (fun (r : Int32) (c9 : ftCdT) => (r = nI (ftPosW w p1 (ftCN w))) ∧ lxO (k) c9 (ftAdd w (ftCN w) p0 p1 p2 p3) (ftPush w z hn) (min (hn + 1) 5) tx tn) (fun c9 => ftCB9 cI cS o0 A (c9.1.2.1 0) c9)) 0 0 (va_A (ftCB9 cI cS o0 A (c.1.2.1 0) c) sz) := by
  obtain ⟨hR, h1, h2, h3⟩ := hO
  subst h1
  subst h2
  subst h3
  refine ft_post (b_X10_addPart l D cI cS sz sK sV o0 A k (by omega) c w (c.1.1 3) p0 p1 p2 p3 (ftR2_cr hR)) (fun r c9 hc => ?_)
  have hs := st_addPart (j := ftJ9) hR hc ⟨(), rfl, rfl⟩
  obtain ⟨u, rfl, e, hu⟩ := hc
  have hs1 := hs.1
  have hs2 := hs.2.2.1
  dsimp only at hs1 hs2
  rw [ftCh_t hC, ftCh_t hC] at hs1
  rw [ftCh_t hC] at hs2
  rw [ftAdA, ftIte_t hC.1, ftIte_t hC.2.1, ftIte_f hC.2.2] at e
  exact ⟨e, lx_R2k hs1 (by show u.1 1 ≤ k; rw [hu, ftCh_t hC]; exact hR.2.2.1), hs2.symm, rfl, rfl⟩
set_option maxHeartbeats 4000000 in
set_option maxRecDepth 100000 in
theorem eo_addPartN (l : Launch) (D : va_G) (cI cS : ClassId) (sz : Nat) (sK sV : Nat → Nat) (o0 : Nat) (A : Nat → Nat → Nat) (c : ftCdT) (k : Nat) (w z : Nat → Int32) (hn : Nat) (tx : Nat → Int32) (tn : Nat) (p0 : Int32) (p1 : Int32) (p2 : Int32) (p3 : Int32) (hk : k < 900) (hO : lxO k c w z hn tx tn) (hC : ¬ ftAdC w p0 p1 p2 p3) : Met l yX10_addPart wsX10_addPart ({ frames := 5, cells := 0, slots := 0, locals := 114 }) (ftRWS D cI cS sK sV [.ref o0, .int p0, .int p1, .int p2, .int p3] (ftCB9 cI cS o0 A (c.1.2.1 0) c) sz) (ftXi D (ftCB9 cI cS o0 A (c.1.2.1 0) c) sz (fun (r : Int32) (c9 : ftCdT) => (r = ftAdA w p0 p1 p2 p3) ∧ lxO (k) c9 (w) (z) (hn) tx tn) (fun c9 => ftCB9 cI cS o0 A (c9.1.2.1 0) c9)) 0 0 (va_A (ftCB9 cI cS o0 A (c.1.2.1 0) c) sz) := by
  obtain ⟨hR, h1, h2, h3⟩ := hO
  subst h1
  subst h2
  subst h3
  refine ft_post (b_X10_addPart l D cI cS sz sK sV o0 A k (by omega) c w (c.1.1 3) p0 p1 p2 p3 (ftR2_cr hR)) (fun r c9 hc => ?_)
  have hs := st_addPart (j := ftJ9) hR hc ⟨(), rfl, rfl⟩
  obtain ⟨u, rfl, e, hu⟩ := hc
  have hs1 := hs.1
  have hs2 := hs.2.2.1
  dsimp only at hs1 hs2
  rw [ftCh_f hC, ftCh_f hC] at hs1
  rw [ftCh_f hC] at hs2
  skip
  exact ⟨e, lx_R2k hs1 (by show u.1 1 ≤ k; rw [hu, ftCh_f hC]; exact hR.2.2.1), hs2.symm, rfl, rfl⟩
set_option maxHeartbeats 4000000 in
set_option maxRecDepth 100000 in
theorem eo_removePart (l : Launch) (D : va_G) (cI cS : ClassId) (sz : Nat) (sK sV : Nat → Nat) (o0 : Nat) (A : Nat → Nat → Nat) (c : ftCdT) (k : Nat) (w z : Nat → Int32) (hn : Nat) (tx : Nat → Int32) (tn : Nat) (p0 : Int32) (hk : k < 900) (hO : lxO k c w z hn tx tn) (hC : ftRmC w p0) : Met l yX10_removePart wsX10_removePart ({ frames := 5, cells := 0, slots := 0, locals := 114 }) (ftRWS D cI cS sK sV [.ref o0, .int p0] (ftCB9 cI cS o0 A (c.1.2.1 0) c) sz) (ftXi D (ftCB9 cI cS o0 A (c.1.2.1 0) c) sz (fun (r : Int32) (c9 : ftCdT) => (r = nI (ftCN w - 1) ∧ c9.1.2.1 3 = 0) ∧ lxO (k) c9 (ftDel w p0.toNatClampNeg) (ftPush w z hn) (min (hn + 1) 5) tx tn) (fun c9 => ftCB9 cI cS o0 A (c9.1.2.1 0) c9)) 0 0 (va_A (ftCB9 cI cS o0 A (c.1.2.1 0) c) sz) := by
  obtain ⟨hR, h1, h2, h3⟩ := hO
  subst h1
  subst h2
  subst h3
  refine ft_post (b_X10_removePart l D cI cS sz sK sV o0 A k (by omega) c w (c.1.1 3) p0 (ftR2_cr hR)) (fun r c9 hc => ?_)
  have hs := st_removePart (j := ftJ9) hR hc ⟨(), rfl, rfl⟩
  obtain ⟨u, rfl, e, hu⟩ := hc
  have hs1 := hs.1
  have hs2 := hs.2.2.1
  dsimp only at hs1 hs2
  rw [ftCh_t hC, ftCh_t hC] at hs1
  rw [ftCh_t hC] at hs2
  rw [ftIte_t hC] at e
  exact ⟨⟨e, by show u.2.1 3 = 0; rw [hu, ftCh_t hC]; rfl⟩, lx_R2k hs1 (by show u.1 1 ≤ k; rw [hu, ftCh_t hC]; exact hR.2.2.1), hs2.symm, rfl, rfl⟩
set_option maxHeartbeats 4000000 in
set_option maxRecDepth 100000 in
theorem eo_removePartN (l : Launch) (D : va_G) (cI cS : ClassId) (sz : Nat) (sK sV : Nat → Nat) (o0 : Nat) (A : Nat → Nat → Nat) (c : ftCdT) (k : Nat) (w z : Nat → Int32) (hn : Nat) (tx : Nat → Int32) (tn : Nat) (p0 : Int32) (hk : k < 900) (hO : lxO k c w z hn tx tn) (hC : ¬ ftRmC w p0) : Met l yX10_removePart wsX10_removePart ({ frames := 5, cells := 0, slots := 0, locals := 114 }) (ftRWS D cI cS sK sV [.ref o0, .int p0] (ftCB9 cI cS o0 A (c.1.2.1 0) c) sz) (ftXi D (ftCB9 cI cS o0 A (c.1.2.1 0) c) sz (fun (r : Int32) (c9 : ftCdT) => (r = -1000001) ∧ lxO (k) c9 (w) (z) (hn) tx tn) (fun c9 => ftCB9 cI cS o0 A (c9.1.2.1 0) c9)) 0 0 (va_A (ftCB9 cI cS o0 A (c.1.2.1 0) c) sz) := by
  obtain ⟨hR, h1, h2, h3⟩ := hO
  subst h1
  subst h2
  subst h3
  refine ft_post (b_X10_removePart l D cI cS sz sK sV o0 A k (by omega) c w (c.1.1 3) p0 (ftR2_cr hR)) (fun r c9 hc => ?_)
  have hs := st_removePart (j := ftJ9) hR hc ⟨(), rfl, rfl⟩
  obtain ⟨u, rfl, e, hu⟩ := hc
  have hs1 := hs.1
  have hs2 := hs.2.2.1
  dsimp only at hs1 hs2
  rw [ftCh_f hC, ftCh_f hC] at hs1
  rw [ftCh_f hC] at hs2
  rw [ftIte_f hC] at e
  exact ⟨e, lx_R2k hs1 (by show u.1 1 ≤ k; rw [hu, ftCh_f hC]; exact hR.2.2.1), hs2.symm, rfl, rfl⟩
set_option maxHeartbeats 4000000 in
set_option maxRecDepth 100000 in
theorem eo_set (l : Launch) (D : va_G) (cI cS : ClassId) (sz : Nat) (sK sV : Nat → Nat) (o0 : Nat) (A : Nat → Nat → Nat) (c : ftCdT) (k : Nat) (w z : Nat → Int32) (hn : Nat) (tx : Nat → Int32) (tn : Nat) (p0 : Int32) (p1 : Int32) (hk : k < 900) (hO : lxO k c w z hn tx tn) (hC : ftSetC p0 p1) : Met l yX10_set wsX10_set ({ frames := 5, cells := 0, slots := 0, locals := 114 }) (ftRWS D cI cS sK sV [.ref o0, .int p0, .int p1] (ftCB9 cI cS o0 A (c.1.2.1 0) c) sz) (ftXi D (ftCB9 cI cS o0 A (c.1.2.1 0) c) sz (fun (r : Int32) (c9 : ftCdT) => (r = w (44 + p0.toNatClampNeg)) ∧ lxO (k) c9 (upd w (44 + p0.toNatClampNeg) p1) (ftPush w z hn) (min (hn + 1) 5) tx tn) (fun c9 => ftCB9 cI cS o0 A (c9.1.2.1 0) c9)) 0 0 (va_A (ftCB9 cI cS o0 A (c.1.2.1 0) c) sz) := by
  obtain ⟨hR, h1, h2, h3⟩ := hO
  subst h1
  subst h2
  subst h3
  refine ft_post (b_X10_set l D cI cS sz sK sV o0 A k (by omega) c w (c.1.1 3) p0 p1 (ftR2_cr hR)) (fun r c9 hc => ?_)
  have hs := st_set (j := ftJ9) hR hc ⟨(), rfl, rfl⟩
  obtain ⟨u, rfl, e, hu⟩ := hc
  have hs1 := hs.1
  have hs2 := hs.2.2.1
  dsimp only at hs1 hs2
  rw [ftCh_t hC, ftCh_t hC] at hs1
  rw [ftCh_t hC] at hs2
  rw [ftIte_t hC] at e
  exact ⟨e, lx_R2k hs1 (by show u.1 1 ≤ k; rw [hu, ftCh_t hC]; exact hR.2.2.1), hs2.symm, rfl, rfl⟩
set_option maxHeartbeats 4000000 in
set_option maxRecDepth 100000 in
theorem eo_undo (l : Launch) (D : va_G) (cI cS : ClassId) (sz : Nat) (sK sV : Nat → Nat) (o0 : Nat) (A : Nat → Nat → Nat) (c : ftCdT) (k : Nat) (w z : Nat → Int32) (hn : Nat) (tx : Nat → Int32) (tn : Nat) (hk : k < 900) (hO : lxO k c w z hn tx tn) (h0 : ¬ hn = 0) : Met l yX10_undo wsX10_undo ({ frames := 4, cells := 0, slots := 0, locals := 94 }) (ftRWS D cI cS sK sV [.ref o0] (ftCB9 cI cS o0 A (c.1.2.1 0) c) sz) (ftXi D (ftCB9 cI cS o0 A (c.1.2.1 0) c) sz (fun (r : Int32) (c9 : ftCdT) => (r = nI (hn - 1)) ∧ lxO (k) c9 (ftFill (fun t => z ((hn - 1) * 1439 + t)) w 1439) (z) (hn - 1) tx tn) (fun c9 => ftCB9 cI cS o0 A (c9.1.2.1 0) c9)) 0 0 (va_A (ftCB9 cI cS o0 A (c.1.2.1 0) c) sz) := by
  obtain ⟨hR, h1, h2, h3⟩ := hO
  subst h1
  subst h2
  subst h3
  refine ft_post (b_X10_undo l D cI cS sz sK sV o0 A k (by omega) c w (c.1.1 3) (ftR2_cr hR)) (fun r c9 hc => ?_)
  have hs := st_undo (j := ftJ9) hR hc ⟨(), rfl, rfl⟩
  obtain ⟨u, rfl, e, hu⟩ := hc
  have hs1 := hs.1
  dsimp only at hs1
  rw [if_neg h0] at hs1 e
  obtain ⟨g1, g6, g7, g8, g9, g10, g11, g12⟩ := hR
  exact ⟨e, lx_R2k hs1 (by show u.1 1 ≤ k; rw [hu, ftCh_t h0]; exact Nat.le_trans (ftUn_ke g12 g8 g9 (Nat.pos_of_ne_zero h0)) g7), hs.2.2.1.symm, rfl, rfl⟩
set_option maxHeartbeats 4000000 in
set_option maxRecDepth 100000 in
theorem eo_undoN (l : Launch) (D : va_G) (cI cS : ClassId) (sz : Nat) (sK sV : Nat → Nat) (o0 : Nat) (A : Nat → Nat → Nat) (c : ftCdT) (k : Nat) (w z : Nat → Int32) (hn : Nat) (tx : Nat → Int32) (tn : Nat) (hk : k < 900) (hO : lxO k c w z hn tx tn) (h0 : hn = 0) : Met l yX10_undo wsX10_undo ({ frames := 4, cells := 0, slots := 0, locals := 94 }) (ftRWS D cI cS sK sV [.ref o0] (ftCB9 cI cS o0 A (c.1.2.1 0) c) sz) (ftXi D (ftCB9 cI cS o0 A (c.1.2.1 0) c) sz (fun (r : Int32) (c9 : ftCdT) => (r = -1000002) ∧ lxO (k) c9 (w) (z) (hn) tx tn) (fun c9 => ftCB9 cI cS o0 A (c9.1.2.1 0) c9)) 0 0 (va_A (ftCB9 cI cS o0 A (c.1.2.1 0) c) sz) := by
  obtain ⟨hR, h1, h2, h3⟩ := hO
  subst h1
  subst h2
  subst h3
  refine ft_post (b_X10_undo l D cI cS sz sK sV o0 A k (by omega) c w (c.1.1 3) (ftR2_cr hR)) (fun r c9 hc => ?_)
  have hs := st_undo (j := ftJ9) hR hc ⟨(), rfl, rfl⟩
  obtain ⟨u, rfl, e, hu⟩ := hc
  have hs1 := hs.1
  have hs2 := hs.2.2.1
  dsimp only at hs1 hs2
  rw [if_pos h0] at hs1 e
  exact ⟨e, lx_R2k hs1 (by show u.1 1 ≤ k; rw [hu, ftCh_f (fun q => q h0)]; exact hR.2.2.1), by rw [← hs2]; omega, rfl, rfl⟩
set_option maxHeartbeats 4000000 in
set_option maxRecDepth 100000 in
theorem eo_lay (l : Launch) (D : va_G) (cI cS : ClassId) (sz : Nat) (sK sV : Nat → Nat) (o0 : Nat) (A : Nat → Nat → Nat) (c : ftCdT) (k : Nat) (w z : Nat → Int32) (hn : Nat) (tx : Nat → Int32) (tn : Nat) (hk : k < 900) (hO : lxO k c w z hn tx tn) {m : Nat → Int32} (hm : ftCPar tx tn = some m) : Met l yX10_lay wsX10_lay ({ frames := 9, cells := 0, slots := 0, locals := 207 }) (ftRWS D cI cS sK sV [.ref o0] (ftCB9 cI cS o0 A (c.1.2.1 0) c) sz) (ftXi D (ftCB9 cI cS o0 A (c.1.2.1 0) c) sz (fun (r : Int32) (c9 : ftCdT) => (r = nI (ftCN m)) ∧ lxO (k) c9 (ftLayW w m) (ftPush w z hn) (min (hn + 1) 5) tx tn) (fun c9 => ftCB9 cI cS o0 A (c9.1.2.1 0) c9)) 0 0 (va_A (ftCB9 cI cS o0 A (c.1.2.1 0) c) sz) := by
  obtain ⟨hR, h1, h2, h3⟩ := hO
  subst h1
  subst h2
  subst h3
  refine ft_post (b_X10_lay l D cI cS sz sK sV o0 A k (by omega) c w (c.1.1 3) (ftR2_cr hR)) (fun r c9 hc => ?_)
  have hs := st_lay (j := ftJ9) hR hc ⟨(fun _ => 0, fun _ _ => 0), rfl, rfl, trivial⟩
  obtain ⟨u, rfl, e, hu, -⟩ := hc
  have hC : ¬ ftCPar c.2.2.1.2.1 c.2.2.1.1 = none := by rw [hm]; exact (fun q => by cases q)
  have hs1 := hs.1
  have hs2 := hs.2.2.1
  dsimp only at hs1 hs2
  rw [ftCh_t hC, ftCh_t hC] at hs1
  rw [ftCh_t hC] at hs2
  rw [ftCPm_of hm] at hs1
  rw [ftIte_t hC, ftCPm_of hm] at e
  exact ⟨e, lx_R2k hs1 (by show u.1.1 1 ≤ k; rw [hu, ftCh_t hC]; exact hR.2.2.1), hs2.symm, rfl, rfl⟩
set_option maxHeartbeats 4000000 in
set_option maxRecDepth 100000 in
theorem eo_layN (l : Launch) (D : va_G) (cI cS : ClassId) (sz : Nat) (sK sV : Nat → Nat) (o0 : Nat) (A : Nat → Nat → Nat) (c : ftCdT) (k : Nat) (w z : Nat → Int32) (hn : Nat) (tx : Nat → Int32) (tn : Nat) (hk : k < 900) (hO : lxO k c w z hn tx tn) (hm : ftCPar tx tn = none) : Met l yX10_lay wsX10_lay ({ frames := 9, cells := 0, slots := 0, locals := 207 }) (ftRWS D cI cS sK sV [.ref o0] (ftCB9 cI cS o0 A (c.1.2.1 0) c) sz) (ftXi D (ftCB9 cI cS o0 A (c.1.2.1 0) c) sz (fun (r : Int32) (c9 : ftCdT) => (r = -1000002) ∧ lxO (k) c9 (w) (z) (hn) tx tn) (fun c9 => ftCB9 cI cS o0 A (c9.1.2.1 0) c9)) 0 0 (va_A (ftCB9 cI cS o0 A (c.1.2.1 0) c) sz) := by
  obtain ⟨hR, h1, h2, h3⟩ := hO
  subst h1
  subst h2
  subst h3
  refine ft_post (b_X10_lay l D cI cS sz sK sV o0 A k (by omega) c w (c.1.1 3) (ftR2_cr hR)) (fun r c9 hc => ?_)
  have hs := st_lay (j := ftJ9) hR hc ⟨(fun _ => 0, fun _ _ => 0), rfl, rfl, trivial⟩
  obtain ⟨u, rfl, e, hu, -⟩ := hc
  have hC : ¬ ¬ ftCPar c.2.2.1.2.1 c.2.2.1.1 = none := fun q => q hm
  have hs1 := hs.1
  have hs2 := hs.2.2.1
  dsimp only at hs1 hs2
  rw [ftCh_f hC, ftCh_f hC] at hs1
  rw [ftCh_f hC] at hs2
  rw [ftIte_f hC] at e
  exact ⟨e, lx_R2k hs1 (by show u.1.1 1 ≤ k; rw [hu, ftCh_f hC]; exact hR.2.2.1), hs2.symm, rfl, rfl⟩
set_option maxHeartbeats 4000000 in
set_option maxRecDepth 100000 in
theorem eo_keep (l : Launch) (D : va_G) (cI cS : ClassId) (sz : Nat) (sK sV : Nat → Nat) (o0 : Nat) (A : Nat → Nat → Nat) (c : ftCdT) (k : Nat) (w z : Nat → Int32) (hn : Nat) (tx : Nat → Int32) (tn : Nat) (hk : k < 900) (hO : lxO k c w z hn tx tn) : Met l yX10_keep wsX10_keep ({ frames := 6, cells := 0, slots := 0, locals := 150 }) (ftRWS D cI cS sK sV [.ref o0] (ftCB9 cI cS o0 A (c.1.2.1 0) c) sz) (ftXi D (ftCB9 cI cS o0 A (c.1.2.1 0) c) sz (fun (r : Int32) (c9 : ftCdT) => (r = nI (ftKk w + 1)) ∧ lxO (k + 1) c9 (ftKeep w) (ftPush w z hn) (min (hn + 1) 5) tx tn) (fun c9 => ftCB9 cI cS o0 A (c9.1.2.1 0) c9)) 0 0 (va_A (ftCB9 cI cS o0 A (c.1.2.1 0) c) sz) := by
  obtain ⟨hR, h1, h2, h3⟩ := hO
  subst h1
  subst h2
  subst h3
  refine ft_post (b_X10_keep l D cI cS sz sK sV o0 A k (by omega) c w (c.1.1 3) (ftR2_cr hR)) (fun r c9 hc => ?_)
  have hs := st_keep (j := ftJ9) hR hc ⟨(fun _ => 0, fun _ _ => 0), rfl, rfl, trivial⟩
  obtain ⟨u, rfl, e, -⟩ := hc
  exact ⟨e, hs.1, hs.2.2.1.symm, rfl, rfl⟩
