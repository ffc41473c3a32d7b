set_option maxHeartbeats 4000000 in
set_option maxRecDepth 100000 in
theorem et_type (l : Launch) (D : va_G) (cI cS : ClassId) (sz : Nat) (sK sV : Nat → Nat) (o0 : Nat) (A : Nat → Nat → Nat) (c : ftCdT) (p0 : Int32) (hx : 32 ≤ p0 ∧ p0 ≤ 126) (ht : c.2.2.1.1 < 120) : Met l yX10_type wsX10_type ({ frames := 2, cells := 0, slots := 0, locals := 43 }) (ftRWS D cI cS sK sV [.ref o0, .int p0] (ftCB9 cI cS o0 A (c.1.2.1 0) c) sz) (ftXi D (ftCB9 cI cS o0 A (c.1.2.1 0) c) sz (fun (r : Int32) (c9 : ftCdT) => (r = nI (c.2.2.1.1 + 1)) ∧ c9 = lxTxt c (upd c.2.2.1.2.1 c.2.2.1.1 p0) (c.2.2.1.1 + 1)) (fun c9 => ftCB9 cI cS o0 A (c9.1.2.1 0) c9)) 0 0 (va_A (ftCB9 cI cS o0 A (c.1.2.1 0) c) sz) := by
  have hb9 : Met l yX10_type wsX10_type ({ frames := 2, cells := 0, slots := 0, locals := 43 }) (ftRWS D cI cS sK sV [.ref o0, .int p0] (ftCB9 cI cS o0 A (c.1.2.1 0) c) sz) (ftXi D (ftCB9 cI cS o0 A (c.1.2.1 0) c) sz (fun (r : Int32) (c9 : ftCdT) => ∃ _u : Unit, c9 = (c.1, c.2.1, (ftTl c.2.2.1.1 p0, ftTt c.2.2.1.2.1 c.2.2.1.1 p0, c.2.2.1.2.2), c.2.2.2) ∧ r = ftIte (32 ≤ p0 ∧ p0 ≤ 126) (if (c.2.2.1.1) = 120 then -1000003 else nI ((c.2.2.1.1) + 1)) (-1000001)) (fun c9 => ftCB9 cI cS o0 A (c9.1.2.1 0) c9)) 0 0 (va_A (ftCB9 cI cS o0 A (c.1.2.1 0) c) sz) := by
    exact ft_fr (S := Unit) (n := 17) (post' := (fun (r : Int32) (c9 : ftCdT) => ∃ _u : Unit, c9 = (c.1, c.2.1, (ftTl c.2.2.1.1 p0, ftTt c.2.2.1.2.1 c.2.2.1.1 p0, c.2.2.1.2.2), c.2.2.2) ∧ r = ftIte (32 ≤ p0 ∧ p0 ≤ 126) (if (c.2.2.1.1) = 120 then -1000003 else nI ((c.2.2.1.1) + 1)) (-1000001))) (f := ftBl cI cS o0 A (c.1.2.1 0) c) (f' := fun c9 => ftBl cI cS o0 A (c9.1.2.1 0) c9) (c_X10_type l D cI cS sz o0 (A 0 0) (A 0 1) (A 0 2) (A 0 3) (A 0 4) (A 0 5) (A 0 6) (A 0 7) (A 0 8) (A 0 9) (c.1.2.1 3) (A 3 0) (A 3 1) (A 3 2) (A 3 3) (A 3 4) (A 3 5) (A 3 6) (A 3 7) (c.2.2.1.1) c.2.2.1.2.1 c.2.2.1.2.2 p0 (by omega)) (fun (_ : Unit) => (c.1, c.2.1, (ftTl c.2.2.1.1 p0, ftTt c.2.2.1.2.1 c.2.2.1.1 p0, c.2.2.1.2.2), c.2.2.2)) (fun r u h => ⟨u, rfl, h⟩) [0, 10, 11] [1, 2, 3, 4, 5, 6, 7, 8, 9, 12, 13, 14, 15, 16] (by decide +kernel) rfl (fun _ => rfl) (fun _ => rfl)
  refine ft_post hb9 (fun r c9 hc => ?_)
  obtain ⟨_, rfl, e⟩ := hc
  rw [ftIte_t hx, if_neg (by omega)] at e
  rw [ftTl_t ⟨hx, by omega⟩, ftTt_t ⟨hx, by omega⟩]
  exact ⟨e, rfl⟩
set_option maxHeartbeats 4000000 in
set_option maxRecDepth 100000 in
theorem et_typeN (l : Launch) (D : va_G) (cI cS : ClassId) (sz : Nat) (sK sV : Nat → Nat) (o0 : Nat) (A : Nat → Nat → Nat) (c : ftCdT) (p0 : Int32) (hx : ¬ (32 ≤ p0 ∧ p0 ≤ 126)) (ht : c.2.2.1.1 ≤ 120) : Met l yX10_type wsX10_type ({ frames := 2, cells := 0, slots := 0, locals := 43 }) (ftRWS D cI cS sK sV [.ref o0, .int p0] (ftCB9 cI cS o0 A (c.1.2.1 0) c) sz) (ftXi D (ftCB9 cI cS o0 A (c.1.2.1 0) c) sz (fun (r : Int32) (c9 : ftCdT) => (r = -1000001) ∧ c9 = c) (fun c9 => ftCB9 cI cS o0 A (c9.1.2.1 0) c9)) 0 0 (va_A (ftCB9 cI cS o0 A (c.1.2.1 0) c) sz) := by
  have hb9 : Met l yX10_type wsX10_type ({ frames := 2, cells := 0, slots := 0, locals := 43 }) (ftRWS D cI cS sK sV [.ref o0, .int p0] (ftCB9 cI cS o0 A (c.1.2.1 0) c) sz) (ftXi D (ftCB9 cI cS o0 A (c.1.2.1 0) c) sz (fun (r : Int32) (c9 : ftCdT) => ∃ _u : Unit, c9 = (c.1, c.2.1, (ftTl c.2.2.1.1 p0, ftTt c.2.2.1.2.1 c.2.2.1.1 p0, c.2.2.1.2.2), c.2.2.2) ∧ r = ftIte (32 ≤ p0 ∧ p0 ≤ 126) (if (c.2.2.1.1) = 120 then -1000003 else nI ((c.2.2.1.1) + 1)) (-1000001)) (fun c9 => ftCB9 cI cS o0 A (c9.1.2.1 0) c9)) 0 0 (va_A (ftCB9 cI cS o0 A (c.1.2.1 0) c) sz) := by
    exact ft_fr (S := Unit) (n := 17) (post' := (fun (r : Int32) (c9 : ftCdT) => ∃ _u : Unit, c9 = (c.1, c.2.1, (ftTl c.2.2.1.1 p0, ftTt c.2.2.1.2.1 c.2.2.1.1 p0, c.2.2.1.2.2), c.2.2.2) ∧ r = ftIte (32 ≤ p0 ∧ p0 ≤ 126) (if (c.2.2.1.1) = 120 then -1000003 else nI ((c.2.2.1.1) + 1)) (-1000001))) (f := ftBl cI cS o0 A (c.1.2.1 0) c) (f' := fun c9 => ftBl cI cS o0 A (c9.1.2.1 0) c9) (c_X10_type l D cI cS sz o0 (A 0 0) (A 0 1) (A 0 2) (A 0 3) (A 0 4) (A 0 5) (A 0 6) (A 0 7) (A 0 8) (A 0 9) (c.1.2.1 3) (A 3 0) (A 3 1) (A 3 2) (A 3 3) (A 3 4) (A 3 5) (A 3 6) (A 3 7) (c.2.2.1.1) c.2.2.1.2.1 c.2.2.1.2.2 p0 (by omega)) (fun (_ : Unit) => (c.1, c.2.1, (ftTl c.2.2.1.1 p0, ftTt c.2.2.1.2.1 c.2.2.1.1 p0, c.2.2.1.2.2), c.2.2.2)) (fun r u h => ⟨u, rfl, h⟩) [0, 10, 11] [1, 2, 3, 4, 5, 6, 7, 8, 9, 12, 13, 14, 15, 16] (by decide +kernel) rfl (fun _ => rfl) (fun _ => rfl)
  refine ft_post hb9 (fun r c9 hc => ?_)
  obtain ⟨_, rfl, e⟩ := hc
  rw [ftIte_f hx] at e
  rw [ftTl_f (fun q => hx q.1), ftTt_f (fun q => hx q.1)]
  exact ⟨e, rfl⟩
set_option maxHeartbeats 4000000 in
set_option maxRecDepth 100000 in
theorem et_clearText (l : Launch) (D : va_G) (cI cS : ClassId) (sz : Nat) (sK sV : Nat → Nat) (o0 : Nat) (A : Nat → Nat → Nat) (c : ftCdT) : Met l yX10_clearText wsX10_clearText ({ frames := 1, cells := 0, slots := 0, locals := 21 }) (ftRWS D cI cS sK sV [.ref o0] (ftCB9 cI cS o0 A (c.1.2.1 0) c) sz) (ftXi D (ftCB9 cI cS o0 A (c.1.2.1 0) c) sz (fun (r : Int32) (c9 : ftCdT) => (r = nI c.2.2.1.1) ∧ c9 = lxTxt c c.2.2.1.2.1 0) (fun c9 => ftCB9 cI cS o0 A (c9.1.2.1 0) c9)) 0 0 (va_A (ftCB9 cI cS o0 A (c.1.2.1 0) c) sz) := by
  have hb9 : Met l yX10_clearText wsX10_clearText ({ frames := 1, cells := 0, slots := 0, locals := 21 }) (ftRWS D cI cS sK sV [.ref o0] (ftCB9 cI cS o0 A (c.1.2.1 0) c) sz) (ftXi D (ftCB9 cI cS o0 A (c.1.2.1 0) c) sz (fun (r : Int32) (c9 : ftCdT) => ∃ _u : Unit, c9 = (c.1, c.2.1, (0, c.2.2.1.2.1, c.2.2.1.2.2), c.2.2.2) ∧ r = nI (c.2.2.1.1)) (fun c9 => ftCB9 cI cS o0 A (c9.1.2.1 0) c9)) 0 0 (va_A (ftCB9 cI cS o0 A (c.1.2.1 0) c) sz) := by
    exact ft_fr (S := Unit) (n := 17) (post' := (fun (r : Int32) (c9 : ftCdT) => ∃ _u : Unit, c9 = (c.1, c.2.1, (0, c.2.2.1.2.1, c.2.2.1.2.2), c.2.2.2) ∧ r = nI (c.2.2.1.1))) (f := ftBl cI cS o0 A (c.1.2.1 0) c) (f' := fun c9 => ftBl cI cS o0 A (c9.1.2.1 0) c9) (c_X10_clearText l D cI cS sz o0 (A 0 0) (A 0 1) (A 0 2) (A 0 3) (A 0 4) (A 0 5) (A 0 6) (A 0 7) (A 0 8) (A 0 9) (c.1.2.1 3) (A 3 0) (A 3 1) (A 3 2) (A 3 3) 0 0 0 0 (c.2.2.1.1) (fun _ => 0) c.2.2.1.2.2) (fun (_ : Unit) => (c.1, c.2.1, (0, c.2.2.1.2.1, c.2.2.1.2.2), c.2.2.2)) (fun r u h => ⟨u, rfl, h⟩) [0, 10] [1, 2, 3, 4, 5, 6, 7, 8, 9, 11, 12, 13, 14, 15, 16] (by decide +kernel) rfl (fun _ => rfl) (fun _ => rfl)
  refine ft_post hb9 (fun r c9 hc => ?_)
  obtain ⟨_, rfl, e⟩ := hc
  exact ⟨e, rfl⟩
set_option maxHeartbeats 4000000 in
set_option maxRecDepth 100000 in
theorem ep_lineLoss (l : Launch) (D : va_G) (cI cS : ClassId) (sz : Nat) (sK sV : Nat → Nat) (o0 : Nat) (A : Nat → Nat → Nat) (c : ftCdT) (w : Nat → Int32) (tx : Nat → Int32) (tn : Nat) (p0 : Int32) (hQ : lxQ c w tx tn) : Met l yX10_lineLoss wsX10_lineLoss ({ frames := 3, cells := 0, slots := 0, locals := 69 }) (ftRWS D cI cS sK sV [.ref o0, .int p0] (ftCB9 cI cS o0 A (c.1.2.1 0) c) sz) (ftXi D (ftCB9 cI cS o0 A (c.1.2.1 0) c) sz (fun (r : Int32) (c9 : ftCdT) => (r = ftLlA w p0) ∧ lxQ c9 (w) (tx) (tn)) (fun c9 => ftCB9 cI cS o0 A (c9.1.2.1 0) c9)) 0 0 (va_A (ftCB9 cI cS o0 A (c.1.2.1 0) c) sz) := by
  obtain ⟨⟨h1, h2, h3, h4, h9, h10, h12, hk0⟩, ht1, ht2⟩ := hQ
  subst ht1
  subst ht2
  have hln9 : c.1.2.1 0 = nI (ftCL w) := h2.1.symm.trans (ftWf_0 h1)
  have hb9 : Met l yX10_lineLoss wsX10_lineLoss ({ frames := 3, cells := 0, slots := 0, locals := 69 }) (ftRWS D cI cS sK sV [.ref o0, .int p0] (ftCB9 cI cS o0 A (c.1.2.1 0) c) sz) (ftXi D (ftCB9 cI cS o0 A (c.1.2.1 0) c) sz (fun (r : Int32) (c9 : ftCdT) => ∃ _u : Unit, c9 = c ∧ r = ftLlA w p0) (fun c9 => ftCB9 cI cS o0 A (c9.1.2.1 0) c9)) 0 0 (va_A (ftCB9 cI cS o0 A (c.1.2.1 0) c) sz) := by
    have hL9 : ftLR w (nI (ftCL w)) (c.1.2.1 1) (c.1.2.1 2) (c.1.1 0) (c.1.2.2.1 0) (c.1.2.2.1 1) (c.1.2.2.1 2) (c.1.2.2.1 3) := by rw [← hln9]; exact h2
    have hx9 : ∀ len : Int32, len = nI (ftCL w) → Met l yX10_lineLoss wsX10_lineLoss ({ frames := 3, cells := 0, slots := 0, locals := 69 }) (ftRWS D cI cS sK sV [.ref o0, .int p0] (ftCB9 cI cS o0 A len c) sz) (ftXi D (ftCB9 cI cS o0 A len c) sz (fun (r : Int32) (c9 : ftCdT) => ∃ _u : Unit, c9 = c ∧ r = ftLlA w p0) (fun c9 => ftCB9 cI cS o0 A len c9)) 0 0 (va_A (ftCB9 cI cS o0 A len c) sz) := by
      intro len hlen
      subst hlen
      exact ft_frO (n := 17) (post' := (fun (r : Int32) (c9 : ftCdT) => ∃ _u : Unit, c9 = c ∧ r = ftLlA w p0)) (f := ftBl cI cS o0 A (nI (ftCL w)) c) (f' := fun c9 => ftBl cI cS o0 A (nI (ftCL w)) c9) (c_X10_lineLoss l D cI cS o0 (A 0 0) (A 0 1) (A 0 2) (A 0 3) (A 0 4) (A 0 5) (A 0 6) (A 0 7) (A 0 8) (A 0 9) (c.1.2.1 3) (A 1 0) (A 1 5) (c.1.1 1) (ftCL w) (c.1.2.1 1) (c.1.2.1 2) (c.1.1 0) (A 1 1) (A 1 2) (A 1 3) (A 1 4) (c.1.2.2.1 0) (c.1.2.2.1 1) (c.1.2.2.1 2) (c.1.2.2.1 3) w p0 h1 hL9 (ftWf_ln h1)) [0, 1, 2, 3, 4, 5, 6] [7, 8, 9, 10, 11, 12, 13, 14, 15, 16] (by decide +kernel) rfl c ⟨(), rfl, rfl⟩ rfl
    exact ft_relen (hx9 _ hln9) (fun r c9 h => by obtain ⟨u, hc, -⟩ := h; rw [hc] <;> rfl)
  refine ft_post hb9 (fun r c9 hc => ?_)
  obtain ⟨_, rfl, e⟩ := hc
  exact ⟨e, ⟨h1, h2, h3, h4, h9, h10, h12, hk0⟩, rfl, rfl⟩
set_option maxHeartbeats 4000000 in
set_option maxRecDepth 100000 in
theorem ep_count (l : Launch) (D : va_G) (cI cS : ClassId) (sz : Nat) (sK sV : Nat → Nat) (o0 : Nat) (A : Nat → Nat → Nat) (c : ftCdT) (w : Nat → Int32) (tx : Nat → Int32) (tn : Nat) (p0 : Int32) (hQ : lxQ c w tx tn) (hj : ∃ j, 11 ≤ j ∧ j ≤ 15 ∧ p0 = nI j) : Met l yX10_count wsX10_count ({ frames := 2, cells := 0, slots := 0, locals := 50 }) (ftRWS D cI cS sK sV [.ref o0, .int p0] (ftCB9 cI cS o0 A (c.1.2.1 0) c) sz) (ftXi D (ftCB9 cI cS o0 A (c.1.2.1 0) c) sz (fun (r : Int32) (c9 : ftCdT) => (∀ a b, r = ftCntA w a b p0) ∧ c9 = c) (fun c9 => ftCB9 cI cS o0 A (c9.1.2.1 0) c9)) 0 0 (va_A (ftCB9 cI cS o0 A (c.1.2.1 0) c) sz) := by
  obtain ⟨⟨h1, h2, h3, h4, h9, h10, h12, hk0⟩, ht1, ht2⟩ := hQ
  subst ht1
  subst ht2
  have hln9 : c.1.2.1 0 = nI (ftCL w) := h2.1.symm.trans (ftWf_0 h1)
  have hb9 : Met l yX10_count wsX10_count ({ frames := 2, cells := 0, slots := 0, locals := 50 }) (ftRWS D cI cS sK sV [.ref o0, .int p0] (ftCB9 cI cS o0 A (c.1.2.1 0) c) sz) (ftXi D (ftCB9 cI cS o0 A (c.1.2.1 0) c) sz (fun (r : Int32) (c9 : ftCdT) => ∃ _u : Unit, c9 = c ∧ r = ftCntA (upd w 55 (nI (min (c.1.1 1) 3))) (c.1.1 3) (c.2.2.1.1) p0) (fun c9 => ftCB9 cI cS o0 A (c9.1.2.1 0) c9)) 0 0 (va_A (ftCB9 cI cS o0 A (c.1.2.1 0) c) sz) := by
    have hL9 : ftLR w (nI (ftCL w)) (c.1.2.1 1) (c.1.2.1 2) (c.1.1 0) (c.1.2.2.1 0) (c.1.2.2.1 1) (c.1.2.2.1 2) (c.1.2.2.1 3) := by rw [← hln9]; exact h2
    have hx9 : ∀ len : Int32, len = nI (ftCL w) → Met l yX10_count wsX10_count ({ frames := 2, cells := 0, slots := 0, locals := 50 }) (ftRWS D cI cS sK sV [.ref o0, .int p0] (ftCB9 cI cS o0 A len c) sz) (ftXi D (ftCB9 cI cS o0 A len c) sz (fun (r : Int32) (c9 : ftCdT) => ∃ _u : Unit, c9 = c ∧ r = ftCntA (upd w 55 (nI (min (c.1.1 1) 3))) (c.1.1 3) (c.2.2.1.1) p0) (fun c9 => ftCB9 cI cS o0 A len c9)) 0 0 (va_A (ftCB9 cI cS o0 A len c) sz) := by
      intro len hlen
      subst hlen
      exact ft_frO (n := 17) (post' := (fun (r : Int32) (c9 : ftCdT) => ∃ _u : Unit, c9 = c ∧ r = ftCntA (upd w 55 (nI (min (c.1.1 1) 3))) (c.1.1 3) (c.2.2.1.1) p0)) (f := ftBl cI cS o0 A (nI (ftCL w)) c) (f' := fun c9 => ftBl cI cS o0 A (nI (ftCL w)) c9) (c_X10_count l D cI cS o0 (A 0 0) (A 0 1) (A 0 2) (A 0 3) (A 0 4) (A 0 5) (A 0 6) (A 0 7) (A 0 8) (A 0 9) (c.1.2.1 3) (A 1 0) (A 1 5) (c.1.1 1) (ftCL w) (c.1.2.1 1) (c.1.2.1 2) (c.1.1 0) (A 1 1) (A 1 2) (A 1 3) (A 1 4) (c.1.2.2.1 4) (upd w 55 (nI (min (c.1.1 1) 3))) (A 3 0) (A 3 1) (A 3 2) (A 3 3) (A 17 0) (c.2.2.1.1) (c.2.2.1.2.2.2.1 0) (c.2.2.1.2.2.2.1 1) (c.2.2.1.2.2.2.1 2) (c.2.2.1.2.2.2.1 3) (nI (c.1.1 2)) (c.1.1 3) p0 ((ftUpd_ne (by omega)).trans (ftWf_0 h1)) ((ftUpd_ne (by omega)).trans h2.2.1) ((ftUpd_ne (by omega)).trans h2.2.2.1) ((ftUpd_ne (by omega)).trans h2.2.2.2.1) (ftWf_ln h1) (fun j hj9 => (h3 j hj9).trans (ftUpd_ne (by omega)).symm) (by omega) ftUpd_at0) [0, 1, 2, 7, 10, 8] [3, 4, 5, 6, 9, 11, 12, 13, 14, 15, 16] (by decide +kernel) rfl c ⟨(), rfl, rfl⟩ rfl
    exact ft_relen (hx9 _ hln9) (fun r c9 h => by obtain ⟨u, hc, -⟩ := h; rw [hc] <;> rfl)
  refine ft_post hb9 (fun r c9 hc => ?_)
  obtain ⟨_, rfl, e⟩ := hc
  exact ⟨fun a b => e.trans (lxCnt_15 hj), rfl⟩
set_option maxHeartbeats 4000000 in
set_option maxRecDepth 100000 in
theorem ep_part (l : Launch) (D : va_G) (cI cS : ClassId) (sz : Nat) (sK sV : Nat → Nat) (o0 : Nat) (A : Nat → Nat → Nat) (c : ftCdT) (w : Nat → Int32) (tx : Nat → Int32) (tn : Nat) (p0 : Int32) (p1 : Int32) (hQ : lxQ c w tx tn) : Met l yX10_part wsX10_part ({ frames := 6, cells := 0, slots := 0, locals := 150 }) (ftRWS D cI cS sK sV [.ref o0, .int p0, .int p1] (ftCB9 cI cS o0 A (c.1.2.1 0) c) sz) (ftXi D (ftCB9 cI cS o0 A (c.1.2.1 0) c) sz (fun (r : Int32) (c9 : ftCdT) => (r = ftPtA w p0 p1) ∧ lxQ c9 (w) (tx) (tn)) (fun c9 => ftCB9 cI cS o0 A (c9.1.2.1 0) c9)) 0 0 (va_A (ftCB9 cI cS o0 A (c.1.2.1 0) c) sz) := by
  obtain ⟨⟨h1, h2, h3, h4, h9, h10, h12, hk0⟩, ht1, ht2⟩ := hQ
  subst ht1
  subst ht2
  have hln9 : c.1.2.1 0 = nI (ftCL w) := h2.1.symm.trans (ftWf_0 h1)
  have hb9 : Met l yX10_part wsX10_part ({ frames := 6, cells := 0, slots := 0, locals := 150 }) (ftRWS D cI cS sK sV [.ref o0, .int p0, .int p1] (ftCB9 cI cS o0 A (c.1.2.1 0) c) sz) (ftXi D (ftCB9 cI cS o0 A (c.1.2.1 0) c) sz (fun (r : Int32) (c9 : ftCdT) => ∃ u : Int32 × ftUm, c9 = (ftFlS c.1 u.1, u.2, c.2.2) ∧ (r = ftPtA w p0 p1 ∧ (ftMi w u.1 u.2))) (fun c9 => ftCB9 cI cS o0 A (c9.1.2.1 0) c9)) 0 0 (va_A (ftCB9 cI cS o0 A (c.1.2.1 0) c) sz) := by
    have hL9 : ftLR w (nI (ftCL w)) (c.1.2.1 1) (c.1.2.1 2) (c.1.1 0) (c.1.2.2.1 0) (c.1.2.2.1 1) (c.1.2.2.1 2) (c.1.2.2.1 3) := by rw [← hln9]; exact h2
    have hx9 : ∀ len : Int32, len = nI (ftCL w) → Met l yX10_part wsX10_part ({ frames := 6, cells := 0, slots := 0, locals := 150 }) (ftRWS D cI cS sK sV [.ref o0, .int p0, .int p1] (ftCB9 cI cS o0 A len c) sz) (ftXi D (ftCB9 cI cS o0 A len c) sz (fun (r : Int32) (c9 : ftCdT) => ∃ u : Int32 × ftUm, c9 = (ftFlS c.1 u.1, u.2, c.2.2) ∧ (r = ftPtA w p0 p1 ∧ (ftMi w u.1 u.2))) (fun c9 => ftCB9 cI cS o0 A len c9)) 0 0 (va_A (ftCB9 cI cS o0 A len c) sz) := by
      intro len hlen
      subst hlen
      exact ft_fr (n := 17) (post' := (fun (r : Int32) (c9 : ftCdT) => ∃ u : Int32 × ftUm, c9 = (ftFlS c.1 u.1, u.2, c.2.2) ∧ (r = ftPtA w p0 p1 ∧ (ftMi w u.1 u.2)))) (f := ftBl cI cS o0 A (nI (ftCL w)) c) (f' := fun c9 => ftBl cI cS o0 A (nI (ftCL w)) c9) (c_X10_part l D cI cS sz o0 (A 0 0) (A 0 1) (A 0 2) (A 0 3) (A 0 4) (A 0 5) (A 0 6) (A 0 7) (A 0 8) (A 0 9) (c.1.2.1 3) (A 1 0) (A 1 5) (c.1.1 1) (ftCL w) (c.1.2.1 1) (c.1.2.1 2) (c.1.1 0) (A 1 1) (A 1 2) (A 1 3) (A 1 4) (A 6 0) (A 6 1) (A 6 2) (A 6 3) (A 6 4) (A 7 0) (A 7 1) (A 7 2) (A 7 3) (A 8 0) (A 8 1) (A 8 2) (A 8 3) (A 8 4) (A 8 5) (A 8 6) (A 8 7) (c.1.2.2.1 0) (c.1.2.2.1 1) (c.1.2.2.1 2) (c.1.2.2.1 3) (c.1.2.2.1 4) c.2.1 w p0 p1 h1 hL9 (ftWf_ln h1) h3 h4) (fun (u : Int32 × ftUm) => (ftFlS c.1 u.1, u.2, c.2.2)) (fun r u h => ⟨u, rfl, h⟩) [0, 1, 2, 3, 4, 5, 6, 7, 14, 15] [8, 9, 10, 11, 12, 13, 16] (by decide +kernel) rfl (fun _ => rfl) (fun _ => rfl)
    exact ft_relen (hx9 _ hln9) (fun r c9 h => by obtain ⟨u, hc, -⟩ := h; rw [hc] <;> rfl)
  refine ft_post hb9 (fun r c9 hc => ?_)
  obtain ⟨u, rfl, e, hmi⟩ := hc
  exact ⟨e, ⟨h1, h2, h3, hmi, h9, h10, h12, hk0⟩, rfl, rfl⟩
set_option maxHeartbeats 4000000 in
set_option maxRecDepth 100000 in
theorem ep_sample (l : Launch) (D : va_G) (cI cS : ClassId) (sz : Nat) (sK sV : Nat → Nat) (o0 : Nat) (A : Nat → Nat → Nat) (c : ftCdT) (w : Nat → Int32) (tx : Nat → Int32) (tn : Nat) (p0 : Int32) (p1 : Int32) (hQ : lxQ c w tx tn) : Met l yX10_sample wsX10_sample ({ frames := 6, cells := 0, slots := 0, locals := 150 }) (ftRWS D cI cS sK sV [.ref o0, .int p0, .int p1] (ftCB9 cI cS o0 A (c.1.2.1 0) c) sz) (ftXi D (ftCB9 cI cS o0 A (c.1.2.1 0) c) sz (fun (r : Int32) (c9 : ftCdT) => (r = ftSmA w p0 p1) ∧ lxQ c9 (w) (tx) (tn)) (fun c9 => ftCB9 cI cS o0 A (c9.1.2.1 0) c9)) 0 0 (va_A (ftCB9 cI cS o0 A (c.1.2.1 0) c) sz) := by
  obtain ⟨⟨h1, h2, h3, h4, h9, h10, h12, hk0⟩, ht1, ht2⟩ := hQ
  subst ht1
  subst ht2
  have hln9 : c.1.2.1 0 = nI (ftCL w) := h2.1.symm.trans (ftWf_0 h1)
  have hb9 : Met l yX10_sample wsX10_sample ({ frames := 6, cells := 0, slots := 0, locals := 150 }) (ftRWS D cI cS sK sV [.ref o0, .int p0, .int p1] (ftCB9 cI cS o0 A (c.1.2.1 0) c) sz) (ftXi D (ftCB9 cI cS o0 A (c.1.2.1 0) c) sz (fun (r : Int32) (c9 : ftCdT) => ∃ u : Int32 × ftUm, c9 = (ftFlS c.1 u.1, u.2, c.2.2) ∧ (r = ftSmA w p0 p1 ∧ (ftMi w u.1 u.2))) (fun c9 => ftCB9 cI cS o0 A (c9.1.2.1 0) c9)) 0 0 (va_A (ftCB9 cI cS o0 A (c.1.2.1 0) c) sz) := by
    have hL9 : ftLR w (nI (ftCL w)) (c.1.2.1 1) (c.1.2.1 2) (c.1.1 0) (c.1.2.2.1 0) (c.1.2.2.1 1) (c.1.2.2.1 2) (c.1.2.2.1 3) := by rw [← hln9]; exact h2
    have hx9 : ∀ len : Int32, len = nI (ftCL w) → Met l yX10_sample wsX10_sample ({ frames := 6, cells := 0, slots := 0, locals := 150 }) (ftRWS D cI cS sK sV [.ref o0, .int p0, .int p1] (ftCB9 cI cS o0 A len c) sz) (ftXi D (ftCB9 cI cS o0 A len c) sz (fun (r : Int32) (c9 : ftCdT) => ∃ u : Int32 × ftUm, c9 = (ftFlS c.1 u.1, u.2, c.2.2) ∧ (r = ftSmA w p0 p1 ∧ (ftMi w u.1 u.2))) (fun c9 => ftCB9 cI cS o0 A len c9)) 0 0 (va_A (ftCB9 cI cS o0 A len c) sz) := by
      intro len hlen
      subst hlen
      exact ft_fr (n := 17) (post' := (fun (r : Int32) (c9 : ftCdT) => ∃ u : Int32 × ftUm, c9 = (ftFlS c.1 u.1, u.2, c.2.2) ∧ (r = ftSmA w p0 p1 ∧ (ftMi w u.1 u.2)))) (f := ftBl cI cS o0 A (nI (ftCL w)) c) (f' := fun c9 => ftBl cI cS o0 A (nI (ftCL w)) c9) (c_X10_sample l D cI cS sz o0 (A 0 0) (A 0 1) (A 0 2) (A 0 3) (A 0 4) (A 0 5) (A 0 6) (A 0 7) (A 0 8) (A 0 9) (c.1.2.1 3) (A 1 0) (A 1 5) (c.1.1 1) (ftCL w) (c.1.2.1 1) (c.1.2.1 2) (c.1.1 0) (A 1 1) (A 1 2) (A 1 3) (A 1 4) (A 6 0) (A 6 1) (A 6 2) (A 6 3) (A 6 4) (A 7 0) (A 7 1) (A 7 2) (A 7 3) (A 8 0) (A 8 1) (A 8 2) (A 8 3) (A 8 4) (A 8 5) (A 8 6) (A 8 7) (c.1.2.2.1 0) (c.1.2.2.1 1) (c.1.2.2.1 2) (c.1.2.2.1 3) (c.1.2.2.1 4) c.2.1 w p0 p1 h1 hL9 (ftWf_ln h1) h3 h4) (fun (u : Int32 × ftUm) => (ftFlS c.1 u.1, u.2, c.2.2)) (fun r u h => ⟨u, rfl, h⟩) [0, 1, 2, 3, 4, 5, 6, 7, 14, 15] [8, 9, 10, 11, 12, 13, 16] (by decide +kernel) rfl (fun _ => rfl) (fun _ => rfl)
    exact ft_relen (hx9 _ hln9) (fun r c9 h => by obtain ⟨u, hc, -⟩ := h; rw [hc] <;> rfl)
  refine ft_post hb9 (fun r c9 hc => ?_)
  obtain ⟨u, rfl, e, hmi⟩ := hc
  exact ⟨e, ⟨h1, h2, h3, hmi, h9, h10, h12, hk0⟩, rfl, rfl⟩
set_option maxHeartbeats 4000000 in
set_option maxRecDepth 100000 in
theorem ep_total (l : Launch) (D : va_G) (cI cS : ClassId) (sz : Nat) (sK sV : Nat → Nat) (o0 : Nat) (A : Nat → Nat → Nat) (c : ftCdT) (w : Nat → Int32) (tx : Nat → Int32) (tn : Nat) (p0 : Int32) (hQ : lxQ c w tx tn) : Met l yX10_total wsX10_total ({ frames := 6, cells := 0, slots := 0, locals := 150 }) (ftRWS D cI cS sK sV [.ref o0, .int p0] (ftCB9 cI cS o0 A (c.1.2.1 0) c) sz) (ftXi D (ftCB9 cI cS o0 A (c.1.2.1 0) c) sz (fun (r : Int32) (c9 : ftCdT) => (r = ftToA w p0) ∧ lxQ c9 (w) (tx) (tn)) (fun c9 => ftCB9 cI cS o0 A (c9.1.2.1 0) c9)) 0 0 (va_A (ftCB9 cI cS o0 A (c.1.2.1 0) c) sz) := by
  obtain ⟨⟨h1, h2, h3, h4, h9, h10, h12, hk0⟩, ht1, ht2⟩ := hQ
  subst ht1
  subst ht2
  have hln9 : c.1.2.1 0 = nI (ftCL w) := h2.1.symm.trans (ftWf_0 h1)
  have hb9 : Met l yX10_total wsX10_total ({ frames := 6, cells := 0, slots := 0, locals := 150 }) (ftRWS D cI cS sK sV [.ref o0, .int p0] (ftCB9 cI cS o0 A (c.1.2.1 0) c) sz) (ftXi D (ftCB9 cI cS o0 A (c.1.2.1 0) c) sz (fun (r : Int32) (c9 : ftCdT) => ∃ u : Int32 × ftUm, c9 = (ftFlS c.1 u.1, u.2, c.2.2) ∧ (r = ftToA w p0 ∧ (ftMi w u.1 u.2))) (fun c9 => ftCB9 cI cS o0 A (c9.1.2.1 0) c9)) 0 0 (va_A (ftCB9 cI cS o0 A (c.1.2.1 0) c) sz) := by
    have hL9 : ftLR w (nI (ftCL w)) (c.1.2.1 1) (c.1.2.1 2) (c.1.1 0) (c.1.2.2.1 0) (c.1.2.2.1 1) (c.1.2.2.1 2) (c.1.2.2.1 3) := by rw [← hln9]; exact h2
    have hx9 : ∀ len : Int32, len = nI (ftCL w) → Met l yX10_total wsX10_total ({ frames := 6, cells := 0, slots := 0, locals := 150 }) (ftRWS D cI cS sK sV [.ref o0, .int p0] (ftCB9 cI cS o0 A len c) sz) (ftXi D (ftCB9 cI cS o0 A len c) sz (fun (r : Int32) (c9 : ftCdT) => ∃ u : Int32 × ftUm, c9 = (ftFlS c.1 u.1, u.2, c.2.2) ∧ (r = ftToA w p0 ∧ (ftMi w u.1 u.2))) (fun c9 => ftCB9 cI cS o0 A len c9)) 0 0 (va_A (ftCB9 cI cS o0 A len c) sz) := by
      intro len hlen
      subst hlen
      exact ft_fr (n := 17) (post' := (fun (r : Int32) (c9 : ftCdT) => ∃ u : Int32 × ftUm, c9 = (ftFlS c.1 u.1, u.2, c.2.2) ∧ (r = ftToA w p0 ∧ (ftMi w u.1 u.2)))) (f := ftBl cI cS o0 A (nI (ftCL w)) c) (f' := fun c9 => ftBl cI cS o0 A (nI (ftCL w)) c9) (c_X10_total l D cI cS sz o0 (A 0 0) (A 0 1) (A 0 2) (A 0 3) (A 0 4) (A 0 5) (A 0 6) (A 0 7) (A 0 8) (A 0 9) (c.1.2.1 3) (A 1 0) (A 1 5) (c.1.1 1) (ftCL w) (c.1.2.1 1) (c.1.2.1 2) (c.1.1 0) (A 1 1) (A 1 2) (A 1 3) (A 1 4) (A 6 0) (A 6 1) (A 6 2) (A 6 3) (A 6 4) (A 7 0) (A 7 1) (A 7 2) (A 7 3) (A 8 0) (A 8 1) (A 8 2) (A 8 3) (A 8 4) (A 8 5) (A 8 6) (A 8 7) (c.1.2.2.1 0) (c.1.2.2.1 1) (c.1.2.2.1 2) (c.1.2.2.1 3) (c.1.2.2.1 4) c.2.1 w p0 h1 hL9 (ftWf_ln h1) h3 h4) (fun (u : Int32 × ftUm) => (ftFlS c.1 u.1, u.2, c.2.2)) (fun r u h => ⟨u, rfl, h⟩) [0, 1, 2, 3, 4, 5, 6, 7, 14, 15] [8, 9, 10, 11, 12, 13, 16] (by decide +kernel) rfl (fun _ => rfl) (fun _ => rfl)
    exact ft_relen (hx9 _ hln9) (fun r c9 h => by obtain ⟨u, hc, -⟩ := h; rw [hc] <;> rfl)
  refine ft_post hb9 (fun r c9 hc => ?_)
  obtain ⟨u, rfl, e, hmi⟩ := hc
  exact ⟨e, ⟨h1, h2, h3, hmi, h9, h10, h12, hk0⟩, rfl, rfl⟩
set_option maxHeartbeats 4000000 in
set_option maxRecDepth 100000 in
theorem ep_addPart (l : Launch) (D : va_G) (cI cS : ClassId) (sz : Nat) (sK sV : Nat → Nat) (o0 : Nat) (A : Nat → Nat → Nat) (c : ftCdT) (w : Nat → Int32) (tx : Nat → Int32) (tn : Nat) (p0 : Int32) (p1 : Int32) (p2 : Int32) (p3 : Int32) (hQ : lxQ c w tx tn) (hC : ftAdC w p0 p1 p2 p3) : Met l yX10_addPart wsX10_addPart ({ frames := 5, cells := 0, slots := 0, locals := 114 }) (ftRWS D cI cS sK sV [.ref o0, .int p0, .int p1, .int p2, .int p3] (ftCB9 cI cS o0 A (c.1.2.1 0) c) sz) (ftXi D (ftCB9 cI cS o0 A (c.1.2.1 0) c) sz (fun (r : Int32) (c9 : ftCdT) => (r = nI (ftPosW w p1 (ftCN w))) ∧ lxQ c9 (ftAdd w (ftCN w) p0 p1 p2 p3) (tx) (tn) ∧ c9.1.2.1 3 = 0) (fun c9 => ftCB9 cI cS o0 A (c9.1.2.1 0) c9)) 0 0 (va_A (ftCB9 cI cS o0 A (c.1.2.1 0) c) sz) := by
  obtain ⟨⟨h1, h2, h3, h4, h9, h10, h12, hk0⟩, ht1, ht2⟩ := hQ
  subst ht1
  subst ht2
  have hln9 : c.1.2.1 0 = nI (ftCL w) := h2.1.symm.trans (ftWf_0 h1)
  have hb9 : Met l yX10_addPart wsX10_addPart ({ frames := 5, cells := 0, slots := 0, locals := 114 }) (ftRWS D cI cS sK sV [.ref o0, .int p0, .int p1, .int p2, .int p3] (ftCB9 cI cS o0 A (c.1.2.1 0) c) sz) (ftXi D (ftCB9 cI cS o0 A (c.1.2.1 0) c) sz (fun (r : Int32) (c9 : ftCdT) => ∃ u : ftSd, c9 = (u, c.2) ∧ (r = ftAdA w p0 p1 p2 p3 ∧ (u = ftCh (ftAdC w p0 p1 p2 p3) (ftInsS (ftBg c.1) p0 p1 p2 p3) c.1))) (fun c9 => ftCB9 cI cS o0 A (c9.1.2.1 0) c9)) 0 0 (va_A (ftCB9 cI cS o0 A (c.1.2.1 0) c) sz) := by
    exact ft_fr (n := 17) (post' := (fun (r : Int32) (c9 : ftCdT) => ∃ u : ftSd, c9 = (u, c.2) ∧ (r = ftAdA w p0 p1 p2 p3 ∧ (u = ftCh (ftAdC w p0 p1 p2 p3) (ftInsS (ftBg c.1) p0 p1 p2 p3) c.1)))) (f := ftBl cI cS o0 A (c.1.2.1 0) c) (f' := fun c9 => ftBl cI cS o0 A (c9.1.2.1 0) c9) (c_X10_addPart l D cI cS sz o0 (A 0 0) (A 0 1) (A 0 2) (A 0 3) (A 0 4) (A 0 5) (A 0 6) (A 0 7) (A 0 8) (A 0 9) (A 1 0) (A 1 5) (A 1 1) (A 1 2) (A 1 3) (A 1 4) (A 17 0) (A 10) (A 11) (A 16) (A 12) (A 13) (A 14) (A 15) c.1 w p0 p1 p2 p3 h9 h10 h2 h1.1) (fun (u : ftSd) => (u, c.2)) (fun r u h => ⟨u, rfl, h⟩) [0, 1, 2, 3, 4, 5, 6, 7, 8, 9] [10, 11, 12, 13, 14, 15, 16] (by decide +kernel) rfl (fun _ => rfl) (fun _ => rfl)
  refine ft_post hb9 (fun r c9 hc => ?_)
  obtain ⟨u, rfl, e, hu⟩ := hc
  rw [ftCh_t hC] at hu
  subst hu
  rw [ftAdA, ftIte_t hC.1, ftIte_t hC.2.1, ftIte_f hC.2.2] at e
  have hcn := ftLR_n h2
  have hn10 := ftWf_n h1
  have h10w : ftCN w < 10 := by
    rcases Nat.eq_or_lt_of_le hn10 with q | q
    · exact absurd (by rw [ftWf_3 h1, q]; rfl) hC.2.2
    · exact q
  have hne := (ftPa_neg (w := w) (x := p1) (ftCN w) (by omega)).mp hC.2.1
  have hL := ftLR_add (kd := p0) (x := p1) (lo := p2) (re := p3) h2 (by omega) (fun a b hab hb => h1.1.2.2.2.2.2 a b hab (by omega)) (fun t ht => hne t (by omega))
  have hW := ftWf_add h1 hC
  rw [hcn] at hW e ⊢
  exact ⟨e, ⟨⟨hW, hL, fun j hj => (h3 j hj).trans (ftAdd_tl (by omega) (by omega)).symm, ⟨Or.inl rfl, fun q => absurd rfl q, h4.2.2⟩, Nat.mod_lt _ (by omega), Nat.min_le_right _ _, h12, hk0⟩, rfl, rfl⟩, rfl⟩
set_option maxHeartbeats 4000000 in
set_option maxRecDepth 100000 in
theorem ep_addPartN (l : Launch) (D : va_G) (cI cS : ClassId) (sz : Nat) (sK sV : Nat → Nat) (o0 : Nat) (A : Nat → Nat → Nat) (c : ftCdT) (w : Nat → Int32) (tx : Nat → Int32) (tn : Nat) (p0 : Int32) (p1 : Int32) (p2 : Int32) (p3 : Int32) (hQ : lxQ c w tx tn) (hC : ¬ ftAdC w p0 p1 p2 p3) : Met l yX10_addPart wsX10_addPart ({ frames := 5, cells := 0, slots := 0, locals := 114 }) (ftRWS D cI cS sK sV [.ref o0, .int p0, .int p1, .int p2, .int p3] (ftCB9 cI cS o0 A (c.1.2.1 0) c) sz) (ftXi D (ftCB9 cI cS o0 A (c.1.2.1 0) c) sz (fun (r : Int32) (c9 : ftCdT) => (r = ftAdA w p0 p1 p2 p3) ∧ lxQ c9 (w) (tx) (tn)) (fun c9 => ftCB9 cI cS o0 A (c9.1.2.1 0) c9)) 0 0 (va_A (ftCB9 cI cS o0 A (c.1.2.1 0) c) sz) := by
  obtain ⟨⟨h1, h2, h3, h4, h9, h10, h12, hk0⟩, ht1, ht2⟩ := hQ
  subst ht1
  subst ht2
  have hln9 : c.1.2.1 0 = nI (ftCL w) := h2.1.symm.trans (ftWf_0 h1)
  have hb9 : Met l yX10_addPart wsX10_addPart ({ frames := 5, cells := 0, slots := 0, locals := 114 }) (ftRWS D cI cS sK sV [.ref o0, .int p0, .int p1, .int p2, .int p3] (ftCB9 cI cS o0 A (c.1.2.1 0) c) sz) (ftXi D (ftCB9 cI cS o0 A (c.1.2.1 0) c) sz (fun (r : Int32) (c9 : ftCdT) => ∃ u : ftSd, c9 = (u, c.2) ∧ (r = ftAdA w p0 p1 p2 p3 ∧ (u = ftCh (ftAdC w p0 p1 p2 p3) (ftInsS (ftBg c.1) p0 p1 p2 p3) c.1))) (fun c9 => ftCB9 cI cS o0 A (c9.1.2.1 0) c9)) 0 0 (va_A (ftCB9 cI cS o0 A (c.1.2.1 0) c) sz) := by
    exact ft_fr (n := 17) (post' := (fun (r : Int32) (c9 : ftCdT) => ∃ u : ftSd, c9 = (u, c.2) ∧ (r = ftAdA w p0 p1 p2 p3 ∧ (u = ftCh (ftAdC w p0 p1 p2 p3) (ftInsS (ftBg c.1) p0 p1 p2 p3) c.1)))) (f := ftBl cI cS o0 A (c.1.2.1 0) c) (f' := fun c9 => ftBl cI cS o0 A (c9.1.2.1 0) c9) (c_X10_addPart l D cI cS sz o0 (A 0 0) (A 0 1) (A 0 2) (A 0 3) (A 0 4) (A 0 5) (A 0 6) (A 0 7) (A 0 8) (A 0 9) (A 1 0) (A 1 5) (A 1 1) (A 1 2) (A 1 3) (A 1 4) (A 17 0) (A 10) (A 11) (A 16) (A 12) (A 13) (A 14) (A 15) c.1 w p0 p1 p2 p3 h9 h10 h2 h1.1) (fun (u : ftSd) => (u, c.2)) (fun r u h => ⟨u, rfl, h⟩) [0, 1, 2, 3, 4, 5, 6, 7, 8, 9] [10, 11, 12, 13, 14, 15, 16] (by decide +kernel) rfl (fun _ => rfl) (fun _ => rfl)
  refine ft_post hb9 (fun r c9 hc => ?_)
  obtain ⟨u, rfl, e, hu⟩ := hc
  rw [ftCh_f hC] at hu
  subst hu
  exact ⟨e, ⟨h1, h2, h3, h4, h9, h10, h12, hk0⟩, rfl, rfl⟩
set_option maxHeartbeats 4000000 in
set_option maxRecDepth 100000 in
theorem ep_lay (l : Launch) (D : va_G) (cI cS : ClassId) (sz : Nat) (sK sV : Nat → Nat) (o0 : Nat) (A : Nat → Nat → Nat) (c : ftCdT) (w : Nat → Int32) (tx : Nat → Int32) (tn : Nat) (hQ : lxQ c w tx tn) {m : Nat → Int32} (hm : ftCPar tx tn = some m) : Met l yX10_lay wsX10_lay ({ frames := 9, cells := 0, slots := 0, locals := 207 }) (ftRWS D cI cS sK sV [.ref o0] (ftCB9 cI cS o0 A (c.1.2.1 0) c) sz) (ftXi D (ftCB9 cI cS o0 A (c.1.2.1 0) c) sz (fun (r : Int32) (c9 : ftCdT) => (r = nI (ftCN m)) ∧ lxQ c9 (ftLayW w m) (tx) (tn) ∧ c9.1.2.1 3 = 0) (fun c9 => ftCB9 cI cS o0 A (c9.1.2.1 0) c9)) 0 0 (va_A (ftCB9 cI cS o0 A (c.1.2.1 0) c) sz) := by
  obtain ⟨⟨h1, h2, h3, h4, h9, h10, h12, hk0⟩, ht1, ht2⟩ := hQ
  subst ht1
  subst ht2
  have hln9 : c.1.2.1 0 = nI (ftCL w) := h2.1.symm.trans (ftWf_0 h1)
  have hb9 : Met l yX10_lay wsX10_lay ({ frames := 9, cells := 0, slots := 0, locals := 207 }) (ftRWS D cI cS sK sV [.ref o0] (ftCB9 cI cS o0 A (c.1.2.1 0) c) sz) (ftXi D (ftCB9 cI cS o0 A (c.1.2.1 0) c) sz (fun (r : Int32) (c9 : ftCdT) => ∃ u : ftSd × Nat × (Nat → Int32) × (Nat → Nat → Int32), c9 = (u.1, c.2.1, (c.2.2.1.1, c.2.2.1.2.1, u.2), c.2.2.2) ∧ (r = ftIte (¬ ftCPar c.2.2.1.2.1 (c.2.2.1.1) = none) (nI (ftCN (ftCPm c.2.2.1.2.1 (c.2.2.1.1)))) (-1000002) ∧ (u.1 = ftCh (¬ ftCPar c.2.2.1.2.1 (c.2.2.1.1) = none) (ftLayS (ftBg c.1) u.2) c.1) ∧ (¬ ftCPar c.2.2.1.2.1 (c.2.2.1.1) = none → ftLR (ftCPm c.2.2.1.2.1 (c.2.2.1.1)) (u.2.2.1 4) (u.2.2.1 5) (u.2.2.1 6) u.2.1 (u.2.2.2 2) (u.2.2.2 3) (u.2.2.2 4) (u.2.2.2 5)))) (fun c9 => ftCB9 cI cS o0 A (c9.1.2.1 0) c9)) 0 0 (va_A (ftCB9 cI cS o0 A (c.1.2.1 0) c) sz) := by
    exact ft_frS (n := 17) (post' := (fun (r : Int32) (c9 : ftCdT) => ∃ u : ftSd × Nat × (Nat → Int32) × (Nat → Nat → Int32), c9 = (u.1, c.2.1, (c.2.2.1.1, c.2.2.1.2.1, u.2), c.2.2.2) ∧ (r = ftIte (¬ ftCPar c.2.2.1.2.1 (c.2.2.1.1) = none) (nI (ftCN (ftCPm c.2.2.1.2.1 (c.2.2.1.1)))) (-1000002) ∧ (u.1 = ftCh (¬ ftCPar c.2.2.1.2.1 (c.2.2.1.1) = none) (ftLayS (ftBg c.1) u.2) c.1) ∧ (¬ ftCPar c.2.2.1.2.1 (c.2.2.1.1) = none → ftLR (ftCPm c.2.2.1.2.1 (c.2.2.1.1)) (u.2.2.1 4) (u.2.2.1 5) (u.2.2.1 6) u.2.1 (u.2.2.2 2) (u.2.2.2 3) (u.2.2.2 4) (u.2.2.2 5))))) (f := ftBl cI cS o0 A (c.1.2.1 0) c) (f' := fun c9 => ftBl cI cS o0 A (c9.1.2.1 0) c9) (c_X10_lay l D cI cS sz sK sV o0 (A 0 0) (A 0 1) (A 0 2) (A 0 3) (A 0 4) (A 0 5) (A 0 6) (A 0 7) (A 0 8) (A 0 9) (A 1 0) (A 1 5) (A 1 1) (A 1 2) (A 1 3) (A 1 4) (A 17 0) (A 10) (A 11) (A 16) (A 12) (A 13) (A 14) (A 15) c.1 (A 3 0) (A 3 1) (A 3 2) (A 3 3) (A 3 4) (A 3 5) (A 3 6) (A 3 7) (c.2.2.1.1) c.2.2.1.2.1 c.2.2.1.2.2 h9 h10 h12) (fun (u : ftSd × Nat × (Nat → Int32) × (Nat → Nat → Int32)) => (u.1, c.2.1, (c.2.2.1.1, c.2.2.1.2.1, u.2), c.2.2.2)) (fun r u h => ⟨u, rfl, h⟩) [0, 1, 2, 3, 4, 5, 6, 7, 8, 9, 10, 11] [12, 13, 14, 15, 16] (by decide +kernel) rfl (fun _ => rfl) (fun _ => rfl)
  refine ft_post hb9 (fun r c9 hc => ?_)
  obtain ⟨u, rfl, e, hu, hlr⟩ := hc
  have hC : ¬ ftCPar c.2.2.1.2.1 c.2.2.1.1 = none := by rw [hm]; exact (fun q => by cases q)
  rw [ftIte_t hC, ftCPm_of hm] at e
  obtain ⟨s1, m1⟩ := u
  have hu : s1 = ftCh (¬ ftCPar c.2.2.1.2.1 c.2.2.1.1 = none) (ftLayS (ftBg c.1) m1) c.1 := hu
  rw [ftCh_t hC] at hu
  subst hu
  have hL := hlr hC
  rw [ftCPm_of hm] at hL
  have hn10 : m1.1 ≤ 10 := hL.2.2.2.2.1
  have hlf := ftCPm_lf hC
  rw [ftCPm_of hm] at hlf
  exact ⟨e, ⟨⟨ftWf_lay h1 hlf, ftLR_cong (ftLR_lay hL) (fun t ht => ⟨ftCpy_lt (Nat.lt_of_lt_of_le ht hn10), ftCpy_lt (Nat.lt_of_lt_of_le ht hn10), ftCpy_lt (Nat.lt_of_lt_of_le ht hn10), ftCpy_lt (Nat.lt_of_lt_of_le ht hn10)⟩), fun j hj => (h3 j hj).trans (ftLay_hi (by omega)).symm, ⟨Or.inl rfl, fun q => absurd rfl q, h4.2.2⟩, Nat.mod_lt _ (by omega), Nat.min_le_right _ _, h12, hk0⟩, rfl, rfl⟩, rfl⟩
