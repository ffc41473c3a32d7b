section
/-! the reference: items, faults -/
theorem ft_shr1 : ∀ h, h < 64 → ∀ j, j < 6 → nI h >>> (nI j &&& 31) = nI (h / 2 ^ j) := by decide +kernel
theorem ft_and1 : ∀ h, h < 64 → nI h &&& 1 = nI (h % 2) := by decide +kernel
theorem ft_or1 : ∀ h, h < 64 → ∀ j, j < 6 → nI h ||| (1 <<< (nI j &&& 31)) = nI (h ||| 2 ^ j) := by decide +kernel
theorem ft_or64 : ∀ h, h < 64 → ∀ j, j < 6 → h ||| 2 ^ j < 64 := by decide +kernel
theorem ftWd_c (tx : Nat → Int32) (p d : Nat) (m : Nat) : ftWd tx p d m = -1 ∨ ∃ j, j < m ∧ ftWd tx p d m = nI j ∧ ftWP tx p d j (ftWs j) := by
  induction m with
  | zero => exact Or.inl rfl
  | succ m ih =>
    rcases Classical.em (ftWP tx p d m (ftWs m)) with q | q
    · exact Or.inr ⟨m, by omega, ftWd_t q, q⟩
    · rw [ftWd_f q]
      rcases ih with h | ⟨j, h1, h2⟩
      · exact Or.inl h
      · exact Or.inr ⟨j, by omega, h2⟩
/-- the word at p, where i numbers behind it end, their values, the row that they lie in -/
noncomputable def ftIw (tx : Nat → Int32) (tn p : Nat) : Int32 := ftWd tx p (ftRun tx tn p) 6
noncomputable def ftNP (tx : Nat → Int32) (tn q : Nat) : Nat → Nat
  | 0 => q
  | i + 1 => ftNe tx tn (ftNP tx tn q i)
noncomputable def ftIp (tx : Nat → Int32) (tn p i : Nat) : Nat := ftNP tx tn (p + ftRun tx tn p) i
noncomputable def ftIv (tx : Nat → Int32) (tn p i : Nat) : Int32 := ftNv tx tn (ftIp tx tn p i)
noncomputable def ftIf (tx : Nat → Int32) (tn p : Nat) (fg : Nat → Int32) : Nat → (Nat → Int32)
  | 0 => fg
  | i + 1 => ftNf tx tn (ftIp tx tn p i) i (ftIf tx tn p fg i)
theorem ftRun_le {tx : Nat → Int32} {tn p : Nat} (h : p ≤ tn) : p + ftRun tx tn p ≤ tn := by
  rcases Nat.eq_zero_or_pos (ftRun tx tn p) with e | e
  · omega
  · have := (ftIni_yes (fun t => p + t < tn ∧ 97 ≤ tx (p + t) ∧ tx (p + t) ≤ 122) 120 (ftRun tx tn p - 1) (by unfold ftRun at e ⊢; omega)).1
    omega
theorem ftIp_le {tx : Nat → Int32} {tn p : Nat} (h : p ≤ tn) (i : Nat) : ftIp tx tn p i ≤ tn := by
  induction i with
  | zero => exact ftRun_le h
  | succ i ih => exact ftNe_le ih
theorem ftIf_at {tx : Nat → Int32} {tn p : Nat} {fg : Nat → Int32} : ∀ m, (∀ t, t < m → ftNok tx tn (ftIp tx tn p t)) → ∀ i, i < m → ftIf tx tn p fg m i = ftIv tx tn p i := by
  intro m
  induction m with
  | zero => intro _ i h; exact absurd h (Nat.not_lt_zero i)
  | succ m ih =>
    intro h i hi
    have e := ftNf_t (fg := ftIf tx tn p fg m) (i := m) (h m (by omega)).1
    show ftNf tx tn (ftIp tx tn p m) m (ftIf tx tn p fg m) i = _
    rw [e]
    by_cases q : i = m
    · subst q; exact if_pos rfl
    · rw [ftUpd_ne q]; exact ih (fun t ht => h t (by omega)) i (by omega)
/-- whether the word is allowed there -/
def ftAl (wd : Int32) (md : Nat → Int32) (h : Nat) (x : Int32) : Prop := (wd < 3 → ¬ h / 2 ^ wd.toNatClampNeg % 2 = 1 ∧ md 3 ≤ 0) ∧ (¬ wd < 3 → (¬ ∃ t, t < (md 3).toNatClampNeg ∧ md (4 + 4 * t + 1) = x) ∧ ¬ md 3 = 10)
def ftItOk (tx : Nat → Int32) (tn : Nat) (md : Nat → Int32) (h p : Nat) : Prop := ¬ ftIw tx tn p < 0 ∧ (∀ i, i < ftNs (ftIw tx tn p) → ftNok tx tn (ftIp tx tn p i)) ∧ (∀ i, i < ftNs (ftIw tx tn p) → ftRt (ftIw tx tn p) i (ftIv tx tn p i) (md 0)) ∧ ftAl (ftIw tx tn p) md h (ftIv tx tn p 0) ∧ ftIp tx tn p (ftNs (ftIw tx tn p)) < tn ∧ tx (ftIp tx tn p (ftNs (ftIw tx tn p))) = 59
noncomputable def ftItP (tx : Nat → Int32) (tn p : Nat) : Nat := ftIp tx tn p (ftNs (ftIw tx tn p)) + 1
noncomputable def ftItM (tx : Nat → Int32) (tn : Nat) (md : Nat → Int32) (p : Nat) : Nat → Int32 := if ftIw tx tn p < 3 then upd md (ftIw tx tn p).toNatClampNeg (ftIv tx tn p 0) else ftAdd md (md 3).toNatClampNeg (ftIw tx tn p - 3) (ftIv tx tn p 0) (ftIv tx tn p 1) (if ftIw tx tn p = 4 then ftIv tx tn p 2 else 0)
noncomputable def ftItH (tx : Nat → Int32) (tn h p : Nat) : Nat := h ||| 2 ^ (ftIw tx tn p).toNatClampNeg
theorem ftNs_1 {wd : Int32} (h : wd < 3) : ftNs wd = 1 := if_pos h
theorem ftNs_3 {wd : Int32} (h : wd = 4) : ftNs wd = 3 := by subst h; rfl
theorem ftNs_2 {wd : Int32} (h : ¬ wd < 3) : 2 ≤ ftNs wd := by unfold ftNs; rw [if_neg h]; split <;> omega
/-- the items from p on: none, if one is not possible; else the row that they make -/
noncomputable def ftPar (tx : Nat → Int32) (tn : Nat) : Nat → Nat → Nat → (Nat → Int32) → Option (Nat → Int32)
  | 0, _, _, md => some md
  | f + 1, p, h, md => if p < tn then @ite _ (ftItOk tx tn md h p) (Classical.propDecidable _) (ftPar tx tn f (ftItP tx tn p) (ftItH tx tn h p) (ftItM tx tn md p)) none else some md
theorem ftItP_gt {tx : Nat → Int32} {tn p : Nat} : p < ftItP tx tn p := by
  have h : ∀ i, p ≤ ftIp tx tn p i := by
    intro i
    induction i with
    | zero => exact Nat.le_add_right _ _
    | succ i ih =>
      refine Nat.le_trans ih ?_
      show _ ≤ ftNe tx tn (ftIp tx tn p i)
      rcases Classical.em (ftSp tx tn (ftIp tx tn p i)) with q | q
      · rw [ftNe_t q]
        rcases Classical.em (ftNg tx tn (ftIp tx tn p i)) with r | r
        · rw [ftNq_t r]; omega
        · rw [ftNq_f r]; omega
      · rw [ftNe_f q]; exact Nat.le_refl _
  have := h (ftNs (ftIw tx tn p))
  unfold ftItP
  omega
theorem ftPar_fuel {tx : Nat → Int32} {tn : Nat} : ∀ (f g p h : Nat) (md : Nat → Int32), tn - p < f → tn - p < g → ftPar tx tn f p h md = ftPar tx tn g p h md := by
  intro f
  induction f with
  | zero => intro g p h md q; omega
  | succ f ih =>
    intro g p h md hf hg
    obtain ⟨g, rfl⟩ : ∃ k, g = k + 1 := ⟨g - 1, by omega⟩
    unfold ftPar
    by_cases c : p < tn
    · rw [if_pos c, if_pos c]
      have e := ftItP_gt (tx := tx) (tn := tn) (p := p)
      rw [ih g _ _ _ (by omega) (by omega)]
    · rw [if_neg c, if_neg c]
theorem ftPar_t {tx : Nat → Int32} {tn p h : Nat} {md : Nat → Int32} (hp : p < tn) (hk : ftItOk tx tn md h p) : ftPar tx tn (tn - p + 1) p h md = ftPar tx tn (tn - ftItP tx tn p + 1) (ftItP tx tn p) (ftItH tx tn h p) (ftItM tx tn md p) := by
  have e := ftItP_gt (tx := tx) (tn := tn) (p := p)
  rw [ftPar, if_pos hp, show @ite _ (ftItOk tx tn md h p) (Classical.propDecidable _) (ftPar tx tn (tn - p) (ftItP tx tn p) (ftItH tx tn h p) (ftItM tx tn md p)) none = ftPar tx tn (tn - p) (ftItP tx tn p) (ftItH tx tn h p) (ftItM tx tn md p) from if_pos hk]
  exact ftPar_fuel _ _ _ _ _ (by omega) (by omega)
theorem ftPar_f {tx : Nat → Int32} {tn p h : Nat} {md : Nat → Int32} (hp : p < tn) (hk : ¬ ftItOk tx tn md h p) : ftPar tx tn (tn - p + 1) p h md = none := by
  rw [ftPar, if_pos hp]
  exact if_neg hk
theorem ftPar_e {tx : Nat → Int32} {tn p h f : Nat} {md : Nat → Int32} (hp : ¬ p < tn) : ftPar tx tn (f + 1) p h md = some md := if_neg hp
def ftMd0 (md : Nat → Int32) : Nat → Int32 := upd (upd (upd (upd md 0 200) 1 10) 2 12000) 3 0
noncomputable def ftPars (tx : Nat → Int32) (tn : Nat) (md : Nat → Int32) : Option (Nat → Int32) := ftPar tx tn (tn - 0 + 1) 0 0 (ftMd0 md)
/-- the row of a link that is being made has at most ten parts -/
def ftMok (md : Nat → Int32) : Prop := ∃ n, n ≤ 10 ∧ md 3 = nI n
theorem ftAdd_3 (w : Nat → Int32) (n : Nat) (kd x lo re : Int32) : ftAdd w n kd x lo re 3 = nI (n + 1) := by unfold ftAdd upd; exact if_pos rfl
theorem ftItM_ok {tx : Nat → Int32} {tn : Nat} {md : Nat → Int32} {h p : Nat} (hm : ftMok md) (hk : ftItOk tx tn md h p) : ftMok (ftItM tx tn md p) := by
  obtain ⟨n, hn, e⟩ := hm
  obtain ⟨h1, -, -, h4, -⟩ := hk
  unfold ftItM
  rcases Classical.em (ftIw tx tn p < 3) with q | q
  · rw [if_pos q]
    have h3 : (ftIw tx tn p).toNatClampNeg < 3 := by
      obtain ⟨j, hj, hj2⟩ := nI_of h1
      rw [hj2, nI_clamp hj]
      rw [hj2] at q
      exact ft_ltN hj (by omega) q
    exact ⟨n, hn, by rw [ftUpd_ne (by omega)]; exact e⟩
  · rw [if_neg q]
    have h5 : n ≠ 10 := fun r => (h4.2 q).2 (by rw [e, r]; rfl)
    exact ⟨n + 1, by omega, by rw [ftAdd_3, e, nI_clamp (by omega)]⟩
set_option maxHeartbeats 4000000 in
set_option maxRecDepth 100000 in
theorem c_X11_readsItem (l : Launch) (D : va_G) (cI cS : ClassId) (sz : Nat) (m0 p0 p1 p3 p5 p10 p12 p13 p14 p16 p17 p19 p20 p21 p22 p25 p26 p27 p28 p29 p30 p31 p32 : Nat) (i2 i7 i8 i9 i11 i15 i18 i23 i24 : Int32) (tx md fg : Nat → Int32) (tn sp h n : Nat) (htn : tn ≤ 120) (hp9 : sp ≤ tn) (hh : h < 64) (hw3 : md 3 = nI n) (hn : n ≤ 10) : Met l yX11_readsItem wsX11_readsItem ({ frames := 2, cells := 0, slots := 0, locals := 50 }) (ftRW D cI cS [.ref m0, .int (nI h)] [(m0, .inr (11, [.ref p0, .ref p1, .int i2, .ref p3, .int (nI tn), .ref p5, .int (nI sp), .int i7, .int i8, .int i9, .ref p10, .int i11, .ref p12, .ref p13, .ref p14, .int i15, .ref p16, .ref p17, .int i18, .ref p19, .ref p20, .ref p21, .ref p22, .int i23, .int i24, .ref p25, .ref p26, .ref p27, .ref p28, .ref p29, .ref p30, .ref p31, .ref p32])), (p3, .inl (cI, 120, .inl tx)), (p5, .inl (cI, 44, .inl md)), (p10, .inl (cI, 3, .inl fg))] sz) (ftXi D [(m0, .inr (11, [.ref p0, .ref p1, .int i2, .ref p3, .int (nI tn), .ref p5, .int (nI sp), .int i7, .int i8, .int i9, .ref p10, .int i11, .ref p12, .ref p13, .ref p14, .int i15, .ref p16, .ref p17, .int i18, .ref p19, .ref p20, .ref p21, .ref p22, .int i23, .int i24, .ref p25, .ref p26, .ref p27, .ref p28, .ref p29, .ref p30, .ref p31, .ref p32])), (p3, .inl (cI, 120, .inl tx)), (p5, .inl (cI, 44, .inl md)), (p10, .inl (cI, 3, .inl fg))] sz (fun (o9 : Int32) (u : (Nat → Int32) × (Nat → Nat → Int32)) => o9 = ftB (ftItOk tx tn md h sp) ∧ (ftItOk tx tn md h sp → (u.1 0 = nI (ftItP tx tn sp) ∧ u.2 1 = ftItM tx tn md sp ∧ ∃ j, j < 6 ∧ u.2 0 2 = nI j ∧ ftIw tx tn sp = nI j))) (fun (u : (Nat → Int32) × (Nat → Nat → Int32)) => [(m0, .inr (11, [.ref p0, .ref p1, .int i2, .ref p3, .int (nI tn), .ref p5, .int (u.1 0), .int i7, .int (u.1 1), .int (u.1 2), .ref p10, .int (u.1 3), .ref p12, .ref p13, .ref p14, .int i15, .ref p16, .ref p17, .int i18, .ref p19, .ref p20, .ref p21, .ref p22, .int i23, .int i24, .ref p25, .ref p26, .ref p27, .ref p28, .ref p29, .ref p30, .ref p31, .ref p32])), (p3, .inl (cI, 120, .inl tx)), (p5, .inl (cI, 44, .inl (u.2 1))), (p10, .inl (cI, 3, .inl (u.2 0)))])) 0 0 (va_A [(m0, .inr (11, [.ref p0, .ref p1, .int i2, .ref p3, .int (nI tn), .ref p5, .int (nI sp), .int i7, .int i8, .int i9, .ref p10, .int i11, .ref p12, .ref p13, .ref p14, .int i15, .ref p16, .ref p17, .int i18, .ref p19, .ref p20, .ref p21, .ref p22, .int i23, .int i24, .ref p25, .ref p26, .ref p27, .ref p28, .ref p29, .ref p30, .ref p31, .ref p32])), (p3, .inl (cI, 120, .inl tx)), (p5, .inl (cI, 44, .inl md)), (p10, .inl (cI, 3, .inl fg))] sz) := by
  refine Met.ofW (cc := cX11_readsItem) (maxL := 4) (ret := (some .boolean)) (by decide) rfl ?_
  intro p e s m args below meth c s₁ B hml hv
  obtain ⟨rfl, hsz, hP, hKK, hD0⟩ := hv
  have hK := hKK.1
  have hx := B.exec
  have hb := B.bytes
  have hr := B.returns
  have hts := atoms_spec (ws := wsX11_readsItem) B.pre
  have hown : s.vm.findClass RX11 = some m.cls := findClass_of_methodNamed B.named
  have hlocks := B.notSynchronized
  subst hsz
  have hD := hD0.self (sz := s.heap.size)
  generalize hAe : va_A [(m0, .inr (11, [.ref p0, .ref p1, .int i2, .ref p3, .int (nI tn), .ref p5, .int (nI sp), .int i7, .int i8, .int i9, .ref p10, .int i11, .ref p12, .ref p13, .ref p14, .int i15, .ref p16, .ref p17, .int i18, .ref p19, .ref p20, .ref p21, .ref p22, .int i23, .int i24, .ref p25, .ref p26, .ref p27, .ref p28, .ref p29, .ref p30, .ref p31, .ref p32])), (p3, .inl (cI, 120, .inl tx)), (p5, .inl (cI, 44, .inl md)), (p10, .inl (cI, 3, .inl fg))] s.heap.size = A at hD ⊢
  have hA : ∀ q : Nat, s.heap.size ≤ q → A q := fun q h => by rw [← hAe]; exact Or.inr h
  have hS : va_S A s.heap s.heap [] := va_S.rf
  have hD : va_D A [(m0, .inr (11, [.ref p0, .ref p1, .int i2, .ref p3, .int (nI tn), .ref p5, .int (nI sp), .int i7, .int i8, .int i9, .ref p10, .int i11, .ref p12, .ref p13, .ref p14, .int i15, .ref p16, .ref p17, .int i18, .ref p19, .ref p20, .ref p21, .ref p22, .int i23, .int i24, .ref p25, .ref p26, .ref p27, .ref p28, .ref p29, .ref p30, .ref p31, .ref p32])), (p3, .inl (cI, 120, .inl tx)), (p5, .inl (cI, 44, .inl md)), (p10, .inl (cI, 3, .inl fg))] := hD
  have hP : va_P D vwCl [(m0, .inr (11, [.ref p0, .ref p1, .int i2, .ref p3, .int (nI tn), .ref p5, .int (nI sp), .int i7, .int i8, .int i9, .ref p10, .int i11, .ref p12, .ref p13, .ref p14, .int i15, .ref p16, .ref p17, .int i18, .ref p19, .ref p20, .ref p21, .ref p22, .int i23, .int i24, .ref p25, .ref p26, .ref p27, .ref p28, .ref p29, .ref p30, .ref p31, .ref p32])), (p3, .inl (cI, 120, .inl tx)), (p5, .inl (cI, 44, .inl md)), (p10, .inl (cI, 3, .inl fg))] s.heap := hP
  have hl := lv_entry ([.ref m0, .int (nI h)]) (n := 4) (Nat.le_of_ble_eq_true rfl)
  rw [lg_entry_eq]
  generalize (lg_sl ([.ref m0, .int (nI h)]) ++ List.replicate (4 - (lg_sl ([.ref m0, .int (nI h)])).length) Slot.unset).toArray = ls at hl ⊢
  have hl : lv_has ls 4 [(0, .ref m0), (1, .int (nI h))] := hl
  refine lv_aload_n hx hb dX11_readsItem_0 rfl (lv_at hl 0 rfl) ?_
  refine ft_ci (r := ftWd tx sp (ftRun tx tn sp) 6) (wc := [(m0, .inr (11, [.ref p0, .ref p1, .int i2, .ref p3, .int (nI tn), .ref p5, .int (nI sp), .int i7, .int i8, .int i9, .ref p10, .int i11, .ref p12, .ref p13, .ref p14, .int i15, .ref p16, .ref p17, .int i18, .ref p19, .ref p20, .ref p21, .ref p22, .int i23, .int i24, .ref p25, .ref p26, .ref p27, .ref p28, .ref p29, .ref p30, .ref p31, .ref p32])), (p3, .inl (cI, 120, .inl tx))]) (wr := [(p5, .inl (cI, 44, .inl md)), (p10, .inl (cI, 3, .inl fg))]) (w1 := [(m0, .inr (11, [.ref p0, .ref p1, .int i2, .ref p3, .int (nI tn), .ref p5, .int (nI (sp + ftRun tx tn sp)), .int i7, .int i8, .int i9, .ref p10, .int i11, .ref p12, .ref p13, .ref p14, .int i15, .ref p16, .ref p17, .int i18, .ref p19, .ref p20, .ref p21, .ref p22, .int i23, .int i24, .ref p25, .ref p26, .ref p27, .ref p28, .ref p29, .ref p30, .ref p31, .ref p32])), (p3, .inl (cI, 120, .inl tx))]) (ws1 := [(m0, .inr (11, [.ref p0, .ref p1, .int i2, .ref p3, .int (nI tn), .ref p5, .int (nI (sp + ftRun tx tn sp)), .int i7, .int i8, .int i9, .ref p10, .int i11, .ref p12, .ref p13, .ref p14, .int i15, .ref p16, .ref p17, .int i18, .ref p19, .ref p20, .ref p21, .ref p22, .int i23, .int i24, .ref p25, .ref p26, .ref p27, .ref p28, .ref p29, .ref p30, .ref p31, .ref p32])), (p3, .inl (cI, 120, .inl tx)), (p5, .inl (cI, 44, .inl md)), (p10, .inl (cI, 3, .inl fg))]) (va_runV (C := RX11) (As := []) (rest := []) ⟨hx, hb, hml, hown, hts⟩ (c_X11_readsWord l D cI cS s.heap.size m0 p0 p1 p3 p5 p10 p12 p13 p14 p16 p17 p19 p20 p21 p22 p25 p26 p27 p28 p29 p30 p31 p32 i2 i7 i8 i9 i11 i15 i18 i23 i24 tx tn sp (by first | assumption | omega) (by first | assumption | omega)) (cwV 0 hts gX11_readsItem_X11_readsWord rfl rfl rfl (by decide +kernel) ⟨Nat.le_of_ble_eq_true rfl, Nat.le_of_ble_eq_true rfl⟩) (ft_preRWV (ci := 11) (q0 := 0) hP hD hKK [0, 1] rfl rfl rfl rfl rfl) rfl rfl hl.1 rfl (lv_room (Nat.le_of_ble_eq_true rfl)) dX11_readsItem_1 ⟨Nat.le_of_ble_eq_true rfl, Nat.le_of_ble_eq_true rfl⟩) hP hD hS hA [0, 1] [2, 3] [2, 3, 0, 1] rfl rfl (by decide) (by decide) (by decide) rfl rfl (fun H locs hP hD hS => ?_)
  have hP : va_P D vwCl [(m0, .inr (11, [.ref p0, .ref p1, .int i2, .ref p3, .int (nI tn), .ref p5, .int (nI (sp + ftRun tx tn sp)), .int i7, .int i8, .int i9, .ref p10, .int i11, .ref p12, .ref p13, .ref p14, .int i15, .ref p16, .ref p17, .int i18, .ref p19, .ref p20, .ref p21, .ref p22, .int i23, .int i24, .ref p25, .ref p26, .ref p27, .ref p28, .ref p29, .ref p30, .ref p31, .ref p32])), (p3, .inl (cI, 120, .inl tx)), (p5, .inl (cI, 44, .inl md)), (p10, .inl (cI, 3, .inl fg))] H := hP
  have hD : va_D A [(m0, .inr (11, [.ref p0, .ref p1, .int i2, .ref p3, .int (nI tn), .ref p5, .int (nI (sp + ftRun tx tn sp)), .int i7, .int i8, .int i9, .ref p10, .int i11, .ref p12, .ref p13, .ref p14, .int i15, .ref p16, .ref p17, .int i18, .ref p19, .ref p20, .ref p21, .ref p22, .int i23, .int i24, .ref p25, .ref p26, .ref p27, .ref p28, .ref p29, .ref p30, .ref p31, .ref p32])), (p3, .inl (cI, 120, .inl tx)), (p5, .inl (cI, 44, .inl md)), (p10, .inl (cI, 3, .inl fg))] := hD
  refine lv_istore_n (lv' := [(2, .int (ftWd tx sp (ftRun tx tn sp) 6)), (0, .ref m0), (1, .int (nI h))]) hx hb dX11_readsItem_4 rfl hl (by decide) rfl (fun ls hl => ?_)
  refine lv_aload_n hx hb dX11_readsItem_5 rfl (lv_at hl 1 rfl) ?_
  refine lv_iconst (v := 1) hx hb dX11_readsItem_6 (by decide) ?_
  refine va_put (D := D) (ci := 11) (v := .int 1) (ty := .int) (C := RX11) (T := TX11) (N := 33) hx hb hts (by decide +kernel) tyX11 tyX11_ok nmX11 hown hK hP hD hS 0 rfl rfl 8 (by decide) (hts (.fieldLink RX11 136 "FiberTraceModel" "why" "I") (by decide +kernel)) (fun _ h9 => h9) rfl (by decide +kernel) rfl rfl (Nat.le_of_ble_eq_true rfl) dX11_readsItem_7 (fun H locs hP hD hS => ?_)
  have hP : va_P D vwCl [(m0, .inr (11, [.ref p0, .ref p1, .int i2, .ref p3, .int (nI tn), .ref p5, .int (nI (sp + ftRun tx tn sp)), .int i7, .int 1, .int i9, .ref p10, .int i11, .ref p12, .ref p13, .ref p14, .int i15, .ref p16, .ref p17, .int i18, .ref p19, .ref p20, .ref p21, .ref p22, .int i23, .int i24, .ref p25, .ref p26, .ref p27, .ref p28, .ref p29, .ref p30, .ref p31, .ref p32])), (p3, .inl (cI, 120, .inl tx)), (p5, .inl (cI, 44, .inl md)), (p10, .inl (cI, 3, .inl fg))] H := hP
  have hD : va_D A [(m0, .inr (11, [.ref p0, .ref p1, .int i2, .ref p3, .int (nI tn), .ref p5, .int (nI (sp + ftRun tx tn sp)), .int i7, .int 1, .int i9, .ref p10, .int i11, .ref p12, .ref p13, .ref p14, .int i15, .ref p16, .ref p17, .int i18, .ref p19, .ref p20, .ref p21, .ref p22, .int i23, .int i24, .ref p25, .ref p26, .ref p27, .ref p28, .ref p29, .ref p30, .ref p31, .ref p32])), (p3, .inl (cI, 120, .inl tx)), (p5, .inl (cI, 44, .inl md)), (p10, .inl (cI, 3, .inl fg))] := hD
  refine lv_aload_n hx hb dX11_readsItem_10 rfl (lv_at hl 1 rfl) ?_
  refine lv_iconst (v := 0) hx hb dX11_readsItem_11 (by decide) ?_
  refine va_put (D := D) (ci := 11) (v := .int 0) (ty := .int) (C := RX11) (T := TX11) (N := 33) hx hb hts (by decide +kernel) tyX11 tyX11_ok nmX11 hown hK hP hD hS 0 rfl rfl 9 (by decide) (hts (.fieldLink RX11 139 "FiberTraceModel" "which" "I") (by decide +kernel)) (fun _ h9 => h9) rfl (by decide +kernel) rfl rfl (Nat.le_of_ble_eq_true rfl) dX11_readsItem_12 (fun H locs hP hD hS => ?_)
  have hP : va_P D vwCl [(m0, .inr (11, [.ref p0, .ref p1, .int i2, .ref p3, .int (nI tn), .ref p5, .int (nI (sp + ftRun tx tn sp)), .int i7, .int 1, .int 0, .ref p10, .int i11, .ref p12, .ref p13, .ref p14, .int i15, .ref p16, .ref p17, .int i18, .ref p19, .ref p20, .ref p21, .ref p22, .int i23, .int i24, .ref p25, .ref p26, .ref p27, .ref p28, .ref p29, .ref p30, .ref p31, .ref p32])), (p3, .inl (cI, 120, .inl tx)), (p5, .inl (cI, 44, .inl md)), (p10, .inl (cI, 3, .inl fg))] H := hP
  have hD : va_D A [(m0, .inr (11, [.ref p0, .ref p1, .int i2, .ref p3, .int (nI tn), .ref p5, .int (nI (sp + ftRun tx tn sp)), .int i7, .int 1, .int 0, .ref p10, .int i11, .ref p12, .ref p13, .ref p14, .int i15, .ref p16, .ref p17, .int i18, .ref p19, .ref p20, .ref p21, .ref p22, .int i23, .int i24, .ref p25, .ref p26, .ref p27, .ref p28, .ref p29, .ref p30, .ref p31, .ref p32])), (p3, .inl (cI, 120, .inl tx)), (p5, .inl (cI, 44, .inl md)), (p10, .inl (cI, 3, .inl fg))] := hD
  refine lv_iload_n hx hb dX11_readsItem_15 rfl (lv_at hl 0 rfl) ?_
  refine lv_if_ge (tgt := 21) hx hb dX11_readsItem_16 (by decide) (fun c16 => ?_) (fun c16 => ?_)
  · obtain ⟨j, hj, hW, hWP⟩ : ∃ j, j < 6 ∧ ftWd tx sp (ftRun tx tn sp) 6 = nI j ∧ ftWP tx sp (ftRun tx tn sp) j (ftWs j) := (ftWd_c tx sp (ftRun tx tn sp) 6).resolve_left (fun q => absurd c16 (by rw [q]; decide))
    rw [hW] at hl
    have hIw : ftIw tx tn sp = nI j := hW
    have hns3 := ftNs_le (nI j)
    have hns1 : 1 ≤ ftNs (nI j) := ftNs_ge (nI j)
    refine lv_aload_n hx hb dX11_readsItem_21 rfl (lv_at hl 1 rfl) ?_
    refine lv_iconst (v := 2) hx hb dX11_readsItem_22 (by decide) ?_
    refine va_put (D := D) (ci := 11) (v := .int 2) (ty := .int) (C := RX11) (T := TX11) (N := 33) hx hb hts (by decide +kernel) tyX11 tyX11_ok nmX11 hown hK hP hD hS 0 rfl rfl 8 (by decide) (hts (.fieldLink RX11 136 "FiberTraceModel" "why" "I") (by decide +kernel)) (fun _ h9 => h9) rfl (by decide +kernel) rfl rfl (Nat.le_of_ble_eq_true rfl) dX11_readsItem_23 (fun H locs hP hD hS => ?_)
    have hP : va_P D vwCl [(m0, .inr (11, [.ref p0, .ref p1, .int i2, .ref p3, .int (nI tn), .ref p5, .int (nI (sp + ftRun tx tn sp)), .int i7, .int 2, .int 0, .ref p10, .int i11, .ref p12, .ref p13, .ref p14, .int i15, .ref p16, .ref p17, .int i18, .ref p19, .ref p20, .ref p21, .ref p22, .int i23, .int i24, .ref p25, .ref p26, .ref p27, .ref p28, .ref p29, .ref p30, .ref p31, .ref p32])), (p3, .inl (cI, 120, .inl tx)), (p5, .inl (cI, 44, .inl md)), (p10, .inl (cI, 3, .inl fg))] H := hP
    have hD : va_D A [(m0, .inr (11, [.ref p0, .ref p1, .int i2, .ref p3, .int (nI tn), .ref p5, .int (nI (sp + ftRun tx tn sp)), .int i7, .int 2, .int 0, .ref p10, .int i11, .ref p12, .ref p13, .ref p14, .int i15, .ref p16, .ref p17, .int i18, .ref p19, .ref p20, .ref p21, .ref p22, .int i23, .int i24, .ref p25, .ref p26, .ref p27, .ref p28, .ref p29, .ref p30, .ref p31, .ref p32])), (p3, .inl (cI, 120, .inl tx)), (p5, .inl (cI, 44, .inl md)), (p10, .inl (cI, 3, .inl fg))] := hD
    refine lv_iconst (v := 0) hx hb dX11_readsItem_26 (by decide) ?_
    refine lv_istore_n (lv' := [(3, .int 0), (2, .int (nI j)), (0, .ref m0), (1, .int (nI h))]) hx hb dX11_readsItem_27 rfl hl (by decide) rfl (fun ls hl => ?_)
    have lp28 : ∀ (n28 : Nat) (i : Nat) (fd : Int32) (x28_3 : Int32) (g28_m0_6 : Int32) (g28_m0_9 : Int32) (g28_m0_11 : Int32) (g28_p10 : Nat → Int32), ftNs (nI j) - i < n28 → (i ≤ ftNs (nI j)) → (∀ t, t < i → ftNok tx tn (ftIp tx tn sp t)) → x28_3 = nI i → g28_m0_6 = nI (ftIp tx tn sp i) → g28_m0_9 = nI i → g28_m0_11 = fd → g28_p10 = ftIf tx tn sp fg i → ∀ (H : Heap) (locs : List Loc), va_P D vwCl [(m0, .inr (11, [.ref p0, .ref p1, .int i2, .ref p3, .int (nI tn), .ref p5, .int g28_m0_6, .int i7, .int 2, .int g28_m0_9, .ref p10, .int g28_m0_11, .ref p12, .ref p13, .ref p14, .int i15, .ref p16, .ref p17, .int i18, .ref p19, .ref p20, .ref p21, .ref p22, .int i23, .int i24, .ref p25, .ref p26, .ref p27, .ref p28, .ref p29, .ref p30, .ref p31, .ref p32])), (p3, .inl (cI, 120, .inl tx)), (p5, .inl (cI, 44, .inl md)), (p10, .inl (cI, 3, .inl g28_p10))] H → va_D A [(m0, .inr (11, [.ref p0, .ref p1, .int i2, .ref p3, .int (nI tn), .ref p5, .int g28_m0_6, .int i7, .int 2, .int g28_m0_9, .ref p10, .int g28_m0_11, .ref p12, .ref p13, .ref p14, .int i15, .ref p16, .ref p17, .int i18, .ref p19, .ref p20, .ref p21, .ref p22, .int i23, .int i24, .ref p25, .ref p26, .ref p27, .ref p28, .ref p29, .ref p30, .ref p31, .ref p32])), (p3, .inl (cI, 120, .inl tx)), (p5, .inl (cI, 44, .inl md)), (p10, .inl (cI, 3, .inl g28_p10))] → va_S A s.heap H locs → ∀ ls : Array Slot, lv_has ls 4 [(0, .ref m0), (1, .int (nI h)), (2, .int (nI j)), (3, .int x28_3)] → W p l e (headSpec wsX11_readsItem { frames := 2, cells := 0, slots := 0, locals := 50 }).room s m ([.ref m0, .int (nI h)] : List Value).toArray below meth c H locs 0 0 (MQ below (ftXi D [(m0, .inr (11, [.ref p0, .ref p1, .int i2, .ref p3, .int (nI tn), .ref p5, .int (nI sp), .int i7, .int i8, .int i9, .ref p10, .int i11, .ref p12, .ref p13, .ref p14, .int i15, .ref p16, .ref p17, .int i18, .ref p19, .ref p20, .ref p21, .ref p22, .int i23, .int i24, .ref p25, .ref p26, .ref p27, .ref p28, .ref p29, .ref p30, .ref p31, .ref p32])), (p3, .inl (cI, 120, .inl tx)), (p5, .inl (cI, 44, .inl md)), (p10, .inl (cI, 3, .inl fg))] s.heap.size (fun (o9 : Int32) (u : (Nat → Int32) × (Nat → Nat → Int32)) => o9 = ftB (ftItOk tx tn md h sp) ∧ (ftItOk tx tn md h sp → (u.1 0 = nI (ftItP tx tn sp) ∧ u.2 1 = ftItM tx tn md sp ∧ ∃ j, j < 6 ∧ u.2 0 2 = nI j ∧ ftIw tx tn sp = nI j))) (fun (u : (Nat → Int32) × (Nat → Nat → Int32)) => [(m0, .inr (11, [.ref p0, .ref p1, .int i2, .ref p3, .int (nI tn), .ref p5, .int (u.1 0), .int i7, .int (u.1 1), .int (u.1 2), .ref p10, .int (u.1 3), .ref p12, .ref p13, .ref p14, .int i15, .ref p16, .ref p17, .int i18, .ref p19, .ref p20, .ref p21, .ref p22, .int i23, .int i24, .ref p25, .ref p26, .ref p27, .ref p28, .ref p29, .ref p30, .ref p31, .ref p32])), (p3, .inl (cI, 120, .inl tx)), (p5, .inl (cI, 44, .inl (u.2 1))), (p10, .inl (cI, 3, .inl (u.2 0)))])) ([.ref m0, .int (nI h)] : List Value).toArray s 0 0 A) (F0 m 28 ls []) := by
      intro n28
      induction n28 with
      | zero =>
        intro i fd x28_3 g28_m0_6 g28_m0_9 g28_m0_11 g28_p10 hm28
        exact absurd hm28 (Nat.not_lt_zero _)
      | succ n28 ih28 =>
        intro i fd x28_3 g28_m0_6 g28_m0_9 g28_m0_11 g28_p10 hm28 hin hnk ex28_3 eg28_m0_6 eg28_m0_9 eg28_m0_11 eg28_p10 H locs hP hD hS ls hl
        subst ex28_3
        subst eg28_m0_6
        subst eg28_m0_9
        replace eg28_m0_11 := eg28_m0_11.symm; subst eg28_m0_11
        have hpi := ftIp_le (tx := tx) hp9 i
        refine lv_iload_n hx hb dX11_readsItem_28 rfl (lv_at hl 3 rfl) ?_
        refine lv_iload_n hx hb dX11_readsItem_29 rfl (lv_at hl 2 rfl) ?_
        refine ft_csi (r := nI (ftNs (nI j))) (va_runS (As := [.int (nI j)]) (rest := [.int (nI i)]) ⟨hx, hb, hml, hown, hts⟩ (c_X11_numbersOf l D cI cS (nI j)) (va_cwS 1 hts gX11_readsItem_X11_numbersOf rfl rfl rfl (by decide +kernel) ⟨Nat.le_of_ble_eq_true rfl, Nat.le_of_ble_eq_true rfl⟩) (ft_preRO hP hKK [] rfl) rfl rfl hl.1 rfl (lv_room (Nat.le_of_ble_eq_true rfl)) dX11_readsItem_30 ⟨Nat.le_of_ble_eq_true rfl, Nat.le_of_ble_eq_true rfl⟩) ?_
        refine lv_icmp_ge (tgt := 63) hx hb dX11_readsItem_33 (by decide) (fun c33 => ?_) (fun c33 => ?_)
        · have c33n : (ftNs (nI j)) ≤ i := ft_leN (by omega) (by omega) c33
          refine lv_aload_n hx hb dX11_readsItem_63 rfl (lv_at hl 0 rfl) ?_
          refine lv_iconst (v := 3) hx hb dX11_readsItem_64 (by decide) ?_
          refine va_put (D := D) (ci := 11) (v := .int 3) (ty := .int) (C := RX11) (T := TX11) (N := 33) hx hb hts (by decide +kernel) tyX11 tyX11_ok nmX11 hown hK hP hD hS 0 rfl rfl 8 (by decide) (hts (.fieldLink RX11 136 "FiberTraceModel" "why" "I") (by decide +kernel)) (fun _ h9 => h9) rfl (by decide +kernel) rfl rfl (Nat.le_of_ble_eq_true rfl) dX11_readsItem_65 (fun H locs hP hD hS => ?_)
          have hP : va_P D vwCl [(m0, .inr (11, [.ref p0, .ref p1, .int i2, .ref p3, .int (nI tn), .ref p5, .int (nI (ftIp tx tn sp i)), .int i7, .int 3, .int (nI i), .ref p10, .int fd, .ref p12, .ref p13, .ref p14, .int i15, .ref p16, .ref p17, .int i18, .ref p19, .ref p20, .ref p21, .ref p22, .int i23, .int i24, .ref p25, .ref p26, .ref p27, .ref p28, .ref p29, .ref p30, .ref p31, .ref p32])), (p3, .inl (cI, 120, .inl tx)), (p5, .inl (cI, 44, .inl md)), (p10, .inl (cI, 3, .inl g28_p10))] H := hP
          have hD : va_D A [(m0, .inr (11, [.ref p0, .ref p1, .int i2, .ref p3, .int (nI tn), .ref p5, .int (nI (ftIp tx tn sp i)), .int i7, .int 3, .int (nI i), .ref p10, .int fd, .ref p12, .ref p13, .ref p14, .int i15, .ref p16, .ref p17, .int i18, .ref p19, .ref p20, .ref p21, .ref p22, .int i23, .int i24, .ref p25, .ref p26, .ref p27, .ref p28, .ref p29, .ref p30, .ref p31, .ref p32])), (p3, .inl (cI, 120, .inl tx)), (p5, .inl (cI, 44, .inl md)), (p10, .inl (cI, 3, .inl g28_p10))] := hD
          refine lv_iconst (v := 0) hx hb dX11_readsItem_68 (by decide) ?_
          refine lv_istore_n (lv' := [(3, .int 0), (0, .ref m0), (1, .int (nI h)), (2, .int (nI j))]) hx hb dX11_readsItem_69 rfl hl (by decide) rfl (fun ls hl => ?_)
          have lp70 : ∀ (n70 : Nat) (iz : Nat) (wh : Int32) (x70_3 : Int32) (g70_m0_9 : Int32), ftNs (nI j) - iz < n70 → (iz ≤ ftNs (nI j)) → (∀ t, t < iz → ftRt (nI j) t (ftIv tx tn sp t) (md 0)) → x70_3 = nI iz → g70_m0_9 = wh → ∀ (H : Heap) (locs : List Loc), va_P D vwCl [(m0, .inr (11, [.ref p0, .ref p1, .int i2, .ref p3, .int (nI tn), .ref p5, .int (nI (ftIp tx tn sp i)), .int i7, .int 3, .int g70_m0_9, .ref p10, .int fd, .ref p12, .ref p13, .ref p14, .int i15, .ref p16, .ref p17, .int i18, .ref p19, .ref p20, .ref p21, .ref p22, .int i23, .int i24, .ref p25, .ref p26, .ref p27, .ref p28, .ref p29, .ref p30, .ref p31, .ref p32])), (p3, .inl (cI, 120, .inl tx)), (p5, .inl (cI, 44, .inl md)), (p10, .inl (cI, 3, .inl g28_p10))] H → va_D A [(m0, .inr (11, [.ref p0, .ref p1, .int i2, .ref p3, .int (nI tn), .ref p5, .int (nI (ftIp tx tn sp i)), .int i7, .int 3, .int g70_m0_9, .ref p10, .int fd, .ref p12, .ref p13, .ref p14, .int i15, .ref p16, .ref p17, .int i18, .ref p19, .ref p20, .ref p21, .ref p22, .int i23, .int i24, .ref p25, .ref p26, .ref p27, .ref p28, .ref p29, .ref p30, .ref p31, .ref p32])), (p3, .inl (cI, 120, .inl tx)), (p5, .inl (cI, 44, .inl md)), (p10, .inl (cI, 3, .inl g28_p10))] → va_S A s.heap H locs → ∀ ls : Array Slot, lv_has ls 4 [(0, .ref m0), (1, .int (nI h)), (2, .int (nI j)), (3, .int x70_3)] → W p l e (headSpec wsX11_readsItem { frames := 2, cells := 0, slots := 0, locals := 50 }).room s m ([.ref m0, .int (nI h)] : List Value).toArray below meth c H locs 0 0 (MQ below (ftXi D [(m0, .inr (11, [.ref p0, .ref p1, .int i2, .ref p3, .int (nI tn), .ref p5, .int (nI sp), .int i7, .int i8, .int i9, .ref p10, .int i11, .ref p12, .ref p13, .ref p14, .int i15, .ref p16, .ref p17, .int i18, .ref p19, .ref p20, .ref p21, .ref p22, .int i23, .int i24, .ref p25, .ref p26, .ref p27, .ref p28, .ref p29, .ref p30, .ref p31, .ref p32])), (p3, .inl (cI, 120, .inl tx)), (p5, .inl (cI, 44, .inl md)), (p10, .inl (cI, 3, .inl fg))] s.heap.size (fun (o9 : Int32) (u : (Nat → Int32) × (Nat → Nat → Int32)) => o9 = ftB (ftItOk tx tn md h sp) ∧ (ftItOk tx tn md h sp → (u.1 0 = nI (ftItP tx tn sp) ∧ u.2 1 = ftItM tx tn md sp ∧ ∃ j, j < 6 ∧ u.2 0 2 = nI j ∧ ftIw tx tn sp = nI j))) (fun (u : (Nat → Int32) × (Nat → Nat → Int32)) => [(m0, .inr (11, [.ref p0, .ref p1, .int i2, .ref p3, .int (nI tn), .ref p5, .int (u.1 0), .int i7, .int (u.1 1), .int (u.1 2), .ref p10, .int (u.1 3), .ref p12, .ref p13, .ref p14, .int i15, .ref p16, .ref p17, .int i18, .ref p19, .ref p20, .ref p21, .ref p22, .int i23, .int i24, .ref p25, .ref p26, .ref p27, .ref p28, .ref p29, .ref p30, .ref p31, .ref p32])), (p3, .inl (cI, 120, .inl tx)), (p5, .inl (cI, 44, .inl (u.2 1))), (p10, .inl (cI, 3, .inl (u.2 0)))])) ([.ref m0, .int (nI h)] : List Value).toArray s 0 0 A) (F0 m 70 ls []) := by
            intro n70
            induction n70 with
            | zero =>
              intro iz wh x70_3 g70_m0_9 hm70
              exact absurd hm70 (Nat.not_lt_zero _)
            | succ n70 ih70 =>
              intro iz wh x70_3 g70_m0_9 hm70 hin2 hrt ex70_3 eg70_m0_9 H locs hP hD hS ls hl
              subst ex70_3
              replace eg70_m0_9 := eg70_m0_9.symm; subst eg70_m0_9
              have hfi : ∀ t, t < ftNs (nI j) → g28_p10 t = ftIv tx tn sp t := fun t ht => by rw [eg28_p10, show i = ftNs (nI j) by omega]; exact ftIf_at _ (by rw [← show i = ftNs (nI j) by omega]; exact hnk) t ht
              refine lv_iload_n hx hb dX11_readsItem_70 rfl (lv_at hl 3 rfl) ?_
              refine lv_iload_n hx hb dX11_readsItem_71 rfl (lv_at hl 2 rfl) ?_
              refine ft_csi (r := nI (ftNs (nI j))) (va_runS (As := [.int (nI j)]) (rest := [.int (nI iz)]) ⟨hx, hb, hml, hown, hts⟩ (c_X11_numbersOf l D cI cS (nI j)) (va_cwS 1 hts gX11_readsItem_X11_numbersOf rfl rfl rfl (by decide +kernel) ⟨Nat.le_of_ble_eq_true rfl, Nat.le_of_ble_eq_true rfl⟩) (ft_preRO hP hKK [] rfl) rfl rfl hl.1 rfl (lv_room (Nat.le_of_ble_eq_true rfl)) dX11_readsItem_72 ⟨Nat.le_of_ble_eq_true rfl, Nat.le_of_ble_eq_true rfl⟩) ?_
              refine lv_icmp_ge (tgt := 102) hx hb dX11_readsItem_75 (by decide) (fun c75 => ?_) (fun c75 => ?_)
              · have c75n : (ftNs (nI j)) ≤ iz := ft_leN (by omega) (by omega) c75
                have hi9 : i = ftNs (nI j) := by omega
                refine lv_aload_n hx hb dX11_readsItem_102 rfl (lv_at hl 0 rfl) ?_
                refine lv_iconst (v := 4) hx hb dX11_readsItem_103 (by decide) ?_
                refine va_put (D := D) (ci := 11) (v := .int 4) (ty := .int) (C := RX11) (T := TX11) (N := 33) hx hb hts (by decide +kernel) tyX11 tyX11_ok nmX11 hown hK hP hD hS 0 rfl rfl 8 (by decide) (hts (.fieldLink RX11 136 "FiberTraceModel" "why" "I") (by decide +kernel)) (fun _ h9 => h9) rfl (by decide +kernel) rfl rfl (Nat.le_of_ble_eq_true rfl) dX11_readsItem_104 (fun H locs hP hD hS => ?_)
                have hP : va_P D vwCl [(m0, .inr (11, [.ref p0, .ref p1, .int i2, .ref p3, .int (nI tn), .ref p5, .int (nI (ftIp tx tn sp i)), .int i7, .int 4, .int wh, .ref p10, .int fd, .ref p12, .ref p13, .ref p14, .int i15, .ref p16, .ref p17, .int i18, .ref p19, .ref p20, .ref p21, .ref p22, .int i23, .int i24, .ref p25, .ref p26, .ref p27, .ref p28, .ref p29, .ref p30, .ref p31, .ref p32])), (p3, .inl (cI, 120, .inl tx)), (p5, .inl (cI, 44, .inl md)), (p10, .inl (cI, 3, .inl g28_p10))] H := hP
                have hD : va_D A [(m0, .inr (11, [.ref p0, .ref p1, .int i2, .ref p3, .int (nI tn), .ref p5, .int (nI (ftIp tx tn sp i)), .int i7, .int 4, .int wh, .ref p10, .int fd, .ref p12, .ref p13, .ref p14, .int i15, .ref p16, .ref p17, .int i18, .ref p19, .ref p20, .ref p21, .ref p22, .int i23, .int i24, .ref p25, .ref p26, .ref p27, .ref p28, .ref p29, .ref p30, .ref p31, .ref p32])), (p3, .inl (cI, 120, .inl tx)), (p5, .inl (cI, 44, .inl md)), (p10, .inl (cI, 3, .inl g28_p10))] := hD
                refine lv_aload_n hx hb dX11_readsItem_107 rfl (lv_at hl 0 rfl) ?_
                refine lv_iload_n hx hb dX11_readsItem_108 rfl (lv_at hl 2 rfl) ?_
                refine ft_csi (r := nI (ftNs (nI j))) (va_runS (As := [.int (nI j)]) (rest := [.ref m0]) ⟨hx, hb, hml, hown, hts⟩ (c_X11_numbersOf l D cI cS (nI j)) (va_cwS 1 hts gX11_readsItem_X11_numbersOf rfl rfl rfl (by decide +kernel) ⟨Nat.le_of_ble_eq_true rfl, Nat.le_of_ble_eq_true rfl⟩) (ft_preRO hP hKK [] rfl) rfl rfl hl.1 rfl (lv_room (Nat.le_of_ble_eq_true rfl)) dX11_readsItem_109 ⟨Nat.le_of_ble_eq_true rfl, Nat.le_of_ble_eq_true rfl⟩) ?_
                refine va_put (D := D) (ci := 11) (v := .int (nI (ftNs (nI j)))) (ty := .int) (C := RX11) (T := TX11) (N := 33) hx hb hts (by decide +kernel) tyX11 tyX11_ok nmX11 hown hK hP hD hS 0 rfl rfl 9 (by decide) (hts (.fieldLink RX11 139 "FiberTraceModel" "which" "I") (by decide +kernel)) (fun _ h9 => h9) rfl (by decide +kernel) rfl rfl (Nat.le_of_ble_eq_true rfl) dX11_readsItem_112 (fun H locs hP hD hS => ?_)
                have hP : va_P D vwCl [(m0, .inr (11, [.ref p0, .ref p1, .int i2, .ref p3, .int (nI tn), .ref p5, .int (nI (ftIp tx tn sp i)), .int i7, .int 4, .int (nI (ftNs (nI j))), .ref p10, .int fd, .ref p12, .ref p13, .ref p14, .int i15, .ref p16, .ref p17, .int i18, .ref p19, .ref p20, .ref p21, .ref p22, .int i23, .int i24, .ref p25, .ref p26, .ref p27, .ref p28, .ref p29, .ref p30, .ref p31, .ref p32])), (p3, .inl (cI, 120, .inl tx)), (p5, .inl (cI, 44, .inl md)), (p10, .inl (cI, 3, .inl g28_p10))] H := hP
                have hD : va_D A [(m0, .inr (11, [.ref p0, .ref p1, .int i2, .ref p3, .int (nI tn), .ref p5, .int (nI (ftIp tx tn sp i)), .int i7, .int 4, .int (nI (ftNs (nI j))), .ref p10, .int fd, .ref p12, .ref p13, .ref p14, .int i15, .ref p16, .ref p17, .int i18, .ref p19, .ref p20, .ref p21, .ref p22, .int i23, .int i24, .ref p25, .ref p26, .ref p27, .ref p28, .ref p29, .ref p30, .ref p31, .ref p32])), (p3, .inl (cI, 120, .inl tx)), (p5, .inl (cI, 44, .inl md)), (p10, .inl (cI, 3, .inl g28_p10))] := hD
                refine lv_iload_n hx hb dX11_readsItem_115 rfl (lv_at hl 2 rfl) ?_
                refine lv_iconst (v := 3) hx hb dX11_readsItem_116 (by decide) ?_
                refine lv_icmp_ge (tgt := 141) hx hb dX11_readsItem_117 (by decide) (fun c117 => ?_) (fun c117 => ?_)
                · have c117n : 3 ≤ j := ft_leN (by omega) (by omega) c117
                  have hf0 : g28_p10 0 = ftIv tx tn sp 0 := hfi 0 (by omega)
                  have hnl3 : ¬ nI j < 3 := Int32.not_lt.mpr c117
                  have hns2 := ftNs_2 hnl3
                  have hf1 : g28_p10 1 = ftIv tx tn sp 1 := hfi 1 (by omega)
                  refine lv_aload_n hx hb dX11_readsItem_141 rfl (lv_at hl 0 rfl) ?_
                  refine lv_aload_n hx hb dX11_readsItem_142 rfl (lv_at hl 0 rfl) ?_
                  refine va_get (D := D) (ci := 11) (v := .ref p10) (C := RX11) (T := TX11) (N := 33) hx hb hts (by decide +kernel) hown hK hP 0 rfl rfl 10 (by decide) (hts (.fieldLink RX11 22 "FiberTraceModel" "figured" "[I") (by decide +kernel)) (fun _ h9 => h9) rfl dX11_readsItem_143 ?_
                  refine lv_iconst (v := 0) hx hb dX11_readsItem_146 (by decide) ?_
                  refine va_iald hx hb hK hP 3 0 rfl rfl (vp_in_nI (n := 0) (by omega) (by omega)) dX11_readsItem_147 ?_
                  refine ft_top (y := g28_p10 0) rfl ?_
                  refine ft_csi (r := ftB (∃ t, t < n ∧ md (4 + 4 * t + 1) = (g28_p10 0))) (va_runV (C := RX11) (As := [.int (g28_p10 0)]) (rest := []) ⟨hx, hb, hml, hown, hts⟩ (c_X11_hasMadePlace l D cI cS m0 p0 p1 p3 p5 p10 p12 p13 p14 p16 p17 p19 p20 p21 p22 p25 p26 p27 p28 p29 p30 p31 p32 i2 (nI tn) (nI (ftIp tx tn sp i)) i7 4 (nI (ftNs (nI j))) fd i15 i18 i23 i24 md (g28_p10 0) n hw3 hn) (cwV 1 hts gX11_readsItem_X11_hasMadePlace rfl rfl rfl (by decide +kernel) ⟨Nat.le_of_ble_eq_true rfl, Nat.le_of_ble_eq_true rfl⟩) (ft_preROV (ci := 11) (q0 := 0) hP hKK [0, 2] rfl rfl rfl) rfl rfl hl.1 rfl (lv_room (Nat.le_of_ble_eq_true rfl)) dX11_readsItem_148 ⟨Nat.le_of_ble_eq_true rfl, Nat.le_of_ble_eq_true rfl⟩) ?_
                  refine lv_if_ne (tgt := 165) hx hb dX11_readsItem_151 (by decide) (fun c151 => ?_) (fun c151 => ?_)
                  · replace c151 := ftB_ne c151
                    have hnok : ¬ ftItOk tx tn md h sp := fun q => by have q4 := (q.2.2.2.1.2 (by rw [hIw]; exact hnl3)).1; rw [hw3, nI_clamp (by omega), ← hf0] at q4; exact q4 c151
                    refine lv_iconst (v := 0) hx hb dX11_readsItem_165 (by decide) ?_
                    obtain ⟨u9, hu9⟩ : ∃ u9 : (Nat → Int32) × (Nat → Nat → Int32), u9 = ((fun k => match k with | 0 => (nI (ftIp tx tn sp i)) | 1 => 4 | 2 => (nI (ftNs (nI j))) | _ => fd), (fun k => match k with | 0 => g28_p10 | _ => md)) := ⟨_, rfl⟩
                    have hw9 : ([(m0, .inr (11, [.ref p0, .ref p1, .int i2, .ref p3, .int (nI tn), .ref p5, .int (nI (ftIp tx tn sp i)), .int i7, .int 4, .int (nI (ftNs (nI j))), .ref p10, .int fd, .ref p12, .ref p13, .ref p14, .int i15, .ref p16, .ref p17, .int i18, .ref p19, .ref p20, .ref p21, .ref p22, .int i23, .int i24, .ref p25, .ref p26, .ref p27, .ref p28, .ref p29, .ref p30, .ref p31, .ref p32])), (p3, .inl (cI, 120, .inl tx)), (p5, .inl (cI, 44, .inl md)), (p10, .inl (cI, 3, .inl g28_p10))] : va_W) = [(m0, .inr (11, [.ref p0, .ref p1, .int i2, .ref p3, .int (nI tn), .ref p5, .int (u9.1 0), .int i7, .int (u9.1 1), .int (u9.1 2), .ref p10, .int (u9.1 3), .ref p12, .ref p13, .ref p14, .int i15, .ref p16, .ref p17, .int i18, .ref p19, .ref p20, .ref p21, .ref p22, .int i23, .int i24, .ref p25, .ref p26, .ref p27, .ref p28, .ref p29, .ref p30, .ref p31, .ref p32])), (p3, .inl (cI, 120, .inl tx)), (p5, .inl (cI, 44, .inl (u9.2 1))), (p10, .inl (cI, 3, .inl (u9.2 0)))] := by subst hu9; rfl
                    rw [hw9] at hP hD
                    have hf9_0 : ftItOk tx tn md h sp → (u9.1 0 = nI (ftItP tx tn sp) ∧ u9.2 1 = ftItM tx tn md sp ∧ ∃ j, j < 6 ∧ u9.2 0 2 = nI j ∧ ftIw tx tn sp = nI j) := by intro q; exact absurd q hnok
                    have hr9 : (0 : Int32) = ftB (ftItOk tx tn md h sp) := by exact (ftB_f hnok).symm
                    exact W.zret (v := 0) hx hb hr (by rfl) (fun t ht hW => ⟨⟨0, u9, rfl, ⟨hr9, hf9_0⟩, by rw [ht]; exact hP, by rw [hAe]; exact hD⟩, by rw [hAe]; exact hS.F ht⟩) hS.2.2 dX11_readsItem_166
                  · replace c151 := ftB_eq c151
                    refine lv_aload_n hx hb dX11_readsItem_154 rfl (lv_at hl 0 rfl) ?_
                    refine va_get (D := D) (ci := 11) (v := .ref p5) (C := RX11) (T := TX11) (N := 33) hx hb hts (by decide +kernel) hown hK hP 0 rfl rfl 5 (by decide) (hts (.fieldLink RX11 19 "FiberTraceModel" "made" "[I") (by decide +kernel)) (fun _ h9 => h9) rfl dX11_readsItem_155 ?_
                    refine lv_iconst (v := 3) hx hb dX11_readsItem_158 (by decide) ?_
                    refine va_iald hx hb hK hP 2 0 rfl rfl (vp_in_nI (n := 3) (by omega) (by omega)) dX11_readsItem_159 ?_
                    refine ft_top (y := md 3) rfl ?_
                    refine lv_bipush (v := 10) hx hb dX11_readsItem_160 (by decide) ?_
                    refine lv_icmp_ne (tgt := 167) hx hb dX11_readsItem_162 (by decide) (fun c162 => ?_) (fun c162 => ?_)
                    · have hn10 : n ≠ 10 := fun r => c162 (by rw [hw3, r]; rfl)
                      have hal : ftAl (nI j) md h (ftIv tx tn sp 0) := by
                        refine ⟨fun q => ?_, fun q => ?_⟩
                        · first | exact absurd q hnl3 | exact ⟨by rw [nI_clamp (by omega)]; exact c126n, c135⟩
                        · first | exact absurd hlt3 q | exact ⟨by rw [hw3, nI_clamp (by omega), ← hf0]; exact c151, c162⟩
                      refine lv_aload_n hx hb dX11_readsItem_167 rfl (lv_at hl 0 rfl) ?_
                      refine lv_iconst (v := 5) hx hb dX11_readsItem_168 (by decide) ?_
                      refine va_put (D := D) (ci := 11) (v := .int 5) (ty := .int) (C := RX11) (T := TX11) (N := 33) hx hb hts (by decide +kernel) tyX11 tyX11_ok nmX11 hown hK hP hD hS 0 rfl rfl 8 (by decide) (hts (.fieldLink RX11 136 "FiberTraceModel" "why" "I") (by decide +kernel)) (fun _ h9 => h9) rfl (by decide +kernel) rfl rfl (Nat.le_of_ble_eq_true rfl) dX11_readsItem_169 (fun H locs hP hD hS => ?_)
                      have hP : va_P D vwCl [(m0, .inr (11, [.ref p0, .ref p1, .int i2, .ref p3, .int (nI tn), .ref p5, .int (nI (ftIp tx tn sp i)), .int i7, .int 5, .int (nI (ftNs (nI j))), .ref p10, .int fd, .ref p12, .ref p13, .ref p14, .int i15, .ref p16, .ref p17, .int i18, .ref p19, .ref p20, .ref p21, .ref p22, .int i23, .int i24, .ref p25, .ref p26, .ref p27, .ref p28, .ref p29, .ref p30, .ref p31, .ref p32])), (p3, .inl (cI, 120, .inl tx)), (p5, .inl (cI, 44, .inl md)), (p10, .inl (cI, 3, .inl g28_p10))] H := hP
                      have hD : va_D A [(m0, .inr (11, [.ref p0, .ref p1, .int i2, .ref p3, .int (nI tn), .ref p5, .int (nI (ftIp tx tn sp i)), .int i7, .int 5, .int (nI (ftNs (nI j))), .ref p10, .int fd, .ref p12, .ref p13, .ref p14, .int i15, .ref p16, .ref p17, .int i18, .ref p19, .ref p20, .ref p21, .ref p22, .int i23, .int i24, .ref p25, .ref p26, .ref p27, .ref p28, .ref p29, .ref p30, .ref p31, .ref p32])), (p3, .inl (cI, 120, .inl tx)), (p5, .inl (cI, 44, .inl md)), (p10, .inl (cI, 3, .inl g28_p10))] := hD
                      refine lv_aload_n hx hb dX11_readsItem_172 rfl (lv_at hl 0 rfl) ?_
                      refine va_get (D := D) (ci := 11) (v := .int (nI (ftIp tx tn sp i))) (C := RX11) (T := TX11) (N := 33) hx hb hts (by decide +kernel) hown hK hP 0 rfl rfl 6 (by decide) (hts (.fieldLink RX11 100 "FiberTraceModel" "spot" "I") (by decide +kernel)) (fun _ h9 => h9) rfl dX11_readsItem_173 ?_
                      refine lv_aload_n hx hb dX11_readsItem_176 rfl (lv_at hl 0 rfl) ?_
                      refine va_get (D := D) (ci := 11) (v := .int (nI tn)) (C := RX11) (T := TX11) (N := 33) hx hb hts (by decide +kernel) hown hK hP 0 rfl rfl 4 (by decide) (hts (.fieldLink RX11 96 "FiberTraceModel" "length" "I") (by decide +kernel)) (fun _ h9 => h9) rfl dX11_readsItem_177 ?_
                      refine lv_icmp_eq (tgt := 197) hx hb dX11_readsItem_180 (by decide) (fun c180 => ?_) (fun c180 => ?_)
                      · have c180n : (ftIp tx tn sp i) = tn := ft_eqN (by omega) (by omega) c180
                        have hnok : ¬ ftItOk tx tn md h sp := fun q => by have q5 := q.2.2.2.2.1; rw [hIw, ← hi9] at q5; omega
                        refine lv_iconst (v := 0) hx hb dX11_readsItem_197 (by decide) ?_
                        obtain ⟨u9, hu9⟩ : ∃ u9 : (Nat → Int32) × (Nat → Nat → Int32), u9 = ((fun k => match k with | 0 => (nI (ftIp tx tn sp i)) | 1 => 5 | 2 => (nI (ftNs (nI j))) | _ => fd), (fun k => match k with | 0 => g28_p10 | _ => md)) := ⟨_, rfl⟩
                        have hw9 : ([(m0, .inr (11, [.ref p0, .ref p1, .int i2, .ref p3, .int (nI tn), .ref p5, .int (nI (ftIp tx tn sp i)), .int i7, .int 5, .int (nI (ftNs (nI j))), .ref p10, .int fd, .ref p12, .ref p13, .ref p14, .int i15, .ref p16, .ref p17, .int i18, .ref p19, .ref p20, .ref p21, .ref p22, .int i23, .int i24, .ref p25, .ref p26, .ref p27, .ref p28, .ref p29, .ref p30, .ref p31, .ref p32])), (p3, .inl (cI, 120, .inl tx)), (p5, .inl (cI, 44, .inl md)), (p10, .inl (cI, 3, .inl g28_p10))] : va_W) = [(m0, .inr (11, [.ref p0, .ref p1, .int i2, .ref p3, .int (nI tn), .ref p5, .int (u9.1 0), .int i7, .int (u9.1 1), .int (u9.1 2), .ref p10, .int (u9.1 3), .ref p12, .ref p13, .ref p14, .int i15, .ref p16, .ref p17, .int i18, .ref p19, .ref p20, .ref p21, .ref p22, .int i23, .int i24, .ref p25, .ref p26, .ref p27, .ref p28, .ref p29, .ref p30, .ref p31, .ref p32])), (p3, .inl (cI, 120, .inl tx)), (p5, .inl (cI, 44, .inl (u9.2 1))), (p10, .inl (cI, 3, .inl (u9.2 0)))] := by subst hu9; rfl
                        rw [hw9] at hP hD
                        have hf9_0 : ftItOk tx tn md h sp → (u9.1 0 = nI (ftItP tx tn sp) ∧ u9.2 1 = ftItM tx tn md sp ∧ ∃ j, j < 6 ∧ u9.2 0 2 = nI j ∧ ftIw tx tn sp = nI j) := by intro q; exact absurd q hnok
                        have hr9 : (0 : Int32) = ftB (ftItOk tx tn md h sp) := by exact (ftB_f hnok).symm
                        exact W.zret (v := 0) hx hb hr (by rfl) (fun t ht hW => ⟨⟨0, u9, rfl, ⟨hr9, hf9_0⟩, by rw [ht]; exact hP, by rw [hAe]; exact hD⟩, by rw [hAe]; exact hS.F ht⟩) hS.2.2 dX11_readsItem_198
                      · have c180n : (ftIp tx tn sp i) ≠ tn := ft_neN (by omega) (by omega) c180
                        refine lv_aload_n hx hb dX11_readsItem_183 rfl (lv_at hl 0 rfl) ?_
                        refine va_get (D := D) (ci := 11) (v := .ref p3) (C := RX11) (T := TX11) (N := 33) hx hb hts (by decide +kernel) hown hK hP 0 rfl rfl 3 (by decide) (hts (.fieldLink RX11 16 "FiberTraceModel" "text" "[I") (by decide +kernel)) (fun _ h9 => h9) rfl dX11_readsItem_184 ?_
                        refine lv_aload_n hx hb dX11_readsItem_187 rfl (lv_at hl 0 rfl) ?_
                        refine va_get (D := D) (ci := 11) (v := .int (nI (ftIp tx tn sp i))) (C := RX11) (T := TX11) (N := 33) hx hb hts (by decide +kernel) hown hK hP 0 rfl rfl 6 (by decide) (hts (.fieldLink RX11 100 "FiberTraceModel" "spot" "I") (by decide +kernel)) (fun _ h9 => h9) rfl dX11_readsItem_188 ?_
                        refine va_iald hx hb hK hP 1 0 rfl rfl (vp_in_nI (by omega) (by omega)) dX11_readsItem_191 ?_
                        refine ft_top (y := tx (ftIp tx tn sp i)) (ft_clampN (by omega)) ?_
                        refine lv_bipush (v := 59) hx hb dX11_readsItem_192 (by decide) ?_
                        refine lv_icmp_eq (tgt := 199) hx hb dX11_readsItem_194 (by decide) (fun c194 => ?_) (fun c194 => ?_)
                        · have hcl : tx (ftIp tx tn sp i) = 59 := c194
                          have hpl : ftIp tx tn sp i < tn := by have := ftIp_le (tx := tx) hp9 i; omega
                          have hall : ftItOk tx tn md h sp := ⟨by rw [hIw]; exact nI_pos (by omega), by rw [hIw, ← hi9]; exact hnk, by rw [hIw]; exact fun t ht => hrt t (by omega), by rw [hIw]; exact hal, by rw [hIw, ← hi9]; exact hpl, by rw [hIw, ← hi9]; exact hcl⟩
                          refine lv_aload_n hx hb dX11_readsItem_199 rfl (lv_at hl 0 rfl) ?_
                          refine lv_dup hx hb dX11_readsItem_200 rfl ?_
                          refine va_get (D := D) (ci := 11) (v := .int (nI (ftIp tx tn sp i))) (C := RX11) (T := TX11) (N := 33) hx hb hts (by decide +kernel) hown hK hP 0 rfl rfl 6 (by decide) (hts (.fieldLink RX11 100 "FiberTraceModel" "spot" "I") (by decide +kernel)) (fun _ h9 => h9) rfl dX11_readsItem_201 ?_
                          refine lv_iconst (v := 1) hx hb dX11_readsItem_204 (by decide) ?_
                          refine lv_iadd hx hb dX11_readsItem_205 ?_
                          refine ft_top (y := nI ((ftIp tx tn sp i) + 1)) (ft_addN (ftIp tx tn sp i) 1) ?_
                          refine va_put (D := D) (ci := 11) (v := .int (nI ((ftIp tx tn sp i) + 1))) (ty := .int) (C := RX11) (T := TX11) (N := 33) hx hb hts (by decide +kernel) tyX11 tyX11_ok nmX11 hown hK hP hD hS 0 rfl rfl 6 (by decide) (hts (.fieldLink RX11 100 "FiberTraceModel" "spot" "I") (by decide +kernel)) (fun _ h9 => h9) rfl (by decide +kernel) rfl rfl (Nat.le_of_ble_eq_true rfl) dX11_readsItem_206 (fun H locs hP hD hS => ?_)
                          have hP : va_P D vwCl [(m0, .inr (11, [.ref p0, .ref p1, .int i2, .ref p3, .int (nI tn), .ref p5, .int (nI ((ftIp tx tn sp i) + 1)), .int i7, .int 5, .int (nI (ftNs (nI j))), .ref p10, .int fd, .ref p12, .ref p13, .ref p14, .int i15, .ref p16, .ref p17, .int i18, .ref p19, .ref p20, .ref p21, .ref p22, .int i23, .int i24, .ref p25, .ref p26, .ref p27, .ref p28, .ref p29, .ref p30, .ref p31, .ref p32])), (p3, .inl (cI, 120, .inl tx)), (p5, .inl (cI, 44, .inl md)), (p10, .inl (cI, 3, .inl g28_p10))] H := hP
                          have hD : va_D A [(m0, .inr (11, [.ref p0, .ref p1, .int i2, .ref p3, .int (nI tn), .ref p5, .int (nI ((ftIp tx tn sp i) + 1)), .int i7, .int 5, .int (nI (ftNs (nI j))), .ref p10, .int fd, .ref p12, .ref p13, .ref p14, .int i15, .ref p16, .ref p17, .int i18, .ref p19, .ref p20, .ref p21, .ref p22, .int i23, .int i24, .ref p25, .ref p26, .ref p27, .ref p28, .ref p29, .ref p30, .ref p31, .ref p32])), (p3, .inl (cI, 120, .inl tx)), (p5, .inl (cI, 44, .inl md)), (p10, .inl (cI, 3, .inl g28_p10))] := hD
                          refine lv_iload_n hx hb dX11_readsItem_209 rfl (lv_at hl 2 rfl) ?_
                          refine lv_iconst (v := 3) hx hb dX11_readsItem_210 (by decide) ?_
                          refine lv_icmp_ge (tgt := 229) hx hb dX11_readsItem_211 (by decide) (fun c211 => ?_) (fun c211 => ?_)
                          · have c211n : 3 ≤ j := ft_leN (by omega) (by omega) c211
                            refine lv_aload_n hx hb dX11_readsItem_229 rfl (lv_at hl 0 rfl) ?_
                            refine va_get (D := D) (ci := 11) (v := .ref p5) (C := RX11) (T := TX11) (N := 33) hx hb hts (by decide +kernel) hown hK hP 0 rfl rfl 5 (by decide) (hts (.fieldLink RX11 19 "FiberTraceModel" "made" "[I") (by decide +kernel)) (fun _ h9 => h9) rfl dX11_readsItem_230 ?_
                            refine lv_iload_n hx hb dX11_readsItem_233 rfl (lv_at hl 2 rfl) ?_
                            refine lv_iconst (v := 3) hx hb dX11_readsItem_234 (by decide) ?_
                            refine lv_isub hx hb dX11_readsItem_235 ?_
                            refine lv_aload_n hx hb dX11_readsItem_236 rfl (lv_at hl 0 rfl) ?_
                            refine va_get (D := D) (ci := 11) (v := .ref p10) (C := RX11) (T := TX11) (N := 33) hx hb hts (by decide +kernel) hown hK hP 0 rfl rfl 10 (by decide) (hts (.fieldLink RX11 22 "FiberTraceModel" "figured" "[I") (by decide +kernel)) (fun _ h9 => h9) rfl dX11_readsItem_237 ?_
                            refine lv_iconst (v := 0) hx hb dX11_readsItem_240 (by decide) ?_
                            refine va_iald hx hb hK hP 3 0 rfl rfl (vp_in_nI (n := 0) (by omega) (by omega)) dX11_readsItem_241 ?_
                            refine ft_top (y := g28_p10 0) rfl ?_
                            refine lv_aload_n hx hb dX11_readsItem_242 rfl (lv_at hl 0 rfl) ?_
                            refine va_get (D := D) (ci := 11) (v := .ref p10) (C := RX11) (T := TX11) (N := 33) hx hb hts (by decide +kernel) hown hK hP 0 rfl rfl 10 (by decide) (hts (.fieldLink RX11 22 "FiberTraceModel" "figured" "[I") (by decide +kernel)) (fun _ h9 => h9) rfl dX11_readsItem_243 ?_
                            refine lv_iconst (v := 1) hx hb dX11_readsItem_246 (by decide) ?_
                            refine va_iald hx hb hK hP 3 0 rfl rfl (vp_in_nI (n := 1) (by omega) (by omega)) dX11_readsItem_247 ?_
                            refine ft_top (y := g28_p10 1) rfl ?_
                            refine lv_iload_n hx hb dX11_readsItem_248 rfl (lv_at hl 2 rfl) ?_
                            refine lv_iconst (v := 4) hx hb dX11_readsItem_249 (by decide) ?_
                            refine lv_icmp_ne (tgt := 262) hx hb dX11_readsItem_250 (by decide) (fun c250 => ?_) (fun c250 => ?_)
                            · have c250n : j ≠ 4 := ft_neN (by omega) (by omega) c250
                              refine lv_iconst (v := 0) hx hb dX11_readsItem_262 (by decide) ?_
                              refine ft_ci (r := nI (ftPosW md (g28_p10 0) n)) (wc := [(p5, .inl (cI, 44, .inl md))]) (wr := [(m0, .inr (11, [.ref p0, .ref p1, .int i2, .ref p3, .int (nI tn), .ref p5, .int (nI ((ftIp tx tn sp i) + 1)), .int i7, .int 5, .int (nI (ftNs (nI j))), .ref p10, .int fd, .ref p12, .ref p13, .ref p14, .int i15, .ref p16, .ref p17, .int i18, .ref p19, .ref p20, .ref p21, .ref p22, .int i23, .int i24, .ref p25, .ref p26, .ref p27, .ref p28, .ref p29, .ref p30, .ref p31, .ref p32])), (p3, .inl (cI, 120, .inl tx)), (p10, .inl (cI, 3, .inl g28_p10))]) (w1 := [(p5, .inl (cI, 44, .inl (ftAdd md n ((nI j) - 3) (g28_p10 0) (g28_p10 1) 0)))]) (ws1 := [(m0, .inr (11, [.ref p0, .ref p1, .int i2, .ref p3, .int (nI tn), .ref p5, .int (nI ((ftIp tx tn sp i) + 1)), .int i7, .int 5, .int (nI (ftNs (nI j))), .ref p10, .int fd, .ref p12, .ref p13, .ref p14, .int i15, .ref p16, .ref p17, .int i18, .ref p19, .ref p20, .ref p21, .ref p22, .int i23, .int i24, .ref p25, .ref p26, .ref p27, .ref p28, .ref p29, .ref p30, .ref p31, .ref p32])), (p3, .inl (cI, 120, .inl tx)), (p5, .inl (cI, 44, .inl (ftAdd md n ((nI j) - 3) (g28_p10 0) (g28_p10 1) 0))), (p10, .inl (cI, 3, .inl g28_p10))]) (va_runS (As := [.ref p5, .int ((nI j) - 3), .int (g28_p10 0), .int (g28_p10 1), .int 0]) (rest := []) ⟨hx, hb, hml, hown, hts⟩ (c_X11_comes l D cI cS H.size p5 44 md n ((nI j) - 3) (g28_p10 0) (g28_p10 1) 0 (by first | assumption | omega) (by first | assumption | omega) (by first | assumption | omega) (by first | assumption | omega)) (va_cwS 5 hts gX11_readsItem_X11_comes rfl rfl rfl (by decide +kernel) ⟨Nat.le_of_ble_eq_true rfl, Nat.le_of_ble_eq_true rfl⟩) (ft_preRW hP hD hKK [2] rfl rfl rfl) rfl rfl hl.1 rfl (lv_room (Nat.le_of_ble_eq_true rfl)) dX11_readsItem_263 ⟨Nat.le_of_ble_eq_true rfl, Nat.le_of_ble_eq_true rfl⟩) hP hD hS hA [2] [0, 1, 3] [0, 1, 3, 2] rfl rfl (by decide) (by decide) (by decide) rfl rfl (fun H locs hP hD hS => ?_)
                              have hP : va_P D vwCl [(m0, .inr (11, [.ref p0, .ref p1, .int i2, .ref p3, .int (nI tn), .ref p5, .int (nI ((ftIp tx tn sp i) + 1)), .int i7, .int 5, .int (nI (ftNs (nI j))), .ref p10, .int fd, .ref p12, .ref p13, .ref p14, .int i15, .ref p16, .ref p17, .int i18, .ref p19, .ref p20, .ref p21, .ref p22, .int i23, .int i24, .ref p25, .ref p26, .ref p27, .ref p28, .ref p29, .ref p30, .ref p31, .ref p32])), (p3, .inl (cI, 120, .inl tx)), (p5, .inl (cI, 44, .inl (ftAdd md n ((nI j) - 3) (g28_p10 0) (g28_p10 1) 0))), (p10, .inl (cI, 3, .inl g28_p10))] H := hP
                              have hD : va_D A [(m0, .inr (11, [.ref p0, .ref p1, .int i2, .ref p3, .int (nI tn), .ref p5, .int (nI ((ftIp tx tn sp i) + 1)), .int i7, .int 5, .int (nI (ftNs (nI j))), .ref p10, .int fd, .ref p12, .ref p13, .ref p14, .int i15, .ref p16, .ref p17, .int i18, .ref p19, .ref p20, .ref p21, .ref p22, .int i23, .int i24, .ref p25, .ref p26, .ref p27, .ref p28, .ref p29, .ref p30, .ref p31, .ref p32])), (p3, .inl (cI, 120, .inl tx)), (p5, .inl (cI, 44, .inl (ftAdd md n ((nI j) - 3) (g28_p10 0) (g28_p10 1) 0))), (p10, .inl (cI, 3, .inl g28_p10))] := hD
                              refine lv_pop hx hb dX11_readsItem_266 rfl ?_
                              refine lv_aload_n hx hb dX11_readsItem_267 rfl (lv_at hl 0 rfl) ?_
                              refine va_get (D := D) (ci := 11) (v := .ref p10) (C := RX11) (T := TX11) (N := 33) hx hb hts (by decide +kernel) hown hK hP 0 rfl rfl 10 (by decide) (hts (.fieldLink RX11 22 "FiberTraceModel" "figured" "[I") (by decide +kernel)) (fun _ h9 => h9) rfl dX11_readsItem_268 ?_
                              refine lv_iconst (v := 2) hx hb dX11_readsItem_271 (by decide) ?_
                              refine lv_iload_n hx hb dX11_readsItem_272 rfl (lv_at hl 2 rfl) ?_
                              refine va_iast hx hb hK hP hD hS 3 0 rfl rfl (vp_in_nI (n := 2) (by omega) (by omega)) dX11_readsItem_273 (fun H locs hP hD hS => ?_)
                              have hP : va_P D vwCl [(m0, .inr (11, [.ref p0, .ref p1, .int i2, .ref p3, .int (nI tn), .ref p5, .int (nI ((ftIp tx tn sp i) + 1)), .int i7, .int 5, .int (nI (ftNs (nI j))), .ref p10, .int fd, .ref p12, .ref p13, .ref p14, .int i15, .ref p16, .ref p17, .int i18, .ref p19, .ref p20, .ref p21, .ref p22, .int i23, .int i24, .ref p25, .ref p26, .ref p27, .ref p28, .ref p29, .ref p30, .ref p31, .ref p32])), (p3, .inl (cI, 120, .inl tx)), (p5, .inl (cI, 44, .inl (ftAdd md n ((nI j) - 3) (g28_p10 0) (g28_p10 1) 0))), (p10, .inl (cI, 3, .inl (upd g28_p10 2 (nI j))))] H := hP
                              have hD : va_D A [(m0, .inr (11, [.ref p0, .ref p1, .int i2, .ref p3, .int (nI tn), .ref p5, .int (nI ((ftIp tx tn sp i) + 1)), .int i7, .int 5, .int (nI (ftNs (nI j))), .ref p10, .int fd, .ref p12, .ref p13, .ref p14, .int i15, .ref p16, .ref p17, .int i18, .ref p19, .ref p20, .ref p21, .ref p22, .int i23, .int i24, .ref p25, .ref p26, .ref p27, .ref p28, .ref p29, .ref p30, .ref p31, .ref p32])), (p3, .inl (cI, 120, .inl tx)), (p5, .inl (cI, 44, .inl (ftAdd md n ((nI j) - 3) (g28_p10 0) (g28_p10 1) 0))), (p10, .inl (cI, 3, .inl (upd g28_p10 2 (nI j))))] := hD
                              refine lv_iconst (v := 1) hx hb dX11_readsItem_274 (by decide) ?_
                              obtain ⟨u9, hu9⟩ : ∃ u9 : (Nat → Int32) × (Nat → Nat → Int32), u9 = ((fun k => match k with | 0 => (nI ((ftIp tx tn sp i) + 1)) | 1 => 5 | 2 => (nI (ftNs (nI j))) | _ => fd), (fun k => match k with | 0 => (upd g28_p10 2 (nI j)) | _ => (ftAdd md n ((nI j) - 3) (g28_p10 0) (g28_p10 1) 0))) := ⟨_, rfl⟩
                              have hw9 : ([(m0, .inr (11, [.ref p0, .ref p1, .int i2, .ref p3, .int (nI tn), .ref p5, .int (nI ((ftIp tx tn sp i) + 1)), .int i7, .int 5, .int (nI (ftNs (nI j))), .ref p10, .int fd, .ref p12, .ref p13, .ref p14, .int i15, .ref p16, .ref p17, .int i18, .ref p19, .ref p20, .ref p21, .ref p22, .int i23, .int i24, .ref p25, .ref p26, .ref p27, .ref p28, .ref p29, .ref p30, .ref p31, .ref p32])), (p3, .inl (cI, 120, .inl tx)), (p5, .inl (cI, 44, .inl (ftAdd md n ((nI j) - 3) (g28_p10 0) (g28_p10 1) 0))), (p10, .inl (cI, 3, .inl (upd g28_p10 2 (nI j))))] : va_W) = [(m0, .inr (11, [.ref p0, .ref p1, .int i2, .ref p3, .int (nI tn), .ref p5, .int (u9.1 0), .int i7, .int (u9.1 1), .int (u9.1 2), .ref p10, .int (u9.1 3), .ref p12, .ref p13, .ref p14, .int i15, .ref p16, .ref p17, .int i18, .ref p19, .ref p20, .ref p21, .ref p22, .int i23, .int i24, .ref p25, .ref p26, .ref p27, .ref p28, .ref p29, .ref p30, .ref p31, .ref p32])), (p3, .inl (cI, 120, .inl tx)), (p5, .inl (cI, 44, .inl (u9.2 1))), (p10, .inl (cI, 3, .inl (u9.2 0)))] := by subst hu9; rfl
                              rw [hw9] at hP hD
                              have hf9_0 : ftItOk tx tn md h sp → (u9.1 0 = nI (ftItP tx tn sp) ∧ u9.2 1 = ftItM tx tn md sp ∧ ∃ j, j < 6 ∧ u9.2 0 2 = nI j ∧ ftIw tx tn sp = nI j) := by intro _; rw [hu9]; refine ⟨?_, ?_, j, hj, ?_, hIw⟩; (show nI (ftIp tx tn sp i + 1) = _; rw [ftItP, hIw, ← hi9]); (rotate_left; show upd g28_p10 2 (nI j) 2 = nI j; exact ftUpd1 _ _ _); (show _ = ftItM tx tn md sp; rw [ftItM, hIw]; first | (rw [if_pos hlt3, nI_clamp (by omega), ← hf0] <;> rfl) | (rw [if_neg hnl3, hw3, nI_clamp (by omega), if_pos c250, ← hf0, ← hf1, ← hf2] <;> rfl) | (rw [if_neg hnl3, hw3, nI_clamp (by omega), if_neg c250, ← hf0, ← hf1] <;> rfl))
                              have hr9 : (1 : Int32) = ftB (ftItOk tx tn md h sp) := by exact (ftB_t hall).symm
                              exact W.zret (v := 1) hx hb hr (by rfl) (fun t ht hW => ⟨⟨1, u9, rfl, ⟨hr9, hf9_0⟩, by rw [ht]; exact hP, by rw [hAe]; exact hD⟩, by rw [hAe]; exact hS.F ht⟩) hS.2.2 dX11_readsItem_275
                            · have c250n : j = 4 := ft_eqN (by omega) (by omega) c250
                              have hf2 : g28_p10 2 = ftIv tx tn sp 2 := hfi 2 (by rw [ftNs_3 c250]; omega)
                              refine lv_aload_n hx hb dX11_readsItem_253 rfl (lv_at hl 0 rfl) ?_
                              refine va_get (D := D) (ci := 11) (v := .ref p10) (C := RX11) (T := TX11) (N := 33) hx hb hts (by decide +kernel) hown hK hP 0 rfl rfl 10 (by decide) (hts (.fieldLink RX11 22 "FiberTraceModel" "figured" "[I") (by decide +kernel)) (fun _ h9 => h9) rfl dX11_readsItem_254 ?_
                              refine lv_iconst (v := 2) hx hb dX11_readsItem_257 (by decide) ?_
                              refine va_iald hx hb hK hP 3 0 rfl rfl (vp_in_nI (n := 2) (by omega) (by omega)) dX11_readsItem_258 ?_
                              refine ft_top (y := g28_p10 2) rfl ?_
                              refine lv_goto (tgt := 263) hx hb dX11_readsItem_259 (by decide) ?_
                              refine ft_ci (r := nI (ftPosW md (g28_p10 0) n)) (wc := [(p5, .inl (cI, 44, .inl md))]) (wr := [(m0, .inr (11, [.ref p0, .ref p1, .int i2, .ref p3, .int (nI tn), .ref p5, .int (nI ((ftIp tx tn sp i) + 1)), .int i7, .int 5, .int (nI (ftNs (nI j))), .ref p10, .int fd, .ref p12, .ref p13, .ref p14, .int i15, .ref p16, .ref p17, .int i18, .ref p19, .ref p20, .ref p21, .ref p22, .int i23, .int i24, .ref p25, .ref p26, .ref p27, .ref p28, .ref p29, .ref p30, .ref p31, .ref p32])), (p3, .inl (cI, 120, .inl tx)), (p10, .inl (cI, 3, .inl g28_p10))]) (w1 := [(p5, .inl (cI, 44, .inl (ftAdd md n ((nI j) - 3) (g28_p10 0) (g28_p10 1) (g28_p10 2))))]) (ws1 := [(m0, .inr (11, [.ref p0, .ref p1, .int i2, .ref p3, .int (nI tn), .ref p5, .int (nI ((ftIp tx tn sp i) + 1)), .int i7, .int 5, .int (nI (ftNs (nI j))), .ref p10, .int fd, .ref p12, .ref p13, .ref p14, .int i15, .ref p16, .ref p17, .int i18, .ref p19, .ref p20, .ref p21, .ref p22, .int i23, .int i24, .ref p25, .ref p26, .ref p27, .ref p28, .ref p29, .ref p30, .ref p31, .ref p32])), (p3, .inl (cI, 120, .inl tx)), (p5, .inl (cI, 44, .inl (ftAdd md n ((nI j) - 3) (g28_p10 0) (g28_p10 1) (g28_p10 2)))), (p10, .inl (cI, 3, .inl g28_p10))]) (va_runS (As := [.ref p5, .int ((nI j) - 3), .int (g28_p10 0), .int (g28_p10 1), .int (g28_p10 2)]) (rest := []) ⟨hx, hb, hml, hown, hts⟩ (c_X11_comes l D cI cS H.size p5 44 md n ((nI j) - 3) (g28_p10 0) (g28_p10 1) (g28_p10 2) (by first | assumption | omega) (by first | assumption | omega) (by first | assumption | omega) (by first | assumption | omega)) (va_cwS 5 hts gX11_readsItem_X11_comes rfl rfl rfl (by decide +kernel) ⟨Nat.le_of_ble_eq_true rfl, Nat.le_of_ble_eq_true rfl⟩) (ft_preRW hP hD hKK [2] rfl rfl rfl) rfl rfl hl.1 rfl (lv_room (Nat.le_of_ble_eq_true rfl)) dX11_readsItem_263 ⟨Nat.le_of_ble_eq_true rfl, Nat.le_of_ble_eq_true rfl⟩) hP hD hS hA [2] [0, 1, 3] [0, 1, 3, 2] rfl rfl (by decide) (by decide) (by decide) rfl rfl (fun H locs hP hD hS => ?_)
                              have hP : va_P D vwCl [(m0, .inr (11, [.ref p0, .ref p1, .int i2, .ref p3, .int (nI tn), .ref p5, .int (nI ((ftIp tx tn sp i) + 1)), .int i7, .int 5, .int (nI (ftNs (nI j))), .ref p10, .int fd, .ref p12, .ref p13, .ref p14, .int i15, .ref p16, .ref p17, .int i18, .ref p19, .ref p20, .ref p21, .ref p22, .int i23, .int i24, .ref p25, .ref p26, .ref p27, .ref p28, .ref p29, .ref p30, .ref p31, .ref p32])), (p3, .inl (cI, 120, .inl tx)), (p5, .inl (cI, 44, .inl (ftAdd md n ((nI j) - 3) (g28_p10 0) (g28_p10 1) (g28_p10 2)))), (p10, .inl (cI, 3, .inl g28_p10))] H := hP
                              have hD : va_D A [(m0, .inr (11, [.ref p0, .ref p1, .int i2, .ref p3, .int (nI tn), .ref p5, .int (nI ((ftIp tx tn sp i) + 1)), .int i7, .int 5, .int (nI (ftNs (nI j))), .ref p10, .int fd, .ref p12, .ref p13, .ref p14, .int i15, .ref p16, .ref p17, .int i18, .ref p19, .ref p20, .ref p21, .ref p22, .int i23, .int i24, .ref p25, .ref p26, .ref p27, .ref p28, .ref p29, .ref p30, .ref p31, .ref p32])), (p3, .inl (cI, 120, .inl tx)), (p5, .inl (cI, 44, .inl (ftAdd md n ((nI j) - 3) (g28_p10 0) (g28_p10 1) (g28_p10 2)))), (p10, .inl (cI, 3, .inl g28_p10))] := hD
                              refine lv_pop hx hb dX11_readsItem_266 rfl ?_
                              refine lv_aload_n hx hb dX11_readsItem_267 rfl (lv_at hl 0 rfl) ?_
                              refine va_get (D := D) (ci := 11) (v := .ref p10) (C := RX11) (T := TX11) (N := 33) hx hb hts (by decide +kernel) hown hK hP 0 rfl rfl 10 (by decide) (hts (.fieldLink RX11 22 "FiberTraceModel" "figured" "[I") (by decide +kernel)) (fun _ h9 => h9) rfl dX11_readsItem_268 ?_
                              refine lv_iconst (v := 2) hx hb dX11_readsItem_271 (by decide) ?_
                              refine lv_iload_n hx hb dX11_readsItem_272 rfl (lv_at hl 2 rfl) ?_
                              refine va_iast hx hb hK hP hD hS 3 0 rfl rfl (vp_in_nI (n := 2) (by omega) (by omega)) dX11_readsItem_273 (fun H locs hP hD hS => ?_)
                              have hP : va_P D vwCl [(m0, .inr (11, [.ref p0, .ref p1, .int i2, .ref p3, .int (nI tn), .ref p5, .int (nI ((ftIp tx tn sp i) + 1)), .int i7, .int 5, .int (nI (ftNs (nI j))), .ref p10, .int fd, .ref p12, .ref p13, .ref p14, .int i15, .ref p16, .ref p17, .int i18, .ref p19, .ref p20, .ref p21, .ref p22, .int i23, .int i24, .ref p25, .ref p26, .ref p27, .ref p28, .ref p29, .ref p30, .ref p31, .ref p32])), (p3, .inl (cI, 120, .inl tx)), (p5, .inl (cI, 44, .inl (ftAdd md n ((nI j) - 3) (g28_p10 0) (g28_p10 1) (g28_p10 2)))), (p10, .inl (cI, 3, .inl (upd g28_p10 2 (nI j))))] H := hP
                              have hD : va_D A [(m0, .inr (11, [.ref p0, .ref p1, .int i2, .ref p3, .int (nI tn), .ref p5, .int (nI ((ftIp tx tn sp i) + 1)), .int i7, .int 5, .int (nI (ftNs (nI j))), .ref p10, .int fd, .ref p12, .ref p13, .ref p14, .int i15, .ref p16, .ref p17, .int i18, .ref p19, .ref p20, .ref p21, .ref p22, .int i23, .int i24, .ref p25, .ref p26, .ref p27, .ref p28, .ref p29, .ref p30, .ref p31, .ref p32])), (p3, .inl (cI, 120, .inl tx)), (p5, .inl (cI, 44, .inl (ftAdd md n ((nI j) - 3) (g28_p10 0) (g28_p10 1) (g28_p10 2)))), (p10, .inl (cI, 3, .inl (upd g28_p10 2 (nI j))))] := hD
                              refine lv_iconst (v := 1) hx hb dX11_readsItem_274 (by decide) ?_
                              obtain ⟨u9, hu9⟩ : ∃ u9 : (Nat → Int32) × (Nat → Nat → Int32), u9 = ((fun k => match k with | 0 => (nI ((ftIp tx tn sp i) + 1)) | 1 => 5 | 2 => (nI (ftNs (nI j))) | _ => fd), (fun k => match k with | 0 => (upd g28_p10 2 (nI j)) | _ => (ftAdd md n ((nI j) - 3) (g28_p10 0) (g28_p10 1) (g28_p10 2)))) := ⟨_, rfl⟩
                              have hw9 : ([(m0, .inr (11, [.ref p0, .ref p1, .int i2, .ref p3, .int (nI tn), .ref p5, .int (nI ((ftIp tx tn sp i) + 1)), .int i7, .int 5, .int (nI (ftNs (nI j))), .ref p10, .int fd, .ref p12, .ref p13, .ref p14, .int i15, .ref p16, .ref p17, .int i18, .ref p19, .ref p20, .ref p21, .ref p22, .int i23, .int i24, .ref p25, .ref p26, .ref p27, .ref p28, .ref p29, .ref p30, .ref p31, .ref p32])), (p3, .inl (cI, 120, .inl tx)), (p5, .inl (cI, 44, .inl (ftAdd md n ((nI j) - 3) (g28_p10 0) (g28_p10 1) (g28_p10 2)))), (p10, .inl (cI, 3, .inl (upd g28_p10 2 (nI j))))] : va_W) = [(m0, .inr (11, [.ref p0, .ref p1, .int i2, .ref p3, .int (nI tn), .ref p5, .int (u9.1 0), .int i7, .int (u9.1 1), .int (u9.1 2), .ref p10, .int (u9.1 3), .ref p12, .ref p13, .ref p14, .int i15, .ref p16, .ref p17, .int i18, .ref p19, .ref p20, .ref p21, .ref p22, .int i23, .int i24, .ref p25, .ref p26, .ref p27, .ref p28, .ref p29, .ref p30, .ref p31, .ref p32])), (p3, .inl (cI, 120, .inl tx)), (p5, .inl (cI, 44, .inl (u9.2 1))), (p10, .inl (cI, 3, .inl (u9.2 0)))] := by subst hu9; rfl
                              rw [hw9] at hP hD
                              have hf9_0 : ftItOk tx tn md h sp → (u9.1 0 = nI (ftItP tx tn sp) ∧ u9.2 1 = ftItM tx tn md sp ∧ ∃ j, j < 6 ∧ u9.2 0 2 = nI j ∧ ftIw tx tn sp = nI j) := by intro _; rw [hu9]; refine ⟨?_, ?_, j, hj, ?_, hIw⟩; (show nI (ftIp tx tn sp i + 1) = _; rw [ftItP, hIw, ← hi9]); (rotate_left; show upd g28_p10 2 (nI j) 2 = nI j; exact ftUpd1 _ _ _); (show _ = ftItM tx tn md sp; rw [ftItM, hIw]; first | (rw [if_pos hlt3, nI_clamp (by omega), ← hf0] <;> rfl) | (rw [if_neg hnl3, hw3, nI_clamp (by omega), if_pos c250, ← hf0, ← hf1, ← hf2] <;> rfl) | (rw [if_neg hnl3, hw3, nI_clamp (by omega), if_neg c250, ← hf0, ← hf1] <;> rfl))
                              have hr9 : (1 : Int32) = ftB (ftItOk tx tn md h sp) := by exact (ftB_t hall).symm
                              exact W.zret (v := 1) hx hb hr (by rfl) (fun t ht hW => ⟨⟨1, u9, rfl, ⟨hr9, hf9_0⟩, by rw [ht]; exact hP, by rw [hAe]; exact hD⟩, by rw [hAe]; exact hS.F ht⟩) hS.2.2 dX11_readsItem_275
                          · have c211n : j < 3 := ft_nleN (by omega) (by omega) c211
                            exact absurd (Int32.not_le.mp c211) (Int32.not_lt.mpr c117)
                        · have hnok : ¬ ftItOk tx tn md h sp := fun q => by have q5 := q.2.2.2.2.2; rw [hIw, ← hi9] at q5; exact c194 q5
                          refine lv_iconst (v := 0) hx hb dX11_readsItem_197 (by decide) ?_
                          obtain ⟨u9, hu9⟩ : ∃ u9 : (Nat → Int32) × (Nat → Nat → Int32), u9 = ((fun k => match k with | 0 => (nI (ftIp tx tn sp i)) | 1 => 5 | 2 => (nI (ftNs (nI j))) | _ => fd), (fun k => match k with | 0 => g28_p10 | _ => md)) := ⟨_, rfl⟩
                          have hw9 : ([(m0, .inr (11, [.ref p0, .ref p1, .int i2, .ref p3, .int (nI tn), .ref p5, .int (nI (ftIp tx tn sp i)), .int i7, .int 5, .int (nI (ftNs (nI j))), .ref p10, .int fd, .ref p12, .ref p13, .ref p14, .int i15, .ref p16, .ref p17, .int i18, .ref p19, .ref p20, .ref p21, .ref p22, .int i23, .int i24, .ref p25, .ref p26, .ref p27, .ref p28, .ref p29, .ref p30, .ref p31, .ref p32])), (p3, .inl (cI, 120, .inl tx)), (p5, .inl (cI, 44, .inl md)), (p10, .inl (cI, 3, .inl g28_p10))] : va_W) = [(m0, .inr (11, [.ref p0, .ref p1, .int i2, .ref p3, .int (nI tn), .ref p5, .int (u9.1 0), .int i7, .int (u9.1 1), .int (u9.1 2), .ref p10, .int (u9.1 3), .ref p12, .ref p13, .ref p14, .int i15, .ref p16, .ref p17, .int i18, .ref p19, .ref p20, .ref p21, .ref p22, .int i23, .int i24, .ref p25, .ref p26, .ref p27, .ref p28, .ref p29, .ref p30, .ref p31, .ref p32])), (p3, .inl (cI, 120, .inl tx)), (p5, .inl (cI, 44, .inl (u9.2 1))), (p10, .inl (cI, 3, .inl (u9.2 0)))] := by subst hu9; rfl
                          rw [hw9] at hP hD
                          have hf9_0 : ftItOk tx tn md h sp → (u9.1 0 = nI (ftItP tx tn sp) ∧ u9.2 1 = ftItM tx tn md sp ∧ ∃ j, j < 6 ∧ u9.2 0 2 = nI j ∧ ftIw tx tn sp = nI j) := by intro q; exact absurd q hnok
                          have hr9 : (0 : Int32) = ftB (ftItOk tx tn md h sp) := by exact (ftB_f hnok).symm
                          exact W.zret (v := 0) hx hb hr (by rfl) (fun t ht hW => ⟨⟨0, u9, rfl, ⟨hr9, hf9_0⟩, by rw [ht]; exact hP, by rw [hAe]; exact hD⟩, by rw [hAe]; exact hS.F ht⟩) hS.2.2 dX11_readsItem_198
                    · have hnok : ¬ ftItOk tx tn md h sp := fun q => (q.2.2.2.1.2 (by rw [hIw]; exact hnl3)).2 c162
                      refine lv_iconst (v := 0) hx hb dX11_readsItem_165 (by decide) ?_
                      obtain ⟨u9, hu9⟩ : ∃ u9 : (Nat → Int32) × (Nat → Nat → Int32), u9 = ((fun k => match k with | 0 => (nI (ftIp tx tn sp i)) | 1 => 4 | 2 => (nI (ftNs (nI j))) | _ => fd), (fun k => match k with | 0 => g28_p10 | _ => md)) := ⟨_, rfl⟩
                      have hw9 : ([(m0, .inr (11, [.ref p0, .ref p1, .int i2, .ref p3, .int (nI tn), .ref p5, .int (nI (ftIp tx tn sp i)), .int i7, .int 4, .int (nI (ftNs (nI j))), .ref p10, .int fd, .ref p12, .ref p13, .ref p14, .int i15, .ref p16, .ref p17, .int i18, .ref p19, .ref p20, .ref p21, .ref p22, .int i23, .int i24, .ref p25, .ref p26, .ref p27, .ref p28, .ref p29, .ref p30, .ref p31, .ref p32])), (p3, .inl (cI, 120, .inl tx)), (p5, .inl (cI, 44, .inl md)), (p10, .inl (cI, 3, .inl g28_p10))] : va_W) = [(m0, .inr (11, [.ref p0, .ref p1, .int i2, .ref p3, .int (nI tn), .ref p5, .int (u9.1 0), .int i7, .int (u9.1 1), .int (u9.1 2), .ref p10, .int (u9.1 3), .ref p12, .ref p13, .ref p14, .int i15, .ref p16, .ref p17, .int i18, .ref p19, .ref p20, .ref p21, .ref p22, .int i23, .int i24, .ref p25, .ref p26, .ref p27, .ref p28, .ref p29, .ref p30, .ref p31, .ref p32])), (p3, .inl (cI, 120, .inl tx)), (p5, .inl (cI, 44, .inl (u9.2 1))), (p10, .inl (cI, 3, .inl (u9.2 0)))] := by subst hu9; rfl
                      rw [hw9] at hP hD
                      have hf9_0 : ftItOk tx tn md h sp → (u9.1 0 = nI (ftItP tx tn sp) ∧ u9.2 1 = ftItM tx tn md sp ∧ ∃ j, j < 6 ∧ u9.2 0 2 = nI j ∧ ftIw tx tn sp = nI j) := by intro q; exact absurd q hnok
                      have hr9 : (0 : Int32) = ftB (ftItOk tx tn md h sp) := by exact (ftB_f hnok).symm
                      exact W.zret (v := 0) hx hb hr (by rfl) (fun t ht hW => ⟨⟨0, u9, rfl, ⟨hr9, hf9_0⟩, by rw [ht]; exact hP, by rw [hAe]; exact hD⟩, by rw [hAe]; exact hS.F ht⟩) hS.2.2 dX11_readsItem_166
                · have c117n : j < 3 := ft_nleN (by omega) (by omega) c117
                  have hf0 : g28_p10 0 = ftIv tx tn sp 0 := hfi 0 (by omega)
                  have hlt3 : nI j < 3 := Int32.not_le.mp c117
                  refine lv_iload_n hx hb dX11_readsItem_120 rfl (lv_at hl 1 rfl) ?_
                  refine lv_iload_n hx hb dX11_readsItem_121 rfl (lv_at hl 2 rfl) ?_
                  refine lv_ishr hx hb dX11_readsItem_122 ?_
                  refine ft_top (y := nI (h / 2 ^ j)) (ft_shr1 h hh j hj) ?_
                  refine lv_iconst (v := 1) hx hb dX11_readsItem_123 (by decide) ?_
                  refine lv_iand hx hb dX11_readsItem_124 ?_
                  refine ft_top (y := nI (h / 2 ^ j % 2)) (ft_and1 _ (Nat.lt_of_le_of_lt (Nat.div_le_self _ _) hh)) ?_
                  refine lv_iconst (v := 1) hx hb dX11_readsItem_125 (by decide) ?_
                  refine lv_icmp_eq (tgt := 165) hx hb dX11_readsItem_126 (by decide) (fun c126 => ?_) (fun c126 => ?_)
                  · have c126n : (h / 2 ^ j % 2) = 1 := ft_eqN (by omega) (by omega) c126
                    have hnok : ¬ ftItOk tx tn md h sp := fun q => by have q4 := (q.2.2.2.1.1 (by rw [hIw]; exact hlt3)).1; rw [hIw, nI_clamp (by omega)] at q4; exact q4 (ft_eqN (by omega) (by omega) c126)
                    refine lv_iconst (v := 0) hx hb dX11_readsItem_165 (by decide) ?_
                    obtain ⟨u9, hu9⟩ : ∃ u9 : (Nat → Int32) × (Nat → Nat → Int32), u9 = ((fun k => match k with | 0 => (nI (ftIp tx tn sp i)) | 1 => 4 | 2 => (nI (ftNs (nI j))) | _ => fd), (fun k => match k with | 0 => g28_p10 | _ => md)) := ⟨_, rfl⟩
                    have hw9 : ([(m0, .inr (11, [.ref p0, .ref p1, .int i2, .ref p3, .int (nI tn), .ref p5, .int (nI (ftIp tx tn sp i)), .int i7, .int 4, .int (nI (ftNs (nI j))), .ref p10, .int fd, .ref p12, .ref p13, .ref p14, .int i15, .ref p16, .ref p17, .int i18, .ref p19, .ref p20, .ref p21, .ref p22, .int i23, .int i24, .ref p25, .ref p26, .ref p27, .ref p28, .ref p29, .ref p30, .ref p31, .ref p32])), (p3, .inl (cI, 120, .inl tx)), (p5, .inl (cI, 44, .inl md)), (p10, .inl (cI, 3, .inl g28_p10))] : va_W) = [(m0, .inr (11, [.ref p0, .ref p1, .int i2, .ref p3, .int (nI tn), .ref p5, .int (u9.1 0), .int i7, .int (u9.1 1), .int (u9.1 2), .ref p10, .int (u9.1 3), .ref p12, .ref p13, .ref p14, .int i15, .ref p16, .ref p17, .int i18, .ref p19, .ref p20, .ref p21, .ref p22, .int i23, .int i24, .ref p25, .ref p26, .ref p27, .ref p28, .ref p29, .ref p30, .ref p31, .ref p32])), (p3, .inl (cI, 120, .inl tx)), (p5, .inl (cI, 44, .inl (u9.2 1))), (p10, .inl (cI, 3, .inl (u9.2 0)))] := by subst hu9; rfl
                    rw [hw9] at hP hD
                    have hf9_0 : ftItOk tx tn md h sp → (u9.1 0 = nI (ftItP tx tn sp) ∧ u9.2 1 = ftItM tx tn md sp ∧ ∃ j, j < 6 ∧ u9.2 0 2 = nI j ∧ ftIw tx tn sp = nI j) := by intro q; exact absurd q hnok
                    have hr9 : (0 : Int32) = ftB (ftItOk tx tn md h sp) := by exact (ftB_f hnok).symm
                    exact W.zret (v := 0) hx hb hr (by rfl) (fun t ht hW => ⟨⟨0, u9, rfl, ⟨hr9, hf9_0⟩, by rw [ht]; exact hP, by rw [hAe]; exact hD⟩, by rw [hAe]; exact hS.F ht⟩) hS.2.2 dX11_readsItem_166
                  · have c126n : (h / 2 ^ j % 2) ≠ 1 := ft_neN (by omega) (by omega) c126
                    refine lv_aload_n hx hb dX11_readsItem_129 rfl (lv_at hl 0 rfl) ?_
                    refine va_get (D := D) (ci := 11) (v := .ref p5) (C := RX11) (T := TX11) (N := 33) hx hb hts (by decide +kernel) hown hK hP 0 rfl rfl 5 (by decide) (hts (.fieldLink RX11 19 "FiberTraceModel" "made" "[I") (by decide +kernel)) (fun _ h9 => h9) rfl dX11_readsItem_130 ?_
                    refine lv_iconst (v := 3) hx hb dX11_readsItem_133 (by decide) ?_
                    refine va_iald hx hb hK hP 2 0 rfl rfl (vp_in_nI (n := 3) (by omega) (by omega)) dX11_readsItem_134 ?_
                    refine ft_top (y := md 3) rfl ?_
                    refine lv_if_le (tgt := 167) hx hb dX11_readsItem_135 (by decide) (fun c135 => ?_) (fun c135 => ?_)
                    · have hal : ftAl (nI j) md h (ftIv tx tn sp 0) := by
                        refine ⟨fun q => ?_, fun q => ?_⟩
                        · first | exact absurd q hnl3 | exact ⟨by rw [nI_clamp (by omega)]; exact c126n, c135⟩
                        · first | exact absurd hlt3 q | exact ⟨by rw [hw3, nI_clamp (by omega), ← hf0]; exact c151, c162⟩
                      refine lv_aload_n hx hb dX11_readsItem_167 rfl (lv_at hl 0 rfl) ?_
                      refine lv_iconst (v := 5) hx hb dX11_readsItem_168 (by decide) ?_
                      refine va_put (D := D) (ci := 11) (v := .int 5) (ty := .int) (C := RX11) (T := TX11) (N := 33) hx hb hts (by decide +kernel) tyX11 tyX11_ok nmX11 hown hK hP hD hS 0 rfl rfl 8 (by decide) (hts (.fieldLink RX11 136 "FiberTraceModel" "why" "I") (by decide +kernel)) (fun _ h9 => h9) rfl (by decide +kernel) rfl rfl (Nat.le_of_ble_eq_true rfl) dX11_readsItem_169 (fun H locs hP hD hS => ?_)
                      have hP : va_P D vwCl [(m0, .inr (11, [.ref p0, .ref p1, .int i2, .ref p3, .int (nI tn), .ref p5, .int (nI (ftIp tx tn sp i)), .int i7, .int 5, .int (nI (ftNs (nI j))), .ref p10, .int fd, .ref p12, .ref p13, .ref p14, .int i15, .ref p16, .ref p17, .int i18, .ref p19, .ref p20, .ref p21, .ref p22, .int i23, .int i24, .ref p25, .ref p26, .ref p27, .ref p28, .ref p29, .ref p30, .ref p31, .ref p32])), (p3, .inl (cI, 120, .inl tx)), (p5, .inl (cI, 44, .inl md)), (p10, .inl (cI, 3, .inl g28_p10))] H := hP
                      have hD : va_D A [(m0, .inr (11, [.ref p0, .ref p1, .int i2, .ref p3, .int (nI tn), .ref p5, .int (nI (ftIp tx tn sp i)), .int i7, .int 5, .int (nI (ftNs (nI j))), .ref p10, .int fd, .ref p12, .ref p13, .ref p14, .int i15, .ref p16, .ref p17, .int i18, .ref p19, .ref p20, .ref p21, .ref p22, .int i23, .int i24, .ref p25, .ref p26, .ref p27, .ref p28, .ref p29, .ref p30, .ref p31, .ref p32])), (p3, .inl (cI, 120, .inl tx)), (p5, .inl (cI, 44, .inl md)), (p10, .inl (cI, 3, .inl g28_p10))] := hD
                      refine lv_aload_n hx hb dX11_readsItem_172 rfl (lv_at hl 0 rfl) ?_
                      refine va_get (D := D) (ci := 11) (v := .int (nI (ftIp tx tn sp i))) (C := RX11) (T := TX11) (N := 33) hx hb hts (by decide +kernel) hown hK hP 0 rfl rfl 6 (by decide) (hts (.fieldLink RX11 100 "FiberTraceModel" "spot" "I") (by decide +kernel)) (fun _ h9 => h9) rfl dX11_readsItem_173 ?_
                      refine lv_aload_n hx hb dX11_readsItem_176 rfl (lv_at hl 0 rfl) ?_
                      refine va_get (D := D) (ci := 11) (v := .int (nI tn)) (C := RX11) (T := TX11) (N := 33) hx hb hts (by decide +kernel) hown hK hP 0 rfl rfl 4 (by decide) (hts (.fieldLink RX11 96 "FiberTraceModel" "length" "I") (by decide +kernel)) (fun _ h9 => h9) rfl dX11_readsItem_177 ?_
                      refine lv_icmp_eq (tgt := 197) hx hb dX11_readsItem_180 (by decide) (fun c180 => ?_) (fun c180 => ?_)
                      · have c180n : (ftIp tx tn sp i) = tn := ft_eqN (by omega) (by omega) c180
                        have hnok : ¬ ftItOk tx tn md h sp := fun q => by have q5 := q.2.2.2.2.1; rw [hIw, ← hi9] at q5; omega
                        refine lv_iconst (v := 0) hx hb dX11_readsItem_197 (by decide) ?_
                        obtain ⟨u9, hu9⟩ : ∃ u9 : (Nat → Int32) × (Nat → Nat → Int32), u9 = ((fun k => match k with | 0 => (nI (ftIp tx tn sp i)) | 1 => 5 | 2 => (nI (ftNs (nI j))) | _ => fd), (fun k => match k with | 0 => g28_p10 | _ => md)) := ⟨_, rfl⟩
                        have hw9 : ([(m0, .inr (11, [.ref p0, .ref p1, .int i2, .ref p3, .int (nI tn), .ref p5, .int (nI (ftIp tx tn sp i)), .int i7, .int 5, .int (nI (ftNs (nI j))), .ref p10, .int fd, .ref p12, .ref p13, .ref p14, .int i15, .ref p16, .ref p17, .int i18, .ref p19, .ref p20, .ref p21, .ref p22, .int i23, .int i24, .ref p25, .ref p26, .ref p27, .ref p28, .ref p29, .ref p30, .ref p31, .ref p32])), (p3, .inl (cI, 120, .inl tx)), (p5, .inl (cI, 44, .inl md)), (p10, .inl (cI, 3, .inl g28_p10))] : va_W) = [(m0, .inr (11, [.ref p0, .ref p1, .int i2, .ref p3, .int (nI tn), .ref p5, .int (u9.1 0), .int i7, .int (u9.1 1), .int (u9.1 2), .ref p10, .int (u9.1 3), .ref p12, .ref p13, .ref p14, .int i15, .ref p16, .ref p17, .int i18, .ref p19, .ref p20, .ref p21, .ref p22, .int i23, .int i24, .ref p25, .ref p26, .ref p27, .ref p28, .ref p29, .ref p30, .ref p31, .ref p32])), (p3, .inl (cI, 120, .inl tx)), (p5, .inl (cI, 44, .inl (u9.2 1))), (p10, .inl (cI, 3, .inl (u9.2 0)))] := by subst hu9; rfl
                        rw [hw9] at hP hD
                        have hf9_0 : ftItOk tx tn md h sp → (u9.1 0 = nI (ftItP tx tn sp) ∧ u9.2 1 = ftItM tx tn md sp ∧ ∃ j, j < 6 ∧ u9.2 0 2 = nI j ∧ ftIw tx tn sp = nI j) := by intro q; exact absurd q hnok
                        have hr9 : (0 : Int32) = ftB (ftItOk tx tn md h sp) := by exact (ftB_f hnok).symm
                        exact W.zret (v := 0) hx hb hr (by rfl) (fun t ht hW => ⟨⟨0, u9, rfl, ⟨hr9, hf9_0⟩, by rw [ht]; exact hP, by rw [hAe]; exact hD⟩, by rw [hAe]; exact hS.F ht⟩) hS.2.2 dX11_readsItem_198
                      · have c180n : (ftIp tx tn sp i) ≠ tn := ft_neN (by omega) (by omega) c180
                        refine lv_aload_n hx hb dX11_readsItem_183 rfl (lv_at hl 0 rfl) ?_
                        refine va_get (D := D) (ci := 11) (v := .ref p3) (C := RX11) (T := TX11) (N := 33) hx hb hts (by decide +kernel) hown hK hP 0 rfl rfl 3 (by decide) (hts (.fieldLink RX11 16 "FiberTraceModel" "text" "[I") (by decide +kernel)) (fun _ h9 => h9) rfl dX11_readsItem_184 ?_
                        refine lv_aload_n hx hb dX11_readsItem_187 rfl (lv_at hl 0 rfl) ?_
                        refine va_get (D := D) (ci := 11) (v := .int (nI (ftIp tx tn sp i))) (C := RX11) (T := TX11) (N := 33) hx hb hts (by decide +kernel) hown hK hP 0 rfl rfl 6 (by decide) (hts (.fieldLink RX11 100 "FiberTraceModel" "spot" "I") (by decide +kernel)) (fun _ h9 => h9) rfl dX11_readsItem_188 ?_
                        refine va_iald hx hb hK hP 1 0 rfl rfl (vp_in_nI (by omega) (by omega)) dX11_readsItem_191 ?_
                        refine ft_top (y := tx (ftIp tx tn sp i)) (ft_clampN (by omega)) ?_
                        refine lv_bipush (v := 59) hx hb dX11_readsItem_192 (by decide) ?_
                        refine lv_icmp_eq (tgt := 199) hx hb dX11_readsItem_194 (by decide) (fun c194 => ?_) (fun c194 => ?_)
                        · have hcl : tx (ftIp tx tn sp i) = 59 := c194
                          have hpl : ftIp tx tn sp i < tn := by have := ftIp_le (tx := tx) hp9 i; omega
                          have hall : ftItOk tx tn md h sp := ⟨by rw [hIw]; exact nI_pos (by omega), by rw [hIw, ← hi9]; exact hnk, by rw [hIw]; exact fun t ht => hrt t (by omega), by rw [hIw]; exact hal, by rw [hIw, ← hi9]; exact hpl, by rw [hIw, ← hi9]; exact hcl⟩
                          refine lv_aload_n hx hb dX11_readsItem_199 rfl (lv_at hl 0 rfl) ?_
                          refine lv_dup hx hb dX11_readsItem_200 rfl ?_
                          refine va_get (D := D) (ci := 11) (v := .int (nI (ftIp tx tn sp i))) (C := RX11) (T := TX11) (N := 33) hx hb hts (by decide +kernel) hown hK hP 0 rfl rfl 6 (by decide) (hts (.fieldLink RX11 100 "FiberTraceModel" "spot" "I") (by decide +kernel)) (fun _ h9 => h9) rfl dX11_readsItem_201 ?_
                          refine lv_iconst (v := 1) hx hb dX11_readsItem_204 (by decide) ?_
                          refine lv_iadd hx hb dX11_readsItem_205 ?_
                          refine ft_top (y := nI ((ftIp tx tn sp i) + 1)) (ft_addN (ftIp tx tn sp i) 1) ?_
                          refine va_put (D := D) (ci := 11) (v := .int (nI ((ftIp tx tn sp i) + 1))) (ty := .int) (C := RX11) (T := TX11) (N := 33) hx hb hts (by decide +kernel) tyX11 tyX11_ok nmX11 hown hK hP hD hS 0 rfl rfl 6 (by decide) (hts (.fieldLink RX11 100 "FiberTraceModel" "spot" "I") (by decide +kernel)) (fun _ h9 => h9) rfl (by decide +kernel) rfl rfl (Nat.le_of_ble_eq_true rfl) dX11_readsItem_206 (fun H locs hP hD hS => ?_)
                          have hP : va_P D vwCl [(m0, .inr (11, [.ref p0, .ref p1, .int i2, .ref p3, .int (nI tn), .ref p5, .int (nI ((ftIp tx tn sp i) + 1)), .int i7, .int 5, .int (nI (ftNs (nI j))), .ref p10, .int fd, .ref p12, .ref p13, .ref p14, .int i15, .ref p16, .ref p17, .int i18, .ref p19, .ref p20, .ref p21, .ref p22, .int i23, .int i24, .ref p25, .ref p26, .ref p27, .ref p28, .ref p29, .ref p30, .ref p31, .ref p32])), (p3, .inl (cI, 120, .inl tx)), (p5, .inl (cI, 44, .inl md)), (p10, .inl (cI, 3, .inl g28_p10))] H := hP
                          have hD : va_D A [(m0, .inr (11, [.ref p0, .ref p1, .int i2, .ref p3, .int (nI tn), .ref p5, .int (nI ((ftIp tx tn sp i) + 1)), .int i7, .int 5, .int (nI (ftNs (nI j))), .ref p10, .int fd, .ref p12, .ref p13, .ref p14, .int i15, .ref p16, .ref p17, .int i18, .ref p19, .ref p20, .ref p21, .ref p22, .int i23, .int i24, .ref p25, .ref p26, .ref p27, .ref p28, .ref p29, .ref p30, .ref p31, .ref p32])), (p3, .inl (cI, 120, .inl tx)), (p5, .inl (cI, 44, .inl md)), (p10, .inl (cI, 3, .inl g28_p10))] := hD
                          refine lv_iload_n hx hb dX11_readsItem_209 rfl (lv_at hl 2 rfl) ?_
                          refine lv_iconst (v := 3) hx hb dX11_readsItem_210 (by decide) ?_
                          refine lv_icmp_ge (tgt := 229) hx hb dX11_readsItem_211 (by decide) (fun c211 => ?_) (fun c211 => ?_)
                          · have c211n : 3 ≤ j := ft_leN (by omega) (by omega) c211
                            exact absurd (Int32.not_le.mp c117) (Int32.not_lt.mpr c211)
                          · have c211n : j < 3 := ft_nleN (by omega) (by omega) c211
                            refine lv_aload_n hx hb dX11_readsItem_214 rfl (lv_at hl 0 rfl) ?_
                            refine va_get (D := D) (ci := 11) (v := .ref p5) (C := RX11) (T := TX11) (N := 33) hx hb hts (by decide +kernel) hown hK hP 0 rfl rfl 5 (by decide) (hts (.fieldLink RX11 19 "FiberTraceModel" "made" "[I") (by decide +kernel)) (fun _ h9 => h9) rfl dX11_readsItem_215 ?_
                            refine lv_iload_n hx hb dX11_readsItem_218 rfl (lv_at hl 2 rfl) ?_
                            refine lv_aload_n hx hb dX11_readsItem_219 rfl (lv_at hl 0 rfl) ?_
                            refine va_get (D := D) (ci := 11) (v := .ref p10) (C := RX11) (T := TX11) (N := 33) hx hb hts (by decide +kernel) hown hK hP 0 rfl rfl 10 (by decide) (hts (.fieldLink RX11 22 "FiberTraceModel" "figured" "[I") (by decide +kernel)) (fun _ h9 => h9) rfl dX11_readsItem_220 ?_
                            refine lv_iconst (v := 0) hx hb dX11_readsItem_223 (by decide) ?_
                            refine va_iald hx hb hK hP 3 0 rfl rfl (vp_in_nI (n := 0) (by omega) (by omega)) dX11_readsItem_224 ?_
                            refine ft_top (y := g28_p10 0) rfl ?_
                            refine va_iast hx hb hK hP hD hS 2 0 rfl rfl (vp_in_nI (by omega) (by omega)) dX11_readsItem_225 (fun H locs hP hD hS => ?_)
                            rw [nI_clamp (show j < 2 ^ 31 by omega)] at hP hD
                            have hP : va_P D vwCl [(m0, .inr (11, [.ref p0, .ref p1, .int i2, .ref p3, .int (nI tn), .ref p5, .int (nI ((ftIp tx tn sp i) + 1)), .int i7, .int 5, .int (nI (ftNs (nI j))), .ref p10, .int fd, .ref p12, .ref p13, .ref p14, .int i15, .ref p16, .ref p17, .int i18, .ref p19, .ref p20, .ref p21, .ref p22, .int i23, .int i24, .ref p25, .ref p26, .ref p27, .ref p28, .ref p29, .ref p30, .ref p31, .ref p32])), (p3, .inl (cI, 120, .inl tx)), (p5, .inl (cI, 44, .inl (upd md j (g28_p10 0)))), (p10, .inl (cI, 3, .inl g28_p10))] H := hP
                            have hD : va_D A [(m0, .inr (11, [.ref p0, .ref p1, .int i2, .ref p3, .int (nI tn), .ref p5, .int (nI ((ftIp tx tn sp i) + 1)), .int i7, .int 5, .int (nI (ftNs (nI j))), .ref p10, .int fd, .ref p12, .ref p13, .ref p14, .int i15, .ref p16, .ref p17, .int i18, .ref p19, .ref p20, .ref p21, .ref p22, .int i23, .int i24, .ref p25, .ref p26, .ref p27, .ref p28, .ref p29, .ref p30, .ref p31, .ref p32])), (p3, .inl (cI, 120, .inl tx)), (p5, .inl (cI, 44, .inl (upd md j (g28_p10 0)))), (p10, .inl (cI, 3, .inl g28_p10))] := hD
                            refine lv_goto (tgt := 267) hx hb dX11_readsItem_226 (by decide) ?_
                            refine lv_aload_n hx hb dX11_readsItem_267 rfl (lv_at hl 0 rfl) ?_
                            refine va_get (D := D) (ci := 11) (v := .ref p10) (C := RX11) (T := TX11) (N := 33) hx hb hts (by decide +kernel) hown hK hP 0 rfl rfl 10 (by decide) (hts (.fieldLink RX11 22 "FiberTraceModel" "figured" "[I") (by decide +kernel)) (fun _ h9 => h9) rfl dX11_readsItem_268 ?_
                            refine lv_iconst (v := 2) hx hb dX11_readsItem_271 (by decide) ?_
                            refine lv_iload_n hx hb dX11_readsItem_272 rfl (lv_at hl 2 rfl) ?_
                            refine va_iast hx hb hK hP hD hS 3 0 rfl rfl (vp_in_nI (n := 2) (by omega) (by omega)) dX11_readsItem_273 (fun H locs hP hD hS => ?_)
                            have hP : va_P D vwCl [(m0, .inr (11, [.ref p0, .ref p1, .int i2, .ref p3, .int (nI tn), .ref p5, .int (nI ((ftIp tx tn sp i) + 1)), .int i7, .int 5, .int (nI (ftNs (nI j))), .ref p10, .int fd, .ref p12, .ref p13, .ref p14, .int i15, .ref p16, .ref p17, .int i18, .ref p19, .ref p20, .ref p21, .ref p22, .int i23, .int i24, .ref p25, .ref p26, .ref p27, .ref p28, .ref p29, .ref p30, .ref p31, .ref p32])), (p3, .inl (cI, 120, .inl tx)), (p5, .inl (cI, 44, .inl (upd md j (g28_p10 0)))), (p10, .inl (cI, 3, .inl (upd g28_p10 2 (nI j))))] H := hP
                            have hD : va_D A [(m0, .inr (11, [.ref p0, .ref p1, .int i2, .ref p3, .int (nI tn), .ref p5, .int (nI ((ftIp tx tn sp i) + 1)), .int i7, .int 5, .int (nI (ftNs (nI j))), .ref p10, .int fd, .ref p12, .ref p13, .ref p14, .int i15, .ref p16, .ref p17, .int i18, .ref p19, .ref p20, .ref p21, .ref p22, .int i23, .int i24, .ref p25, .ref p26, .ref p27, .ref p28, .ref p29, .ref p30, .ref p31, .ref p32])), (p3, .inl (cI, 120, .inl tx)), (p5, .inl (cI, 44, .inl (upd md j (g28_p10 0)))), (p10, .inl (cI, 3, .inl (upd g28_p10 2 (nI j))))] := hD
                            refine lv_iconst (v := 1) hx hb dX11_readsItem_274 (by decide) ?_
                            obtain ⟨u9, hu9⟩ : ∃ u9 : (Nat → Int32) × (Nat → Nat → Int32), u9 = ((fun k => match k with | 0 => (nI ((ftIp tx tn sp i) + 1)) | 1 => 5 | 2 => (nI (ftNs (nI j))) | _ => fd), (fun k => match k with | 0 => (upd g28_p10 2 (nI j)) | _ => (upd md j (g28_p10 0)))) := ⟨_, rfl⟩
                            have hw9 : ([(m0, .inr (11, [.ref p0, .ref p1, .int i2, .ref p3, .int (nI tn), .ref p5, .int (nI ((ftIp tx tn sp i) + 1)), .int i7, .int 5, .int (nI (ftNs (nI j))), .ref p10, .int fd, .ref p12, .ref p13, .ref p14, .int i15, .ref p16, .ref p17, .int i18, .ref p19, .ref p20, .ref p21, .ref p22, .int i23, .int i24, .ref p25, .ref p26, .ref p27, .ref p28, .ref p29, .ref p30, .ref p31, .ref p32])), (p3, .inl (cI, 120, .inl tx)), (p5, .inl (cI, 44, .inl (upd md j (g28_p10 0)))), (p10, .inl (cI, 3, .inl (upd g28_p10 2 (nI j))))] : va_W) = [(m0, .inr (11, [.ref p0, .ref p1, .int i2, .ref p3, .int (nI tn), .ref p5, .int (u9.1 0), .int i7, .int (u9.1 1), .int (u9.1 2), .ref p10, .int (u9.1 3), .ref p12, .ref p13, .ref p14, .int i15, .ref p16, .ref p17, .int i18, .ref p19, .ref p20, .ref p21, .ref p22, .int i23, .int i24, .ref p25, .ref p26, .ref p27, .ref p28, .ref p29, .ref p30, .ref p31, .ref p32])), (p3, .inl (cI, 120, .inl tx)), (p5, .inl (cI, 44, .inl (u9.2 1))), (p10, .inl (cI, 3, .inl (u9.2 0)))] := by subst hu9; rfl
                            rw [hw9] at hP hD
                            have hf9_0 : ftItOk tx tn md h sp → (u9.1 0 = nI (ftItP tx tn sp) ∧ u9.2 1 = ftItM tx tn md sp ∧ ∃ j, j < 6 ∧ u9.2 0 2 = nI j ∧ ftIw tx tn sp = nI j) := by intro _; rw [hu9]; refine ⟨?_, ?_, j, hj, ?_, hIw⟩; (show nI (ftIp tx tn sp i + 1) = _; rw [ftItP, hIw, ← hi9]); (rotate_left; show upd g28_p10 2 (nI j) 2 = nI j; exact ftUpd1 _ _ _); (show _ = ftItM tx tn md sp; rw [ftItM, hIw]; first | (rw [if_pos hlt3, nI_clamp (by omega), ← hf0] <;> rfl) | (rw [if_neg hnl3, hw3, nI_clamp (by omega), if_pos c250, ← hf0, ← hf1, ← hf2] <;> rfl) | (rw [if_neg hnl3, hw3, nI_clamp (by omega), if_neg c250, ← hf0, ← hf1] <;> rfl))
                            have hr9 : (1 : Int32) = ftB (ftItOk tx tn md h sp) := by exact (ftB_t hall).symm
                            exact W.zret (v := 1) hx hb hr (by rfl) (fun t ht hW => ⟨⟨1, u9, rfl, ⟨hr9, hf9_0⟩, by rw [ht]; exact hP, by rw [hAe]; exact hD⟩, by rw [hAe]; exact hS.F ht⟩) hS.2.2 dX11_readsItem_275
                        · have hnok : ¬ ftItOk tx tn md h sp := fun q => by have q5 := q.2.2.2.2.2; rw [hIw, ← hi9] at q5; exact c194 q5
                          refine lv_iconst (v := 0) hx hb dX11_readsItem_197 (by decide) ?_
                          obtain ⟨u9, hu9⟩ : ∃ u9 : (Nat → Int32) × (Nat → Nat → Int32), u9 = ((fun k => match k with | 0 => (nI (ftIp tx tn sp i)) | 1 => 5 | 2 => (nI (ftNs (nI j))) | _ => fd), (fun k => match k with | 0 => g28_p10 | _ => md)) := ⟨_, rfl⟩
                          have hw9 : ([(m0, .inr (11, [.ref p0, .ref p1, .int i2, .ref p3, .int (nI tn), .ref p5, .int (nI (ftIp tx tn sp i)), .int i7, .int 5, .int (nI (ftNs (nI j))), .ref p10, .int fd, .ref p12, .ref p13, .ref p14, .int i15, .ref p16, .ref p17, .int i18, .ref p19, .ref p20, .ref p21, .ref p22, .int i23, .int i24, .ref p25, .ref p26, .ref p27, .ref p28, .ref p29, .ref p30, .ref p31, .ref p32])), (p3, .inl (cI, 120, .inl tx)), (p5, .inl (cI, 44, .inl md)), (p10, .inl (cI, 3, .inl g28_p10))] : va_W) = [(m0, .inr (11, [.ref p0, .ref p1, .int i2, .ref p3, .int (nI tn), .ref p5, .int (u9.1 0), .int i7, .int (u9.1 1), .int (u9.1 2), .ref p10, .int (u9.1 3), .ref p12, .ref p13, .ref p14, .int i15, .ref p16, .ref p17, .int i18, .ref p19, .ref p20, .ref p21, .ref p22, .int i23, .int i24, .ref p25, .ref p26, .ref p27, .ref p28, .ref p29, .ref p30, .ref p31, .ref p32])), (p3, .inl (cI, 120, .inl tx)), (p5, .inl (cI, 44, .inl (u9.2 1))), (p10, .inl (cI, 3, .inl (u9.2 0)))] := by subst hu9; rfl
                          rw [hw9] at hP hD
                          have hf9_0 : ftItOk tx tn md h sp → (u9.1 0 = nI (ftItP tx tn sp) ∧ u9.2 1 = ftItM tx tn md sp ∧ ∃ j, j < 6 ∧ u9.2 0 2 = nI j ∧ ftIw tx tn sp = nI j) := by intro q; exact absurd q hnok
                          have hr9 : (0 : Int32) = ftB (ftItOk tx tn md h sp) := by exact (ftB_f hnok).symm
                          exact W.zret (v := 0) hx hb hr (by rfl) (fun t ht hW => ⟨⟨0, u9, rfl, ⟨hr9, hf9_0⟩, by rw [ht]; exact hP, by rw [hAe]; exact hD⟩, by rw [hAe]; exact hS.F ht⟩) hS.2.2 dX11_readsItem_198
                    · have hnok : ¬ ftItOk tx tn md h sp := fun q => c135 (q.2.2.2.1.1 (by rw [hIw]; exact hlt3)).2
                      refine lv_goto (tgt := 165) hx hb dX11_readsItem_138 (by decide) ?_
                      refine lv_iconst (v := 0) hx hb dX11_readsItem_165 (by decide) ?_
                      obtain ⟨u9, hu9⟩ : ∃ u9 : (Nat → Int32) × (Nat → Nat → Int32), u9 = ((fun k => match k with | 0 => (nI (ftIp tx tn sp i)) | 1 => 4 | 2 => (nI (ftNs (nI j))) | _ => fd), (fun k => match k with | 0 => g28_p10 | _ => md)) := ⟨_, rfl⟩
                      have hw9 : ([(m0, .inr (11, [.ref p0, .ref p1, .int i2, .ref p3, .int (nI tn), .ref p5, .int (nI (ftIp tx tn sp i)), .int i7, .int 4, .int (nI (ftNs (nI j))), .ref p10, .int fd, .ref p12, .ref p13, .ref p14, .int i15, .ref p16, .ref p17, .int i18, .ref p19, .ref p20, .ref p21, .ref p22, .int i23, .int i24, .ref p25, .ref p26, .ref p27, .ref p28, .ref p29, .ref p30, .ref p31, .ref p32])), (p3, .inl (cI, 120, .inl tx)), (p5, .inl (cI, 44, .inl md)), (p10, .inl (cI, 3, .inl g28_p10))] : va_W) = [(m0, .inr (11, [.ref p0, .ref p1, .int i2, .ref p3, .int (nI tn), .ref p5, .int (u9.1 0), .int i7, .int (u9.1 1), .int (u9.1 2), .ref p10, .int (u9.1 3), .ref p12, .ref p13, .ref p14, .int i15, .ref p16, .ref p17, .int i18, .ref p19, .ref p20, .ref p21, .ref p22, .int i23, .int i24, .ref p25, .ref p26, .ref p27, .ref p28, .ref p29, .ref p30, .ref p31, .ref p32])), (p3, .inl (cI, 120, .inl tx)), (p5, .inl (cI, 44, .inl (u9.2 1))), (p10, .inl (cI, 3, .inl (u9.2 0)))] := by subst hu9; rfl
                      rw [hw9] at hP hD
                      have hf9_0 : ftItOk tx tn md h sp → (u9.1 0 = nI (ftItP tx tn sp) ∧ u9.2 1 = ftItM tx tn md sp ∧ ∃ j, j < 6 ∧ u9.2 0 2 = nI j ∧ ftIw tx tn sp = nI j) := by intro q; exact absurd q hnok
                      have hr9 : (0 : Int32) = ftB (ftItOk tx tn md h sp) := by exact (ftB_f hnok).symm
                      exact W.zret (v := 0) hx hb hr (by rfl) (fun t ht hW => ⟨⟨0, u9, rfl, ⟨hr9, hf9_0⟩, by rw [ht]; exact hP, by rw [hAe]; exact hD⟩, by rw [hAe]; exact hS.F ht⟩) hS.2.2 dX11_readsItem_166
              · have c75n : iz < (ftNs (nI j)) := ft_nleN (by omega) (by omega) c75
                refine lv_aload_n hx hb dX11_readsItem_78 rfl (lv_at hl 0 rfl) ?_
                refine lv_iload_n hx hb dX11_readsItem_79 rfl (lv_at hl 3 rfl) ?_
                refine lv_iconst (v := 1) hx hb dX11_readsItem_80 (by decide) ?_
                refine lv_iadd hx hb dX11_readsItem_81 ?_
                refine ft_top (y := nI (iz + 1)) (ft_addN iz 1) ?_
                refine va_put (D := D) (ci := 11) (v := .int (nI (iz + 1))) (ty := .int) (C := RX11) (T := TX11) (N := 33) hx hb hts (by decide +kernel) tyX11 tyX11_ok nmX11 hown hK hP hD hS 0 rfl rfl 9 (by decide) (hts (.fieldLink RX11 139 "FiberTraceModel" "which" "I") (by decide +kernel)) (fun _ h9 => h9) rfl (by decide +kernel) rfl rfl (Nat.le_of_ble_eq_true rfl) dX11_readsItem_82 (fun H locs hP hD hS => ?_)
                have hP : va_P D vwCl [(m0, .inr (11, [.ref p0, .ref p1, .int i2, .ref p3, .int (nI tn), .ref p5, .int (nI (ftIp tx tn sp i)), .int i7, .int 3, .int (nI (iz + 1)), .ref p10, .int fd, .ref p12, .ref p13, .ref p14, .int i15, .ref p16, .ref p17, .int i18, .ref p19, .ref p20, .ref p21, .ref p22, .int i23, .int i24, .ref p25, .ref p26, .ref p27, .ref p28, .ref p29, .ref p30, .ref p31, .ref p32])), (p3, .inl (cI, 120, .inl tx)), (p5, .inl (cI, 44, .inl md)), (p10, .inl (cI, 3, .inl g28_p10))] H := hP
                have hD : va_D A [(m0, .inr (11, [.ref p0, .ref p1, .int i2, .ref p3, .int (nI tn), .ref p5, .int (nI (ftIp tx tn sp i)), .int i7, .int 3, .int (nI (iz + 1)), .ref p10, .int fd, .ref p12, .ref p13, .ref p14, .int i15, .ref p16, .ref p17, .int i18, .ref p19, .ref p20, .ref p21, .ref p22, .int i23, .int i24, .ref p25, .ref p26, .ref p27, .ref p28, .ref p29, .ref p30, .ref p31, .ref p32])), (p3, .inl (cI, 120, .inl tx)), (p5, .inl (cI, 44, .inl md)), (p10, .inl (cI, 3, .inl g28_p10))] := hD
                refine lv_aload_n hx hb dX11_readsItem_85 rfl (lv_at hl 0 rfl) ?_
                refine lv_iload_n hx hb dX11_readsItem_86 rfl (lv_at hl 2 rfl) ?_
                refine lv_iload_n hx hb dX11_readsItem_87 rfl (lv_at hl 3 rfl) ?_
                refine ft_csi (r := ftB (ftRt (nI j) iz (g28_p10 iz) (md 0))) (va_runV (C := RX11) (As := [.int (nI j), .int (nI iz)]) (rest := []) ⟨hx, hb, hml, hown, hts⟩ (c_X11_isRight l D cI cS m0 p0 p1 p3 p5 p10 p12 p13 p14 p16 p17 p19 p20 p21 p22 p25 p26 p27 p28 p29 p30 p31 p32 i2 (nI tn) (nI (ftIp tx tn sp i)) i7 3 (nI (iz + 1)) fd i15 i18 i23 i24 md g28_p10 (nI j) iz (by omega)) (cwV 2 hts gX11_readsItem_X11_isRight rfl rfl rfl (by decide +kernel) ⟨Nat.le_of_ble_eq_true rfl, Nat.le_of_ble_eq_true rfl⟩) (ft_preROV (ci := 11) (q0 := 0) hP hKK [0, 2, 3] rfl rfl rfl) rfl rfl hl.1 rfl (lv_room (Nat.le_of_ble_eq_true rfl)) dX11_readsItem_88 ⟨Nat.le_of_ble_eq_true rfl, Nat.le_of_ble_eq_true rfl⟩) ?_
                refine lv_if_ne (tgt := 96) hx hb dX11_readsItem_91 (by decide) (fun c91 => ?_) (fun c91 => ?_)
                · replace c91 := ftB_ne c91
                  refine lv_iinc (v := nI (iz + 1)) (lv' := [(3, .int (nI (iz + 1))), (0, .ref m0), (1, .int (nI h)), (2, .int (nI j))]) hx hb dX11_readsItem_96 hl (k := 3) rfl (ft_inc iz) (by decide) rfl (fun ls hl => ?_)
                  refine lv_goto (tgt := 70) hx hb dX11_readsItem_99 (by decide) ?_
                  exact ih70 (iz + 1) (nI (iz + 1)) (nI (iz + 1)) (nI (iz + 1)) (by omega) (by omega) (by intro t ht; rcases Nat.lt_succ_iff_lt_or_eq.mp ht with q | q; exact hrt t q; subst q; rw [← hfi t c75n]; exact c91) (by first | rfl | assumption) (by first | rfl | assumption) _ _ hP hD hS ls (lv_sub hl [1, 2, 3, 0] rfl)
                · replace c91 := ftB_eq c91
                  have hnok : ¬ ftItOk tx tn md h sp := fun q => c91 (by rw [hfi iz c75n]; have q3 := q.2.2.1 iz (by rw [hIw]; exact c75n); rw [hIw] at q3; exact q3)
                  refine lv_iconst (v := 0) hx hb dX11_readsItem_94 (by decide) ?_
                  obtain ⟨u9, hu9⟩ : ∃ u9 : (Nat → Int32) × (Nat → Nat → Int32), u9 = ((fun k => match k with | 0 => (nI (ftIp tx tn sp i)) | 1 => 3 | 2 => (nI (iz + 1)) | _ => fd), (fun k => match k with | 0 => g28_p10 | _ => md)) := ⟨_, rfl⟩
                  have hw9 : ([(m0, .inr (11, [.ref p0, .ref p1, .int i2, .ref p3, .int (nI tn), .ref p5, .int (nI (ftIp tx tn sp i)), .int i7, .int 3, .int (nI (iz + 1)), .ref p10, .int fd, .ref p12, .ref p13, .ref p14, .int i15, .ref p16, .ref p17, .int i18, .ref p19, .ref p20, .ref p21, .ref p22, .int i23, .int i24, .ref p25, .ref p26, .ref p27, .ref p28, .ref p29, .ref p30, .ref p31, .ref p32])), (p3, .inl (cI, 120, .inl tx)), (p5, .inl (cI, 44, .inl md)), (p10, .inl (cI, 3, .inl g28_p10))] : va_W) = [(m0, .inr (11, [.ref p0, .ref p1, .int i2, .ref p3, .int (nI tn), .ref p5, .int (u9.1 0), .int i7, .int (u9.1 1), .int (u9.1 2), .ref p10, .int (u9.1 3), .ref p12, .ref p13, .ref p14, .int i15, .ref p16, .ref p17, .int i18, .ref p19, .ref p20, .ref p21, .ref p22, .int i23, .int i24, .ref p25, .ref p26, .ref p27, .ref p28, .ref p29, .ref p30, .ref p31, .ref p32])), (p3, .inl (cI, 120, .inl tx)), (p5, .inl (cI, 44, .inl (u9.2 1))), (p10, .inl (cI, 3, .inl (u9.2 0)))] := by subst hu9; rfl
                  rw [hw9] at hP hD
                  have hf9_0 : ftItOk tx tn md h sp → (u9.1 0 = nI (ftItP tx tn sp) ∧ u9.2 1 = ftItM tx tn md sp ∧ ∃ j, j < 6 ∧ u9.2 0 2 = nI j ∧ ftIw tx tn sp = nI j) := by intro q; exact absurd q hnok
                  have hr9 : (0 : Int32) = ftB (ftItOk tx tn md h sp) := by exact (ftB_f hnok).symm
                  exact W.zret (v := 0) hx hb hr (by rfl) (fun t ht hW => ⟨⟨0, u9, rfl, ⟨hr9, hf9_0⟩, by rw [ht]; exact hP, by rw [hAe]; exact hD⟩, by rw [hAe]; exact hS.F ht⟩) hS.2.2 dX11_readsItem_95
          exact lp70 _ 0 (nI i) 0 (nI i) (Nat.lt_succ_self _) (by omega) (by intro t ht; exact absurd ht (Nat.not_lt_zero t)) (by rfl) (by rfl) _ _ hP hD hS ls (lv_sub hl [1, 2, 3, 0] rfl)
        · have c33n : i < (ftNs (nI j)) := ft_nleN (by omega) (by omega) c33
          refine lv_aload_n hx hb dX11_readsItem_36 rfl (lv_at hl 0 rfl) ?_
          refine lv_iload_n hx hb dX11_readsItem_37 rfl (lv_at hl 3 rfl) ?_
          refine lv_iconst (v := 1) hx hb dX11_readsItem_38 (by decide) ?_
          refine lv_iadd hx hb dX11_readsItem_39 ?_
          refine ft_top (y := nI (i + 1)) (ft_addN i 1) ?_
          refine va_put (D := D) (ci := 11) (v := .int (nI (i + 1))) (ty := .int) (C := RX11) (T := TX11) (N := 33) hx hb hts (by decide +kernel) tyX11 tyX11_ok nmX11 hown hK hP hD hS 0 rfl rfl 9 (by decide) (hts (.fieldLink RX11 139 "FiberTraceModel" "which" "I") (by decide +kernel)) (fun _ h9 => h9) rfl (by decide +kernel) rfl rfl (Nat.le_of_ble_eq_true rfl) dX11_readsItem_40 (fun H locs hP hD hS => ?_)
          have hP : va_P D vwCl [(m0, .inr (11, [.ref p0, .ref p1, .int i2, .ref p3, .int (nI tn), .ref p5, .int (nI (ftIp tx tn sp i)), .int i7, .int 2, .int (nI (i + 1)), .ref p10, .int fd, .ref p12, .ref p13, .ref p14, .int i15, .ref p16, .ref p17, .int i18, .ref p19, .ref p20, .ref p21, .ref p22, .int i23, .int i24, .ref p25, .ref p26, .ref p27, .ref p28, .ref p29, .ref p30, .ref p31, .ref p32])), (p3, .inl (cI, 120, .inl tx)), (p5, .inl (cI, 44, .inl md)), (p10, .inl (cI, 3, .inl g28_p10))] H := hP
          have hD : va_D A [(m0, .inr (11, [.ref p0, .ref p1, .int i2, .ref p3, .int (nI tn), .ref p5, .int (nI (ftIp tx tn sp i)), .int i7, .int 2, .int (nI (i + 1)), .ref p10, .int fd, .ref p12, .ref p13, .ref p14, .int i15, .ref p16, .ref p17, .int i18, .ref p19, .ref p20, .ref p21, .ref p22, .int i23, .int i24, .ref p25, .ref p26, .ref p27, .ref p28, .ref p29, .ref p30, .ref p31, .ref p32])), (p3, .inl (cI, 120, .inl tx)), (p5, .inl (cI, 44, .inl md)), (p10, .inl (cI, 3, .inl g28_p10))] := hD
          refine lv_aload_n hx hb dX11_readsItem_43 rfl (lv_at hl 0 rfl) ?_
          refine lv_iload_n hx hb dX11_readsItem_44 rfl (lv_at hl 3 rfl) ?_
          refine ft_cv (wc := [(m0, .inr (11, [.ref p0, .ref p1, .int i2, .ref p3, .int (nI tn), .ref p5, .int (nI (ftIp tx tn sp i)), .int i7, .int 2, .int (nI (i + 1)), .ref p10, .int fd, .ref p12, .ref p13, .ref p14, .int i15, .ref p16, .ref p17, .int i18, .ref p19, .ref p20, .ref p21, .ref p22, .int i23, .int i24, .ref p25, .ref p26, .ref p27, .ref p28, .ref p29, .ref p30, .ref p31, .ref p32])), (p3, .inl (cI, 120, .inl tx)), (p10, .inl (cI, 3, .inl g28_p10))]) (wr := [(p5, .inl (cI, 44, .inl md))]) (w1 := [(m0, .inr (11, [.ref p0, .ref p1, .int i2, .ref p3, .int (nI tn), .ref p5, .int (nI (ftNe tx tn (ftIp tx tn sp i))), .int i7, .int 2, .int (nI (i + 1)), .ref p10, .int (ftB (ftNok tx tn (ftIp tx tn sp i))), .ref p12, .ref p13, .ref p14, .int i15, .ref p16, .ref p17, .int i18, .ref p19, .ref p20, .ref p21, .ref p22, .int i23, .int i24, .ref p25, .ref p26, .ref p27, .ref p28, .ref p29, .ref p30, .ref p31, .ref p32])), (p3, .inl (cI, 120, .inl tx)), (p10, .inl (cI, 3, .inl (ftNf tx tn (ftIp tx tn sp i) i g28_p10)))]) (ws1 := [(m0, .inr (11, [.ref p0, .ref p1, .int i2, .ref p3, .int (nI tn), .ref p5, .int (nI (ftNe tx tn (ftIp tx tn sp i))), .int i7, .int 2, .int (nI (i + 1)), .ref p10, .int (ftB (ftNok tx tn (ftIp tx tn sp i))), .ref p12, .ref p13, .ref p14, .int i15, .ref p16, .ref p17, .int i18, .ref p19, .ref p20, .ref p21, .ref p22, .int i23, .int i24, .ref p25, .ref p26, .ref p27, .ref p28, .ref p29, .ref p30, .ref p31, .ref p32])), (p3, .inl (cI, 120, .inl tx)), (p5, .inl (cI, 44, .inl md)), (p10, .inl (cI, 3, .inl (ftNf tx tn (ftIp tx tn sp i) i g28_p10)))]) (va_runV (C := RX11) (As := [.int (nI i)]) (rest := []) ⟨hx, hb, hml, hown, hts⟩ (c_X11_readsNumber l D cI cS H.size m0 p0 p1 p3 p5 p10 p12 p13 p14 p16 p17 p19 p20 p21 p22 p25 p26 p27 p28 p29 p30 p31 p32 i2 i7 2 (nI (i + 1)) fd i15 i18 i23 i24 tx g28_p10 tn (ftIp tx tn sp i) i htn hpi (by omega)) (cwV 1 hts gX11_readsItem_X11_readsNumber rfl rfl rfl (by decide +kernel) ⟨Nat.le_of_ble_eq_true rfl, Nat.le_of_ble_eq_true rfl⟩) (ft_preRWV (ci := 11) (q0 := 0) hP hD hKK [0, 1, 3] rfl rfl rfl rfl rfl) rfl rfl hl.1 rfl (lv_room (Nat.le_of_ble_eq_true rfl)) dX11_readsItem_45 ⟨Nat.le_of_ble_eq_true rfl, Nat.le_of_ble_eq_true rfl⟩) hP hD hS hA [0, 1, 3] [2] [1, 2, 0, 3] rfl rfl (by decide) (by decide) (by decide) rfl rfl (fun H locs hP hD hS => ?_)
          have hP : va_P D vwCl [(m0, .inr (11, [.ref p0, .ref p1, .int i2, .ref p3, .int (nI tn), .ref p5, .int (nI (ftNe tx tn (ftIp tx tn sp i))), .int i7, .int 2, .int (nI (i + 1)), .ref p10, .int (ftB (ftNok tx tn (ftIp tx tn sp i))), .ref p12, .ref p13, .ref p14, .int i15, .ref p16, .ref p17, .int i18, .ref p19, .ref p20, .ref p21, .ref p22, .int i23, .int i24, .ref p25, .ref p26, .ref p27, .ref p28, .ref p29, .ref p30, .ref p31, .ref p32])), (p3, .inl (cI, 120, .inl tx)), (p5, .inl (cI, 44, .inl md)), (p10, .inl (cI, 3, .inl (ftNf tx tn (ftIp tx tn sp i) i g28_p10)))] H := hP
          have hD : va_D A [(m0, .inr (11, [.ref p0, .ref p1, .int i2, .ref p3, .int (nI tn), .ref p5, .int (nI (ftNe tx tn (ftIp tx tn sp i))), .int i7, .int 2, .int (nI (i + 1)), .ref p10, .int (ftB (ftNok tx tn (ftIp tx tn sp i))), .ref p12, .ref p13, .ref p14, .int i15, .ref p16, .ref p17, .int i18, .ref p19, .ref p20, .ref p21, .ref p22, .int i23, .int i24, .ref p25, .ref p26, .ref p27, .ref p28, .ref p29, .ref p30, .ref p31, .ref p32])), (p3, .inl (cI, 120, .inl tx)), (p5, .inl (cI, 44, .inl md)), (p10, .inl (cI, 3, .inl (ftNf tx tn (ftIp tx tn sp i) i g28_p10)))] := hD
          refine lv_aload_n hx hb dX11_readsItem_48 rfl (lv_at hl 0 rfl) ?_
          refine va_get (D := D) (ci := 11) (v := .int (ftB (ftNok tx tn (ftIp tx tn sp i)))) (C := RX11) (T := TX11) (N := 33) hx hb hts (by decide +kernel) hown hK hP 0 rfl rfl 11 (by decide) (hts (.fieldLink RX11 114 "FiberTraceModel" "isFigured" "Z") (by decide +kernel)) (fun _ h9 => h9) rfl dX11_readsItem_49 ?_
          refine lv_if_ne (tgt := 57) hx hb dX11_readsItem_52 (by decide) (fun c52 => ?_) (fun c52 => ?_)
          · replace c52 := ftB_ne c52
            refine lv_iinc (v := nI (i + 1)) (lv' := [(3, .int (nI (i + 1))), (0, .ref m0), (1, .int (nI h)), (2, .int (nI j))]) hx hb dX11_readsItem_57 hl (k := 3) rfl (ft_inc i) (by decide) rfl (fun ls hl => ?_)
            refine lv_goto (tgt := 28) hx hb dX11_readsItem_60 (by decide) ?_
            exact ih28 (i + 1) (ftB (ftNok tx tn (ftIp tx tn sp i))) (nI (i + 1)) (nI (ftNe tx tn (ftIp tx tn sp i))) (nI (i + 1)) (ftB (ftNok tx tn (ftIp tx tn sp i))) (ftNf tx tn (ftIp tx tn sp i) i g28_p10) (by omega) (by omega) (by intro t ht; rcases Nat.lt_succ_iff_lt_or_eq.mp ht with q | q; exact hnk t q; subst q; exact c52) (by first | rfl | assumption) (by rfl) (by rfl) (by first | rfl | assumption) (by rw [eg28_p10]; rfl) _ _ hP hD hS ls (lv_sub hl [1, 2, 3, 0] rfl)
          · replace c52 := ftB_eq c52
            have hnok : ¬ ftItOk tx tn md h sp := fun q => c52 (q.2.1 i (by rw [hIw]; exact c33n))
            refine lv_iconst (v := 0) hx hb dX11_readsItem_55 (by decide) ?_
            obtain ⟨u9, hu9⟩ : ∃ u9 : (Nat → Int32) × (Nat → Nat → Int32), u9 = ((fun k => match k with | 0 => (nI (ftNe tx tn (ftIp tx tn sp i))) | 1 => 2 | 2 => (nI (i + 1)) | _ => (ftB (ftNok tx tn (ftIp tx tn sp i)))), (fun k => match k with | 0 => (ftNf tx tn (ftIp tx tn sp i) i g28_p10) | _ => md)) := ⟨_, rfl⟩
            have hw9 : ([(m0, .inr (11, [.ref p0, .ref p1, .int i2, .ref p3, .int (nI tn), .ref p5, .int (nI (ftNe tx tn (ftIp tx tn sp i))), .int i7, .int 2, .int (nI (i + 1)), .ref p10, .int (ftB (ftNok tx tn (ftIp tx tn sp i))), .ref p12, .ref p13, .ref p14, .int i15, .ref p16, .ref p17, .int i18, .ref p19, .ref p20, .ref p21, .ref p22, .int i23, .int i24, .ref p25, .ref p26, .ref p27, .ref p28, .ref p29, .ref p30, .ref p31, .ref p32])), (p3, .inl (cI, 120, .inl tx)), (p5, .inl (cI, 44, .inl md)), (p10, .inl (cI, 3, .inl (ftNf tx tn (ftIp tx tn sp i) i g28_p10)))] : va_W) = [(m0, .inr (11, [.ref p0, .ref p1, .int i2, .ref p3, .int (nI tn), .ref p5, .int (u9.1 0), .int i7, .int (u9.1 1), .int (u9.1 2), .ref p10, .int (u9.1 3), .ref p12, .ref p13, .ref p14, .int i15, .ref p16, .ref p17, .int i18, .ref p19, .ref p20, .ref p21, .ref p22, .int i23, .int i24, .ref p25, .ref p26, .ref p27, .ref p28, .ref p29, .ref p30, .ref p31, .ref p32])), (p3, .inl (cI, 120, .inl tx)), (p5, .inl (cI, 44, .inl (u9.2 1))), (p10, .inl (cI, 3, .inl (u9.2 0)))] := by subst hu9; rfl
            rw [hw9] at hP hD
            have hf9_0 : ftItOk tx tn md h sp → (u9.1 0 = nI (ftItP tx tn sp) ∧ u9.2 1 = ftItM tx tn md sp ∧ ∃ j, j < 6 ∧ u9.2 0 2 = nI j ∧ ftIw tx tn sp = nI j) := by intro q; exact absurd q hnok
            have hr9 : (0 : Int32) = ftB (ftItOk tx tn md h sp) := by exact (ftB_f hnok).symm
            exact W.zret (v := 0) hx hb hr (by rfl) (fun t ht hW => ⟨⟨0, u9, rfl, ⟨hr9, hf9_0⟩, by rw [ht]; exact hP, by rw [hAe]; exact hD⟩, by rw [hAe]; exact hS.F ht⟩) hS.2.2 dX11_readsItem_56
    exact lp28 _ 0 i11 0 (nI (sp + ftRun tx tn sp)) 0 i11 fg (Nat.lt_succ_self _) (by omega) (by intro t ht; exact absurd ht (Nat.not_lt_zero t)) (by rfl) (by rfl) (by rfl) (by rfl) (by rfl) _ _ hP hD hS ls (lv_sub hl [2, 3, 1, 0] rfl)
  · have hnok : ¬ ftItOk tx tn md h sp := fun q => q.1 (Int32.not_le.mp c16)
    refine lv_iconst (v := 0) hx hb dX11_readsItem_19 (by decide) ?_
    obtain ⟨u9, hu9⟩ : ∃ u9 : (Nat → Int32) × (Nat → Nat → Int32), u9 = ((fun k => match k with | 0 => (nI (sp + ftRun tx tn sp)) | 1 => 1 | 2 => 0 | _ => i11), (fun k => match k with | 0 => fg | _ => md)) := ⟨_, rfl⟩
    have hw9 : ([(m0, .inr (11, [.ref p0, .ref p1, .int i2, .ref p3, .int (nI tn), .ref p5, .int (nI (sp + ftRun tx tn sp)), .int i7, .int 1, .int 0, .ref p10, .int i11, .ref p12, .ref p13, .ref p14, .int i15, .ref p16, .ref p17, .int i18, .ref p19, .ref p20, .ref p21, .ref p22, .int i23, .int i24, .ref p25, .ref p26, .ref p27, .ref p28, .ref p29, .ref p30, .ref p31, .ref p32])), (p3, .inl (cI, 120, .inl tx)), (p5, .inl (cI, 44, .inl md)), (p10, .inl (cI, 3, .inl fg))] : va_W) = [(m0, .inr (11, [.ref p0, .ref p1, .int i2, .ref p3, .int (nI tn), .ref p5, .int (u9.1 0), .int i7, .int (u9.1 1), .int (u9.1 2), .ref p10, .int (u9.1 3), .ref p12, .ref p13, .ref p14, .int i15, .ref p16, .ref p17, .int i18, .ref p19, .ref p20, .ref p21, .ref p22, .int i23, .int i24, .ref p25, .ref p26, .ref p27, .ref p28, .ref p29, .ref p30, .ref p31, .ref p32])), (p3, .inl (cI, 120, .inl tx)), (p5, .inl (cI, 44, .inl (u9.2 1))), (p10, .inl (cI, 3, .inl (u9.2 0)))] := by subst hu9; rfl
    rw [hw9] at hP hD
    have hf9_0 : ftItOk tx tn md h sp → (u9.1 0 = nI (ftItP tx tn sp) ∧ u9.2 1 = ftItM tx tn md sp ∧ ∃ j, j < 6 ∧ u9.2 0 2 = nI j ∧ ftIw tx tn sp = nI j) := by intro q; exact absurd q hnok
    have hr9 : (0 : Int32) = ftB (ftItOk tx tn md h sp) := by exact (ftB_f hnok).symm
    exact W.zret (v := 0) hx hb hr (by rfl) (fun t ht hW => ⟨⟨0, u9, rfl, ⟨hr9, hf9_0⟩, by rw [ht]; exact hP, by rw [hAe]; exact hD⟩, by rw [hAe]; exact hS.F ht⟩) hS.2.2 dX11_readsItem_20
set_option maxHeartbeats 4000000 in
set_option maxRecDepth 100000 in
theorem c_X11_hasFault (l : Launch) (D : va_G) (cI cS : ClassId) (sz : Nat) (m0 p0 p1 p3 p5 p10 p12 p13 p14 p16 p17 p19 p20 p21 p22 p25 p26 p27 p28 p29 p30 p31 p32 : Nat) (i2 i6 i7 i8 i9 i11 i15 i18 i23 i24 : Int32) (tx md fg : Nat → Int32) (tn : Nat) (htn : tn ≤ 120) : Met l yX11_hasFault wsX11_hasFault ({ frames := 3, cells := 0, slots := 0, locals := 73 }) (ftRW D cI cS [.ref m0] [(m0, .inr (11, [.ref p0, .ref p1, .int i2, .ref p3, .int (nI tn), .ref p5, .int i6, .int i7, .int i8, .int i9, .ref p10, .int i11, .ref p12, .ref p13, .ref p14, .int i15, .ref p16, .ref p17, .int i18, .ref p19, .ref p20, .ref p21, .ref p22, .int i23, .int i24, .ref p25, .ref p26, .ref p27, .ref p28, .ref p29, .ref p30, .ref p31, .ref p32])), (p3, .inl (cI, 120, .inl tx)), (p5, .inl (cI, 44, .inl md)), (p10, .inl (cI, 3, .inl fg))] sz) (ftXi D [(m0, .inr (11, [.ref p0, .ref p1, .int i2, .ref p3, .int (nI tn), .ref p5, .int i6, .int i7, .int i8, .int i9, .ref p10, .int i11, .ref p12, .ref p13, .ref p14, .int i15, .ref p16, .ref p17, .int i18, .ref p19, .ref p20, .ref p21, .ref p22, .int i23, .int i24, .ref p25, .ref p26, .ref p27, .ref p28, .ref p29, .ref p30, .ref p31, .ref p32])), (p3, .inl (cI, 120, .inl tx)), (p5, .inl (cI, 44, .inl md)), (p10, .inl (cI, 3, .inl fg))] sz (fun (o9 : Int32) (u : (Nat → Int32) × (Nat → Nat → Int32)) => o9 = ftB (ftPars tx tn md = none) ∧ (∀ md9, ftPars tx tn md = some md9 → u.2 1 = md9)) (fun (u : (Nat → Int32) × (Nat → Nat → Int32)) => [(m0, .inr (11, [.ref p0, .ref p1, .int i2, .ref p3, .int (nI tn), .ref p5, .int (u.1 0), .int (u.1 1), .int (u.1 2), .int (u.1 3), .ref p10, .int (u.1 4), .ref p12, .ref p13, .ref p14, .int i15, .ref p16, .ref p17, .int i18, .ref p19, .ref p20, .ref p21, .ref p22, .int i23, .int i24, .ref p25, .ref p26, .ref p27, .ref p28, .ref p29, .ref p30, .ref p31, .ref p32])), (p3, .inl (cI, 120, .inl tx)), (p5, .inl (cI, 44, .inl (u.2 1))), (p10, .inl (cI, 3, .inl (u.2 0)))])) 0 0 (va_A [(m0, .inr (11, [.ref p0, .ref p1, .int i2, .ref p3, .int (nI tn), .ref p5, .int i6, .int i7, .int i8, .int i9, .ref p10, .int i11, .ref p12, .ref p13, .ref p14, .int i15, .ref p16, .ref p17, .int i18, .ref p19, .ref p20, .ref p21, .ref p22, .int i23, .int i24, .ref p25, .ref p26, .ref p27, .ref p28, .ref p29, .ref p30, .ref p31, .ref p32])), (p3, .inl (cI, 120, .inl tx)), (p5, .inl (cI, 44, .inl md)), (p10, .inl (cI, 3, .inl fg))] sz) := by
  refine Met.ofW (cc := cX11_hasFault) (maxL := 2) (ret := (some .boolean)) (by decide) rfl ?_
  intro p e s m args below meth c s₁ B hml hv
  obtain ⟨rfl, hsz, hP, hKK, hD0⟩ := hv
  have hK := hKK.1
  have hx := B.exec
  have hb := B.bytes
  have hr := B.returns
  have hts := atoms_spec (ws := wsX11_hasFault) B.pre
  have hown : s.vm.findClass RX11 = some m.cls := findClass_of_methodNamed B.named
  have hlocks := B.notSynchronized
  subst hsz
  have hD := hD0.self (sz := s.heap.size)
  generalize hAe : va_A [(m0, .inr (11, [.ref p0, .ref p1, .int i2, .ref p3, .int (nI tn), .ref p5, .int i6, .int i7, .int i8, .int i9, .ref p10, .int i11, .ref p12, .ref p13, .ref p14, .int i15, .ref p16, .ref p17, .int i18, .ref p19, .ref p20, .ref p21, .ref p22, .int i23, .int i24, .ref p25, .ref p26, .ref p27, .ref p28, .ref p29, .ref p30, .ref p31, .ref p32])), (p3, .inl (cI, 120, .inl tx)), (p5, .inl (cI, 44, .inl md)), (p10, .inl (cI, 3, .inl fg))] s.heap.size = A at hD ⊢
  have hA : ∀ q : Nat, s.heap.size ≤ q → A q := fun q h => by rw [← hAe]; exact Or.inr h
  have hS : va_S A s.heap s.heap [] := va_S.rf
  have hD : va_D A [(m0, .inr (11, [.ref p0, .ref p1, .int i2, .ref p3, .int (nI tn), .ref p5, .int i6, .int i7, .int i8, .int i9, .ref p10, .int i11, .ref p12, .ref p13, .ref p14, .int i15, .ref p16, .ref p17, .int i18, .ref p19, .ref p20, .ref p21, .ref p22, .int i23, .int i24, .ref p25, .ref p26, .ref p27, .ref p28, .ref p29, .ref p30, .ref p31, .ref p32])), (p3, .inl (cI, 120, .inl tx)), (p5, .inl (cI, 44, .inl md)), (p10, .inl (cI, 3, .inl fg))] := hD
  have hP : va_P D vwCl [(m0, .inr (11, [.ref p0, .ref p1, .int i2, .ref p3, .int (nI tn), .ref p5, .int i6, .int i7, .int i8, .int i9, .ref p10, .int i11, .ref p12, .ref p13, .ref p14, .int i15, .ref p16, .ref p17, .int i18, .ref p19, .ref p20, .ref p21, .ref p22, .int i23, .int i24, .ref p25, .ref p26, .ref p27, .ref p28, .ref p29, .ref p30, .ref p31, .ref p32])), (p3, .inl (cI, 120, .inl tx)), (p5, .inl (cI, 44, .inl md)), (p10, .inl (cI, 3, .inl fg))] s.heap := hP
  have hl := lv_entry ([.ref m0]) (n := 2) (Nat.le_of_ble_eq_true rfl)
  rw [lg_entry_eq]
  generalize (lg_sl ([.ref m0]) ++ List.replicate (2 - (lg_sl ([.ref m0])).length) Slot.unset).toArray = ls at hl ⊢
  have hl : lv_has ls 2 [(0, .ref m0)] := hl
  refine lv_aload_n hx hb dX11_hasFault_0 rfl (lv_at hl 0 rfl) ?_
  refine va_get (D := D) (ci := 11) (v := .ref p5) (C := RX11) (T := TX11) (N := 33) hx hb hts (by decide +kernel) hown hK hP 0 rfl rfl 5 (by decide) (hts (.fieldLink RX11 19 "FiberTraceModel" "made" "[I") (by decide +kernel)) (fun _ h9 => h9) rfl dX11_hasFault_1 ?_
  refine lv_iconst (v := 0) hx hb dX11_hasFault_4 (by decide) ?_
  refine lv_sipush (v := 200) hx hb dX11_hasFault_5 (by decide) ?_
  refine va_iast hx hb hK hP hD hS 2 0 rfl rfl (vp_in_nI (n := 0) (by omega) (by omega)) dX11_hasFault_8 (fun H locs hP hD hS => ?_)
  have hP : va_P D vwCl [(m0, .inr (11, [.ref p0, .ref p1, .int i2, .ref p3, .int (nI tn), .ref p5, .int i6, .int i7, .int i8, .int i9, .ref p10, .int i11, .ref p12, .ref p13, .ref p14, .int i15, .ref p16, .ref p17, .int i18, .ref p19, .ref p20, .ref p21, .ref p22, .int i23, .int i24, .ref p25, .ref p26, .ref p27, .ref p28, .ref p29, .ref p30, .ref p31, .ref p32])), (p3, .inl (cI, 120, .inl tx)), (p5, .inl (cI, 44, .inl (upd md 0 200))), (p10, .inl (cI, 3, .inl fg))] H := hP
  have hD : va_D A [(m0, .inr (11, [.ref p0, .ref p1, .int i2, .ref p3, .int (nI tn), .ref p5, .int i6, .int i7, .int i8, .int i9, .ref p10, .int i11, .ref p12, .ref p13, .ref p14, .int i15, .ref p16, .ref p17, .int i18, .ref p19, .ref p20, .ref p21, .ref p22, .int i23, .int i24, .ref p25, .ref p26, .ref p27, .ref p28, .ref p29, .ref p30, .ref p31, .ref p32])), (p3, .inl (cI, 120, .inl tx)), (p5, .inl (cI, 44, .inl (upd md 0 200))), (p10, .inl (cI, 3, .inl fg))] := hD
  refine lv_aload_n hx hb dX11_hasFault_9 rfl (lv_at hl 0 rfl) ?_
  refine va_get (D := D) (ci := 11) (v := .ref p5) (C := RX11) (T := TX11) (N := 33) hx hb hts (by decide +kernel) hown hK hP 0 rfl rfl 5 (by decide) (hts (.fieldLink RX11 19 "FiberTraceModel" "made" "[I") (by decide +kernel)) (fun _ h9 => h9) rfl dX11_hasFault_10 ?_
  refine lv_iconst (v := 1) hx hb dX11_hasFault_13 (by decide) ?_
  refine lv_bipush (v := 10) hx hb dX11_hasFault_14 (by decide) ?_
  refine va_iast hx hb hK hP hD hS 2 0 rfl rfl (vp_in_nI (n := 1) (by omega) (by omega)) dX11_hasFault_16 (fun H locs hP hD hS => ?_)
  have hP : va_P D vwCl [(m0, .inr (11, [.ref p0, .ref p1, .int i2, .ref p3, .int (nI tn), .ref p5, .int i6, .int i7, .int i8, .int i9, .ref p10, .int i11, .ref p12, .ref p13, .ref p14, .int i15, .ref p16, .ref p17, .int i18, .ref p19, .ref p20, .ref p21, .ref p22, .int i23, .int i24, .ref p25, .ref p26, .ref p27, .ref p28, .ref p29, .ref p30, .ref p31, .ref p32])), (p3, .inl (cI, 120, .inl tx)), (p5, .inl (cI, 44, .inl (upd (upd md 0 200) 1 10))), (p10, .inl (cI, 3, .inl fg))] H := hP
  have hD : va_D A [(m0, .inr (11, [.ref p0, .ref p1, .int i2, .ref p3, .int (nI tn), .ref p5, .int i6, .int i7, .int i8, .int i9, .ref p10, .int i11, .ref p12, .ref p13, .ref p14, .int i15, .ref p16, .ref p17, .int i18, .ref p19, .ref p20, .ref p21, .ref p22, .int i23, .int i24, .ref p25, .ref p26, .ref p27, .ref p28, .ref p29, .ref p30, .ref p31, .ref p32])), (p3, .inl (cI, 120, .inl tx)), (p5, .inl (cI, 44, .inl (upd (upd md 0 200) 1 10))), (p10, .inl (cI, 3, .inl fg))] := hD
  refine lv_aload_n hx hb dX11_hasFault_17 rfl (lv_at hl 0 rfl) ?_
  refine va_get (D := D) (ci := 11) (v := .ref p5) (C := RX11) (T := TX11) (N := 33) hx hb hts (by decide +kernel) hown hK hP 0 rfl rfl 5 (by decide) (hts (.fieldLink RX11 19 "FiberTraceModel" "made" "[I") (by decide +kernel)) (fun _ h9 => h9) rfl dX11_hasFault_18 ?_
  refine lv_iconst (v := 2) hx hb dX11_hasFault_21 (by decide) ?_
  refine lv_sipush (v := 12000) hx hb dX11_hasFault_22 (by decide) ?_
  refine va_iast hx hb hK hP hD hS 2 0 rfl rfl (vp_in_nI (n := 2) (by omega) (by omega)) dX11_hasFault_25 (fun H locs hP hD hS => ?_)
  have hP : va_P D vwCl [(m0, .inr (11, [.ref p0, .ref p1, .int i2, .ref p3, .int (nI tn), .ref p5, .int i6, .int i7, .int i8, .int i9, .ref p10, .int i11, .ref p12, .ref p13, .ref p14, .int i15, .ref p16, .ref p17, .int i18, .ref p19, .ref p20, .ref p21, .ref p22, .int i23, .int i24, .ref p25, .ref p26, .ref p27, .ref p28, .ref p29, .ref p30, .ref p31, .ref p32])), (p3, .inl (cI, 120, .inl tx)), (p5, .inl (cI, 44, .inl (upd (upd (upd md 0 200) 1 10) 2 12000))), (p10, .inl (cI, 3, .inl fg))] H := hP
  have hD : va_D A [(m0, .inr (11, [.ref p0, .ref p1, .int i2, .ref p3, .int (nI tn), .ref p5, .int i6, .int i7, .int i8, .int i9, .ref p10, .int i11, .ref p12, .ref p13, .ref p14, .int i15, .ref p16, .ref p17, .int i18, .ref p19, .ref p20, .ref p21, .ref p22, .int i23, .int i24, .ref p25, .ref p26, .ref p27, .ref p28, .ref p29, .ref p30, .ref p31, .ref p32])), (p3, .inl (cI, 120, .inl tx)), (p5, .inl (cI, 44, .inl (upd (upd (upd md 0 200) 1 10) 2 12000))), (p10, .inl (cI, 3, .inl fg))] := hD
  refine lv_aload_n hx hb dX11_hasFault_26 rfl (lv_at hl 0 rfl) ?_
  refine va_get (D := D) (ci := 11) (v := .ref p5) (C := RX11) (T := TX11) (N := 33) hx hb hts (by decide +kernel) hown hK hP 0 rfl rfl 5 (by decide) (hts (.fieldLink RX11 19 "FiberTraceModel" "made" "[I") (by decide +kernel)) (fun _ h9 => h9) rfl dX11_hasFault_27 ?_
  refine lv_iconst (v := 3) hx hb dX11_hasFault_30 (by decide) ?_
  refine lv_iconst (v := 0) hx hb dX11_hasFault_31 (by decide) ?_
  refine va_iast hx hb hK hP hD hS 2 0 rfl rfl (vp_in_nI (n := 3) (by omega) (by omega)) dX11_hasFault_32 (fun H locs hP hD hS => ?_)
  have hP : va_P D vwCl [(m0, .inr (11, [.ref p0, .ref p1, .int i2, .ref p3, .int (nI tn), .ref p5, .int i6, .int i7, .int i8, .int i9, .ref p10, .int i11, .ref p12, .ref p13, .ref p14, .int i15, .ref p16, .ref p17, .int i18, .ref p19, .ref p20, .ref p21, .ref p22, .int i23, .int i24, .ref p25, .ref p26, .ref p27, .ref p28, .ref p29, .ref p30, .ref p31, .ref p32])), (p3, .inl (cI, 120, .inl tx)), (p5, .inl (cI, 44, .inl (upd (upd (upd (upd md 0 200) 1 10) 2 12000) 3 0))), (p10, .inl (cI, 3, .inl fg))] H := hP
  have hD : va_D A [(m0, .inr (11, [.ref p0, .ref p1, .int i2, .ref p3, .int (nI tn), .ref p5, .int i6, .int i7, .int i8, .int i9, .ref p10, .int i11, .ref p12, .ref p13, .ref p14, .int i15, .ref p16, .ref p17, .int i18, .ref p19, .ref p20, .ref p21, .ref p22, .int i23, .int i24, .ref p25, .ref p26, .ref p27, .ref p28, .ref p29, .ref p30, .ref p31, .ref p32])), (p3, .inl (cI, 120, .inl tx)), (p5, .inl (cI, 44, .inl (upd (upd (upd (upd md 0 200) 1 10) 2 12000) 3 0))), (p10, .inl (cI, 3, .inl fg))] := hD
  refine lv_aload_n hx hb dX11_hasFault_33 rfl (lv_at hl 0 rfl) ?_
  refine lv_iconst (v := 0) hx hb dX11_hasFault_34 (by decide) ?_
  refine va_put (D := D) (ci := 11) (v := .int 0) (ty := .int) (C := RX11) (T := TX11) (N := 33) hx hb hts (by decide +kernel) tyX11 tyX11_ok nmX11 hown hK hP hD hS 0 rfl rfl 6 (by decide) (hts (.fieldLink RX11 100 "FiberTraceModel" "spot" "I") (by decide +kernel)) (fun _ h9 => h9) rfl (by decide +kernel) rfl rfl (Nat.le_of_ble_eq_true rfl) dX11_hasFault_35 (fun H locs hP hD hS => ?_)
  have hP : va_P D vwCl [(m0, .inr (11, [.ref p0, .ref p1, .int i2, .ref p3, .int (nI tn), .ref p5, .int 0, .int i7, .int i8, .int i9, .ref p10, .int i11, .ref p12, .ref p13, .ref p14, .int i15, .ref p16, .ref p17, .int i18, .ref p19, .ref p20, .ref p21, .ref p22, .int i23, .int i24, .ref p25, .ref p26, .ref p27, .ref p28, .ref p29, .ref p30, .ref p31, .ref p32])), (p3, .inl (cI, 120, .inl tx)), (p5, .inl (cI, 44, .inl (upd (upd (upd (upd md 0 200) 1 10) 2 12000) 3 0))), (p10, .inl (cI, 3, .inl fg))] H := hP
  have hD : va_D A [(m0, .inr (11, [.ref p0, .ref p1, .int i2, .ref p3, .int (nI tn), .ref p5, .int 0, .int i7, .int i8, .int i9, .ref p10, .int i11, .ref p12, .ref p13, .ref p14, .int i15, .ref p16, .ref p17, .int i18, .ref p19, .ref p20, .ref p21, .ref p22, .int i23, .int i24, .ref p25, .ref p26, .ref p27, .ref p28, .ref p29, .ref p30, .ref p31, .ref p32])), (p3, .inl (cI, 120, .inl tx)), (p5, .inl (cI, 44, .inl (upd (upd (upd (upd md 0 200) 1 10) 2 12000) 3 0))), (p10, .inl (cI, 3, .inl fg))] := hD
  refine lv_iconst (v := 0) hx hb dX11_hasFault_38 (by decide) ?_
  refine lv_istore_n (lv' := [(1, .int 0), (0, .ref m0)]) hx hb dX11_hasFault_39 rfl hl (by decide) rfl (fun ls hl => ?_)
  have lp40 : ∀ (n40 : Nat) (sp h : Nat) (mm fg9 : Nat → Int32) (j7 j8 j9 j11 : Int32) (x40_1 : Int32) (g40_m0_6 : Int32) (g40_m0_7 : Int32) (g40_m0_8 : Int32) (g40_m0_9 : Int32) (g40_m0_11 : Int32) (g40_p5 : Nat → Int32) (g40_p10 : Nat → Int32), tn - sp < n40 → (sp ≤ tn) → (h < 64) → (ftMok mm) → (ftPars tx tn md = ftPar tx tn (tn - sp + 1) sp h mm) → x40_1 = nI h → g40_m0_6 = nI sp → g40_m0_7 = j7 → g40_m0_8 = j8 → g40_m0_9 = j9 → g40_m0_11 = j11 → g40_p5 = mm → g40_p10 = fg9 → ∀ (H : Heap) (locs : List Loc), va_P D vwCl [(m0, .inr (11, [.ref p0, .ref p1, .int i2, .ref p3, .int (nI tn), .ref p5, .int g40_m0_6, .int g40_m0_7, .int g40_m0_8, .int g40_m0_9, .ref p10, .int g40_m0_11, .ref p12, .ref p13, .ref p14, .int i15, .ref p16, .ref p17, .int i18, .ref p19, .ref p20, .ref p21, .ref p22, .int i23, .int i24, .ref p25, .ref p26, .ref p27, .ref p28, .ref p29, .ref p30, .ref p31, .ref p32])), (p3, .inl (cI, 120, .inl tx)), (p5, .inl (cI, 44, .inl g40_p5)), (p10, .inl (cI, 3, .inl g40_p10))] H → va_D A [(m0, .inr (11, [.ref p0, .ref p1, .int i2, .ref p3, .int (nI tn), .ref p5, .int g40_m0_6, .int g40_m0_7, .int g40_m0_8, .int g40_m0_9, .ref p10, .int g40_m0_11, .ref p12, .ref p13, .ref p14, .int i15, .ref p16, .ref p17, .int i18, .ref p19, .ref p20, .ref p21, .ref p22, .int i23, .int i24, .ref p25, .ref p26, .ref p27, .ref p28, .ref p29, .ref p30, .ref p31, .ref p32])), (p3, .inl (cI, 120, .inl tx)), (p5, .inl (cI, 44, .inl g40_p5)), (p10, .inl (cI, 3, .inl g40_p10))] → va_S A s.heap H locs → ∀ ls : Array Slot, lv_has ls 2 [(0, .ref m0), (1, .int x40_1)] → W p l e (headSpec wsX11_hasFault { frames := 3, cells := 0, slots := 0, locals := 73 }).room s m ([.ref m0] : List Value).toArray below meth c H locs 0 0 (MQ below (ftXi D [(m0, .inr (11, [.ref p0, .ref p1, .int i2, .ref p3, .int (nI tn), .ref p5, .int i6, .int i7, .int i8, .int i9, .ref p10, .int i11, .ref p12, .ref p13, .ref p14, .int i15, .ref p16, .ref p17, .int i18, .ref p19, .ref p20, .ref p21, .ref p22, .int i23, .int i24, .ref p25, .ref p26, .ref p27, .ref p28, .ref p29, .ref p30, .ref p31, .ref p32])), (p3, .inl (cI, 120, .inl tx)), (p5, .inl (cI, 44, .inl md)), (p10, .inl (cI, 3, .inl fg))] s.heap.size (fun (o9 : Int32) (u : (Nat → Int32) × (Nat → Nat → Int32)) => o9 = ftB (ftPars tx tn md = none) ∧ (∀ md9, ftPars tx tn md = some md9 → u.2 1 = md9)) (fun (u : (Nat → Int32) × (Nat → Nat → Int32)) => [(m0, .inr (11, [.ref p0, .ref p1, .int i2, .ref p3, .int (nI tn), .ref p5, .int (u.1 0), .int (u.1 1), .int (u.1 2), .int (u.1 3), .ref p10, .int (u.1 4), .ref p12, .ref p13, .ref p14, .int i15, .ref p16, .ref p17, .int i18, .ref p19, .ref p20, .ref p21, .ref p22, .int i23, .int i24, .ref p25, .ref p26, .ref p27, .ref p28, .ref p29, .ref p30, .ref p31, .ref p32])), (p3, .inl (cI, 120, .inl tx)), (p5, .inl (cI, 44, .inl (u.2 1))), (p10, .inl (cI, 3, .inl (u.2 0)))])) ([.ref m0] : List Value).toArray s 0 0 A) (F0 m 40 ls []) := by
    intro n40
    induction n40 with
    | zero =>
      intro sp h mm fg9 j7 j8 j9 j11 x40_1 g40_m0_6 g40_m0_7 g40_m0_8 g40_m0_9 g40_m0_11 g40_p5 g40_p10 hm40
      exact absurd hm40 (Nat.not_lt_zero _)
    | succ n40 ih40 =>
      intro sp h mm fg9 j7 j8 j9 j11 x40_1 g40_m0_6 g40_m0_7 g40_m0_8 g40_m0_9 g40_m0_11 g40_p5 g40_p10 hm40 hptn hh hmo hres ex40_1 eg40_m0_6 eg40_m0_7 eg40_m0_8 eg40_m0_9 eg40_m0_11 eg40_p5 eg40_p10 H locs hP hD hS ls hl
      subst ex40_1
      subst eg40_m0_6
      replace eg40_m0_7 := eg40_m0_7.symm; subst eg40_m0_7
      replace eg40_m0_8 := eg40_m0_8.symm; subst eg40_m0_8
      replace eg40_m0_9 := eg40_m0_9.symm; subst eg40_m0_9
      replace eg40_m0_11 := eg40_m0_11.symm; subst eg40_m0_11
      replace eg40_p5 := eg40_p5.symm; subst eg40_p5
      replace eg40_p10 := eg40_p10.symm; subst eg40_p10
      refine lv_aload_n hx hb dX11_hasFault_40 rfl (lv_at hl 0 rfl) ?_
      refine va_get (D := D) (ci := 11) (v := .int (nI sp)) (C := RX11) (T := TX11) (N := 33) hx hb hts (by decide +kernel) hown hK hP 0 rfl rfl 6 (by decide) (hts (.fieldLink RX11 100 "FiberTraceModel" "spot" "I") (by decide +kernel)) (fun _ h9 => h9) rfl dX11_hasFault_41 ?_
      refine lv_aload_n hx hb dX11_hasFault_44 rfl (lv_at hl 0 rfl) ?_
      refine va_get (D := D) (ci := 11) (v := .int (nI tn)) (C := RX11) (T := TX11) (N := 33) hx hb hts (by decide +kernel) hown hK hP 0 rfl rfl 4 (by decide) (hts (.fieldLink RX11 96 "FiberTraceModel" "length" "I") (by decide +kernel)) (fun _ h9 => h9) rfl dX11_hasFault_45 ?_
      refine lv_icmp_ge (tgt := 83) hx hb dX11_hasFault_48 (by decide) (fun c48 => ?_) (fun c48 => ?_)
      · have c48n : tn ≤ sp := ft_leN (by omega) (by omega) c48
        have hgood : ftPars tx tn md = some mm := by rw [hres]; exact ftPar_e (by omega)
        refine lv_iconst (v := 0) hx hb dX11_hasFault_83 (by decide) ?_
        obtain ⟨u9, hu9⟩ : ∃ u9 : (Nat → Int32) × (Nat → Nat → Int32), u9 = ((fun k => match k with | 0 => (nI sp) | 1 => j7 | 2 => j8 | 3 => j9 | _ => j11), (fun k => match k with | 0 => fg9 | _ => mm)) := ⟨_, rfl⟩
        have hw9 : ([(m0, .inr (11, [.ref p0, .ref p1, .int i2, .ref p3, .int (nI tn), .ref p5, .int (nI sp), .int j7, .int j8, .int j9, .ref p10, .int j11, .ref p12, .ref p13, .ref p14, .int i15, .ref p16, .ref p17, .int i18, .ref p19, .ref p20, .ref p21, .ref p22, .int i23, .int i24, .ref p25, .ref p26, .ref p27, .ref p28, .ref p29, .ref p30, .ref p31, .ref p32])), (p3, .inl (cI, 120, .inl tx)), (p5, .inl (cI, 44, .inl mm)), (p10, .inl (cI, 3, .inl fg9))] : va_W) = [(m0, .inr (11, [.ref p0, .ref p1, .int i2, .ref p3, .int (nI tn), .ref p5, .int (u9.1 0), .int (u9.1 1), .int (u9.1 2), .int (u9.1 3), .ref p10, .int (u9.1 4), .ref p12, .ref p13, .ref p14, .int i15, .ref p16, .ref p17, .int i18, .ref p19, .ref p20, .ref p21, .ref p22, .int i23, .int i24, .ref p25, .ref p26, .ref p27, .ref p28, .ref p29, .ref p30, .ref p31, .ref p32])), (p3, .inl (cI, 120, .inl tx)), (p5, .inl (cI, 44, .inl (u9.2 1))), (p10, .inl (cI, 3, .inl (u9.2 0)))] := by subst hu9; rfl
        rw [hw9] at hP hD
        have hf9_0 : ∀ md9, ftPars tx tn md = some md9 → u9.2 1 = md9 := by intro md9 q; rw [hgood] at q; rw [hu9]; exact Option.some.inj q
        have hr9 : (0 : Int32) = ftB (ftPars tx tn md = none) := by exact (ftB_f (fun q => by rw [hgood] at q; cases q)).symm
        exact W.zret (v := 0) hx hb hr (by rfl) (fun t ht hW => ⟨⟨0, u9, rfl, ⟨hr9, hf9_0⟩, by rw [ht]; exact hP, by rw [hAe]; exact hD⟩, by rw [hAe]; exact hS.F ht⟩) hS.2.2 dX11_hasFault_84
      · have c48n : sp < tn := ft_nleN (by omega) (by omega) c48
        obtain ⟨n9, hn9, hn9e⟩ := hmo
        refine lv_aload_n hx hb dX11_hasFault_51 rfl (lv_at hl 0 rfl) ?_
        refine lv_aload_n hx hb dX11_hasFault_52 rfl (lv_at hl 0 rfl) ?_
        refine va_get (D := D) (ci := 11) (v := .int (nI sp)) (C := RX11) (T := TX11) (N := 33) hx hb hts (by decide +kernel) hown hK hP 0 rfl rfl 6 (by decide) (hts (.fieldLink RX11 100 "FiberTraceModel" "spot" "I") (by decide +kernel)) (fun _ h9 => h9) rfl dX11_hasFault_53 ?_
        refine va_put (D := D) (ci := 11) (v := .int (nI sp)) (ty := .int) (C := RX11) (T := TX11) (N := 33) hx hb hts (by decide +kernel) tyX11 tyX11_ok nmX11 hown hK hP hD hS 0 rfl rfl 7 (by decide) (hts (.fieldLink RX11 161 "FiberTraceModel" "begun" "I") (by decide +kernel)) (fun _ h9 => h9) rfl (by decide +kernel) rfl rfl (Nat.le_of_ble_eq_true rfl) dX11_hasFault_56 (fun H locs hP hD hS => ?_)
        have hP : va_P D vwCl [(m0, .inr (11, [.ref p0, .ref p1, .int i2, .ref p3, .int (nI tn), .ref p5, .int (nI sp), .int (nI sp), .int j8, .int j9, .ref p10, .int j11, .ref p12, .ref p13, .ref p14, .int i15, .ref p16, .ref p17, .int i18, .ref p19, .ref p20, .ref p21, .ref p22, .int i23, .int i24, .ref p25, .ref p26, .ref p27, .ref p28, .ref p29, .ref p30, .ref p31, .ref p32])), (p3, .inl (cI, 120, .inl tx)), (p5, .inl (cI, 44, .inl mm)), (p10, .inl (cI, 3, .inl fg9))] H := hP
        have hD : va_D A [(m0, .inr (11, [.ref p0, .ref p1, .int i2, .ref p3, .int (nI tn), .ref p5, .int (nI sp), .int (nI sp), .int j8, .int j9, .ref p10, .int j11, .ref p12, .ref p13, .ref p14, .int i15, .ref p16, .ref p17, .int i18, .ref p19, .ref p20, .ref p21, .ref p22, .int i23, .int i24, .ref p25, .ref p26, .ref p27, .ref p28, .ref p29, .ref p30, .ref p31, .ref p32])), (p3, .inl (cI, 120, .inl tx)), (p5, .inl (cI, 44, .inl mm)), (p10, .inl (cI, 3, .inl fg9))] := hD
        refine lv_aload_n hx hb dX11_hasFault_59 rfl (lv_at hl 0 rfl) ?_
        refine lv_iload_n hx hb dX11_hasFault_60 rfl (lv_at hl 1 rfl) ?_
        refine ft_cxi (S := (Nat → Int32) × (Nat → Nat → Int32)) (wc := [(m0, .inr (11, [.ref p0, .ref p1, .int i2, .ref p3, .int (nI tn), .ref p5, .int (nI sp), .int (nI sp), .int j8, .int j9, .ref p10, .int j11, .ref p12, .ref p13, .ref p14, .int i15, .ref p16, .ref p17, .int i18, .ref p19, .ref p20, .ref p21, .ref p22, .int i23, .int i24, .ref p25, .ref p26, .ref p27, .ref p28, .ref p29, .ref p30, .ref p31, .ref p32])), (p3, .inl (cI, 120, .inl tx)), (p5, .inl (cI, 44, .inl mm)), (p10, .inl (cI, 3, .inl fg9))]) (wr := []) (w1 := (fun (u61 : (Nat → Int32) × (Nat → Nat → Int32)) => [(m0, .inr (11, [.ref p0, .ref p1, .int i2, .ref p3, .int (nI tn), .ref p5, .int (u61.1 0), .int (nI sp), .int (u61.1 1), .int (u61.1 2), .ref p10, .int (u61.1 3), .ref p12, .ref p13, .ref p14, .int i15, .ref p16, .ref p17, .int i18, .ref p19, .ref p20, .ref p21, .ref p22, .int i23, .int i24, .ref p25, .ref p26, .ref p27, .ref p28, .ref p29, .ref p30, .ref p31, .ref p32])), (p3, .inl (cI, 120, .inl tx)), (p5, .inl (cI, 44, .inl (u61.2 1))), (p10, .inl (cI, 3, .inl (u61.2 0)))])) (ws1 := (fun (u61 : (Nat → Int32) × (Nat → Nat → Int32)) => [(m0, .inr (11, [.ref p0, .ref p1, .int i2, .ref p3, .int (nI tn), .ref p5, .int (u61.1 0), .int (nI sp), .int (u61.1 1), .int (u61.1 2), .ref p10, .int (u61.1 3), .ref p12, .ref p13, .ref p14, .int i15, .ref p16, .ref p17, .int i18, .ref p19, .ref p20, .ref p21, .ref p22, .int i23, .int i24, .ref p25, .ref p26, .ref p27, .ref p28, .ref p29, .ref p30, .ref p31, .ref p32])), (p3, .inl (cI, 120, .inl tx)), (p5, .inl (cI, 44, .inl (u61.2 1))), (p10, .inl (cI, 3, .inl (u61.2 0)))])) (va_runV (C := RX11) (As := [.int (nI h)]) (rest := []) ⟨hx, hb, hml, hown, hts⟩ (c_X11_readsItem l D cI cS H.size m0 p0 p1 p3 p5 p10 p12 p13 p14 p16 p17 p19 p20 p21 p22 p25 p26 p27 p28 p29 p30 p31 p32 i2 (nI sp) j8 j9 j11 i15 i18 i23 i24 tx mm fg9 tn sp h n9 htn (by omega) hh hn9e hn9) (cwV 1 hts gX11_hasFault_X11_readsItem rfl rfl rfl (by decide +kernel) ⟨Nat.le_of_ble_eq_true rfl, Nat.le_of_ble_eq_true rfl⟩) (ft_preRWV (ci := 11) (q0 := 0) hP hD hKK [0, 1, 2, 3] rfl rfl rfl rfl rfl) rfl rfl hl.1 rfl (lv_room (Nat.le_of_ble_eq_true rfl)) dX11_hasFault_61 ⟨Nat.le_of_ble_eq_true rfl, Nat.le_of_ble_eq_true rfl⟩) hP hD hS hA [0, 1, 2, 3] [] [0, 1, 2, 3] rfl rfl (by decide) (by decide) (by decide) (fun _ => rfl) (fun _ => rfl) (fun o61 u61 hu61 H locs hP hD hS => ?_)
        obtain ⟨ho61, hu61⟩ := hu61
        have hok61 := hu61
        have hP : va_P D vwCl [(m0, .inr (11, [.ref p0, .ref p1, .int i2, .ref p3, .int (nI tn), .ref p5, .int (u61.1 0), .int (nI sp), .int (u61.1 1), .int (u61.1 2), .ref p10, .int (u61.1 3), .ref p12, .ref p13, .ref p14, .int i15, .ref p16, .ref p17, .int i18, .ref p19, .ref p20, .ref p21, .ref p22, .int i23, .int i24, .ref p25, .ref p26, .ref p27, .ref p28, .ref p29, .ref p30, .ref p31, .ref p32])), (p3, .inl (cI, 120, .inl tx)), (p5, .inl (cI, 44, .inl (u61.2 1))), (p10, .inl (cI, 3, .inl (u61.2 0)))] H := hP
        have hD : va_D A [(m0, .inr (11, [.ref p0, .ref p1, .int i2, .ref p3, .int (nI tn), .ref p5, .int (u61.1 0), .int (nI sp), .int (u61.1 1), .int (u61.1 2), .ref p10, .int (u61.1 3), .ref p12, .ref p13, .ref p14, .int i15, .ref p16, .ref p17, .int i18, .ref p19, .ref p20, .ref p21, .ref p22, .int i23, .int i24, .ref p25, .ref p26, .ref p27, .ref p28, .ref p29, .ref p30, .ref p31, .ref p32])), (p3, .inl (cI, 120, .inl tx)), (p5, .inl (cI, 44, .inl (u61.2 1))), (p10, .inl (cI, 3, .inl (u61.2 0)))] := hD
        subst ho61
        refine lv_if_ne (tgt := 69) hx hb dX11_hasFault_64 (by decide) (fun c64 => ?_) (fun c64 => ?_)
        · replace c64 := ftB_ne c64
          have hit := c64
          obtain ⟨hit1, hit2, j9, hj9, hj2, hj1⟩ := hok61 hit
          have hmo : ftMok mm := ⟨n9, hn9, hn9e⟩
          refine lv_iload_n hx hb dX11_hasFault_69 rfl (lv_at hl 1 rfl) ?_
          refine lv_iconst (v := 1) hx hb dX11_hasFault_70 (by decide) ?_
          refine lv_aload_n hx hb dX11_hasFault_71 rfl (lv_at hl 0 rfl) ?_
          refine va_get (D := D) (ci := 11) (v := .ref p10) (C := RX11) (T := TX11) (N := 33) hx hb hts (by decide +kernel) hown hK hP 0 rfl rfl 10 (by decide) (hts (.fieldLink RX11 22 "FiberTraceModel" "figured" "[I") (by decide +kernel)) (fun _ h9 => h9) rfl dX11_hasFault_72 ?_
          refine lv_iconst (v := 2) hx hb dX11_hasFault_75 (by decide) ?_
          refine va_iald hx hb hK hP 3 0 rfl rfl (vp_in_nI (n := 2) (by omega) (by omega)) dX11_hasFault_76 ?_
          refine ft_top (y := (u61.2 0) 2) rfl ?_
          refine lv_ishl hx hb dX11_hasFault_77 ?_
          refine lv_ior hx hb dX11_hasFault_78 ?_
          refine lv_istore_n (lv' := [(1, .int ((nI h) ||| (1 <<< (((u61.2 0) 2) &&& 31)))), (0, .ref m0)]) hx hb dX11_hasFault_79 rfl hl (by decide) rfl (fun ls hl => ?_)
          refine lv_goto (tgt := 40) hx hb dX11_hasFault_80 (by decide) ?_
          exact ih40 (ftItP tx tn sp) (ftItH tx tn h sp) (u61.2 1) (u61.2 0) (nI sp) (u61.1 1) (u61.1 2) (u61.1 3) ((nI h) ||| (1 <<< (((u61.2 0) 2) &&& 31))) (u61.1 0) (nI sp) (u61.1 1) (u61.1 2) (u61.1 3) (u61.2 1) (u61.2 0) (by have := ftItP_gt (tx := tx) (tn := tn) (p := sp); omega) (by have := hit.2.2.2.2.1; unfold ftItP; omega) (by rw [ftItH, hj1]; rw [nI_clamp (by omega)]; exact ft_or64 h hh j9 hj9) (by rw [hit2]; exact ftItM_ok hmo hit) (by rw [hres, ftPar_t c48n hit, hit2]) (by rw [hj2, ft_or1 h hh j9 hj9, ftItH, hj1, nI_clamp (by omega)]) (by exact hit1) (by first | rfl | assumption) (by first | rfl | assumption) (by first | rfl | assumption) (by first | rfl | assumption) (by first | rfl | assumption) (by first | rfl | assumption) _ _ hP hD hS ls (lv_sub hl [1, 0] rfl)
        · replace c64 := ftB_eq c64
          have hbad : ftPars tx tn md = none := by rw [hres]; exact ftPar_f c48n c64
          refine lv_iconst (v := 1) hx hb dX11_hasFault_67 (by decide) ?_
          obtain ⟨u9, hu9⟩ : ∃ u9 : (Nat → Int32) × (Nat → Nat → Int32), u9 = ((fun k => match k with | 0 => (u61.1 0) | 1 => (nI sp) | 2 => (u61.1 1) | 3 => (u61.1 2) | _ => (u61.1 3)), (fun k => match k with | 0 => (u61.2 0) | _ => (u61.2 1))) := ⟨_, rfl⟩
          have hw9 : ([(m0, .inr (11, [.ref p0, .ref p1, .int i2, .ref p3, .int (nI tn), .ref p5, .int (u61.1 0), .int (nI sp), .int (u61.1 1), .int (u61.1 2), .ref p10, .int (u61.1 3), .ref p12, .ref p13, .ref p14, .int i15, .ref p16, .ref p17, .int i18, .ref p19, .ref p20, .ref p21, .ref p22, .int i23, .int i24, .ref p25, .ref p26, .ref p27, .ref p28, .ref p29, .ref p30, .ref p31, .ref p32])), (p3, .inl (cI, 120, .inl tx)), (p5, .inl (cI, 44, .inl (u61.2 1))), (p10, .inl (cI, 3, .inl (u61.2 0)))] : va_W) = [(m0, .inr (11, [.ref p0, .ref p1, .int i2, .ref p3, .int (nI tn), .ref p5, .int (u9.1 0), .int (u9.1 1), .int (u9.1 2), .int (u9.1 3), .ref p10, .int (u9.1 4), .ref p12, .ref p13, .ref p14, .int i15, .ref p16, .ref p17, .int i18, .ref p19, .ref p20, .ref p21, .ref p22, .int i23, .int i24, .ref p25, .ref p26, .ref p27, .ref p28, .ref p29, .ref p30, .ref p31, .ref p32])), (p3, .inl (cI, 120, .inl tx)), (p5, .inl (cI, 44, .inl (u9.2 1))), (p10, .inl (cI, 3, .inl (u9.2 0)))] := by subst hu9; rfl
          rw [hw9] at hP hD
          have hf9_0 : ∀ md9, ftPars tx tn md = some md9 → u9.2 1 = md9 := by intro md9 q; rw [hbad] at q; cases q
          have hr9 : (1 : Int32) = ftB (ftPars tx tn md = none) := by exact (ftB_t hbad).symm
          exact W.zret (v := 1) hx hb hr (by rfl) (fun t ht hW => ⟨⟨1, u9, rfl, ⟨hr9, hf9_0⟩, by rw [ht]; exact hP, by rw [hAe]; exact hD⟩, by rw [hAe]; exact hS.F ht⟩) hS.2.2 dX11_hasFault_68
  exact lp40 _ 0 0 (ftMd0 md) fg i7 i8 i9 i11 0 0 i7 i8 i9 i11 (upd (upd (upd (upd md 0 200) 1 10) 2 12000) 3 0) fg (Nat.lt_succ_self _) (by omega) (by omega) (by exact ⟨0, by omega, rfl⟩) (by rfl) (by rfl) (by rfl) (by rfl) (by rfl) (by rfl) (by rfl) (by rfl) (by rfl) _ _ hP hD hS ls (lv_sub hl [1, 0] rfl)
end
section
/-! the middle: a row that is well formed, what is read off it -/
theorem ftI_nat {x : Int32} (h : 0 ≤ x) : x = nI x.toNatClampNeg ∧ x.toNatClampNeg < 2 ^ 31 := by
  obtain ⟨j, hj, rfl⟩ := nI_of (Int32.not_lt.mpr h)
  rw [nI_clamp hj]
  exact ⟨rfl, hj⟩
theorem ftI_le {x : Int32} {N : Nat} (h : 0 ≤ x) (h1 : x ≤ nI N) (hN : N < 2 ^ 31) : x.toNatClampNeg ≤ N := by
  obtain ⟨e, hl⟩ := ftI_nat h
  rw [e] at h1
  exact ft_leN hl hN h1
theorem ftI_lt {x : Int32} {N : Nat} (h : 0 ≤ x) (h1 : x < nI N) (hN : N < 2 ^ 31) : x.toNatClampNeg < N := by
  obtain ⟨e, hl⟩ := ftI_nat h
  rw [e] at h1
  exact ft_ltN hl hN h1
theorem ftI_ge {x : Int32} {N : Nat} (h : 0 ≤ x) (h1 : nI N ≤ x) (hN : N < 2 ^ 31) : N ≤ x.toNatClampNeg := by
  obtain ⟨e, hl⟩ := ftI_nat h
  rw [e] at h1
  exact ft_leN hN hl h1
theorem ftI_ge0 {x : Int32} {N : Nat} (h1 : nI N ≤ x) (hN : N < 2 ^ 31) : 0 ≤ x := Int32.le_trans (nI_pos' hN) h1
def ftCN (w : Nat → Int32) : Nat := (w 3).toNatClampNeg
def ftCL (w : Nat → Int32) : Nat := (w 0).toNatClampNeg
def ftCW (w : Nat → Int32) : Nat := (w (44 + 0)).toNatClampNeg
def ftCD (w : Nat → Int32) : Nat := (w (44 + 1)).toNatClampNeg
def ftCP (w : Nat → Int32) : Nat := (w (44 + 4)).toNatClampNeg
def ftCK (w : Nat → Int32) : Nat := (w 55).toNatClampNeg
def ftPartOk (w : Nat → Int32) (k : Nat) : Prop := (w (4 + 4 * k + 0) = 0 ∧ -500 ≤ w (4 + 4 * k + 2) ∧ w (4 + 4 * k + 2) ≤ 5000 ∧ w (4 + 4 * k + 3) = 0) ∨ (w (4 + 4 * k + 0) = 1 ∧ 0 ≤ w (4 + 4 * k + 2) ∧ w (4 + 4 * k + 2) ≤ 5000 ∧ 1 ≤ w (4 + 4 * k + 3) ∧ w (4 + 4 * k + 3) ≤ 20000) ∨ (w (4 + 4 * k + 0) = 2 ∧ 0 ≤ w (4 + 4 * k + 2) ∧ w (4 + 4 * k + 2) ≤ 50 ∧ w (4 + 4 * k + 3) = 0)
/-- a link's row -/
def ftLf (w : Nat → Int32) : Prop := (0 ≤ w 3 ∧ w 3 ≤ 10) ∧ (50 ≤ w 0 ∧ w 0 ≤ 400) ∧ (0 ≤ w 1 ∧ w 1 ≤ 50) ∧ (0 ≤ w 2 ∧ w 2 ≤ 20000) ∧ (∀ k, k < ftCN w → ftPartOk w k ∧ 1 ≤ w (4 + 4 * k + 1) ∧ w (4 + 4 * k + 1) < w 0) ∧ (∀ a b, a < b → b < ftCN w → w (4 + 4 * a + 1) < w (4 + 4 * b + 1))
def ftWf (w : Nat → Int32) : Prop := ftLf w ∧ (∀ s, s < 11 → ftLeast (nI s) ≤ w (44 + s) ∧ w (44 + s) ≤ ftMost (nI s)) ∧ (0 ≤ w 55 ∧ w 55 ≤ 3) ∧ (∀ i, i < ftCK w → 110 ≤ w (56 + i) ∧ w (56 + i) ≤ 460)
section FTWF
variable {w : Nat → Int32}
theorem ftLf_3 (h : ftLf w) : w 3 = nI (ftCN w) := (ftI_nat h.1.1).1
theorem ftLf_n (h : ftLf w) : ftCN w ≤ 10 := ftI_le (N := 10) h.1.1 h.1.2 (by omega)
theorem ftLf_0 (h : ftLf w) : w 0 = nI (ftCL w) := (ftI_nat (ftI_ge0 (N := 50) h.2.1.1 (by omega))).1
theorem ftLf_ln (h : ftLf w) : ftCL w ≤ 400 := ftI_le (N := 400) (ftI_ge0 (N := 50) h.2.1.1 (by omega)) h.2.1.2 (by omega)
theorem ftLf_lg (h : ftLf w) : 50 ≤ ftCL w := ftI_ge (N := 50) (ftI_ge0 (N := 50) h.2.1.1 (by omega)) h.2.1.1 (by omega)
theorem ftWf_3 (h : ftWf w) : w 3 = nI (ftCN w) := ftLf_3 h.1
theorem ftWf_n (h : ftWf w) : ftCN w ≤ 10 := ftLf_n h.1
theorem ftWf_0 (h : ftWf w) : w 0 = nI (ftCL w) := ftLf_0 h.1
theorem ftWf_ln (h : ftWf w) : ftCL w ≤ 400 := ftLf_ln h.1
theorem ftWf_lg (h : ftWf w) : 50 ≤ ftCL w := ftLf_lg h.1
theorem ftWf_set (h : ftWf w) {s : Nat} (hs : s < 11) {a b : Int32} (ha : ftLeast (nI s) = a) (hb : ftMost (nI s) = b) : a ≤ w (44 + s) ∧ w (44 + s) ≤ b := by
  have q := h.2.1 s hs
  rw [ha, hb] at q
  exact q
theorem ftWf_b0 (h : ftWf w) : 1 ≤ w (44 + 0) ∧ w (44 + 0) ≤ 20 := ftWf_set h (by omega) (by decide) (by decide)
theorem ftWf_b1 (h : ftWf w) : 100 ≤ w (44 + 1) ∧ w (44 + 1) ≤ 5000 := ftWf_set h (by omega) (by decide) (by decide)
theorem ftWf_b2 (h : ftWf w) : 0 ≤ w (44 + 2) ∧ w (44 + 2) ≤ 40000 := ftWf_set h (by omega) (by decide) (by decide)
theorem ftWf_b3 (h : ftWf w) : 0 ≤ w (44 + 3) ∧ w (44 + 3) ≤ 400 := ftWf_set h (by omega) (by decide) (by decide)
theorem ftWf_b4 (h : ftWf w) : 1 ≤ w (44 + 4) ∧ w (44 + 4) ≤ 32 := ftWf_set h (by omega) (by decide) (by decide)
theorem ftWf_s0 (h : ftWf w) : w (44 + 0) = nI (ftCW w) := (ftI_nat (ftI_ge0 (N := 1) (ftWf_b0 h).1 (by omega))).1
theorem ftWf_wd (h : ftWf w) : ftCW w ≤ 20 := ftI_le (N := 20) (ftI_ge0 (N := 1) (ftWf_b0 h).1 (by omega)) (ftWf_b0 h).2 (by omega)
theorem ftWf_wd1 (h : ftWf w) : 1 ≤ ftCW w := ftI_ge (N := 1) (ftI_ge0 (N := 1) (ftWf_b0 h).1 (by omega)) (ftWf_b0 h).1 (by omega)
theorem ftWf_s1 (h : ftWf w) : w (44 + 1) = nI (ftCD w) := (ftI_nat (ftI_ge0 (N := 100) (ftWf_b1 h).1 (by omega))).1
theorem ftWf_d (h : ftWf w) : ftCD w ≤ 5000 := ftI_le (N := 5000) (ftI_ge0 (N := 100) (ftWf_b1 h).1 (by omega)) (ftWf_b1 h).2 (by omega)
theorem ftWf_s4 (h : ftWf w) : w (44 + 4) = nI (ftCP w) := (ftI_nat (ftI_ge0 (N := 1) (ftWf_b4 h).1 (by omega))).1
theorem ftWf_pu (h : ftWf w) : ftCP w ≤ 32 := ftI_le (N := 32) (ftI_ge0 (N := 1) (ftWf_b4 h).1 (by omega)) (ftWf_b4 h).2 (by omega)
theorem ftWf_pu0 (h : ftWf w) : 0 < ftCP w := ftI_ge (N := 1) (ftI_ge0 (N := 1) (ftWf_b4 h).1 (by omega)) (ftWf_b4 h).1 (by omega)
theorem ftWf_pu2 (h : ftWf w) : ftCP w < 2 ^ 31 := Nat.lt_of_le_of_lt (ftWf_pu h) (by omega)
theorem ftWf_A0 (h : ftWf w) : 0 ≤ w (44 + 3) := (ftWf_b3 h).1
theorem ftWf_2a (h : ftWf w) : ¬ 2 * w (44 + 3) + 1 = 0 := by
  obtain ⟨e, -⟩ := ftI_nat (ftWf_b3 h).1
  have hl := ftI_le (N := 400) (ftWf_b3 h).1 (ftWf_b3 h).2 (by omega)
  rw [e]
  show ¬ nI 2 * nI _ + 1 = 0
  rw [ft_mulN, nI_1]
  exact nI_ne0 (by omega) (by omega)
theorem ftWf_55 (h : ftWf w) : w 55 = nI (ftCK w) := (ftI_nat h.2.2.1.1).1
theorem ftWf_kp (h : ftWf w) : ftCK w ≤ 3 := ftI_le (N := 3) h.2.2.1.1 h.2.2.1.2 (by omega)
theorem ftWf_szs (h : ftWf w) : ∀ i, i < ftCK w → w (56 + i) = nI (w (56 + i)).toNatClampNeg ∧ 110 ≤ (w (56 + i)).toNatClampNeg ∧ (w (56 + i)).toNatClampNeg ≤ 460 := fun i hi => by
  have q := h.2.2.2 i hi
  have q0 := ftI_ge0 (N := 110) q.1 (by omega)
  exact ⟨(ftI_nat q0).1, ftI_ge (N := 110) q0 q.1 (by omega), ftI_le (N := 460) q0 q.2 (by omega)⟩
end FTWF
/-! flashes -/
theorem ftUpd_at0 {f : Nat → Int32} {k : Nat} {x : Int32} : upd f k x k = x := if_pos rfl
theorem ftFl_cong {kf pf rf kg pg rg p0 h0 p1 h1 : Nat → Int32} : ∀ i, (∀ t, t < i → kf t = kg t ∧ pf t = pg t ∧ rf t = rg t) → (ftFl kf pf rf p0 h0 i).1 = (ftFl kg pg rg p1 h1 i).1 ∧ ∀ t, t < (ftFl kf pf rf p0 h0 i).1 → (ftFl kf pf rf p0 h0 i).2.1 t = (ftFl kg pg rg p1 h1 i).2.1 t ∧ (ftFl kf pf rf p0 h0 i).2.2 t = (ftFl kg pg rg p1 h1 i).2.2 t := by
  intro i
  induction i with
  | zero => intro _; exact ⟨rfl, fun t h => absurd h (Nat.not_lt_zero t)⟩
  | succ i ih =>
    intro h
    obtain ⟨e1, e2⟩ := ih (fun t ht => h t (by omega))
    obtain ⟨q1, q2, q3⟩ := h i (by omega)
    by_cases c : kf i = 1
    · rw [ftFl_t c, ftFl_t (by rw [← q1]; exact c)]
      refine ⟨?_, fun t ht => ?_⟩
      · show (ftFl kf pf rf p0 h0 i).1 + 1 = (ftFl kg pg rg p1 h1 i).1 + 1
        rw [e1]
      · show upd (ftFl kf pf rf p0 h0 i).2.1 (ftFl kf pf rf p0 h0 i).1 (pf i) t = upd (ftFl kg pg rg p1 h1 i).2.1 (ftFl kg pg rg p1 h1 i).1 (pg i) t ∧ upd (ftFl kf pf rf p0 h0 i).2.2 (ftFl kf pf rf p0 h0 i).1 (rf i) t = upd (ftFl kg pg rg p1 h1 i).2.2 (ftFl kg pg rg p1 h1 i).1 (rg i) t
        have ht : t < (ftFl kf pf rf p0 h0 i).1 + 1 := ht
        rw [← e1]
        by_cases r : t = (ftFl kf pf rf p0 h0 i).1
        · subst r
          rw [ftUpd_at0, ftUpd_at0, ftUpd_at0, ftUpd_at0]
          exact ⟨q2, q3⟩
        · rw [ftUpd_ne r, ftUpd_ne r, ftUpd_ne r, ftUpd_ne r]
          exact e2 t (by omega)
    · rw [ftFl_f c, ftFl_f (by rw [← q1]; exact c)]
      exact ⟨e1, e2⟩
theorem ftFlE_cong {len en len2 en2 : Int32} {kf pf rf kg pg rg p0 h0 p1 h1 : Nat → Int32} {n : Nat} (hl : len = len2) (he : en = en2) (h : ∀ t, t < n → kf t = kg t ∧ pf t = pg t ∧ rf t = rg t) : (ftFlE len en kf pf rf p0 h0 n).1 = (ftFlE len2 en2 kg pg rg p1 h1 n).1 ∧ ∀ t, t < (ftFlE len en kf pf rf p0 h0 n).1 → (ftFlE len en kf pf rf p0 h0 n).2.1 t = (ftFlE len2 en2 kg pg rg p1 h1 n).2.1 t ∧ (ftFlE len en kf pf rf p0 h0 n).2.2 t = (ftFlE len2 en2 kg pg rg p1 h1 n).2.2 t := by
  subst hl he
  obtain ⟨e1, e2⟩ := ftFl_cong (p0 := p0) (h0 := h0) (p1 := p1) (h1 := h1) n h
  by_cases c : 0 < en
  · rw [ftFlE_t c, ftFlE_t c]
    refine ⟨?_, fun t ht => ?_⟩
    · show (ftFl kf pf rf p0 h0 n).1 + 1 = (ftFl kg pg rg p1 h1 n).1 + 1
      rw [e1]
    · show upd (ftFl kf pf rf p0 h0 n).2.1 (ftFl kf pf rf p0 h0 n).1 len t = upd (ftFl kg pg rg p1 h1 n).2.1 (ftFl kg pg rg p1 h1 n).1 len t ∧ upd (ftFl kf pf rf p0 h0 n).2.2 (ftFl kf pf rf p0 h0 n).1 en t = upd (ftFl kg pg rg p1 h1 n).2.2 (ftFl kg pg rg p1 h1 n).1 en t
      have ht : t < (ftFl kf pf rf p0 h0 n).1 + 1 := ht
      rw [← e1]
      by_cases r : t = (ftFl kf pf rf p0 h0 n).1
      · subst r
        rw [ftUpd_at0, ftUpd_at0, ftUpd_at0, ftUpd_at0]
        exact ⟨rfl, rfl⟩
      · rw [ftUpd_ne r, ftUpd_ne r, ftUpd_ne r, ftUpd_ne r]
        exact e2 t (by omega)
  · rw [ftFlE_f c, ftFlE_f c]
    exact ⟨e1, e2⟩
theorem ftFl_ent {kf pf rf p0 h0 : Nat → Int32} : ∀ i t, t < (ftFl kf pf rf p0 h0 i).1 → ∃ k, k < i ∧ kf k = 1 ∧ (ftFl kf pf rf p0 h0 i).2.1 t = pf k ∧ (ftFl kf pf rf p0 h0 i).2.2 t = rf k := by
  intro i
  induction i with
  | zero => intro t h; exact absurd h (Nat.not_lt_zero t)
  | succ i ih =>
    intro t ht
    by_cases c : kf i = 1
    · rw [ftFl_t c] at ht ⊢
      have ht : t < (ftFl kf pf rf p0 h0 i).1 + 1 := ht
      show ∃ k, k < i + 1 ∧ kf k = 1 ∧ upd (ftFl kf pf rf p0 h0 i).2.1 (ftFl kf pf rf p0 h0 i).1 (pf i) t = pf k ∧ upd (ftFl kf pf rf p0 h0 i).2.2 (ftFl kf pf rf p0 h0 i).1 (rf i) t = rf k
      by_cases r : t = (ftFl kf pf rf p0 h0 i).1
      · subst r
        rw [ftUpd_at0, ftUpd_at0]
        exact ⟨i, by omega, c, rfl, rfl⟩
      · rw [ftUpd_ne r, ftUpd_ne r]
        obtain ⟨k, k1, k2⟩ := ih t (by omega)
        exact ⟨k, by omega, k2⟩
    · rw [ftFl_f c] at ht ⊢
      obtain ⟨k, k1, k2⟩ := ih t ht
      exact ⟨k, by omega, k2⟩
theorem ftFl_asc {kf pf rf p0 h0 : Nat → Int32} : ∀ i, (∀ a b, a < b → b < i → pf a < pf b) → ∀ a b, a < b → b < (ftFl kf pf rf p0 h0 i).1 → (ftFl kf pf rf p0 h0 i).2.1 a < (ftFl kf pf rf p0 h0 i).2.1 b := by
  intro i
  induction i with
  | zero => intro _ a b _ h; exact absurd h (Nat.not_lt_zero b)
  | succ i ih =>
    intro hp a b hab hb
    have ih := ih (fun a b h1 h2 => hp a b h1 (by omega))
    by_cases c : kf i = 1
    · rw [ftFl_t c] at hb ⊢
      have hb : b < (ftFl kf pf rf p0 h0 i).1 + 1 := hb
      show upd (ftFl kf pf rf p0 h0 i).2.1 (ftFl kf pf rf p0 h0 i).1 (pf i) a < upd (ftFl kf pf rf p0 h0 i).2.1 (ftFl kf pf rf p0 h0 i).1 (pf i) b
      rw [ftUpd_ne (show a ≠ (ftFl kf pf rf p0 h0 i).1 by omega)]
      by_cases r : b = (ftFl kf pf rf p0 h0 i).1
      · subst r
        rw [ftUpd_at0]
        obtain ⟨k, k1, k2, k3, -⟩ := ftFl_ent (kf := kf) (pf := pf) (rf := rf) (p0 := p0) (h0 := h0) i a hab
        rw [k3]
        exact hp k i k1 (by omega)
      · rw [ftUpd_ne r]
        exact ih a b hab (by omega)
    · rw [ftFl_f c] at hb ⊢
      exact ih a b hab hb
/-- the flashes of a row, on any rows laid before; on rows of zeros -/
def ftFW (w fa fh : Nat → Int32) : Nat × (Nat → Int32) × (Nat → Int32) := ftFlE (w 0) (w 2) (fun k => w (4 + 4 * k + 0)) (fun k => w (4 + 4 * k + 1)) (fun k => w (4 + 4 * k + 3)) fa fh (ftCN w)
def ftCF (w : Nat → Int32) : Nat × (Nat → Int32) × (Nat → Int32) := ftFW w (fun _ => 0) (fun _ => 0)
theorem ftFW_c (w fa fh : Nat → Int32) : (ftFW w fa fh).1 = (ftCF w).1 ∧ ∀ t, t < (ftFW w fa fh).1 → (ftFW w fa fh).2.1 t = (ftCF w).2.1 t ∧ (ftFW w fa fh).2.2 t = (ftCF w).2.2 t := ftFlE_cong rfl rfl (fun _ _ => ⟨rfl, rfl, rfl⟩)
/-- places and heights of flashes -/
def ftFok (R : Nat × (Nat → Int32) × (Nat → Int32)) : Prop := R.1 ≤ 11 ∧ (∀ t, t < R.1 → R.2.1 t = nI (R.2.1 t).toNatClampNeg ∧ R.2.2 t = nI (R.2.2 t).toNatClampNeg ∧ 1 ≤ (R.2.1 t).toNatClampNeg ∧ (R.2.1 t).toNatClampNeg ≤ 400 ∧ 0 < (R.2.2 t).toNatClampNeg ∧ (R.2.2 t).toNatClampNeg ≤ 20000) ∧ ∀ a b, a < b → b < R.1 → R.2.1 a < R.2.1 b
theorem ftPart_r {w : Nat → Int32} (h : ftLf w) {k : Nat} (hk : k < ftCN w) (h1 : w (4 + 4 * k + 0) = 1) : 1 ≤ w (4 + 4 * k + 3) ∧ w (4 + 4 * k + 3) ≤ 20000 := by
  obtain ⟨q, -⟩ := h.2.2.2.2.1 k hk
  rcases q with q | q | q
  · rw [h1] at q; exact absurd q.1 (by decide)
  · exact q.2.2.2
  · rw [h1] at q; exact absurd q.1 (by decide)
theorem ftPl_b {w : Nat → Int32} (h : ftLf w) {k : Nat} (hk : k < ftCN w) : 1 ≤ w (4 + 4 * k + 1) ∧ w (4 + 4 * k + 1) ≤ 400 ∧ w (4 + 4 * k + 1) < w 0 := by
  obtain ⟨-, q1, q2⟩ := h.2.2.2.2.1 k hk
  exact ⟨q1, Int32.le_trans (Int32.le_of_lt q2) h.2.1.2, q2⟩
theorem ftN_of {x : Int32} {a b : Nat} (h1 : nI a ≤ x) (h2 : x ≤ nI b) (ha : a < 2 ^ 31) (hb : b < 2 ^ 31) : x = nI x.toNatClampNeg ∧ a ≤ x.toNatClampNeg ∧ x.toNatClampNeg ≤ b := ⟨(ftI_nat (ftI_ge0 h1 ha)).1, ftI_ge (ftI_ge0 h1 ha) h1 ha, ftI_le (ftI_ge0 h1 ha) h2 hb⟩
theorem ft1_of {x : Int32} (h : 0 < x) : nI 1 ≤ x := by
  have e := (ftI_nat (Int32.le_of_lt h)).1
  have hl := (ftI_nat (Int32.le_of_lt h)).2
  rw [e] at h ⊢
  have h0 : 0 < x.toNatClampNeg := ft_ltN (a := 0) (by omega) hl h
  exact nI_le h0 hl
theorem ftFW_ok {w : Nat → Int32} (h : ftLf w) (fa fh : Nat → Int32) : ftFok (ftFW w fa fh) := by
  have hent : ∀ t, t < (ftFl (fun k => w (4 + 4 * k + 0)) (fun k => w (4 + 4 * k + 1)) (fun k => w (4 + 4 * k + 3)) fa fh (ftCN w)).1 → ∃ k, k < ftCN w ∧ w (4 + 4 * k + 0) = 1 ∧ (ftFl (fun k => w (4 + 4 * k + 0)) (fun k => w (4 + 4 * k + 1)) (fun k => w (4 + 4 * k + 3)) fa fh (ftCN w)).2.1 t = w (4 + 4 * k + 1) ∧ (ftFl (fun k => w (4 + 4 * k + 0)) (fun k => w (4 + 4 * k + 1)) (fun k => w (4 + 4 * k + 3)) fa fh (ftCN w)).2.2 t = w (4 + 4 * k + 3) := fun t ht => ftFl_ent (kf := fun k => w (4 + 4 * k + 0)) (pf := fun k => w (4 + 4 * k + 1)) (rf := fun k => w (4 + 4 * k + 3)) (p0 := fa) (h0 := fh) (ftCN w) t ht
  have hasc := ftFl_asc (kf := fun k => w (4 + 4 * k + 0)) (pf := fun k => w (4 + 4 * k + 1)) (rf := fun k => w (4 + 4 * k + 3)) (p0 := fa) (h0 := fh) (ftCN w) h.2.2.2.2.2
  have hle := ftFl_le (fun k => w (4 + 4 * k + 0)) (fun k => w (4 + 4 * k + 1)) (fun k => w (4 + 4 * k + 3)) fa fh (ftCN w)
  have hn := ftLf_n h
  refine ⟨Nat.le_trans (ftFlE_le _ _ _ _ _ _ _ _) (by omega), ?_, ?_⟩
  · intro t ht
    unfold ftFW at ht ⊢
    by_cases c : 0 < w 2
    · rw [ftFlE_t c] at ht ⊢
      generalize hq : ftFl (fun k => w (4 + 4 * k + 0)) (fun k => w (4 + 4 * k + 1)) (fun k => w (4 + 4 * k + 3)) fa fh (ftCN w) = q at ht hent hasc ⊢
      have ht : t < q.1 + 1 := ht
      show upd q.2.1 q.1 (w 0) t = nI (upd q.2.1 q.1 (w 0) t).toNatClampNeg ∧ upd q.2.2 q.1 (w 2) t = nI (upd q.2.2 q.1 (w 2) t).toNatClampNeg ∧ 1 ≤ (upd q.2.1 q.1 (w 0) t).toNatClampNeg ∧ (upd q.2.1 q.1 (w 0) t).toNatClampNeg ≤ 400 ∧ 0 < (upd q.2.2 q.1 (w 2) t).toNatClampNeg ∧ (upd q.2.2 q.1 (w 2) t).toNatClampNeg ≤ 20000
      by_cases r : t = q.1
      · subst r
        rw [ftUpd_at0, ftUpd_at0]
        obtain ⟨a1, a2, a3⟩ := ftN_of (x := w 0) (a := 50) (b := 400) h.2.1.1 h.2.1.2 (by omega) (by omega)
        obtain ⟨b1, b2, b3⟩ := ftN_of (x := w 2) (a := 1) (b := 20000) (ft1_of c) h.2.2.2.1.2 (by omega) (by omega)
        exact ⟨a1, b1, by omega, a3, b2, b3⟩
      · rw [ftUpd_ne r, ftUpd_ne r]
        obtain ⟨k, k1, k2, k3, k4⟩ := hent t (by omega)
        rw [k3, k4]
        obtain ⟨p1, p2, -⟩ := ftPl_b h k1
        obtain ⟨r1, r2⟩ := ftPart_r h k1 k2
        obtain ⟨a1, a2, a3⟩ := ftN_of (a := 1) (b := 400) p1 p2 (by omega) (by omega)
        obtain ⟨b1, b2, b3⟩ := ftN_of (a := 1) (b := 20000) r1 r2 (by omega) (by omega)
        exact ⟨a1, b1, a2, a3, b2, b3⟩
    · rw [ftFlE_f c] at ht ⊢
      obtain ⟨k, k1, k2, k3, k4⟩ := hent t ht
      rw [k3, k4]
      obtain ⟨p1, p2, -⟩ := ftPl_b h k1
      obtain ⟨r1, r2⟩ := ftPart_r h k1 k2
      obtain ⟨a1, a2, a3⟩ := ftN_of (a := 1) (b := 400) p1 p2 (by omega) (by omega)
      obtain ⟨b1, b2, b3⟩ := ftN_of (a := 1) (b := 20000) r1 r2 (by omega) (by omega)
      exact ⟨a1, b1, a2, a3, b2, b3⟩
  · intro a b hab hb
    unfold ftFW at hb ⊢
    by_cases c : 0 < w 2
    · rw [ftFlE_t c] at hb ⊢
      generalize hq : ftFl (fun k => w (4 + 4 * k + 0)) (fun k => w (4 + 4 * k + 1)) (fun k => w (4 + 4 * k + 3)) fa fh (ftCN w) = q at hb hent hasc ⊢
      have hb : b < q.1 + 1 := hb
      show upd q.2.1 q.1 (w 0) a < upd q.2.1 q.1 (w 0) b
      rw [ftUpd_ne (show a ≠ q.1 by omega)]
      by_cases r : b = q.1
      · subst r
        rw [ftUpd_at0]
        obtain ⟨k, k1, k2, k3, k4⟩ := hent a hab
        rw [k3]
        exact (ftPl_b h k1).2.2
      · rw [ftUpd_ne r]
        exact hasc a b hab (by omega)
    · rw [ftFlE_f c] at hb ⊢
      exact hasc a b hab hb
end
section
/-! ghosts: the class's and the reference's are alike -/
def ftGrel (q : ftGs) (k : ftGq) : Prop := q.1 = k.1 ∧ ∀ t, t < q.1 → k.2.1 t = ftGhPl q.2.1 q.2.2.1 t ∧ k.2.2.1 t = q.2.2.2 t ∧ k.2.2.2.1 t = q.2.1 t ∧ k.2.2.2.2 t = q.2.2.1 t
theorem ftDown_M {f1 f2 ga g1 : Nat → Int32} {x one : Int32} : ∀ k, (∀ t, t < k → ga t = ftGhPl f1 f2 t ∧ g1 t ≤ one) → ftDown f1 f2 x k = ftDownM ga g1 x one k := by
  intro k
  induction k with
  | zero => intro _; rfl
  | succ k ih =>
    intro h
    obtain ⟨q1, q2⟩ := h k (by omega)
    have e := ih (fun t ht => h t (by omega))
    rw [ftDown, ftDownM, q1, e]
    by_cases c : x < ftGhPl f1 f2 k
    · rw [if_pos c, if_pos (Or.inl c)]
    · rw [if_neg c, if_neg (fun r => r.elim c (fun r => absurd r.2 (Int32.not_lt.mpr q2)))]
theorem ftIns_at {f : Nat → Int32} {u k : Nat} {x : Int32} : ftIns f u k x k = x := if_pos rfl
theorem ftIns_up {f : Nat → Int32} {u k t : Nat} {x : Int32} (h1 : k < t) (h2 : t ≤ u) : ftIns f u k x t = f (t - 1) := by
  unfold ftIns
  rw [if_neg (by omega), if_pos ⟨h1, h2⟩]
theorem ftIns_dn {f : Nat → Int32} {u k t : Nat} {x : Int32} (h1 : t < k) : ftIns f u k x t = f t := by
  unfold ftIns
  rw [if_neg (by omega), if_neg (by omega)]
theorem ftIns_by {u k : Nat} (hk : k ≤ u) {P : Nat → Prop} (h0 : P k) (h1 : ∀ t, t < k → P t) (h2 : ∀ t, k < t → t ≤ u → P t) : ∀ t, t < u + 1 → P t := by
  intro t ht
  rcases Nat.lt_trichotomy t k with q | q | q
  · exact h1 t q
  · subst q; exact h0
  · exact h2 t q (by omega)
theorem ftGrel_ins {q : ftGs} {k : ftGq} {a b h : Int32} (hr : ftGrel q k) (hb : ∀ t, t < q.1 → q.2.1 t ≤ a) : ftGrel (ftGhIns q a b h) (ftGmIns k (2 * b - a) h a b) ∧ ∀ t, t < (ftGhIns q a b h).1 → (ftGhIns q a b h).2.1 t ≤ a := by
  obtain ⟨e1, e2⟩ := hr
  have ed : ftDown q.2.1 q.2.2.1 (2 * b - a) q.1 = ftDownM k.2.1 k.2.2.2.1 (2 * b - a) a q.1 := ftDown_M q.1 (fun t ht => ⟨(e2 t ht).1, by rw [(e2 t ht).2.2.1]; exact hb t ht⟩)
  have hd := ftDown_le q.2.1 q.2.2.1 (2 * b - a) q.1
  unfold ftGhIns ftGmIns
  rw [← e1, ← ed]
  generalize ftDown q.2.1 q.2.2.1 (2 * b - a) q.1 = j at hd
  refine ⟨⟨rfl, ?_⟩, ?_⟩
  · refine ftIns_by hd ?_ ?_ ?_
    · refine ⟨?_, ?_, ?_, ?_⟩
      · show ftIns k.2.1 q.1 j (2 * b - a) j = 2 * ftIns q.2.2.1 q.1 j b j - ftIns q.2.1 q.1 j a j
        rw [ftIns_at, ftIns_at, ftIns_at]
      · show ftIns k.2.2.1 q.1 j h j = ftIns q.2.2.2 q.1 j h j
        rw [ftIns_at, ftIns_at]
      · show ftIns k.2.2.2.1 q.1 j a j = ftIns q.2.1 q.1 j a j
        rw [ftIns_at, ftIns_at]
      · show ftIns k.2.2.2.2 q.1 j b j = ftIns q.2.2.1 q.1 j b j
        rw [ftIns_at, ftIns_at]
    · intro t ht
      obtain ⟨g1, g2, g3, g4⟩ := e2 t (by omega)
      refine ⟨?_, ?_, ?_, ?_⟩
      · show ftIns k.2.1 q.1 j (2 * b - a) t = 2 * ftIns q.2.2.1 q.1 j b t - ftIns q.2.1 q.1 j a t
        rw [ftIns_dn ht, ftIns_dn ht, ftIns_dn ht, g1]; rfl
      · show ftIns k.2.2.1 q.1 j h t = ftIns q.2.2.2 q.1 j h t
        rw [ftIns_dn ht, ftIns_dn ht, g2]
      · show ftIns k.2.2.2.1 q.1 j a t = ftIns q.2.1 q.1 j a t
        rw [ftIns_dn ht, ftIns_dn ht, g3]
      · show ftIns k.2.2.2.2 q.1 j b t = ftIns q.2.2.1 q.1 j b t
        rw [ftIns_dn ht, ftIns_dn ht, g4]
    · intro t h1 h2
      obtain ⟨g1, g2, g3, g4⟩ := e2 (t - 1) (by omega)
      refine ⟨?_, ?_, ?_, ?_⟩
      · show ftIns k.2.1 q.1 j (2 * b - a) t = 2 * ftIns q.2.2.1 q.1 j b t - ftIns q.2.1 q.1 j a t
        rw [ftIns_up h1 h2, ftIns_up h1 h2, ftIns_up h1 h2, g1]; rfl
      · show ftIns k.2.2.1 q.1 j h t = ftIns q.2.2.2 q.1 j h t
        rw [ftIns_up h1 h2, ftIns_up h1 h2, g2]
      · show ftIns k.2.2.2.1 q.1 j a t = ftIns q.2.1 q.1 j a t
        rw [ftIns_up h1 h2, ftIns_up h1 h2, g3]
      · show ftIns k.2.2.2.2 q.1 j b t = ftIns q.2.2.1 q.1 j b t
        rw [ftIns_up h1 h2, ftIns_up h1 h2, g4]
  · refine ftIns_by hd ?_ ?_ ?_
    · show ftIns q.2.1 q.1 j a j ≤ a
      rw [ftIns_at]; exact Int32.le_refl a
    · intro t ht
      show ftIns q.2.1 q.1 j a t ≤ a
      rw [ftIns_dn ht]; exact hb t (by omega)
    · intro t h1 h2
      show ftIns q.2.1 q.1 j a t ≤ a
      rw [ftIns_up h1 h2]; exact hb (t - 1) (by omega)
theorem ftGrel_step {ps hs pt ht : Nat → Int32} {gl : Int32} {i j : Nat} {q : ftGs} {k : ftGq} (h1 : ps i = pt i ∧ hs i = ht i) (h2 : ps j = pt j ∧ hs j = ht j) (hr : ftGrel q k) (hb : ∀ t, t < q.1 → q.2.1 t ≤ ps i) : ftGrel (ftGhStep ps hs gl i j q) (ftGmStep pt ht gl i j k) ∧ ∀ t, t < (ftGhStep ps hs gl i j q).1 → (ftGhStep ps hs gl i j q).2.1 t ≤ ps i := by
  have e : ftGhH hs gl i j = ftGhH ht gl i j := by unfold ftGhH; rw [h1.2, h2.2]
  unfold ftGhStep ftGmStep
  rw [← e, ← h1.1, ← h2.1]
  by_cases c : 0 < ftGhH hs gl i j
  · rw [if_pos c, if_pos c]
    exact ftGrel_ins hr hb
  · rw [if_neg c, if_neg c]
    exact ⟨hr, hb⟩
theorem ftGrel_in {ps hs pt ht : Nat → Int32} {gl : Int32} {i : Nat} {q : ftGs} {k : ftGq} (h1 : ps i = pt i ∧ hs i = ht i) (hr : ftGrel q k) (hb : ∀ t, t < q.1 → q.2.1 t ≤ ps i) : ∀ d, (∀ e, e < d → ps (i + 1 + e) = pt (i + 1 + e) ∧ hs (i + 1 + e) = ht (i + 1 + e)) → ftGrel (ftGhIn ps hs gl i q d) (ftGmIn pt ht gl i k d) ∧ ∀ t, t < (ftGhIn ps hs gl i q d).1 → (ftGhIn ps hs gl i q d).2.1 t ≤ ps i := by
  intro d
  induction d with
  | zero => intro _; exact ⟨hr, hb⟩
  | succ d ih =>
    intro h
    obtain ⟨a1, a2⟩ := ih (fun e he => h e (by omega))
    exact ftGrel_step h1 (h d (by omega)) a1 a2
theorem ftGrel_out {ps hs pt ht : Nat → Int32} {gl : Int32} {r : Nat} {q : ftGs} {k : ftGq} (hq : q.1 = 0) (hr : ftGrel q k) (he : ∀ t, t < r → ps t = pt t ∧ hs t = ht t) (hasc : ∀ a b, a < b → b < r → ps a < ps b) : ∀ i, i ≤ r → ftGrel (ftGhOut ps hs gl r q i) (ftGmOut pt ht gl r k i) ∧ ∀ t, t < (ftGhOut ps hs gl r q i).1 → ∀ j, i ≤ j → j < r → (ftGhOut ps hs gl r q i).2.1 t ≤ ps j := by
  intro i
  induction i with
  | zero =>
    intro _
    refine ⟨hr, fun t h => ?_⟩
    have h : t < q.1 := h
    omega
  | succ i ih =>
    intro hi
    obtain ⟨a1, a2⟩ := ih (by omega)
    obtain ⟨b1, b2⟩ := ftGrel_in (gl := gl) (he i (by omega)) a1 (fun t h => a2 t h i (Nat.le_refl i) (by omega)) (r - (i + 1)) (fun e h => he _ (by omega))
    exact ⟨b1, fun t h j h1 h2 => Int32.le_trans (b2 t h) (Int32.le_of_lt (hasc i j (by omega) h2))⟩
theorem ftGrel_run {R T : Nat × (Nat → Int32) × (Nat → Int32)} {gl : Int32} {f1 f2 f3 ga gh g1 g2 : Nat → Int32} (h1 : R.1 = T.1) (h2 : ∀ t, t < R.1 → R.2.1 t = T.2.1 t ∧ R.2.2 t = T.2.2 t) (hasc : ∀ a b, a < b → b < R.1 → R.2.1 a < R.2.1 b) : ftGrel (ftGhs R gl f1 f2 f3) (ftGms T gl ga gh g1 g2) := by
  unfold ftGhs ftGms
  rw [← h1]
  exact (ftGrel_out rfl ⟨rfl, fun t h => absurd h (Nat.not_lt_zero t)⟩ h2 hasc R.1 (Nat.le_refl _)).1
def ftGW (w fa fh ga gh g1 g2 : Nat → Int32) : ftGq := ftGms (ftFW w fa fh) (w (44 + 2)) ga gh g1 g2
def ftCG (w : Nat → Int32) : ftGq := ftGms (ftCF w) (w (44 + 2)) (fun _ => 0) (fun _ => 0) (fun _ => 0) (fun _ => 0)
def ftGeq (q k : ftGq) : Prop := q.1 = k.1 ∧ ∀ t, t < q.1 → q.2.1 t = k.2.1 t ∧ q.2.2.1 t = k.2.2.1 t ∧ q.2.2.2.1 t = k.2.2.2.1 t ∧ q.2.2.2.2 t = k.2.2.2.2 t
theorem ftGrel_eq {q : ftGs} {j k : ftGq} (h1 : ftGrel q j) (h2 : ftGrel q k) : ftGeq j k := by
  refine ⟨h1.1.symm.trans h2.1, fun t ht => ?_⟩
  rw [← h1.1] at ht
  obtain ⟨a1, a2, a3, a4⟩ := h1.2 t ht
  obtain ⟨b1, b2, b3, b4⟩ := h2.2 t ht
  exact ⟨a1.trans b1.symm, a2.trans b2.symm, a3.trans b3.symm, a4.trans b4.symm⟩
theorem ftGW_c {w : Nat → Int32} (h : ftLf w) (fa fh ga gh g1 g2 : Nat → Int32) : ftGeq (ftGW w fa fh ga gh g1 g2) (ftCG w) := by
  have hok := ftFW_ok h (fun _ => 0) (fun _ => 0)
  have hc := ftFW_c w fa fh
  refine ftGrel_eq (q := ftGhs (ftCF w) (w (44 + 2)) (fun _ => 0) (fun _ => 0) (fun _ => 0)) ?_ ?_
  · exact ftGrel_run hc.1.symm (fun t ht => by
      have := hc.2 t (by rw [hc.1]; exact ht)
      exact ⟨this.1.symm, this.2.symm⟩) hok.2.2
  · exact ftGrel_run rfl (fun _ _ => ⟨rfl, rfl⟩) hok.2.2
/-! what ghosts are -/
theorem ftIns_all {Q : Int32 → Int32 → Int32 → Prop} {f1 f2 f3 : Nat → Int32} {u k : Nat} {a b c : Int32} (hk : k ≤ u) (h : ∀ t, t < u → Q (f1 t) (f2 t) (f3 t)) (hq : Q a b c) : ∀ t, t < u + 1 → Q (ftIns f1 u k a t) (ftIns f2 u k b t) (ftIns f3 u k c t) := by
  refine ftIns_by hk ?_ ?_ ?_
  · rw [ftIns_at, ftIns_at, ftIns_at]; exact hq
  · intro t ht; rw [ftIns_dn ht, ftIns_dn ht, ftIns_dn ht]; exact h t (by omega)
  · intro t h1 h2; rw [ftIns_up h1 h2, ftIns_up h1 h2, ftIns_up h1 h2]; exact h (t - 1) (by omega)
theorem ftGh_in {Q : Int32 → Int32 → Int32 → Prop} {ps hs : Nat → Int32} {gl : Int32} {i : Nat} {q : ftGs} (h : ∀ t, t < q.1 → Q (q.2.1 t) (q.2.2.1 t) (q.2.2.2 t)) : ∀ d, (∀ e, e < d → 0 < ftGhH hs gl i (i + 1 + e) → Q (ps i) (ps (i + 1 + e)) (ftGhH hs gl i (i + 1 + e))) → ∀ t, t < (ftGhIn ps hs gl i q d).1 → Q ((ftGhIn ps hs gl i q d).2.1 t) ((ftGhIn ps hs gl i q d).2.2.1 t) ((ftGhIn ps hs gl i q d).2.2.2 t) := by
  intro d
  induction d with
  | zero => intro _; exact h
  | succ d ih =>
    intro hd
    have a := ih (fun e he => hd e (by omega))
    show ∀ t, t < (ftGhStep ps hs gl i (i + 1 + d) (ftGhIn ps hs gl i q d)).1 → Q ((ftGhStep ps hs gl i (i + 1 + d) (ftGhIn ps hs gl i q d)).2.1 t) ((ftGhStep ps hs gl i (i + 1 + d) (ftGhIn ps hs gl i q d)).2.2.1 t) ((ftGhStep ps hs gl i (i + 1 + d) (ftGhIn ps hs gl i q d)).2.2.2 t)
    unfold ftGhStep
    by_cases c : 0 < ftGhH hs gl i (i + 1 + d)
    · rw [if_pos c]
      exact ftIns_all (ftDown_le _ _ _ _) a (hd d (by omega) c)
    · rw [if_neg c]; exact a
theorem ftGh_ent {Q : Int32 → Int32 → Int32 → Prop} {R : Nat × (Nat → Int32) × (Nat → Int32)} {gl : Int32} {f1 f2 f3 : Nat → Int32} (h : ∀ i j, i < j → j < R.1 → 0 < ftGhH R.2.2 gl i j → Q (R.2.1 i) (R.2.1 j) (ftGhH R.2.2 gl i j)) : ∀ t, t < (ftGhs R gl f1 f2 f3).1 → Q ((ftGhs R gl f1 f2 f3).2.1 t) ((ftGhs R gl f1 f2 f3).2.2.1 t) ((ftGhs R gl f1 f2 f3).2.2.2 t) := by
  have key : ∀ i, i ≤ R.1 → ∀ t, t < (ftGhOut R.2.1 R.2.2 gl R.1 (0, f1, f2, f3) i).1 → Q ((ftGhOut R.2.1 R.2.2 gl R.1 (0, f1, f2, f3) i).2.1 t) ((ftGhOut R.2.1 R.2.2 gl R.1 (0, f1, f2, f3) i).2.2.1 t) ((ftGhOut R.2.1 R.2.2 gl R.1 (0, f1, f2, f3) i).2.2.2 t) := by
    intro i
    induction i with
    | zero => intro _ t ht; exact absurd ht (Nat.not_lt_zero t)
    | succ i ih =>
      intro hi
      exact ftGh_in (ih (by omega)) (R.1 - (i + 1)) (fun e he hp => h i (i + 1 + e) (by omega) (by omega) hp)
  exact key R.1 (Nat.le_refl _)
/-- a ghost's place and height, as numbers -/
def ftGQ (a b h : Int32) : Prop := 2 * b - a = nI (2 * b - a).toNatClampNeg ∧ (2 * b - a).toNatClampNeg ≤ 800 ∧ h = nI h.toNatClampNeg ∧ 0 < h.toNatClampNeg ∧ h.toNatClampNeg ≤ 20000
theorem ftGQ_of {R : Nat × (Nat → Int32) × (Nat → Int32)} {gl : Int32} (hR : ftFok R) (hg : 0 ≤ gl) (hg2 : gl ≤ 40000) {i j : Nat} (hij : i < j) (hj : j < R.1) (hp : 0 < ftGhH R.2.2 gl i j) : ftGQ (R.2.1 i) (R.2.1 j) (ftGhH R.2.2 gl i j) := by
  obtain ⟨-, h1, h2⟩ := hR
  obtain ⟨a1, a2, a3, a4, a5, a6⟩ := h1 i (by omega)
  obtain ⟨b1, b2, b3, b4, b5, b6⟩ := h1 j hj
  have hlt := h2 i j hij hj
  have eg := (ftI_nat hg).1
  have lg := ftI_le (N := 40000) hg hg2 (by omega)
  generalize (R.2.1 i).toNatClampNeg = A at *
  generalize (R.2.1 j).toNatClampNeg = B at *
  generalize (R.2.2 i).toNatClampNeg = C at *
  generalize (R.2.2 j).toNatClampNeg = E at *
  generalize gl.toNatClampNeg = G at *
  rw [a1, b1] at hlt
  have hAB : A < B := ft_ltN (by omega) (by omega) hlt
  have e1 : 2 * R.2.1 j - R.2.1 i = nI (2 * B - A) := by
    rw [a1, b1]
    show nI 2 * nI B - nI A = _
    rw [ft_mulN, ft_subN (by omega)]
  have e2 : (R.2.2 i + R.2.2 j) / 2 = nI ((C + E) / 2) := by
    rw [a2, b2, ft_addN]
    exact pk_div (d := 2) (by omega) (by omega) (by omega)
  have e3 : ftGhH R.2.2 gl i j = nI ((C + E) / 2 - G) := by
    unfold ftGhH at hp ⊢
    rw [e2, eg] at hp ⊢
    have := ft_ge0S (by omega) (by omega) (Int32.le_of_lt hp)
    rw [ft_subN this]
  have hpos : 0 < (C + E) / 2 - G := by
    rw [e3] at hp
    exact ft_ltN (a := 0) (by omega) (by omega) hp
  unfold ftGQ
  rw [e1, e3, nI_clamp (by omega), nI_clamp (by omega)]
  exact ⟨rfl, by omega, rfl, hpos, by omega⟩
/-- a row of ghosts whose places and heights are numbers -/
def ftGok (q : ftGq) : Prop := q.1 ≤ 55 ∧ ∀ t, t < q.1 → q.2.1 t = nI (q.2.1 t).toNatClampNeg ∧ (q.2.1 t).toNatClampNeg ≤ 800 ∧ q.2.2.1 t = nI (q.2.2.1 t).toNatClampNeg ∧ 0 < (q.2.2.1 t).toNatClampNeg ∧ (q.2.2.1 t).toNatClampNeg ≤ 20000
theorem ftGms_le (R : Nat × (Nat → Int32) × (Nat → Int32)) (gl : Int32) (ga gh g1 g2 : Nat → Int32) (h : R.1 ≤ 11) : (ftGms R gl ga gh g1 g2).1 ≤ 55 := Nat.le_trans (ftGmOut_le _ _ _ _ _ rfl _) (ftPairs_le2 _ (by omega) _ (by omega))
theorem ftGms_ok {R : Nat × (Nat → Int32) × (Nat → Int32)} {gl : Int32} (hR : ftFok R) (hg : 0 ≤ gl) (hg2 : gl ≤ 40000) (ga gh g1 g2 : Nat → Int32) : ftGok (ftGms R gl ga gh g1 g2) := by
  refine ⟨ftGms_le _ _ _ _ _ _ hR.1, fun t ht => ?_⟩
  have hr : ftGrel (ftGhs R gl ga ga ga) (ftGms R gl ga gh g1 g2) := ftGrel_run rfl (fun _ _ => ⟨rfl, rfl⟩) hR.2.2
  rw [← hr.1] at ht
  obtain ⟨e1, e2, -, -⟩ := hr.2 t ht
  have q : ftGQ _ _ _ := ftGh_ent (Q := ftGQ) (f1 := ga) (f2 := ga) (f3 := ga) (fun i j h1 h2 h3 => ftGQ_of hR hg hg2 h1 h2 h3) t ht
  rw [e1, e2]
  exact q
end
section
/-! events: the class's and the reference's are alike -/
theorem ftPkI_cong {PP HH PQ HQ : Nat → Nat} {wd d x : Nat} {a b : Int32} (hab : a = b) : ∀ k, (∀ i, i < k → PP i = PQ i ∧ HH i = HQ i) → ftPkI PP HH wd d x a k = ftPkI PQ HQ wd d x b k := by
  intro k
  induction k with
  | zero => intro _; exact hab
  | succ k ih =>
    intro h
    rw [ftPkI, ftPkI, ih (fun i hi => h i (by omega)), (h k (by omega)).1, (h k (by omega)).2]
theorem ftEndK_cong {v u : Nat → Int32} {st : Int32} {L : Nat} (h : ∀ t, t ≤ L → v t = u t) (k : Nat) : ftEndK v st L k = ftEndK u st L k := by
  induction k with
  | zero => rfl
  | succ k ih => rw [ftEndK, ftEndK, ih, h _ (Nat.sub_le _ _), h _ (Nat.sub_le _ _)]
theorem ftEnd_cong {v u : Nat → Int32} {st : Int32} {L y : Nat} (h : ∀ t, t ≤ L → v t = u t) : ftEnd v st L y = ftEnd u st L y := ftEndK_cong h _
theorem ftGr_cong {v u : Nat → Int32} {x : Nat} : ∀ d, (∀ t, t ≤ x + d → v t = u t) → ftGr v x d = ftGr u x d := by
  intro d
  induction d with
  | zero => intro h; exact h x (Nat.le_refl _)
  | succ d ih => intro h; rw [ftGr, ftGr, ih (fun t ht => h t (by omega)), h _ (Nat.le_refl _)]
theorem ftMk_cong {a b : Nat → Nat → Int32} {tl : Int32} {i j e : Nat} (hi : a 0 i = b 0 i ∧ a 4 i = b 4 i) (hj : a 0 j = b 0 j ∧ a 4 j = b 4 j) (he : a 0 e = b 0 e) : ftMk a tl i j e ↔ ftMk b tl i j e := by
  unfold ftMk
  rw [hi.1, hi.2, hj.1, hj.2, he]
theorem ftMkIn_t {ro : Nat → Nat → Int32} {tl : Int32} {i e k : Nat} (h : ftMk ro tl i (e - (k + 1)) e) : ftMkIn ro tl i e (k + 1) = some (e - (k + 1)) := if_pos h
theorem ftMkIn_f {ro : Nat → Nat → Int32} {tl : Int32} {i e k : Nat} (h : ¬ ftMk ro tl i (e - (k + 1)) e) : ftMkIn ro tl i e (k + 1) = ftMkIn ro tl i e k := if_neg h
theorem ftMkIn_cong {a b : Nat → Nat → Int32} {tl : Int32} {i e : Nat} (h : ∀ t, t ≤ e → a 0 t = b 0 t ∧ a 4 t = b 4 t) (hi : i ≤ e) (k : Nat) : ftMkIn a tl i e k = ftMkIn b tl i e k := by
  induction k with
  | zero => rfl
  | succ k ih =>
    have hc := ftMk_cong (tl := tl) (h i hi) (h (e - (k + 1)) (Nat.sub_le _ _)) (h e (Nat.le_refl _)).1
    rcases Classical.em (ftMk a tl i (e - (k + 1)) e) with q | q
    · rw [ftMkIn_t q, ftMkIn_t (hc.mp q)]
    · rw [ftMkIn_f q, ftMkIn_f (fun r => q (hc.mpr r)), ih]
theorem ftMkOut_cong {a b : Nat → Nat → Int32} {tl : Int32} {e : Nat} (h : ∀ t, t ≤ e → a 0 t = b 0 t ∧ a 4 t = b 4 t) (k : Nat) : ftMkOut a tl e k = ftMkOut b tl e k := by
  induction k with
  | zero => rfl
  | succ k ih => rw [ftMkOut, ftMkOut, ih, ftMkIn_cong h (Nat.sub_le _ _)]
theorem ftMkIn_lt {ro : Nat → Nat → Int32} {tl : Int32} {i e j : Nat} (he : 0 < e) : ∀ k, ftMkIn ro tl i e k = some j → j < e := by
  intro k
  induction k with
  | zero => intro h; cases h
  | succ k ih =>
    intro h
    rcases Classical.em (ftMk ro tl i (e - (k + 1)) e) with q | q
    · rw [ftMkIn_t q] at h
      cases h
      omega
    · rw [ftMkIn_f q] at h; exact ih h
theorem ftMkOut_lt {ro : Nat → Nat → Int32} {tl : Int32} {e i j : Nat} : ∀ k, k ≤ e → ftMkOut ro tl e k = some (i, j) → i < e ∧ j < e := by
  intro k
  induction k with
  | zero => intro _ h; cases h
  | succ k ih =>
    intro hk h
    rw [ftMkOut] at h
    cases hq : ftMkIn ro tl (e - (k + 1)) e (e - (e - (k + 1) + 1)) with
    | some j2 =>
      rw [hq] at h
      cases h
      exact ⟨by omega, ftMkIn_lt (by omega) _ hq⟩
    | none => rw [hq] at h; exact ih (by omega) h
theorem ftMkSet_at {ro : Nat → Nat → Int32} {e i j c t : Nat} (h : t ≠ e) : ftMkSet ro e i j c t = ro c t := by
  unfold ftMkSet
  by_cases q4 : c = 4
  · subst q4; rw [if_pos rfl, ftUpd_ne h]
  · rw [if_neg q4]
    by_cases q6 : c = 6
    · subst q6; rw [if_pos rfl, ftUpd_ne h]
    · rw [if_neg q6]
      by_cases q7 : c = 7
      · subst q7; rw [if_pos rfl, ftUpd_ne h]
      · rw [if_neg q7]
theorem ftMkSet_o {ro : Nat → Nat → Int32} {e i j c : Nat} (h4 : c ≠ 4) (h6 : c ≠ 6) (h7 : c ≠ 7) : ftMkSet ro e i j c = ro c := by
  unfold ftMkSet
  rw [if_neg h4, if_neg h6, if_neg h7]
theorem ftMkRow_at {ro : Nat → Nat → Int32} {tl : Int32} {e c t : Nat} (h : t ≠ e) : ftMkRow ro tl e c t = ro c t := by
  cases hq : ftMkOut ro tl e e with
  | none => rw [ftMkRow_none hq]
  | some p => obtain ⟨i, j⟩ := p; rw [ftMkRow_some hq, ftMkSet_at h]
theorem ftMkRow_o {ro : Nat → Nat → Int32} {tl : Int32} {e c : Nat} (h4 : c ≠ 4) (h6 : c ≠ 6) (h7 : c ≠ 7) : ftMkRow ro tl e c = ro c := by
  cases hq : ftMkOut ro tl e e with
  | none => rw [ftMkRow_none hq]
  | some p => obtain ⟨i, j⟩ := p; rw [ftMkRow_some hq, ftMkSet_o h4 h6 h7]
theorem ftGhosts_o (ro : Nat → Nat → Int32) (tl gl : Int32) {c : Nat} (h4 : c ≠ 4) (h6 : c ≠ 6) (h7 : c ≠ 7) (i : Nat) : ftGhosts ro tl gl i c = ro c := by
  induction i with
  | zero => rfl
  | succ i ih =>
    rcases Classical.em (ftGhosts ro tl gl i 4 i = 1 ∧ ftAbs (ftGhosts ro tl gl i 2 i) ≤ gl) with q | q
    · rw [← ftGhosts_t rfl q, ftMkRow_o h4 h6 h7, ih]
    · rw [← ftGhosts_f rfl q, ih]
/-- the ghosts among the first m events don't ask for the m-th -/
theorem ftGhosts_loc {a b : Nat → Nat → Int32} {tl gl : Int32} {m : Nat} (h : ∀ c t, t ≠ m → a c t = b c t) : ∀ i, i ≤ m → (∀ c t, t ≠ m → ftGhosts a tl gl i c t = ftGhosts b tl gl i c t) ∧ ∀ c, ftGhosts a tl gl i c m = a c m := by
  intro i
  induction i with
  | zero => intro _; exact ⟨h, fun _ => rfl⟩
  | succ i ih =>
    intro hi
    obtain ⟨g1, g2⟩ := ih (by omega)
    have e4 := g1 4 i (by omega)
    have e2 := g1 2 i (by omega)
    have eo : ftMkOut (ftGhosts a tl gl i) tl i i = ftMkOut (ftGhosts b tl gl i) tl i i := ftMkOut_cong (fun t ht => ⟨g1 0 t (by omega), g1 4 t (by omega)⟩) i
    rcases Classical.em (ftGhosts a tl gl i 4 i = 1 ∧ ftAbs (ftGhosts a tl gl i 2 i) ≤ gl) with q | q
    · have q2 : ftGhosts b tl gl i 4 i = 1 ∧ ftAbs (ftGhosts b tl gl i 2 i) ≤ gl := by rw [← e4, ← e2]; exact q
      rw [← ftGhosts_t rfl q, ← ftGhosts_t rfl q2]
      refine ⟨fun c t ht => ?_, fun c => ?_⟩
      · by_cases r : t = i
        · subst r
          cases hq : ftMkOut (ftGhosts a tl gl t) tl t t with
          | none => rw [ftMkRow_none hq, ftMkRow_none (eo ▸ hq)]; exact g1 c t ht
          | some p =>
            obtain ⟨x, y⟩ := p
            rw [ftMkRow_some hq, ftMkRow_some (eo ▸ hq)]
            unfold ftMkSet
            by_cases q4 : c = 4
            · subst q4; rw [if_pos rfl, if_pos rfl, ftUpd_at0, ftUpd_at0]
            · rw [if_neg q4, if_neg q4]
              by_cases q6 : c = 6
              · subst q6; rw [if_pos rfl, if_pos rfl, ftUpd_at0, ftUpd_at0]
              · rw [if_neg q6, if_neg q6]
                by_cases q7 : c = 7
                · subst q7; rw [if_pos rfl, if_pos rfl, ftUpd_at0, ftUpd_at0]
                · rw [if_neg q7, if_neg q7]; exact g1 c t ht
        · rw [ftMkRow_at r, ftMkRow_at r]; exact g1 c t ht
      · rw [ftMkRow_at (show m ≠ i by omega)]; exact g2 c
    · have q2 : ¬ (ftGhosts b tl gl i 4 i = 1 ∧ ftAbs (ftGhosts b tl gl i 2 i) ≤ gl) := by rw [← e4, ← e2]; exact q
      rw [← ftGhosts_f rfl q, ← ftGhosts_f rfl q2]
      exact ⟨g1, g2⟩
/-- class's events q (ghosts told behind), reference's k -/
def ftErel (N : Nat) (tl gl : Int32) (q k : ftRs) : Prop := q.1 = k.1 ∧ q.2.1 = k.2.1 ∧ q.1 ≤ 30 ∧ ∀ t, t < q.1 → (∀ c, c < 6 → ftGhosts q.2.2 tl gl q.1 c t = k.2.2 c t) ∧ (∃ e, e < N ∧ k.2.2 1 t = nI e) ∧ ((k.2.2 4 t = 2 ∧ (∃ i j, i < 30 ∧ j < 30 ∧ k.2.2 6 t = nI i ∧ k.2.2 7 t = nI j) ∧ ftGhosts q.2.2 tl gl q.1 6 t = k.2.2 6 t ∧ ftGhosts q.2.2 tl gl q.1 7 t = k.2.2 7 t) ∨ (¬ k.2.2 4 t = 2 ∧ ftGhosts q.2.2 tl gl q.1 6 t = -1 ∧ ftGhosts q.2.2 tl gl q.1 7 t = -1))
theorem ftEvK_n2 (rb en : Int32) : ¬ ftEvK rb en = 2 := by
  unfold ftEvK
  by_cases h : en = 0
  · rw [if_pos h]
    by_cases r : rb = 0
    · rw [if_pos r]; decide
    · rw [if_neg r]; decide
  · rw [if_neg h]; decide
theorem ftRdEv_at {v : Nat → Int32} {x y : Nat} {rb en : Int32} {q : ftRs} {c t : Nat} (h : t ≠ q.1) : (ftRdEv v x y rb en q).2.2 c t = q.2.2 c t := if_neg h
theorem ftRdEv_m {v : Nat → Int32} {x y : Nat} {rb en : Int32} {q : ftRs} {c : Nat} : (ftRdEv v x y rb en q).2.2 c q.1 = ftEvE v x y (ftSb q.2.2 q.1) rb en c := if_pos rfl
theorem ftEvE_4 (v : Nat → Int32) (x y sb : Nat) (rb en : Int32) : ftEvE v x y sb rb en 4 = ftEvK rb en := rfl
theorem ftEvS_at {v : Nat → Int32} {O : Option (Nat × Nat)} {x y : Nat} {rb en : Int32} {k : ftRs} {c t : Nat} (h : t ≠ k.1) : (ftEvS v O x y rb en k).2.2 c t = k.2.2 c t := by
  show (if c = 4 then (match O with | none => upd (k.2.2 4) k.1 (ftEvK rb en) | some _ => upd (k.2.2 4) k.1 2) else if c = 6 then ftMk1 O (k.2.2 6) k.1 else if c = 7 then ftMk2 O (k.2.2 7) k.1 else upd (k.2.2 c) k.1 (ftEvV v x y (ftSb k.2.2 k.1) rb c)) t = k.2.2 c t
  by_cases q4 : c = 4
  · subst q4
    rw [if_pos rfl]
    cases O with
    | none => exact ftUpd_ne h
    | some p => exact ftUpd_ne h
  · rw [if_neg q4]
    by_cases q6 : c = 6
    · subst q6
      rw [if_pos rfl]
      cases O with
      | none => rfl
      | some p => obtain ⟨i, j⟩ := p; exact ftUpd_ne h
    · rw [if_neg q6]
      by_cases q7 : c = 7
      · subst q7
        rw [if_pos rfl]
        cases O with
        | none => rfl
        | some p => obtain ⟨i, j⟩ := p; exact ftUpd_ne h
      · rw [if_neg q7]; exact ftUpd_ne h
theorem ftErel_step {v u : Nat → Int32} {N x y : Nat} {tl gl rb en : Int32} {q k : ftRs} (hv : ∀ t, t < N → v t = u t) (hx1 : 1 ≤ x) (hxy : x ≤ y) (hy : y < N) (h30 : q.1 < 30) (hr : ftErel N tl gl q k) : ftErel N tl gl (ftRdEv v x y rb en q) (ftEvQ u tl gl x y rb en k) := by
  obtain ⟨e1, e2, -, e3⟩ := hr
  obtain ⟨g1, g2⟩ := ftGhosts_loc (a := (ftRdEv v x y rb en q).2.2) (b := q.2.2) (tl := tl) (gl := gl) (m := q.1) (fun c t ht => ftRdEv_at ht) q.1 (Nat.le_refl _)
  have hsb : ftSb q.2.2 q.1 = ftSb k.2.2 k.1 := by
    rw [← e1]
    unfold ftSb
    by_cases z : q.1 = 0
    · rw [if_pos z, if_pos z]
    · rw [if_neg z, if_neg z, ← (e3 (q.1 - 1) (by omega)).1 1 (by omega), ftGhosts_o _ _ _ (by omega) (by omega) (by omega)]
  have hsbN : ftSb k.2.2 k.1 < N := by
    rw [← e1]
    unfold ftSb
    by_cases z : q.1 = 0
    · rw [if_pos z]; omega
    · rw [if_neg z]
      obtain ⟨e, he, hee⟩ := (e3 (q.1 - 1) (by omega)).2.1
      rw [hee]
      rcases Nat.lt_or_ge e (2 ^ 31) with r | r
      · rw [nI_clamp r]; exact he
      · have : (nI e).toNatClampNeg < 2 ^ 31 := by
          have := (nI e).toInt_lt
          unfold Int32.toNatClampNeg
          omega
        omega
  have hE4 : ftGhosts (ftRdEv v x y rb en q).2.2 tl gl q.1 4 q.1 = ftEvK rb en := by rw [g2 4, ftRdEv_m, ftEvE_4]
  have hE2 : ftGhosts (ftRdEv v x y rb en q).2.2 tl gl q.1 2 q.1 = u (x - 1) - u y := by
    rw [g2 2, ftRdEv_m]
    show v (x - 1) - v y = _
    rw [hv _ (by omega), hv _ (by omega)]
  have hEV : ∀ c, c < 6 → c ≠ 4 → ftEvE v x y (ftSb q.2.2 q.1) rb en c = ftEvV u x y (ftSb k.2.2 k.1) rb c := by
    intro c hc h4
    rw [hsb]
    match c, hc, h4 with
    | 0, _, _ => rfl
    | 1, _, _ => rfl
    | 2, _, _ => show v (x - 1) - v y = u (x - 1) - u y; rw [hv _ (by omega), hv _ (by omega)]
    | 3, _, _ =>
      show (if rb = 0 then 0 else ftGr v x (y - x) - v (x - 1)) = (if rb = 0 then 0 else ftGr u x (y - x) - u (x - 1))
      rw [ftGr_cong (y - x) (fun t ht => hv t (by omega)), hv (x - 1) (by omega)]
    | 5, _, _ => show v (ftSb k.2.2 k.1) - v (x - 1) = u (ftSb k.2.2 k.1) - u (x - 1); rw [hv _ hsbN, hv _ (by omega)]
  have hOut : ftMkOut (ftGhosts (ftRdEv v x y rb en q).2.2 tl gl q.1) tl q.1 q.1 = ftMkOut (ftRoM (upd (k.2.2 0) k.1 (nI x)) (upd (k.2.2 4) k.1 (ftEvK rb en))) tl k.1 k.1 := by
    rw [← e1]
    refine ftMkOut_cong (fun t ht => ?_) q.1
    show _ = upd (k.2.2 0) q.1 (nI x) t ∧ _ = upd (k.2.2 4) q.1 (ftEvK rb en) t
    by_cases z : t = q.1
    · subst z
      rw [ftUpd_at0, ftUpd_at0]
      exact ⟨by rw [g2 0, ftRdEv_m]; rfl, hE4⟩
    · rw [ftUpd_ne z, ftUpd_ne z, g1 0 t z, g1 4 t z]
      exact ⟨(e3 t (by omega)).1 0 (by omega), (e3 t (by omega)).1 4 (by omega)⟩
  have hcnt : (ftRdEv v x y rb en q).1 = q.1 + 1 := rfl
  refine ⟨by rw [hcnt, e1]; rfl, rfl, by rw [hcnt]; omega, fun t ht => ?_⟩
  rw [hcnt] at ht ⊢
  -- the rows behind the step, and the reference's
  obtain ⟨O, hO⟩ : ∃ O, O = ftEvO u tl gl x y rb en k := ⟨_, rfl⟩
  have hQ : ftEvQ u tl gl x y rb en k = ftEvS u O x y rb en k := by rw [hO]; rfl
  rw [hQ]
  by_cases z : t = q.1
  · subst z
    have hk1 : ∀ c, c < 6 → c ≠ 4 → (ftEvS u O x y rb en k).2.2 c q.1 = ftEvV u x y (ftSb k.2.2 k.1) rb c := by
      intro c hc h4
      rw [e1]
      show (if c = 4 then _ else if c = 6 then _ else if c = 7 then _ else upd (k.2.2 c) k.1 (ftEvV u x y (ftSb k.2.2 k.1) rb c)) k.1 = _
      rw [if_neg h4, if_neg (by omega), if_neg (by omega)]
      exact ftUpd_at0
    have hend : ∃ e, e < N ∧ (ftEvS u O x y rb en k).2.2 1 q.1 = nI e := ⟨y, hy, hk1 1 (by omega) (by omega)⟩
    rcases Classical.em (ftEvK rb en = 1 ∧ ftAbs (u (x - 1) - u y) ≤ gl) with cc | cc
    · have q9 : ftGhosts (ftRdEv v x y rb en q).2.2 tl gl q.1 4 q.1 = 1 ∧ ftAbs (ftGhosts (ftRdEv v x y rb en q).2.2 tl gl q.1 2 q.1) ≤ gl := by rw [hE4, hE2]; exact cc
      rw [← ftGhosts_t rfl q9]
      have hO2 : O = ftMkOut (ftRoM (upd (k.2.2 0) k.1 (nI x)) (upd (k.2.2 4) k.1 (ftEvK rb en))) tl k.1 k.1 := by rw [hO]; exact if_pos cc
      rw [← hO2] at hOut
      cases hq : O with
      | none =>
        rw [hq] at hOut hk1 hend
        rw [ftMkRow_none hOut]
        have h4 : (ftEvS u none x y rb en k).2.2 4 q.1 = ftEvK rb en := by rw [e1]; exact ftUpd_at0
        refine ⟨fun c hc => ?_, hend, Or.inr ⟨by rw [h4]; exact ftEvK_n2 rb en, by rw [g2 6, ftRdEv_m]; rfl, by rw [g2 7, ftRdEv_m]; rfl⟩⟩
        by_cases c4 : c = 4
        · subst c4; rw [hE4, h4]
        · rw [g2 c, ftRdEv_m, hk1 c hc c4]; exact hEV c hc c4
      | some p =>
        obtain ⟨i, j⟩ := p
        rw [hq] at hOut hk1 hend
        rw [ftMkRow_some hOut]
        obtain ⟨li, lj⟩ := ftMkOut_lt q.1 (Nat.le_refl _) hOut
        have h4 : (ftEvS u (some (i, j)) x y rb en k).2.2 4 q.1 = 2 := by rw [e1]; exact ftUpd_at0
        have h6 : (ftEvS u (some (i, j)) x y rb en k).2.2 6 q.1 = nI i := by rw [e1]; exact ftUpd_at0
        have h7 : (ftEvS u (some (i, j)) x y rb en k).2.2 7 q.1 = nI j := by rw [e1]; exact ftUpd_at0
        refine ⟨fun c hc => ?_, hend, Or.inl ⟨h4, ⟨i, j, by omega, by omega, h6, h7⟩, ?_, ?_⟩⟩
        · by_cases c4 : c = 4
          · subst c4; rw [h4]; exact ftUpd_at0
          · rw [ftMkSet_o c4 (by omega) (by omega), g2 c, ftRdEv_m, hk1 c hc c4]; exact hEV c hc c4
        · rw [h6]; exact ftUpd_at0
        · rw [h7]; exact ftUpd_at0
    · have q9 : ¬ (ftGhosts (ftRdEv v x y rb en q).2.2 tl gl q.1 4 q.1 = 1 ∧ ftAbs (ftGhosts (ftRdEv v x y rb en q).2.2 tl gl q.1 2 q.1) ≤ gl) := by rw [hE4, hE2]; exact cc
      rw [← ftGhosts_f rfl q9]
      have hq : O = none := by rw [hO]; exact if_neg cc
      rw [hq] at hk1 hend ⊢
      have h4 : (ftEvS u none x y rb en k).2.2 4 q.1 = ftEvK rb en := by rw [e1]; exact ftUpd_at0
      refine ⟨fun c hc => ?_, hend, Or.inr ⟨by rw [h4]; exact ftEvK_n2 rb en, by rw [g2 6, ftRdEv_m]; rfl, by rw [g2 7, ftRdEv_m]; rfl⟩⟩
      by_cases c4 : c = 4
      · subst c4; rw [hE4, h4]
      · rw [g2 c, ftRdEv_m, hk1 c hc c4]; exact hEV c hc c4
  · have hk : ∀ c, (ftEvS u O x y rb en k).2.2 c t = k.2.2 c t := fun c => ftEvS_at (by rw [← e1]; exact z)
    have hg : ∀ c, ftGhosts (ftRdEv v x y rb en q).2.2 tl gl (q.1 + 1) c t = ftGhosts q.2.2 tl gl q.1 c t := by
      intro c
      rcases Classical.em (ftGhosts (ftRdEv v x y rb en q).2.2 tl gl q.1 4 q.1 = 1 ∧ ftAbs (ftGhosts (ftRdEv v x y rb en q).2.2 tl gl q.1 2 q.1) ≤ gl) with cc | cc
      · rw [← ftGhosts_t rfl cc, ftMkRow_at z]; exact g1 c t z
      · rw [← ftGhosts_f rfl cc]; exact g1 c t z
    rw [hk 1, hk 4, hk 6, hk 7, hg 6, hg 7]
    refine ⟨fun c hc => ?_, (e3 t (by omega)).2⟩
    rw [hg c, hk c]
    exact (e3 t (by omega)).1 c hc
theorem ftErel_run {v u : Nat → Int32} {N w : Nat} {ri st fl tl gl : Int32} (hN : 0 < N) (hw : 1 ≤ w) (hv : ∀ t, t < N → v t = u t) : ∀ (f x : Nat) (q k : ftRs), 1 ≤ x → ftErel N tl gl q k → ftErel N tl gl (ftRdL v N w ri st fl f x q) (ftRdM u N w ri st fl tl gl f x k) := by
  intro f
  induction f with
  | zero => intro x q k _ h; exact h
  | succ f ih =>
    intro x q k hx h
    obtain ⟨e1, e2, -, -⟩ := id h
    unfold ftRdL ftRdM
    by_cases c : x < N ∧ q.1 < 30 ∧ q.2.1 = 0
    · rw [if_pos c, if_pos (show x < N ∧ k.1 < 30 ∧ k.2.1 = 0 by rw [← e1, ← e2]; exact c)]
      have ex := hv x c.1
      have ex1 := hv (x - 1) (by omega)
      rw [ex, ex1]
      have hvL : ∀ t, t ≤ N - 1 → v t = u t := fun t ht => hv t (by omega)
      have key : ∀ y rb, x ≤ y → ftErel N tl gl (ftRdEv v x (ftEnd v st (N - 1) y) rb (if v (ftEnd v st (N - 1) y) < fl then 1 else 0) q) (ftEvQ u tl gl x (ftEnd u st (N - 1) y) rb (if u (ftEnd u st (N - 1) y) < fl then 1 else 0) k) := by
        intro y rb hy
        have b1 := ftEnd_geX (v := u) (st := st) (L := N - 1) (x := x) (y := y) hy (by omega)
        have b2 := ftEnd_le u st (N - 1) y
        rw [ftEnd_cong hvL, hv _ (show ftEnd u st (N - 1) y < N by omega)]
        exact ftErel_step hv hx b1 (by omega) c.2.1 h
      have b1 := ftEnd_geX (v := u) (st := st) (L := N - 1) (x := x) (y := x + w - 1) (by omega) (by omega)
      have b2 := ftEnd_geX (v := u) (st := st) (L := N - 1) (x := x) (y := x) (by omega) (by omega)
      by_cases d : ri ≤ u x - u (x - 1)
      · rw [if_pos d, if_pos d]
        have kk := key (x + w - 1) 1 (by omega)
        rw [ftEnd_cong hvL] at kk ⊢
        exact ih _ _ _ (by omega) kk
      · rw [if_neg d, if_neg d]
        by_cases g : st < -(u x - u (x - 1))
        · rw [if_pos g, if_pos g]
          have kk := key x 0 (by omega)
          rw [ftEnd_cong hvL] at kk ⊢
          exact ih _ _ _ (by omega) kk
        · rw [if_neg g, if_neg g]
          exact ih _ _ _ (by omega) h
    · rw [if_neg c, if_neg (show ¬ (x < N ∧ k.1 < 30 ∧ k.2.1 = 0) by rw [← e1, ← e2]; exact c)]
      exact h
theorem ftErel_of {v u : Nat → Int32} {N w : Nat} {ri st fl tl gl : Int32} {ro rm : Nat → Nat → Int32} (hN : 0 < N) (hw : 1 ≤ w) (hv : ∀ t, t < N → v t = u t) : ftErel N tl gl (ftRd v N w ri st fl ro) (ftRm u N w ri st fl tl gl rm) :=
  ftErel_run hN hw hv _ 1 _ _ (Nat.le_refl 1) ⟨rfl, rfl, by omega, fun t h => absurd h (Nat.not_lt_zero t)⟩
def ftEeq (q k : ftRs) : Prop := q.1 = k.1 ∧ q.2.1 = k.2.1 ∧ ∀ t, t < q.1 → (∀ c, c < 6 → q.2.2 c t = k.2.2 c t) ∧ (q.2.2 4 t = 2 → q.2.2 6 t = k.2.2 6 t ∧ q.2.2 7 t = k.2.2 7 t)
theorem ftErel_eq {N : Nat} {tl gl : Int32} {q j k : ftRs} (h1 : ftErel N tl gl q j) (h2 : ftErel N tl gl q k) : ftEeq j k := by
  refine ⟨h1.1.symm.trans h2.1, h1.2.1.symm.trans h2.2.1, fun t ht => ?_⟩
  rw [← h1.1] at ht
  obtain ⟨a1, -, a3⟩ := h1.2.2.2 t ht
  obtain ⟨b1, -, b3⟩ := h2.2.2.2 t ht
  refine ⟨fun c hc => (a1 c hc).symm.trans (b1 c hc), fun h4 => ?_⟩
  have k4 : k.2.2 4 t = 2 := by rw [← b1 4 (by omega), a1 4 (by omega)]; exact h4
  rcases a3 with a3 | a3
  · rcases b3 with b3 | b3
    · exact ⟨a3.2.2.1.symm.trans b3.2.2.1, a3.2.2.2.symm.trans b3.2.2.2⟩
    · exact absurd k4 b3.1
  · exact absurd h4 a3.1
/-! what a row says: base, peaks, noise, samples, events -/
def ftCB (w : Nat → Int32) (x : Nat) : Int32 := ftBsM w (ftCL w) (ftCN w) x
def ftTn (f : Nat → Int32) : Nat → Nat := fun i => (f i).toNatClampNeg
def ftCQ (w : Nat → Int32) (x : Nat) : Int32 := ftPkM (ftTn (ftCF w).2.1) (ftTn (ftCF w).2.2) (ftTn (ftCG w).2.1) (ftTn (ftCG w).2.2.1) (ftCF w).1 (ftCG w).1 (ftCW w) (ftCD w) x
def ftCZ (w : Nat → Int32) (x : Nat) : Int32 := ftNoise (w (44 + 3)) (w (44 + 5)) (ftCP w) x
def ftCV (w : Nat → Int32) (x : Nat) : Int32 := ftCB w x + ftCQ w x + ftCZ w x
noncomputable def ftCE (w : Nat → Int32) : ftRs := ftRm (ftCV w) (ftCL w + 60) (ftCW w) (w (44 + 6)) (w (44 + 7)) (w (44 + 8)) (w (44 + 9)) (w (44 + 10)) (fun _ _ => 0)
theorem ftCQ_run {w : Nat → Int32} (h : ftLf w) {fa fh ga gh g1 g2 : Nat → Int32} (x : Nat) : ftPkM (ftTn (ftFW w fa fh).2.1) (ftTn (ftFW w fa fh).2.2) (ftTn (ftGW w fa fh ga gh g1 g2).2.1) (ftTn (ftGW w fa fh ga gh g1 g2).2.2.1) (ftFW w fa fh).1 (ftGW w fa fh ga gh g1 g2).1 (ftCW w) (ftCD w) x = ftCQ w x := by
  have hF := ftFW_c w fa fh
  have hG := ftGW_c h fa fh ga gh g1 g2
  unfold ftCQ ftPkM
  rw [hF.1, hG.1]
  refine ftPkI_cong (ftPkI_cong rfl _ (fun i hi => ?_)) _ (fun i hi => ?_)
  · have := hF.2 i (by rw [hF.1]; exact hi)
    unfold ftTn
    exact ⟨by rw [this.1], by rw [this.2]⟩
  · have := hG.2 i (by rw [hG.1]; exact hi)
    unfold ftTn
    exact ⟨by rw [this.1], by rw [this.2.1]⟩
theorem ftCE_run {w v : Nat → Int32} {ro : Nat → Nat → Int32} (h : ftWf w) (hv : ∀ x, x < ftCL w + 60 → v x = ftCV w x) : ftEeq (ftRm v (ftCL w + 60) (ftCW w) (w (44 + 6)) (w (44 + 7)) (w (44 + 8)) (w (44 + 9)) (w (44 + 10)) ro) (ftCE w) :=
  ftErel_eq (ftErel_of (ro := fun _ _ => 0) (by omega) (ftWf_wd1 h) (fun t ht => (hv t ht).symm)) (ftErel_of (ro := fun _ _ => 0) (by omega) (ftWf_wd1 h) (fun _ _ => rfl))
end
section
set_option maxHeartbeats 4000000 in
set_option maxRecDepth 100000 in
theorem c_X11_layFlashesx (l : Launch) (D : va_G) (cI cS : ClassId) (sz : Nat) (m0 p0 p1 p3 p5 p10 p12 p13 p14 p16 p17 p19 p20 p21 p22 p25 p26 p27 p28 p29 p30 p31 p32 : Nat) (i2 i4 i6 i7 i8 i9 i11 i15 i18 i23 i24 : Int32) (w fa fh ga gh g1 g2 : Nat → Int32) (hwf : ftWf w) : Met l yX11_layFlashes wsX11_layFlashes ({ frames := 1, cells := 0, slots := 0, locals := 25 }) (ftRW D cI cS [.ref m0] [(m0, .inr (11, [.ref p0, .ref p1, .int i2, .ref p3, .int i4, .ref p5, .int i6, .int i7, .int i8, .int i9, .ref p10, .int i11, .ref p12, .ref p13, .ref p14, .int i15, .ref p16, .ref p17, .int i18, .ref p19, .ref p20, .ref p21, .ref p22, .int i23, .int i24, .ref p25, .ref p26, .ref p27, .ref p28, .ref p29, .ref p30, .ref p31, .ref p32])), (p0, .inl (cI, 1439, .inl w)), (p16, .inl (cI, 11, .inl fa)), (p17, .inl (cI, 11, .inl fh)), (p19, .inl (cI, 55, .inl ga)), (p20, .inl (cI, 55, .inl gh)), (p21, .inl (cI, 55, .inl g1)), (p22, .inl (cI, 55, .inl g2))] sz) (ftXv D [(m0, .inr (11, [.ref p0, .ref p1, .int i2, .ref p3, .int i4, .ref p5, .int i6, .int i7, .int i8, .int i9, .ref p10, .int i11, .ref p12, .ref p13, .ref p14, .int i15, .ref p16, .ref p17, .int i18, .ref p19, .ref p20, .ref p21, .ref p22, .int i23, .int i24, .ref p25, .ref p26, .ref p27, .ref p28, .ref p29, .ref p30, .ref p31, .ref p32])), (p0, .inl (cI, 1439, .inl w)), (p16, .inl (cI, 11, .inl fa)), (p17, .inl (cI, 11, .inl fh)), (p19, .inl (cI, 55, .inl ga)), (p20, .inl (cI, 55, .inl gh)), (p21, .inl (cI, 55, .inl g1)), (p22, .inl (cI, 55, .inl g2))] sz (fun (u : Nat → Nat → Int32) => (∀ t, t < (ftCG w).1 → u 19 t = (ftCG w).2.1 t ∧ u 20 t = (ftCG w).2.2.1 t ∧ u 21 t = (ftCG w).2.2.2.1 t ∧ u 22 t = (ftCG w).2.2.2.2 t)) (fun (u : Nat → Nat → Int32) => [(m0, .inr (11, [.ref p0, .ref p1, .int i2, .ref p3, .int i4, .ref p5, .int i6, .int i7, .int i8, .int i9, .ref p10, .int i11, .ref p12, .ref p13, .ref p14, .int (nI (ftCF w).1), .ref p16, .ref p17, .int (nI (ftCG w).1), .ref p19, .ref p20, .ref p21, .ref p22, .int i23, .int i24, .ref p25, .ref p26, .ref p27, .ref p28, .ref p29, .ref p30, .ref p31, .ref p32])), (p0, .inl (cI, 1439, .inl w)), (p16, .inl (cI, 11, .inl (u 16))), (p17, .inl (cI, 11, .inl (u 17))), (p19, .inl (cI, 55, .inl (u 19))), (p20, .inl (cI, 55, .inl (u 20))), (p21, .inl (cI, 55, .inl (u 21))), (p22, .inl (cI, 55, .inl (u 22)))])) 0 0 (va_A [(m0, .inr (11, [.ref p0, .ref p1, .int i2, .ref p3, .int i4, .ref p5, .int i6, .int i7, .int i8, .int i9, .ref p10, .int i11, .ref p12, .ref p13, .ref p14, .int i15, .ref p16, .ref p17, .int i18, .ref p19, .ref p20, .ref p21, .ref p22, .int i23, .int i24, .ref p25, .ref p26, .ref p27, .ref p28, .ref p29, .ref p30, .ref p31, .ref p32])), (p0, .inl (cI, 1439, .inl w)), (p16, .inl (cI, 11, .inl fa)), (p17, .inl (cI, 11, .inl fh)), (p19, .inl (cI, 55, .inl ga)), (p20, .inl (cI, 55, .inl gh)), (p21, .inl (cI, 55, .inl g1)), (p22, .inl (cI, 55, .inl g2))] sz) := by
  have hF := ftFW_ok hwf.1 fa fh
  have hG : ftGok (ftGW w fa fh ga gh g1 g2) := ftGms_ok hF (ftWf_b2 hwf).1 (ftWf_b2 hwf).2 ga gh g1 g2
  have eF : (ftFW w fa fh).1 = (ftCF w).1 := (ftFW_c w fa fh).1
  have eG := ftGW_c hwf.1 fa fh ga gh g1 g2
  refine ft_toXv (c_X11_layFlashes l D cI cS sz m0 p0 p1 p3 p5 p10 p12 p13 p14 p16 p17 p19 p20 p21 p22 p25 p26 p27 p28 p29 p30 p31 p32 i2 i4 i6 i7 i8 i9 i11 i15 i18 i23 i24 w fa fh ga gh g1 g2 (ftCN w) (ftWf_3 hwf) (ftWf_n hwf)) _ _ (fun k => match k with | 16 => (ftFW w fa fh).2.1 | 17 => (ftFW w fa fh).2.2 | 19 => (ftGW w fa fh ga gh g1 g2).2.1 | 20 => (ftGW w fa fh ga gh g1 g2).2.2.1 | 21 => (ftGW w fa fh ga gh g1 g2).2.2.2.1 | _ => (ftGW w fa fh ga gh g1 g2).2.2.2.2) (fun t ht => eG.2 t (by rw [eG.1]; exact ht)) ?_
  rw [← eF, ← eG.1]
  rfl
set_option maxHeartbeats 4000000 in
set_option maxRecDepth 100000 in
theorem c_X11_layTracex (l : Launch) (D : va_G) (cI cS : ClassId) (sz : Nat) (m0 p0 p1 p3 p5 p10 p12 p13 p14 p16 p17 p19 p20 p21 p22 p25 p26 p27 p28 p29 p30 p31 p32 : Nat) (i2 i4 i6 i7 i8 i9 i11 i15 i18 i23 i24 : Int32) (w fb fp fn fa fh ga gh g1 g2 : Nat → Int32) (hwf : ftWf w) : Met l yX11_layTrace wsX11_layTrace ({ frames := 2, cells := 0, slots := 0, locals := 48 }) (ftRW D cI cS [.ref m0] [(m0, .inr (11, [.ref p0, .ref p1, .int i2, .ref p3, .int i4, .ref p5, .int i6, .int i7, .int i8, .int i9, .ref p10, .int i11, .ref p12, .ref p13, .ref p14, .int i15, .ref p16, .ref p17, .int i18, .ref p19, .ref p20, .ref p21, .ref p22, .int i23, .int i24, .ref p25, .ref p26, .ref p27, .ref p28, .ref p29, .ref p30, .ref p31, .ref p32])), (p0, .inl (cI, 1439, .inl w)), (p12, .inl (cI, 460, .inl fb)), (p13, .inl (cI, 460, .inl fp)), (p14, .inl (cI, 460, .inl fn)), (p16, .inl (cI, 11, .inl fa)), (p17, .inl (cI, 11, .inl fh)), (p19, .inl (cI, 55, .inl ga)), (p20, .inl (cI, 55, .inl gh)), (p21, .inl (cI, 55, .inl g1)), (p22, .inl (cI, 55, .inl g2))] sz) (ftXv D [(m0, .inr (11, [.ref p0, .ref p1, .int i2, .ref p3, .int i4, .ref p5, .int i6, .int i7, .int i8, .int i9, .ref p10, .int i11, .ref p12, .ref p13, .ref p14, .int i15, .ref p16, .ref p17, .int i18, .ref p19, .ref p20, .ref p21, .ref p22, .int i23, .int i24, .ref p25, .ref p26, .ref p27, .ref p28, .ref p29, .ref p30, .ref p31, .ref p32])), (p0, .inl (cI, 1439, .inl w)), (p12, .inl (cI, 460, .inl fb)), (p13, .inl (cI, 460, .inl fp)), (p14, .inl (cI, 460, .inl fn)), (p16, .inl (cI, 11, .inl fa)), (p17, .inl (cI, 11, .inl fh)), (p19, .inl (cI, 55, .inl ga)), (p20, .inl (cI, 55, .inl gh)), (p21, .inl (cI, 55, .inl g1)), (p22, .inl (cI, 55, .inl g2))] sz (fun (u : Nat → Nat → Int32) => (∀ x, x < ftCL w + 60 → u 12 x = ftCB w x ∧ u 13 x = ftCQ w x ∧ u 14 x = ftCZ w x) ∧ (∀ t, t < (ftCG w).1 → u 19 t = (ftCG w).2.1 t ∧ u 20 t = (ftCG w).2.2.1 t ∧ u 21 t = (ftCG w).2.2.2.1 t ∧ u 22 t = (ftCG w).2.2.2.2 t)) (fun (u : Nat → Nat → Int32) => [(m0, .inr (11, [.ref p0, .ref p1, .int i2, .ref p3, .int i4, .ref p5, .int i6, .int i7, .int i8, .int i9, .ref p10, .int i11, .ref p12, .ref p13, .ref p14, .int (nI (ftCF w).1), .ref p16, .ref p17, .int (nI (ftCG w).1), .ref p19, .ref p20, .ref p21, .ref p22, .int i23, .int i24, .ref p25, .ref p26, .ref p27, .ref p28, .ref p29, .ref p30, .ref p31, .ref p32])), (p0, .inl (cI, 1439, .inl w)), (p12, .inl (cI, 460, .inl (u 12))), (p13, .inl (cI, 460, .inl (u 13))), (p14, .inl (cI, 460, .inl (u 14))), (p16, .inl (cI, 11, .inl (u 16))), (p17, .inl (cI, 11, .inl (u 17))), (p19, .inl (cI, 55, .inl (u 19))), (p20, .inl (cI, 55, .inl (u 20))), (p21, .inl (cI, 55, .inl (u 21))), (p22, .inl (cI, 55, .inl (u 22)))])) 0 0 (va_A [(m0, .inr (11, [.ref p0, .ref p1, .int i2, .ref p3, .int i4, .ref p5, .int i6, .int i7, .int i8, .int i9, .ref p10, .int i11, .ref p12, .ref p13, .ref p14, .int i15, .ref p16, .ref p17, .int i18, .ref p19, .ref p20, .ref p21, .ref p22, .int i23, .int i24, .ref p25, .ref p26, .ref p27, .ref p28, .ref p29, .ref p30, .ref p31, .ref p32])), (p0, .inl (cI, 1439, .inl w)), (p12, .inl (cI, 460, .inl fb)), (p13, .inl (cI, 460, .inl fp)), (p14, .inl (cI, 460, .inl fn)), (p16, .inl (cI, 11, .inl fa)), (p17, .inl (cI, 11, .inl fh)), (p19, .inl (cI, 55, .inl ga)), (p20, .inl (cI, 55, .inl gh)), (p21, .inl (cI, 55, .inl g1)), (p22, .inl (cI, 55, .inl g2))] sz) := by
  have hF := ftFW_ok hwf.1 fa fh
  have hG : ftGok (ftGW w fa fh ga gh g1 g2) := ftGms_ok hF (ftWf_b2 hwf).1 (ftWf_b2 hwf).2 ga gh g1 g2
  have eF : (ftFW w fa fh).1 = (ftCF w).1 := (ftFW_c w fa fh).1
  have eG := ftGW_c hwf.1 fa fh ga gh g1 g2
  refine ft_toXv (c_X11_layTrace l D cI cS sz m0 p0 p1 p3 p5 p10 p12 p13 p14 p16 p17 p19 p20 p21 p22 p25 p26 p27 p28 p29 p30 p31 p32 i2 i4 i6 i7 i8 i9 i11 i15 i18 i23 i24 w fb fp fn fa fh ga gh g1 g2 (ftCN w) (ftCL w) (ftCW w) (ftCD w) (ftCP w) (ftTn (ftFW w fa fh).2.1) (ftTn (ftFW w fa fh).2.2) (ftTn (ftGW w fa fh ga gh g1 g2).2.1) (ftTn (ftGW w fa fh ga gh g1 g2).2.2.1) (ftWf_3 hwf) (ftWf_n hwf) (ftWf_0 hwf) (ftWf_ln hwf) (ftWf_s0 hwf) (ftWf_s1 hwf) (ftWf_wd hwf) (ftWf_wd1 hwf) (ftWf_d hwf) (ftWf_s4 hwf) (ftWf_pu0 hwf) (ftWf_pu2 hwf) (ftWf_A0 hwf) (ftWf_2a hwf) hF.1 hG.1 (fun i hi => ⟨(hF.2.1 i hi).1, (hF.2.1 i hi).2.1, Nat.le_trans (hF.2.1 i hi).2.2.2.1 (by omega), Nat.le_trans (hF.2.1 i hi).2.2.2.2.2 (by omega)⟩) (fun i hi => ⟨(hG.2 i hi).1, (hG.2 i hi).2.2.1, Nat.le_trans (hG.2 i hi).2.1 (by omega), Nat.le_trans (hG.2 i hi).2.2.2.2 (by omega)⟩)) _ _ (fun k => match k with | 12 => (ftFill (ftBsM w (ftCL w) (ftCN w)) fb (ftCL w + 60)) | 13 => (ftFill (ftPkM (ftTn (ftFW w fa fh).2.1) (ftTn (ftFW w fa fh).2.2) (ftTn (ftGW w fa fh ga gh g1 g2).2.1) (ftTn (ftGW w fa fh ga gh g1 g2).2.2.1) (ftFW w fa fh).1 (ftGW w fa fh ga gh g1 g2).1 (ftCW w) (ftCD w)) fp (ftCL w + 60)) | 14 => (ftFill (ftNoise (w (44 + 3)) (w (44 + 5)) (ftCP w)) fn (ftCL w + 60)) | 16 => (ftFW w fa fh).2.1 | 17 => (ftFW w fa fh).2.2 | 19 => (ftGW w fa fh ga gh g1 g2).2.1 | 20 => (ftGW w fa fh ga gh g1 g2).2.2.1 | 21 => (ftGW w fa fh ga gh g1 g2).2.2.2.1 | _ => (ftGW w fa fh ga gh g1 g2).2.2.2.2) ⟨fun x hx => ⟨ftFill_at hx, (ftFill_at hx).trans (ftCQ_run hwf.1 x), ftFill_at hx⟩, fun t ht => eG.2 t (by rw [eG.1]; exact ht)⟩ ?_
  rw [← eF, ← eG.1]
  rfl
set_option maxHeartbeats 4000000 in
set_option maxRecDepth 100000 in
theorem c_X11_layEventsx (l : Launch) (D : va_G) (cI cS : ClassId) (sz : Nat) (m0 p0 p1 p3 p5 p10 p12 p13 p14 p16 p17 p19 p20 p21 p22 p25 p26 p27 p28 p29 p30 p31 p32 : Nat) (i2 i4 i6 i7 i8 i9 i11 i15 i18 i23 i24 : Int32) (w fb fp fn fa fh ga gh g1 g2 : Nat → Int32) (ro : Nat → Nat → Int32) (hwf : ftWf w) : Met l yX11_layEvents wsX11_layEvents ({ frames := 3, cells := 0, slots := 0, locals := 72 }) (ftRW D cI cS [.ref m0] [(m0, .inr (11, [.ref p0, .ref p1, .int i2, .ref p3, .int i4, .ref p5, .int i6, .int i7, .int i8, .int i9, .ref p10, .int i11, .ref p12, .ref p13, .ref p14, .int i15, .ref p16, .ref p17, .int i18, .ref p19, .ref p20, .ref p21, .ref p22, .int i23, .int i24, .ref p25, .ref p26, .ref p27, .ref p28, .ref p29, .ref p30, .ref p31, .ref p32])), (p0, .inl (cI, 1439, .inl w)), (p12, .inl (cI, 460, .inl fb)), (p13, .inl (cI, 460, .inl fp)), (p14, .inl (cI, 460, .inl fn)), (p16, .inl (cI, 11, .inl fa)), (p17, .inl (cI, 11, .inl fh)), (p19, .inl (cI, 55, .inl ga)), (p20, .inl (cI, 55, .inl gh)), (p21, .inl (cI, 55, .inl g1)), (p22, .inl (cI, 55, .inl g2)), (p25, .inl (cI, 30, .inl (ro 0))), (p26, .inl (cI, 30, .inl (ro 1))), (p27, .inl (cI, 30, .inl (ro 2))), (p28, .inl (cI, 30, .inl (ro 3))), (p29, .inl (cI, 30, .inl (ro 4))), (p30, .inl (cI, 30, .inl (ro 5))), (p31, .inl (cI, 30, .inl (ro 6))), (p32, .inl (cI, 30, .inl (ro 7)))] sz) (ftXv D [(m0, .inr (11, [.ref p0, .ref p1, .int i2, .ref p3, .int i4, .ref p5, .int i6, .int i7, .int i8, .int i9, .ref p10, .int i11, .ref p12, .ref p13, .ref p14, .int i15, .ref p16, .ref p17, .int i18, .ref p19, .ref p20, .ref p21, .ref p22, .int i23, .int i24, .ref p25, .ref p26, .ref p27, .ref p28, .ref p29, .ref p30, .ref p31, .ref p32])), (p0, .inl (cI, 1439, .inl w)), (p12, .inl (cI, 460, .inl fb)), (p13, .inl (cI, 460, .inl fp)), (p14, .inl (cI, 460, .inl fn)), (p16, .inl (cI, 11, .inl fa)), (p17, .inl (cI, 11, .inl fh)), (p19, .inl (cI, 55, .inl ga)), (p20, .inl (cI, 55, .inl gh)), (p21, .inl (cI, 55, .inl g1)), (p22, .inl (cI, 55, .inl g2)), (p25, .inl (cI, 30, .inl (ro 0))), (p26, .inl (cI, 30, .inl (ro 1))), (p27, .inl (cI, 30, .inl (ro 2))), (p28, .inl (cI, 30, .inl (ro 3))), (p29, .inl (cI, 30, .inl (ro 4))), (p30, .inl (cI, 30, .inl (ro 5))), (p31, .inl (cI, 30, .inl (ro 6))), (p32, .inl (cI, 30, .inl (ro 7)))] sz (fun (u : Nat → Nat → Int32) => (∀ x, x < ftCL w + 60 → u 12 x = ftCB w x ∧ u 13 x = ftCQ w x ∧ u 14 x = ftCZ w x) ∧ (∀ t, t < (ftCG w).1 → u 19 t = (ftCG w).2.1 t ∧ u 20 t = (ftCG w).2.2.1 t ∧ u 21 t = (ftCG w).2.2.2.1 t ∧ u 22 t = (ftCG w).2.2.2.2 t) ∧ (∀ t, t < (ftCE w).1 → (∀ c, c < 6 → u (25 + c) t = (ftCE w).2.2 c t) ∧ ((ftCE w).2.2 4 t = 2 → u 31 t = (ftCE w).2.2 6 t ∧ u 32 t = (ftCE w).2.2 7 t))) (fun (u : Nat → Nat → Int32) => [(m0, .inr (11, [.ref p0, .ref p1, .int i2, .ref p3, .int i4, .ref p5, .int i6, .int i7, .int i8, .int i9, .ref p10, .int i11, .ref p12, .ref p13, .ref p14, .int (nI (ftCF w).1), .ref p16, .ref p17, .int (nI (ftCG w).1), .ref p19, .ref p20, .ref p21, .ref p22, .int (nI (ftCE w).1), .int ((ftCE w).2.1), .ref p25, .ref p26, .ref p27, .ref p28, .ref p29, .ref p30, .ref p31, .ref p32])), (p0, .inl (cI, 1439, .inl w)), (p12, .inl (cI, 460, .inl (u 12))), (p13, .inl (cI, 460, .inl (u 13))), (p14, .inl (cI, 460, .inl (u 14))), (p16, .inl (cI, 11, .inl (u 16))), (p17, .inl (cI, 11, .inl (u 17))), (p19, .inl (cI, 55, .inl (u 19))), (p20, .inl (cI, 55, .inl (u 20))), (p21, .inl (cI, 55, .inl (u 21))), (p22, .inl (cI, 55, .inl (u 22))), (p25, .inl (cI, 30, .inl (u 25))), (p26, .inl (cI, 30, .inl (u 26))), (p27, .inl (cI, 30, .inl (u 27))), (p28, .inl (cI, 30, .inl (u 28))), (p29, .inl (cI, 30, .inl (u 29))), (p30, .inl (cI, 30, .inl (u 30))), (p31, .inl (cI, 30, .inl (u 31))), (p32, .inl (cI, 30, .inl (u 32)))])) 0 0 (va_A [(m0, .inr (11, [.ref p0, .ref p1, .int i2, .ref p3, .int i4, .ref p5, .int i6, .int i7, .int i8, .int i9, .ref p10, .int i11, .ref p12, .ref p13, .ref p14, .int i15, .ref p16, .ref p17, .int i18, .ref p19, .ref p20, .ref p21, .ref p22, .int i23, .int i24, .ref p25, .ref p26, .ref p27, .ref p28, .ref p29, .ref p30, .ref p31, .ref p32])), (p0, .inl (cI, 1439, .inl w)), (p12, .inl (cI, 460, .inl fb)), (p13, .inl (cI, 460, .inl fp)), (p14, .inl (cI, 460, .inl fn)), (p16, .inl (cI, 11, .inl fa)), (p17, .inl (cI, 11, .inl fh)), (p19, .inl (cI, 55, .inl ga)), (p20, .inl (cI, 55, .inl gh)), (p21, .inl (cI, 55, .inl g1)), (p22, .inl (cI, 55, .inl g2)), (p25, .inl (cI, 30, .inl (ro 0))), (p26, .inl (cI, 30, .inl (ro 1))), (p27, .inl (cI, 30, .inl (ro 2))), (p28, .inl (cI, 30, .inl (ro 3))), (p29, .inl (cI, 30, .inl (ro 4))), (p30, .inl (cI, 30, .inl (ro 5))), (p31, .inl (cI, 30, .inl (ro 6))), (p32, .inl (cI, 30, .inl (ro 7)))] sz) := by
  have hF := ftFW_ok hwf.1 fa fh
  have hG : ftGok (ftGW w fa fh ga gh g1 g2) := ftGms_ok hF (ftWf_b2 hwf).1 (ftWf_b2 hwf).2 ga gh g1 g2
  have eF : (ftFW w fa fh).1 = (ftCF w).1 := (ftFW_c w fa fh).1
  have eG := ftGW_c hwf.1 fa fh ga gh g1 g2
  have eE : ftEeq (ftRm (ftV (ftFill (ftBsM w (ftCL w) (ftCN w)) fb (ftCL w + 60)) (ftFill (ftPkM (ftTn (ftFW w fa fh).2.1) (ftTn (ftFW w fa fh).2.2) (ftTn (ftGW w fa fh ga gh g1 g2).2.1) (ftTn (ftGW w fa fh ga gh g1 g2).2.2.1) (ftFW w fa fh).1 (ftGW w fa fh ga gh g1 g2).1 (ftCW w) (ftCD w)) fp (ftCL w + 60)) (ftFill (ftNoise (w (44 + 3)) (w (44 + 5)) (ftCP w)) fn (ftCL w + 60))) (ftCL w + 60) (ftCW w) (w (44 + 6)) (w (44 + 7)) (w (44 + 8)) (w (44 + 9)) (w (44 + 10)) ro) (ftCE w) := ftCE_run hwf (fun x hx => by
    show ftFill _ _ _ x + ftFill _ _ _ x + ftFill _ _ _ x = ftCB w x + ftCQ w x + ftCZ w x
    rw [ftFill_at hx, ftFill_at hx, ftFill_at hx, ftCQ_run hwf.1 x]
    rfl)
  refine ft_toXv (c_X11_layEvents l D cI cS sz m0 p0 p1 p3 p5 p10 p12 p13 p14 p16 p17 p19 p20 p21 p22 p25 p26 p27 p28 p29 p30 p31 p32 i2 i4 i6 i7 i8 i9 i11 i15 i18 i23 i24 w fb fp fn fa fh ga gh g1 g2 ro (ftCN w) (ftCL w) (ftCW w) (ftCD w) (ftCP w) (ftTn (ftFW w fa fh).2.1) (ftTn (ftFW w fa fh).2.2) (ftTn (ftGW w fa fh ga gh g1 g2).2.1) (ftTn (ftGW w fa fh ga gh g1 g2).2.2.1) (ftFill (ftBsM w (ftCL w) (ftCN w)) fb (ftCL w + 60)) (ftFill (ftPkM (ftTn (ftFW w fa fh).2.1) (ftTn (ftFW w fa fh).2.2) (ftTn (ftGW w fa fh ga gh g1 g2).2.1) (ftTn (ftGW w fa fh ga gh g1 g2).2.2.1) (ftFW w fa fh).1 (ftGW w fa fh ga gh g1 g2).1 (ftCW w) (ftCD w)) fp (ftCL w + 60)) (ftFill (ftNoise (w (44 + 3)) (w (44 + 5)) (ftCP w)) fn (ftCL w + 60)) (ftWf_3 hwf) (ftWf_n hwf) (ftWf_0 hwf) (ftWf_ln hwf) (ftWf_s0 hwf) (ftWf_s1 hwf) (ftWf_wd hwf) (ftWf_wd1 hwf) (ftWf_d hwf) (ftWf_s4 hwf) (ftWf_pu0 hwf) (ftWf_pu2 hwf) (ftWf_A0 hwf) (ftWf_2a hwf) hF.1 hG.1 (fun i hi => ⟨(hF.2.1 i hi).1, (hF.2.1 i hi).2.1, Nat.le_trans (hF.2.1 i hi).2.2.2.1 (by omega), Nat.le_trans (hF.2.1 i hi).2.2.2.2.2 (by omega)⟩) (fun i hi => ⟨(hG.2 i hi).1, (hG.2 i hi).2.2.1, Nat.le_trans (hG.2 i hi).2.1 (by omega), Nat.le_trans (hG.2 i hi).2.2.2.2 (by omega)⟩) rfl rfl rfl) _ _ (fun k => match k with | 12 => (ftFill (ftBsM w (ftCL w) (ftCN w)) fb (ftCL w + 60)) | 13 => (ftFill (ftPkM (ftTn (ftFW w fa fh).2.1) (ftTn (ftFW w fa fh).2.2) (ftTn (ftGW w fa fh ga gh g1 g2).2.1) (ftTn (ftGW w fa fh ga gh g1 g2).2.2.1) (ftFW w fa fh).1 (ftGW w fa fh ga gh g1 g2).1 (ftCW w) (ftCD w)) fp (ftCL w + 60)) | 14 => (ftFill (ftNoise (w (44 + 3)) (w (44 + 5)) (ftCP w)) fn (ftCL w + 60)) | 16 => (ftFW w fa fh).2.1 | 17 => (ftFW w fa fh).2.2 | 19 => (ftGW w fa fh ga gh g1 g2).2.1 | 20 => (ftGW w fa fh ga gh g1 g2).2.2.1 | 21 => (ftGW w fa fh ga gh g1 g2).2.2.2.1 | 22 => (ftGW w fa fh ga gh g1 g2).2.2.2.2 | 25 => ((ftRm (ftV (ftFill (ftBsM w (ftCL w) (ftCN w)) fb (ftCL w + 60)) (ftFill (ftPkM (ftTn (ftFW w fa fh).2.1) (ftTn (ftFW w fa fh).2.2) (ftTn (ftGW w fa fh ga gh g1 g2).2.1) (ftTn (ftGW w fa fh ga gh g1 g2).2.2.1) (ftFW w fa fh).1 (ftGW w fa fh ga gh g1 g2).1 (ftCW w) (ftCD w)) fp (ftCL w + 60)) (ftFill (ftNoise (w (44 + 3)) (w (44 + 5)) (ftCP w)) fn (ftCL w + 60))) (ftCL w + 60) (ftCW w) (w (44 + 6)) (w (44 + 7)) (w (44 + 8)) (w (44 + 9)) (w (44 + 10)) ro).2.2 0) | 26 => ((ftRm (ftV (ftFill (ftBsM w (ftCL w) (ftCN w)) fb (ftCL w + 60)) (ftFill (ftPkM (ftTn (ftFW w fa fh).2.1) (ftTn (ftFW w fa fh).2.2) (ftTn (ftGW w fa fh ga gh g1 g2).2.1) (ftTn (ftGW w fa fh ga gh g1 g2).2.2.1) (ftFW w fa fh).1 (ftGW w fa fh ga gh g1 g2).1 (ftCW w) (ftCD w)) fp (ftCL w + 60)) (ftFill (ftNoise (w (44 + 3)) (w (44 + 5)) (ftCP w)) fn (ftCL w + 60))) (ftCL w + 60) (ftCW w) (w (44 + 6)) (w (44 + 7)) (w (44 + 8)) (w (44 + 9)) (w (44 + 10)) ro).2.2 1) | 27 => ((ftRm (ftV (ftFill (ftBsM w (ftCL w) (ftCN w)) fb (ftCL w + 60)) (ftFill (ftPkM (ftTn (ftFW w fa fh).2.1) (ftTn (ftFW w fa fh).2.2) (ftTn (ftGW w fa fh ga gh g1 g2).2.1) (ftTn (ftGW w fa fh ga gh g1 g2).2.2.1) (ftFW w fa fh).1 (ftGW w fa fh ga gh g1 g2).1 (ftCW w) (ftCD w)) fp (ftCL w + 60)) (ftFill (ftNoise (w (44 + 3)) (w (44 + 5)) (ftCP w)) fn (ftCL w + 60))) (ftCL w + 60) (ftCW w) (w (44 + 6)) (w (44 + 7)) (w (44 + 8)) (w (44 + 9)) (w (44 + 10)) ro).2.2 2) | 28 => ((ftRm (ftV (ftFill (ftBsM w (ftCL w) (ftCN w)) fb (ftCL w + 60)) (ftFill (ftPkM (ftTn (ftFW w fa fh).2.1) (ftTn (ftFW w fa fh).2.2) (ftTn (ftGW w fa fh ga gh g1 g2).2.1) (ftTn (ftGW w fa fh ga gh g1 g2).2.2.1) (ftFW w fa fh).1 (ftGW w fa fh ga gh g1 g2).1 (ftCW w) (ftCD w)) fp (ftCL w + 60)) (ftFill (ftNoise (w (44 + 3)) (w (44 + 5)) (ftCP w)) fn (ftCL w + 60))) (ftCL w + 60) (ftCW w) (w (44 + 6)) (w (44 + 7)) (w (44 + 8)) (w (44 + 9)) (w (44 + 10)) ro).2.2 3) | 29 => ((ftRm (ftV (ftFill (ftBsM w (ftCL w) (ftCN w)) fb (ftCL w + 60)) (ftFill (ftPkM (ftTn (ftFW w fa fh).2.1) (ftTn (ftFW w fa fh).2.2) (ftTn (ftGW w fa fh ga gh g1 g2).2.1) (ftTn (ftGW w fa fh ga gh g1 g2).2.2.1) (ftFW w fa fh).1 (ftGW w fa fh ga gh g1 g2).1 (ftCW w) (ftCD w)) fp (ftCL w + 60)) (ftFill (ftNoise (w (44 + 3)) (w (44 + 5)) (ftCP w)) fn (ftCL w + 60))) (ftCL w + 60) (ftCW w) (w (44 + 6)) (w (44 + 7)) (w (44 + 8)) (w (44 + 9)) (w (44 + 10)) ro).2.2 4) | 30 => ((ftRm (ftV (ftFill (ftBsM w (ftCL w) (ftCN w)) fb (ftCL w + 60)) (ftFill (ftPkM (ftTn (ftFW w fa fh).2.1) (ftTn (ftFW w fa fh).2.2) (ftTn (ftGW w fa fh ga gh g1 g2).2.1) (ftTn (ftGW w fa fh ga gh g1 g2).2.2.1) (ftFW w fa fh).1 (ftGW w fa fh ga gh g1 g2).1 (ftCW w) (ftCD w)) fp (ftCL w + 60)) (ftFill (ftNoise (w (44 + 3)) (w (44 + 5)) (ftCP w)) fn (ftCL w + 60))) (ftCL w + 60) (ftCW w) (w (44 + 6)) (w (44 + 7)) (w (44 + 8)) (w (44 + 9)) (w (44 + 10)) ro).2.2 5) | 31 => ((ftRm (ftV (ftFill (ftBsM w (ftCL w) (ftCN w)) fb (ftCL w + 60)) (ftFill (ftPkM (ftTn (ftFW w fa fh).2.1) (ftTn (ftFW w fa fh).2.2) (ftTn (ftGW w fa fh ga gh g1 g2).2.1) (ftTn (ftGW w fa fh ga gh g1 g2).2.2.1) (ftFW w fa fh).1 (ftGW w fa fh ga gh g1 g2).1 (ftCW w) (ftCD w)) fp (ftCL w + 60)) (ftFill (ftNoise (w (44 + 3)) (w (44 + 5)) (ftCP w)) fn (ftCL w + 60))) (ftCL w + 60) (ftCW w) (w (44 + 6)) (w (44 + 7)) (w (44 + 8)) (w (44 + 9)) (w (44 + 10)) ro).2.2 6) | _ => ((ftRm (ftV (ftFill (ftBsM w (ftCL w) (ftCN w)) fb (ftCL w + 60)) (ftFill (ftPkM (ftTn (ftFW w fa fh).2.1) (ftTn (ftFW w fa fh).2.2) (ftTn (ftGW w fa fh ga gh g1 g2).2.1) (ftTn (ftGW w fa fh ga gh g1 g2).2.2.1) (ftFW w fa fh).1 (ftGW w fa fh ga gh g1 g2).1 (ftCW w) (ftCD w)) fp (ftCL w + 60)) (ftFill (ftNoise (w (44 + 3)) (w (44 + 5)) (ftCP w)) fn (ftCL w + 60))) (ftCL w + 60) (ftCW w) (w (44 + 6)) (w (44 + 7)) (w (44 + 8)) (w (44 + 9)) (w (44 + 10)) ro).2.2 7)) ⟨fun x hx => ⟨ftFill_at hx, (ftFill_at hx).trans (ftCQ_run hwf.1 x), ftFill_at hx⟩, fun t ht => eG.2 t (by rw [eG.1]; exact ht), fun t ht => ?_⟩ ?_
  · have q := eE.2.2 t (by rw [eE.1]; exact ht)
    refine ⟨fun c hc => ?_, fun h4 => q.2 ((q.1 4 (by omega)).trans h4)⟩
    match c, hc with
    | 0, _ => exact q.1 0 (by omega)
    | 1, _ => exact q.1 1 (by omega)
    | 2, _ => exact q.1 2 (by omega)
    | 3, _ => exact q.1 3 (by omega)
    | 4, _ => exact q.1 4 (by omega)
    | 5, _ => exact q.1 5 (by omega)
  · rw [← eF, ← eG.1, ← eE.1, ← eE.2.1]
    rfl
end
section
/-! the reference: count, lineLoss, sample, echo -/
theorem ft_btw {x : Int32} {K : Nat} (hK : K < 2 ^ 30) (h0 : 0 ≤ x) (h : x ≤ nI K - 1) : x.toNatClampNeg < K ∧ x = nI x.toNatClampNeg := by
  obtain ⟨e, hl⟩ := ftI_nat h0
  refine ⟨?_, e⟩
  rw [e] at h
  rcases Nat.eq_zero_or_pos K with z | z
  · subst z
    have h1 : (nI x.toNatClampNeg).toInt ≤ (nI 0 - 1 : Int32).toInt := Int32.le_iff_toInt_le.mp h
    rw [nI_toInt hl] at h1
    have h2 : (nI 0 - 1 : Int32).toInt = -1 := by decide
    omega
  · rw [show nI K - 1 = nI (K - 1) from ft_subN (b := 1) z] at h
    have := ft_leN hl (by omega) h
    omega
theorem ft_btw2 {x : Int32} {K : Nat} (hK : K < 2 ^ 31) (h0 : 0 ≤ x) (h : x ≤ nI K) : x.toNatClampNeg ≤ K ∧ x = nI x.toNatClampNeg := ⟨ftI_le h0 h hK, (ftI_nat h0).1⟩
theorem ftCG_le {w : Nat → Int32} (h : ftWf w) : (ftCG w).1 ≤ 55 := ftGms_le _ _ _ _ _ _ (ftFW_ok h.1 _ _).1
def ftCntK (w : Nat → Int32) (hm tn k : Nat) : Int32 := if k ≤ 10 then w (44 + k) else if k < 15 then w (k - 11) else if k = 15 then nI (ftCL w + 60) else if k = 16 then w 55 else if k = 17 then nI hm else nI tn
noncomputable def ftCntA (w : Nat → Int32) (hm tn : Nat) (x : Int32) : Int32 := ftIte (0 ≤ x ∧ x ≤ 18) (ftCntK w hm tn x.toNatClampNeg) (-1000001)
noncomputable def ftLlA (w : Nat → Int32) (x : Int32) : Int32 := ftIte (0 ≤ x ∧ x ≤ w 0) (ftLj w x (ftSum (fun y => ftFw w (nI y) (ftCN w)) x.toNatClampNeg) (ftCN w)) (-1000001)
def ftSmK (w : Nat → Int32) (k : Nat) (x : Int32) : Int32 := if x = 0 then ftCV w k else if x = 1 then ftCB w k else if x = 2 then ftCQ w k else ftCZ w k
noncomputable def ftSmA (w : Nat → Int32) (a b : Int32) : Int32 := ftIte ((0 ≤ a ∧ a ≤ nI (ftCL w + 60 - 1)) ∧ 0 ≤ b ∧ b ≤ 3) (ftSmK w a.toNatClampNeg b) (-1000001)
def ftEcK (w : Nat → Int32) (k : Nat) (x : Int32) : Int32 := if x = 0 then (ftCG w).2.1 k else if x = 1 then (ftCG w).2.2.1 k else if x = 2 then (ftCG w).2.2.2.1 k else (ftCG w).2.2.2.2 k
noncomputable def ftEcA (w : Nat → Int32) (a b : Int32) : Int32 := ftIte (¬ a < 0 ∧ 0 ≤ b ∧ b ≤ 3) (ftIte (a < nI (ftCG w).1) (ftEcK w a.toNatClampNeg b) (-1000004)) (-1000001)
theorem ftSum_s (f : Nat → Int32) (k : Nat) : ftSum f k + f k = ftSum f (k + 1) := rfl
set_option maxHeartbeats 4000000 in
set_option maxRecDepth 100000 in
theorem c_X11_count (l : Launch) (D : va_G) (cI cS : ClassId) (m0 p0 p1 p3 p5 p10 p12 p13 p14 p16 p17 p19 p20 p21 p22 p25 p26 p27 p28 p29 p30 p31 p32 : Nat) (i6 i7 i8 i9 i11 i15 i18 i23 i24 : Int32) (w : Nat → Int32) (hm tn : Nat) (xq0 : Int32) (hwf : ftWf w) : Met l yX11_count wsX11_count ({ frames := 1, cells := 0, slots := 0, locals := 25 }) (ftRO D cI cS [.ref m0, .int xq0] [(m0, .inr (11, [.ref p0, .ref p1, .int (nI hm), .ref p3, .int (nI tn), .ref p5, .int i6, .int i7, .int i8, .int i9, .ref p10, .int i11, .ref p12, .ref p13, .ref p14, .int i15, .ref p16, .ref p17, .int i18, .ref p19, .ref p20, .ref p21, .ref p22, .int i23, .int i24, .ref p25, .ref p26, .ref p27, .ref p28, .ref p29, .ref p30, .ref p31, .ref p32])), (p0, .inl (cI, 1439, .inl w))]) (vp_Si (fun o9 => o9 = ftCntA w hm tn xq0)) 0 0 (fun _ => False) := by
  refine Met.ofW (cc := cX11_count) (maxL := 2) (ret := (some .int)) (by decide) rfl ?_
  intro p e s m args below meth c s₁ B hml hv
  obtain ⟨rfl, hP, hKK⟩ := hv
  have hK := hKK.1
  have hx := B.exec
  have hb := B.bytes
  have hr := B.returns
  have hts := atoms_spec (ws := wsX11_count) B.pre
  have hown : s.vm.findClass RX11 = some m.cls := findClass_of_methodNamed B.named
  have hlocks := B.notSynchronized
  have hP : va_P D vwCl [(m0, .inr (11, [.ref p0, .ref p1, .int (nI hm), .ref p3, .int (nI tn), .ref p5, .int i6, .int i7, .int i8, .int i9, .ref p10, .int i11, .ref p12, .ref p13, .ref p14, .int i15, .ref p16, .ref p17, .int i18, .ref p19, .ref p20, .ref p21, .ref p22, .int i23, .int i24, .ref p25, .ref p26, .ref p27, .ref p28, .ref p29, .ref p30, .ref p31, .ref p32])), (p0, .inl (cI, 1439, .inl w))] s.heap := hP
  have hl := lv_entry ([.ref m0, .int xq0]) (n := 2) (Nat.le_of_ble_eq_true rfl)
  rw [lg_entry_eq]
  generalize (lg_sl ([.ref m0, .int xq0]) ++ List.replicate (2 - (lg_sl ([.ref m0, .int xq0])).length) Slot.unset).toArray = ls at hl ⊢
  have hl : lv_has ls 2 [(0, .ref m0), (1, .int xq0)] := hl
  have hw3 := ftWf_3 hwf
  have hn := ftWf_n hwf
  have hw0 := ftWf_0 hwf
  have hln := ftWf_ln hwf
  have hlg := ftWf_lg hwf
  refine lv_iload_n hx hb dX11_count_0 rfl (lv_at hl 1 rfl) ?_
  refine lv_i2l (v := xq0.toInt64) hx hb dX11_count_1 rfl ?_
  refine lv_lconst (v := 0) hx hb dX11_count_2 (by decide) ?_
  refine lv_ldc2 (v := 18) hx hb hown (hts (.constantLong RX11 197 18) (by decide +kernel)) dX11_count_3 ?_
  refine ft_csi (r := ftB (0 ≤ xq0.toInt64 ∧ xq0.toInt64 ≤ 18)) (va_runS (As := [.long xq0.toInt64, .long 0, .long 18]) (rest := []) ⟨hx, hb, hml, hown, hts⟩ (c_X11_in l D cI cS xq0.toInt64 0 18) (va_cwS 3 hts gX11_count_X11_in rfl rfl rfl (by decide +kernel) ⟨Nat.le_of_ble_eq_true rfl, Nat.le_of_ble_eq_true rfl⟩) (ft_preRO hP hKK [] rfl) rfl rfl hl.1 rfl (lv_room (Nat.le_of_ble_eq_true rfl)) dX11_count_6 ⟨Nat.le_of_ble_eq_true rfl, Nat.le_of_ble_eq_true rfl⟩) ?_
  refine ft_top (y := ftB (0 ≤ xq0 ∧ xq0 ≤ 18)) (ft_in64 (by decide) (by decide)) ?_
  refine lv_if_ne (tgt := 15) hx hb dX11_count_9 (by decide) (fun c9 => ?_) (fun c9 => ?_)
  · replace c9 := ftB_ne c9
    obtain ⟨hk9, hxk⟩ := ft_btw2 (K := 18) (by omega) c9.1 c9.2
    generalize hk8 : xq0.toNatClampNeg = k9 at hk9 hxk
    rw [hxk] at hl
    refine lv_iload_n hx hb dX11_count_15 rfl (lv_at hl 1 rfl) ?_
    refine lv_bipush (v := 10) hx hb dX11_count_16 (by decide) ?_
    refine lv_icmp_gt (tgt := 27) hx hb dX11_count_18 (by decide) (fun c18 => ?_) (fun c18 => ?_)
    · have c18n : 10 < k9 := ft_ltN (by omega) (by omega) c18
      refine lv_iload_n hx hb dX11_count_27 rfl (lv_at hl 1 rfl) ?_
      refine lv_bipush (v := 15) hx hb dX11_count_28 (by decide) ?_
      refine lv_icmp_ge (tgt := 45) hx hb dX11_count_30 (by decide) (fun c30 => ?_) (fun c30 => ?_)
      · have c30n : 15 ≤ k9 := ft_leN (by omega) (by omega) c30
        refine lv_iload_n hx hb dX11_count_45 rfl (lv_at hl 1 rfl) ?_
        refine lv_bipush (v := 15) hx hb dX11_count_46 (by decide) ?_
        refine lv_icmp_ne (tgt := 58) hx hb dX11_count_48 (by decide) (fun c48 => ?_) (fun c48 => ?_)
        · have c48n : k9 ≠ 15 := ft_neN (by omega) (by omega) c48
          refine lv_iload_n hx hb dX11_count_58 rfl (lv_at hl 1 rfl) ?_
          refine lv_bipush (v := 16) hx hb dX11_count_59 (by decide) ?_
          refine lv_icmp_ne (tgt := 74) hx hb dX11_count_61 (by decide) (fun c61 => ?_) (fun c61 => ?_)
          · have c61n : k9 ≠ 16 := ft_neN (by omega) (by omega) c61
            refine lv_iload_n hx hb dX11_count_74 rfl (lv_at hl 1 rfl) ?_
            refine lv_bipush (v := 17) hx hb dX11_count_75 (by decide) ?_
            refine lv_icmp_ne (tgt := 87) hx hb dX11_count_77 (by decide) (fun c77 => ?_) (fun c77 => ?_)
            · have c77n : k9 ≠ 17 := ft_neN (by omega) (by omega) c77
              refine lv_aload_n hx hb dX11_count_87 rfl (lv_at hl 0 rfl) ?_
              refine va_get (D := D) (ci := 11) (v := .int (nI tn)) (C := RX11) (T := TX11) (N := 33) hx hb hts (by decide +kernel) hown hK hP 0 rfl rfl 4 (by decide) (hts (.fieldLink RX11 96 "FiberTraceModel" "length" "I") (by decide +kernel)) (fun _ h9 => h9) rfl dX11_count_88 ?_
              exact W.iret (v := nI tn) hx hb hr (fun t ht hW => ⟨nI tn, rfl, (by show (nI tn : Int32) = ftCntA w hm tn xq0; rw [ftCntA, ftIte_t c9, hk8, ftCntK, if_neg (show ¬ k9 ≤ 10 by omega)]; first | (rw [if_pos c30n]; done) | (rw [if_neg (show ¬ k9 < 15 by omega), if_pos c48n]; done) | (rw [if_neg (show ¬ k9 < 15 by omega), if_neg c48n, if_pos c61n]; done) | (rw [if_neg (show ¬ k9 < 15 by omega), if_neg c48n, if_neg c61n, if_pos c77n]; done) | (rw [if_neg (show ¬ k9 < 15 by omega), if_neg c48n, if_neg c61n, if_neg c77n]; done)), ht⟩) (fun _ h9 => absurd h9 List.not_mem_nil) dX11_count_91
            · have c77n : k9 = 17 := ft_eqN (by omega) (by omega) c77
              refine lv_aload_n hx hb dX11_count_80 rfl (lv_at hl 0 rfl) ?_
              refine va_get (D := D) (ci := 11) (v := .int (nI hm)) (C := RX11) (T := TX11) (N := 33) hx hb hts (by decide +kernel) hown hK hP 0 rfl rfl 2 (by decide) (hts (.fieldLink RX11 82 "FiberTraceModel" "stateMany" "I") (by decide +kernel)) (fun _ h9 => h9) rfl dX11_count_81 ?_
              refine lv_goto (tgt := 91) hx hb dX11_count_84 (by decide) ?_
              exact W.iret (v := nI hm) hx hb hr (fun t ht hW => ⟨nI hm, rfl, (by show (nI hm : Int32) = ftCntA w hm tn xq0; rw [ftCntA, ftIte_t c9, hk8, ftCntK, if_neg (show ¬ k9 ≤ 10 by omega)]; first | (rw [if_pos c30n]; done) | (rw [if_neg (show ¬ k9 < 15 by omega), if_pos c48n]; done) | (rw [if_neg (show ¬ k9 < 15 by omega), if_neg c48n, if_pos c61n]; done) | (rw [if_neg (show ¬ k9 < 15 by omega), if_neg c48n, if_neg c61n, if_pos c77n]; done) | (rw [if_neg (show ¬ k9 < 15 by omega), if_neg c48n, if_neg c61n, if_neg c77n]; done)), ht⟩) (fun _ h9 => absurd h9 List.not_mem_nil) dX11_count_91
          · have c61n : k9 = 16 := ft_eqN (by omega) (by omega) c61
            refine lv_aload_n hx hb dX11_count_64 rfl (lv_at hl 0 rfl) ?_
            refine va_get (D := D) (ci := 11) (v := .ref p0) (C := RX11) (T := TX11) (N := 33) hx hb hts (by decide +kernel) hown hK hP 0 rfl rfl 0 (by decide) (hts (.fieldLink RX11 7 "FiberTraceModel" "now" "[I") (by decide +kernel)) (fun _ h9 => h9) rfl dX11_count_65 ?_
            refine lv_bipush (v := 55) hx hb dX11_count_68 (by decide) ?_
            refine va_iald hx hb hK hP 1 0 rfl rfl (vp_in_nI (n := 55) (by omega) (by omega)) dX11_count_70 ?_
            refine ft_top (y := w 55) rfl ?_
            refine lv_goto (tgt := 91) hx hb dX11_count_71 (by decide) ?_
            exact W.iret (v := w 55) hx hb hr (fun t ht hW => ⟨w 55, rfl, (by show (w 55 : Int32) = ftCntA w hm tn xq0; rw [ftCntA, ftIte_t c9, hk8, ftCntK, if_neg (show ¬ k9 ≤ 10 by omega)]; first | (rw [if_pos c30n]; done) | (rw [if_neg (show ¬ k9 < 15 by omega), if_pos c48n]; done) | (rw [if_neg (show ¬ k9 < 15 by omega), if_neg c48n, if_pos c61n]; done) | (rw [if_neg (show ¬ k9 < 15 by omega), if_neg c48n, if_neg c61n, if_pos c77n]; done) | (rw [if_neg (show ¬ k9 < 15 by omega), if_neg c48n, if_neg c61n, if_neg c77n]; done)), ht⟩) (fun _ h9 => absurd h9 List.not_mem_nil) dX11_count_91
        · have c48n : k9 = 15 := ft_eqN (by omega) (by omega) c48
          refine lv_aload_n hx hb dX11_count_51 rfl (lv_at hl 0 rfl) ?_
          refine ft_csi (r := nI ((ftCL w) + 60)) (va_runV (C := RX11) (As := []) (rest := []) ⟨hx, hb, hml, hown, hts⟩ (c_X11_samples l D cI cS m0 p0 p1 p3 p5 p10 p12 p13 p14 p16 p17 p19 p20 p21 p22 p25 p26 p27 p28 p29 p30 p31 p32 (nI hm) (nI tn) i6 i7 i8 i9 i11 i15 i18 i23 i24 w (ftCL w) hw0) (cwV 0 hts gX11_count_X11_samples rfl rfl rfl (by decide +kernel) ⟨Nat.le_of_ble_eq_true rfl, Nat.le_of_ble_eq_true rfl⟩) (ft_preROV (ci := 11) (q0 := 0) hP hKK [0, 1] rfl rfl rfl) rfl rfl hl.1 rfl (lv_room (Nat.le_of_ble_eq_true rfl)) dX11_count_52 ⟨Nat.le_of_ble_eq_true rfl, Nat.le_of_ble_eq_true rfl⟩) ?_
          refine lv_goto (tgt := 91) hx hb dX11_count_55 (by decide) ?_
          exact W.iret (v := nI ((ftCL w) + 60)) hx hb hr (fun t ht hW => ⟨nI ((ftCL w) + 60), rfl, (by show (nI ((ftCL w) + 60) : Int32) = ftCntA w hm tn xq0; rw [ftCntA, ftIte_t c9, hk8, ftCntK, if_neg (show ¬ k9 ≤ 10 by omega)]; first | (rw [if_pos c30n]; done) | (rw [if_neg (show ¬ k9 < 15 by omega), if_pos c48n]; done) | (rw [if_neg (show ¬ k9 < 15 by omega), if_neg c48n, if_pos c61n]; done) | (rw [if_neg (show ¬ k9 < 15 by omega), if_neg c48n, if_neg c61n, if_pos c77n]; done) | (rw [if_neg (show ¬ k9 < 15 by omega), if_neg c48n, if_neg c61n, if_neg c77n]; done)), ht⟩) (fun _ h9 => absurd h9 List.not_mem_nil) dX11_count_91
      · have c30n : k9 < 15 := ft_nleN (by omega) (by omega) c30
        refine lv_aload_n hx hb dX11_count_33 rfl (lv_at hl 0 rfl) ?_
        refine va_get (D := D) (ci := 11) (v := .ref p0) (C := RX11) (T := TX11) (N := 33) hx hb hts (by decide +kernel) hown hK hP 0 rfl rfl 0 (by decide) (hts (.fieldLink RX11 7 "FiberTraceModel" "now" "[I") (by decide +kernel)) (fun _ h9 => h9) rfl dX11_count_34 ?_
        refine lv_iload_n hx hb dX11_count_37 rfl (lv_at hl 1 rfl) ?_
        refine lv_bipush (v := 11) hx hb dX11_count_38 (by decide) ?_
        refine lv_isub hx hb dX11_count_40 ?_
        refine ft_top (y := nI (k9 - 11)) (ft_subN (a := k9) (b := 11) (by omega)) ?_
        refine va_iald hx hb hK hP 1 0 rfl rfl (vp_in_nI (by omega) (by omega)) dX11_count_41 ?_
        refine ft_top (y := w (k9 - 11)) (ft_clampN (by omega)) ?_
        refine lv_goto (tgt := 91) hx hb dX11_count_42 (by decide) ?_
        exact W.iret (v := w (k9 - 11)) hx hb hr (fun t ht hW => ⟨w (k9 - 11), rfl, (by show (w (k9 - 11) : Int32) = ftCntA w hm tn xq0; rw [ftCntA, ftIte_t c9, hk8, ftCntK, if_neg (show ¬ k9 ≤ 10 by omega)]; first | (rw [if_pos c30n]; done) | (rw [if_neg (show ¬ k9 < 15 by omega), if_pos c48n]; done) | (rw [if_neg (show ¬ k9 < 15 by omega), if_neg c48n, if_pos c61n]; done) | (rw [if_neg (show ¬ k9 < 15 by omega), if_neg c48n, if_neg c61n, if_pos c77n]; done) | (rw [if_neg (show ¬ k9 < 15 by omega), if_neg c48n, if_neg c61n, if_neg c77n]; done)), ht⟩) (fun _ h9 => absurd h9 List.not_mem_nil) dX11_count_91
    · have c18n : k9 ≤ 10 := ft_nltN (by omega) (by omega) c18
      refine lv_aload_n hx hb dX11_count_21 rfl (lv_at hl 0 rfl) ?_
      refine lv_iload_n hx hb dX11_count_22 rfl (lv_at hl 1 rfl) ?_
      refine ft_csi (r := w (44 + k9)) (va_runV (C := RX11) (As := [.int (nI k9)]) (rest := []) ⟨hx, hb, hml, hown, hts⟩ (c_X11_setting l D cI cS m0 p0 p1 p3 p5 p10 p12 p13 p14 p16 p17 p19 p20 p21 p22 p25 p26 p27 p28 p29 p30 p31 p32 (nI hm) (nI tn) i6 i7 i8 i9 i11 i15 i18 i23 i24 w k9 (by first | assumption | omega)) (cwV 1 hts gX11_count_X11_setting rfl rfl rfl (by decide +kernel) ⟨Nat.le_of_ble_eq_true rfl, Nat.le_of_ble_eq_true rfl⟩) (ft_preROV (ci := 11) (q0 := 0) hP hKK [0, 1] rfl rfl rfl) rfl rfl hl.1 rfl (lv_room (Nat.le_of_ble_eq_true rfl)) dX11_count_23 ⟨Nat.le_of_ble_eq_true rfl, Nat.le_of_ble_eq_true rfl⟩) ?_
      exact W.iret (v := w (44 + k9)) hx hb hr (fun t ht hW => ⟨w (44 + k9), rfl, (by show (w (44 + k9) : Int32) = ftCntA w hm tn xq0; rw [ftCntA, ftIte_t c9, hk8, ftCntK, if_pos c18n]), ht⟩) (fun _ h9 => absurd h9 List.not_mem_nil) dX11_count_26
  · replace c9 := ftB_eq c9
    refine lv_ldc (v := (-1000001)) hx hb hown (hts (.constant RX11 95 (-1000001)) (by decide +kernel)) dX11_count_12 ?_
    exact W.iret (v := (-1000001)) hx hb hr (fun t ht hW => ⟨(-1000001), rfl, (by show ((-1000001) : Int32) = ftCntA w hm tn xq0; exact (ftIte_f c9).symm), ht⟩) (fun _ h9 => absurd h9 List.not_mem_nil) dX11_count_14
set_option maxHeartbeats 4000000 in
set_option maxRecDepth 100000 in
theorem c_X11_lineLoss (l : Launch) (D : va_G) (cI cS : ClassId) (m0 p0 p1 p3 p5 p10 p12 p13 p14 p16 p17 p19 p20 p21 p22 p25 p26 p27 p28 p29 p30 p31 p32 : Nat) (i2 i4 i6 i7 i8 i9 i11 i15 i18 i23 i24 : Int32) (w : Nat → Int32) (xq0 : Int32) (hwf : ftWf w) : Met l yX11_lineLoss wsX11_lineLoss ({ frames := 2, cells := 0, slots := 0, locals := 45 }) (ftRO D cI cS [.ref m0, .int xq0] [(m0, .inr (11, [.ref p0, .ref p1, .int i2, .ref p3, .int i4, .ref p5, .int i6, .int i7, .int i8, .int i9, .ref p10, .int i11, .ref p12, .ref p13, .ref p14, .int i15, .ref p16, .ref p17, .int i18, .ref p19, .ref p20, .ref p21, .ref p22, .int i23, .int i24, .ref p25, .ref p26, .ref p27, .ref p28, .ref p29, .ref p30, .ref p31, .ref p32])), (p0, .inl (cI, 1439, .inl w))]) (vp_Si (fun o9 => o9 = ftLlA w xq0)) 0 0 (fun _ => False) := by
  refine Met.ofW (cc := cX11_lineLoss) (maxL := 4) (ret := (some .int)) (by decide) rfl ?_
  intro p e s m args below meth c s₁ B hml hv
  obtain ⟨rfl, hP, hKK⟩ := hv
  have hK := hKK.1
  have hx := B.exec
  have hb := B.bytes
  have hr := B.returns
  have hts := atoms_spec (ws := wsX11_lineLoss) B.pre
  have hown : s.vm.findClass RX11 = some m.cls := findClass_of_methodNamed B.named
  have hlocks := B.notSynchronized
  have hP : va_P D vwCl [(m0, .inr (11, [.ref p0, .ref p1, .int i2, .ref p3, .int i4, .ref p5, .int i6, .int i7, .int i8, .int i9, .ref p10, .int i11, .ref p12, .ref p13, .ref p14, .int i15, .ref p16, .ref p17, .int i18, .ref p19, .ref p20, .ref p21, .ref p22, .int i23, .int i24, .ref p25, .ref p26, .ref p27, .ref p28, .ref p29, .ref p30, .ref p31, .ref p32])), (p0, .inl (cI, 1439, .inl w))] s.heap := hP
  have hl := lv_entry ([.ref m0, .int xq0]) (n := 4) (Nat.le_of_ble_eq_true rfl)
  rw [lg_entry_eq]
  generalize (lg_sl ([.ref m0, .int xq0]) ++ List.replicate (4 - (lg_sl ([.ref m0, .int xq0])).length) Slot.unset).toArray = ls at hl ⊢
  have hl : lv_has ls 4 [(0, .ref m0), (1, .int xq0)] := hl
  have hw3 := ftWf_3 hwf
  have hn := ftWf_n hwf
  have hw0 := ftWf_0 hwf
  have hln := ftWf_ln hwf
  have hlg := ftWf_lg hwf
  refine lv_iload_n hx hb dX11_lineLoss_0 rfl (lv_at hl 1 rfl) ?_
  refine lv_i2l (v := xq0.toInt64) hx hb dX11_lineLoss_1 rfl ?_
  refine lv_lconst (v := 0) hx hb dX11_lineLoss_2 (by decide) ?_
  refine lv_aload_n hx hb dX11_lineLoss_3 rfl (lv_at hl 0 rfl) ?_
  refine va_get (D := D) (ci := 11) (v := .ref p0) (C := RX11) (T := TX11) (N := 33) hx hb hts (by decide +kernel) hown hK hP 0 rfl rfl 0 (by decide) (hts (.fieldLink RX11 7 "FiberTraceModel" "now" "[I") (by decide +kernel)) (fun _ h9 => h9) rfl dX11_lineLoss_4 ?_
  refine lv_iconst (v := 0) hx hb dX11_lineLoss_7 (by decide) ?_
  refine va_iald hx hb hK hP 1 0 rfl rfl (vp_in_nI (n := 0) (by omega) (by omega)) dX11_lineLoss_8 ?_
  refine ft_top (y := w 0) rfl ?_
  refine lv_i2l (v := (w 0).toInt64) hx hb dX11_lineLoss_9 rfl ?_
  refine ft_csi (r := ftB (0 ≤ xq0.toInt64 ∧ xq0.toInt64 ≤ ((w 0).toInt64))) (va_runS (As := [.long xq0.toInt64, .long 0, .long ((w 0).toInt64)]) (rest := []) ⟨hx, hb, hml, hown, hts⟩ (c_X11_in l D cI cS xq0.toInt64 0 ((w 0).toInt64)) (va_cwS 3 hts gX11_lineLoss_X11_in rfl rfl rfl (by decide +kernel) ⟨Nat.le_of_ble_eq_true rfl, Nat.le_of_ble_eq_true rfl⟩) (ft_preRO hP hKK [] rfl) rfl rfl hl.1 rfl (lv_room (Nat.le_of_ble_eq_true rfl)) dX11_lineLoss_10 ⟨Nat.le_of_ble_eq_true rfl, Nat.le_of_ble_eq_true rfl⟩) ?_
  refine ft_top (y := ftB (0 ≤ xq0 ∧ xq0 ≤ (w 0))) (ft_in64 (by decide) (Int32.toInt_toInt64 _)) ?_
  refine lv_if_ne (tgt := 19) hx hb dX11_lineLoss_13 (by decide) (fun c13 => ?_) (fun c13 => ?_)
  · replace c13 := ftB_ne c13
    obtain ⟨hk9, hxk⟩ := ft_btw2 (K := ftCL w) (by omega) c13.1 (by rw [← hw0]; exact c13.2)
    generalize hk8 : xq0.toNatClampNeg = k9 at hk9 hxk
    rw [hxk] at hl
    refine lv_iconst (v := 0) hx hb dX11_lineLoss_19 (by decide) ?_
    refine lv_istore_n (lv' := [(2, .int 0), (0, .ref m0), (1, .int (nI k9))]) hx hb dX11_lineLoss_20 rfl hl (by decide) rfl (fun ls hl => ?_)
    refine lv_iconst (v := 0) hx hb dX11_lineLoss_21 (by decide) ?_
    refine lv_istore_n (lv' := [(3, .int 0), (2, .int 0), (0, .ref m0), (1, .int (nI k9))]) hx hb dX11_lineLoss_22 rfl hl (by decide) rfl (fun ls hl => ?_)
    have lp23 : ∀ (n23 : Nat) (t : Nat) (x23_2 : Int32) (x23_3 : Int32), k9 - t < n23 → (t ≤ k9) → x23_2 = ftSum (fun y => ftFw w (nI y) (ftCN w)) t → x23_3 = nI t → ∀ ls : Array Slot, lv_has ls 4 [(0, .ref m0), (1, .int (nI k9)), (2, .int x23_2), (3, .int x23_3)] → W p l e (headSpec wsX11_lineLoss { frames := 2, cells := 0, slots := 0, locals := 45 }).room s m ([.ref m0, .int xq0] : List Value).toArray below meth c s.heap [] 0 0 (MQ below (vp_Si (fun o9 => o9 = ftLlA w xq0)) ([.ref m0, .int xq0] : List Value).toArray s 0 0 (fun _ => False)) (F0 m 23 ls []) := by
      intro n23
      induction n23 with
      | zero =>
        intro t x23_2 x23_3  hm23
        exact absurd hm23 (Nat.not_lt_zero _)
      | succ n23 ih23 =>
        intro t x23_2 x23_3  hm23 htk ex23_2 ex23_3  ls hl
        subst ex23_3
        refine lv_iload_n hx hb dX11_lineLoss_23 rfl (lv_at hl 3 rfl) ?_
        refine lv_iload_n hx hb dX11_lineLoss_24 rfl (lv_at hl 1 rfl) ?_
        refine lv_icmp_ge (tgt := 42) hx hb dX11_lineLoss_25 (by decide) (fun c25 => ?_) (fun c25 => ?_)
        · have c25n : k9 ≤ t := ft_leN (by omega) (by omega) c25
          refine lv_iconst (v := 0) hx hb dX11_lineLoss_42 (by decide) ?_
          refine lv_istore_n (lv' := [(3, .int 0), (0, .ref m0), (1, .int (nI k9)), (2, .int x23_2)]) hx hb dX11_lineLoss_43 rfl hl (by decide) rfl (fun ls hl => ?_)
          have lp44 : ∀ (n44 : Nat) (k : Nat) (x44_2 : Int32) (x44_3 : Int32), ftCN w - k < n44 → (k ≤ ftCN w) → x44_2 = ftLj w (nI k9) (ftSum (fun y => ftFw w (nI y) (ftCN w)) k9) k → x44_3 = nI k → ∀ ls : Array Slot, lv_has ls 4 [(0, .ref m0), (1, .int (nI k9)), (2, .int x44_2), (3, .int x44_3)] → W p l e (headSpec wsX11_lineLoss { frames := 2, cells := 0, slots := 0, locals := 45 }).room s m ([.ref m0, .int xq0] : List Value).toArray below meth c s.heap [] 0 0 (MQ below (vp_Si (fun o9 => o9 = ftLlA w xq0)) ([.ref m0, .int xq0] : List Value).toArray s 0 0 (fun _ => False)) (F0 m 44 ls []) := by
            intro n44
            induction n44 with
            | zero =>
              intro k x44_2 x44_3  hm44
              exact absurd hm44 (Nat.not_lt_zero _)
            | succ n44 ih44 =>
              intro k x44_2 x44_3  hm44 hkn ex44_2 ex44_3  ls hl
              subst ex44_3
              refine lv_iload_n hx hb dX11_lineLoss_44 rfl (lv_at hl 3 rfl) ?_
              refine lv_aload_n hx hb dX11_lineLoss_45 rfl (lv_at hl 0 rfl) ?_
              refine va_get (D := D) (ci := 11) (v := .ref p0) (C := RX11) (T := TX11) (N := 33) hx hb hts (by decide +kernel) hown hK hP 0 rfl rfl 0 (by decide) (hts (.fieldLink RX11 7 "FiberTraceModel" "now" "[I") (by decide +kernel)) (fun _ h9 => h9) rfl dX11_lineLoss_46 ?_
              refine lv_iconst (v := 3) hx hb dX11_lineLoss_49 (by decide) ?_
              refine va_iald hx hb hK hP 1 0 rfl rfl (vp_in_nI (n := 3) (by omega) (by omega)) dX11_lineLoss_50 ?_
              refine ft_top (y := w 3) rfl ?_
              refine ft_top (y := nI (ftCN w)) hw3 ?_
              refine lv_icmp_ge (tgt := 93) hx hb dX11_lineLoss_51 (by decide) (fun c51 => ?_) (fun c51 => ?_)
              · have c51n : (ftCN w) ≤ k := ft_leN (by omega) (by omega) c51
                refine lv_iload_n hx hb dX11_lineLoss_93 rfl (lv_at hl 2 rfl) ?_
                exact W.iret (v := x44_2) hx hb hr (fun t ht hW => ⟨x44_2, rfl, (by show (x44_2 : Int32) = ftLlA w xq0; rw [ftLlA, ftIte_t c13, hk8, ex44_2, show k = ftCN w by omega, ← hxk]), ht⟩) (fun _ h9 => absurd h9 List.not_mem_nil) dX11_lineLoss_94
              · have c51n : k < (ftCN w) := ft_nleN (by omega) (by omega) c51
                refine lv_iload_n hx hb dX11_lineLoss_54 rfl (lv_at hl 2 rfl) ?_
                refine lv_aload_n hx hb dX11_lineLoss_55 rfl (lv_at hl 0 rfl) ?_
                refine lv_iload_n hx hb dX11_lineLoss_56 rfl (lv_at hl 3 rfl) ?_
                refine lv_iconst (v := 0) hx hb dX11_lineLoss_57 (by decide) ?_
                refine ft_csi (r := w (4 + 4 * k + 0)) (va_runV (C := RX11) (As := [.int (nI k), .int 0]) (rest := [.int x44_2]) ⟨hx, hb, hml, hown, hts⟩ (c_X11_at l D cI cS m0 p0 p1 p3 p5 p10 p12 p13 p14 p16 p17 p19 p20 p21 p22 p25 p26 p27 p28 p29 p30 p31 p32 i2 i4 i6 i7 i8 i9 i11 i15 i18 i23 i24 w k 0 (by first | assumption | omega) (by first | assumption | omega)) (cwV 2 hts gX11_lineLoss_X11_at rfl rfl rfl (by decide +kernel) ⟨Nat.le_of_ble_eq_true rfl, Nat.le_of_ble_eq_true rfl⟩) (ft_preROV (ci := 11) (q0 := 0) hP hKK [0, 1] rfl rfl rfl) rfl rfl hl.1 rfl (lv_room (Nat.le_of_ble_eq_true rfl)) dX11_lineLoss_58 ⟨Nat.le_of_ble_eq_true rfl, Nat.le_of_ble_eq_true rfl⟩) ?_
                refine lv_iconst (v := 2) hx hb dX11_lineLoss_61 (by decide) ?_
                refine lv_icmp_ge (tgt := 84) hx hb dX11_lineLoss_62 (by decide) (fun c62 => ?_) (fun c62 => ?_)
                · refine lv_iconst (v := 0) hx hb dX11_lineLoss_84 (by decide) ?_
                  refine lv_iadd hx hb dX11_lineLoss_85 ?_
                  refine lv_istore_n (lv' := [(2, .int (x44_2 + 0)), (0, .ref m0), (1, .int (nI k9)), (3, .int (nI k))]) hx hb dX11_lineLoss_86 rfl hl (by decide) rfl (fun ls hl => ?_)
                  refine lv_iinc (v := nI (k + 1)) (lv' := [(3, .int (nI (k + 1))), (2, .int (x44_2 + 0)), (0, .ref m0), (1, .int (nI k9))]) hx hb dX11_lineLoss_87 hl (k := 3) rfl (ft_inc k) (by decide) rfl (fun ls hl => ?_)
                  refine lv_goto (tgt := 44) hx hb dX11_lineLoss_90 (by decide) ?_
                  exact ih44 (k + 1) (x44_2 + 0) (nI (k + 1))  (by omega) (by omega) (by first | exact ftLj_t ex44_2 (Int32.not_le.mp c62) (Int32.not_le.mp c72) | exact ftLj_2 ex44_2 c72 | exact ftLj_1 ex44_2 c62) (by first | rfl | assumption)  ls (lv_sub hl [2, 3, 1, 0] rfl)
                · refine lv_aload_n hx hb dX11_lineLoss_65 rfl (lv_at hl 0 rfl) ?_
                  refine lv_iload_n hx hb dX11_lineLoss_66 rfl (lv_at hl 3 rfl) ?_
                  refine lv_iconst (v := 1) hx hb dX11_lineLoss_67 (by decide) ?_
                  refine ft_csi (r := w (4 + 4 * k + 1)) (va_runV (C := RX11) (As := [.int (nI k), .int 1]) (rest := [.int x44_2]) ⟨hx, hb, hml, hown, hts⟩ (c_X11_at l D cI cS m0 p0 p1 p3 p5 p10 p12 p13 p14 p16 p17 p19 p20 p21 p22 p25 p26 p27 p28 p29 p30 p31 p32 i2 i4 i6 i7 i8 i9 i11 i15 i18 i23 i24 w k 1 (by first | assumption | omega) (by first | assumption | omega)) (cwV 2 hts gX11_lineLoss_X11_at rfl rfl rfl (by decide +kernel) ⟨Nat.le_of_ble_eq_true rfl, Nat.le_of_ble_eq_true rfl⟩) (ft_preROV (ci := 11) (q0 := 0) hP hKK [0, 1] rfl rfl rfl) rfl rfl hl.1 rfl (lv_room (Nat.le_of_ble_eq_true rfl)) dX11_lineLoss_68 ⟨Nat.le_of_ble_eq_true rfl, Nat.le_of_ble_eq_true rfl⟩) ?_
                  refine lv_iload_n hx hb dX11_lineLoss_71 rfl (lv_at hl 1 rfl) ?_
                  refine lv_icmp_ge (tgt := 84) hx hb dX11_lineLoss_72 (by decide) (fun c72 => ?_) (fun c72 => ?_)
                  · refine lv_iconst (v := 0) hx hb dX11_lineLoss_84 (by decide) ?_
                    refine lv_iadd hx hb dX11_lineLoss_85 ?_
                    refine lv_istore_n (lv' := [(2, .int (x44_2 + 0)), (0, .ref m0), (1, .int (nI k9)), (3, .int (nI k))]) hx hb dX11_lineLoss_86 rfl hl (by decide) rfl (fun ls hl => ?_)
                    refine lv_iinc (v := nI (k + 1)) (lv' := [(3, .int (nI (k + 1))), (2, .int (x44_2 + 0)), (0, .ref m0), (1, .int (nI k9))]) hx hb dX11_lineLoss_87 hl (k := 3) rfl (ft_inc k) (by decide) rfl (fun ls hl => ?_)
                    refine lv_goto (tgt := 44) hx hb dX11_lineLoss_90 (by decide) ?_
                    exact ih44 (k + 1) (x44_2 + 0) (nI (k + 1))  (by omega) (by omega) (by first | exact ftLj_t ex44_2 (Int32.not_le.mp c62) (Int32.not_le.mp c72) | exact ftLj_2 ex44_2 c72 | exact ftLj_1 ex44_2 c62) (by first | rfl | assumption)  ls (lv_sub hl [2, 3, 1, 0] rfl)
                  · refine lv_aload_n hx hb dX11_lineLoss_75 rfl (lv_at hl 0 rfl) ?_
                    refine lv_iload_n hx hb dX11_lineLoss_76 rfl (lv_at hl 3 rfl) ?_
                    refine lv_iconst (v := 2) hx hb dX11_lineLoss_77 (by decide) ?_
                    refine ft_csi (r := w (4 + 4 * k + 2)) (va_runV (C := RX11) (As := [.int (nI k), .int 2]) (rest := [.int x44_2]) ⟨hx, hb, hml, hown, hts⟩ (c_X11_at l D cI cS m0 p0 p1 p3 p5 p10 p12 p13 p14 p16 p17 p19 p20 p21 p22 p25 p26 p27 p28 p29 p30 p31 p32 i2 i4 i6 i7 i8 i9 i11 i15 i18 i23 i24 w k 2 (by first | assumption | omega) (by first | assumption | omega)) (cwV 2 hts gX11_lineLoss_X11_at rfl rfl rfl (by decide +kernel) ⟨Nat.le_of_ble_eq_true rfl, Nat.le_of_ble_eq_true rfl⟩) (ft_preROV (ci := 11) (q0 := 0) hP hKK [0, 1] rfl rfl rfl) rfl rfl hl.1 rfl (lv_room (Nat.le_of_ble_eq_true rfl)) dX11_lineLoss_78 ⟨Nat.le_of_ble_eq_true rfl, Nat.le_of_ble_eq_true rfl⟩) ?_
                    refine lv_goto (tgt := 85) hx hb dX11_lineLoss_81 (by decide) ?_
                    refine lv_iadd hx hb dX11_lineLoss_85 ?_
                    refine lv_istore_n (lv' := [(2, .int (x44_2 + (w (4 + 4 * k + 2)))), (0, .ref m0), (1, .int (nI k9)), (3, .int (nI k))]) hx hb dX11_lineLoss_86 rfl hl (by decide) rfl (fun ls hl => ?_)
                    refine lv_iinc (v := nI (k + 1)) (lv' := [(3, .int (nI (k + 1))), (2, .int (x44_2 + (w (4 + 4 * k + 2)))), (0, .ref m0), (1, .int (nI k9))]) hx hb dX11_lineLoss_87 hl (k := 3) rfl (ft_inc k) (by decide) rfl (fun ls hl => ?_)
                    refine lv_goto (tgt := 44) hx hb dX11_lineLoss_90 (by decide) ?_
                    exact ih44 (k + 1) (x44_2 + (w (4 + 4 * k + 2))) (nI (k + 1))  (by omega) (by omega) (by first | exact ftLj_t ex44_2 (Int32.not_le.mp c62) (Int32.not_le.mp c72) | exact ftLj_2 ex44_2 c72 | exact ftLj_1 ex44_2 c62) (by first | rfl | assumption)  ls (lv_sub hl [2, 3, 1, 0] rfl)
          exact lp44 _ 0 x23_2 0  (Nat.lt_succ_self _) (by omega) (by rw [ex23_2, show t = k9 by omega]; rfl) (by rfl) ls (lv_sub hl [1, 2, 3, 0] rfl)
        · have c25n : t < k9 := ft_nleN (by omega) (by omega) c25
          refine lv_iload_n hx hb dX11_lineLoss_28 rfl (lv_at hl 2 rfl) ?_
          refine lv_aload_n hx hb dX11_lineLoss_29 rfl (lv_at hl 0 rfl) ?_
          refine lv_iload_n hx hb dX11_lineLoss_30 rfl (lv_at hl 3 rfl) ?_
          refine ft_csi (r := ftFw w (nI t) (ftCN w)) (va_runV (C := RX11) (As := [.int (nI t)]) (rest := [.int x23_2]) ⟨hx, hb, hml, hown, hts⟩ (c_X11_fadeAt l D cI cS m0 p0 p1 p3 p5 p10 p12 p13 p14 p16 p17 p19 p20 p21 p22 p25 p26 p27 p28 p29 p30 p31 p32 i2 i4 i6 i7 i8 i9 i11 i15 i18 i23 i24 w (nI t) (ftCN w) hw3 hn) (cwV 1 hts gX11_lineLoss_X11_fadeAt rfl rfl rfl (by decide +kernel) ⟨Nat.le_of_ble_eq_true rfl, Nat.le_of_ble_eq_true rfl⟩) (ft_preROV (ci := 11) (q0 := 0) hP hKK [0, 1] rfl rfl rfl) rfl rfl hl.1 rfl (lv_room (Nat.le_of_ble_eq_true rfl)) dX11_lineLoss_31 ⟨Nat.le_of_ble_eq_true rfl, Nat.le_of_ble_eq_true rfl⟩) ?_
          refine lv_iadd hx hb dX11_lineLoss_34 ?_
          refine lv_istore_n (lv' := [(2, .int (x23_2 + (ftFw w (nI t) (ftCN w)))), (0, .ref m0), (1, .int (nI k9)), (3, .int (nI t))]) hx hb dX11_lineLoss_35 rfl hl (by decide) rfl (fun ls hl => ?_)
          refine lv_iinc (v := nI (t + 1)) (lv' := [(3, .int (nI (t + 1))), (2, .int (x23_2 + (ftFw w (nI t) (ftCN w)))), (0, .ref m0), (1, .int (nI k9))]) hx hb dX11_lineLoss_36 hl (k := 3) rfl (ft_inc t) (by decide) rfl (fun ls hl => ?_)
          refine lv_goto (tgt := 23) hx hb dX11_lineLoss_39 (by decide) ?_
          exact ih23 (t + 1) (x23_2 + (ftFw w (nI t) (ftCN w))) (nI (t + 1))  (by omega) (by omega) (by rw [ex23_2]; rfl) (by first | rfl | assumption)  ls (lv_sub hl [2, 3, 1, 0] rfl)
    exact lp23 _ 0 0 0  (Nat.lt_succ_self _) (by omega) (by rfl) (by rfl) ls (lv_sub hl [2, 3, 1, 0] rfl)
  · replace c13 := ftB_eq c13
    refine lv_ldc (v := (-1000001)) hx hb hown (hts (.constant RX11 95 (-1000001)) (by decide +kernel)) dX11_lineLoss_16 ?_
    exact W.iret (v := (-1000001)) hx hb hr (fun t ht hW => ⟨(-1000001), rfl, (by show ((-1000001) : Int32) = ftLlA w xq0; exact (ftIte_f c13).symm), ht⟩) (fun _ h9 => absurd h9 List.not_mem_nil) dX11_lineLoss_18
set_option maxHeartbeats 4000000 in
set_option maxRecDepth 100000 in
theorem c_X11_sample (l : Launch) (D : va_G) (cI cS : ClassId) (sz : Nat) (m0 p0 p1 p3 p5 p10 p12 p13 p14 p16 p17 p19 p20 p21 p22 p25 p26 p27 p28 p29 p30 p31 p32 : Nat) (i2 i4 i6 i7 i8 i9 i11 i15 i18 i23 i24 : Int32) (w fb fp fn fa fh ga gh g1 g2 : Nat → Int32) (xq0 xq1 : Int32) (hwf : ftWf w) : Met l yX11_sample wsX11_sample ({ frames := 3, cells := 0, slots := 0, locals := 72 }) (ftRW D cI cS [.ref m0, .int xq0, .int xq1] [(m0, .inr (11, [.ref p0, .ref p1, .int i2, .ref p3, .int i4, .ref p5, .int i6, .int i7, .int i8, .int i9, .ref p10, .int i11, .ref p12, .ref p13, .ref p14, .int i15, .ref p16, .ref p17, .int i18, .ref p19, .ref p20, .ref p21, .ref p22, .int i23, .int i24, .ref p25, .ref p26, .ref p27, .ref p28, .ref p29, .ref p30, .ref p31, .ref p32])), (p0, .inl (cI, 1439, .inl w)), (p12, .inl (cI, 460, .inl fb)), (p13, .inl (cI, 460, .inl fp)), (p14, .inl (cI, 460, .inl fn)), (p16, .inl (cI, 11, .inl fa)), (p17, .inl (cI, 11, .inl fh)), (p19, .inl (cI, 55, .inl ga)), (p20, .inl (cI, 55, .inl gh)), (p21, .inl (cI, 55, .inl g1)), (p22, .inl (cI, 55, .inl g2))] sz) (ftXi D [(m0, .inr (11, [.ref p0, .ref p1, .int i2, .ref p3, .int i4, .ref p5, .int i6, .int i7, .int i8, .int i9, .ref p10, .int i11, .ref p12, .ref p13, .ref p14, .int i15, .ref p16, .ref p17, .int i18, .ref p19, .ref p20, .ref p21, .ref p22, .int i23, .int i24, .ref p25, .ref p26, .ref p27, .ref p28, .ref p29, .ref p30, .ref p31, .ref p32])), (p0, .inl (cI, 1439, .inl w)), (p12, .inl (cI, 460, .inl fb)), (p13, .inl (cI, 460, .inl fp)), (p14, .inl (cI, 460, .inl fn)), (p16, .inl (cI, 11, .inl fa)), (p17, .inl (cI, 11, .inl fh)), (p19, .inl (cI, 55, .inl ga)), (p20, .inl (cI, 55, .inl gh)), (p21, .inl (cI, 55, .inl g1)), (p22, .inl (cI, 55, .inl g2))] sz (fun (o9 : Int32) (u : (Nat → Int32) × (Nat → Nat → Int32)) => o9 = ftSmA w xq0 xq1 ∧ True) (fun (u : (Nat → Int32) × (Nat → Nat → Int32)) => [(m0, .inr (11, [.ref p0, .ref p1, .int i2, .ref p3, .int i4, .ref p5, .int i6, .int i7, .int i8, .int i9, .ref p10, .int i11, .ref p12, .ref p13, .ref p14, .int (u.1 15), .ref p16, .ref p17, .int (u.1 18), .ref p19, .ref p20, .ref p21, .ref p22, .int i23, .int i24, .ref p25, .ref p26, .ref p27, .ref p28, .ref p29, .ref p30, .ref p31, .ref p32])), (p0, .inl (cI, 1439, .inl w)), (p12, .inl (cI, 460, .inl (u.2 12))), (p13, .inl (cI, 460, .inl (u.2 13))), (p14, .inl (cI, 460, .inl (u.2 14))), (p16, .inl (cI, 11, .inl (u.2 16))), (p17, .inl (cI, 11, .inl (u.2 17))), (p19, .inl (cI, 55, .inl (u.2 19))), (p20, .inl (cI, 55, .inl (u.2 20))), (p21, .inl (cI, 55, .inl (u.2 21))), (p22, .inl (cI, 55, .inl (u.2 22)))])) 0 0 (va_A [(m0, .inr (11, [.ref p0, .ref p1, .int i2, .ref p3, .int i4, .ref p5, .int i6, .int i7, .int i8, .int i9, .ref p10, .int i11, .ref p12, .ref p13, .ref p14, .int i15, .ref p16, .ref p17, .int i18, .ref p19, .ref p20, .ref p21, .ref p22, .int i23, .int i24, .ref p25, .ref p26, .ref p27, .ref p28, .ref p29, .ref p30, .ref p31, .ref p32])), (p0, .inl (cI, 1439, .inl w)), (p12, .inl (cI, 460, .inl fb)), (p13, .inl (cI, 460, .inl fp)), (p14, .inl (cI, 460, .inl fn)), (p16, .inl (cI, 11, .inl fa)), (p17, .inl (cI, 11, .inl fh)), (p19, .inl (cI, 55, .inl ga)), (p20, .inl (cI, 55, .inl gh)), (p21, .inl (cI, 55, .inl g1)), (p22, .inl (cI, 55, .inl g2))] sz) := by
  refine Met.ofW (cc := cX11_sample) (maxL := 3) (ret := (some .int)) (by decide) rfl ?_
  intro p e s m args below meth c s₁ B hml hv
  obtain ⟨rfl, hsz, hP, hKK, hD0⟩ := hv
  have hK := hKK.1
  have hx := B.exec
  have hb := B.bytes
  have hr := B.returns
  have hts := atoms_spec (ws := wsX11_sample) B.pre
  have hown : s.vm.findClass RX11 = some m.cls := findClass_of_methodNamed B.named
  have hlocks := B.notSynchronized
  subst hsz
  have hD := hD0.self (sz := s.heap.size)
  generalize hAe : va_A [(m0, .inr (11, [.ref p0, .ref p1, .int i2, .ref p3, .int i4, .ref p5, .int i6, .int i7, .int i8, .int i9, .ref p10, .int i11, .ref p12, .ref p13, .ref p14, .int i15, .ref p16, .ref p17, .int i18, .ref p19, .ref p20, .ref p21, .ref p22, .int i23, .int i24, .ref p25, .ref p26, .ref p27, .ref p28, .ref p29, .ref p30, .ref p31, .ref p32])), (p0, .inl (cI, 1439, .inl w)), (p12, .inl (cI, 460, .inl fb)), (p13, .inl (cI, 460, .inl fp)), (p14, .inl (cI, 460, .inl fn)), (p16, .inl (cI, 11, .inl fa)), (p17, .inl (cI, 11, .inl fh)), (p19, .inl (cI, 55, .inl ga)), (p20, .inl (cI, 55, .inl gh)), (p21, .inl (cI, 55, .inl g1)), (p22, .inl (cI, 55, .inl g2))] s.heap.size = A at hD ⊢
  have hA : ∀ q : Nat, s.heap.size ≤ q → A q := fun q h => by rw [← hAe]; exact Or.inr h
  have hS : va_S A s.heap s.heap [] := va_S.rf
  have hD : va_D A [(m0, .inr (11, [.ref p0, .ref p1, .int i2, .ref p3, .int i4, .ref p5, .int i6, .int i7, .int i8, .int i9, .ref p10, .int i11, .ref p12, .ref p13, .ref p14, .int i15, .ref p16, .ref p17, .int i18, .ref p19, .ref p20, .ref p21, .ref p22, .int i23, .int i24, .ref p25, .ref p26, .ref p27, .ref p28, .ref p29, .ref p30, .ref p31, .ref p32])), (p0, .inl (cI, 1439, .inl w)), (p12, .inl (cI, 460, .inl fb)), (p13, .inl (cI, 460, .inl fp)), (p14, .inl (cI, 460, .inl fn)), (p16, .inl (cI, 11, .inl fa)), (p17, .inl (cI, 11, .inl fh)), (p19, .inl (cI, 55, .inl ga)), (p20, .inl (cI, 55, .inl gh)), (p21, .inl (cI, 55, .inl g1)), (p22, .inl (cI, 55, .inl g2))] := hD
  have hP : va_P D vwCl [(m0, .inr (11, [.ref p0, .ref p1, .int i2, .ref p3, .int i4, .ref p5, .int i6, .int i7, .int i8, .int i9, .ref p10, .int i11, .ref p12, .ref p13, .ref p14, .int i15, .ref p16, .ref p17, .int i18, .ref p19, .ref p20, .ref p21, .ref p22, .int i23, .int i24, .ref p25, .ref p26, .ref p27, .ref p28, .ref p29, .ref p30, .ref p31, .ref p32])), (p0, .inl (cI, 1439, .inl w)), (p12, .inl (cI, 460, .inl fb)), (p13, .inl (cI, 460, .inl fp)), (p14, .inl (cI, 460, .inl fn)), (p16, .inl (cI, 11, .inl fa)), (p17, .inl (cI, 11, .inl fh)), (p19, .inl (cI, 55, .inl ga)), (p20, .inl (cI, 55, .inl gh)), (p21, .inl (cI, 55, .inl g1)), (p22, .inl (cI, 55, .inl g2))] s.heap := hP
  have hl := lv_entry ([.ref m0, .int xq0, .int xq1]) (n := 3) (Nat.le_of_ble_eq_true rfl)
  rw [lg_entry_eq]
  generalize (lg_sl ([.ref m0, .int xq0, .int xq1]) ++ List.replicate (3 - (lg_sl ([.ref m0, .int xq0, .int xq1])).length) Slot.unset).toArray = ls at hl ⊢
  have hl : lv_has ls 3 [(0, .ref m0), (1, .int xq0), (2, .int xq1)] := hl
  have hw3 := ftWf_3 hwf
  have hn := ftWf_n hwf
  have hw0 := ftWf_0 hwf
  have hln := ftWf_ln hwf
  have hlg := ftWf_lg hwf
  refine lv_iload_n hx hb dX11_sample_0 rfl (lv_at hl 1 rfl) ?_
  refine lv_i2l (v := xq0.toInt64) hx hb dX11_sample_1 rfl ?_
  refine lv_lconst (v := 0) hx hb dX11_sample_2 (by decide) ?_
  refine lv_aload_n hx hb dX11_sample_3 rfl (lv_at hl 0 rfl) ?_
  refine ft_csi (r := nI ((ftCL w) + 60)) (va_runV (C := RX11) (As := []) (rest := [.long 0, .long xq0.toInt64]) ⟨hx, hb, hml, hown, hts⟩ (c_X11_samples l D cI cS m0 p0 p1 p3 p5 p10 p12 p13 p14 p16 p17 p19 p20 p21 p22 p25 p26 p27 p28 p29 p30 p31 p32 i2 i4 i6 i7 i8 i9 i11 i15 i18 i23 i24 w (ftCL w) hw0) (cwV 0 hts gX11_sample_X11_samples rfl rfl rfl (by decide +kernel) ⟨Nat.le_of_ble_eq_true rfl, Nat.le_of_ble_eq_true rfl⟩) (ft_preROV (ci := 11) (q0 := 0) hP hKK [0, 1] rfl rfl rfl) rfl rfl hl.1 rfl (lv_room (Nat.le_of_ble_eq_true rfl)) dX11_sample_4 ⟨Nat.le_of_ble_eq_true rfl, Nat.le_of_ble_eq_true rfl⟩) ?_
  refine lv_iconst (v := 1) hx hb dX11_sample_7 (by decide) ?_
  refine lv_isub hx hb dX11_sample_8 ?_
  refine ft_top (y := nI (((ftCL w) + 60) - 1)) (ft_subN (a := (ftCL w) + 60) (b := 1) (by omega)) ?_
  refine lv_i2l (v := (nI (((ftCL w) + 60) - 1)).toInt64) hx hb dX11_sample_9 rfl ?_
  refine ft_csi (r := ftB (0 ≤ xq0.toInt64 ∧ xq0.toInt64 ≤ ((nI (((ftCL w) + 60) - 1)).toInt64))) (va_runS (As := [.long xq0.toInt64, .long 0, .long ((nI (((ftCL w) + 60) - 1)).toInt64)]) (rest := []) ⟨hx, hb, hml, hown, hts⟩ (c_X11_in l D cI cS xq0.toInt64 0 ((nI (((ftCL w) + 60) - 1)).toInt64)) (va_cwS 3 hts gX11_sample_X11_in rfl rfl rfl (by decide +kernel) ⟨Nat.le_of_ble_eq_true rfl, Nat.le_of_ble_eq_true rfl⟩) (ft_preRO hP hKK [] rfl) rfl rfl hl.1 rfl (lv_room (Nat.le_of_ble_eq_true rfl)) dX11_sample_10 ⟨Nat.le_of_ble_eq_true rfl, Nat.le_of_ble_eq_true rfl⟩) ?_
  refine ft_top (y := ftB (0 ≤ xq0 ∧ xq0 ≤ (nI (((ftCL w) + 60) - 1)))) (ft_in64 (by decide) (Int32.toInt_toInt64 _)) ?_
  refine lv_if_eq (tgt := 28) hx hb dX11_sample_13 (by decide) (fun c13 => ?_) (fun c13 => ?_)
  · replace c13 := ftB_eq c13
    refine lv_ldc (v := (-1000001)) hx hb hown (hts (.constant RX11 95 (-1000001)) (by decide +kernel)) dX11_sample_28 ?_
    obtain ⟨u9, hu9⟩ : ∃ u9 : (Nat → Int32) × (Nat → Nat → Int32), u9 = ((fun k => match k with | 15 => i15 | _ => i18), (fun k => match k with | 12 => fb | 13 => fp | 14 => fn | 16 => fa | 17 => fh | 19 => ga | 20 => gh | 21 => g1 | _ => g2)) := ⟨_, rfl⟩
    have hw9 : ([(m0, .inr (11, [.ref p0, .ref p1, .int i2, .ref p3, .int i4, .ref p5, .int i6, .int i7, .int i8, .int i9, .ref p10, .int i11, .ref p12, .ref p13, .ref p14, .int i15, .ref p16, .ref p17, .int i18, .ref p19, .ref p20, .ref p21, .ref p22, .int i23, .int i24, .ref p25, .ref p26, .ref p27, .ref p28, .ref p29, .ref p30, .ref p31, .ref p32])), (p0, .inl (cI, 1439, .inl w)), (p12, .inl (cI, 460, .inl fb)), (p13, .inl (cI, 460, .inl fp)), (p14, .inl (cI, 460, .inl fn)), (p16, .inl (cI, 11, .inl fa)), (p17, .inl (cI, 11, .inl fh)), (p19, .inl (cI, 55, .inl ga)), (p20, .inl (cI, 55, .inl gh)), (p21, .inl (cI, 55, .inl g1)), (p22, .inl (cI, 55, .inl g2))] : va_W) = [(m0, .inr (11, [.ref p0, .ref p1, .int i2, .ref p3, .int i4, .ref p5, .int i6, .int i7, .int i8, .int i9, .ref p10, .int i11, .ref p12, .ref p13, .ref p14, .int (u9.1 15), .ref p16, .ref p17, .int (u9.1 18), .ref p19, .ref p20, .ref p21, .ref p22, .int i23, .int i24, .ref p25, .ref p26, .ref p27, .ref p28, .ref p29, .ref p30, .ref p31, .ref p32])), (p0, .inl (cI, 1439, .inl w)), (p12, .inl (cI, 460, .inl (u9.2 12))), (p13, .inl (cI, 460, .inl (u9.2 13))), (p14, .inl (cI, 460, .inl (u9.2 14))), (p16, .inl (cI, 11, .inl (u9.2 16))), (p17, .inl (cI, 11, .inl (u9.2 17))), (p19, .inl (cI, 55, .inl (u9.2 19))), (p20, .inl (cI, 55, .inl (u9.2 20))), (p21, .inl (cI, 55, .inl (u9.2 21))), (p22, .inl (cI, 55, .inl (u9.2 22)))] := by subst hu9; rfl
    rw [hw9] at hP hD
    have hr9 : ((-1000001) : Int32) = ftSmA w xq0 xq1 := by first | exact (ftIte_f (fun q => c13 q.1)).symm | exact (ftIte_f (fun q => c25 q.2)).symm
    exact W.iret (v := (-1000001)) hx hb hr (fun t ht hW => ⟨⟨(-1000001), u9, rfl, ⟨hr9, trivial⟩, by rw [ht]; exact hP, by rw [hAe]; exact hD⟩, by rw [hAe]; exact hS.F ht⟩) hS.2.2 dX11_sample_30
  · replace c13 := ftB_ne c13
    refine lv_iload_n hx hb dX11_sample_16 rfl (lv_at hl 2 rfl) ?_
    refine lv_i2l (v := xq1.toInt64) hx hb dX11_sample_17 rfl ?_
    refine lv_lconst (v := 0) hx hb dX11_sample_18 (by decide) ?_
    refine lv_ldc2 (v := 3) hx hb hown (hts (.constantLong RX11 227 3) (by decide +kernel)) dX11_sample_19 ?_
    refine ft_csi (r := ftB (0 ≤ xq1.toInt64 ∧ xq1.toInt64 ≤ 3)) (va_runS (As := [.long xq1.toInt64, .long 0, .long 3]) (rest := []) ⟨hx, hb, hml, hown, hts⟩ (c_X11_in l D cI cS xq1.toInt64 0 3) (va_cwS 3 hts gX11_sample_X11_in rfl rfl rfl (by decide +kernel) ⟨Nat.le_of_ble_eq_true rfl, Nat.le_of_ble_eq_true rfl⟩) (ft_preRO hP hKK [] rfl) rfl rfl hl.1 rfl (lv_room (Nat.le_of_ble_eq_true rfl)) dX11_sample_22 ⟨Nat.le_of_ble_eq_true rfl, Nat.le_of_ble_eq_true rfl⟩) ?_
    refine ft_top (y := ftB (0 ≤ xq1 ∧ xq1 ≤ 3)) (ft_in64 (by decide) (by decide)) ?_
    refine lv_if_ne (tgt := 31) hx hb dX11_sample_25 (by decide) (fun c25 => ?_) (fun c25 => ?_)
    · replace c25 := ftB_ne c25
      obtain ⟨hk9, hxk⟩ := ft_btw2 (K := ftCL w + 60 - 1) (by omega) c13.1 c13.2
      generalize hk8 : xq0.toNatClampNeg = k9 at hk9 hxk
      rw [hxk] at hl
      refine lv_aload_n hx hb dX11_sample_31 rfl (lv_at hl 0 rfl) ?_
      refine ft_cxv (S := Nat → Nat → Int32) (wc := [(m0, .inr (11, [.ref p0, .ref p1, .int i2, .ref p3, .int i4, .ref p5, .int i6, .int i7, .int i8, .int i9, .ref p10, .int i11, .ref p12, .ref p13, .ref p14, .int i15, .ref p16, .ref p17, .int i18, .ref p19, .ref p20, .ref p21, .ref p22, .int i23, .int i24, .ref p25, .ref p26, .ref p27, .ref p28, .ref p29, .ref p30, .ref p31, .ref p32])), (p0, .inl (cI, 1439, .inl w)), (p12, .inl (cI, 460, .inl fb)), (p13, .inl (cI, 460, .inl fp)), (p14, .inl (cI, 460, .inl fn)), (p16, .inl (cI, 11, .inl fa)), (p17, .inl (cI, 11, .inl fh)), (p19, .inl (cI, 55, .inl ga)), (p20, .inl (cI, 55, .inl gh)), (p21, .inl (cI, 55, .inl g1)), (p22, .inl (cI, 55, .inl g2))]) (wr := []) (w1 := (fun (u32 : Nat → Nat → Int32) => [(m0, .inr (11, [.ref p0, .ref p1, .int i2, .ref p3, .int i4, .ref p5, .int i6, .int i7, .int i8, .int i9, .ref p10, .int i11, .ref p12, .ref p13, .ref p14, .int (nI (ftCF w).1), .ref p16, .ref p17, .int (nI (ftCG w).1), .ref p19, .ref p20, .ref p21, .ref p22, .int i23, .int i24, .ref p25, .ref p26, .ref p27, .ref p28, .ref p29, .ref p30, .ref p31, .ref p32])), (p0, .inl (cI, 1439, .inl w)), (p12, .inl (cI, 460, .inl (u32 12))), (p13, .inl (cI, 460, .inl (u32 13))), (p14, .inl (cI, 460, .inl (u32 14))), (p16, .inl (cI, 11, .inl (u32 16))), (p17, .inl (cI, 11, .inl (u32 17))), (p19, .inl (cI, 55, .inl (u32 19))), (p20, .inl (cI, 55, .inl (u32 20))), (p21, .inl (cI, 55, .inl (u32 21))), (p22, .inl (cI, 55, .inl (u32 22)))])) (ws1 := (fun (u32 : Nat → Nat → Int32) => [(m0, .inr (11, [.ref p0, .ref p1, .int i2, .ref p3, .int i4, .ref p5, .int i6, .int i7, .int i8, .int i9, .ref p10, .int i11, .ref p12, .ref p13, .ref p14, .int (nI (ftCF w).1), .ref p16, .ref p17, .int (nI (ftCG w).1), .ref p19, .ref p20, .ref p21, .ref p22, .int i23, .int i24, .ref p25, .ref p26, .ref p27, .ref p28, .ref p29, .ref p30, .ref p31, .ref p32])), (p0, .inl (cI, 1439, .inl w)), (p12, .inl (cI, 460, .inl (u32 12))), (p13, .inl (cI, 460, .inl (u32 13))), (p14, .inl (cI, 460, .inl (u32 14))), (p16, .inl (cI, 11, .inl (u32 16))), (p17, .inl (cI, 11, .inl (u32 17))), (p19, .inl (cI, 55, .inl (u32 19))), (p20, .inl (cI, 55, .inl (u32 20))), (p21, .inl (cI, 55, .inl (u32 21))), (p22, .inl (cI, 55, .inl (u32 22)))])) (va_runV (C := RX11) (As := []) (rest := []) ⟨hx, hb, hml, hown, hts⟩ (c_X11_layTracex l D cI cS s.heap.size m0 p0 p1 p3 p5 p10 p12 p13 p14 p16 p17 p19 p20 p21 p22 p25 p26 p27 p28 p29 p30 p31 p32 i2 i4 i6 i7 i8 i9 i11 i15 i18 i23 i24 w fb fp fn fa fh ga gh g1 g2 (by first | assumption | omega)) (cwV 0 hts gX11_sample_X11_layTrace rfl rfl rfl (by decide +kernel) ⟨Nat.le_of_ble_eq_true rfl, Nat.le_of_ble_eq_true rfl⟩) (ft_preRWV (ci := 11) (q0 := 0) hP hD hKK [0, 1, 2, 3, 4, 5, 6, 7, 8, 9, 10] rfl rfl rfl rfl rfl) rfl rfl hl.1 rfl (lv_room (Nat.le_of_ble_eq_true rfl)) dX11_sample_32 ⟨Nat.le_of_ble_eq_true rfl, Nat.le_of_ble_eq_true rfl⟩) hP hD hS hA [0, 1, 2, 3, 4, 5, 6, 7, 8, 9, 10] [] [0, 1, 2, 3, 4, 5, 6, 7, 8, 9, 10] rfl rfl (by decide) (by decide) (by decide) (fun _ => rfl) (fun _ => rfl) (fun u32 hu32 H locs hP hD hS => ?_)
      obtain ⟨hb32, hg32⟩ := hu32
      have hP : va_P D vwCl [(m0, .inr (11, [.ref p0, .ref p1, .int i2, .ref p3, .int i4, .ref p5, .int i6, .int i7, .int i8, .int i9, .ref p10, .int i11, .ref p12, .ref p13, .ref p14, .int (nI (ftCF w).1), .ref p16, .ref p17, .int (nI (ftCG w).1), .ref p19, .ref p20, .ref p21, .ref p22, .int i23, .int i24, .ref p25, .ref p26, .ref p27, .ref p28, .ref p29, .ref p30, .ref p31, .ref p32])), (p0, .inl (cI, 1439, .inl w)), (p12, .inl (cI, 460, .inl (u32 12))), (p13, .inl (cI, 460, .inl (u32 13))), (p14, .inl (cI, 460, .inl (u32 14))), (p16, .inl (cI, 11, .inl (u32 16))), (p17, .inl (cI, 11, .inl (u32 17))), (p19, .inl (cI, 55, .inl (u32 19))), (p20, .inl (cI, 55, .inl (u32 20))), (p21, .inl (cI, 55, .inl (u32 21))), (p22, .inl (cI, 55, .inl (u32 22)))] H := hP
      have hD : va_D A [(m0, .inr (11, [.ref p0, .ref p1, .int i2, .ref p3, .int i4, .ref p5, .int i6, .int i7, .int i8, .int i9, .ref p10, .int i11, .ref p12, .ref p13, .ref p14, .int (nI (ftCF w).1), .ref p16, .ref p17, .int (nI (ftCG w).1), .ref p19, .ref p20, .ref p21, .ref p22, .int i23, .int i24, .ref p25, .ref p26, .ref p27, .ref p28, .ref p29, .ref p30, .ref p31, .ref p32])), (p0, .inl (cI, 1439, .inl w)), (p12, .inl (cI, 460, .inl (u32 12))), (p13, .inl (cI, 460, .inl (u32 13))), (p14, .inl (cI, 460, .inl (u32 14))), (p16, .inl (cI, 11, .inl (u32 16))), (p17, .inl (cI, 11, .inl (u32 17))), (p19, .inl (cI, 55, .inl (u32 19))), (p20, .inl (cI, 55, .inl (u32 20))), (p21, .inl (cI, 55, .inl (u32 21))), (p22, .inl (cI, 55, .inl (u32 22)))] := hD
      obtain ⟨hb1, hb2, hb3⟩ := hb32 k9 (by omega)
      refine lv_iload_n hx hb dX11_sample_35 rfl (lv_at hl 2 rfl) ?_
      refine lv_if_ne (tgt := 47) hx hb dX11_sample_36 (by decide) (fun c36 => ?_) (fun c36 => ?_)
      · refine lv_iload_n hx hb dX11_sample_47 rfl (lv_at hl 2 rfl) ?_
        refine lv_iconst (v := 1) hx hb dX11_sample_48 (by decide) ?_
        refine lv_icmp_ne (tgt := 61) hx hb dX11_sample_49 (by decide) (fun c49 => ?_) (fun c49 => ?_)
        · refine lv_iload_n hx hb dX11_sample_61 rfl (lv_at hl 2 rfl) ?_
          refine lv_iconst (v := 2) hx hb dX11_sample_62 (by decide) ?_
          refine lv_icmp_ne (tgt := 75) hx hb dX11_sample_63 (by decide) (fun c63 => ?_) (fun c63 => ?_)
          · refine lv_aload_n hx hb dX11_sample_75 rfl (lv_at hl 0 rfl) ?_
            refine va_get (D := D) (ci := 11) (v := .ref p14) (C := RX11) (T := TX11) (N := 33) hx hb hts (by decide +kernel) hown hK hP 0 rfl rfl 14 (by decide) (hts (.fieldLink RX11 31 "FiberTraceModel" "noise" "[I") (by decide +kernel)) (fun _ h9 => h9) rfl dX11_sample_76 ?_
            refine lv_iload_n hx hb dX11_sample_79 rfl (lv_at hl 1 rfl) ?_
            refine va_iald hx hb hK hP 4 0 rfl rfl (vp_in_nI (by omega) (by omega)) dX11_sample_80 ?_
            refine ft_top (y := (u32 14) k9) (ft_clampN (by omega)) ?_
            obtain ⟨u9, hu9⟩ : ∃ u9 : (Nat → Int32) × (Nat → Nat → Int32), u9 = ((fun k => match k with | 15 => (nI (ftCF w).1) | _ => (nI (ftCG w).1)), (fun k => match k with | 12 => (u32 12) | 13 => (u32 13) | 14 => (u32 14) | 16 => (u32 16) | 17 => (u32 17) | 19 => (u32 19) | 20 => (u32 20) | 21 => (u32 21) | _ => (u32 22))) := ⟨_, rfl⟩
            have hw9 : ([(m0, .inr (11, [.ref p0, .ref p1, .int i2, .ref p3, .int i4, .ref p5, .int i6, .int i7, .int i8, .int i9, .ref p10, .int i11, .ref p12, .ref p13, .ref p14, .int (nI (ftCF w).1), .ref p16, .ref p17, .int (nI (ftCG w).1), .ref p19, .ref p20, .ref p21, .ref p22, .int i23, .int i24, .ref p25, .ref p26, .ref p27, .ref p28, .ref p29, .ref p30, .ref p31, .ref p32])), (p0, .inl (cI, 1439, .inl w)), (p12, .inl (cI, 460, .inl (u32 12))), (p13, .inl (cI, 460, .inl (u32 13))), (p14, .inl (cI, 460, .inl (u32 14))), (p16, .inl (cI, 11, .inl (u32 16))), (p17, .inl (cI, 11, .inl (u32 17))), (p19, .inl (cI, 55, .inl (u32 19))), (p20, .inl (cI, 55, .inl (u32 20))), (p21, .inl (cI, 55, .inl (u32 21))), (p22, .inl (cI, 55, .inl (u32 22)))] : va_W) = [(m0, .inr (11, [.ref p0, .ref p1, .int i2, .ref p3, .int i4, .ref p5, .int i6, .int i7, .int i8, .int i9, .ref p10, .int i11, .ref p12, .ref p13, .ref p14, .int (u9.1 15), .ref p16, .ref p17, .int (u9.1 18), .ref p19, .ref p20, .ref p21, .ref p22, .int i23, .int i24, .ref p25, .ref p26, .ref p27, .ref p28, .ref p29, .ref p30, .ref p31, .ref p32])), (p0, .inl (cI, 1439, .inl w)), (p12, .inl (cI, 460, .inl (u9.2 12))), (p13, .inl (cI, 460, .inl (u9.2 13))), (p14, .inl (cI, 460, .inl (u9.2 14))), (p16, .inl (cI, 11, .inl (u9.2 16))), (p17, .inl (cI, 11, .inl (u9.2 17))), (p19, .inl (cI, 55, .inl (u9.2 19))), (p20, .inl (cI, 55, .inl (u9.2 20))), (p21, .inl (cI, 55, .inl (u9.2 21))), (p22, .inl (cI, 55, .inl (u9.2 22)))] := by subst hu9; rfl
            rw [hw9] at hP hD
            have hr9 : ((u32 14) k9 : Int32) = ftSmA w xq0 xq1 := by rw [hxk, ftSmA, ftIte_t ⟨⟨ft_nI0 _ (by omega), nI_le hk9 (by omega)⟩, c25⟩, nI_clamp (by omega)]; rw [ftSmK]; first | (rw [if_pos c36, hb1, hb2, hb3]; rfl) | (rw [if_neg c36, if_pos c49]; exact hb1) | (rw [if_neg c36, if_neg c49, if_pos c63]; exact hb2) | (rw [if_neg c36, if_neg c49, if_neg c63]; exact hb3)
            exact W.iret (v := (u32 14) k9) hx hb hr (fun t ht hW => ⟨⟨(u32 14) k9, u9, rfl, ⟨hr9, trivial⟩, by rw [ht]; exact hP, by rw [hAe]; exact hD⟩, by rw [hAe]; exact hS.F ht⟩) hS.2.2 dX11_sample_81
          · refine lv_aload_n hx hb dX11_sample_66 rfl (lv_at hl 0 rfl) ?_
            refine va_get (D := D) (ci := 11) (v := .ref p13) (C := RX11) (T := TX11) (N := 33) hx hb hts (by decide +kernel) hown hK hP 0 rfl rfl 13 (by decide) (hts (.fieldLink RX11 28 "FiberTraceModel" "peak" "[I") (by decide +kernel)) (fun _ h9 => h9) rfl dX11_sample_67 ?_
            refine lv_iload_n hx hb dX11_sample_70 rfl (lv_at hl 1 rfl) ?_
            refine va_iald hx hb hK hP 3 0 rfl rfl (vp_in_nI (by omega) (by omega)) dX11_sample_71 ?_
            refine ft_top (y := (u32 13) k9) (ft_clampN (by omega)) ?_
            refine lv_goto (tgt := 81) hx hb dX11_sample_72 (by decide) ?_
            obtain ⟨u9, hu9⟩ : ∃ u9 : (Nat → Int32) × (Nat → Nat → Int32), u9 = ((fun k => match k with | 15 => (nI (ftCF w).1) | _ => (nI (ftCG w).1)), (fun k => match k with | 12 => (u32 12) | 13 => (u32 13) | 14 => (u32 14) | 16 => (u32 16) | 17 => (u32 17) | 19 => (u32 19) | 20 => (u32 20) | 21 => (u32 21) | _ => (u32 22))) := ⟨_, rfl⟩
            have hw9 : ([(m0, .inr (11, [.ref p0, .ref p1, .int i2, .ref p3, .int i4, .ref p5, .int i6, .int i7, .int i8, .int i9, .ref p10, .int i11, .ref p12, .ref p13, .ref p14, .int (nI (ftCF w).1), .ref p16, .ref p17, .int (nI (ftCG w).1), .ref p19, .ref p20, .ref p21, .ref p22, .int i23, .int i24, .ref p25, .ref p26, .ref p27, .ref p28, .ref p29, .ref p30, .ref p31, .ref p32])), (p0, .inl (cI, 1439, .inl w)), (p12, .inl (cI, 460, .inl (u32 12))), (p13, .inl (cI, 460, .inl (u32 13))), (p14, .inl (cI, 460, .inl (u32 14))), (p16, .inl (cI, 11, .inl (u32 16))), (p17, .inl (cI, 11, .inl (u32 17))), (p19, .inl (cI, 55, .inl (u32 19))), (p20, .inl (cI, 55, .inl (u32 20))), (p21, .inl (cI, 55, .inl (u32 21))), (p22, .inl (cI, 55, .inl (u32 22)))] : va_W) = [(m0, .inr (11, [.ref p0, .ref p1, .int i2, .ref p3, .int i4, .ref p5, .int i6, .int i7, .int i8, .int i9, .ref p10, .int i11, .ref p12, .ref p13, .ref p14, .int (u9.1 15), .ref p16, .ref p17, .int (u9.1 18), .ref p19, .ref p20, .ref p21, .ref p22, .int i23, .int i24, .ref p25, .ref p26, .ref p27, .ref p28, .ref p29, .ref p30, .ref p31, .ref p32])), (p0, .inl (cI, 1439, .inl w)), (p12, .inl (cI, 460, .inl (u9.2 12))), (p13, .inl (cI, 460, .inl (u9.2 13))), (p14, .inl (cI, 460, .inl (u9.2 14))), (p16, .inl (cI, 11, .inl (u9.2 16))), (p17, .inl (cI, 11, .inl (u9.2 17))), (p19, .inl (cI, 55, .inl (u9.2 19))), (p20, .inl (cI, 55, .inl (u9.2 20))), (p21, .inl (cI, 55, .inl (u9.2 21))), (p22, .inl (cI, 55, .inl (u9.2 22)))] := by subst hu9; rfl
            rw [hw9] at hP hD
            have hr9 : ((u32 13) k9 : Int32) = ftSmA w xq0 xq1 := by rw [hxk, ftSmA, ftIte_t ⟨⟨ft_nI0 _ (by omega), nI_le hk9 (by omega)⟩, c25⟩, nI_clamp (by omega)]; rw [ftSmK]; first | (rw [if_pos c36, hb1, hb2, hb3]; rfl) | (rw [if_neg c36, if_pos c49]; exact hb1) | (rw [if_neg c36, if_neg c49, if_pos c63]; exact hb2) | (rw [if_neg c36, if_neg c49, if_neg c63]; exact hb3)
            exact W.iret (v := (u32 13) k9) hx hb hr (fun t ht hW => ⟨⟨(u32 13) k9, u9, rfl, ⟨hr9, trivial⟩, by rw [ht]; exact hP, by rw [hAe]; exact hD⟩, by rw [hAe]; exact hS.F ht⟩) hS.2.2 dX11_sample_81
        · refine lv_aload_n hx hb dX11_sample_52 rfl (lv_at hl 0 rfl) ?_
          refine va_get (D := D) (ci := 11) (v := .ref p12) (C := RX11) (T := TX11) (N := 33) hx hb hts (by decide +kernel) hown hK hP 0 rfl rfl 12 (by decide) (hts (.fieldLink RX11 25 "FiberTraceModel" "base" "[I") (by decide +kernel)) (fun _ h9 => h9) rfl dX11_sample_53 ?_
          refine lv_iload_n hx hb dX11_sample_56 rfl (lv_at hl 1 rfl) ?_
          refine va_iald hx hb hK hP 2 0 rfl rfl (vp_in_nI (by omega) (by omega)) dX11_sample_57 ?_
          refine ft_top (y := (u32 12) k9) (ft_clampN (by omega)) ?_
          refine lv_goto (tgt := 81) hx hb dX11_sample_58 (by decide) ?_
          obtain ⟨u9, hu9⟩ : ∃ u9 : (Nat → Int32) × (Nat → Nat → Int32), u9 = ((fun k => match k with | 15 => (nI (ftCF w).1) | _ => (nI (ftCG w).1)), (fun k => match k with | 12 => (u32 12) | 13 => (u32 13) | 14 => (u32 14) | 16 => (u32 16) | 17 => (u32 17) | 19 => (u32 19) | 20 => (u32 20) | 21 => (u32 21) | _ => (u32 22))) := ⟨_, rfl⟩
          have hw9 : ([(m0, .inr (11, [.ref p0, .ref p1, .int i2, .ref p3, .int i4, .ref p5, .int i6, .int i7, .int i8, .int i9, .ref p10, .int i11, .ref p12, .ref p13, .ref p14, .int (nI (ftCF w).1), .ref p16, .ref p17, .int (nI (ftCG w).1), .ref p19, .ref p20, .ref p21, .ref p22, .int i23, .int i24, .ref p25, .ref p26, .ref p27, .ref p28, .ref p29, .ref p30, .ref p31, .ref p32])), (p0, .inl (cI, 1439, .inl w)), (p12, .inl (cI, 460, .inl (u32 12))), (p13, .inl (cI, 460, .inl (u32 13))), (p14, .inl (cI, 460, .inl (u32 14))), (p16, .inl (cI, 11, .inl (u32 16))), (p17, .inl (cI, 11, .inl (u32 17))), (p19, .inl (cI, 55, .inl (u32 19))), (p20, .inl (cI, 55, .inl (u32 20))), (p21, .inl (cI, 55, .inl (u32 21))), (p22, .inl (cI, 55, .inl (u32 22)))] : va_W) = [(m0, .inr (11, [.ref p0, .ref p1, .int i2, .ref p3, .int i4, .ref p5, .int i6, .int i7, .int i8, .int i9, .ref p10, .int i11, .ref p12, .ref p13, .ref p14, .int (u9.1 15), .ref p16, .ref p17, .int (u9.1 18), .ref p19, .ref p20, .ref p21, .ref p22, .int i23, .int i24, .ref p25, .ref p26, .ref p27, .ref p28, .ref p29, .ref p30, .ref p31, .ref p32])), (p0, .inl (cI, 1439, .inl w)), (p12, .inl (cI, 460, .inl (u9.2 12))), (p13, .inl (cI, 460, .inl (u9.2 13))), (p14, .inl (cI, 460, .inl (u9.2 14))), (p16, .inl (cI, 11, .inl (u9.2 16))), (p17, .inl (cI, 11, .inl (u9.2 17))), (p19, .inl (cI, 55, .inl (u9.2 19))), (p20, .inl (cI, 55, .inl (u9.2 20))), (p21, .inl (cI, 55, .inl (u9.2 21))), (p22, .inl (cI, 55, .inl (u9.2 22)))] := by subst hu9; rfl
          rw [hw9] at hP hD
          have hr9 : ((u32 12) k9 : Int32) = ftSmA w xq0 xq1 := by rw [hxk, ftSmA, ftIte_t ⟨⟨ft_nI0 _ (by omega), nI_le hk9 (by omega)⟩, c25⟩, nI_clamp (by omega)]; rw [ftSmK]; first | (rw [if_pos c36, hb1, hb2, hb3]; rfl) | (rw [if_neg c36, if_pos c49]; exact hb1) | (rw [if_neg c36, if_neg c49, if_pos c63]; exact hb2) | (rw [if_neg c36, if_neg c49, if_neg c63]; exact hb3)
          exact W.iret (v := (u32 12) k9) hx hb hr (fun t ht hW => ⟨⟨(u32 12) k9, u9, rfl, ⟨hr9, trivial⟩, by rw [ht]; exact hP, by rw [hAe]; exact hD⟩, by rw [hAe]; exact hS.F ht⟩) hS.2.2 dX11_sample_81
      · refine lv_aload_n hx hb dX11_sample_39 rfl (lv_at hl 0 rfl) ?_
        refine lv_iload_n hx hb dX11_sample_40 rfl (lv_at hl 1 rfl) ?_
        refine ft_csi (r := (u32 12) k9 + (u32 13) k9 + (u32 14) k9) (va_runV (C := RX11) (As := [.int (nI k9)]) (rest := []) ⟨hx, hb, hml, hown, hts⟩ (c_X11_v l D cI cS m0 p0 p1 p3 p5 p10 p12 p13 p14 p16 p17 p19 p20 p21 p22 p25 p26 p27 p28 p29 p30 p31 p32 i2 i4 i6 i7 i8 i9 i11 (nI (ftCF w).1) (nI (ftCG w).1) i23 i24 (u32 12) (u32 13) (u32 14) k9 (by first | assumption | omega)) (cwV 1 hts gX11_sample_X11_v rfl rfl rfl (by decide +kernel) ⟨Nat.le_of_ble_eq_true rfl, Nat.le_of_ble_eq_true rfl⟩) (ft_preROV (ci := 11) (q0 := 0) hP hKK [0, 2, 3, 4] rfl rfl rfl) rfl rfl hl.1 rfl (lv_room (Nat.le_of_ble_eq_true rfl)) dX11_sample_41 ⟨Nat.le_of_ble_eq_true rfl, Nat.le_of_ble_eq_true rfl⟩) ?_
        refine lv_goto (tgt := 81) hx hb dX11_sample_44 (by decide) ?_
        obtain ⟨u9, hu9⟩ : ∃ u9 : (Nat → Int32) × (Nat → Nat → Int32), u9 = ((fun k => match k with | 15 => (nI (ftCF w).1) | _ => (nI (ftCG w).1)), (fun k => match k with | 12 => (u32 12) | 13 => (u32 13) | 14 => (u32 14) | 16 => (u32 16) | 17 => (u32 17) | 19 => (u32 19) | 20 => (u32 20) | 21 => (u32 21) | _ => (u32 22))) := ⟨_, rfl⟩
        have hw9 : ([(m0, .inr (11, [.ref p0, .ref p1, .int i2, .ref p3, .int i4, .ref p5, .int i6, .int i7, .int i8, .int i9, .ref p10, .int i11, .ref p12, .ref p13, .ref p14, .int (nI (ftCF w).1), .ref p16, .ref p17, .int (nI (ftCG w).1), .ref p19, .ref p20, .ref p21, .ref p22, .int i23, .int i24, .ref p25, .ref p26, .ref p27, .ref p28, .ref p29, .ref p30, .ref p31, .ref p32])), (p0, .inl (cI, 1439, .inl w)), (p12, .inl (cI, 460, .inl (u32 12))), (p13, .inl (cI, 460, .inl (u32 13))), (p14, .inl (cI, 460, .inl (u32 14))), (p16, .inl (cI, 11, .inl (u32 16))), (p17, .inl (cI, 11, .inl (u32 17))), (p19, .inl (cI, 55, .inl (u32 19))), (p20, .inl (cI, 55, .inl (u32 20))), (p21, .inl (cI, 55, .inl (u32 21))), (p22, .inl (cI, 55, .inl (u32 22)))] : va_W) = [(m0, .inr (11, [.ref p0, .ref p1, .int i2, .ref p3, .int i4, .ref p5, .int i6, .int i7, .int i8, .int i9, .ref p10, .int i11, .ref p12, .ref p13, .ref p14, .int (u9.1 15), .ref p16, .ref p17, .int (u9.1 18), .ref p19, .ref p20, .ref p21, .ref p22, .int i23, .int i24, .ref p25, .ref p26, .ref p27, .ref p28, .ref p29, .ref p30, .ref p31, .ref p32])), (p0, .inl (cI, 1439, .inl w)), (p12, .inl (cI, 460, .inl (u9.2 12))), (p13, .inl (cI, 460, .inl (u9.2 13))), (p14, .inl (cI, 460, .inl (u9.2 14))), (p16, .inl (cI, 11, .inl (u9.2 16))), (p17, .inl (cI, 11, .inl (u9.2 17))), (p19, .inl (cI, 55, .inl (u9.2 19))), (p20, .inl (cI, 55, .inl (u9.2 20))), (p21, .inl (cI, 55, .inl (u9.2 21))), (p22, .inl (cI, 55, .inl (u9.2 22)))] := by subst hu9; rfl
        rw [hw9] at hP hD
        have hr9 : ((u32 12) k9 + (u32 13) k9 + (u32 14) k9 : Int32) = ftSmA w xq0 xq1 := by rw [hxk, ftSmA, ftIte_t ⟨⟨ft_nI0 _ (by omega), nI_le hk9 (by omega)⟩, c25⟩, nI_clamp (by omega)]; rw [ftSmK]; first | (rw [if_pos c36, hb1, hb2, hb3]; rfl) | (rw [if_neg c36, if_pos c49]; exact hb1) | (rw [if_neg c36, if_neg c49, if_pos c63]; exact hb2) | (rw [if_neg c36, if_neg c49, if_neg c63]; exact hb3)
        exact W.iret (v := (u32 12) k9 + (u32 13) k9 + (u32 14) k9) hx hb hr (fun t ht hW => ⟨⟨(u32 12) k9 + (u32 13) k9 + (u32 14) k9, u9, rfl, ⟨hr9, trivial⟩, by rw [ht]; exact hP, by rw [hAe]; exact hD⟩, by rw [hAe]; exact hS.F ht⟩) hS.2.2 dX11_sample_81
    · replace c25 := ftB_eq c25
      refine lv_ldc (v := (-1000001)) hx hb hown (hts (.constant RX11 95 (-1000001)) (by decide +kernel)) dX11_sample_28 ?_
      obtain ⟨u9, hu9⟩ : ∃ u9 : (Nat → Int32) × (Nat → Nat → Int32), u9 = ((fun k => match k with | 15 => i15 | _ => i18), (fun k => match k with | 12 => fb | 13 => fp | 14 => fn | 16 => fa | 17 => fh | 19 => ga | 20 => gh | 21 => g1 | _ => g2)) := ⟨_, rfl⟩
      have hw9 : ([(m0, .inr (11, [.ref p0, .ref p1, .int i2, .ref p3, .int i4, .ref p5, .int i6, .int i7, .int i8, .int i9, .ref p10, .int i11, .ref p12, .ref p13, .ref p14, .int i15, .ref p16, .ref p17, .int i18, .ref p19, .ref p20, .ref p21, .ref p22, .int i23, .int i24, .ref p25, .ref p26, .ref p27, .ref p28, .ref p29, .ref p30, .ref p31, .ref p32])), (p0, .inl (cI, 1439, .inl w)), (p12, .inl (cI, 460, .inl fb)), (p13, .inl (cI, 460, .inl fp)), (p14, .inl (cI, 460, .inl fn)), (p16, .inl (cI, 11, .inl fa)), (p17, .inl (cI, 11, .inl fh)), (p19, .inl (cI, 55, .inl ga)), (p20, .inl (cI, 55, .inl gh)), (p21, .inl (cI, 55, .inl g1)), (p22, .inl (cI, 55, .inl g2))] : va_W) = [(m0, .inr (11, [.ref p0, .ref p1, .int i2, .ref p3, .int i4, .ref p5, .int i6, .int i7, .int i8, .int i9, .ref p10, .int i11, .ref p12, .ref p13, .ref p14, .int (u9.1 15), .ref p16, .ref p17, .int (u9.1 18), .ref p19, .ref p20, .ref p21, .ref p22, .int i23, .int i24, .ref p25, .ref p26, .ref p27, .ref p28, .ref p29, .ref p30, .ref p31, .ref p32])), (p0, .inl (cI, 1439, .inl w)), (p12, .inl (cI, 460, .inl (u9.2 12))), (p13, .inl (cI, 460, .inl (u9.2 13))), (p14, .inl (cI, 460, .inl (u9.2 14))), (p16, .inl (cI, 11, .inl (u9.2 16))), (p17, .inl (cI, 11, .inl (u9.2 17))), (p19, .inl (cI, 55, .inl (u9.2 19))), (p20, .inl (cI, 55, .inl (u9.2 20))), (p21, .inl (cI, 55, .inl (u9.2 21))), (p22, .inl (cI, 55, .inl (u9.2 22)))] := by subst hu9; rfl
      rw [hw9] at hP hD
      have hr9 : ((-1000001) : Int32) = ftSmA w xq0 xq1 := by first | exact (ftIte_f (fun q => c13 q.1)).symm | exact (ftIte_f (fun q => c25 q.2)).symm
      exact W.iret (v := (-1000001)) hx hb hr (fun t ht hW => ⟨⟨(-1000001), u9, rfl, ⟨hr9, trivial⟩, by rw [ht]; exact hP, by rw [hAe]; exact hD⟩, by rw [hAe]; exact hS.F ht⟩) hS.2.2 dX11_sample_30
set_option maxHeartbeats 4000000 in
set_option maxRecDepth 100000 in
theorem c_X11_echo (l : Launch) (D : va_G) (cI cS : ClassId) (sz : Nat) (m0 p0 p1 p3 p5 p10 p12 p13 p14 p16 p17 p19 p20 p21 p22 p25 p26 p27 p28 p29 p30 p31 p32 : Nat) (i2 i4 i6 i7 i8 i9 i11 i15 i18 i23 i24 : Int32) (w fa fh ga gh g1 g2 : Nat → Int32) (xq0 xq1 : Int32) (hwf : ftWf w) : Met l yX11_echo wsX11_echo ({ frames := 2, cells := 0, slots := 0, locals := 48 }) (ftRW D cI cS [.ref m0, .int xq0, .int xq1] [(m0, .inr (11, [.ref p0, .ref p1, .int i2, .ref p3, .int i4, .ref p5, .int i6, .int i7, .int i8, .int i9, .ref p10, .int i11, .ref p12, .ref p13, .ref p14, .int i15, .ref p16, .ref p17, .int i18, .ref p19, .ref p20, .ref p21, .ref p22, .int i23, .int i24, .ref p25, .ref p26, .ref p27, .ref p28, .ref p29, .ref p30, .ref p31, .ref p32])), (p0, .inl (cI, 1439, .inl w)), (p16, .inl (cI, 11, .inl fa)), (p17, .inl (cI, 11, .inl fh)), (p19, .inl (cI, 55, .inl ga)), (p20, .inl (cI, 55, .inl gh)), (p21, .inl (cI, 55, .inl g1)), (p22, .inl (cI, 55, .inl g2))] sz) (ftXi D [(m0, .inr (11, [.ref p0, .ref p1, .int i2, .ref p3, .int i4, .ref p5, .int i6, .int i7, .int i8, .int i9, .ref p10, .int i11, .ref p12, .ref p13, .ref p14, .int i15, .ref p16, .ref p17, .int i18, .ref p19, .ref p20, .ref p21, .ref p22, .int i23, .int i24, .ref p25, .ref p26, .ref p27, .ref p28, .ref p29, .ref p30, .ref p31, .ref p32])), (p0, .inl (cI, 1439, .inl w)), (p16, .inl (cI, 11, .inl fa)), (p17, .inl (cI, 11, .inl fh)), (p19, .inl (cI, 55, .inl ga)), (p20, .inl (cI, 55, .inl gh)), (p21, .inl (cI, 55, .inl g1)), (p22, .inl (cI, 55, .inl g2))] sz (fun (o9 : Int32) (u : (Nat → Int32) × (Nat → Nat → Int32)) => o9 = ftEcA w xq0 xq1 ∧ True) (fun (u : (Nat → Int32) × (Nat → Nat → Int32)) => [(m0, .inr (11, [.ref p0, .ref p1, .int i2, .ref p3, .int i4, .ref p5, .int i6, .int i7, .int i8, .int i9, .ref p10, .int i11, .ref p12, .ref p13, .ref p14, .int (u.1 15), .ref p16, .ref p17, .int (u.1 18), .ref p19, .ref p20, .ref p21, .ref p22, .int i23, .int i24, .ref p25, .ref p26, .ref p27, .ref p28, .ref p29, .ref p30, .ref p31, .ref p32])), (p0, .inl (cI, 1439, .inl w)), (p16, .inl (cI, 11, .inl (u.2 16))), (p17, .inl (cI, 11, .inl (u.2 17))), (p19, .inl (cI, 55, .inl (u.2 19))), (p20, .inl (cI, 55, .inl (u.2 20))), (p21, .inl (cI, 55, .inl (u.2 21))), (p22, .inl (cI, 55, .inl (u.2 22)))])) 0 0 (va_A [(m0, .inr (11, [.ref p0, .ref p1, .int i2, .ref p3, .int i4, .ref p5, .int i6, .int i7, .int i8, .int i9, .ref p10, .int i11, .ref p12, .ref p13, .ref p14, .int i15, .ref p16, .ref p17, .int i18, .ref p19, .ref p20, .ref p21, .ref p22, .int i23, .int i24, .ref p25, .ref p26, .ref p27, .ref p28, .ref p29, .ref p30, .ref p31, .ref p32])), (p0, .inl (cI, 1439, .inl w)), (p16, .inl (cI, 11, .inl fa)), (p17, .inl (cI, 11, .inl fh)), (p19, .inl (cI, 55, .inl ga)), (p20, .inl (cI, 55, .inl gh)), (p21, .inl (cI, 55, .inl g1)), (p22, .inl (cI, 55, .inl g2))] sz) := by
  refine Met.ofW (cc := cX11_echo) (maxL := 3) (ret := (some .int)) (by decide) rfl ?_
  intro p e s m args below meth c s₁ B hml hv
  obtain ⟨rfl, hsz, hP, hKK, hD0⟩ := hv
  have hK := hKK.1
  have hx := B.exec
  have hb := B.bytes
  have hr := B.returns
  have hts := atoms_spec (ws := wsX11_echo) B.pre
  have hown : s.vm.findClass RX11 = some m.cls := findClass_of_methodNamed B.named
  have hlocks := B.notSynchronized
  subst hsz
  have hD := hD0.self (sz := s.heap.size)
  generalize hAe : va_A [(m0, .inr (11, [.ref p0, .ref p1, .int i2, .ref p3, .int i4, .ref p5, .int i6, .int i7, .int i8, .int i9, .ref p10, .int i11, .ref p12, .ref p13, .ref p14, .int i15, .ref p16, .ref p17, .int i18, .ref p19, .ref p20, .ref p21, .ref p22, .int i23, .int i24, .ref p25, .ref p26, .ref p27, .ref p28, .ref p29, .ref p30, .ref p31, .ref p32])), (p0, .inl (cI, 1439, .inl w)), (p16, .inl (cI, 11, .inl fa)), (p17, .inl (cI, 11, .inl fh)), (p19, .inl (cI, 55, .inl ga)), (p20, .inl (cI, 55, .inl gh)), (p21, .inl (cI, 55, .inl g1)), (p22, .inl (cI, 55, .inl g2))] s.heap.size = A at hD ⊢
  have hA : ∀ q : Nat, s.heap.size ≤ q → A q := fun q h => by rw [← hAe]; exact Or.inr h
  have hS : va_S A s.heap s.heap [] := va_S.rf
  have hD : va_D A [(m0, .inr (11, [.ref p0, .ref p1, .int i2, .ref p3, .int i4, .ref p5, .int i6, .int i7, .int i8, .int i9, .ref p10, .int i11, .ref p12, .ref p13, .ref p14, .int i15, .ref p16, .ref p17, .int i18, .ref p19, .ref p20, .ref p21, .ref p22, .int i23, .int i24, .ref p25, .ref p26, .ref p27, .ref p28, .ref p29, .ref p30, .ref p31, .ref p32])), (p0, .inl (cI, 1439, .inl w)), (p16, .inl (cI, 11, .inl fa)), (p17, .inl (cI, 11, .inl fh)), (p19, .inl (cI, 55, .inl ga)), (p20, .inl (cI, 55, .inl gh)), (p21, .inl (cI, 55, .inl g1)), (p22, .inl (cI, 55, .inl g2))] := hD
  have hP : va_P D vwCl [(m0, .inr (11, [.ref p0, .ref p1, .int i2, .ref p3, .int i4, .ref p5, .int i6, .int i7, .int i8, .int i9, .ref p10, .int i11, .ref p12, .ref p13, .ref p14, .int i15, .ref p16, .ref p17, .int i18, .ref p19, .ref p20, .ref p21, .ref p22, .int i23, .int i24, .ref p25, .ref p26, .ref p27, .ref p28, .ref p29, .ref p30, .ref p31, .ref p32])), (p0, .inl (cI, 1439, .inl w)), (p16, .inl (cI, 11, .inl fa)), (p17, .inl (cI, 11, .inl fh)), (p19, .inl (cI, 55, .inl ga)), (p20, .inl (cI, 55, .inl gh)), (p21, .inl (cI, 55, .inl g1)), (p22, .inl (cI, 55, .inl g2))] s.heap := hP
  have hl := lv_entry ([.ref m0, .int xq0, .int xq1]) (n := 3) (Nat.le_of_ble_eq_true rfl)
  rw [lg_entry_eq]
  generalize (lg_sl ([.ref m0, .int xq0, .int xq1]) ++ List.replicate (3 - (lg_sl ([.ref m0, .int xq0, .int xq1])).length) Slot.unset).toArray = ls at hl ⊢
  have hl : lv_has ls 3 [(0, .ref m0), (1, .int xq0), (2, .int xq1)] := hl
  have hw3 := ftWf_3 hwf
  have hn := ftWf_n hwf
  have hw0 := ftWf_0 hwf
  have hln := ftWf_ln hwf
  have hlg := ftWf_lg hwf
  have hg55 := ftCG_le hwf
  refine lv_iload_n hx hb dX11_echo_0 rfl (lv_at hl 1 rfl) ?_
  refine lv_if_lt (tgt := 16) hx hb dX11_echo_1 (by decide) (fun c1 => ?_) (fun c1 => ?_)
  · have hno : ¬ (¬ xq0 < 0 ∧ 0 ≤ xq1 ∧ xq1 ≤ 3) := fun q => q.1 c1
    refine lv_ldc (v := (-1000001)) hx hb hown (hts (.constant RX11 95 (-1000001)) (by decide +kernel)) dX11_echo_16 ?_
    obtain ⟨u9, hu9⟩ : ∃ u9 : (Nat → Int32) × (Nat → Nat → Int32), u9 = ((fun k => match k with | 15 => i15 | _ => i18), (fun k => match k with | 16 => fa | 17 => fh | 19 => ga | 20 => gh | 21 => g1 | _ => g2)) := ⟨_, rfl⟩
    have hw9 : ([(m0, .inr (11, [.ref p0, .ref p1, .int i2, .ref p3, .int i4, .ref p5, .int i6, .int i7, .int i8, .int i9, .ref p10, .int i11, .ref p12, .ref p13, .ref p14, .int i15, .ref p16, .ref p17, .int i18, .ref p19, .ref p20, .ref p21, .ref p22, .int i23, .int i24, .ref p25, .ref p26, .ref p27, .ref p28, .ref p29, .ref p30, .ref p31, .ref p32])), (p0, .inl (cI, 1439, .inl w)), (p16, .inl (cI, 11, .inl fa)), (p17, .inl (cI, 11, .inl fh)), (p19, .inl (cI, 55, .inl ga)), (p20, .inl (cI, 55, .inl gh)), (p21, .inl (cI, 55, .inl g1)), (p22, .inl (cI, 55, .inl g2))] : va_W) = [(m0, .inr (11, [.ref p0, .ref p1, .int i2, .ref p3, .int i4, .ref p5, .int i6, .int i7, .int i8, .int i9, .ref p10, .int i11, .ref p12, .ref p13, .ref p14, .int (u9.1 15), .ref p16, .ref p17, .int (u9.1 18), .ref p19, .ref p20, .ref p21, .ref p22, .int i23, .int i24, .ref p25, .ref p26, .ref p27, .ref p28, .ref p29, .ref p30, .ref p31, .ref p32])), (p0, .inl (cI, 1439, .inl w)), (p16, .inl (cI, 11, .inl (u9.2 16))), (p17, .inl (cI, 11, .inl (u9.2 17))), (p19, .inl (cI, 55, .inl (u9.2 19))), (p20, .inl (cI, 55, .inl (u9.2 20))), (p21, .inl (cI, 55, .inl (u9.2 21))), (p22, .inl (cI, 55, .inl (u9.2 22)))] := by subst hu9; rfl
    rw [hw9] at hP hD
    have hr9 : ((-1000001) : Int32) = ftEcA w xq0 xq1 := by exact (ftIte_f hno).symm
    exact W.iret (v := (-1000001)) hx hb hr (fun t ht hW => ⟨⟨(-1000001), u9, rfl, ⟨hr9, trivial⟩, by rw [ht]; exact hP, by rw [hAe]; exact hD⟩, by rw [hAe]; exact hS.F ht⟩) hS.2.2 dX11_echo_18
  · refine lv_iload_n hx hb dX11_echo_4 rfl (lv_at hl 2 rfl) ?_
    refine lv_i2l (v := xq1.toInt64) hx hb dX11_echo_5 rfl ?_
    refine lv_lconst (v := 0) hx hb dX11_echo_6 (by decide) ?_
    refine lv_ldc2 (v := 3) hx hb hown (hts (.constantLong RX11 227 3) (by decide +kernel)) dX11_echo_7 ?_
    refine ft_csi (r := ftB (0 ≤ xq1.toInt64 ∧ xq1.toInt64 ≤ 3)) (va_runS (As := [.long xq1.toInt64, .long 0, .long 3]) (rest := []) ⟨hx, hb, hml, hown, hts⟩ (c_X11_in l D cI cS xq1.toInt64 0 3) (va_cwS 3 hts gX11_echo_X11_in rfl rfl rfl (by decide +kernel) ⟨Nat.le_of_ble_eq_true rfl, Nat.le_of_ble_eq_true rfl⟩) (ft_preRO hP hKK [] rfl) rfl rfl hl.1 rfl (lv_room (Nat.le_of_ble_eq_true rfl)) dX11_echo_10 ⟨Nat.le_of_ble_eq_true rfl, Nat.le_of_ble_eq_true rfl⟩) ?_
    refine ft_top (y := ftB (0 ≤ xq1 ∧ xq1 ≤ 3)) (ft_in64 (by decide) (by decide)) ?_
    refine lv_if_ne (tgt := 19) hx hb dX11_echo_13 (by decide) (fun c13 => ?_) (fun c13 => ?_)
    · replace c13 := ftB_ne c13
      refine lv_aload_n hx hb dX11_echo_19 rfl (lv_at hl 0 rfl) ?_
      refine ft_cxv (S := Nat → Nat → Int32) (wc := [(m0, .inr (11, [.ref p0, .ref p1, .int i2, .ref p3, .int i4, .ref p5, .int i6, .int i7, .int i8, .int i9, .ref p10, .int i11, .ref p12, .ref p13, .ref p14, .int i15, .ref p16, .ref p17, .int i18, .ref p19, .ref p20, .ref p21, .ref p22, .int i23, .int i24, .ref p25, .ref p26, .ref p27, .ref p28, .ref p29, .ref p30, .ref p31, .ref p32])), (p0, .inl (cI, 1439, .inl w)), (p16, .inl (cI, 11, .inl fa)), (p17, .inl (cI, 11, .inl fh)), (p19, .inl (cI, 55, .inl ga)), (p20, .inl (cI, 55, .inl gh)), (p21, .inl (cI, 55, .inl g1)), (p22, .inl (cI, 55, .inl g2))]) (wr := []) (w1 := (fun (u20 : Nat → Nat → Int32) => [(m0, .inr (11, [.ref p0, .ref p1, .int i2, .ref p3, .int i4, .ref p5, .int i6, .int i7, .int i8, .int i9, .ref p10, .int i11, .ref p12, .ref p13, .ref p14, .int (nI (ftCF w).1), .ref p16, .ref p17, .int (nI (ftCG w).1), .ref p19, .ref p20, .ref p21, .ref p22, .int i23, .int i24, .ref p25, .ref p26, .ref p27, .ref p28, .ref p29, .ref p30, .ref p31, .ref p32])), (p0, .inl (cI, 1439, .inl w)), (p16, .inl (cI, 11, .inl (u20 16))), (p17, .inl (cI, 11, .inl (u20 17))), (p19, .inl (cI, 55, .inl (u20 19))), (p20, .inl (cI, 55, .inl (u20 20))), (p21, .inl (cI, 55, .inl (u20 21))), (p22, .inl (cI, 55, .inl (u20 22)))])) (ws1 := (fun (u20 : Nat → Nat → Int32) => [(m0, .inr (11, [.ref p0, .ref p1, .int i2, .ref p3, .int i4, .ref p5, .int i6, .int i7, .int i8, .int i9, .ref p10, .int i11, .ref p12, .ref p13, .ref p14, .int (nI (ftCF w).1), .ref p16, .ref p17, .int (nI (ftCG w).1), .ref p19, .ref p20, .ref p21, .ref p22, .int i23, .int i24, .ref p25, .ref p26, .ref p27, .ref p28, .ref p29, .ref p30, .ref p31, .ref p32])), (p0, .inl (cI, 1439, .inl w)), (p16, .inl (cI, 11, .inl (u20 16))), (p17, .inl (cI, 11, .inl (u20 17))), (p19, .inl (cI, 55, .inl (u20 19))), (p20, .inl (cI, 55, .inl (u20 20))), (p21, .inl (cI, 55, .inl (u20 21))), (p22, .inl (cI, 55, .inl (u20 22)))])) (va_runV (C := RX11) (As := []) (rest := []) ⟨hx, hb, hml, hown, hts⟩ (c_X11_layFlashesx l D cI cS s.heap.size m0 p0 p1 p3 p5 p10 p12 p13 p14 p16 p17 p19 p20 p21 p22 p25 p26 p27 p28 p29 p30 p31 p32 i2 i4 i6 i7 i8 i9 i11 i15 i18 i23 i24 w fa fh ga gh g1 g2 (by first | assumption | omega)) (cwV 0 hts gX11_echo_X11_layFlashes rfl rfl rfl (by decide +kernel) ⟨Nat.le_of_ble_eq_true rfl, Nat.le_of_ble_eq_true rfl⟩) (ft_preRWV (ci := 11) (q0 := 0) hP hD hKK [0, 1, 2, 3, 4, 5, 6, 7] rfl rfl rfl rfl rfl) rfl rfl hl.1 rfl (lv_room (Nat.le_of_ble_eq_true rfl)) dX11_echo_20 ⟨Nat.le_of_ble_eq_true rfl, Nat.le_of_ble_eq_true rfl⟩) hP hD hS hA [0, 1, 2, 3, 4, 5, 6, 7] [] [0, 1, 2, 3, 4, 5, 6, 7] rfl rfl (by decide) (by decide) (by decide) (fun _ => rfl) (fun _ => rfl) (fun u20 hu20 H locs hP hD hS => ?_)
      have hg20 := hu20
      have hP : va_P D vwCl [(m0, .inr (11, [.ref p0, .ref p1, .int i2, .ref p3, .int i4, .ref p5, .int i6, .int i7, .int i8, .int i9, .ref p10, .int i11, .ref p12, .ref p13, .ref p14, .int (nI (ftCF w).1), .ref p16, .ref p17, .int (nI (ftCG w).1), .ref p19, .ref p20, .ref p21, .ref p22, .int i23, .int i24, .ref p25, .ref p26, .ref p27, .ref p28, .ref p29, .ref p30, .ref p31, .ref p32])), (p0, .inl (cI, 1439, .inl w)), (p16, .inl (cI, 11, .inl (u20 16))), (p17, .inl (cI, 11, .inl (u20 17))), (p19, .inl (cI, 55, .inl (u20 19))), (p20, .inl (cI, 55, .inl (u20 20))), (p21, .inl (cI, 55, .inl (u20 21))), (p22, .inl (cI, 55, .inl (u20 22)))] H := hP
      have hD : va_D A [(m0, .inr (11, [.ref p0, .ref p1, .int i2, .ref p3, .int i4, .ref p5, .int i6, .int i7, .int i8, .int i9, .ref p10, .int i11, .ref p12, .ref p13, .ref p14, .int (nI (ftCF w).1), .ref p16, .ref p17, .int (nI (ftCG w).1), .ref p19, .ref p20, .ref p21, .ref p22, .int i23, .int i24, .ref p25, .ref p26, .ref p27, .ref p28, .ref p29, .ref p30, .ref p31, .ref p32])), (p0, .inl (cI, 1439, .inl w)), (p16, .inl (cI, 11, .inl (u20 16))), (p17, .inl (cI, 11, .inl (u20 17))), (p19, .inl (cI, 55, .inl (u20 19))), (p20, .inl (cI, 55, .inl (u20 20))), (p21, .inl (cI, 55, .inl (u20 21))), (p22, .inl (cI, 55, .inl (u20 22)))] := hD
      refine lv_iload_n hx hb dX11_echo_23 rfl (lv_at hl 1 rfl) ?_
      refine lv_aload_n hx hb dX11_echo_24 rfl (lv_at hl 0 rfl) ?_
      refine va_get (D := D) (ci := 11) (v := .int (nI (ftCG w).1)) (C := RX11) (T := TX11) (N := 33) hx hb hts (by decide +kernel) hown hK hP 0 rfl rfl 18 (by decide) (hts (.fieldLink RX11 208 "FiberTraceModel" "ghostMany" "I") (by decide +kernel)) (fun _ h9 => h9) rfl dX11_echo_25 ?_
      refine lv_icmp_lt (tgt := 34) hx hb dX11_echo_28 (by decide) (fun c28 => ?_) (fun c28 => ?_)
      · have hk9 := ftI_lt (Int32.not_lt.mp c1) c28 (by omega)
        have hxk := (ftI_nat (Int32.not_lt.mp c1)).1
        generalize hk8 : xq0.toNatClampNeg = k9 at hk9 hxk
        rw [hxk] at hl
        obtain ⟨hg1, hg2, hg3, hg4⟩ := hg20 k9 hk9
        refine lv_iload_n hx hb dX11_echo_34 rfl (lv_at hl 2 rfl) ?_
        refine lv_if_ne (tgt := 47) hx hb dX11_echo_35 (by decide) (fun c35 => ?_) (fun c35 => ?_)
        · refine lv_iload_n hx hb dX11_echo_47 rfl (lv_at hl 2 rfl) ?_
          refine lv_iconst (v := 1) hx hb dX11_echo_48 (by decide) ?_
          refine lv_icmp_ne (tgt := 61) hx hb dX11_echo_49 (by decide) (fun c49 => ?_) (fun c49 => ?_)
          · refine lv_iload_n hx hb dX11_echo_61 rfl (lv_at hl 2 rfl) ?_
            refine lv_iconst (v := 2) hx hb dX11_echo_62 (by decide) ?_
            refine lv_icmp_ne (tgt := 75) hx hb dX11_echo_63 (by decide) (fun c63 => ?_) (fun c63 => ?_)
            · refine lv_aload_n hx hb dX11_echo_75 rfl (lv_at hl 0 rfl) ?_
              refine va_get (D := D) (ci := 11) (v := .ref p22) (C := RX11) (T := TX11) (N := 33) hx hb hts (by decide +kernel) hown hK hP 0 rfl rfl 22 (by decide) (hts (.fieldLink RX11 49 "FiberTraceModel" "ghostTwo" "[I") (by decide +kernel)) (fun _ h9 => h9) rfl dX11_echo_76 ?_
              refine lv_iload_n hx hb dX11_echo_79 rfl (lv_at hl 1 rfl) ?_
              refine va_iald hx hb hK hP 7 0 rfl rfl (vp_in_nI (by omega) (by omega)) dX11_echo_80 ?_
              refine ft_top (y := (u20 22) k9) (ft_clampN (by omega)) ?_
              obtain ⟨u9, hu9⟩ : ∃ u9 : (Nat → Int32) × (Nat → Nat → Int32), u9 = ((fun k => match k with | 15 => (nI (ftCF w).1) | _ => (nI (ftCG w).1)), (fun k => match k with | 16 => (u20 16) | 17 => (u20 17) | 19 => (u20 19) | 20 => (u20 20) | 21 => (u20 21) | _ => (u20 22))) := ⟨_, rfl⟩
              have hw9 : ([(m0, .inr (11, [.ref p0, .ref p1, .int i2, .ref p3, .int i4, .ref p5, .int i6, .int i7, .int i8, .int i9, .ref p10, .int i11, .ref p12, .ref p13, .ref p14, .int (nI (ftCF w).1), .ref p16, .ref p17, .int (nI (ftCG w).1), .ref p19, .ref p20, .ref p21, .ref p22, .int i23, .int i24, .ref p25, .ref p26, .ref p27, .ref p28, .ref p29, .ref p30, .ref p31, .ref p32])), (p0, .inl (cI, 1439, .inl w)), (p16, .inl (cI, 11, .inl (u20 16))), (p17, .inl (cI, 11, .inl (u20 17))), (p19, .inl (cI, 55, .inl (u20 19))), (p20, .inl (cI, 55, .inl (u20 20))), (p21, .inl (cI, 55, .inl (u20 21))), (p22, .inl (cI, 55, .inl (u20 22)))] : va_W) = [(m0, .inr (11, [.ref p0, .ref p1, .int i2, .ref p3, .int i4, .ref p5, .int i6, .int i7, .int i8, .int i9, .ref p10, .int i11, .ref p12, .ref p13, .ref p14, .int (u9.1 15), .ref p16, .ref p17, .int (u9.1 18), .ref p19, .ref p20, .ref p21, .ref p22, .int i23, .int i24, .ref p25, .ref p26, .ref p27, .ref p28, .ref p29, .ref p30, .ref p31, .ref p32])), (p0, .inl (cI, 1439, .inl w)), (p16, .inl (cI, 11, .inl (u9.2 16))), (p17, .inl (cI, 11, .inl (u9.2 17))), (p19, .inl (cI, 55, .inl (u9.2 19))), (p20, .inl (cI, 55, .inl (u9.2 20))), (p21, .inl (cI, 55, .inl (u9.2 21))), (p22, .inl (cI, 55, .inl (u9.2 22)))] := by subst hu9; rfl
              rw [hw9] at hP hD
              have hr9 : ((u20 22) k9 : Int32) = ftEcA w xq0 xq1 := by rw [ftEcA, ftIte_t ⟨c1, c13⟩, ftIte_t c28, hk8, ftEcK]; first | (rw [if_pos c35]; exact hg1) | (rw [if_neg c35, if_pos c49]; exact hg2) | (rw [if_neg c35, if_neg c49, if_pos c63]; exact hg3) | (rw [if_neg c35, if_neg c49, if_neg c63]; exact hg4)
              exact W.iret (v := (u20 22) k9) hx hb hr (fun t ht hW => ⟨⟨(u20 22) k9, u9, rfl, ⟨hr9, trivial⟩, by rw [ht]; exact hP, by rw [hAe]; exact hD⟩, by rw [hAe]; exact hS.F ht⟩) hS.2.2 dX11_echo_81
            · refine lv_aload_n hx hb dX11_echo_66 rfl (lv_at hl 0 rfl) ?_
              refine va_get (D := D) (ci := 11) (v := .ref p21) (C := RX11) (T := TX11) (N := 33) hx hb hts (by decide +kernel) hown hK hP 0 rfl rfl 21 (by decide) (hts (.fieldLink RX11 46 "FiberTraceModel" "ghostOne" "[I") (by decide +kernel)) (fun _ h9 => h9) rfl dX11_echo_67 ?_
              refine lv_iload_n hx hb dX11_echo_70 rfl (lv_at hl 1 rfl) ?_
              refine va_iald hx hb hK hP 6 0 rfl rfl (vp_in_nI (by omega) (by omega)) dX11_echo_71 ?_
              refine ft_top (y := (u20 21) k9) (ft_clampN (by omega)) ?_
              refine lv_goto (tgt := 81) hx hb dX11_echo_72 (by decide) ?_
              obtain ⟨u9, hu9⟩ : ∃ u9 : (Nat → Int32) × (Nat → Nat → Int32), u9 = ((fun k => match k with | 15 => (nI (ftCF w).1) | _ => (nI (ftCG w).1)), (fun k => match k with | 16 => (u20 16) | 17 => (u20 17) | 19 => (u20 19) | 20 => (u20 20) | 21 => (u20 21) | _ => (u20 22))) := ⟨_, rfl⟩
              have hw9 : ([(m0, .inr (11, [.ref p0, .ref p1, .int i2, .ref p3, .int i4, .ref p5, .int i6, .int i7, .int i8, .int i9, .ref p10, .int i11, .ref p12, .ref p13, .ref p14, .int (nI (ftCF w).1), .ref p16, .ref p17, .int (nI (ftCG w).1), .ref p19, .ref p20, .ref p21, .ref p22, .int i23, .int i24, .ref p25, .ref p26, .ref p27, .ref p28, .ref p29, .ref p30, .ref p31, .ref p32])), (p0, .inl (cI, 1439, .inl w)), (p16, .inl (cI, 11, .inl (u20 16))), (p17, .inl (cI, 11, .inl (u20 17))), (p19, .inl (cI, 55, .inl (u20 19))), (p20, .inl (cI, 55, .inl (u20 20))), (p21, .inl (cI, 55, .inl (u20 21))), (p22, .inl (cI, 55, .inl (u20 22)))] : va_W) = [(m0, .inr (11, [.ref p0, .ref p1, .int i2, .ref p3, .int i4, .ref p5, .int i6, .int i7, .int i8, .int i9, .ref p10, .int i11, .ref p12, .ref p13, .ref p14, .int (u9.1 15), .ref p16, .ref p17, .int (u9.1 18), .ref p19, .ref p20, .ref p21, .ref p22, .int i23, .int i24, .ref p25, .ref p26, .ref p27, .ref p28, .ref p29, .ref p30, .ref p31, .ref p32])), (p0, .inl (cI, 1439, .inl w)), (p16, .inl (cI, 11, .inl (u9.2 16))), (p17, .inl (cI, 11, .inl (u9.2 17))), (p19, .inl (cI, 55, .inl (u9.2 19))), (p20, .inl (cI, 55, .inl (u9.2 20))), (p21, .inl (cI, 55, .inl (u9.2 21))), (p22, .inl (cI, 55, .inl (u9.2 22)))] := by subst hu9; rfl
              rw [hw9] at hP hD
              have hr9 : ((u20 21) k9 : Int32) = ftEcA w xq0 xq1 := by rw [ftEcA, ftIte_t ⟨c1, c13⟩, ftIte_t c28, hk8, ftEcK]; first | (rw [if_pos c35]; exact hg1) | (rw [if_neg c35, if_pos c49]; exact hg2) | (rw [if_neg c35, if_neg c49, if_pos c63]; exact hg3) | (rw [if_neg c35, if_neg c49, if_neg c63]; exact hg4)
              exact W.iret (v := (u20 21) k9) hx hb hr (fun t ht hW => ⟨⟨(u20 21) k9, u9, rfl, ⟨hr9, trivial⟩, by rw [ht]; exact hP, by rw [hAe]; exact hD⟩, by rw [hAe]; exact hS.F ht⟩) hS.2.2 dX11_echo_81
          · refine lv_aload_n hx hb dX11_echo_52 rfl (lv_at hl 0 rfl) ?_
            refine va_get (D := D) (ci := 11) (v := .ref p20) (C := RX11) (T := TX11) (N := 33) hx hb hts (by decide +kernel) hown hK hP 0 rfl rfl 20 (by decide) (hts (.fieldLink RX11 43 "FiberTraceModel" "ghostHigh" "[I") (by decide +kernel)) (fun _ h9 => h9) rfl dX11_echo_53 ?_
            refine lv_iload_n hx hb dX11_echo_56 rfl (lv_at hl 1 rfl) ?_
            refine va_iald hx hb hK hP 5 0 rfl rfl (vp_in_nI (by omega) (by omega)) dX11_echo_57 ?_
            refine ft_top (y := (u20 20) k9) (ft_clampN (by omega)) ?_
            refine lv_goto (tgt := 81) hx hb dX11_echo_58 (by decide) ?_
            obtain ⟨u9, hu9⟩ : ∃ u9 : (Nat → Int32) × (Nat → Nat → Int32), u9 = ((fun k => match k with | 15 => (nI (ftCF w).1) | _ => (nI (ftCG w).1)), (fun k => match k with | 16 => (u20 16) | 17 => (u20 17) | 19 => (u20 19) | 20 => (u20 20) | 21 => (u20 21) | _ => (u20 22))) := ⟨_, rfl⟩
            have hw9 : ([(m0, .inr (11, [.ref p0, .ref p1, .int i2, .ref p3, .int i4, .ref p5, .int i6, .int i7, .int i8, .int i9, .ref p10, .int i11, .ref p12, .ref p13, .ref p14, .int (nI (ftCF w).1), .ref p16, .ref p17, .int (nI (ftCG w).1), .ref p19, .ref p20, .ref p21, .ref p22, .int i23, .int i24, .ref p25, .ref p26, .ref p27, .ref p28, .ref p29, .ref p30, .ref p31, .ref p32])), (p0, .inl (cI, 1439, .inl w)), (p16, .inl (cI, 11, .inl (u20 16))), (p17, .inl (cI, 11, .inl (u20 17))), (p19, .inl (cI, 55, .inl (u20 19))), (p20, .inl (cI, 55, .inl (u20 20))), (p21, .inl (cI, 55, .inl (u20 21))), (p22, .inl (cI, 55, .inl (u20 22)))] : va_W) = [(m0, .inr (11, [.ref p0, .ref p1, .int i2, .ref p3, .int i4, .ref p5, .int i6, .int i7, .int i8, .int i9, .ref p10, .int i11, .ref p12, .ref p13, .ref p14, .int (u9.1 15), .ref p16, .ref p17, .int (u9.1 18), .ref p19, .ref p20, .ref p21, .ref p22, .int i23, .int i24, .ref p25, .ref p26, .ref p27, .ref p28, .ref p29, .ref p30, .ref p31, .ref p32])), (p0, .inl (cI, 1439, .inl w)), (p16, .inl (cI, 11, .inl (u9.2 16))), (p17, .inl (cI, 11, .inl (u9.2 17))), (p19, .inl (cI, 55, .inl (u9.2 19))), (p20, .inl (cI, 55, .inl (u9.2 20))), (p21, .inl (cI, 55, .inl (u9.2 21))), (p22, .inl (cI, 55, .inl (u9.2 22)))] := by subst hu9; rfl
            rw [hw9] at hP hD
            have hr9 : ((u20 20) k9 : Int32) = ftEcA w xq0 xq1 := by rw [ftEcA, ftIte_t ⟨c1, c13⟩, ftIte_t c28, hk8, ftEcK]; first | (rw [if_pos c35]; exact hg1) | (rw [if_neg c35, if_pos c49]; exact hg2) | (rw [if_neg c35, if_neg c49, if_pos c63]; exact hg3) | (rw [if_neg c35, if_neg c49, if_neg c63]; exact hg4)
            exact W.iret (v := (u20 20) k9) hx hb hr (fun t ht hW => ⟨⟨(u20 20) k9, u9, rfl, ⟨hr9, trivial⟩, by rw [ht]; exact hP, by rw [hAe]; exact hD⟩, by rw [hAe]; exact hS.F ht⟩) hS.2.2 dX11_echo_81
        · refine lv_aload_n hx hb dX11_echo_38 rfl (lv_at hl 0 rfl) ?_
          refine va_get (D := D) (ci := 11) (v := .ref p19) (C := RX11) (T := TX11) (N := 33) hx hb hts (by decide +kernel) hown hK hP 0 rfl rfl 19 (by decide) (hts (.fieldLink RX11 40 "FiberTraceModel" "ghostAt" "[I") (by decide +kernel)) (fun _ h9 => h9) rfl dX11_echo_39 ?_
          refine lv_iload_n hx hb dX11_echo_42 rfl (lv_at hl 1 rfl) ?_
          refine va_iald hx hb hK hP 4 0 rfl rfl (vp_in_nI (by omega) (by omega)) dX11_echo_43 ?_
          refine ft_top (y := (u20 19) k9) (ft_clampN (by omega)) ?_
          refine lv_goto (tgt := 81) hx hb dX11_echo_44 (by decide) ?_
          obtain ⟨u9, hu9⟩ : ∃ u9 : (Nat → Int32) × (Nat → Nat → Int32), u9 = ((fun k => match k with | 15 => (nI (ftCF w).1) | _ => (nI (ftCG w).1)), (fun k => match k with | 16 => (u20 16) | 17 => (u20 17) | 19 => (u20 19) | 20 => (u20 20) | 21 => (u20 21) | _ => (u20 22))) := ⟨_, rfl⟩
          have hw9 : ([(m0, .inr (11, [.ref p0, .ref p1, .int i2, .ref p3, .int i4, .ref p5, .int i6, .int i7, .int i8, .int i9, .ref p10, .int i11, .ref p12, .ref p13, .ref p14, .int (nI (ftCF w).1), .ref p16, .ref p17, .int (nI (ftCG w).1), .ref p19, .ref p20, .ref p21, .ref p22, .int i23, .int i24, .ref p25, .ref p26, .ref p27, .ref p28, .ref p29, .ref p30, .ref p31, .ref p32])), (p0, .inl (cI, 1439, .inl w)), (p16, .inl (cI, 11, .inl (u20 16))), (p17, .inl (cI, 11, .inl (u20 17))), (p19, .inl (cI, 55, .inl (u20 19))), (p20, .inl (cI, 55, .inl (u20 20))), (p21, .inl (cI, 55, .inl (u20 21))), (p22, .inl (cI, 55, .inl (u20 22)))] : va_W) = [(m0, .inr (11, [.ref p0, .ref p1, .int i2, .ref p3, .int i4, .ref p5, .int i6, .int i7, .int i8, .int i9, .ref p10, .int i11, .ref p12, .ref p13, .ref p14, .int (u9.1 15), .ref p16, .ref p17, .int (u9.1 18), .ref p19, .ref p20, .ref p21, .ref p22, .int i23, .int i24, .ref p25, .ref p26, .ref p27, .ref p28, .ref p29, .ref p30, .ref p31, .ref p32])), (p0, .inl (cI, 1439, .inl w)), (p16, .inl (cI, 11, .inl (u9.2 16))), (p17, .inl (cI, 11, .inl (u9.2 17))), (p19, .inl (cI, 55, .inl (u9.2 19))), (p20, .inl (cI, 55, .inl (u9.2 20))), (p21, .inl (cI, 55, .inl (u9.2 21))), (p22, .inl (cI, 55, .inl (u9.2 22)))] := by subst hu9; rfl
          rw [hw9] at hP hD
          have hr9 : ((u20 19) k9 : Int32) = ftEcA w xq0 xq1 := by rw [ftEcA, ftIte_t ⟨c1, c13⟩, ftIte_t c28, hk8, ftEcK]; first | (rw [if_pos c35]; exact hg1) | (rw [if_neg c35, if_pos c49]; exact hg2) | (rw [if_neg c35, if_neg c49, if_pos c63]; exact hg3) | (rw [if_neg c35, if_neg c49, if_neg c63]; exact hg4)
          exact W.iret (v := (u20 19) k9) hx hb hr (fun t ht hW => ⟨⟨(u20 19) k9, u9, rfl, ⟨hr9, trivial⟩, by rw [ht]; exact hP, by rw [hAe]; exact hD⟩, by rw [hAe]; exact hS.F ht⟩) hS.2.2 dX11_echo_81
      · refine lv_ldc (v := (-1000004)) hx hb hown (hts (.constant RX11 173 (-1000004)) (by decide +kernel)) dX11_echo_31 ?_
        obtain ⟨u9, hu9⟩ : ∃ u9 : (Nat → Int32) × (Nat → Nat → Int32), u9 = ((fun k => match k with | 15 => (nI (ftCF w).1) | _ => (nI (ftCG w).1)), (fun k => match k with | 16 => (u20 16) | 17 => (u20 17) | 19 => (u20 19) | 20 => (u20 20) | 21 => (u20 21) | _ => (u20 22))) := ⟨_, rfl⟩
        have hw9 : ([(m0, .inr (11, [.ref p0, .ref p1, .int i2, .ref p3, .int i4, .ref p5, .int i6, .int i7, .int i8, .int i9, .ref p10, .int i11, .ref p12, .ref p13, .ref p14, .int (nI (ftCF w).1), .ref p16, .ref p17, .int (nI (ftCG w).1), .ref p19, .ref p20, .ref p21, .ref p22, .int i23, .int i24, .ref p25, .ref p26, .ref p27, .ref p28, .ref p29, .ref p30, .ref p31, .ref p32])), (p0, .inl (cI, 1439, .inl w)), (p16, .inl (cI, 11, .inl (u20 16))), (p17, .inl (cI, 11, .inl (u20 17))), (p19, .inl (cI, 55, .inl (u20 19))), (p20, .inl (cI, 55, .inl (u20 20))), (p21, .inl (cI, 55, .inl (u20 21))), (p22, .inl (cI, 55, .inl (u20 22)))] : va_W) = [(m0, .inr (11, [.ref p0, .ref p1, .int i2, .ref p3, .int i4, .ref p5, .int i6, .int i7, .int i8, .int i9, .ref p10, .int i11, .ref p12, .ref p13, .ref p14, .int (u9.1 15), .ref p16, .ref p17, .int (u9.1 18), .ref p19, .ref p20, .ref p21, .ref p22, .int i23, .int i24, .ref p25, .ref p26, .ref p27, .ref p28, .ref p29, .ref p30, .ref p31, .ref p32])), (p0, .inl (cI, 1439, .inl w)), (p16, .inl (cI, 11, .inl (u9.2 16))), (p17, .inl (cI, 11, .inl (u9.2 17))), (p19, .inl (cI, 55, .inl (u9.2 19))), (p20, .inl (cI, 55, .inl (u9.2 20))), (p21, .inl (cI, 55, .inl (u9.2 21))), (p22, .inl (cI, 55, .inl (u9.2 22)))] := by subst hu9; rfl
        rw [hw9] at hP hD
        have hr9 : ((-1000004) : Int32) = ftEcA w xq0 xq1 := by exact ((ftIte_t ⟨c1, c13⟩).trans (ftIte_f c28)).symm
        exact W.iret (v := (-1000004)) hx hb hr (fun t ht hW => ⟨⟨(-1000004), u9, rfl, ⟨hr9, trivial⟩, by rw [ht]; exact hP, by rw [hAe]; exact hD⟩, by rw [hAe]; exact hS.F ht⟩) hS.2.2 dX11_echo_33
    · replace c13 := ftB_eq c13
      have hno : ¬ (¬ xq0 < 0 ∧ 0 ≤ xq1 ∧ xq1 ≤ 3) := fun q => c13 q.2
      refine lv_ldc (v := (-1000001)) hx hb hown (hts (.constant RX11 95 (-1000001)) (by decide +kernel)) dX11_echo_16 ?_
      obtain ⟨u9, hu9⟩ : ∃ u9 : (Nat → Int32) × (Nat → Nat → Int32), u9 = ((fun k => match k with | 15 => i15 | _ => i18), (fun k => match k with | 16 => fa | 17 => fh | 19 => ga | 20 => gh | 21 => g1 | _ => g2)) := ⟨_, rfl⟩
      have hw9 : ([(m0, .inr (11, [.ref p0, .ref p1, .int i2, .ref p3, .int i4, .ref p5, .int i6, .int i7, .int i8, .int i9, .ref p10, .int i11, .ref p12, .ref p13, .ref p14, .int i15, .ref p16, .ref p17, .int i18, .ref p19, .ref p20, .ref p21, .ref p22, .int i23, .int i24, .ref p25, .ref p26, .ref p27, .ref p28, .ref p29, .ref p30, .ref p31, .ref p32])), (p0, .inl (cI, 1439, .inl w)), (p16, .inl (cI, 11, .inl fa)), (p17, .inl (cI, 11, .inl fh)), (p19, .inl (cI, 55, .inl ga)), (p20, .inl (cI, 55, .inl gh)), (p21, .inl (cI, 55, .inl g1)), (p22, .inl (cI, 55, .inl g2))] : va_W) = [(m0, .inr (11, [.ref p0, .ref p1, .int i2, .ref p3, .int i4, .ref p5, .int i6, .int i7, .int i8, .int i9, .ref p10, .int i11, .ref p12, .ref p13, .ref p14, .int (u9.1 15), .ref p16, .ref p17, .int (u9.1 18), .ref p19, .ref p20, .ref p21, .ref p22, .int i23, .int i24, .ref p25, .ref p26, .ref p27, .ref p28, .ref p29, .ref p30, .ref p31, .ref p32])), (p0, .inl (cI, 1439, .inl w)), (p16, .inl (cI, 11, .inl (u9.2 16))), (p17, .inl (cI, 11, .inl (u9.2 17))), (p19, .inl (cI, 55, .inl (u9.2 19))), (p20, .inl (cI, 55, .inl (u9.2 20))), (p21, .inl (cI, 55, .inl (u9.2 21))), (p22, .inl (cI, 55, .inl (u9.2 22)))] := by subst hu9; rfl
      rw [hw9] at hP hD
      have hr9 : ((-1000001) : Int32) = ftEcA w xq0 xq1 := by exact (ftIte_f hno).symm
      exact W.iret (v := (-1000001)) hx hb hr (fun t ht hW => ⟨⟨(-1000001), u9, rfl, ⟨hr9, trivial⟩, by rw [ht]; exact hP, by rw [hAe]; exact hD⟩, by rw [hAe]; exact hS.F ht⟩) hS.2.2 dX11_echo_18
end
