/-! the reference: items, faults -/
theorem ft_shr1 : ∀ h, h < 64 → ∀ j, j < 6 → nI h >>> (nI j &&& 31) = nI (h / 2 ^ j) := by decide +kernel
theorem ft_and1 : ∀ h, h < 64 → nI h &&& 1 = nI (h % 2) := by decide +kernel
theorem ft_or1 : ∀ h, h < 64 → ∀ j, j < 6 → nI h ||| (1 <<< (nI j &&& 31)) = nI (h ||| 2 ^ j) := by decide +kernel
theorem ft_or64 : ∀ h, h < 64 → ∀ j, j < 6 → h ||| 2 ^ j < 64 := by decide +kernel
theorem ftWd_c (tx : Nat → Int32) (p d : Nat) (m : Nat) : ftWd tx p d m = -1 ∨ ∃ j, j < m ∧ ftWd tx p d m = nI j ∧ ftWP tx p d j (ftWs j) := by
  induction m with
  | zero => exact Or.inl rfl
  | succ m ih =>
    rcases Classical.em (ftWP tx p d m (ftWs m)) with q | q
    · exact Or.inr ⟨m, by omega, ftWd_t q, q⟩
    · rw [ftWd_f q]
      rcases ih with h | ⟨j, h1, h2⟩
      · exact Or.inl h
      · exact Or.inr ⟨j, by omega, h2⟩
/-- the word at p, where i numbers behind it end, their values, the row that they lie in -/
noncomputable def ftIw (tx : Nat → Int32) (tn p : Nat) : Int32 := ftWd tx p (ftRun tx tn p) 6
noncomputable def ftNP (tx : Nat → Int32) (tn q : Nat) : Nat → Nat
  | 0 => q
  | i + 1 => ftNe tx tn (ftNP tx tn q i)
noncomputable def ftIp (tx : Nat → Int32) (tn p i : Nat) : Nat := ftNP tx tn (p + ftRun tx tn p) i
noncomputable def ftIv (tx : Nat → Int32) (tn p i : Nat) : Int32 := ftNv tx tn (ftIp tx tn p i)
noncomputable def ftIf (tx : Nat → Int32) (tn p : Nat) (fg : Nat → Int32) : Nat → (Nat → Int32)
  | 0 => fg
  | i + 1 => ftNf tx tn (ftIp tx tn p i) i (ftIf tx tn p fg i)
theorem ftRun_le {tx : Nat → Int32} {tn p : Nat} (h : p ≤ tn) : p + ftRun tx tn p ≤ tn := by
  rcases Nat.eq_zero_or_pos (ftRun tx tn p) with e | e
  · omega
  · have := (ftIni_yes (fun t => p + t < tn ∧ 97 ≤ tx (p + t) ∧ tx (p + t) ≤ 122) 120 (ftRun tx tn p - 1) (by unfold ftRun at e ⊢; omega)).1
    omega
theorem ftIp_le {tx : Nat → Int32} {tn p : Nat} (h : p ≤ tn) (i : Nat) : ftIp tx tn p i ≤ tn := by
  induction i with
  | zero => exact ftRun_le h
  | succ i ih => exact ftNe_le ih
theorem ftIf_at {tx : Nat → Int32} {tn p : Nat} {fg : Nat → Int32} : ∀ m, (∀ t, t < m → ftNok tx tn (ftIp tx tn p t)) → ∀ i, i < m → ftIf tx tn p fg m i = ftIv tx tn p i := by
  intro m
  induction m with
  | zero => intro _ i h; exact absurd h (Nat.not_lt_zero i)
  | succ m ih =>
    intro h i hi
    have e := ftNf_t (fg := ftIf tx tn p fg m) (i := m) (h m (by omega)).1
    show ftNf tx tn (ftIp tx tn p m) m (ftIf tx tn p fg m) i = _
    rw [e]
    by_cases q : i = m
    · subst q; exact if_pos rfl
    · rw [ftUpd_ne q]; exact ih (fun t ht => h t (by omega)) i (by omega)
/-- whether the word is allowed there -/
def ftAl (wd : Int32) (md : Nat → Int32) (h : Nat) (x : Int32) : Prop := (wd < 3 → ¬ h / 2 ^ wd.toNatClampNeg % 2 = 1 ∧ md 3 ≤ 0) ∧ (¬ wd < 3 → (¬ ∃ t, t < (md 3).toNatClampNeg ∧ md (4 + 4 * t + 1) = x) ∧ ¬ md 3 = 10)
def ftItOk (tx : Nat → Int32) (tn : Nat) (md : Nat → Int32) (h p : Nat) : Prop := ¬ ftIw tx tn p < 0 ∧ (∀ i, i < ftNs (ftIw tx tn p) → ftNok tx tn (ftIp tx tn p i)) ∧ (∀ i, i < ftNs (ftIw tx tn p) → ftRt (ftIw tx tn p) i (ftIv tx tn p i) (md 0)) ∧ ftAl (ftIw tx tn p) md h (ftIv tx tn p 0) ∧ ftIp tx tn p (ftNs (ftIw tx tn p)) < tn ∧ tx (ftIp tx tn p (ftNs (ftIw tx tn p))) = 59
noncomputable def ftItP (tx : Nat → Int32) (tn p : Nat) : Nat := ftIp tx tn p (ftNs (ftIw tx tn p)) + 1
noncomputable def ftItM (tx : Nat → Int32) (tn : Nat) (md : Nat → Int32) (p : Nat) : Nat → Int32 := if ftIw tx tn p < 3 then upd md (ftIw tx tn p).toNatClampNeg (ftIv tx tn p 0) else ftAdd md (md 3).toNatClampNeg (ftIw tx tn p - 3) (ftIv tx tn p 0) (ftIv tx tn p 1) (if ftIw tx tn p = 4 then ftIv tx tn p 2 else 0)
noncomputable def ftItH (tx : Nat → Int32) (tn h p : Nat) : Nat := h ||| 2 ^ (ftIw tx tn p).toNatClampNeg
theorem ftNs_1 {wd : Int32} (h : wd < 3) : ftNs wd = 1 := if_pos h
theorem ftNs_3 {wd : Int32} (h : wd = 4) : ftNs wd = 3 := by subst h; rfl
theorem ftNs_2 {wd : Int32} (h : ¬ wd < 3) : 2 ≤ ftNs wd := by unfold ftNs; rw [if_neg h]; split <;> omega
/-- the items from p on: none, if one is not possible; else the row that they make -/
noncomputable def ftPar (tx : Nat → Int32) (tn : Nat) : Nat → Nat → Nat → (Nat → Int32) → Option (Nat → Int32)
  | 0, _, _, md => some md
  | f + 1, p, h, md => if p < tn then @ite _ (ftItOk tx tn md h p) (Classical.propDecidable _) (ftPar tx tn f (ftItP tx tn p) (ftItH tx tn h p) (ftItM tx tn md p)) none else some md
theorem ftItP_gt {tx : Nat → Int32} {tn p : Nat} : p < ftItP tx tn p := by
  have h : ∀ i, p ≤ ftIp tx tn p i := by
    intro i
    induction i with
    | zero => exact Nat.le_add_right _ _
    | succ i ih =>
      refine Nat.le_trans ih ?_
      show _ ≤ ftNe tx tn (ftIp tx tn p i)
      rcases Classical.em (ftSp tx tn (ftIp tx tn p i)) with q | q
      · rw [ftNe_t q]
        rcases Classical.em (ftNg tx tn (ftIp tx tn p i)) with r | r
        · rw [ftNq_t r]; omega
        · rw [ftNq_f r]; omega
      · rw [ftNe_f q]; exact Nat.le_refl _
  have := h (ftNs (ftIw tx tn p))
  unfold ftItP
  omega
theorem ftPar_fuel {tx : Nat → Int32} {tn : Nat} : ∀ (f g p h : Nat) (md : Nat → Int32), tn - p < f → tn - p < g → ftPar tx tn f p h md = ftPar tx tn g p h md := by
  intro f
  induction f with
  | zero => intro g p h md q; omega
  | succ f ih =>
    intro g p h md hf hg
    obtain ⟨g, rfl⟩ : ∃ k, g = k + 1 := ⟨g - 1, by omega⟩
    unfold ftPar
    by_cases c : p < tn
    · rw [if_pos c, if_pos c]
      have e := ftItP_gt (tx := tx) (tn := tn) (p := p)
      rw [ih g _ _ _ (by omega) (by omega)]
    · rw [if_neg c, if_neg c]
theorem ftPar_t {tx : Nat → Int32} {tn p h : Nat} {md : Nat → Int32} (hp : p < tn) (hk : ftItOk tx tn md h p) : ftPar tx tn (tn - p + 1) p h md = ftPar tx tn (tn - ftItP tx tn p + 1) (ftItP tx tn p) (ftItH tx tn h p) (ftItM tx tn md p) := by
  have e := ftItP_gt (tx := tx) (tn := tn) (p := p)
  rw [ftPar, if_pos hp, show @ite _ (ftItOk tx tn md h p) (Classical.propDecidable _) (ftPar tx tn (tn - p) (ftItP tx tn p) (ftItH tx tn h p) (ftItM tx tn md p)) none = ftPar tx tn (tn - p) (ftItP tx tn p) (ftItH tx tn h p) (ftItM tx tn md p) from if_pos hk]
  exact ftPar_fuel _ _ _ _ _ (by omega) (by omega)
theorem ftPar_f {tx : Nat → Int32} {tn p h : Nat} {md : Nat → Int32} (hp : p < tn) (hk : ¬ ftItOk tx tn md h p) : ftPar tx tn (tn - p + 1) p h md = none := by
  rw [ftPar, if_pos hp]
  exact if_neg hk
theorem ftPar_e {tx : Nat → Int32} {tn p h f : Nat} {md : Nat → Int32} (hp : ¬ p < tn) : ftPar tx tn (f + 1) p h md = some md := if_neg hp
def ftMd0 (md : Nat → Int32) : Nat → Int32 := upd (upd (upd (upd md 0 200) 1 10) 2 12000) 3 0
noncomputable def ftPars (tx : Nat → Int32) (tn : Nat) (md : Nat → Int32) : Option (Nat → Int32) := ftPar tx tn (tn - 0 + 1) 0 0 (ftMd0 md)
/-- the row of a link that is being made has at most ten parts -/
def ftMok (md : Nat → Int32) : Prop := ∃ n, n ≤ 10 ∧ md 3 = nI n
theorem ftAdd_3 (w : Nat → Int32) (n : Nat) (kd x lo re : Int32) : ftAdd w n kd x lo re 3 = nI (n + 1) := by unfold ftAdd upd; exact if_pos rfl
theorem ftItM_ok {tx : Nat → Int32} {tn : Nat} {md : Nat → Int32} {h p : Nat} (hm : ftMok md) (hk : ftItOk tx tn md h p) : ftMok (ftItM tx tn md p) := by
  obtain ⟨n, hn, e⟩ := hm
  obtain ⟨h1, -, -, h4, -⟩ := hk
  unfold ftItM
  rcases Classical.em (ftIw tx tn p < 3) with q | q
  · rw [if_pos q]
    have h3 : (ftIw tx tn p).toNatClampNeg < 3 := by
      obtain ⟨j, hj, hj2⟩ := nI_of h1
      rw [hj2, nI_clamp hj]
      rw [hj2] at q
      exact ft_ltN hj (by omega) q
    exact ⟨n, hn, by rw [ftUpd_ne (by omega)]; exact e⟩
  · rw [if_neg q]
    have h5 : n ≠ 10 := fun r => (h4.2 q).2 (by rw [e, r]; rfl)
    exact ⟨n + 1, by omega, by rw [ftAdd_3, e, nI_clamp (by omega)]⟩


