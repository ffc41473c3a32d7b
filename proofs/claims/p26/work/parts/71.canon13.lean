/-! the first sample: base and peaks -/
theorem ftBi_0 {w : Nat → Int32} (h : ftLf w) {b0 : Int32} : ∀ m, m ≤ ftCN w → ftBi w (nI 0) b0 m = b0 := by
  intro m
  induction m with
  | zero => intro _; rfl
  | succ m ih =>
    intro hm
    have q := (h.2.2.2.2.1 m (by omega)).2.1
    rw [ftBi, if_neg (fun r => absurd (Int32.le_trans q r.2) (by decide)), ih (by omega)]
theorem ftCB_0 {w : Nat → Int32} (h : ftLf w) : ftCB w 0 = 50000 := by
  have hg := ftLf_lg h
  have hl := ftLf_ln h
  unfold ftCB ftBsM
  rw [if_pos (nI_lt (by omega) (by omega)), ftBi_0 h _ (Nat.le_refl _)]
  rfl
theorem ftPkI_b {PP HH : Nat → Nat} {wd d x M : Nat} {b0 : Int32} (hM : M < 2 ^ 31) (hb : ∃ a, a ≤ M ∧ b0 = nI a) : ∀ k, (∀ i, i < k → HH i ≤ M) → ∃ a, a ≤ M ∧ ftPkI PP HH wd d x b0 k = nI a := by
  intro k
  induction k with
  | zero => intro _; exact hb
  | succ k ih =>
    intro h
    obtain ⟨a, h1, h2⟩ := ih (fun i hi => h i (by omega))
    rw [ftPkI]
    split
    · refine ⟨_, ?_, rfl⟩
      have := h k (by omega)
      unfold ftPk
      split <;> omega
    · exact ⟨a, h1, h2⟩
theorem ftCQ_b {w : Nat → Int32} (h : ftWf w) (x : Nat) : ∃ a, a ≤ 40000 ∧ ftCQ w x = nI a := by
  have hF := (ftFW_ok h.1 (fun _ => 0) (fun _ => 0)).2.1
  have hG := (ftCG_ok h).2
  unfold ftCQ ftPkM
  refine ftPkI_b (by omega) (ftPkI_b (by omega) ⟨0, by omega, rfl⟩ _ (fun i hi => ?_)) _ (fun i hi => ?_)
  · have q := (hF i hi).2.2.2.2.2
    exact Nat.le_trans (show ftTn (ftCF w).2.2 i ≤ 20000 from q) (by omega)
  · have q := (hG i hi).2.2.2.2
    exact Nat.le_trans (show ftTn (ftCG w).2.2.1 i ≤ 20000 from q) (by omega)
