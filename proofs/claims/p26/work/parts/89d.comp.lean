/-! two rows compared -/
section LXCM
variable {v u : Nat → Int32} {li : Int32} {n : Nat}
theorem lxCm_1 : ((ftCmB v u li n n).1 = -1000004 ∧ ∀ t, t < n → ¬ li < ftAbs (v t - u t)) ∨ ∃ b, b < n ∧ (ftCmB v u li n n).1 = nI b ∧ li < ftAbs (v b - u b) ∧ ∀ t, t < b → ¬ li < ftAbs (v t - u t) := by
  rcases ftCmB_f (v := v) (u := u) (li := li) (n := n) n (Nat.le_refl n) with ⟨h1, h2⟩ | ⟨b, -, h2, h3, h4, h5⟩
  · exact Or.inl ⟨h1, fun t ht => h2 t (by omega) ht⟩
  · exact Or.inr ⟨b, h2, h3, h4, fun t ht => h5 t (by omega) ht⟩
theorem lxCm_2 : (ftCmB v u li n n).2.1 = ftCount (fun t => li < ftAbs (v t - u t)) n := by
  have h := ftCmB_c (v := v) (u := u) (li := li) (n := n) n (Nat.le_refl n)
  rw [Nat.sub_self] at h
  rw [← h]
  exact (Int32.add_zero _).symm
theorem lxCm_3 (hn : 0 < n) (hd : 0 ≤ ftAbs (v 0 - u 0)) : 0 ≤ (ftCmB v u li n n).2.2.1 ∧ (∀ t, t < n → ftAbs (v t - u t) ≤ (ftCmB v u li n n).2.2.1) ∧ ∃ b, b < n ∧ (ftCmB v u li n n).2.2.2 = nI b ∧ ftAbs (v b - u b) = (ftCmB v u li n n).2.2.1 ∧ ∀ t, t < b → ftAbs (v t - u t) < (ftCmB v u li n n).2.2.1 := by
  rcases ftCmB_g (v := v) (u := u) (li := li) (n := n) n (Nat.le_refl n) with ⟨-, -, h⟩ | ⟨h1, h2, b, -, h3, h4, h5, h6⟩
  · exact absurd (Int32.lt_of_le_of_lt hd (h 0 (by omega) hn)) (by decide)
  · exact ⟨h1, fun t ht => h2 t (by omega) ht, b, h3, h4, h5, fun t ht => h6 t (by omega) ht⟩
end LXCM
theorem lxCnt (P : Nat → Prop) : ∀ k, ∃ c, c ≤ k ∧ ftCount P k = nI c ∧ ((∃ t, t < k ∧ P t) ↔ 0 < c) := by
  intro k
  induction k with
  | zero => exact ⟨0, Nat.le_refl 0, rfl, ⟨fun ⟨t, ht, _⟩ => absurd ht (Nat.not_lt_zero t), fun h => absurd h (Nat.lt_irrefl 0)⟩⟩
  | succ k ih =>
    obtain ⟨c, h1, h2, h3⟩ := ih
    by_cases q : P k
    · refine ⟨c + 1, by omega, ?_, ⟨fun _ => by omega, fun _ => ⟨k, Nat.lt_succ_self k, q⟩⟩⟩
      show ftCount P k + ftB (P k) = _
      rw [h2, ftB_t q]
      exact nI_1 c
    · refine ⟨c, by omega, ?_, ⟨fun ⟨t, ht, hp⟩ => ?_, fun h => ?_⟩⟩
      · show ftCount P k + ftB (P k) = _
        rw [h2, ftB_f q]
        exact Int32.add_zero _
      · rcases Nat.lt_succ_iff_lt_or_eq.mp ht with r | r
        · exact h3.mp ⟨t, r, hp⟩
        · subst r; exact absurd hp q
      · obtain ⟨t, ht, hp⟩ := h3.mpr h
        exact ⟨t, by omega, hp⟩
/-- a row compared with itself -/
theorem lxCm_self {v u : Nat → Int32} {n : Nat} (hn : 0 < n) (h : ∀ t, t < n → v t = u t) : ftCmB v u 0 n n = (-1000004, 0, 0, 0) := by
  have h0 : ∀ t, t < n → ftAbs (v t - u t) = 0 := fun t ht => by rw [h t ht, Int32.sub_self]; decide
  have hno : ¬ ∃ t, t < n ∧ (0 : Int32) < ftAbs (v t - u t) := fun ⟨t, ht, q⟩ => by rw [h0 t ht] at q; exact absurd q (by decide)
  have e1 : (ftCmB v u 0 n n).1 = -1000004 := by
    rcases lxCm_1 (v := v) (u := u) (li := 0) (n := n) with ⟨q, -⟩ | ⟨b, hb, -, q, -⟩
    · exact q
    · exact absurd ⟨b, hb, q⟩ hno
  have e2 : (ftCmB v u 0 n n).2.1 = 0 := by
    obtain ⟨c, -, h2, h3⟩ := lxCnt (fun t => (0 : Int32) < ftAbs (v t - u t)) n
    rw [lxCm_2, h2]
    have : c = 0 := by
      rcases Nat.eq_zero_or_pos c with q | q
      · exact q
      · exact absurd (h3.mpr q) hno
    rw [this]
    exact nI_0
  obtain ⟨h1, h2, b, h3, h4, h5, h6⟩ := lxCm_3 (v := v) (u := u) (li := 0) hn (by rw [h0 0 hn]; decide)
  have e3 : (ftCmB v u 0 n n).2.2.1 = 0 := by rw [← h5, h0 b h3]
  have e4 : (ftCmB v u 0 n n).2.2.2 = 0 := by
    rcases Nat.eq_zero_or_pos b with q | q
    · rw [h4, q]; exact nI_0
    · have := h6 0 q
      rw [h0 0 hn, e3] at this
      exact absurd this (by decide)
  exact Prod.ext e1 (Prod.ext e2 (Prod.ext e3 e4))
theorem lx_lt_pred {g d : Int32} (hg : 0 < g) : g - 1 < d ↔ g ≤ d := by
  rw [Int32.lt_iff_toInt_lt, Int32.le_iff_toInt_le]
  have h1 : (0 : Int32).toInt < g.toInt := Int32.lt_iff_toInt_lt.mp hg
  have h2 : (0 : Int32).toInt = 0 := by decide
  have h3 := g.toInt_lt
  have h4 : (g - 1).toInt = g.toInt - 1 := by
    rw [Int32.toInt_sub, show (1 : Int32).toInt = 1 by decide, Int.bmod_def]
    split <;> omega
  rw [h4]
  omega
