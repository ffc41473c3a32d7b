/-! a comparison, forward and backward -/
theorem ftAbs_sgn (x : Int32) : 0 ≤ ftAbs x ∨ ftAbs x < -1 := by
  unfold ftAbs
  by_cases h : 0 ≤ x
  · rw [if_pos h]; exact Or.inl h
  · rw [if_neg h, Int32.zero_sub]
    by_cases h2 : 0 ≤ -x
    · exact Or.inl h2
    · refine Or.inr ?_
      have e := ft_negN x h h2
      rw [Int32.le_iff_toInt_le] at h
      have e2 : x.toInt = (-x).toInt := congrArg Int32.toInt e
      rw [Int32.toInt_neg] at e2
      have a := x.toInt_lt
      have b := x.le_toInt
      have c : (0 : Int32).toInt = 0 := rfl
      rw [c] at h
      rw [← e, Int32.lt_iff_toInt_lt]
      have c1 : (-1 : Int32).toInt = -1 := by decide
      rw [c1]
      unfold Int.bmod at e2
      simp only [] at e2
      split at e2 <;> omega
section FTCOMP
variable {v u : Nat → Int32} {li : Int32}
theorem ftComp_1 : ∀ n, n < 2 ^ 31 → (ftComp v u li n).1 = ftFst (fun t => li < ftAbs (v t - u t)) n ∧ (ftComp v u li n).2.1 = ftCount (fun t => li < ftAbs (v t - u t)) n := by
  intro n
  induction n with
  | zero => intro _; exact ⟨rfl, rfl⟩
  | succ n ih =>
    intro hn
    obtain ⟨a1, a2⟩ := ih (by omega)
    rw [ftComp, ftFst, ftCount, ← a1, ← a2]
    unfold ftNote
    by_cases c : li < ftAbs (v n - u n)
    · refine ⟨?_, ?_⟩
      · show (if li < ftAbs (v n - u n) then (if (ftComp v u li n).1 = -1 then nI n else (ftComp v u li n).1) else (ftComp v u li n).1) = _
        rw [if_pos c]
        by_cases d : (ftComp v u li n).1 = -1
        · rw [if_pos d, if_pos d]; exact (if_pos c).symm
        · rw [if_neg d, if_neg d]
      · show (if li < ftAbs (v n - u n) then (ftComp v u li n).2.1 + 1 else (ftComp v u li n).2.1) = _
        rw [if_pos c, ftB_t c]
    · refine ⟨?_, ?_⟩
      · show (if li < ftAbs (v n - u n) then (if (ftComp v u li n).1 = -1 then nI n else (ftComp v u li n).1) else (ftComp v u li n).1) = _
        rw [if_neg c]
        by_cases d : (ftComp v u li n).1 = -1
        · rw [if_pos d, d]; exact (if_neg c).symm
        · rw [if_neg d]
      · show (if li < ftAbs (v n - u n) then (ftComp v u li n).2.1 + 1 else (ftComp v u li n).2.1) = _
        rw [if_neg c, ftB_f c, Int32.add_zero]
theorem ftComp_g : ∀ n, 0 ≤ (ftComp v u li n).2.2.1 ∧ (∀ t, t < n → ftAbs (v t - u t) ≤ (ftComp v u li n).2.2.1) ∧ (((ftComp v u li n).2.2.1 = 0 ∧ (ftComp v u li n).2.2.2 = 0) ∨ ∃ b, b < n ∧ (ftComp v u li n).2.2.2 = nI b ∧ ftAbs (v b - u b) = (ftComp v u li n).2.2.1 ∧ 0 < (ftComp v u li n).2.2.1 ∧ ∀ t, t < b → ftAbs (v t - u t) < (ftComp v u li n).2.2.1) := by
  intro n
  induction n with
  | zero => exact ⟨by show (0 : Int32) ≤ 0; decide, fun t h => absurd h (Nat.not_lt_zero t), Or.inl ⟨rfl, rfl⟩⟩
  | succ n ih =>
    obtain ⟨g0, g1, g2⟩ := ih
    have eg : (ftComp v u li (n + 1)).2.2.1 = if (ftComp v u li n).2.2.1 < ftAbs (v n - u n) then ftAbs (v n - u n) else (ftComp v u li n).2.2.1 := rfl
    have ep : (ftComp v u li (n + 1)).2.2.2 = if (ftComp v u li n).2.2.1 < ftAbs (v n - u n) then nI n else (ftComp v u li n).2.2.2 := rfl
    rw [eg, ep]
    by_cases c : (ftComp v u li n).2.2.1 < ftAbs (v n - u n)
    · rw [if_pos c, if_pos c]
      refine ⟨Int32.le_of_lt (Int32.lt_of_le_of_lt g0 c), fun t ht => ?_, Or.inr ⟨n, by omega, rfl, rfl, Int32.lt_of_le_of_lt g0 c, fun t ht => Int32.lt_of_le_of_lt (g1 t ht) c⟩⟩
      rcases Nat.lt_succ_iff_lt_or_eq.mp ht with r | r
      · exact Int32.le_of_lt (Int32.lt_of_le_of_lt (g1 t r) c)
      · subst r; exact Int32.le_refl _
    · rw [if_neg c, if_neg c]
      refine ⟨g0, fun t ht => ?_, ?_⟩
      · rcases Nat.lt_succ_iff_lt_or_eq.mp ht with r | r
        · exact g1 t r
        · subst r; exact Int32.not_lt.mp c
      · rcases g2 with q | ⟨b, b1, b2⟩
        · exact Or.inl q
        · exact Or.inr ⟨b, by omega, b2⟩
end FTCOMP
