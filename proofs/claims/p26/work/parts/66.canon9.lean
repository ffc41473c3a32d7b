/-! a comparison backward, and both -/
section FTCOMPB
variable {v u : Nat → Int32} {li : Int32} {n : Nat}
theorem ftCmB_1 (d : Nat) : (ftCmB v u li n (d + 1)).1 = if li < ftAbs (v (n - (d + 1)) - u (n - (d + 1))) then nI (n - (d + 1)) else (ftCmB v u li n d).1 := by rw [← ftSz_abs]; rfl
theorem ftCmB_2 (d : Nat) : (ftCmB v u li n (d + 1)).2.1 = (ftCmB v u li n d).2.1 + (if li < ftAbs (v (n - (d + 1)) - u (n - (d + 1))) then 1 else 0) := by rw [← ftSz_abs]; rfl
theorem ftCmB_3 (d : Nat) : (ftCmB v u li n (d + 1)).2.2.1 = if (ftCmB v u li n d).2.2.1 < ftAbs (v (n - (d + 1)) - u (n - (d + 1))) then ftAbs (v (n - (d + 1)) - u (n - (d + 1))) else (ftCmB v u li n d).2.2.1 := by rw [← ftSz_abs]; rfl
theorem ftCmB_4 (d : Nat) : (ftCmB v u li n (d + 1)).2.2.2 = if (ftCmB v u li n d).2.2.1 ≤ ftAbs (v (n - (d + 1)) - u (n - (d + 1))) then nI (n - (d + 1)) else (ftCmB v u li n d).2.2.2 := by rw [← ftSz_abs]; rfl
theorem ftCmB_c : ∀ d, d ≤ n → (ftCmB v u li n d).2.1 + ftCount (fun t => li < ftAbs (v t - u t)) (n - d) = ftCount (fun t => li < ftAbs (v t - u t)) n := by
  intro d
  induction d with
  | zero => intro _; show 0 + ftCount _ n = _; exact Int32.zero_add _
  | succ d ih =>
    intro hd
    rw [← ih (by omega), ftCmB_2, show n - d = (n - (d + 1)) + 1 by omega, ftCount, Int32.add_assoc, Int32.add_comm (ftCount _ (n - (d + 1)))]
    by_cases c : li < ftAbs (v (n - (d + 1)) - u (n - (d + 1)))
    · rw [if_pos c, ftB_t c]
    · rw [if_neg c, ftB_f c]
theorem ftCmB_f : ∀ d, d ≤ n → ((ftCmB v u li n d).1 = -1000004 ∧ ∀ t, n - d ≤ t → t < n → ¬ li < ftAbs (v t - u t)) ∨ ∃ b, n - d ≤ b ∧ b < n ∧ (ftCmB v u li n d).1 = nI b ∧ li < ftAbs (v b - u b) ∧ ∀ t, n - d ≤ t → t < b → ¬ li < ftAbs (v t - u t) := by
  intro d
  induction d with
  | zero => intro _; exact Or.inl ⟨rfl, fun t h1 h2 => absurd h2 (by omega)⟩
  | succ d ih =>
    intro hd
    rw [ftCmB_1]
    by_cases c : li < ftAbs (v (n - (d + 1)) - u (n - (d + 1)))
    · rw [if_pos c]
      exact Or.inr ⟨n - (d + 1), Nat.le_refl _, by omega, rfl, c, fun t h1 h2 => absurd h2 (by omega)⟩
    · rw [if_neg c]
      rcases ih (by omega) with ⟨a1, a2⟩ | ⟨b, b1, b2, b3, b4, b5⟩
      · refine Or.inl ⟨a1, fun t h1 h2 => ?_⟩
        by_cases q : t = n - (d + 1)
        · subst q; exact c
        · exact a2 t (by omega) h2
      · refine Or.inr ⟨b, by omega, b2, b3, b4, fun t h1 h2 => ?_⟩
        by_cases q : t = n - (d + 1)
        · subst q; exact c
        · exact b5 t (by omega) h2
theorem ftCmB_g : ∀ d, d ≤ n → ((ftCmB v u li n d).2.2.1 = -1 ∧ (ftCmB v u li n d).2.2.2 = 0 ∧ ∀ t, n - d ≤ t → t < n → ftAbs (v t - u t) < -1) ∨ (0 ≤ (ftCmB v u li n d).2.2.1 ∧ (∀ t, n - d ≤ t → t < n → ftAbs (v t - u t) ≤ (ftCmB v u li n d).2.2.1) ∧ ∃ b, n - d ≤ b ∧ b < n ∧ (ftCmB v u li n d).2.2.2 = nI b ∧ ftAbs (v b - u b) = (ftCmB v u li n d).2.2.1 ∧ ∀ t, n - d ≤ t → t < b → ftAbs (v t - u t) < (ftCmB v u li n d).2.2.1) := by
  intro d
  induction d with
  | zero => intro _; exact Or.inl ⟨rfl, rfl, fun t h1 h2 => absurd h2 (by omega)⟩
  | succ d ih =>
    intro hd
    have hs := ftAbs_sgn (v (n - (d + 1)) - u (n - (d + 1)))
    rw [ftCmB_3, ftCmB_4]
    obtain ⟨x, hx⟩ : ∃ x, x = n - (d + 1) := ⟨_, rfl⟩
    rw [← hx] at hs ⊢
    have hsplit : ∀ t, n - (d + 1) ≤ t → t ≠ x → n - d ≤ t := fun t h1 h2 => by omega
    rcases ih (by omega) with ⟨a1, a2, a3⟩ | ⟨g0, g1, b, b1, b2, b3, b4, b5⟩
    · rw [a1, a2]
      rcases hs with r | r
      · have c : (-1 : Int32) < ftAbs (v x - u x) := Int32.lt_of_lt_of_le (by decide) r
        rw [if_pos c, if_pos (Int32.le_of_lt c)]
        refine Or.inr ⟨r, fun t h1 h2 => ?_, x, by omega, by omega, rfl, rfl, fun t h1 h2 => absurd h2 (by omega)⟩
        by_cases q : t = x
        · subst q; exact Int32.le_refl _
        · exact Int32.le_of_lt (Int32.lt_trans (a3 t (hsplit t (by omega) q) h2) c)
      · rw [if_neg (fun q => Int32.lt_irrefl (Int32.lt_trans q r)), if_neg (Int32.not_le.mpr r)]
        refine Or.inl ⟨rfl, rfl, fun t h1 h2 => ?_⟩
        by_cases q : t = x
        · subst q; exact r
        · exact a3 t (hsplit t (by omega) q) h2
    · by_cases c : (ftCmB v u li n d).2.2.1 ≤ ftAbs (v x - u x)
      · have e : (if (ftCmB v u li n d).2.2.1 < ftAbs (v x - u x) then ftAbs (v x - u x) else (ftCmB v u li n d).2.2.1) = ftAbs (v x - u x) := by
          by_cases c2 : (ftCmB v u li n d).2.2.1 < ftAbs (v x - u x)
          · rw [if_pos c2]
          · rw [if_neg c2]; exact Int32.le_antisymm c (Int32.not_lt.mp c2)
        rw [e, if_pos c]
        refine Or.inr ⟨Int32.le_trans g0 c, fun t h1 h2 => ?_, x, by omega, by omega, rfl, rfl, fun t h1 h2 => absurd h2 (by omega)⟩
        by_cases q : t = x
        · subst q; exact Int32.le_refl _
        · exact Int32.le_trans (g1 t (hsplit t (by omega) q) h2) c
      · have c2 : ¬ (ftCmB v u li n d).2.2.1 < ftAbs (v x - u x) := fun q => c (Int32.le_of_lt q)
        rw [if_neg c2, if_neg c]
        refine Or.inr ⟨g0, fun t h1 h2 => ?_, b, by omega, b2, b3, b4, fun t h1 h2 => ?_⟩
        · by_cases q : t = x
          · subst q; exact Int32.not_lt.mp c2
          · exact g1 t (hsplit t (by omega) q) h2
        · by_cases q : t = x
          · subst q; exact Int32.not_le.mp c
          · exact b5 t (hsplit t (by omega) q) h2
/-- the class's comparison and the reference's -/
theorem ftComp_cmb (hn : 0 < n) (hn2 : n < 2 ^ 31) (h0 : 0 ≤ ftAbs (v 0 - u 0)) : (if (ftComp v u li n).1 = -1 then -1000004 else (ftComp v u li n).1) = (ftCmB v u li n n).1 ∧ (ftComp v u li n).2.1 = (ftCmB v u li n n).2.1 ∧ (ftComp v u li n).2.2.1 = (ftCmB v u li n n).2.2.1 ∧ (ftComp v u li n).2.2.2 = (ftCmB v u li n n).2.2.2 := by
  obtain ⟨e1, e2⟩ := ftComp_1 (v := v) (u := u) (li := li) n hn2
  obtain ⟨f0, f1, f2⟩ := ftComp_g (v := v) (u := u) (li := li) n
  refine ⟨?_, ?_, ?_⟩
  · rw [e1]
    rcases ftCmB_f (v := v) (u := u) (li := li) n (Nat.le_refl n) with ⟨a1, a2⟩ | ⟨b, -, b2, b3, b4, b5⟩
    · rw [ftFst_none (P := fun t => li < ftAbs (v t - u t)) (fun t ht => a2 t (by omega) ht), if_pos rfl, a1]
    · rw [ftFst_some (P := fun t => li < ftAbs (v t - u t)) (by omega) b4 (fun t ht => b5 t (by omega) ht) n (by omega), if_neg (ft_nIm1 (by omega)), b3]
  · rw [e2, ← ftCmB_c n (Nat.le_refl n), Nat.sub_self]
    exact Int32.add_zero _
  · rcases ftCmB_g (v := v) (u := u) (li := li) n (Nat.le_refl n) with ⟨-, -, a3⟩ | ⟨g0, g1, b, -, b2, b3, b4, b5⟩
    · exact absurd (Int32.lt_of_le_of_lt h0 (a3 0 (by omega) hn)) (by decide)
    · rcases f2 with ⟨p1, p2⟩ | ⟨c, c1, c2, c3, c4, c5⟩
      · have hb0 : b = 0 := by
          rcases Nat.eq_zero_or_pos b with q | q
          · exact q
          · have q1 := Int32.lt_of_le_of_lt h0 (b5 0 (by omega) q)
            have q2 := f1 b b2
            rw [p1, b4] at q2
            exact absurd (Int32.lt_of_lt_of_le q1 q2) (Int32.lt_irrefl)
        have hg : (ftCmB v u li n n).2.2.1 = 0 := by
          have q2 := f1 b b2
          rw [p1, b4] at q2
          exact Int32.le_antisymm q2 g0
        exact ⟨p1.trans hg.symm, by rw [p2, b3, hb0]; rfl⟩
      · have hg : (ftComp v u li n).2.2.1 = (ftCmB v u li n n).2.2.1 := by
          have q1 := g1 c (by omega) c1
          have q2 := f1 b b2
          rw [c3] at q1
          rw [b4] at q2
          exact Int32.le_antisymm q1 q2
        refine ⟨hg, ?_⟩
        have hbc : b = c := by
          rcases Nat.lt_trichotomy b c with q | q | q
          · have := c5 b q
            rw [b4, hg] at this
            exact absurd this (Int32.lt_irrefl)
          · exact q
          · have := b5 c (by omega) q
            rw [c3, hg] at this
            exact absurd this (Int32.lt_irrefl)
        rw [c2, b3, hbc]
end FTCOMPB
