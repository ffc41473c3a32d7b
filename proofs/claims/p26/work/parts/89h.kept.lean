/-! traces that are kept -/
theorem lxKk {w : Nat → Int32} (h : ftWf w) : ftKk w < 3 ∧ w 55 = nI (ftCK w) ∧ ftKk w = if ftCK w = 3 then 2 else ftCK w := by
  have h3 := ftWf_kp h
  refine ⟨?_, ftWf_55 h, rfl⟩
  unfold ftKk
  split <;> omega
section LXKP
variable {w : Nat → Int32}
theorem lxKp_n (h : ftWf w) : ftCmN (ftKeep w) (ftKk w) = ftCL w + 60 := by
  have hl := ftWf_ln h
  have e : ftCL (ftKeep w) = ftCL w := by unfold ftCL; rw [ftKeep_lo (by omega)]
  unfold ftCmN
  rw [e, ftKeep_new, nI_clamp (by omega)]
  omega
theorem lxKp_cv (h : ftWf w) (x : Nat) : ftCV (ftKeep w) x = ftCV w x := lxCV_eq (fun t ht => ftKeep_lo ht) h x
/-- the trace just kept, compared with itself -/
theorem lxKp_self (h : ftWf w) {j : Nat} (hj : j < 4) : ftCmA (ftKeep w) (nI (ftKk w)) 0 (nI j) = if j = 0 then -1000004 else 0 := by
  have hk := (lxKk h).1
  have e : ftCmQ (ftKeep w) (ftKk w) 0 = (-1000004, 0, 0, 0) := by
    unfold ftCmQ
    rw [lxKp_n h]
    exact lxCm_self (by omega) (fun t ht => by rw [lxKp_cv h]; exact (ftKeep_rowN (by omega) ht).symm)
  rw [lx_cmA ftKeep_55 hk ⟨by decide, by decide⟩ hj]
  unfold ftCmK
  rw [e]
  have hj4 : j = 0 ∨ j = 1 ∨ j = 2 ∨ j = 3 := by omega
  rcases hj4 with r | r | r | r <;> subst r <;> rfl
theorem lxKp_out (h : ftWf w) {a b : Int32} : ftCmA (ftKeep w) (nI (ftKk w + 1)) a b = -1000001 := by
  have hk := (lxKk h).1
  unfold ftCmA
  refine ftIte_f (fun q => ?_)
  have q1 := q.1.2
  rw [ftKeep_55, show nI (ftKk w + 1) - 1 = nI (ftKk w + 1 - 1) from ft_subN (b := 1) (by omega)] at q1
  have := (nI_leI (by omega) (by omega)).mp q1
  omega
end LXKP
/-! another trace, compared with the one just kept: v the row that made it, behind w kept -/
section LXKV
variable {w v : Nat → Int32}
def lxDf (w v : Nat → Int32) (t : Nat) : Int32 := ftAbs (ftCV v t - ftCV w t)
theorem lxKv_q (h : ftWf w) (e47 : ∀ t, t < 47 → v t = w t) (e56 : ∀ t, 55 ≤ t → v t = ftKeep w t) {li : Int32} : ftCmQ v (ftKk w) li = ftCmB (ftCV v) (fun x => v (59 + 460 * ftKk w + x)) li (ftCL w + 60) (ftCL w + 60) := by
  have hl := ftWf_ln h
  have e : ftCL v = ftCL w := by unfold ftCL; rw [e47 0 (by omega)]
  have en : ftCmN v (ftKk w) = ftCL w + 60 := by
    unfold ftCmN
    rw [e, e56 _ (by omega), ftKeep_new, nI_clamp (by omega)]
    omega
  unfold ftCmQ
  rw [en]
theorem lxKv_d (h : ftWf w) (e56 : ∀ t, 55 ≤ t → v t = ftKeep w t) {t : Nat} (ht : t < ftCL w + 60) : ftAbs (ftCV v t - v (59 + 460 * ftKk w + t)) = lxDf w v t := by
  have hk := (lxKk h).1
  unfold lxDf
  rw [e56 _ (by omega), ftKeep_rowN (by omega) ht]
theorem lxKv_b (h : ftWf w) (hv : ftWf v) (e47 : ∀ t, t < 47 → v t = w t) (h0 : w (44 + 3) = 0) (t : Nat) : 0 ≤ lxDf w v t ∧ lxDf w v t ≤ 40000 := lx_noise h hv e47 h0 t
/-- the greatest difference and its place -/
theorem lxKv_3 (h : ftWf w) (hv : ftWf v) (e47 : ∀ t, t < 47 → v t = w t) (e56 : ∀ t, 55 ≤ t → v t = ftKeep w t) (h0 : w (44 + 3) = 0) : ∃ (g : Int32) (b : Nat), 0 ≤ g ∧ g ≤ 40000 ∧ b < ftCL w + 60 ∧ (∀ t, t < ftCL w + 60 → lxDf w v t ≤ g) ∧ lxDf w v b = g ∧ (∀ t, t < b → lxDf w v t < g) ∧ ftCmK v (ftKk w) 0 2 = g ∧ ftCmK v (ftKk w) 0 3 = nI b := by
  obtain ⟨h1, h2, b, h3, h4, h5, h6⟩ := lxCm_3 (v := ftCV v) (u := fun x => v (59 + 460 * ftKk w + x)) (li := 0) (n := ftCL w + 60) (by omega) (by rw [lxKv_d h e56 (by omega)]; exact (lxKv_b h hv e47 h0 0).1)
  have e5 : ftAbs (ftCV v b - v (59 + 460 * ftKk w + b)) = lxDf w v b := lxKv_d h e56 h3
  refine ⟨(ftCmB (ftCV v) (fun x => v (59 + 460 * ftKk w + x)) 0 (ftCL w + 60) (ftCL w + 60)).2.2.1, b, h1, ?_, h3, fun t ht => ?_, ?_, fun t ht => ?_, ?_, ?_⟩
  · rw [← h5]
    show ftAbs (ftCV v b - v (59 + 460 * ftKk w + b)) ≤ 40000
    rw [e5]; exact (lxKv_b h hv e47 h0 b).2
  · rw [← lxKv_d h e56 ht]; exact h2 t ht
  · rw [← e5]; exact h5
  · rw [← lxKv_d h e56 (by omega)]; exact h6 t ht
  · show (ftCmQ v (ftKk w) 0).2.2.1 = _
    rw [lxKv_q h e47 e56]
  · show (ftCmQ v (ftKk w) 0).2.2.2 = _
    rw [lxKv_q h e47 e56]; exact h4
/-- the first place beyond a limit -/
theorem lxKv_1 (h : ftWf w) (e47 : ∀ t, t < 47 → v t = w t) (e56 : ∀ t, 55 ≤ t → v t = ftKeep w t) (li : Int32) : (ftCmK v (ftKk w) li 0 = -1000004 ∧ ∀ t, t < ftCL w + 60 → ¬ li < lxDf w v t) ∨ ∃ b, b < ftCL w + 60 ∧ ftCmK v (ftKk w) li 0 = nI b ∧ li < lxDf w v b ∧ ∀ t, t < b → ¬ li < lxDf w v t := by
  have e : ftCmK v (ftKk w) li 0 = (ftCmB (ftCV v) (fun x => v (59 + 460 * ftKk w + x)) li (ftCL w + 60) (ftCL w + 60)).1 := by
    show (ftCmQ v (ftKk w) li).1 = _
    rw [lxKv_q h e47 e56]
  rw [e]
  rcases lxCm_1 (v := ftCV v) (u := fun x => v (59 + 460 * ftKk w + x)) (li := li) (n := ftCL w + 60) with ⟨q1, q2⟩ | ⟨b, q1, q2, q3, q4⟩
  · exact Or.inl ⟨q1, fun t ht => by rw [← lxKv_d h e56 ht]; exact q2 t ht⟩
  · refine Or.inr ⟨b, q1, q2, ?_, fun t ht => ?_⟩
    · rw [← lxKv_d h e56 q1]; exact q3
    · rw [← lxKv_d h e56 (by omega)]; exact q4 t ht
/-- how many places lie beyond it -/
theorem lxKv_2 (h : ftWf w) (e47 : ∀ t, t < 47 → v t = w t) (e56 : ∀ t, 55 ≤ t → v t = ftKeep w t) (li : Int32) : ∃ c, c ≤ ftCL w + 60 ∧ ftCmK v (ftKk w) li 1 = nI c ∧ ((∃ t, t < ftCL w + 60 ∧ li < lxDf w v t) ↔ 0 < c) := by
  have e : ftCmK v (ftKk w) li 1 = (ftCmB (ftCV v) (fun x => v (59 + 460 * ftKk w + x)) li (ftCL w + 60) (ftCL w + 60)).2.1 := by
    show (ftCmQ v (ftKk w) li).2.1 = _
    rw [lxKv_q h e47 e56]
  rw [e, lxCm_2]
  obtain ⟨c, h1, h2, h3⟩ := lxCnt (fun t => li < ftAbs (ftCV v t - v (59 + 460 * ftKk w + t))) (ftCL w + 60)
  refine ⟨c, h1, h2, ?_⟩
  rw [← h3]
  constructor
  · rintro ⟨t, ht, q⟩
    exact ⟨t, ht, by rw [lxKv_d h e56 ht]; exact q⟩
  · rintro ⟨t, ht, q⟩
    exact ⟨t, ht, by rw [← lxKv_d h e56 ht]; exact q⟩
/-- all that the law asks of them -/
theorem lxKv_none (h : ftWf w) (e47 : ∀ t, t < 47 → v t = w t) (e56 : ∀ t, 55 ≤ t → v t = ftKeep w t) {li : Int32} {g : Int32} (hg : ∀ t, t < ftCL w + 60 → lxDf w v t ≤ g) (hl : g ≤ li) : ftCmK v (ftKk w) li 0 = -1000004 ∧ ftCmK v (ftKk w) li 1 = 0 := by
  have hno : ∀ t, t < ftCL w + 60 → ¬ li < lxDf w v t := fun t ht q => absurd (Int32.lt_of_le_of_lt hl q) (Int32.not_lt.mpr (hg t ht))
  constructor
  · rcases lxKv_1 h e47 e56 li with ⟨q, -⟩ | ⟨b, q1, -, q2, -⟩
    · exact q
    · exact absurd q2 (hno b q1)
  · obtain ⟨c, -, h2, h3⟩ := lxKv_2 h e47 e56 li
    rw [h2]
    have : c = 0 := by
      rcases Nat.eq_zero_or_pos c with q | q
      · exact q
      · obtain ⟨t, ht, r⟩ := h3.mpr q
        exact absurd r (hno t ht)
    rw [this]; exact nI_0
theorem lxKv_pred (h : ftWf w) (e47 : ∀ t, t < 47 → v t = w t) (e56 : ∀ t, 55 ≤ t → v t = ftKeep w t) {g : Int32} {b : Nat} (hg0 : 0 < g) (hb : b < ftCL w + 60) (he : lxDf w v b = g) (hm : ∀ t, t < b → lxDf w v t < g) : ftCmK v (ftKk w) (g - 1) 0 = nI b := by
  rcases lxKv_1 h e47 e56 (g - 1) with ⟨-, q⟩ | ⟨c, q1, q2, q3, q4⟩
  · exact absurd ((lx_lt_pred hg0).mpr (by rw [he]; exact Int32.le_refl g)) (q b hb)
  · rw [q2]
    rcases Nat.lt_trichotomy c b with r | r | r
    · exact absurd (Int32.lt_of_le_of_lt ((lx_lt_pred hg0).mp q3) (hm c r)) Int32.lt_irrefl
    · rw [r]
    · exact absurd ((lx_lt_pred hg0).mpr (by rw [he]; exact Int32.le_refl g)) (q4 b r)
theorem lxKv_lim (h : ftWf w) (e47 : ∀ t, t < 47 → v t = w t) (e56 : ∀ t, 55 ≤ t → v t = ftKeep w t) {li g : Int32} {b : Nat} (hb : b < ftCL w + 60) (hall : ∀ t, t < ftCL w + 60 → lxDf w v t ≤ g) (he : lxDf w v b = g) : (g ≤ li → ftCmK v (ftKk w) li 0 = -1000004 ∧ ftCmK v (ftKk w) li 1 = 0) ∧ (¬ g ≤ li → (∃ q, q ≤ b ∧ ftCmK v (ftKk w) li 0 = nI q) ∧ ∃ c, 0 < c ∧ c ≤ ftCL w + 60 ∧ ftCmK v (ftKk w) li 1 = nI c) := by
  refine ⟨fun q => lxKv_none h e47 e56 hall q, fun q => ?_⟩
  have q := Int32.not_le.mp q
  have hlb : li < lxDf w v b := by rw [he]; exact q
  constructor
  · rcases lxKv_1 h e47 e56 li with ⟨-, r⟩ | ⟨a, r1, r2, r3, r4⟩
    · exact absurd hlb (r b hb)
    · refine ⟨a, ?_, r2⟩
      rcases Nat.lt_or_ge b a with s | s
      · exact absurd hlb (r4 b s)
      · exact s
  · obtain ⟨c, h1, h2, h3⟩ := lxKv_2 h e47 e56 li
    exact ⟨c, h3.mp ⟨b, hb, hlb⟩, h1, h2⟩
end LXKV
