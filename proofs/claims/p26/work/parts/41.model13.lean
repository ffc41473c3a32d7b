/-! the reference: count, lineLoss, sample, echo -/
theorem ft_btw {x : Int32} {K : Nat} (hK : K < 2 ^ 30) (h0 : 0 ≤ x) (h : x ≤ nI K - 1) : x.toNatClampNeg < K ∧ x = nI x.toNatClampNeg := by
  obtain ⟨e, hl⟩ := ftI_nat h0
  refine ⟨?_, e⟩
  rw [e] at h
  rcases Nat.eq_zero_or_pos K with z | z
  · subst z
    have h1 : (nI x.toNatClampNeg).toInt ≤ (nI 0 - 1 : Int32).toInt := Int32.le_iff_toInt_le.mp h
    rw [nI_toInt hl] at h1
    have h2 : (nI 0 - 1 : Int32).toInt = -1 := by decide
    omega
  · rw [show nI K - 1 = nI (K - 1) from ft_subN (b := 1) z] at h
    have := ft_leN hl (by omega) h
    omega
theorem ft_btw2 {x : Int32} {K : Nat} (hK : K < 2 ^ 31) (h0 : 0 ≤ x) (h : x ≤ nI K) : x.toNatClampNeg ≤ K ∧ x = nI x.toNatClampNeg := ⟨ftI_le h0 h hK, (ftI_nat h0).1⟩
theorem ftCG_le {w : Nat → Int32} (h : ftWf w) : (ftCG w).1 ≤ 55 := ftGms_le _ _ _ _ _ _ (ftFW_ok h.1 _ _).1
def ftCntK (w : Nat → Int32) (hm tn k : Nat) : Int32 := if k ≤ 10 then w (44 + k) else if k < 15 then w (k - 11) else if k = 15 then nI (ftCL w + 60) else if k = 16 then w 55 else if k = 17 then nI hm else nI tn
noncomputable def ftCntA (w : Nat → Int32) (hm tn : Nat) (x : Int32) : Int32 := ftIte (0 ≤ x ∧ x ≤ 18) (ftCntK w hm tn x.toNatClampNeg) (-1000001)
noncomputable def ftLlA (w : Nat → Int32) (x : Int32) : Int32 := ftIte (0 ≤ x ∧ x ≤ w 0) (ftLj w x (ftSum (fun y => ftFw w (nI y) (ftCN w)) x.toNatClampNeg) (ftCN w)) (-1000001)
def ftSmK (w : Nat → Int32) (k : Nat) (x : Int32) : Int32 := if x = 0 then ftCV w k else if x = 1 then ftCB w k else if x = 2 then ftCQ w k else ftCZ w k
noncomputable def ftSmA (w : Nat → Int32) (a b : Int32) : Int32 := ftIte ((0 ≤ a ∧ a ≤ nI (ftCL w + 60 - 1)) ∧ 0 ≤ b ∧ b ≤ 3) (ftSmK w a.toNatClampNeg b) (-1000001)
def ftEcK (w : Nat → Int32) (k : Nat) (x : Int32) : Int32 := if x = 0 then (ftCG w).2.1 k else if x = 1 then (ftCG w).2.2.1 k else if x = 2 then (ftCG w).2.2.2.1 k else (ftCG w).2.2.2.2 k
noncomputable def ftEcA (w : Nat → Int32) (a b : Int32) : Int32 := ftIte (¬ a < 0 ∧ 0 ≤ b ∧ b ≤ 3) (ftIte (a < nI (ftCG w).1) (ftEcK w a.toNatClampNeg b) (-1000004)) (-1000001)
theorem ftSum_s (f : Nat → Int32) (k : Nat) : ftSum f k + f k = ftSum f (k + 1) := rfl




