/-! the noise is small -/
theorem ftRem_i {x y : Int32} (hy : 0 < y.toInt) : (ftRemI x y).toInt = x.toInt.tmod y.toInt := by
  have h1 := Int.mul_tdiv_add_tmod x.toInt y.toInt
  have h2 := Int.tmod_lt_of_pos x.toInt hy
  have h3 := Int.lt_tmod_of_pos x.toInt hy
  have h4 := y.toInt_lt
  have h5 := y.le_toInt
  unfold ftRemI
  simp only [Int32.toInt_sub, Int32.toInt_mul, Int32.toInt_div, Int.bmod_mul_bmod, Int.sub_bmod_bmod]
  rw [show x.toInt - x.toInt.tdiv y.toInt * y.toInt = x.toInt.tmod y.toInt by rw [Int.mul_comm]; omega]
  rw [Int.bmod_def]
  split <;> omega
theorem ftDr_1 {a z : Int32} {A : Nat} (ha : a = nI A) (hA : A ≤ 400) : -1201 ≤ (ftMod z (2 * a + 1) - a).toInt ∧ (ftMod z (2 * a + 1) - a).toInt ≤ 1201 := by
  have e : 2 * a + 1 = nI (2 * A + 1) := by
    rw [ha, show (2 : Int32) = nI 2 by decide, ft_mulN, show (1 : Int32) = nI 1 by decide, ft_addN]
  have e1 : (nI (2 * A + 1)).toInt = 2 * A + 1 := by
    have := nI_toInt (n := 2 * A + 1) (by omega)
    omega
  have e2 : a.toInt = A := by rw [ha]; exact nI_toInt (by omega)
  have hne : ¬ 2 * a + 1 = 0 := by
    rw [e]; exact nI_ne0 (by omega) (by omega)
  unfold ftMod
  rw [if_neg hne, e]
  have h1 := ftRem_i (x := z) (y := nI (2 * A + 1)) (by omega)
  have h2 := Int.tmod_lt_of_pos z.toInt (b := (nI (2 * A + 1)).toInt) (by omega)
  have h3 := Int.lt_tmod_of_pos z.toInt (b := (nI (2 * A + 1)).toInt) (by omega)
  rw [← h1] at h2 h3
  rw [Int32.toInt_sub, Int.bmod_def]
  split <;> omega
theorem ftDr_k {a z : Int32} {A : Nat} (ha : a = nI A) (hA : A ≤ 400) : ∀ k : Nat, k ≤ 32 → -(1201 * (k : Int)) ≤ (ftDraw a z k).2.toInt ∧ (ftDraw a z k).2.toInt ≤ 1201 * (k : Int)
  | 0, _ => by show _ ≤ (0 : Int32).toInt ∧ (0 : Int32).toInt ≤ _; exact ⟨by decide, by decide⟩
  | k + 1, hk => by
    have ih := ftDr_k (z := z) ha hA k (by omega)
    have h1 := ftDr_1 (z := ftZ1 (ftDraw a z k).1) ha hA
    show _ ≤ ((ftDraw a z k).2 + (ftMod (ftZ1 (ftDraw a z k).1) (2 * a + 1) - a)).toInt ∧ ((ftDraw a z k).2 + (ftMod (ftZ1 (ftDraw a z k).1) (2 * a + 1) - a)).toInt ≤ _
    rw [Int32.toInt_add, Int.bmod_def]
    split <;> omega
theorem ftNx_b {a z : Int32} {A p : Nat} (ha : a = nI A) (hA : A ≤ 400) (hp : p ≤ 32) : -40000 ≤ (ftNx a z p).toInt ∧ (ftNx a z p).toInt ≤ 40000 := by
  unfold ftNx ftQuot
  have h := ftDr_k (z := z) ha hA p hp
  split
  · exact ⟨by decide, by decide⟩
  · split
    · exact ⟨by decide, by decide⟩
    · rw [Int32.toInt_div]
      have h2 := Int.natAbs_tdiv_le_natAbs (ftDraw a z p).2.toInt (nI p).toInt
      rw [Int.bmod_def]
      split <;> omega
theorem ftCV_0 {w : Nat → Int32} (h : ftWf w) : 0 ≤ ftCV w 0 := by
  obtain ⟨a, ha, e⟩ := ftCQ_b h 0
  have h3 := ftWf_b3 h
  obtain ⟨e3, -⟩ := ftI_nat h3.1
  have hA : (w (44 + 3)).toNatClampNeg ≤ 400 := ftI_le (N := 400) h3.1 h3.2 (by omega)
  have hz := ftNx_b (z := ftNzs (w (44 + 3)) (w (44 + 5)) (ftCP w) 0) e3 hA (ftWf_pu h)
  unfold ftCV
  rw [ftCB_0 h.1, e, Int32.le_iff_toInt_le, Int32.toInt_add, Int32.toInt_add, nI_toInt (by omega)]
  have hz : -40000 ≤ (ftCZ w 0).toInt ∧ (ftCZ w 0).toInt ≤ 40000 := hz
  rw [show (50000 : Int32).toInt = 50000 by decide, show (0 : Int32).toInt = 0 by decide]
  rw [Int.bmod_def, Int.bmod_def]
  split <;> split <;> omega
