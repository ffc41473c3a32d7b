/-! the link that the law makes -/
/-- rows that agree in the link and the first settings make the same base and the same peaks -/
theorem lxFl_eq {kf pf rf kg pg rg p0 h0 : Nat → Int32} : ∀ i, (∀ t, t < i → kf t = kg t ∧ pf t = pg t ∧ rf t = rg t) → ftFl kf pf rf p0 h0 i = ftFl kg pg rg p0 h0 i := by
  intro i
  induction i with
  | zero => intro _; rfl
  | succ i ih =>
    intro h
    have e := ih (fun t ht => h t (by omega))
    obtain ⟨q1, q2, q3⟩ := h i (by omega)
    by_cases c : kf i = 1
    · rw [ftFl_t c, ftFl_t (by rw [← q1]; exact c), e, q2, q3]
    · rw [ftFl_f c, ftFl_f (by rw [← q1]; exact c), e]
section LXEQ
variable {w v : Nat → Int32}
theorem lxFw_eq (h : ∀ t, t < 47 → v t = w t) (x : Int32) : ∀ n, n ≤ 10 → ftFw v x n = ftFw w x n := by
  intro n
  induction n with
  | zero => intro _; exact h 1 (by omega)
  | succ n ih =>
    intro hn
    show (if v (4 + 4 * n + 0) = 2 ∧ v (4 + 4 * n + 1) ≤ x then v (4 + 4 * n + 2) else ftFw v x n) = (if w (4 + 4 * n + 0) = 2 ∧ w (4 + 4 * n + 1) ≤ x then w (4 + 4 * n + 2) else ftFw w x n)
    rw [h _ (by omega), h _ (by omega), h _ (by omega), ih (by omega)]
theorem lxLv_eq (h : ∀ t, t < 47 → v t = w t) {n : Nat} (hn : n ≤ 10) : ∀ x, ftLv v n x = ftLv w n x := by
  intro x
  induction x with
  | zero => rfl
  | succ x ih =>
    show ftLv v n x - ftFw v (nI x) n = ftLv w n x - ftFw w (nI x) n
    rw [ih, lxFw_eq h _ n hn]
theorem lxBi_eq (h : ∀ t, t < 47 → v t = w t) {x b0 : Int32} : ∀ n, n ≤ 10 → ftBi v x b0 n = ftBi w x b0 n := by
  intro n
  induction n with
  | zero => intro _; rfl
  | succ n ih =>
    intro hn
    show (if v (4 + 4 * n + 0) < 2 ∧ v (4 + 4 * n + 1) ≤ x then ftBi v x b0 n - ftSp1 v x n else ftBi v x b0 n) = (if w (4 + 4 * n + 0) < 2 ∧ w (4 + 4 * n + 1) ≤ x then ftBi w x b0 n - ftSp1 w x n else ftBi w x b0 n)
    unfold ftSp1
    rw [h (4 + 4 * n + 0) (by omega), h (4 + 4 * n + 1) (by omega), h (4 + 4 * n + 2) (by omega), h (44 + 0) (by omega), ih (by omega)]
theorem lxCN_eq (h : ∀ t, t < 47 → v t = w t) : ftCN v = ftCN w := by unfold ftCN; rw [h 3 (by omega)]
theorem lxCL_eq (h : ∀ t, t < 47 → v t = w t) : ftCL v = ftCL w := by unfold ftCL; rw [h 0 (by omega)]
theorem lxCB_eq (h : ∀ t, t < 47 → v t = w t) (hn : ftCN w ≤ 10) (x : Nat) : ftCB v x = ftCB w x := by
  unfold ftCB ftBsM
  rw [lxCN_eq h, lxCL_eq h, lxLv_eq h hn, lxBi_eq h _ hn]
theorem lxCF_eq (h : ∀ t, t < 47 → v t = w t) (hn : ftCN w ≤ 10) : ftCF v = ftCF w := by
  unfold ftCF ftFW ftFlE
  rw [lxCN_eq h, h 0 (by omega), h 2 (by omega), lxFl_eq (kg := fun k => w (4 + 4 * k + 0)) (pg := fun k => w (4 + 4 * k + 1)) (rg := fun k => w (4 + 4 * k + 3)) (ftCN w) (fun t ht => ⟨h _ (by omega), h _ (by omega), h _ (by omega)⟩)]
theorem lxCQ_eq (h : ∀ t, t < 47 → v t = w t) (hn : ftCN w ≤ 10) (x : Nat) : ftCQ v x = ftCQ w x := by
  have e2 : ftCW v = ftCW w := by unfold ftCW; rw [h (44 + 0) (by omega)]
  have e3 : ftCD v = ftCD w := by unfold ftCD; rw [h (44 + 1) (by omega)]
  have e4 : ftCG v = ftCG w := by unfold ftCG; rw [lxCF_eq h hn, h (44 + 2) (by omega)]
  unfold ftCQ
  rw [lxCF_eq h hn, e4, e2, e3]
end LXEQ
/-- another noise: how far the samples are from each other -/
theorem lx_noise {w v : Nat → Int32} (hw : ftWf w) (hv : ftWf v) (h : ∀ t, t < 47 → v t = w t) (h0 : w (44 + 3) = 0) (x : Nat) : 0 ≤ ftAbs (ftCV v x - ftCV w x) ∧ ftAbs (ftCV v x - ftCV w x) ≤ 40000 := by
  have ez : ftCZ w x = 0 := by
    unfold ftCZ ftNoise
    rw [h0]
    rfl
  have e : ftCV v x - ftCV w x = ftCZ v x := by
    unfold ftCV
    rw [lxCB_eq h (ftWf_n hw), lxCQ_eq h (ftWf_n hw), ez, Int32.add_zero, Int32.add_comm, Int32.add_sub_cancel]
  have h3 := ftWf_b3 hv
  obtain ⟨e3, -⟩ := ftI_nat h3.1
  have hz := ftNx_b (z := ftNzs (v (44 + 3)) (v (44 + 5)) (ftCP v) x) e3 (ftI_le (N := 400) h3.1 h3.2 (by omega)) (ftWf_pu hv)
  have hz : -40000 ≤ (ftCZ v x).toInt ∧ (ftCZ v x).toInt ≤ 40000 := hz
  rw [e]
  generalize ftCZ v x = z at hz
  unfold ftAbs
  split
  · rename_i q
    exact ⟨q, Int32.le_iff_toInt_le.mpr (by rw [show (40000 : Int32).toInt = 40000 by decide]; exact hz.2)⟩
  · have e9 : (0 - z).toInt = 0 - z.toInt := by
      rw [Int32.toInt_sub, show (0 : Int32).toInt = 0 by decide, Int.bmod_def]
      split <;> omega
    rename_i q
    have q9 : z.toInt < 0 := by
      have := Int32.lt_iff_toInt_lt.mp (Int32.not_le.mp q)
      rw [show (0 : Int32).toInt = 0 by decide] at this
      exact this
    constructor
    · rw [Int32.le_iff_toInt_le, e9, show (0 : Int32).toInt = 0 by decide]; omega
    · rw [Int32.le_iff_toInt_le, e9, show (40000 : Int32).toInt = 40000 by decide]; omega
/-! a splice more -/
section LXSP
variable {w : Nat → Int32} {n : Nat} {x lo : Int32}
theorem lxAd_fw (y : Int32) : ∀ k, k ≤ n → ftFw (ftAdd w n 0 x lo 0) y (if k < ftPosW w x n then k else k + 1) = ftFw w y k := by
  intro k
  induction k with
  | zero =>
    intro _
    by_cases q : 0 < ftPosW w x n
    · rw [if_pos q]; exact ftAdd_l (by omega)
    · rw [if_neg q]
      have e : ftPosW w x n = 0 := by omega
      show (if ftAdd w n 0 x lo 0 (4 + 4 * 0 + 0) = 2 ∧ _ then _ else ftAdd w n 0 x lo 0 1) = w 1
      rw [if_neg (fun r => ?_)]
      · exact ftAdd_l (by omega)
      · have e0 := ftAdd_at0 (w := w) (n := n) (kd := 0) (x := x) (lo := lo) (re := 0)
        rw [e] at e0
        rw [e0] at r
        exact absurd r.1 (by decide)
  | succ k ih =>
    intro hk
    have ih := ih (by omega)
    rcases Nat.lt_trichotomy (k + 1) (ftPosW w x n) with q | q | q
    · rw [if_pos q]
      rw [if_pos (by omega)] at ih
      show (if ftAdd w n 0 x lo 0 (4 + 4 * k + 0) = 2 ∧ ftAdd w n 0 x lo 0 (4 + 4 * k + 1) ≤ y then ftAdd w n 0 x lo 0 (4 + 4 * k + 2) else ftFw (ftAdd w n 0 x lo 0) y k) = (if w (4 + 4 * k + 0) = 2 ∧ w (4 + 4 * k + 1) ≤ y then w (4 + 4 * k + 2) else ftFw w y k)
      rw [ih, ftAdd_lo (by omega) (by omega), ftAdd_lo (by omega) (by omega), ftAdd_lo (by omega) (by omega)]
    · rw [if_neg (by omega)]
      rw [if_pos (by omega)] at ih
      have e0 := ftAdd_at0 (w := w) (n := n) (kd := 0) (x := x) (lo := lo) (re := 0)
      rw [← q] at e0
      show (if ftAdd w n 0 x lo 0 (4 + 4 * (k + 1) + 0) = 2 ∧ _ then _ else ftFw (ftAdd w n 0 x lo 0) y (k + 1)) = _
      rw [if_neg (fun r => by rw [e0] at r; exact absurd r.1 (by decide))]
      show (if ftAdd w n 0 x lo 0 (4 + 4 * k + 0) = 2 ∧ ftAdd w n 0 x lo 0 (4 + 4 * k + 1) ≤ y then ftAdd w n 0 x lo 0 (4 + 4 * k + 2) else ftFw (ftAdd w n 0 x lo 0) y k) = (if w (4 + 4 * k + 0) = 2 ∧ w (4 + 4 * k + 1) ≤ y then w (4 + 4 * k + 2) else ftFw w y k)
      rw [ih, ftAdd_lo (by omega) (by omega), ftAdd_lo (by omega) (by omega), ftAdd_lo (by omega) (by omega)]
    · rw [if_neg (by omega)]
      show (if ftAdd w n 0 x lo 0 (4 + 4 * (k + 1) + 0) = 2 ∧ ftAdd w n 0 x lo 0 (4 + 4 * (k + 1) + 1) ≤ y then ftAdd w n 0 x lo 0 (4 + 4 * (k + 1) + 2) else ftFw (ftAdd w n 0 x lo 0) y (k + 1)) = (if w (4 + 4 * k + 0) = 2 ∧ w (4 + 4 * k + 1) ≤ y then w (4 + 4 * k + 2) else ftFw w y k)
      rw [if_neg (by omega)] at ih
      rw [ih, ftAdd_hi (by omega) (by omega) (by omega), ftAdd_hi (by omega) (by omega) (by omega), ftAdd_hi (by omega) (by omega) (by omega)]
      rfl
theorem lxAd_fwn (y : Int32) : ftFw (ftAdd w n 0 x lo 0) y (n + 1) = ftFw w y n := by
  have h := lxAd_fw (w := w) (n := n) (x := x) (lo := lo) y n (Nat.le_refl n)
  rw [if_neg (by have := ftPosW_le w x n; omega)] at h
  exact h
theorem lxAd_lj (y s0 : Int32) : ∀ k, k ≤ n → ftLj (ftAdd w n 0 x lo 0) y s0 (if k < ftPosW w x n then k else k + 1) = ftLj w y s0 k + (if k < ftPosW w x n then 0 else if x < y then lo else 0) := by
  intro k
  have e0 := ftAdd_at0 (w := w) (n := n) (kd := 0) (x := x) (lo := lo) (re := 0)
  have e1 := ftAdd_at1 (w := w) (n := n) (kd := 0) (x := x) (lo := lo) (re := 0)
  have e2 := ftAdd_at2 (w := w) (n := n) (kd := 0) (x := x) (lo := lo) (re := 0)
  have hat : ∀ s1, (s1 + if ftAdd w n 0 x lo 0 (4 + 4 * ftPosW w x n + 0) < 2 ∧ ftAdd w n 0 x lo 0 (4 + 4 * ftPosW w x n + 1) < y then ftAdd w n 0 x lo 0 (4 + 4 * ftPosW w x n + 2) else 0) = s1 + if x < y then lo else 0 := by
    intro s1
    rw [e0, e1, e2]
    by_cases r : x < y
    · rw [if_pos ⟨by decide, r⟩, if_pos r]
    · rw [if_neg (fun q => r q.2), if_neg r]
  have hst : ∀ k, k < ftPosW w x n → ftLj (ftAdd w n 0 x lo 0) y s0 (k + 1) = ftLj (ftAdd w n 0 x lo 0) y s0 k + (if w (4 + 4 * k + 0) < 2 ∧ w (4 + 4 * k + 1) < y then w (4 + 4 * k + 2) else 0) := by
    intro k hk
    show ftLj (ftAdd w n 0 x lo 0) y s0 k + (if ftAdd w n 0 x lo 0 (4 + 4 * k + 0) < 2 ∧ ftAdd w n 0 x lo 0 (4 + 4 * k + 1) < y then ftAdd w n 0 x lo 0 (4 + 4 * k + 2) else 0) = _
    rw [ftAdd_lo (by omega) hk, ftAdd_lo (by omega) hk, ftAdd_lo (by omega) hk]
  induction k with
  | zero =>
    intro _
    by_cases q : 0 < ftPosW w x n
    · rw [if_pos q, if_pos q, Int32.add_zero]; rfl
    · rw [if_neg q, if_neg q]
      have e : ftPosW w x n = 0 := by omega
      rw [e] at hat
      exact hat s0
  | succ k ih =>
    intro hk
    have ih := ih (by omega)
    rcases Nat.lt_trichotomy (k + 1) (ftPosW w x n) with q | q | q
    · rw [if_pos (by omega), if_pos (by omega), Int32.add_zero] at ih
      rw [if_pos q, if_pos q, Int32.add_zero, hst k (by omega), ih]
      rfl
    · rw [if_pos (by omega), if_pos (by omega), Int32.add_zero] at ih
      rw [if_neg (by omega), if_neg (by omega)]
      rw [← q] at hat
      show ftLj (ftAdd w n 0 x lo 0) y s0 (k + 1) + _ = _
      rw [hat, hst k (by omega), ih]
      rfl
    · rw [if_neg (by omega), if_neg (by omega)] at ih
      rw [if_neg (by omega), if_neg (by omega)]
      show ftLj (ftAdd w n 0 x lo 0) y s0 (k + 1) + (if ftAdd w n 0 x lo 0 (4 + 4 * (k + 1) + 0) < 2 ∧ ftAdd w n 0 x lo 0 (4 + 4 * (k + 1) + 1) < y then ftAdd w n 0 x lo 0 (4 + 4 * (k + 1) + 2) else 0) = (ftLj w y s0 k + (if w (4 + 4 * k + 0) < 2 ∧ w (4 + 4 * k + 1) < y then w (4 + 4 * k + 2) else 0)) + _
      rw [ih, ftAdd_hi (by omega) (by omega) (by omega), ftAdd_hi (by omega) (by omega) (by omega), ftAdd_hi (by omega) (by omega) (by omega)]
      show ftLj w y s0 k + _ + (if w (4 + 4 * k + 0) < 2 ∧ w (4 + 4 * k + 1) < y then w (4 + 4 * k + 2) else 0) = _
      rw [Int32.add_assoc, Int32.add_assoc, Int32.add_comm (if x < y then lo else 0)]
/-- the line's loss with a splice more -/
theorem lxAd_ll (hw3 : w 3 = nI n) (hn : n < 10) (y : Int32) (hy : 0 ≤ y ∧ y ≤ w 0) : ftLlA (ftAdd w n 0 x lo 0) y = ftLlA w y + (if x < y then lo else 0) := by
  have hc : ftCN w = n := by unfold ftCN; rw [hw3, nI_clamp (by omega)]
  have hc1 : ftCN (ftAdd w n 0 x lo 0) = n + 1 := ftAdd_cn hn
  have h0 : ftAdd w n 0 x lo 0 0 = w 0 := ftAdd_l (by omega)
  unfold ftLlA
  rw [ftIte_t (by rw [h0]; exact hy), ftIte_t hy, hc, hc1]
  have es : (fun t => ftFw (ftAdd w n 0 x lo 0) (nI t) (n + 1)) = fun t => ftFw w (nI t) n := funext fun t => lxAd_fwn (nI t)
  rw [es]
  have h := lxAd_lj (w := w) (n := n) (x := x) (lo := lo) y (ftSum (fun t => ftFw w (nI t) n) y.toNatClampNeg) n (Nat.le_refl n)
  have hp := ftPosW_le w x n
  rw [if_neg (by omega), if_neg (by omega)] at h
  exact h
end LXSP
