/-! a splice more -/
theorem lxEq_rf (w : Nat → Int32) : lxEq w w := fun _ _ => rfl
theorem lx_fit0 {w : Nat → Int32} (h : ftWf w) {pl d : Nat} (h1 : 1 ≤ pl) (h2 : pl ≤ ftCL w - 1) (hd : d ≤ 5000) : lxFit w 0 (nI pl) (nI d) 0 := by
  have hl := ftWf_ln h
  have hg := ftWf_lg h
  refine ⟨⟨⟨by decide, by decide⟩, ⟨nI_le (a := 1) h1 (by omega), ?_⟩, Or.inr ⟨by decide, rfl⟩⟩, ?_, ?_⟩
  · rw [ftWf_0 h, show nI (ftCL w) - 1 = nI (ftCL w - 1) from ft_subN (b := 1) (by omega)]
    exact nI_le h2 (by omega)
  · rw [if_pos rfl]
    exact Int32.le_trans (b := 0) (by decide) (nI_le (a := 0) (Nat.zero_le d) (by omega))
  · rw [if_neg (by decide)]
    exact nI_le (b := 5000) hd (by omega)
theorem lx_fit2 {w : Nat → Int32} {pl : Nat} (h1 : 1 ≤ pl) (h2 : nI pl ≤ w 0 - 1) (hp : pl < 2 ^ 31) : lxFit w 2 (nI pl) 5 0 := ⟨⟨⟨by decide, by decide⟩, ⟨nI_le (a := 1) h1 hp, h2⟩, Or.inr ⟨by decide, rfl⟩⟩, by decide, by decide⟩
section LXALT
variable {w : Nat → Int32} {n : Nat} {kd x lo re : Int32}
theorem lxPt_1 (hw : ftWf (ftAdd w n kd x lo re)) (hn : n < 10) : ftPtA (ftAdd w n kd x lo re) (nI (ftPosW w x n)) 1 = x ∧ ftPtA (ftAdd w n kd x lo re) (nI (ftPosW w x n)) 0 = kd := by
  have hp := ftPosW_le w x n
  have hc : ftCN (ftAdd w n kd x lo re) = n + 1 := ftAdd_cn hn
  have h3 : ftAdd w n kd x lo re 3 = nI (n + 1) := ftAdd_3 w n kd x lo re
  have hr : 0 ≤ nI (ftPosW w x n) ∧ nI (ftPosW w x n) ≤ ftAdd w n kd x lo re 3 - 1 := by
    refine ⟨nI_le (a := 0) (Nat.zero_le _) (by omega), ?_⟩
    rw [h3, show nI (n + 1) - 1 = nI (n + 1 - 1) from ft_subN (b := 1) (by omega)]
    exact nI_le (by omega) (by omega)
  unfold ftPtA
  rw [ftIte_t ⟨hr, by decide, by decide⟩, ftIte_t ⟨hr, by decide, by decide⟩, nI_clamp (by omega)]
  unfold ftPtK
  rw [if_pos (by decide), if_pos (by decide)]
  exact ⟨ftAdd_at1, ftAdd_at0⟩
theorem lx_rmc (hn : n < 10) : ftRmC (ftAdd w n kd x lo re) (nI (ftPosW w x n)) := by
  have hp := ftPosW_le w x n
  refine ⟨nI_le (a := 0) (Nat.zero_le _) (by omega), ?_⟩
  rw [ftAdd_3, show nI (n + 1) - 1 = nI (n + 1 - 1) from ft_subN (b := 1) (by omega)]
  exact nI_le (by omega) (by omega)
theorem lx_rmn (h : ftWf w) : ¬ ftRmC w (nI (ftCN w)) := by
  intro q
  have h2 := q.2
  have hn := ftWf_n h
  rw [ftWf_3 h] at h2
  rcases Nat.eq_zero_or_pos (ftCN w) with r | r
  · rw [r] at h2; exact absurd h2 (by decide)
  · rw [show nI (ftCN w) - 1 = nI (ftCN w - 1) from ft_subN (b := 1) (by omega)] at h2
    have := (nI_leI (by omega) (by omega)).mp h2
    omega
theorem lx_rerow {k : Nat} {c : ftCdT} {z : Nat → Int32} {hn9 : Nat} {tx : Nat → Int32} {tn : Nat} (h : lxO k c (ftDel (ftAdd w (ftCN w) kd x lo re) (nI (ftPosW w x (ftCN w))).toNatClampNeg) z hn9 tx tn) (hf : c.1.2.1 3 = 0) (hw : ftWf w) (hn : ftCN w < 10) : lxO k c w z hn9 tx tn := by
  have hp := ftPosW_le w x (ftCN w)
  rw [nI_clamp (by omega)] at h
  obtain ⟨d1, d2⟩ := lx_del (kd := kd) (x := x) (lo := lo) (re := re) (ftWf_3 hw) hn
  have hc : ftCN (ftDel (ftAdd w (ftCN w) kd x lo re) (ftPosW w x (ftCN w))) = ftCN w := by
    unfold ftCN
    rw [show w 3 = w 3 from rfl]
    exact congrArg Int32.toNatClampNeg (d1 3 (by omega))
  exact lxO_row h hf hw (fun t ht => (d1 t (by rw [hc] at ht; exact ht)).symm) (fun t ht => (d2 t ht).symm)
theorem lx_delcn (hn : n < 10) : ftCN (ftDel (ftAdd w n kd x lo re) (nI (ftPosW w x n)).toNatClampNeg) = n := by
  have hp := ftPosW_le w x n
  unfold ftCN
  rw [ftDel_3 (ftAdd_cn hn), Nat.add_sub_cancel, nI_clamp (by omega)]
end LXALT
theorem lx_undo {k : Nat} {c : ftCdT} {w w1 z : Nat → Int32} {hm : Nat} {tx : Nat → Int32} {tn : Nat} (h : lxO k c (ftFill (fun t => ftPush w z hm ((min (hm + 1) 5 - 1) * 1439 + t)) w1 1439) (ftPush w z hm) (min (hm + 1) 5 - 1) tx tn) (hh : hm ≤ 5) (e : ∀ t, 1439 ≤ t → w1 t = w t) : lxO k c w (ftPush w z hm) (min (hm + 1) 5 - 1) tx tn := by
  rw [lx_un hh e] at h
  exact h
