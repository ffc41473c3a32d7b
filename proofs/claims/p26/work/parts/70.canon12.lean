/-! the other cells behind a part more -/
section FTADT
variable {w : Nat → Int32} {n : Nat} {kd x lo re : Int32}
theorem ftAdd_tl (hn : n < 10) {t : Nat} (ht : 44 ≤ t) : ftAdd w n kd x lo re t = w t := by
  have hle := ftPosW_le w x n
  unfold ftAdd ftComes
  rw [ftUpd_ne (by omega), ftUpd_ne (by omega), ftUpd_ne (by omega), ftUpd_ne (by omega), ftUpd_ne (by omega)]
  unfold ftShP
  rw [if_neg (by omega)]
theorem ftWf_add (h : ftWf w) (hc : ftAdC w kd x lo re) : ftWf (ftAdd w (ftCN w) kd x lo re) := by
  obtain ⟨hV, hp, h10⟩ := hc
  have hn10 := ftLf_n h.1
  have h3 := ftLf_3 h.1
  have hn : ftCN w < 10 := by
    rcases Nat.eq_or_lt_of_le hn10 with q | q
    · exact absurd (by rw [h3, q]; rfl) h10
    · exact q
  have hne := (ftPa_neg (w := w) (x := x) (ftCN w) (by omega)).mp hp
  have hx := hV.1.2.1
  have hlt : x < w 0 := by
    have h0 := ftLf_0 h.1
    have hg := ftLf_lg h.1
    have hl := ftLf_ln h.1
    have q := hx.2
    rw [h0, show nI (ftCL w) - 1 = nI (ftCL w - 1) from ft_subN (b := 1) (by omega)] at q
    rw [h0]
    exact Int32.lt_of_le_of_lt q (nI_lt (by omega) (by omega))
  exact ftWf_tail h (ftAdd_lf h.1 hn hx.1 hlt hne (ftNew_of hV)) (fun t ht => ftAdd_tl hn ht)
end FTADT
