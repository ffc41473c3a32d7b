/-! a part less -/
section FTDEL
variable {w : Nat → Int32} {k n : Nat}
theorem ftDel_part (hn : ftCN w = n) {t i : Nat} (hi : i < 4) (ht : t < n - 1) : ftDel w k (4 + 4 * t + i) = w (4 + 4 * (if k ≤ t then t + 1 else t) + i) := by
  unfold ftDel ftShD
  rw [hn]
  by_cases c : k ≤ t
  · rw [if_pos ⟨by omega, by omega⟩, if_pos c, ftUpd_ne (by omega), show 4 + 4 * t + i + 4 = 4 + 4 * (t + 1) + i by omega]
  · rw [if_neg (by omega), if_neg c, ftUpd_ne (by omega)]
theorem ftDel_lo (hn : ftCN w = n) {t : Nat} (ht : t < 3) : ftDel w k t = w t := by
  unfold ftDel ftShD
  rw [if_neg (by omega), ftUpd_ne (by omega)]
theorem ftDel_3 (hn : ftCN w = n) : ftDel w k 3 = nI (n - 1) := by
  unfold ftDel ftShD
  rw [if_neg (by omega), hn]; exact ftUpd_at0
theorem ftDel_hi (hn : ftCN w = n) (hn10 : n ≤ 10) {t : Nat} (ht : 44 ≤ t) : ftDel w k t = w t := by
  unfold ftDel ftShD
  rw [hn, if_neg (by omega), ftUpd_ne (by omega)]
theorem ftLR_del {len att en : Int32} {kf pf lf rf : Nat → Int32} (h : ftLR w len att en n kf pf lf rf) (hk : k < n) : ftLR (ftDel w k) len att en (n - 1) (ftRem kf n k) (ftRem pf n k) (ftRem lf n k) (ftRem rf n k) := by
  have hn := ftLR_n h
  obtain ⟨a1, a2, a3, a4, a5, a6⟩ := h
  refine ⟨by rw [ftDel_lo hn (by omega)]; exact a1, by rw [ftDel_lo hn (by omega)]; exact a2, by rw [ftDel_lo hn (by omega)]; exact a3, ftDel_3 hn, by omega, fun t ht => ?_⟩
  rw [ftDel_part hn (by omega) ht, ftDel_part hn (by omega) ht, ftDel_part hn (by omega) ht, ftDel_part hn (by omega) ht]
  unfold ftRem
  by_cases c : k ≤ t
  · rw [if_pos c, if_pos ⟨c, by omega⟩, if_pos ⟨c, by omega⟩, if_pos ⟨c, by omega⟩, if_pos ⟨c, by omega⟩]
    exact a6 (t + 1) (by omega)
  · rw [if_neg c, if_neg (fun q => c q.1), if_neg (fun q => c q.1), if_neg (fun q => c q.1), if_neg (fun q => c q.1)]
    exact a6 t (by omega)
theorem ftLf_del (h : ftLf w) (hk : k < ftCN w) : ftLf (ftDel w k) := by
  have hn10 := ftLf_n h
  obtain ⟨n, hn⟩ : ∃ n, ftCN w = n := ⟨_, rfl⟩
  rw [hn] at hk hn10
  have hcn : ftCN (ftDel w k) = n - 1 := by
    show (ftDel w k 3).toNatClampNeg = _
    rw [ftDel_3 hn, nI_clamp (by omega)]
  obtain ⟨a1, a2, a3, a4, a5, a6⟩ := h
  rw [hn] at a5 a6
  have hs : ∀ t, t < n - 1 → (if k ≤ t then t + 1 else t) < n := fun t ht => by split <;> omega
  refine ⟨?_, ?_, ?_, ?_, ?_, ?_⟩
  · rw [ftDel_3 hn]
    exact ⟨Int32.not_lt.mp (nI_pos (by omega)), nI_le (b := 10) (by omega) (by omega)⟩
  · rw [ftDel_lo hn (by omega)]; exact a2
  · rw [ftDel_lo hn (by omega)]; exact a3
  · rw [ftDel_lo hn (by omega)]; exact a4
  · rw [hcn]
    intro t ht
    have q := a5 _ (hs t ht)
    unfold ftPartOk at q ⊢
    rw [ftDel_part hn (by omega) ht, ftDel_part hn (by omega) ht, ftDel_part hn (by omega) ht, ftDel_part hn (by omega) ht, ftDel_lo hn (by omega)]
    exact q
  · rw [hcn]
    intro a b hab hb
    rw [ftDel_part hn (by omega) (by omega), ftDel_part hn (by omega) hb]
    exact a6 _ _ (by split <;> split <;> omega) (hs b hb)
theorem ftWf_del (h : ftWf w) (hk : k < ftCN w) : ftWf (ftDel w k) := by
  have hn10 := ftLf_n h.1
  obtain ⟨b1, b2, b3, b4⟩ := h
  refine ⟨ftLf_del b1 hk, fun s hs => ?_, ?_, ?_⟩
  · rw [ftDel_hi rfl hn10 (by omega)]; exact b2 s hs
  · rw [ftDel_hi rfl hn10 (by omega)]; exact b3
  · have e : ftCK (ftDel w k) = ftCK w := by unfold ftCK; rw [ftDel_hi rfl hn10 (by omega)]
    rw [e]
    intro i hi
    rw [ftDel_hi rfl hn10 (by omega)]; exact b4 i hi
end FTDEL
