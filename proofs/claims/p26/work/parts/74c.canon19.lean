/-! a trace kept: the reference's row, the class's ring -/
section FTKEEP
variable {w : Nat → Int32}
theorem ftKk_eq {ke : Nat} (h : ftCK w = min ke 3) : ftKk w = min ke 2 := by
  unfold ftKk
  rw [h]
  split <;> omega
theorem ftKs_sz {i : Nat} (hi : i < ftKk w) : ftKs w (56 + i) = w (56 + (if ftCK w = 3 then i + 1 else i)) := by
  unfold ftKs ftKk at *
  by_cases c : ftCK w = 3
  · rw [if_pos c] at hi
    rw [if_pos c, if_pos c, ftUpd_ne (by omega)]
    unfold ftShK
    rw [if_neg (by omega)]
    rcases Nat.eq_zero_or_pos i with q | q
    · subst q
      rw [ftUpd_ne (by omega)]
      exact ftUpd_at0
    · obtain rfl : i = 1 := by omega
      exact ftUpd_at0
  · rw [if_neg c, if_neg c]
theorem ftKs_row {i x : Nat} (hi : i < ftKk w) (hk : ftKk w ≤ 2) (hx : x < 460) : ftKs w (59 + 460 * i + x) = w (59 + 460 * (if ftCK w = 3 then i + 1 else i) + x) := by
  unfold ftKs ftKk at *
  by_cases c : ftCK w = 3
  · rw [if_pos c] at hi
    rw [if_pos c, if_pos c, ftUpd_ne (by omega)]
    unfold ftShK
    rw [if_pos ⟨by omega, by omega⟩, ftUpd_ne (by omega), ftUpd_ne (by omega), show 59 + 460 * i + x + 460 = 59 + 460 * (i + 1) + x by omega]
  · rw [if_neg c, if_neg c]
theorem ftKeep_lo {t : Nat} (ht : t < 55) : ftKeep w t = w t := by
  unfold ftKeep ftSeg
  rw [ftUpd_ne (by omega), ftUpd_ne (by omega), if_neg (by omega), ftKs_lo ht]
theorem ftKeep_55 : ftKeep w 55 = nI (ftKk w + 1) := ftUpd_at0
theorem ftKeep_new : ftKeep w (56 + ftKk w) = nI (ftCL w + 60) := by
  unfold ftKeep
  rw [ftUpd_ne (by omega), ftUpd_at0]
theorem ftKeep_sz {i : Nat} (hi : i < ftKk w) (hk : ftKk w ≤ 2) : ftKeep w (56 + i) = w (56 + (if ftCK w = 3 then i + 1 else i)) := by
  unfold ftKeep ftSeg
  rw [ftUpd_ne (by omega), ftUpd_ne (by omega), if_neg (by omega), ftKs_sz hi]
theorem ftKeep_row {i x : Nat} (hi : i < ftKk w) (hk : ftKk w ≤ 2) (hx : x < 460) : ftKeep w (59 + 460 * i + x) = w (59 + 460 * (if ftCK w = 3 then i + 1 else i) + x) := by
  unfold ftKeep ftSeg
  rw [ftUpd_ne (by omega), ftUpd_ne (by omega), if_neg, ftKs_row hi hk hx]
  intro q
  have := Nat.mul_le_mul_left 460 (show i + 1 ≤ ftKk w from hi)
  omega
theorem ftKeep_rowN {x : Nat} (hk : ftKk w ≤ 2) (hx : x < ftCL w + 60) : ftKeep w (59 + 460 * ftKk w + x) = ftCV w x := by
  unfold ftKeep ftSeg
  rw [ftUpd_ne (by omega), ftUpd_ne (by omega), if_pos ⟨by omega, by omega⟩, show 59 + 460 * ftKk w + x - (59 + 460 * ftKk w) = x by omega]
theorem ftWf_keep (h : ftWf w) : ftWf (ftKeep w) := by
  have hck := ftWf_kp h
  have hk : ftKk w ≤ 2 := by unfold ftKk; split <;> omega
  have hlg := ftWf_lg h
  have hln := ftWf_ln h
  have hsz := ftWf_szs h
  obtain ⟨b1, b2, b3, b4⟩ := h
  refine ⟨ftLf_cong b1 (fun t ht => ftKeep_lo (by omega)), fun s hs => by rw [ftKeep_lo (by omega)]; exact b2 s hs, ?_, ?_⟩
  · rw [ftKeep_55]
    exact ⟨nI_le (a := 0) (by omega) (by omega), nI_le (b := 3) (by omega) (by omega)⟩
  · have e : ftCK (ftKeep w) = ftKk w + 1 := by unfold ftCK; rw [ftKeep_55, nI_clamp (by omega)]
    rw [e]
    intro i hi
    rcases Nat.eq_or_lt_of_le (Nat.le_of_lt_succ hi) with q | q
    · rw [q, ftKeep_new]
      exact ⟨nI_le (a := 110) (by omega) (by omega), nI_le (b := 460) (by omega) (by omega)⟩
    · rw [ftKeep_sz q hk]
      refine b4 _ ?_
      have : ftKk w = if ftCK w = 3 then 2 else ftCK w := rfl
      split <;> split at this <;> omega
theorem ftSR_kept {kq zq g : Nat → Int32} {len att en : Int32} {n ke : Nat} {kf pf lf rf sf : Nat → Int32} (h : ftSR kq zq w len att en n ke kf pf lf rf sf) (h0 : 0 ≤ ftCV w 0) (hg : ∀ x, x < ftCL w + 60 → g x = ftCV w x) : ftSR (ftSeg g kq ((ke % 8) * 460) (ftCL w + 60)) (upd zq (ke % 8) (nI (ftCL w + 60))) (ftKeep w) len att en n (ke + 1) kf pf lf rf sf := by
  have hck := ftSR_ck h
  have hkk := ftKk_eq hck
  have hk : ftKk w ≤ 2 := by omega
  have hln := ftWf_ln h.1
  have hsz := ftWf_szs h.1
  have hrg := ftRg_keep (K := ke) (N := ftCL w + 60) (g := g) (x := nI (ftCL w + 60)) h.2.2.2.2 (fun i hi => (hsz i (by omega)).2.2) (Nat.le_refl ke) (by omega) (by omega)
  obtain ⟨h1, h2, h3, h4, h5⟩ := h
  refine ⟨ftWf_keep h1, ftLR_row h2 (fun t ht => ftKeep_lo (by omega)), fun j hj => by rw [ftKeep_lo (by omega)]; exact h3 j hj, ?_, ?_⟩
  · rw [ftKeep_55, ftKk_min h4]
  · intro i hi
    rcases Nat.eq_or_lt_of_le (show i ≤ ftKk w by omega) with q | q
    · have ep : (ke + 1 - min (ke + 1) 3 + i) % 8 = ke % 8 := by omega
      rw [ep, q, ftKeep_new, nI_clamp (by omega)]
      refine ⟨by rw [ftKeep_rowN hk (by omega)]; exact h0, ftUpd_at0, fun x hx => ?_⟩
      rw [ftKeep_rowN hk hx, ftRg_new hx, hg x hx]
    · obtain ⟨i', hi', ei, ep⟩ : ∃ i', i' < min ke 3 ∧ (if ftCK w = 3 then i + 1 else i) = i' ∧ (ke + 1 - min (ke + 1) 3 + i) % 8 = (ke - min ke 3 + i') % 8 := by
        refine ⟨_, ?_, rfl, ?_⟩ <;> split <;> omega
      obtain ⟨r1, r2, r3⟩ := hrg i' hi'
      have hs := (hsz i' (by omega)).2.2
      rw [ep, ftKeep_sz q hk, ei]
      refine ⟨by rw [ftKeep_row q hk (by omega), ei]; exact r1, r2, fun x hx => ?_⟩
      rw [ftKeep_row q hk (by omega), ei]
      exact r3 x hx
end FTKEEP
