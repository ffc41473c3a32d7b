/-! another link, a part more -/
section FTLAY
variable {w m : Nat → Int32}
theorem ftLay_at {t : Nat} (hn : ftCN m ≤ 10) (ht : t < 4 + 4 * ftCN m) : ftLayW w m t = m t := by
  unfold ftLayW
  rw [if_pos (by omega), if_pos ht]
theorem ftLay_hi {t : Nat} (ht : 44 ≤ t) : ftLayW w m t = w t := by
  unfold ftLayW
  rw [if_neg (by omega)]
theorem ftLay_n (hn : ftCN m ≤ 10) : ftCN (ftLayW w m) = ftCN m := by
  show (ftLayW w m 3).toNatClampNeg = (m 3).toNatClampNeg
  rw [ftLay_at hn (by omega)]
theorem ftLR_lay {len att en : Int32} {n : Nat} {kf pf lf rf : Nat → Int32} (h : ftLR m len att en n kf pf lf rf) : ftLR (ftLayW w m) len att en n kf pf lf rf := by
  have hn := ftLR_n h
  obtain ⟨a1, a2, a3, a4, a5, a6⟩ := h
  refine ⟨by rw [ftLay_at (by omega) (by omega)]; exact a1, by rw [ftLay_at (by omega) (by omega)]; exact a2, by rw [ftLay_at (by omega) (by omega)]; exact a3, by rw [ftLay_at (by omega) (by omega)]; exact a4, a5, fun t ht => ?_⟩
  rw [ftLay_at (by omega) (by omega), ftLay_at (by omega) (by omega), ftLay_at (by omega) (by omega), ftLay_at (by omega) (by omega)]
  exact a6 t ht
theorem ftLf_lay (h : ftLf m) : ftLf (ftLayW w m) := by
  have hn10 := ftLf_n h
  have hcn := ftLay_n (w := w) hn10
  obtain ⟨a1, a2, a3, a4, a5, a6⟩ := h
  refine ⟨by rw [ftLay_at hn10 (by omega)]; exact a1, by rw [ftLay_at hn10 (by omega)]; exact a2, by rw [ftLay_at hn10 (by omega)]; exact a3, by rw [ftLay_at hn10 (by omega)]; exact a4, ?_, ?_⟩
  · rw [hcn]
    intro t ht
    have q := a5 t ht
    unfold ftPartOk at q ⊢
    rw [ftLay_at hn10 (by omega), ftLay_at hn10 (by omega), ftLay_at hn10 (by omega), ftLay_at hn10 (by omega), ftLay_at hn10 (by omega)]
    exact q
  · rw [hcn]
    intro a b hab hb
    rw [ftLay_at hn10 (by omega), ftLay_at hn10 (by omega)]
    exact a6 a b hab hb
theorem ftWf_tail {u : Nat → Int32} (h : ftWf w) (hl : ftLf u) (ht : ∀ t, 44 ≤ t → u t = w t) : ftWf u := by
  obtain ⟨b1, b2, b3, b4⟩ := h
  refine ⟨hl, fun s hs => ?_, ?_, ?_⟩
  · rw [ht _ (by omega)]; exact b2 s hs
  · rw [ht _ (by omega)]; exact b3
  · have e : ftCK u = ftCK w := by unfold ftCK; rw [ht _ (by omega)]
    rw [e]
    intro i hi
    rw [ht _ (by omega)]; exact b4 i hi
theorem ftWf_lay (h : ftWf w) (hm : ftLf m) : ftWf (ftLayW w m) := ftWf_tail h (ftLf_lay hm) (fun t ht => ftLay_hi ht)
theorem ftNew_of {k x lo re : Int32} (h : ftAdV w k x lo re) : ftNew k x lo re := by
  obtain ⟨⟨a, -, c⟩, d⟩ := h
  unfold ftNew
  rcases ftK02 a with q | q | q
  · subst q
    rw [if_pos rfl, if_neg (by decide)] at d
    exact Or.inl ⟨rfl, d.1, d.2, (c.resolve_left (fun r => absurd r.1 (by decide))).2⟩
  · subst q
    rw [if_neg (by decide), if_neg (by decide)] at d
    have c2 := c.resolve_right (fun r => r.1 rfl)
    exact Or.inr (Or.inl ⟨rfl, d.1, d.2, c2.2.1, c2.2.2⟩)
  · subst q
    rw [if_neg (by decide), if_pos rfl] at d
    exact Or.inr (Or.inr ⟨rfl, d.1, d.2, (c.resolve_left (fun r => absurd r.1 (by decide))).2⟩)
theorem ftLR_cong {len att en : Int32} {n : Nat} {kf pf lf rf kg pg lg rg : Nat → Int32} (h : ftLR w len att en n kf pf lf rf) (hc : ∀ t, t < n → kg t = kf t ∧ pg t = pf t ∧ lg t = lf t ∧ rg t = rf t) : ftLR w len att en n kg pg lg rg := by
  obtain ⟨a1, a2, a3, a4, a5, a6⟩ := h
  refine ⟨a1, a2, a3, a4, a5, fun t ht => ?_⟩
  obtain ⟨c1, c2, c3, c4⟩ := hc t ht
  rw [c1, c2, c3, c4]
  exact a6 t ht
end FTLAY
