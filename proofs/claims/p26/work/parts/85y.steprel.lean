/-! the relation of the class's state and the reference's, through every call -/
def ftR2 (n : Nat) (c : ftCdT) (w z : Nat → Int32) : Prop := ftNow c.1 (c.2.2.2 1) (c.2.2.2 2) w ∧ ftMi w (c.1.2.1 3) c.2.1 ∧ c.1.1 1 ≤ n ∧ c.1.1 2 < 5 ∧ c.1.1 3 ≤ 5 ∧ c.2.2.1.1 ≤ 120 ∧ ftHR c.1 (c.2.2.2 1) (c.2.2.2 2) z (c.1.1 3) ∧ ftKC c.1 (c.1.1 3) (c.1.1 1)
theorem ft_absd {a b : Int32} (ha : 0 ≤ a) (hb : 0 ≤ b) : 0 ≤ ftAbs (a - b) := by
  obtain ⟨ea, la⟩ := ftI_nat ha
  obtain ⟨eb, lb⟩ := ftI_nat hb
  generalize a.toNatClampNeg = x at *
  generalize b.toNatClampNeg = y at *
  subst ea; subst eb
  unfold ftAbs
  by_cases q : y ≤ x
  · have e : nI x - nI y = nI (x - y) := ft_subN q
    have h0 : (0 : Int32) ≤ nI (x - y) := nI_le (a := 0) (by omega) (by omega)
    rw [e, if_pos h0]
    exact h0
  · have e : 0 - (nI x - nI y) = nI (y - x) := by
      rw [← ft_subN (a := y) (b := x) (by omega)]
      rw [Int32.sub_eq_add_neg, Int32.neg_sub, Int32.zero_add]
    split
    · assumption
    · have h0 : (0 : Int32) ≤ nI (y - x) := nI_le (a := 0) (by omega) (by omega)
      rw [e]
      exact h0
theorem ftR2_cr {n : Nat} {c : ftCdT} {w z : Nat → Int32} (h : ftR2 n c w z) : ftCR n c w (c.1.1 3) := by
  obtain ⟨⟨h1, h2, h3, h4, h5⟩, h6, h7, h8, h9, h10, h11, h12⟩ := h
  exact ⟨h1, h2, h3, h6, h7, h4, fun i hi => ⟨(h5 i hi).2.1, (h5 i hi).2.2⟩, fun i hi => ft_absd (ftCV_0 h1) (h5 i hi).1, h8, rfl, h9, h10⟩
section FTSTEP
variable {n : Nat} {c c' : ftCdT} {w w' z : Nat → Int32} {f : Int32}
/-- a call that changes no state -/
theorem ftR2_up (h : ftR2 n c w z) (hs : c'.1 = ftFlS c.1 f) (hmi : ftMi w f c'.2.1) (hk : c'.2.2.2 1 = c.2.2.2 1) (hz : c'.2.2.2 2 = c.2.2.2 2) (ht : c'.2.2.1.1 ≤ 120) : ftR2 (n + 1) c' w z := by
  obtain ⟨h1, h6, h7, h8, h9, h10, h11, h12⟩ := h
  unfold ftR2
  rw [hs, hk, hz]
  exact ⟨h1, hmi, Nat.le_succ_of_le h7, h8, h9, ht, h11, h12⟩
theorem ftR2_up0 (h : ftR2 n c w z) (hs : c'.1 = c.1) (hmi : ftMi w (c.1.2.1 3) c'.2.1) (hk : c'.2.2.2 1 = c.2.2.2 1) (hz : c'.2.2.2 2 = c.2.2.2 2) (ht : c'.2.2.1.1 ≤ 120) : ftR2 (n + 1) c' w z := by
  obtain ⟨h1, h6, h7, h8, h9, h10, h11, h12⟩ := h
  unfold ftR2
  rw [hs, hk, hz]
  exact ⟨h1, hmi, Nat.le_succ_of_le h7, h8, h9, ht, h11, h12⟩
/-- a change taken -/
theorem ftR2_ch (h : ftR2 n c w z) (hh : c'.1.2.2.2 = (ftBg c.1).2.2.2) (h2 : c'.1.1 2 = (c.1.1 2 + 1) % 5) (h3 : c'.1.1 3 = min (c.1.1 3 + 1) 5) (h1 : c'.1.1 1 = c.1.1 1) (hfl : c'.1.2.1 3 = 0) (hm : c'.2.1 = c.2.1) (hk : c'.2.2.2 1 = c.2.2.2 1) (hz : c'.2.2.2 2 = c.2.2.2 2) (ht : c'.2.2.1.1 ≤ 120) (hnow : ftNow c'.1 (c.2.2.2 1) (c.2.2.2 2) w') : ftR2 (n + 1) c' w' (ftPush w z (c.1.1 3)) := by
  obtain ⟨g1, g6, g7, g8, g9, g10, g11, g12⟩ := h
  have hH := ftBg_HR g1 g11 g8 g9
  refine ⟨by rw [hk, hz]; exact hnow, ⟨Or.inl hfl, fun q => absurd hfl q, by rw [hm]; exact g6.2.2⟩, by omega, by omega, by omega, ht, ?_, ?_⟩
  · rw [h3, hk, hz]
    intro m hm9
    have q := hH m hm9
    unfold ftSlR at q ⊢
    rw [hh, h2]
    exact q
  · rw [h3]
    refine ftKC_bg (s' := c'.1) g8 g9 g12 (fun m => ?_) (by omega) (by omega)
    unfold ftKm
    rw [hh, h2]
/-- another link, the rest the same -/
theorem ftSR_tail {kq zq : Nat → Int32} {len att en len' att' en' : Int32} {m m' ke : Nat} {kf pf lf rf kf' pf' lf' rf' sf : Nat → Int32} (h : ftSR kq zq w len att en m ke kf pf lf rf sf) (hW : ftWf w') (hL : ftLR w' len' att' en' m' kf' pf' lf' rf') (ht : ∀ t, 44 ≤ t → w' t = w t) : ftSR kq zq w' len' att' en' m' ke kf' pf' lf' rf' sf := by
  obtain ⟨h1, h2, h3, h4, h5⟩ := h
  refine ⟨hW, hL, fun j hj => by rw [ht _ (by omega)]; exact h3 j hj, by rw [ht _ (by omega)]; exact h4, fun i hi => ?_⟩
  obtain ⟨q1, q2, q3⟩ := h5 i hi
  rw [ht (56 + i) (by omega)]
  exact ⟨by rw [ht _ (by omega)]; exact q1, q2, fun x hx => by rw [ht _ (by omega)]; exact q3 x hx⟩
end FTSTEP
/-- what holds behind a call -/
def ftSt2 (n : Nat) (c9 : ftCdT) (q9 : ftRR) : Prop := ftR2 n c9 q9.1.1 q9.1.2.1 ∧ q9.1.2.2 = c9.2.2.1.2.1 ∧ q9.2.1.1 = c9.1.1 3 ∧ q9.2.1.2 = c9.2.2.1.1
theorem ftTl_120 {tn : Nat} {x : Int32} (h : tn ≤ 120) : ftTl tn x ≤ 120 := by
  unfold ftTl
  by_cases q : (32 ≤ x ∧ x ≤ 126) ∧ tn ≠ 120
  · rw [if_pos q]; have := q.2; omega
  · rw [if_neg q]; exact h
