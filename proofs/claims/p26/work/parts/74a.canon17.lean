/-! a row's cells below 1439 alone matter -/
section FTCONG
variable {w v : Nat → Int32}
theorem ftLf_cong (h : ftLf w) (e : ∀ t, t < 44 → v t = w t) : ftLf v := by
  have hn := ftLf_n h
  have ec : ftCN v = ftCN w := by unfold ftCN; rw [e 3 (by omega)]
  obtain ⟨a1, a2, a3, a4, a5, a6⟩ := h
  refine ⟨by rw [e 3 (by omega)]; exact a1, by rw [e 0 (by omega)]; exact a2, by rw [e 1 (by omega)]; exact a3, by rw [e 2 (by omega)]; exact a4, ?_, ?_⟩
  · rw [ec]
    intro t ht
    have q := a5 t ht
    unfold ftPartOk at q ⊢
    rw [e (4 + 4 * t + 0) (by omega), e (4 + 4 * t + 2) (by omega), e (4 + 4 * t + 3) (by omega), e (4 + 4 * t + 1) (by omega), e 0 (by omega)]
    exact q
  · rw [ec]
    intro a b hab hb
    rw [e (4 + 4 * a + 1) (by omega), e (4 + 4 * b + 1) (by omega)]
    exact a6 a b hab hb
theorem ftWf_cong (h : ftWf w) (e : ∀ t, t < 1439 → v t = w t) : ftWf v := by
  have hk := ftWf_kp h
  have ek : ftCK v = ftCK w := by unfold ftCK; rw [e 55 (by omega)]
  obtain ⟨b1, b2, b3, b4⟩ := h
  refine ⟨ftLf_cong b1 (fun t ht => e t (by omega)), fun s hs => by rw [e (44 + s) (by omega)]; exact b2 s hs, by rw [e 55 (by omega)]; exact b3, ?_⟩
  rw [ek]
  intro i hi
  rw [e (56 + i) (by omega)]
  exact b4 i hi
theorem ftLR_row {len att en : Int32} {n : Nat} {kf pf lf rf : Nat → Int32} (h : ftLR w len att en n kf pf lf rf) (e : ∀ t, t < 44 → v t = w t) : ftLR v len att en n kf pf lf rf := by
  obtain ⟨a1, a2, a3, a4, a5, a6⟩ := h
  refine ⟨by rw [e 0 (by omega)]; exact a1, by rw [e 1 (by omega)]; exact a2, by rw [e 2 (by omega)]; exact a3, by rw [e 3 (by omega)]; exact a4, a5, fun k hk => ?_⟩
  rw [e (4 + 4 * k + 0) (by omega), e (4 + 4 * k + 1) (by omega), e (4 + 4 * k + 2) (by omega), e (4 + 4 * k + 3) (by omega)]
  exact a6 k hk
end FTCONG
/-! a state of the class and its row; the history and its rows -/
def ftRg (kq zq w : Nat → Int32) (ke : Nat) : Prop := ∀ i, i < min ke 3 → 0 ≤ w (59 + 460 * i + 0) ∧ zq ((ke - min ke 3 + i) % 8) = w (56 + i) ∧ ∀ x, x < (w (56 + i)).toNatClampNeg → kq (((ke - min ke 3 + i) % 8) * 460 + x) = w (59 + 460 * i + x)
def ftSR (kq zq w : Nat → Int32) (len att en : Int32) (n ke : Nat) (kf pf lf rf sf : Nat → Int32) : Prop := ftWf w ∧ ftLR w len att en n kf pf lf rf ∧ (∀ j, j < 11 → sf j = w (44 + j)) ∧ w 55 = nI (min ke 3) ∧ ftRg kq zq w ke
section FTSR
variable {kq zq kq' zq' w v : Nat → Int32} {len att en : Int32} {n ke : Nat} {kf pf lf rf sf kg pg lg rg sg : Nat → Int32}
theorem ftSR_ck (h : ftSR kq zq w len att en n ke kf pf lf rf sf) : ftCK w = min ke 3 := by
  unfold ftCK; rw [h.2.2.2.1, nI_clamp (by omega)]
theorem ftSR_cong (h : ftSR kq zq w len att en n ke kf pf lf rf sf) (e : ∀ t, t < 1439 → v t = w t) : ftSR kq zq v len att en n ke kf pf lf rf sf := by
  have hck := ftSR_ck h
  obtain ⟨h1, h2, h3, h4, h5⟩ := h
  refine ⟨ftWf_cong h1 e, ftLR_row h2 (fun t ht => e t (by omega)), fun j hj => by rw [e (44 + j) (by omega)]; exact h3 j hj, by rw [e 55 (by omega)]; exact h4, fun i hi => ?_⟩
  obtain ⟨q1, q2, q3⟩ := h5 i hi
  have hz := (ftWf_szs h1 i (by omega)).2.2
  rw [e (56 + i) (by omega)]
  exact ⟨by rw [e (59 + 460 * i + 0) (by omega)]; exact q1, q2, fun x hx => by rw [e (59 + 460 * i + x) (by omega)]; exact q3 x hx⟩
theorem ftSR_rows (h : ftSR kq zq w len att en n ke kf pf lf rf sf) (hc : ∀ t, t < 10 → kg t = kf t ∧ pg t = pf t ∧ lg t = lf t ∧ rg t = rf t) (hs : ∀ t, t < 11 → sg t = sf t) : ftSR kq zq w len att en n ke kg pg lg rg sg :=
  ⟨h.1, ftLR_cong h.2.1 (fun t ht => hc t (Nat.lt_of_lt_of_le ht h.2.1.2.2.2.2.1)), fun j hj => (hs j hj).trans (h.2.2.1 j hj), h.2.2.2.1, h.2.2.2.2⟩
/-- a trace kept: the ring of a state that is not five keeps old -/
theorem ftRg_keep {K N : Nat} {g : Nat → Int32} {x : Int32} (h : ftRg kq zq w ke) (hz : ∀ i, i < min ke 3 → (w (56 + i)).toNatClampNeg ≤ 460) (h1 : ke ≤ K) (h2 : K ≤ ke + 4) (hN : N ≤ 460) : ftRg (ftSeg g kq ((K % 8) * 460) N) (upd zq (K % 8) x) w ke := by
  intro i hi
  obtain ⟨q1, q2, q3⟩ := h i hi
  have hm := ftRg_miss h1 h2 hi
  refine ⟨q1, by rw [ftUpd_ne hm]; exact q2, fun y hy => ?_⟩
  rw [ftRg_seg hm hN (Nat.lt_of_lt_of_le hy (hz i hi))]
  exact q3 y hy
theorem ftSR_keep {K N : Nat} {g : Nat → Int32} {x : Int32} (h : ftSR kq zq w len att en n ke kf pf lf rf sf) (h1 : ke ≤ K) (h2 : K ≤ ke + 4) (hN : N ≤ 460) : ftSR (ftSeg g kq ((K % 8) * 460) N) (upd zq (K % 8) x) w len att en n ke kf pf lf rf sf := by
  have hck := ftSR_ck h
  exact ⟨h.1, h.2.1, h.2.2.1, h.2.2.2.1, ftRg_keep h.2.2.2.2 (fun i hi => (ftWf_szs h.1 i (by omega)).2.2) h1 h2 hN⟩
end FTSR
/-- a recorded state, in slot t of the history -/
def ftSlR (s : ftSd) (kq zq w : Nat → Int32) (t : Nat) : Prop := ftSR kq zq w (s.2.2.2.1 0 t) (s.2.2.2.1 1 t) (s.2.2.2.1 2 t) (s.2.2.2.2.1 0 t) (s.2.2.2.2.1 1 t) (s.2.2.2.2.2 0 t) (s.2.2.2.2.2 1 t) (s.2.2.2.2.2 2 t) (s.2.2.2.2.2 3 t) (s.2.2.2.2.2 4 t)
/-- the present state -/
def ftNow (s : ftSd) (kq zq w : Nat → Int32) : Prop := ftSR kq zq w (s.2.1 0) (s.2.1 1) (s.2.1 2) (s.1 0) (s.1 1) (s.2.2.1 0) (s.2.2.1 1) (s.2.2.1 2) (s.2.2.1 3) (s.2.2.1 4)
def ftKm (s : ftSd) (hm m : Nat) : Nat := s.2.2.2.2.1 1 (ftSl (s.1 2) hm m)
/-- the history: its states' rows, the keeps of its states -/
def ftHR (s : ftSd) (kq zq z : Nat → Int32) (hm : Nat) : Prop := ∀ m, m < hm → ftSlR s kq zq (fun t => z (m * 1439 + t)) (ftSl (s.1 2) hm m)
def ftKC (s : ftSd) (hm ke : Nat) : Prop := (∀ a b, a ≤ b → b < hm → ftKm s hm a ≤ ftKm s hm b ∧ ftKm s hm b ≤ ftKm s hm a + (b - a)) ∧ ∀ a, a < hm → ftKm s hm a ≤ ke ∧ ke ≤ ftKm s hm a + (hm - a)
section FTBG
variable {s : ftSd} {kq zq w z : Nat → Int32}
theorem ftBg_hist (t : Nat) (ht : t ≠ s.1 2) (h : ftSlR s kq zq w t) : ftSlR (ftBg s) kq zq w t := by
  have e1 : ∀ c, (ftBg s).2.2.2.1 c t = s.2.2.2.1 c t := fun c => va_up_ne _ _ ht
  have e2 : ∀ c, (ftBg s).2.2.2.2.1 c t = s.2.2.2.2.1 c t := fun c => va_up_ne _ _ ht
  have e3 : ∀ c, (ftBg s).2.2.2.2.2 c t = s.2.2.2.2.2 c t := fun c => va_up_ne _ _ ht
  unfold ftSlR
  rw [e1, e1, e1, e2, e2, e3, e3, e3, e3, e3]
  exact h
theorem ftCpy_lt {f g : Nat → Int32} {n t : Nat} (ht : t < n) : va_cpy f g 0 0 n t = f t := by
  unfold va_cpy
  rw [if_pos ⟨by omega, by omega⟩]
  congr 1
  omega
theorem ftBg_new (h : ftNow s kq zq w) : ftSlR (ftBg s) kq zq w (s.1 2) := by
  have e1 : ∀ c, (ftBg s).2.2.2.1 c (s.1 2) = s.2.1 c := fun c => va_up_self _ _ _
  have e2 : ∀ c, (ftBg s).2.2.2.2.1 c (s.1 2) = s.1 c := fun c => va_up_self _ _ _
  have e3 : ∀ c, (ftBg s).2.2.2.2.2 c (s.1 2) = (match c with | 4 => va_cpy (s.2.2.1 4) (s.2.2.2.2.2 4 (s.1 2)) 0 0 11 | c => va_cpy (s.2.2.1 c) (s.2.2.2.2.2 c (s.1 2)) 0 0 10) := fun c => va_up_self _ _ _
  unfold ftSlR
  rw [e1, e1, e1, e2, e2, e3, e3, e3, e3, e3]
  exact ftSR_rows h (fun t ht => ⟨ftCpy_lt ht, ftCpy_lt ht, ftCpy_lt ht, ftCpy_lt ht⟩) (fun t ht => ftCpy_lt ht)
/-- the history behind a change's start -/
theorem ftBg_HR {hm : Nat} (hN : ftNow s kq zq w) (hH : ftHR s kq zq z hm) (hn : s.1 2 < 5) (h5 : hm ≤ 5) : ∀ m, m < min (hm + 1) 5 → ftSlR (ftBg s) kq zq (fun t => ftPush w z hm (m * 1439 + t)) (ftSl ((s.1 2 + 1) % 5) (min (hm + 1) 5) m) := by
  intro m hm9
  rcases Nat.eq_or_lt_of_le h5 with q | q
  · subst q
    rw [show min (5 + 1) 5 = 5 by omega] at hm9 ⊢
    by_cases c : m < 4
    · obtain ⟨e, hne⟩ := ftSl5_old hn c
      rw [e]
      exact ftBg_hist _ hne (ftSR_cong (hH (m + 1) (by omega)) (fun t ht => ftPush5_old c ht))
    · obtain rfl : m = 4 := by omega
      rw [ftSl5_new hn]
      exact ftBg_new (ftSR_cong hN (fun t ht => ftPush5_new ht))
  · rw [show min (hm + 1) 5 = hm + 1 by omega] at hm9 ⊢
    by_cases c : m < hm
    · obtain ⟨e, hne⟩ := ftSl_old hn q c
      rw [e]
      exact ftBg_hist _ hne (ftSR_cong (hH m c) (fun t ht => ftPush_old (by omega) c ht))
    · obtain rfl : m = hm := by omega
      rw [ftSl_new hn q]
      exact ftBg_new (ftSR_cong hN (fun t ht => ftPush_new (by omega) ht))
theorem ftBg_km {hm m : Nat} (hn : s.1 2 < 5) (h5 : hm ≤ 5) (hm9 : m < min (hm + 1) 5) : (ftBg s).2.2.2.2.1 1 (ftSl ((s.1 2 + 1) % 5) (min (hm + 1) 5) m) = if hm = 5 then (if m < 4 then ftKm s hm (m + 1) else s.1 1) else if m < hm then ftKm s hm m else s.1 1 := by
  have e0 : ∀ t, t ≠ s.1 2 → (ftBg s).2.2.2.2.1 1 t = s.2.2.2.2.1 1 t := fun t ht => va_up_ne _ _ ht
  have e1 : (ftBg s).2.2.2.2.1 1 (s.1 2) = s.1 1 := va_up_self _ _ _
  rcases Nat.eq_or_lt_of_le h5 with q | q
  · subst q
    rw [if_pos rfl, show min (5 + 1) 5 = 5 by omega] at *
    by_cases c : m < 4
    · obtain ⟨e, hne⟩ := ftSl5_old hn c
      rw [if_pos c, e, e0 _ hne]; rfl
    · obtain rfl : m = 4 := by omega
      rw [if_neg c, ftSl5_new hn, e1]
  · rw [if_neg (by omega), show min (hm + 1) 5 = hm + 1 by omega] at *
    by_cases c : m < hm
    · obtain ⟨e, hne⟩ := ftSl_old hn q c
      rw [if_pos c, e, e0 _ hne]; rfl
    · obtain rfl : m = hm := by omega
      rw [if_neg c, ftSl_new hn q, e1]
end FTBG
/-! the relation through a change, through an undo -/
section FTCHG
variable {s s' : ftSd} {kq zq w w' z : Nat → Int32} {hm ke' : Nat}
theorem ftKC_bg (hn : s.1 2 < 5) (h5 : hm ≤ 5) (hC : ftKC s hm (s.1 1)) (hk : ∀ m, ftKm s' (min (hm + 1) 5) m = (ftBg s).2.2.2.2.1 1 (ftSl ((s.1 2 + 1) % 5) (min (hm + 1) 5) m)) (h1 : s.1 1 ≤ ke') (h2 : ke' ≤ s.1 1 + 1) : ftKC s' (min (hm + 1) 5) ke' := by
  obtain ⟨A, B⟩ := hC
  rcases Nat.eq_or_lt_of_le h5 with q | q
  · subst q
    have hv : ∀ m, m < min (5 + 1) 5 → ftKm s' (min (5 + 1) 5) m = if m < 4 then ftKm s 5 (m + 1) else s.1 1 := fun m hm9 => by rw [hk m, ftBg_km hn h5 hm9, if_pos rfl]
    rw [show min (5 + 1) 5 = 5 by omega] at hv ⊢
    refine ⟨fun a b hab hb => ?_, fun a ha => ?_⟩
    · rw [hv a (by omega), hv b hb]
      by_cases cb : b < 4
      · have q := A (a + 1) (b + 1) (by omega) (by omega)
        rw [if_pos cb, if_pos (by omega)]
        omega
      · rw [if_neg cb]
        by_cases ca : a < 4
        · have q := B (a + 1) (by omega)
          rw [if_pos ca]
          omega
        · rw [if_neg ca]
          omega
    · rw [hv a ha]
      by_cases ca : a < 4
      · have q := B (a + 1) (by omega)
        rw [if_pos ca]
        omega
      · rw [if_neg ca]
        omega
  · have hv : ∀ m, m < min (hm + 1) 5 → ftKm s' (min (hm + 1) 5) m = if m < hm then ftKm s hm m else s.1 1 := fun m hm9 => by rw [hk m, ftBg_km hn h5 hm9, if_neg (by omega)]
    rw [show min (hm + 1) 5 = hm + 1 by omega] at hv ⊢
    refine ⟨fun a b hab hb => ?_, fun a ha => ?_⟩
    · rw [hv a (by omega), hv b hb]
      by_cases cb : b < hm
      · have q := A a b hab cb
        rw [if_pos cb, if_pos (by omega)]
        omega
      · rw [if_neg cb]
        by_cases ca : a < hm
        · have q := B a ca
          rw [if_pos ca]
          omega
        · rw [if_neg ca]
          omega
    · rw [hv a ha]
      by_cases ca : a < hm
      · have q := B a ca
        rw [if_pos ca]
        omega
      · rw [if_neg ca]
        omega
/-- every recorded state but the present one keeps its ring when a trace is kept behind a change's start -/
theorem ftKC_near (hn : s.1 2 < 5) (h5 : hm ≤ 5) (hC : ftKC s hm (s.1 1)) {m : Nat} (hm9 : m < min (hm + 1) 5) : (ftBg s).2.2.2.2.1 1 (ftSl ((s.1 2 + 1) % 5) (min (hm + 1) 5) m) ≤ s.1 1 ∧ s.1 1 ≤ (ftBg s).2.2.2.2.1 1 (ftSl ((s.1 2 + 1) % 5) (min (hm + 1) 5) m) + 4 := by
  obtain ⟨A, B⟩ := hC
  rw [ftBg_km hn h5 hm9]
  by_cases c5 : hm = 5
  · rw [if_pos c5]
    by_cases c : m < 4
    · have q := B (m + 1) (by omega)
      rw [if_pos c]
      omega
    · rw [if_neg c]
      omega
  · rw [if_neg c5]
    by_cases c : m < hm
    · have q := B m c
      rw [if_pos c]
      omega
    · rw [if_neg c]
      omega
theorem ftUn_now (hH : ftHR s kq zq z hm) (hn : s.1 2 < 5) (h5 : hm ≤ 5) (h0 : 0 < hm) : ftNow (ftUnS s ((s.1 2 + 4) % 5)) kq zq (ftFill (fun t => z ((hm - 1) * 1439 + t)) w 1439) := by
  have h := hH (hm - 1) (by omega)
  rw [ftSl_last hn h5 h0] at h
  have h2 := ftSR_cong (v := ftFill (fun t => z ((hm - 1) * 1439 + t)) w 1439) h (fun t ht => by unfold ftFill; exact if_pos ht)
  exact ftSR_rows h2 (fun t ht => ⟨ftCpy_lt ht, ftCpy_lt ht, ftCpy_lt ht, ftCpy_lt ht⟩) (fun t ht => ftCpy_lt ht)
theorem ftUn_HR (hH : ftHR s kq zq z hm) (hn : s.1 2 < 5) (h5 : hm ≤ 5) (h0 : 0 < hm) : ftHR (ftUnS s ((s.1 2 + 4) % 5)) kq zq z (hm - 1) := by
  intro m hm9
  have e : ftSl ((s.1 2 + 4) % 5) (hm - 1) m = ftSl (s.1 2) hm m := ftSl_undo hn h5 h0 hm9
  have h := hH m (by omega)
  rw [← e] at h
  exact h
theorem ftUn_KC (hC : ftKC s hm (s.1 1)) (hn : s.1 2 < 5) (h5 : hm ≤ 5) (h0 : 0 < hm) : ftKC (ftUnS s ((s.1 2 + 4) % 5)) (hm - 1) (s.2.2.2.2.1 1 ((s.1 2 + 4) % 5)) := by
  obtain ⟨A, B⟩ := hC
  have e : ∀ m, m < hm - 1 → ftKm (ftUnS s ((s.1 2 + 4) % 5)) (hm - 1) m = ftKm s hm m := fun m hm9 => by
    have e1 : ftSl ((s.1 2 + 4) % 5) (hm - 1) m = ftSl (s.1 2) hm m := ftSl_undo hn h5 h0 hm9
    show s.2.2.2.2.1 1 (ftSl ((s.1 2 + 4) % 5) (hm - 1) m) = s.2.2.2.2.1 1 (ftSl (s.1 2) hm m)
    rw [e1]
  have e2 : s.2.2.2.2.1 1 ((s.1 2 + 4) % 5) = ftKm s hm (hm - 1) := by
    show _ = s.2.2.2.2.1 1 (ftSl (s.1 2) hm (hm - 1))
    rw [ftSl_last hn h5 h0]
  rw [e2]
  refine ⟨fun a b hab hb => ?_, fun a ha => ?_⟩
  · rw [e a (by omega), e b hb]
    exact A a b hab (by omega)
  · rw [e a ha]
    have q := A a (hm - 1) (by omega) (by omega)
    omega
theorem ftUn_ke (hC : ftKC s hm (s.1 1)) (hn : s.1 2 < 5) (h5 : hm ≤ 5) (h0 : 0 < hm) : s.2.2.2.2.1 1 ((s.1 2 + 4) % 5) ≤ s.1 1 := by
  have q := (hC.2 (hm - 1) (by omega)).1
  unfold ftKm at q
  rw [ftSl_last hn h5 h0] at q
  exact q
end FTCHG
