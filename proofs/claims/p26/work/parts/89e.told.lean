/-! the parts of the link that the law makes -/
def lxPl (m : Nat → Int32) (x : Int32) : Prop := ∃ q, q < ftCN m ∧ m (4 + 4 * q + 1) = x
def lxEq (w m : Nat → Int32) : Prop := ∀ t, t < 4 + 4 * ftCN m → w t = m t
section LXPL
variable {w m : Nat → Int32} {kd x lo re y : Int32}
theorem lxEq_cn (h : lxEq w m) : ftCN w = ftCN m := by unfold ftCN; rw [h 3 (by omega)]
theorem lxEq_pl (h : lxEq w m) : lxPl w x ↔ lxPl m x := by
  have e := lxEq_cn h
  constructor
  · rintro ⟨q, hq, hx⟩
    rw [e] at hq
    exact ⟨q, hq, by rw [← h _ (by omega)]; exact hx⟩
  · rintro ⟨q, hq, hx⟩
    exact ⟨q, by rw [e]; exact hq, by rw [h _ (by omega)]; exact hx⟩
theorem lxEq_add (h : lxEq w m) (hn : ftCN m < 10) : lxEq (ftAdd w (ftCN w) kd x lo re) (ftAdd m (ftCN m) kd x lo re) := by
  intro t ht
  rw [ftAdd_cn hn] at ht
  rw [lxEq_cn h]
  exact ftAdd_cong h t ht
theorem lxPl_add (hn : ftCN m < 10) : lxPl (ftAdd m (ftCN m) kd x lo re) y ↔ y = x ∨ lxPl m y := by
  have hp := ftPosW_le m x (ftCN m)
  unfold lxPl
  rw [ftAdd_cn hn]
  constructor
  · rintro ⟨q, hq, hx⟩
    rcases Nat.lt_trichotomy q (ftPosW m x (ftCN m)) with r | r | r
    · rw [ftAdd_lo (by omega) r] at hx
      exact Or.inr ⟨q, by omega, hx⟩
    · rw [r, ftAdd_at1] at hx
      exact Or.inl hx.symm
    · rw [ftAdd_hi (by omega) r (by omega)] at hx
      exact Or.inr ⟨q - 1, by omega, hx⟩
  · rintro (r | ⟨q, hq, hx⟩)
    · exact ⟨ftPosW m x (ftCN m), by omega, by rw [ftAdd_at1]; exact r.symm⟩
    · rcases Nat.lt_or_ge q (ftPosW m x (ftCN m)) with r | r
      · exact ⟨q, by omega, by rw [ftAdd_lo (by omega) r]; exact hx⟩
      · exact ⟨q + 1, by omega, by rw [ftAdd_hi (by omega) (by omega) (by omega)]; exact hx⟩
theorem lx_al {j h : Nat} (hj : 3 ≤ j) (hj6 : j < 6) : ftAl (nI j) m h x ↔ ¬ lxPl m x ∧ ¬ m 3 = 10 := by
  have h3 : ¬ nI j < 3 := Int32.not_lt.mpr (nI_le (a := 3) hj (by omega))
  constructor
  · intro q
    exact ⟨fun r => (q.2 h3).1 r, (q.2 h3).2⟩
  · intro q
    exact ⟨fun r => absurd r h3, fun _ => ⟨q.1, q.2⟩⟩
theorem lx_pa (hw : ftCN w ≤ 10) : ftPa w x (ftCN w) < 0 ↔ ¬ lxPl w x := by
  rw [ftPa_neg (ftCN w) (by omega)]
  constructor
  · rintro q ⟨t, ht, hx⟩
    exact q t ht hx
  · intro q t ht hx
    exact q ⟨t, ht, hx⟩
/-- what a part of kind kd may be -/
def lxFit (m : Nat → Int32) (kd x lo re : Int32) : Prop := ((0 ≤ kd ∧ kd ≤ 2) ∧ (1 ≤ x ∧ x ≤ m 0 - 1) ∧ ((kd = 1 ∧ 1 ≤ re ∧ re ≤ 20000) ∨ (¬ kd = 1 ∧ re = 0))) ∧ ((if kd = 0 then -500 else 0) ≤ lo ∧ lo ≤ (if kd = 2 then 50 else 5000))
theorem lx_adc (h : lxEq w m) (hm : ftCN m < 10) (hf : lxFit m kd x lo re) (hp : ¬ lxPl m x) (hw : w 3 = nI (ftCN w)) : ftAdC w kd x lo re := by
  have e := lxEq_cn h
  refine ⟨?_, (lx_pa (by omega)).mpr (fun q => hp ((lxEq_pl h).mp q)), fun q => ?_⟩
  · have e0 : w 0 = m 0 := h 0 (by omega)
    unfold ftAdV
    rw [e0]
    exact hf
  · rw [hw] at q
    have := ft_eqN (a := ftCN w) (b := 10) (by omega) (by omega) q
    omega
theorem lx_adn (h : lxEq w m) (hm : ftCN m < 10) (hf : lxFit m kd x lo re) (hp : lxPl m x) : ¬ ftAdC w kd x lo re ∧ ftAdA w kd x lo re = -1000002 := by
  have e := lxEq_cn h
  have hpa : ¬ ftPa w x (ftCN w) < 0 := fun q => (lx_pa (by omega)).mp q ((lxEq_pl h).mpr hp)
  have e0 : w 0 = m 0 := h 0 (by omega)
  have hv : ftAdV w kd x lo re := by
    unfold ftAdV
    rw [e0]
    exact hf
  exact ⟨fun q => hpa q.2.1, by rw [ftAdA, ftIte_t hv, ftIte_f hpa]⟩
end LXPL
/-- the ranges of a part's numbers in a text -/
theorem lx_rt {m : Nat → Int32} {k : Nat} {x lo re : Int32} (hk : k < 3) (hf : lxFit m (nI k) x lo re) {v : Nat → Int32} (h0 : v 0 = x) (h1 : v 1 = lo) (h2 : k = 1 → v 2 = re) : ∀ i, i < ftNs (nI (3 + k)) → ftRt (nI (3 + k)) i (v i) (m 0) := by
  obtain ⟨⟨f1, f2, f3⟩, f4⟩ := hf
  intro i hi
  have hk3 : k = 0 ∨ k = 1 ∨ k = 2 := by omega
  rcases hk3 with r | r | r
  · subst r
    have hi : i < 2 := hi
    have hi2 : i = 0 ∨ i = 1 := by omega
    rcases hi2 with s | s
    · subst s; rw [h0]; exact f2
    · subst s; rw [h1]; exact f4
  · subst r
    have hi : i < 3 := hi
    have hi2 : i = 0 ∨ i = 1 ∨ i = 2 := by omega
    rcases hi2 with s | s | s
    · subst s; rw [h0]; exact f2
    · subst s; rw [h1]; exact f4
    · subst s; rw [h2 rfl]
      rcases f3 with q | q
      · exact q.2
      · exact absurd rfl q.1
  · subst r
    have hi : i < 2 := hi
    have hi2 : i = 0 ∨ i = 1 := by omega
    rcases hi2 with s | s
    · subst s; rw [h0]; exact f2
    · subst s; rw [h1]; exact f4
theorem lx_mAdd {m : Nat → Int32} {k : Nat} {s n : Nat → Nat} {x lo re : Int32} (hk : k < 3) (h0 : lxV (s 0) (n 0) = x) (h1 : lxV (s 1) (n 1) = lo) (h2 : k = 1 → lxV (s 2) (n 2) = re) (h3 : ¬ k = 1 → re = 0) : lxM (3 + k) s n m = ftAdd m (ftCN m) (nI k) x lo re := by
  have hlt : ¬ nI (3 + k) < 3 := Int32.not_lt.mpr (nI_le (a := 3) (by omega) (by omega))
  have e3 : nI (3 + k) - 3 = nI k := by
    rw [show (3 : Int32) = nI 3 from rfl, ft_subN (by omega), show 3 + k - 3 = k by omega]
  unfold lxM
  rw [if_neg hlt, e3, h0, h1]
  by_cases c : k = 1
  · rw [if_pos (show nI (3 + k) = 4 by rw [c]; rfl), h2 c]
    rfl
  · rw [if_neg (fun q => c (by have := ft_eqN (a := 3 + k) (b := 4) (by omega) (by omega) q; omega)), h3 c]
    rfl
