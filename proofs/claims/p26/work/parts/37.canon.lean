/-! the middle: a row that is well formed, what is read off it -/
theorem ftI_nat {x : Int32} (h : 0 ≤ x) : x = nI x.toNatClampNeg ∧ x.toNatClampNeg < 2 ^ 31 := by
  obtain ⟨j, hj, rfl⟩ := nI_of (Int32.not_lt.mpr h)
  rw [nI_clamp hj]
  exact ⟨rfl, hj⟩
theorem ftI_le {x : Int32} {N : Nat} (h : 0 ≤ x) (h1 : x ≤ nI N) (hN : N < 2 ^ 31) : x.toNatClampNeg ≤ N := by
  obtain ⟨e, hl⟩ := ftI_nat h
  rw [e] at h1
  exact ft_leN hl hN h1
theorem ftI_lt {x : Int32} {N : Nat} (h : 0 ≤ x) (h1 : x < nI N) (hN : N < 2 ^ 31) : x.toNatClampNeg < N := by
  obtain ⟨e, hl⟩ := ftI_nat h
  rw [e] at h1
  exact ft_ltN hl hN h1
theorem ftI_ge {x : Int32} {N : Nat} (h : 0 ≤ x) (h1 : nI N ≤ x) (hN : N < 2 ^ 31) : N ≤ x.toNatClampNeg := by
  obtain ⟨e, hl⟩ := ftI_nat h
  rw [e] at h1
  exact ft_leN hN hl h1
theorem ftI_ge0 {x : Int32} {N : Nat} (h1 : nI N ≤ x) (hN : N < 2 ^ 31) : 0 ≤ x := Int32.le_trans (nI_pos' hN) h1
def ftCN (w : Nat → Int32) : Nat := (w 3).toNatClampNeg
def ftCL (w : Nat → Int32) : Nat := (w 0).toNatClampNeg
def ftCW (w : Nat → Int32) : Nat := (w (44 + 0)).toNatClampNeg
def ftCD (w : Nat → Int32) : Nat := (w (44 + 1)).toNatClampNeg
def ftCP (w : Nat → Int32) : Nat := (w (44 + 4)).toNatClampNeg
def ftCK (w : Nat → Int32) : Nat := (w 55).toNatClampNeg
def ftPartOk (w : Nat → Int32) (k : Nat) : Prop := (w (4 + 4 * k + 0) = 0 ∧ -500 ≤ w (4 + 4 * k + 2) ∧ w (4 + 4 * k + 2) ≤ 5000 ∧ w (4 + 4 * k + 3) = 0) ∨ (w (4 + 4 * k + 0) = 1 ∧ 0 ≤ w (4 + 4 * k + 2) ∧ w (4 + 4 * k + 2) ≤ 5000 ∧ 1 ≤ w (4 + 4 * k + 3) ∧ w (4 + 4 * k + 3) ≤ 20000) ∨ (w (4 + 4 * k + 0) = 2 ∧ 0 ≤ w (4 + 4 * k + 2) ∧ w (4 + 4 * k + 2) ≤ 50 ∧ w (4 + 4 * k + 3) = 0)
/-- a link's row -/
def ftLf (w : Nat → Int32) : Prop := (0 ≤ w 3 ∧ w 3 ≤ 10) ∧ (50 ≤ w 0 ∧ w 0 ≤ 400) ∧ (0 ≤ w 1 ∧ w 1 ≤ 50) ∧ (0 ≤ w 2 ∧ w 2 ≤ 20000) ∧ (∀ k, k < ftCN w → ftPartOk w k ∧ 1 ≤ w (4 + 4 * k + 1) ∧ w (4 + 4 * k + 1) < w 0) ∧ (∀ a b, a < b → b < ftCN w → w (4 + 4 * a + 1) < w (4 + 4 * b + 1))
def ftWf (w : Nat → Int32) : Prop := ftLf w ∧ (∀ s, s < 11 → ftLeast (nI s) ≤ w (44 + s) ∧ w (44 + s) ≤ ftMost (nI s)) ∧ (0 ≤ w 55 ∧ w 55 ≤ 3) ∧ (∀ i, i < ftCK w → 110 ≤ w (56 + i) ∧ w (56 + i) ≤ 460)
section FTWF
variable {w : Nat → Int32}
theorem ftLf_3 (h : ftLf w) : w 3 = nI (ftCN w) := (ftI_nat h.1.1).1
theorem ftLf_n (h : ftLf w) : ftCN w ≤ 10 := ftI_le (N := 10) h.1.1 h.1.2 (by omega)
theorem ftLf_0 (h : ftLf w) : w 0 = nI (ftCL w) := (ftI_nat (ftI_ge0 (N := 50) h.2.1.1 (by omega))).1
theorem ftLf_ln (h : ftLf w) : ftCL w ≤ 400 := ftI_le (N := 400) (ftI_ge0 (N := 50) h.2.1.1 (by omega)) h.2.1.2 (by omega)
theorem ftLf_lg (h : ftLf w) : 50 ≤ ftCL w := ftI_ge (N := 50) (ftI_ge0 (N := 50) h.2.1.1 (by omega)) h.2.1.1 (by omega)
theorem ftWf_3 (h : ftWf w) : w 3 = nI (ftCN w) := ftLf_3 h.1
theorem ftWf_n (h : ftWf w) : ftCN w ≤ 10 := ftLf_n h.1
theorem ftWf_0 (h : ftWf w) : w 0 = nI (ftCL w) := ftLf_0 h.1
theorem ftWf_ln (h : ftWf w) : ftCL w ≤ 400 := ftLf_ln h.1
theorem ftWf_lg (h : ftWf w) : 50 ≤ ftCL w := ftLf_lg h.1
theorem ftWf_set (h : ftWf w) {s : Nat} (hs : s < 11) {a b : Int32} (ha : ftLeast (nI s) = a) (hb : ftMost (nI s) = b) : a ≤ w (44 + s) ∧ w (44 + s) ≤ b := by
  have q := h.2.1 s hs
  rw [ha, hb] at q
  exact q
theorem ftWf_b0 (h : ftWf w) : 1 ≤ w (44 + 0) ∧ w (44 + 0) ≤ 20 := ftWf_set h (by omega) (by decide) (by decide)
theorem ftWf_b1 (h : ftWf w) : 100 ≤ w (44 + 1) ∧ w (44 + 1) ≤ 5000 := ftWf_set h (by omega) (by decide) (by decide)
theorem ftWf_b2 (h : ftWf w) : 0 ≤ w (44 + 2) ∧ w (44 + 2) ≤ 40000 := ftWf_set h (by omega) (by decide) (by decide)
theorem ftWf_b3 (h : ftWf w) : 0 ≤ w (44 + 3) ∧ w (44 + 3) ≤ 400 := ftWf_set h (by omega) (by decide) (by decide)
theorem ftWf_b4 (h : ftWf w) : 1 ≤ w (44 + 4) ∧ w (44 + 4) ≤ 32 := ftWf_set h (by omega) (by decide) (by decide)
theorem ftWf_s0 (h : ftWf w) : w (44 + 0) = nI (ftCW w) := (ftI_nat (ftI_ge0 (N := 1) (ftWf_b0 h).1 (by omega))).1
theorem ftWf_wd (h : ftWf w) : ftCW w ≤ 20 := ftI_le (N := 20) (ftI_ge0 (N := 1) (ftWf_b0 h).1 (by omega)) (ftWf_b0 h).2 (by omega)
theorem ftWf_wd1 (h : ftWf w) : 1 ≤ ftCW w := ftI_ge (N := 1) (ftI_ge0 (N := 1) (ftWf_b0 h).1 (by omega)) (ftWf_b0 h).1 (by omega)
theorem ftWf_s1 (h : ftWf w) : w (44 + 1) = nI (ftCD w) := (ftI_nat (ftI_ge0 (N := 100) (ftWf_b1 h).1 (by omega))).1
theorem ftWf_d (h : ftWf w) : ftCD w ≤ 5000 := ftI_le (N := 5000) (ftI_ge0 (N := 100) (ftWf_b1 h).1 (by omega)) (ftWf_b1 h).2 (by omega)
theorem ftWf_s4 (h : ftWf w) : w (44 + 4) = nI (ftCP w) := (ftI_nat (ftI_ge0 (N := 1) (ftWf_b4 h).1 (by omega))).1
theorem ftWf_pu (h : ftWf w) : ftCP w ≤ 32 := ftI_le (N := 32) (ftI_ge0 (N := 1) (ftWf_b4 h).1 (by omega)) (ftWf_b4 h).2 (by omega)
theorem ftWf_pu0 (h : ftWf w) : 0 < ftCP w := ftI_ge (N := 1) (ftI_ge0 (N := 1) (ftWf_b4 h).1 (by omega)) (ftWf_b4 h).1 (by omega)
theorem ftWf_pu2 (h : ftWf w) : ftCP w < 2 ^ 31 := Nat.lt_of_le_of_lt (ftWf_pu h) (by omega)
theorem ftWf_A0 (h : ftWf w) : 0 ≤ w (44 + 3) := (ftWf_b3 h).1
theorem ftWf_2a (h : ftWf w) : ¬ 2 * w (44 + 3) + 1 = 0 := by
  obtain ⟨e, -⟩ := ftI_nat (ftWf_b3 h).1
  have hl := ftI_le (N := 400) (ftWf_b3 h).1 (ftWf_b3 h).2 (by omega)
  rw [e]
  show ¬ nI 2 * nI _ + 1 = 0
  rw [ft_mulN, nI_1]
  exact nI_ne0 (by omega) (by omega)
theorem ftWf_55 (h : ftWf w) : w 55 = nI (ftCK w) := (ftI_nat h.2.2.1.1).1
theorem ftWf_kp (h : ftWf w) : ftCK w ≤ 3 := ftI_le (N := 3) h.2.2.1.1 h.2.2.1.2 (by omega)
theorem ftWf_szs (h : ftWf w) : ∀ i, i < ftCK w → w (56 + i) = nI (w (56 + i)).toNatClampNeg ∧ 110 ≤ (w (56 + i)).toNatClampNeg ∧ (w (56 + i)).toNatClampNeg ≤ 460 := fun i hi => by
  have q := h.2.2.2 i hi
  have q0 := ftI_ge0 (N := 110) q.1 (by omega)
  exact ⟨(ftI_nat q0).1, ftI_ge (N := 110) q0 q.1 (by omega), ftI_le (N := 460) q0 q.2 (by omega)⟩
end FTWF
/-! flashes -/
theorem ftUpd_at0 {f : Nat → Int32} {k : Nat} {x : Int32} : upd f k x k = x := if_pos rfl
theorem ftFl_cong {kf pf rf kg pg rg p0 h0 p1 h1 : Nat → Int32} : ∀ i, (∀ t, t < i → kf t = kg t ∧ pf t = pg t ∧ rf t = rg t) → (ftFl kf pf rf p0 h0 i).1 = (ftFl kg pg rg p1 h1 i).1 ∧ ∀ t, t < (ftFl kf pf rf p0 h0 i).1 → (ftFl kf pf rf p0 h0 i).2.1 t = (ftFl kg pg rg p1 h1 i).2.1 t ∧ (ftFl kf pf rf p0 h0 i).2.2 t = (ftFl kg pg rg p1 h1 i).2.2 t := by
  intro i
  induction i with
  | zero => intro _; exact ⟨rfl, fun t h => absurd h (Nat.not_lt_zero t)⟩
  | succ i ih =>
    intro h
    obtain ⟨e1, e2⟩ := ih (fun t ht => h t (by omega))
    obtain ⟨q1, q2, q3⟩ := h i (by omega)
    by_cases c : kf i = 1
    · rw [ftFl_t c, ftFl_t (by rw [← q1]; exact c)]
      refine ⟨?_, fun t ht => ?_⟩
      · show (ftFl kf pf rf p0 h0 i).1 + 1 = (ftFl kg pg rg p1 h1 i).1 + 1
        rw [e1]
      · show upd (ftFl kf pf rf p0 h0 i).2.1 (ftFl kf pf rf p0 h0 i).1 (pf i) t = upd (ftFl kg pg rg p1 h1 i).2.1 (ftFl kg pg rg p1 h1 i).1 (pg i) t ∧ upd (ftFl kf pf rf p0 h0 i).2.2 (ftFl kf pf rf p0 h0 i).1 (rf i) t = upd (ftFl kg pg rg p1 h1 i).2.2 (ftFl kg pg rg p1 h1 i).1 (rg i) t
        have ht : t < (ftFl kf pf rf p0 h0 i).1 + 1 := ht
        rw [← e1]
        by_cases r : t = (ftFl kf pf rf p0 h0 i).1
        · subst r
          rw [ftUpd_at0, ftUpd_at0, ftUpd_at0, ftUpd_at0]
          exact ⟨q2, q3⟩
        · rw [ftUpd_ne r, ftUpd_ne r, ftUpd_ne r, ftUpd_ne r]
          exact e2 t (by omega)
    · rw [ftFl_f c, ftFl_f (by rw [← q1]; exact c)]
      exact ⟨e1, e2⟩
theorem ftFlE_cong {len en len2 en2 : Int32} {kf pf rf kg pg rg p0 h0 p1 h1 : Nat → Int32} {n : Nat} (hl : len = len2) (he : en = en2) (h : ∀ t, t < n → kf t = kg t ∧ pf t = pg t ∧ rf t = rg t) : (ftFlE len en kf pf rf p0 h0 n).1 = (ftFlE len2 en2 kg pg rg p1 h1 n).1 ∧ ∀ t, t < (ftFlE len en kf pf rf p0 h0 n).1 → (ftFlE len en kf pf rf p0 h0 n).2.1 t = (ftFlE len2 en2 kg pg rg p1 h1 n).2.1 t ∧ (ftFlE len en kf pf rf p0 h0 n).2.2 t = (ftFlE len2 en2 kg pg rg p1 h1 n).2.2 t := by
  subst hl he
  obtain ⟨e1, e2⟩ := ftFl_cong (p0 := p0) (h0 := h0) (p1 := p1) (h1 := h1) n h
  by_cases c : 0 < en
  · rw [ftFlE_t c, ftFlE_t c]
    refine ⟨?_, fun t ht => ?_⟩
    · show (ftFl kf pf rf p0 h0 n).1 + 1 = (ftFl kg pg rg p1 h1 n).1 + 1
      rw [e1]
    · show upd (ftFl kf pf rf p0 h0 n).2.1 (ftFl kf pf rf p0 h0 n).1 len t = upd (ftFl kg pg rg p1 h1 n).2.1 (ftFl kg pg rg p1 h1 n).1 len t ∧ upd (ftFl kf pf rf p0 h0 n).2.2 (ftFl kf pf rf p0 h0 n).1 en t = upd (ftFl kg pg rg p1 h1 n).2.2 (ftFl kg pg rg p1 h1 n).1 en t
      have ht : t < (ftFl kf pf rf p0 h0 n).1 + 1 := ht
      rw [← e1]
      by_cases r : t = (ftFl kf pf rf p0 h0 n).1
      · subst r
        rw [ftUpd_at0, ftUpd_at0, ftUpd_at0, ftUpd_at0]
        exact ⟨rfl, rfl⟩
      · rw [ftUpd_ne r, ftUpd_ne r, ftUpd_ne r, ftUpd_ne r]
        exact e2 t (by omega)
  · rw [ftFlE_f c, ftFlE_f c]
    exact ⟨e1, e2⟩
theorem ftFl_ent {kf pf rf p0 h0 : Nat → Int32} : ∀ i t, t < (ftFl kf pf rf p0 h0 i).1 → ∃ k, k < i ∧ kf k = 1 ∧ (ftFl kf pf rf p0 h0 i).2.1 t = pf k ∧ (ftFl kf pf rf p0 h0 i).2.2 t = rf k := by
  intro i
  induction i with
  | zero => intro t h; exact absurd h (Nat.not_lt_zero t)
  | succ i ih =>
    intro t ht
    by_cases c : kf i = 1
    · rw [ftFl_t c] at ht ⊢
      have ht : t < (ftFl kf pf rf p0 h0 i).1 + 1 := ht
      show ∃ k, k < i + 1 ∧ kf k = 1 ∧ upd (ftFl kf pf rf p0 h0 i).2.1 (ftFl kf pf rf p0 h0 i).1 (pf i) t = pf k ∧ upd (ftFl kf pf rf p0 h0 i).2.2 (ftFl kf pf rf p0 h0 i).1 (rf i) t = rf k
      by_cases r : t = (ftFl kf pf rf p0 h0 i).1
      · subst r
        rw [ftUpd_at0, ftUpd_at0]
        exact ⟨i, by omega, c, rfl, rfl⟩
      · rw [ftUpd_ne r, ftUpd_ne r]
        obtain ⟨k, k1, k2⟩ := ih t (by omega)
        exact ⟨k, by omega, k2⟩
    · rw [ftFl_f c] at ht ⊢
      obtain ⟨k, k1, k2⟩ := ih t ht
      exact ⟨k, by omega, k2⟩
theorem ftFl_asc {kf pf rf p0 h0 : Nat → Int32} : ∀ i, (∀ a b, a < b → b < i → pf a < pf b) → ∀ a b, a < b → b < (ftFl kf pf rf p0 h0 i).1 → (ftFl kf pf rf p0 h0 i).2.1 a < (ftFl kf pf rf p0 h0 i).2.1 b := by
  intro i
  induction i with
  | zero => intro _ a b _ h; exact absurd h (Nat.not_lt_zero b)
  | succ i ih =>
    intro hp a b hab hb
    have ih := ih (fun a b h1 h2 => hp a b h1 (by omega))
    by_cases c : kf i = 1
    · rw [ftFl_t c] at hb ⊢
      have hb : b < (ftFl kf pf rf p0 h0 i).1 + 1 := hb
      show upd (ftFl kf pf rf p0 h0 i).2.1 (ftFl kf pf rf p0 h0 i).1 (pf i) a < upd (ftFl kf pf rf p0 h0 i).2.1 (ftFl kf pf rf p0 h0 i).1 (pf i) b
      rw [ftUpd_ne (show a ≠ (ftFl kf pf rf p0 h0 i).1 by omega)]
      by_cases r : b = (ftFl kf pf rf p0 h0 i).1
      · subst r
        rw [ftUpd_at0]
        obtain ⟨k, k1, k2, k3, -⟩ := ftFl_ent (kf := kf) (pf := pf) (rf := rf) (p0 := p0) (h0 := h0) i a hab
        rw [k3]
        exact hp k i k1 (by omega)
      · rw [ftUpd_ne r]
        exact ih a b hab (by omega)
    · rw [ftFl_f c] at hb ⊢
      exact ih a b hab hb
/-- the flashes of a row, on any rows laid before; on rows of zeros -/
def ftFW (w fa fh : Nat → Int32) : Nat × (Nat → Int32) × (Nat → Int32) := ftFlE (w 0) (w 2) (fun k => w (4 + 4 * k + 0)) (fun k => w (4 + 4 * k + 1)) (fun k => w (4 + 4 * k + 3)) fa fh (ftCN w)
def ftCF (w : Nat → Int32) : Nat × (Nat → Int32) × (Nat → Int32) := ftFW w (fun _ => 0) (fun _ => 0)
theorem ftFW_c (w fa fh : Nat → Int32) : (ftFW w fa fh).1 = (ftCF w).1 ∧ ∀ t, t < (ftFW w fa fh).1 → (ftFW w fa fh).2.1 t = (ftCF w).2.1 t ∧ (ftFW w fa fh).2.2 t = (ftCF w).2.2 t := ftFlE_cong rfl rfl (fun _ _ => ⟨rfl, rfl, rfl⟩)
/-- places and heights of flashes -/
def ftFok (R : Nat × (Nat → Int32) × (Nat → Int32)) : Prop := R.1 ≤ 11 ∧ (∀ t, t < R.1 → R.2.1 t = nI (R.2.1 t).toNatClampNeg ∧ R.2.2 t = nI (R.2.2 t).toNatClampNeg ∧ 1 ≤ (R.2.1 t).toNatClampNeg ∧ (R.2.1 t).toNatClampNeg ≤ 400 ∧ 0 < (R.2.2 t).toNatClampNeg ∧ (R.2.2 t).toNatClampNeg ≤ 20000) ∧ ∀ a b, a < b → b < R.1 → R.2.1 a < R.2.1 b
theorem ftPart_r {w : Nat → Int32} (h : ftLf w) {k : Nat} (hk : k < ftCN w) (h1 : w (4 + 4 * k + 0) = 1) : 1 ≤ w (4 + 4 * k + 3) ∧ w (4 + 4 * k + 3) ≤ 20000 := by
  obtain ⟨q, -⟩ := h.2.2.2.2.1 k hk
  rcases q with q | q | q
  · rw [h1] at q; exact absurd q.1 (by decide)
  · exact q.2.2.2
  · rw [h1] at q; exact absurd q.1 (by decide)
theorem ftPl_b {w : Nat → Int32} (h : ftLf w) {k : Nat} (hk : k < ftCN w) : 1 ≤ w (4 + 4 * k + 1) ∧ w (4 + 4 * k + 1) ≤ 400 ∧ w (4 + 4 * k + 1) < w 0 := by
  obtain ⟨-, q1, q2⟩ := h.2.2.2.2.1 k hk
  exact ⟨q1, Int32.le_trans (Int32.le_of_lt q2) h.2.1.2, q2⟩
theorem ftN_of {x : Int32} {a b : Nat} (h1 : nI a ≤ x) (h2 : x ≤ nI b) (ha : a < 2 ^ 31) (hb : b < 2 ^ 31) : x = nI x.toNatClampNeg ∧ a ≤ x.toNatClampNeg ∧ x.toNatClampNeg ≤ b := ⟨(ftI_nat (ftI_ge0 h1 ha)).1, ftI_ge (ftI_ge0 h1 ha) h1 ha, ftI_le (ftI_ge0 h1 ha) h2 hb⟩
theorem ft1_of {x : Int32} (h : 0 < x) : nI 1 ≤ x := by
  have e := (ftI_nat (Int32.le_of_lt h)).1
  have hl := (ftI_nat (Int32.le_of_lt h)).2
  rw [e] at h ⊢
  have h0 : 0 < x.toNatClampNeg := ft_ltN (a := 0) (by omega) hl h
  exact nI_le h0 hl
theorem ftFW_ok {w : Nat → Int32} (h : ftLf w) (fa fh : Nat → Int32) : ftFok (ftFW w fa fh) := by
  have hent : ∀ t, t < (ftFl (fun k => w (4 + 4 * k + 0)) (fun k => w (4 + 4 * k + 1)) (fun k => w (4 + 4 * k + 3)) fa fh (ftCN w)).1 → ∃ k, k < ftCN w ∧ w (4 + 4 * k + 0) = 1 ∧ (ftFl (fun k => w (4 + 4 * k + 0)) (fun k => w (4 + 4 * k + 1)) (fun k => w (4 + 4 * k + 3)) fa fh (ftCN w)).2.1 t = w (4 + 4 * k + 1) ∧ (ftFl (fun k => w (4 + 4 * k + 0)) (fun k => w (4 + 4 * k + 1)) (fun k => w (4 + 4 * k + 3)) fa fh (ftCN w)).2.2 t = w (4 + 4 * k + 3) := fun t ht => ftFl_ent (kf := fun k => w (4 + 4 * k + 0)) (pf := fun k => w (4 + 4 * k + 1)) (rf := fun k => w (4 + 4 * k + 3)) (p0 := fa) (h0 := fh) (ftCN w) t ht
  have hasc := ftFl_asc (kf := fun k => w (4 + 4 * k + 0)) (pf := fun k => w (4 + 4 * k + 1)) (rf := fun k => w (4 + 4 * k + 3)) (p0 := fa) (h0 := fh) (ftCN w) h.2.2.2.2.2
  have hle := ftFl_le (fun k => w (4 + 4 * k + 0)) (fun k => w (4 + 4 * k + 1)) (fun k => w (4 + 4 * k + 3)) fa fh (ftCN w)
  have hn := ftLf_n h
  refine ⟨Nat.le_trans (ftFlE_le _ _ _ _ _ _ _ _) (by omega), ?_, ?_⟩
  · intro t ht
    unfold ftFW at ht ⊢
    by_cases c : 0 < w 2
    · rw [ftFlE_t c] at ht ⊢
      generalize hq : ftFl (fun k => w (4 + 4 * k + 0)) (fun k => w (4 + 4 * k + 1)) (fun k => w (4 + 4 * k + 3)) fa fh (ftCN w) = q at ht hent hasc ⊢
      have ht : t < q.1 + 1 := ht
      show upd q.2.1 q.1 (w 0) t = nI (upd q.2.1 q.1 (w 0) t).toNatClampNeg ∧ upd q.2.2 q.1 (w 2) t = nI (upd q.2.2 q.1 (w 2) t).toNatClampNeg ∧ 1 ≤ (upd q.2.1 q.1 (w 0) t).toNatClampNeg ∧ (upd q.2.1 q.1 (w 0) t).toNatClampNeg ≤ 400 ∧ 0 < (upd q.2.2 q.1 (w 2) t).toNatClampNeg ∧ (upd q.2.2 q.1 (w 2) t).toNatClampNeg ≤ 20000
      by_cases r : t = q.1
      · subst r
        rw [ftUpd_at0, ftUpd_at0]
        obtain ⟨a1, a2, a3⟩ := ftN_of (x := w 0) (a := 50) (b := 400) h.2.1.1 h.2.1.2 (by omega) (by omega)
        obtain ⟨b1, b2, b3⟩ := ftN_of (x := w 2) (a := 1) (b := 20000) (ft1_of c) h.2.2.2.1.2 (by omega) (by omega)
        exact ⟨a1, b1, by omega, a3, b2, b3⟩
      · rw [ftUpd_ne r, ftUpd_ne r]
        obtain ⟨k, k1, k2, k3, k4⟩ := hent t (by omega)
        rw [k3, k4]
        obtain ⟨p1, p2, -⟩ := ftPl_b h k1
        obtain ⟨r1, r2⟩ := ftPart_r h k1 k2
        obtain ⟨a1, a2, a3⟩ := ftN_of (a := 1) (b := 400) p1 p2 (by omega) (by omega)
        obtain ⟨b1, b2, b3⟩ := ftN_of (a := 1) (b := 20000) r1 r2 (by omega) (by omega)
        exact ⟨a1, b1, a2, a3, b2, b3⟩
    · rw [ftFlE_f c] at ht ⊢
      obtain ⟨k, k1, k2, k3, k4⟩ := hent t ht
      rw [k3, k4]
      obtain ⟨p1, p2, -⟩ := ftPl_b h k1
      obtain ⟨r1, r2⟩ := ftPart_r h k1 k2
      obtain ⟨a1, a2, a3⟩ := ftN_of (a := 1) (b := 400) p1 p2 (by omega) (by omega)
      obtain ⟨b1, b2, b3⟩ := ftN_of (a := 1) (b := 20000) r1 r2 (by omega) (by omega)
      exact ⟨a1, b1, a2, a3, b2, b3⟩
  · intro a b hab hb
    unfold ftFW at hb ⊢
    by_cases c : 0 < w 2
    · rw [ftFlE_t c] at hb ⊢
      generalize hq : ftFl (fun k => w (4 + 4 * k + 0)) (fun k => w (4 + 4 * k + 1)) (fun k => w (4 + 4 * k + 3)) fa fh (ftCN w) = q at hb hent hasc ⊢
      have hb : b < q.1 + 1 := hb
      show upd q.2.1 q.1 (w 0) a < upd q.2.1 q.1 (w 0) b
      rw [ftUpd_ne (show a ≠ q.1 by omega)]
      by_cases r : b = q.1
      · subst r
        rw [ftUpd_at0]
        obtain ⟨k, k1, k2, k3, k4⟩ := hent a hab
        rw [k3]
        exact (ftPl_b h k1).2.2
      · rw [ftUpd_ne r]
        exact hasc a b hab (by omega)
    · rw [ftFlE_f c] at hb ⊢
      exact hasc a b hab hb
