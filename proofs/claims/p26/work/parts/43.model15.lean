/-! the reference: widthFor, pulsesFor, compare -/
/-- of N, N-1 .. (d of them) the last one with P, as number; or NOT_FOUND -/
noncomputable def ftDn (N : Nat) (P : Nat → Prop) : Nat → Int32
  | 0 => -1000004
  | d + 1 => ftIte (P (N - d)) (nI (N - d)) (ftDn N P d)
theorem ftDn_t {N : Nat} {P : Nat → Prop} {j : Nat} (hj : j ≤ N) (h0 : 0 < j) (h : P j) : nI j = ftDn N P (N - (j - 1)) := by
  rw [show N - (j - 1) = (N - j) + 1 by omega, ftDn, show N - (N - j) = j by omega, ftIte_t h]
theorem ftDn_f {N : Nat} {P : Nat → Prop} {j : Nat} {x : Int32} (hj : j ≤ N) (h0 : 0 < j) (e : x = ftDn N P (N - j)) (h : ¬ P j) : x = ftDn N P (N - (j - 1)) := by
  rw [show N - (j - 1) = (N - j) + 1 by omega, ftDn, show N - (N - j) = j by omega, ftIte_f h]
  exact e
theorem ftUpd_self {f : Nat → Int32} {k : Nat} {x : Int32} (h : f k = x) : upd f k x = f := by
  funext t
  unfold upd
  by_cases q : t = k
  · rw [if_pos q, q, h]
  · rw [if_neg q]
theorem ftWf_upd {w : Nat → Int32} (h : ftWf w) {s : Nat} (hs : s < 11) {x : Int32} (h1 : ftLeast (nI s) ≤ x) (h2 : x ≤ ftMost (nI s)) : ftWf (upd w (44 + s) x) := by
  have e : ∀ t, t ≠ 44 + s → upd w (44 + s) x t = w t := fun t ht => ftUpd_ne ht
  have en : ftCN (upd w (44 + s) x) = ftCN w := by unfold ftCN; rw [e 3 (by omega)]
  have ek : ftCK (upd w (44 + s) x) = ftCK w := by unfold ftCK; rw [e 55 (by omega)]
  have hn := ftWf_n h
  obtain ⟨⟨a1, a2, a3, a4, a5, a6⟩, b, c, d⟩ := h
  refine ⟨⟨by rw [e 3 (by omega)]; exact a1, by rw [e 0 (by omega)]; exact a2, by rw [e 1 (by omega)]; exact a3, by rw [e 2 (by omega)]; exact a4, fun k hk => ?_, fun p q hpq hq => ?_⟩, fun t ht => ?_, by rw [e 55 (by omega)]; exact c, fun i hi => ?_⟩
  · rw [en] at hk
    have q := a5 k hk
    unfold ftPartOk at q ⊢
    rw [e _ (by omega), e _ (by omega), e _ (by omega), e _ (by omega), e 0 (by omega)]
    exact q
  · rw [en] at hq
    rw [e _ (by omega), e _ (by omega)]
    exact a6 p q hpq hq
  · by_cases q : t = s
    · subst q; rw [ftUpd_at0]; exact ⟨h1, h2⟩
    · rw [e _ (by omega)]; exact b t ht
  · rw [ek] at hi
    rw [e _ (by omega)]
    exact d i hi
theorem ftWf_w44 {w : Nat → Int32} (h : ftWf w) {j : Nat} (h1 : 1 ≤ j) (h2 : j ≤ 20) : ftWf (upd w 44 (nI j)) := ftWf_upd h (s := 0) (by omega) (by rw [show ftLeast (nI 0) = nI 1 by decide]; exact nI_le h1 (by omega)) (by rw [show ftMost (nI 0) = nI 20 by decide]; exact nI_le h2 (by omega))
theorem ftWf_w48 {w : Nat → Int32} (h : ftWf w) {j : Nat} (h1 : 1 ≤ j) (h2 : j ≤ 32) : ftWf (upd w 48 (nI j)) := ftWf_upd h (s := 4) (by omega) (by rw [show ftLeast (nI 4) = nI 1 by decide]; exact nI_le h1 (by omega)) (by rw [show ftMost (nI 4) = nI 32 by decide]; exact nI_le h2 (by omega))
/-- with this width no part is hidden or missed -/
def ftWq (w : Nat → Int32) (j : Nat) : Prop := ftCSs (upd w 44 (nI j)) 1 + ftCSs (upd w 44 (nI j)) 2 = 0
noncomputable def ftWfA (w : Nat → Int32) : Int32 := ftDn 20 (ftWq w) 20
/-- with so many pulses the noise is quiet -/
def ftPq (w : Nat → Int32) (li : Int32) (j : Nat) : Prop := ∀ t, t < ftCL w + 60 → ftSz (ftNoise (w (44 + 3)) (w (44 + 5)) j t) ≤ li
noncomputable def ftPuA (w : Nat → Int32) (li : Int32) : Int32 := ftIte (0 ≤ li ∧ li ≤ 400) (ftDn 32 (ftPq w li) 32) (-1000001)
abbrev ftCm : Type := Int32 × Int32 × Int32 × Int32
/-- a comparison's step at x, where the difference is y: first place, how many, the greatest, its place -/
def ftCm1 (q : ftCm) (x y li : Int32) : ftCm := (if li < y then x else q.1, q.2.1 + (if li < y then 1 else 0), if q.2.2.1 < y then y else q.2.2.1, if q.2.2.1 ≤ y then x else q.2.2.2)
def ftCmB (v u : Nat → Int32) (li : Int32) (n : Nat) : Nat → ftCm
  | 0 => (-1000004, 0, -1, 0)
  | d + 1 => ftCm1 (ftCmB v u li n d) (nI (n - (d + 1))) (ftSz (v (n - (d + 1)) - u (n - (d + 1)))) li
def ftCmN (w : Nat → Int32) (k : Nat) : Nat := min (ftCL w + 60) (w (56 + k)).toNatClampNeg
def ftCmQ (w : Nat → Int32) (k : Nat) (li : Int32) : ftCm := ftCmB (ftCV w) (fun x => w (59 + 460 * k + x)) li (ftCmN w k) (ftCmN w k)
def ftCmK (w : Nat → Int32) (k : Nat) (li x : Int32) : Int32 := if x = 0 then (ftCmQ w k li).1 else if x = 1 then (ftCmQ w k li).2.1 else if x = 2 then (ftCmQ w k li).2.2.1 else (ftCmQ w k li).2.2.2
theorem ft_dec1 (y : Int32) : y + Int32.ofInt (-1) = y - 1 := by
  have e : Int32.ofInt (-1) = -1 := by decide
  rw [e, Int32.sub_eq_add_neg]
theorem ft_m1 {x : Nat} (h : 0 < x) : nI x - 1 = nI (x - 1) := ft_subN (b := 1) h
theorem ft_m1lt {x : Nat} (hx : x < 2 ^ 31) (h : nI x - 1 < 0) : x = 0 := by
  rcases Nat.eq_zero_or_pos x with q | q
  · exact q
  · rw [ft_m1 q] at h
    exact absurd h (nI_pos (by omega))
theorem ft_m1nlt {x : Nat} (h : ¬ nI x - 1 < 0) : 0 < x := by
  rcases Nat.eq_zero_or_pos x with q | q
  · subst q
    exact absurd (by decide) h
  · exact q
noncomputable def ftCmA (w : Nat → Int32) (a b c : Int32) : Int32 := ftIte ((0 ≤ a ∧ a ≤ w 55 - 1) ∧ (0 ≤ b ∧ b ≤ 50000) ∧ 0 ≤ c ∧ c ≤ 3) (ftCmK w a.toNatClampNeg b c) (-1000001)



