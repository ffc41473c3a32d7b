/-! the reference: noise, peaks, flashes, ghosts -/
theorem ft_pastI {x pl w : Nat} (hx : x ≤ 1000) (hp : pl ≤ 1000) (hw : w ≤ 20) : ((nI x - nI pl) - nI w + 1).toInt = (x : Int) - pl - w + 1 := by
  have h1 : (nI x - nI pl).toInt = (x : Int) - pl := ft_subI (by omega) (by omega)
  have h2 : ((nI x - nI pl) - nI w).toInt = (x : Int) - pl - w := by
    rw [Int32.toInt_sub, h1, nI_toInt (by omega)]
    exact Int.bmod_eq_of_le (by omega) (by omega)
  rw [Int32.toInt_add, h2]
  show ((x : Int) - pl - w + 1).bmod (2 ^ 32) = _
  exact Int.bmod_eq_of_le (by omega) (by omega)
theorem ft_past {x pl w : Nat} (hx : x ≤ 1000) (hp : pl ≤ 1000) (hw : w ≤ 20) (h : 0 < (nI x - nI pl) - nI w + 1) : pl + w < x + 1 ∧ (nI x - nI pl) - nI w + 1 = nI (x + 1 - (pl + w)) := by
  have e := ft_pastI hx hp hw
  rw [Int32.lt_iff_toInt_lt, e] at h
  have h2 : (0 : Int) < (x : Int) - pl - w + 1 := h
  refine ⟨by omega, Int32.toInt_inj.mp ?_⟩
  rw [e, nI_toInt (by omega)]
  omega
theorem ft_npast {x pl w : Nat} (hx : x ≤ 1000) (hp : pl ≤ 1000) (hw : w ≤ 20) (h : ¬ 0 < (nI x - nI pl) - nI w + 1) : x + 1 ≤ pl + w := by
  have e := ft_pastI hx hp hw
  rw [Int32.lt_iff_toInt_lt, e] at h
  have h2 : ¬ (0 : Int) < (x : Int) - pl - w + 1 := h
  omega
theorem ft_ge0S {a b : Nat} (ha : a < 2 ^ 31) (hb : b < 2 ^ 31) (h : 0 ≤ nI a - nI b) : b ≤ a := by
  rw [Int32.le_iff_toInt_le, ft_subI ha hb] at h
  have h2 : (0 : Int) ≤ (a : Int) - b := h
  omega
theorem ft_nge0S {a b : Nat} (ha : a < 2 ^ 31) (hb : b < 2 ^ 31) (h : ¬ 0 ≤ nI a - nI b) : a ≤ b := by
  rw [Int32.le_iff_toInt_le, ft_subI ha hb] at h
  have h2 : ¬ (0 : Int) ≤ (a : Int) - b := h
  omega
theorem ftPk_past {pl hh w d x : Nat} (h : pl + w < x + 1) : ftPk pl hh w d x = hh - d * (x + 1 - (pl + w)) := by
  unfold ftPk
  rw [if_neg (by omega)]
theorem ftPk_low {pl hh w d x : Nat} (h : x < pl) : ftPk pl hh w d x = 0 := if_pos h
def ftDownM (ga g1 : Nat → Int32) (x one : Int32) : Nat → Nat
  | 0 => 0
  | k + 1 => if x < ga k ∨ (ga k = x ∧ one < g1 k) then ftDownM ga g1 x one k else k + 1
theorem ftDownM_le (ga g1 : Nat → Int32) (x one : Int32) (g : Nat) : ftDownM ga g1 x one g ≤ g := by
  induction g with
  | zero => exact Nat.le_refl 0
  | succ g ih => unfold ftDownM; split <;> omega
theorem ftDownM_gt {ga g1 : Nat → Int32} {x one : Int32} {k : Nat} (hk : 0 < k) (h : x < ga (k - 1) ∨ (ga (k - 1) = x ∧ one < g1 (k - 1))) : ftDownM ga g1 x one k = ftDownM ga g1 x one (k - 1) := by
  obtain ⟨j, rfl⟩ : ∃ j, k = j + 1 := ⟨k - 1, by omega⟩
  exact if_pos h
theorem ftDownM_ge {ga g1 : Nat → Int32} {x one : Int32} {k : Nat} (hk : 0 < k) (h : ¬ (x < ga (k - 1) ∨ (ga (k - 1) = x ∧ one < g1 (k - 1)))) : ftDownM ga g1 x one k = k := by
  obtain ⟨j, rfl⟩ : ∃ j, k = j + 1 := ⟨k - 1, by omega⟩
  exact if_neg h
theorem ftInsG_low {f : Nat → Int32} {u j t : Nat} (h : t ≤ j) : ftInsG f u j t = f t := if_neg (by omega)
/-- ghosts: how many, places, heights, firsts, seconds -/
abbrev ftGq : Type := Nat × (Nat → Int32) × (Nat → Int32) × (Nat → Int32) × (Nat → Int32)
def ftGmIns (q : ftGq) (x h a b : Int32) : ftGq := (q.1 + 1, ftIns q.2.1 q.1 (ftDownM q.2.1 q.2.2.2.1 x a q.1) x, ftIns q.2.2.1 q.1 (ftDownM q.2.1 q.2.2.2.1 x a q.1) h, ftIns q.2.2.2.1 q.1 (ftDownM q.2.1 q.2.2.2.1 x a q.1) a, ftIns q.2.2.2.2 q.1 (ftDownM q.2.1 q.2.2.2.1 x a q.1) b)
def ftGmStep (ps hs : Nat → Int32) (gl : Int32) (i j : Nat) (q : ftGq) : ftGq := if 0 < ftGhH hs gl i j then ftGmIns q (2 * ps j - ps i) (ftGhH hs gl i j) (ps i) (ps j) else q
def ftGmIn (ps hs : Nat → Int32) (gl : Int32) (i : Nat) (q : ftGq) : Nat → ftGq
  | 0 => q
  | d + 1 => ftGmStep ps hs gl i (i + 1 + d) (ftGmIn ps hs gl i q d)
def ftGmOut (ps hs : Nat → Int32) (gl : Int32) (r : Nat) (q : ftGq) : Nat → ftGq
  | 0 => q
  | i + 1 => ftGmIn ps hs gl i (ftGmOut ps hs gl r q i) (r - (i + 1))
theorem ftGmStep_le (ps hs : Nat → Int32) (gl : Int32) (i j : Nat) (q : ftGq) : (ftGmStep ps hs gl i j q).1 ≤ q.1 + 1 := by
  unfold ftGmStep; split
  · exact Nat.le_refl _
  · omega
theorem ftGmIn_le (ps hs : Nat → Int32) (gl : Int32) (i : Nat) (q : ftGq) (d : Nat) : (ftGmIn ps hs gl i q d).1 ≤ q.1 + d := by
  induction d with
  | zero => exact Nat.le_refl _
  | succ d ih => have := ftGmStep_le ps hs gl i (i + 1 + d) (ftGmIn ps hs gl i q d); show (ftGmStep ps hs gl i (i + 1 + d) (ftGmIn ps hs gl i q d)).1 ≤ _; omega
theorem ftGmOut_le (ps hs : Nat → Int32) (gl : Int32) (r : Nat) (q : ftGq) (hq : q.1 = 0) (i : Nat) : (ftGmOut ps hs gl r q i).1 ≤ ftPairs r i := by
  induction i with
  | zero => show q.1 ≤ 0; omega
  | succ i ih =>
    have := ftGmIn_le ps hs gl i (ftGmOut ps hs gl r q i) (r - (i + 1))
    show (ftGmIn ps hs gl i (ftGmOut ps hs gl r q i) (r - (i + 1))).1 ≤ ftPairs r i + (r - (i + 1))
    omega
def ftGms (R : Nat × (Nat → Int32) × (Nat → Int32)) (gl : Int32) (ga gh g1 g2 : Nat → Int32) : ftGq := ftGmOut R.2.1 R.2.2 gl R.1 (0, ga, gh, g1, g2) R.1


