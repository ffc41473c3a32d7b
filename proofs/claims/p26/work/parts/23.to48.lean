section
/-! the reference: leaves -/
theorem ft_in64 {x lo hi : Int32} {L H : Int64} (hL : L.toInt = lo.toInt) (hH : H.toInt = hi.toInt) : ftB (L ≤ x.toInt64 ∧ x.toInt64 ≤ H) = ftB (lo ≤ x ∧ x ≤ hi) := by
  refine ftB_congr ?_
  rw [Int64.le_iff_toInt_le, Int64.le_iff_toInt_le, Int32.le_iff_toInt_le, Int32.le_iff_toInt_le, hL, hH, Int32.toInt_toInt64]
def ftFirst (x : Int32) : Int32 := if x = 0 then 5 else if x = 1 then 1500 else if x = 2 then 9000 else if x = 3 then 0 else if x = 4 then 4 else if x = 5 then 1 else if x = 6 then 600 else if x = 7 then 60 else if x = 8 then 8000 else if x = 9 then 3 else 150
def ftLeast (x : Int32) : Int32 := if x = 0 ∨ x = 4 then 1 else if x = 1 then 100 else if x = 6 then 10 else if x = 7 then 5 else 0
def ftMost (x : Int32) : Int32 := if x = 0 then 20 else if x = 1 then 5000 else if x = 2 then 40000 else if x = 3 then 400 else if x = 4 then 32 else if x = 5 then 65535 else if x = 6 then 5000 else if x = 7 then 2000 else if x = 8 then 40000 else if x = 9 then 20 else 2000
def ftSz (x : Int32) : Int32 := if x < 0 then -x else x
theorem ftSz_abs (x : Int32) : ftSz x = ftAbs x := by
  unfold ftSz ftAbs
  by_cases h : x < 0
  · rw [if_pos h, if_neg (Int32.not_le.mpr h), Int32.zero_sub]
  · rw [if_neg h, if_pos (Int32.not_lt.mp h)]
/-- the attenuation that the first k parts of a row make hold at a place -/
def ftFw (w : Nat → Int32) (x : Int32) : Nat → Int32
  | 0 => w 1
  | k + 1 => if w (4 + 4 * k + 0) = 2 ∧ w (4 + 4 * k + 1) ≤ x then w (4 + 4 * k + 2) else ftFw w x k
theorem ftFw_t {w : Nat → Int32} {x : Int32} {k : Nat} (h1 : w (4 + 4 * k + 0) = 2) (h2 : w (4 + 4 * k + 1) ≤ x) : w (4 + 4 * k + 2) = ftFw w x (k + 1) := (if_pos ⟨h1, h2⟩).symm
theorem ftFw_1 {w : Nat → Int32} {x y : Int32} {k : Nat} (e : y = ftFw w x k) (h1 : ¬ w (4 + 4 * k + 0) = 2) : y = ftFw w x (k + 1) := by rw [e]; exact (if_neg (fun q => h1 q.1)).symm
theorem ftFw_2 {w : Nat → Int32} {x y : Int32} {k : Nat} (e : y = ftFw w x k) (h1 : x < w (4 + 4 * k + 1)) : y = ftFw w x (k + 1) := by rw [e]; exact (if_neg (fun q => absurd q.2 (Int32.not_le.mpr h1))).symm
/-- the last part at a place, or -1 -/
def ftPa (w : Nat → Int32) (x : Int32) : Nat → Int32
  | 0 => -1
  | k + 1 => if w (4 + 4 * k + 1) = x then nI k else ftPa w x k
def ftLj (w : Nat → Int32) (x : Int32) (s0 : Int32) : Nat → Int32
  | 0 => s0
  | k + 1 => ftLj w x s0 k + (if w (4 + 4 * k + 0) < 2 ∧ w (4 + 4 * k + 1) < x then w (4 + 4 * k + 2) else 0)
theorem ftLj_t {w : Nat → Int32} {x s0 y : Int32} {k : Nat} (e : y = ftLj w x s0 k) (h1 : w (4 + 4 * k + 0) < 2) (h2 : w (4 + 4 * k + 1) < x) : y + w (4 + 4 * k + 2) = ftLj w x s0 (k + 1) := by rw [e, ftLj, if_pos ⟨h1, h2⟩]
theorem ftLj_1 {w : Nat → Int32} {x s0 y : Int32} {k : Nat} (e : y = ftLj w x s0 k) (h1 : 2 ≤ w (4 + 4 * k + 0)) : y + 0 = ftLj w x s0 (k + 1) := by rw [e, ftLj, if_neg (fun q => absurd q.1 (Int32.not_lt.mpr h1))]
theorem ftLj_2 {w : Nat → Int32} {x s0 y : Int32} {k : Nat} (e : y = ftLj w x s0 k) (h1 : x ≤ w (4 + 4 * k + 1)) : y + 0 = ftLj w x s0 (k + 1) := by rw [e, ftLj, if_neg (fun q => absurd q.2 (Int32.not_lt.mpr h1))]
/-- the states behind a change: the oldest of five gone, the row laid behind -/
def ftShift (z : Nat → Int32) (J : Nat) : Nat → Int32 := fun t => if t < J then z (t + 1439) else z t
theorem ftShift_0 (z : Nat → Int32) : z = ftShift z 0 := funext fun t => (if_neg (Nat.not_lt_zero t)).symm
theorem ftShift_s {z : Nat → Int32} {J : Nat} : upd (ftShift z J) J (ftShift z J (J + 1439)) = ftShift z (J + 1) := by
  funext t
  unfold upd ftShift
  by_cases q : t = J
  · subst q; rw [if_pos rfl, if_neg (by omega), if_pos (by omega)]
  · rw [if_neg q]
    by_cases r : t < J
    · rw [if_pos r, if_pos (by omega)]
    · rw [if_neg r, if_neg (by omega)]
def ftPush (w z : Nat → Int32) (hm : Nat) : Nat → Int32 := if hm = 5 then ftSeg w (ftShift z 5756) 5756 1439 else ftSeg w z (hm * 1439) 1439
/-- a row with a part more -/
def ftComes (w : Nat → Int32) (k : Nat) (kd x lo re : Int32) : Nat → Int32 := upd (upd (upd (upd w (4 + 4 * k + 0) kd) (4 + 4 * k + 1) x) (4 + 4 * k + 2) lo) (4 + 4 * k + 3) re
end
section
/-! the reference: a change -/
theorem ftPush_n {w z : Nat → Int32} {hm : Nat} (h : hm ≠ 5) : ftPush w z hm = ftSeg w z (hm * 1439) 1439 := if_neg h
theorem ftPush_5 {w z : Nat → Int32} {hm : Nat} (h : hm = 5) : ftPush w z hm = ftSeg w (ftShift z 5756) ((hm - 1) * 1439) 1439 := by
  have e : (hm - 1) * 1439 = 5756 := by omega
  rw [e]; exact if_pos h
end
section
/-! the reference: changes, texts' ends, noise -/
/-- where a part at x comes among k parts of a row -/
def ftPosW (w : Nat → Int32) (x : Int32) : Nat → Nat
  | 0 => 0
  | k + 1 => if x < w (4 + 4 * k + 1) then ftPosW w x k else k + 1
theorem ftPosW_le (w : Nat → Int32) (x : Int32) (n : Nat) : ftPosW w x n ≤ n := by
  induction n with
  | zero => exact Nat.le_refl 0
  | succ n ih => unfold ftPosW; split <;> omega
theorem ftPosW_gt {w : Nat → Int32} {x : Int32} {k : Nat} (hk : 0 < k) (h : x < w (4 + 4 * (k - 1) + 1)) : ftPosW w x k = ftPosW w x (k - 1) := by
  obtain ⟨j, rfl⟩ : ∃ j, k = j + 1 := ⟨k - 1, by omega⟩
  exact if_pos h
theorem ftPosW_ge {w : Nat → Int32} {x : Int32} {k : Nat} (hk : 0 < k) (h : ¬ x < w (4 + 4 * (k - 1) + 1)) : ftPosW w x k = k := by
  obtain ⟨j, rfl⟩ : ∃ j, k = j + 1 := ⟨k - 1, by omega⟩
  exact if_neg h
/-- the parts from the k-th on, of n, a place further -/
def ftShP (w : Nat → Int32) (n k : Nat) : Nat → Int32 := fun t => if 4 + 4 * k + 4 ≤ t ∧ t < 4 + 4 * n + 4 then w (t - 4) else w t
def ftShI (w : Nat → Int32) (n k i : Nat) : Nat → Int32 := fun t => if 4 + 4 * k ≤ t ∧ t < 4 + 4 * k + i then w (t - 4) else ftShP w n k t
theorem ftShP_0 (w : Nat → Int32) (n : Nat) : w = ftShP w n n := funext fun t => (if_neg (by omega)).symm
theorem ftShI_0 (w : Nat → Int32) (n k : Nat) : ftShP w n k = ftShI w n k 0 := funext fun t => (if_neg (by omega)).symm
theorem ftShP_low {w : Nat → Int32} {n k t : Nat} (h : t < 4 + 4 * k + 4) : ftShP w n k t = w t := if_neg (by omega)
theorem ftShI_s {w : Nat → Int32} {n k i : Nat} (hk : 0 < k) (hi : i < 4) : upd (ftShI w n k i) (4 + 4 * k + i) (ftShI w n k i (4 + 4 * (k - 1) + i)) = ftShI w n k (i + 1) := by
  have e : ftShI w n k i (4 + 4 * (k - 1) + i) = w (4 + 4 * (k - 1) + i) := by
    unfold ftShI
    rw [if_neg (by omega), ftShP_low (by omega)]
  rw [e]
  funext t
  unfold upd ftShI
  by_cases q : t = 4 + 4 * k + i
  · rw [if_pos q, if_pos (by omega)]
    congr 1
    omega
  · rw [if_neg q]
    by_cases r : 4 + 4 * k ≤ t ∧ t < 4 + 4 * k + i
    · rw [if_pos r, if_pos (by omega)]
    · rw [if_neg r, if_neg (by omega)]
theorem ftShI_4 {w : Nat → Int32} {n k : Nat} (hk : 0 < k) (hkn : k ≤ n) : ftShI w n k 4 = ftShP w n (k - 1) := by
  funext t
  unfold ftShI ftShP
  by_cases q : 4 + 4 * k ≤ t ∧ t < 4 + 4 * k + 4
  · rw [if_pos q, if_pos (by omega)]
  · rw [if_neg q]
    by_cases r : 4 + 4 * k + 4 ≤ t ∧ t < 4 + 4 * n + 4
    · rw [if_pos r, if_pos (by omega)]
    · rw [if_neg r, if_neg (by omega)]
def ftAdd (w : Nat → Int32) (n : Nat) (kd x lo re : Int32) : Nat → Int32 := upd (ftComes (ftShP w n (ftPosW w x n)) (ftPosW w x n) kd x lo re) 3 (nI (n + 1))
theorem ftComes_3 {w : Nat → Int32} {n k : Nat} {kd x lo re : Int32} : ftComes (ftShP w n k) k kd x lo re 3 = w 3 := by
  unfold ftComes upd
  rw [if_neg (by omega), if_neg (by omega), if_neg (by omega), if_neg (by omega), ftShP_low (by omega)]
theorem ftUpd_ne {f : Nat → Int32} {k t : Nat} {x : Int32} (h : t ≠ k) : upd f k x t = f t := if_neg h
/-- the text behind a character typed -/
noncomputable def ftTl (tn : Nat) (x : Int32) : Nat := @ite _ ((32 ≤ x ∧ x ≤ 126) ∧ tn ≠ 120) (Classical.propDecidable _) (tn + 1) tn
noncomputable def ftTt (tx : Nat → Int32) (tn : Nat) (x : Int32) : Nat → Int32 := @ite _ ((32 ≤ x ∧ x ≤ 126) ∧ tn ≠ 120) (Classical.propDecidable _) (upd tx tn x) tx
theorem ftTl_t {tn : Nat} {x : Int32} (h : (32 ≤ x ∧ x ≤ 126) ∧ tn ≠ 120) : ftTl tn x = tn + 1 := if_pos h
theorem ftTl_f {tn : Nat} {x : Int32} (h : ¬ ((32 ≤ x ∧ x ≤ 126) ∧ tn ≠ 120)) : ftTl tn x = tn := if_neg h
theorem ftTt_t {tx : Nat → Int32} {tn : Nat} {x : Int32} (h : (32 ≤ x ∧ x ≤ 126) ∧ tn ≠ 120) : ftTt tx tn x = upd tx tn x := if_pos h
theorem ftTt_f {tx : Nat → Int32} {tn : Nat} {x : Int32} (h : ¬ ((32 ≤ x ∧ x ≤ 126) ∧ tn ≠ 120)) : ftTt tx tn x = tx := if_neg h
end
section
/-! the reference: noise, peaks, flashes, ghosts -/
theorem ft_pastI {x pl w : Nat} (hx : x ≤ 1000) (hp : pl ≤ 1000) (hw : w ≤ 20) : ((nI x - nI pl) - nI w + 1).toInt = (x : Int) - pl - w + 1 := by
  have h1 : (nI x - nI pl).toInt = (x : Int) - pl := ft_subI (by omega) (by omega)
  have h2 : ((nI x - nI pl) - nI w).toInt = (x : Int) - pl - w := by
    rw [Int32.toInt_sub, h1, nI_toInt (by omega)]
    exact Int.bmod_eq_of_le (by omega) (by omega)
  rw [Int32.toInt_add, h2]
  show ((x : Int) - pl - w + 1).bmod (2 ^ 32) = _
  exact Int.bmod_eq_of_le (by omega) (by omega)
theorem ft_past {x pl w : Nat} (hx : x ≤ 1000) (hp : pl ≤ 1000) (hw : w ≤ 20) (h : 0 < (nI x - nI pl) - nI w + 1) : pl + w < x + 1 ∧ (nI x - nI pl) - nI w + 1 = nI (x + 1 - (pl + w)) := by
  have e := ft_pastI hx hp hw
  rw [Int32.lt_iff_toInt_lt, e] at h
  have h2 : (0 : Int) < (x : Int) - pl - w + 1 := h
  refine ⟨by omega, Int32.toInt_inj.mp ?_⟩
  rw [e, nI_toInt (by omega)]
  omega
theorem ft_npast {x pl w : Nat} (hx : x ≤ 1000) (hp : pl ≤ 1000) (hw : w ≤ 20) (h : ¬ 0 < (nI x - nI pl) - nI w + 1) : x + 1 ≤ pl + w := by
  have e := ft_pastI hx hp hw
  rw [Int32.lt_iff_toInt_lt, e] at h
  have h2 : ¬ (0 : Int) < (x : Int) - pl - w + 1 := h
  omega
theorem ft_ge0S {a b : Nat} (ha : a < 2 ^ 31) (hb : b < 2 ^ 31) (h : 0 ≤ nI a - nI b) : b ≤ a := by
  rw [Int32.le_iff_toInt_le, ft_subI ha hb] at h
  have h2 : (0 : Int) ≤ (a : Int) - b := h
  omega
theorem ft_nge0S {a b : Nat} (ha : a < 2 ^ 31) (hb : b < 2 ^ 31) (h : ¬ 0 ≤ nI a - nI b) : a ≤ b := by
  rw [Int32.le_iff_toInt_le, ft_subI ha hb] at h
  have h2 : ¬ (0 : Int) ≤ (a : Int) - b := h
  omega
theorem ftPk_past {pl hh w d x : Nat} (h : pl + w < x + 1) : ftPk pl hh w d x = hh - d * (x + 1 - (pl + w)) := by
  unfold ftPk
  rw [if_neg (by omega)]
theorem ftPk_low {pl hh w d x : Nat} (h : x < pl) : ftPk pl hh w d x = 0 := if_pos h
def ftDownM (ga g1 : Nat → Int32) (x one : Int32) : Nat → Nat
  | 0 => 0
  | k + 1 => if x < ga k ∨ (ga k = x ∧ one < g1 k) then ftDownM ga g1 x one k else k + 1
theorem ftDownM_le (ga g1 : Nat → Int32) (x one : Int32) (g : Nat) : ftDownM ga g1 x one g ≤ g := by
  induction g with
  | zero => exact Nat.le_refl 0
  | succ g ih => unfold ftDownM; split <;> omega
theorem ftDownM_gt {ga g1 : Nat → Int32} {x one : Int32} {k : Nat} (hk : 0 < k) (h : x < ga (k - 1) ∨ (ga (k - 1) = x ∧ one < g1 (k - 1))) : ftDownM ga g1 x one k = ftDownM ga g1 x one (k - 1) := by
  obtain ⟨j, rfl⟩ : ∃ j, k = j + 1 := ⟨k - 1, by omega⟩
  exact if_pos h
theorem ftDownM_ge {ga g1 : Nat → Int32} {x one : Int32} {k : Nat} (hk : 0 < k) (h : ¬ (x < ga (k - 1) ∨ (ga (k - 1) = x ∧ one < g1 (k - 1)))) : ftDownM ga g1 x one k = k := by
  obtain ⟨j, rfl⟩ : ∃ j, k = j + 1 := ⟨k - 1, by omega⟩
  exact if_neg h
theorem ftInsG_low {f : Nat → Int32} {u j t : Nat} (h : t ≤ j) : ftInsG f u j t = f t := if_neg (by omega)
/-- ghosts: how many, places, heights, firsts, seconds -/
abbrev ftGq : Type := Nat × (Nat → Int32) × (Nat → Int32) × (Nat → Int32) × (Nat → Int32)
def ftGmIns (q : ftGq) (x h a b : Int32) : ftGq := (q.1 + 1, ftIns q.2.1 q.1 (ftDownM q.2.1 q.2.2.2.1 x a q.1) x, ftIns q.2.2.1 q.1 (ftDownM q.2.1 q.2.2.2.1 x a q.1) h, ftIns q.2.2.2.1 q.1 (ftDownM q.2.1 q.2.2.2.1 x a q.1) a, ftIns q.2.2.2.2 q.1 (ftDownM q.2.1 q.2.2.2.1 x a q.1) b)
def ftGmStep (ps hs : Nat → Int32) (gl : Int32) (i j : Nat) (q : ftGq) : ftGq := if 0 < ftGhH hs gl i j then ftGmIns q (2 * ps j - ps i) (ftGhH hs gl i j) (ps i) (ps j) else q
def ftGmIn (ps hs : Nat → Int32) (gl : Int32) (i : Nat) (q : ftGq) : Nat → ftGq
  | 0 => q
  | d + 1 => ftGmStep ps hs gl i (i + 1 + d) (ftGmIn ps hs gl i q d)
def ftGmOut (ps hs : Nat → Int32) (gl : Int32) (r : Nat) (q : ftGq) : Nat → ftGq
  | 0 => q
  | i + 1 => ftGmIn ps hs gl i (ftGmOut ps hs gl r q i) (r - (i + 1))
theorem ftGmStep_le (ps hs : Nat → Int32) (gl : Int32) (i j : Nat) (q : ftGq) : (ftGmStep ps hs gl i j q).1 ≤ q.1 + 1 := by
  unfold ftGmStep; split
  · exact Nat.le_refl _
  · omega
theorem ftGmIn_le (ps hs : Nat → Int32) (gl : Int32) (i : Nat) (q : ftGq) (d : Nat) : (ftGmIn ps hs gl i q d).1 ≤ q.1 + d := by
  induction d with
  | zero => exact Nat.le_refl _
  | succ d ih => have := ftGmStep_le ps hs gl i (i + 1 + d) (ftGmIn ps hs gl i q d); show (ftGmStep ps hs gl i (i + 1 + d) (ftGmIn ps hs gl i q d)).1 ≤ _; omega
theorem ftGmOut_le (ps hs : Nat → Int32) (gl : Int32) (r : Nat) (q : ftGq) (hq : q.1 = 0) (i : Nat) : (ftGmOut ps hs gl r q i).1 ≤ ftPairs r i := by
  induction i with
  | zero => show q.1 ≤ 0; omega
  | succ i ih =>
    have := ftGmIn_le ps hs gl i (ftGmOut ps hs gl r q i) (r - (i + 1))
    show (ftGmIn ps hs gl i (ftGmOut ps hs gl r q i) (r - (i + 1))).1 ≤ ftPairs r i + (r - (i + 1))
    omega
def ftGms (R : Nat × (Nat → Int32) × (Nat → Int32)) (gl : Int32) (ga gh g1 g2 : Nat → Int32) : ftGq := ftGmOut R.2.1 R.2.2 gl R.1 (0, ga, gh, g1, g2) R.1
end
section
theorem ftNx_0 {a z : Int32} {pu : Nat} (h : a = 0) : ftNx a z pu = 0 := if_pos h
theorem ftNz_0 {a z : Int32} {pu : Nat} (h : a = 0) : ftNz a z pu = z := if_pos h
theorem ftNz_p {a z : Int32} {pu : Nat} (h : ¬ a = 0) : ftNz a z pu = (ftDraw a z pu).1 := if_neg h
theorem ftNx_p {a z : Int32} {pu : Nat} (h : ¬ a = 0) (hp : 0 < pu) (hp2 : pu < 2 ^ 31) : ftNx a z pu = (ftDraw a z pu).2 / nI pu := by
  unfold ftNx ftQuot
  rw [if_neg h, if_neg (nI_ne0 hp hp2)]
theorem ft_div0 (x : Int32) : (0 : Int32) / x = 0 := Int32.zero_div
theorem ft_ne0_of_pos {a : Int32} (h : 0 < a) : ¬ a = 0 := fun q => by rw [q] at h; exact absurd h (by decide)
end
section
theorem ftFl_t {kf pf rf p0 h0 : Nat → Int32} {i : Nat} (h : kf i = 1) : ftFl kf pf rf p0 h0 (i + 1) = ((ftFl kf pf rf p0 h0 i).1 + 1, upd (ftFl kf pf rf p0 h0 i).2.1 (ftFl kf pf rf p0 h0 i).1 (pf i), upd (ftFl kf pf rf p0 h0 i).2.2 (ftFl kf pf rf p0 h0 i).1 (rf i)) := if_pos h
theorem ftFl_f {kf pf rf p0 h0 : Nat → Int32} {i : Nat} (h : ¬ kf i = 1) : ftFl kf pf rf p0 h0 (i + 1) = ftFl kf pf rf p0 h0 i := if_neg h
theorem ftFlE_t {len en : Int32} {kf pf rf p0 h0 : Nat → Int32} {n : Nat} (h : 0 < en) : ftFlE len en kf pf rf p0 h0 n = ((ftFl kf pf rf p0 h0 n).1 + 1, upd (ftFl kf pf rf p0 h0 n).2.1 (ftFl kf pf rf p0 h0 n).1 len, upd (ftFl kf pf rf p0 h0 n).2.2 (ftFl kf pf rf p0 h0 n).1 en) := if_pos h
theorem ftFlE_f {len en : Int32} {kf pf rf p0 h0 : Nat → Int32} {n : Nat} (h : ¬ 0 < en) : ftFlE len en kf pf rf p0 h0 n = ftFl kf pf rf p0 h0 n := if_neg h
end
section
/-! the reference: reading -/
def ftV (fb fp fn : Nat → Int32) : Nat → Int32 := fun t => fb t + fp t + fn t
def ftRoM (eb ek : Nat → Int32) : Nat → Nat → Int32 := fun c => if c = 4 then ek else eb
def ftMk1 (o : Option (Nat × Nat)) (f : Nat → Int32) (e : Nat) : Nat → Int32 := match o with
  | none => f
  | some (i, _) => upd f e (nI i)
def ftMk2 (o : Option (Nat × Nat)) (f : Nat → Int32) (e : Nat) : Nat → Int32 := match o with
  | none => f
  | some (_, j) => upd f e (nI j)
theorem ftMkM {eb ek : Nat → Int32} {tl : Int32} {i j e : Nat} (h1 : ek i = 1) (h2 : ek j = 1) (h3 : ftSz (2 * eb j - eb i - eb e) ≤ tl) : ftMk (ftRoM eb ek) tl i j e := ⟨h1, h2, by rw [ftSz_abs] at h3; exact h3⟩
theorem ftMkM_1 {eb ek : Nat → Int32} {tl : Int32} {i j e : Nat} (h1 : ¬ ek i = 1) : ¬ ftMk (ftRoM eb ek) tl i j e := fun q => h1 q.1
theorem ftMkM_2 {eb ek : Nat → Int32} {tl : Int32} {i j e : Nat} (h1 : ¬ ek j = 1) : ¬ ftMk (ftRoM eb ek) tl i j e := fun q => h1 q.2.1
theorem ftMkM_3 {eb ek : Nat → Int32} {tl : Int32} {i j e : Nat} (h1 : tl < ftSz (2 * eb j - eb i - eb e)) : ¬ ftMk (ftRoM eb ek) tl i j e := fun q => absurd q.2.2 (by rw [ftSz_abs] at h1; exact Int32.not_le.mpr h1)
end
section
/-! the reference: the trace -/
def ftLv (w : Nat → Int32) (n : Nat) : Nat → Int32
  | 0 => 50000
  | x + 1 => ftLv w n x - ftFw w (nI x) n
def ftSp1 (w : Nat → Int32) (x : Int32) (k : Nat) : Int32 := if w (44 + 0) ≤ x - w (4 + 4 * k + 1) + 1 then w (4 + 4 * k + 2) else w (4 + 4 * k + 2) * (x - w (4 + 4 * k + 1) + 1) / w (44 + 0)
def ftBi (w : Nat → Int32) (x b0 : Int32) : Nat → Int32
  | 0 => b0
  | k + 1 => if w (4 + 4 * k + 0) < 2 ∧ w (4 + 4 * k + 1) ≤ x then ftBi w x b0 k - ftSp1 w x k else ftBi w x b0 k
def ftBsM (w : Nat → Int32) (ln n : Nat) (x : Nat) : Int32 := if nI x < nI ln then ftBi w (nI x) (ftLv w n x) n else 5000
def ftPkI (PP HH : Nat → Nat) (wd d x : Nat) (b0 : Int32) : Nat → Int32
  | 0 => b0
  | k + 1 => if ftPkI PP HH wd d x b0 k < nI (ftPk (PP k) (HH k) wd d x) then nI (ftPk (PP k) (HH k) wd d x) else ftPkI PP HH wd d x b0 k
def ftPkM (PP HH PG HG : Nat → Nat) (r g wd d : Nat) (x : Nat) : Int32 := ftPkI PG HG wd d x (ftPkI PP HH wd d x 0 r) g
theorem ftUpd2 (f : Nat → Int32) (k : Nat) (a b : Int32) : upd (upd f k a) k b = upd f k b := by
  funext t
  unfold upd
  by_cases q : t = k
  · rw [if_pos q, if_pos q]
  · rw [if_neg q, if_neg q, if_neg q]
theorem ftUpd1 (f : Nat → Int32) (k : Nat) (a : Int32) : upd f k a k = a := if_pos rfl
theorem ftBi_f {w : Nat → Int32} {x b0 : Int32} {k : Nat} (h : ¬ (w (4 + 4 * k + 0) < 2 ∧ w (4 + 4 * k + 1) ≤ x)) : ftBi w x b0 (k + 1) = ftBi w x b0 k := if_neg h
theorem ftBi_t {w : Nat → Int32} {x b0 s : Int32} {k : Nat} (h : w (4 + 4 * k + 0) < 2 ∧ w (4 + 4 * k + 1) ≤ x) (hs : s = ftSp1 w x k) : ftBi w x b0 (k + 1) = ftBi w x b0 k - s := by rw [hs]; exact if_pos h
theorem ftPkI_t {PP HH : Nat → Nat} {wd d x k : Nat} {b0 : Int32} (h : ftPkI PP HH wd d x b0 k < nI (ftPk (PP k) (HH k) wd d x)) : ftPkI PP HH wd d x b0 (k + 1) = nI (ftPk (PP k) (HH k) wd d x) := if_pos h
theorem ftPkI_f {PP HH : Nat → Nat} {wd d x k : Nat} {b0 : Int32} (h : ¬ ftPkI PP HH wd d x b0 k < nI (ftPk (PP k) (HH k) wd d x)) : ftPkI PP HH wd d x b0 (k + 1) = ftPkI PP HH wd d x b0 k := if_neg h
end
section
/-! the reference: parts and events -/
noncomputable def ftOnM (eb ee : Nat → Int32) (k : Nat) (x : Int32) : Int32 := ftFst (fun i => eb i ≤ x ∧ x ≤ ee i) k
noncomputable def ftNearM (eb ek : Nat → Int32) (tl : Int32) (k : Nat) (x : Int32) : Int32 := ftFst (fun i => ¬ ek i = 2 ∧ ftNear tl (eb i) x) k
noncomputable def ftStandM (eb ee ek w : Nat → Int32) (km k : Nat) : Int32 := if w (4 + 4 * k + 0) = 2 then 2 else if 0 ≤ ftNearM eb ek (w (44 + 9)) km (w (4 + 4 * k + 1)) then 0 else if 0 ≤ ftOnM eb ee km (w (4 + 4 * k + 1)) then 1 else 2
noncomputable def ftStandsM (eb ee ek w : Nat → Int32) (km : Nat) (ho : Int32) (n : Nat) : Int32 := ftCount (fun k => w (4 + 4 * k + 0) < 2 ∧ ftStandM eb ee ek w km k = ho) n
def ftStrM (eb ek w : Nat → Int32) (e n : Nat) : Prop := ek e < 2 ∧ ∀ t, t < n → (w (4 + 4 * t + 0) = 2 ∨ w (44 + 9) < ftSz (eb e - w (4 + 4 * t + 1)))
theorem ftStrM_s {eb ek w : Nat → Int32} {e k : Nat} (h : ftStrM eb ek w e k) (q : w (4 + 4 * k + 0) = 2 ∨ w (44 + 9) < ftSz (eb e - w (4 + 4 * k + 1))) : ftStrM eb ek w e (k + 1) :=
  ⟨h.1, fun t ht => by
    rcases Nat.lt_succ_iff_lt_or_eq.mp ht with r | r
    · exact h.2 t r
    · subst r; exact q⟩
theorem ftStrM_d {eb ek w : Nat → Int32} {e k : Nat} (h : ftStrM eb ek w e (k + 1)) : ftStrM eb ek w e k := ⟨h.1, fun t ht => h.2 t (by omega)⟩
theorem ftStrM_q {eb ek w : Nat → Int32} {e k : Nat} (h : ftStrM eb ek w e (k + 1)) : w (4 + 4 * k + 0) = 2 ∨ w (44 + 9) < ftSz (eb e - w (4 + 4 * k + 1)) := h.2 k (by omega)
end
section
/-! contracts whose end tells a world by what holds of it; a contract told otherwise -/
abbrev ftXi (D : va_G) (ws : va_W) (sz : Nat) {S : Type} (post : Int32 → S → Prop) (ws' : S → va_W) : Array Value → State → Outcome → State → Prop := va_Qi post (fun u t => va_P D vwCl (ws' u) t.heap ∧ va_D (va_A ws sz) (ws' u)) (va_A ws sz)
abbrev ftXv (D : va_G) (ws : va_W) (sz : Nat) {S : Type} (post : S → Prop) (ws' : S → va_W) : Array Value → State → Outcome → State → Prop := va_Qv post (fun u t => va_P D vwCl (ws' u) t.heap ∧ va_D (va_A ws sz) (ws' u)) (va_A ws sz)
section FTX
variable {p : Program} {l : Launch} {e : Env} {R : Room} {s : State} {m : MethodId} {args : Array Value} {below : List Frame} {meth : Method} {c : Code} {H : Heap} {locs : List Loc} {cells slots : Nat} {Q : State → Prop}
theorem ft_cxi {S : Type} {D : va_G} {A : Nat → Prop} {H0 : Heap} {post : Int32 → S → Prop} {a : Array Value} {st0 rest : List Value} {pc : Nat} {ls : Array Slot} {ws wc wr : va_W} {w1 ws1 : S → va_W} (hr : va_Run p l e R s m args below meth c H locs cells slots 0 0 (F0 m pc ls st0) rest (ftXi D wc H.size post w1 a) (va_A wc H.size))
    (hP : va_P D vwCl ws H) (hD : va_D A ws) (hS : va_S A H0 H locs) (hA : ∀ q, H0.size ≤ q → A q) (isC isR pm : List Nat) (hC : isC.map (fun i => ws[i]?) = wc.map some) (hR : isR.map (fun i => ws[i]?) = wr.map some) (hn : va_nd isR = true) (hdis : ∀ i ∈ isR, i ∉ isC) (hpn : va_nd pm = true) (hpm : ∀ u, pm.map (fun i => (wr ++ w1 u)[i]?) = (ws1 u).map some) (hpf : ∀ u, pm.filterMap (fun i => (wr ++ w1 u)[i]?) = ws1 u)
    (kk : ∀ (r : Int32) (u : S), post r u → ∀ (H1 : Heap) (locs1 : List Loc), va_P D vwCl (ws1 u) H1 → va_D A (ws1 u) → va_S A H0 H1 locs1 → W p l e R s m args below meth c H1 locs1 cells slots Q (F0 m (pc + 3) ls (.int r :: rest))) : W p l e R s m args below meth c H locs cells slots Q (F0 m pc ls st0) := by
  have hFc := va_free (wc := wc) hD hS hA isC hC
  refine va_calli hr hS (fun q _ h => hFc q h) hFc (fun r2 u t H1 locs1 ht hvm hw hB hz1 hk1 hS1 => ?_)
  obtain ⟨hP1, hD1⟩ := hB
  rw [ht] at hP1
  obtain ⟨hP2, hD2⟩ := va_join (wr := wr) (w1 := w1 u) hP hD isC isR hC hR hn hdis hk1 hFc hP1 hD1
  exact kk r2 u hw H1 locs1 (hP2.sub pm (hpf u)) (hD2.sub pm hpn (hpm u)) hS1
theorem ft_cxv {S : Type} {D : va_G} {A : Nat → Prop} {H0 : Heap} {post : S → Prop} {a : Array Value} {st0 rest : List Value} {pc : Nat} {ls : Array Slot} {ws wc wr : va_W} {w1 ws1 : S → va_W} (hr : va_Run p l e R s m args below meth c H locs cells slots 0 0 (F0 m pc ls st0) rest (ftXv D wc H.size post w1 a) (va_A wc H.size))
    (hP : va_P D vwCl ws H) (hD : va_D A ws) (hS : va_S A H0 H locs) (hA : ∀ q, H0.size ≤ q → A q) (isC isR pm : List Nat) (hC : isC.map (fun i => ws[i]?) = wc.map some) (hR : isR.map (fun i => ws[i]?) = wr.map some) (hn : va_nd isR = true) (hdis : ∀ i ∈ isR, i ∉ isC) (hpn : va_nd pm = true) (hpm : ∀ u, pm.map (fun i => (wr ++ w1 u)[i]?) = (ws1 u).map some) (hpf : ∀ u, pm.filterMap (fun i => (wr ++ w1 u)[i]?) = ws1 u)
    (kk : ∀ (u : S), post u → ∀ (H1 : Heap) (locs1 : List Loc), va_P D vwCl (ws1 u) H1 → va_D A (ws1 u) → va_S A H0 H1 locs1 → W p l e R s m args below meth c H1 locs1 cells slots Q (F0 m (pc + 3) ls rest)) : W p l e R s m args below meth c H locs cells slots Q (F0 m pc ls st0) := by
  have hFc := va_free (wc := wc) hD hS hA isC hC
  refine va_callv hr hS (fun q _ h => hFc q h) hFc (fun u t H1 locs1 ht hvm hw hB hz1 hk1 hS1 => ?_)
  obtain ⟨hP1, hD1⟩ := hB
  rw [ht] at hP1
  obtain ⟨hP2, hD2⟩ := va_join (wr := wr) (w1 := w1 u) hP hD isC isR hC hR hn hdis hk1 hFc hP1 hD1
  exact kk u hw H1 locs1 (hP2.sub pm (hpf u)) (hD2.sub pm hpn (hpm u)) hS1
end FTX
theorem ft_weak {l : Launch} {y : MethodName} {cw : List Cond} {rm : Room} {Pc Pc' : Array Value → State → Prop} {Qc Qc' : Array Value → State → Outcome → State → Prop} {mc ms : Nat} {free free' : Addr → Prop} (h : Met l y cw rm Pc Qc mc ms free) (hp : ∀ a s, Pc' a s → Pc a s) (hq : ∀ a s o t, Pc' a s → Qc a s o t → Qc' a s o t) (hf : ∀ q, free q → free' q) : Met l y cw rm Pc' Qc' mc ms free' := by
  intro p e a1 a2 a3 s m args below b1 b2 b3 b4
  obtain ⟨n, o, c1, c2, c3, c4, L, c5, c6⟩ := h p e a1 a2 a3 s m args below b1 b2 (hp _ _ b3) trivial
  exact ⟨n, o, c1, c2, c3, hq _ _ _ _ b3 c4, L, c5, fun q h9 => hf _ (c6 q h9)⟩
theorem ft_toXv {S : Type} {l : Launch} {y : MethodName} {cw : List Cond} {rm : Room} {D : va_G} {cI cS : ClassId} {av : List Value} {ws w1 : va_W} {sz : Nat} (h : Met l y cw rm (ftRW D cI cS av ws sz) (ftQv D ws w1 sz) 0 0 (va_A ws sz)) (post : S → Prop) (w' : S → va_W) (u : S) (hu : post u) (he : w1 = w' u) : Met l y cw rm (ftRW D cI cS av ws sz) (ftXv D ws sz post w') 0 0 (va_A ws sz) := by
  refine ft_weak h (fun _ _ q => q) (fun a s o t _ q => ?_) (fun _ q => q)
  obtain ⟨⟨_, h1, _, h3⟩, h4⟩ := q
  subst he
  exact ⟨⟨u, h1, hu, h3⟩, h4⟩
theorem ft_toXi {S : Type} {l : Launch} {y : MethodName} {cw : List Cond} {rm : Room} {D : va_G} {cI cS : ClassId} {av : List Value} {ws w1 : va_W} {sz : Nat} {r : Int32} (h : Met l y cw rm (ftRW D cI cS av ws sz) (ftQi D r ws w1 sz) 0 0 (va_A ws sz)) (post : Int32 → S → Prop) (w' : S → va_W) (u : S) (hu : post r u) (he : w1 = w' u) : Met l y cw rm (ftRW D cI cS av ws sz) (ftXi D ws sz post w') 0 0 (va_A ws sz) := by
  refine ft_weak h (fun _ _ q => q) (fun a s o t _ q => ?_) (fun _ q => q)
  obtain ⟨⟨x, _, h1, h2, h3⟩, h4⟩ := q
  subst he
  rw [← h2] at hu
  exact ⟨⟨x, u, h1, hu, h3⟩, h4⟩
end
section
/-! the reference: an event comes, events -/
def ftEvK (rb en : Int32) : Int32 := if en = 0 then (if rb = 0 then 0 else 1) else 3
/-- an event more; O its makers, if it is a ghost -/
def ftEvS (v : Nat → Int32) (O : Option (Nat × Nat)) (x y : Nat) (rb en : Int32) (q : ftRs) : ftRs := (q.1 + 1, en, fun c => if c = 4 then (match O with | none => upd (q.2.2 4) q.1 (ftEvK rb en) | some _ => upd (q.2.2 4) q.1 2) else if c = 6 then ftMk1 O (q.2.2 6) q.1 else if c = 7 then ftMk2 O (q.2.2 7) q.1 else upd (q.2.2 c) q.1 (ftEvV v x y (ftSb q.2.2 q.1) rb c))
noncomputable def ftEvO (v : Nat → Int32) (tl gl : Int32) (x y : Nat) (rb en : Int32) (q : ftRs) : Option (Nat × Nat) := @ite _ (ftEvK rb en = 1 ∧ ftAbs (v (x - 1) - v y) ≤ gl) (Classical.propDecidable _) (ftMkOut (ftRoM (upd (q.2.2 0) q.1 (nI x)) (upd (q.2.2 4) q.1 (ftEvK rb en))) tl q.1 q.1) none
theorem ftEvO_f {v : Nat → Int32} {tl gl : Int32} {x y : Nat} {rb en : Int32} {q : ftRs} (h : ¬ (ftEvK rb en = 1 ∧ ftAbs (v (x - 1) - v y) ≤ gl)) : ftEvO v tl gl x y rb en q = none := if_neg h
theorem ftEvO_t {v : Nat → Int32} {tl gl : Int32} {x y : Nat} {rb en : Int32} {q : ftRs} (h : ftEvK rb en = 1) (h2 : ftAbs (v (x - 1) - v y) ≤ gl) : ftEvO v tl gl x y rb en q = ftMkOut (ftRoM (upd (q.2.2 0) q.1 (nI x)) (upd (q.2.2 4) q.1 1)) tl q.1 q.1 := (if_pos ⟨h, h2⟩).trans (by rw [h])
section FTEV
variable {v : Nat → Int32} {O : Option (Nat × Nat)} {x y n : Nat} {rb en : Int32} {ro : Nat → Nat → Int32}
theorem ftEvS_0 : (ftEvS v O x y rb en (n, 0, ro)).2.2 0 = upd (ro 0) n (nI x) := rfl
theorem ftEvS_1 : (ftEvS v O x y rb en (n, 0, ro)).2.2 1 = upd (ro 1) n (nI y) := rfl
theorem ftEvS_2 : (ftEvS v O x y rb en (n, 0, ro)).2.2 2 = upd (ro 2) n (v (x - 1) - v y) := rfl
theorem ftEvS_3 : (ftEvS v O x y rb en (n, 0, ro)).2.2 3 = upd (ro 3) n (if rb = 0 then 0 else ftGr v x (y - x) - v (x - 1)) := rfl
theorem ftEvS_4n : (ftEvS v none x y rb en (n, 0, ro)).2.2 4 = upd (ro 4) n (ftEvK rb en) := rfl
theorem ftEvS_4s {i j : Nat} : (ftEvS v (some (i, j)) x y rb en (n, 0, ro)).2.2 4 = upd (ro 4) n 2 := rfl
theorem ftEvS_5 : (ftEvS v O x y rb en (n, 0, ro)).2.2 5 = upd (ro 5) n (v (ftSb ro n) - v (x - 1)) := rfl
theorem ftEvS_6 : (ftEvS v O x y rb en (n, 0, ro)).2.2 6 = ftMk1 O (ro 6) n := rfl
theorem ftEvS_7 : (ftEvS v O x y rb en (n, 0, ro)).2.2 7 = ftMk2 O (ro 7) n := rfl
theorem ftEvK_1 : ftEvK rb 1 = 3 := if_neg (by decide)
theorem ftEvK_0t (h : rb = 0) : ftEvK rb 0 = 0 := (if_pos rfl).trans (if_pos h)
theorem ftEvK_0f (h : ¬ rb = 0) : ftEvK rb 0 = 1 := (if_pos rfl).trans (if_neg h)
end FTEV
theorem ftGr_s (v : Nat → Int32) (x d : Nat) (h : 0 < d) : ftGr v x d = ftMax (ftGr v x (d - 1)) (v (x + d)) := by
  obtain ⟨k, rfl⟩ : ∃ k, d = k + 1 := ⟨d - 1, by omega⟩
  rfl
theorem ftGr_t {v : Nat → Int32} {x d : Nat} (h : ¬ v (x + d) ≤ ftGr v x (d - 1)) : v (x + d) = ftGr v x d := by
  rcases Nat.eq_zero_or_pos d with q | q
  · subst q; rfl
  · rw [ftGr_s v x d q, ftMax, if_pos (Int32.not_le.mp h)]
theorem ftGr_f {v : Nat → Int32} {x d : Nat} (h : v (x + d) ≤ ftGr v x (d - 1)) : ftGr v x (d - 1) = ftGr v x d := by
  rcases Nat.eq_zero_or_pos d with q | q
  · subst q; rfl
  · rw [ftGr_s v x d q, ftMax, if_neg (Int32.not_lt.mpr h)]
end
section
/-! the reference: reading -/
noncomputable def ftEvQ (v : Nat → Int32) (tl gl : Int32) (x y : Nat) (rb en : Int32) (q : ftRs) : ftRs := ftEvS v (ftEvO v tl gl x y rb en q) x y rb en q
theorem ftEvQ_1 (v : Nat → Int32) (tl gl : Int32) (x y : Nat) (rb en : Int32) (q : ftRs) : (ftEvQ v tl gl x y rb en q).1 = q.1 + 1 := rfl
noncomputable def ftRdM (v : Nat → Int32) (N w : Nat) (ri st fl tl gl : Int32) : Nat → Nat → ftRs → ftRs
  | 0, _, q => q
  | f + 1, x, q => if x < N ∧ q.1 < 30 ∧ q.2.1 = 0 then
      (if ri ≤ v x - v (x - 1) then ftRdM v N w ri st fl tl gl f (ftEnd v st (N - 1) (x + w - 1) + 1) (ftEvQ v tl gl x (ftEnd v st (N - 1) (x + w - 1)) 1 (if v (ftEnd v st (N - 1) (x + w - 1)) < fl then 1 else 0) q)
       else if st < -(v x - v (x - 1)) then ftRdM v N w ri st fl tl gl f (ftEnd v st (N - 1) x + 1) (ftEvQ v tl gl x (ftEnd v st (N - 1) x) 0 (if v (ftEnd v st (N - 1) x) < fl then 1 else 0) q)
       else ftRdM v N w ri st fl tl gl f (x + 1) q) else q
theorem ftRdM_fuel {v : Nat → Int32} {N w : Nat} {ri st fl tl gl : Int32} (hw : 1 ≤ w) : ∀ (f g x : Nat) (q : ftRs), N - x < f → N - x < g → ftRdM v N w ri st fl tl gl f x q = ftRdM v N w ri st fl tl gl g x q := by
  intro f
  induction f with
  | zero => intro g x q h; omega
  | succ f ih =>
    intro g x q hf hg
    obtain ⟨g, rfl⟩ : ∃ k, g = k + 1 := ⟨g - 1, by omega⟩
    unfold ftRdM
    by_cases c : x < N ∧ q.1 < 30 ∧ q.2.1 = 0
    · rw [if_pos c, if_pos c]
      have e1 := ftEnd_geX (v := v) (st := st) (L := N - 1) (x := x) (y := x + w - 1) (by omega) (by omega)
      have e2 := ftEnd_geX (v := v) (st := st) (L := N - 1) (x := x) (y := x) (by omega) (by omega)
      by_cases d : ri ≤ v x - v (x - 1)
      · rw [if_pos d, if_pos d]; exact ih g _ _ (by omega) (by omega)
      · rw [if_neg d, if_neg d]
        by_cases k : st < -(v x - v (x - 1))
        · rw [if_pos k, if_pos k]; exact ih g _ _ (by omega) (by omega)
        · rw [if_neg k, if_neg k]; exact ih g _ _ (by omega) (by omega)
    · rw [if_neg c, if_neg c]
theorem ftRdM_r {v : Nat → Int32} {N w x : Nat} {ri st fl tl gl : Int32} {q : ftRs} {en : Int32} (hw : 1 ≤ w) (hx : x < N) (h30 : q.1 < 30) (h0 : q.2.1 = 0) (hr : ri ≤ v x - v (x - 1)) (hen : en = if v (ftEnd v st (N - 1) (x + w - 1)) < fl then 1 else 0) :
    ftRdM v N w ri st fl tl gl (N - x + 1) x q = ftRdM v N w ri st fl tl gl (N - (ftEnd v st (N - 1) (x + w - 1) + 1) + 1) (ftEnd v st (N - 1) (x + w - 1) + 1) (ftEvQ v tl gl x (ftEnd v st (N - 1) (x + w - 1)) 1 en q) := by
  have e1 := ftEnd_geX (v := v) (st := st) (L := N - 1) (x := x) (y := x + w - 1) (by omega) (by omega)
  rw [ftRdM, if_pos ⟨hx, h30, h0⟩, if_pos hr, hen]
  exact ftRdM_fuel hw _ _ _ _ (by omega) (by omega)
theorem ftRdM_p {v : Nat → Int32} {N w x : Nat} {ri st fl tl gl : Int32} {q : ftRs} {en : Int32} (hw : 1 ≤ w) (hx : x < N) (h30 : q.1 < 30) (h0 : q.2.1 = 0) (hr : ¬ ri ≤ v x - v (x - 1)) (hp : st < -(v x - v (x - 1))) (hen : en = if v (ftEnd v st (N - 1) x) < fl then 1 else 0) :
    ftRdM v N w ri st fl tl gl (N - x + 1) x q = ftRdM v N w ri st fl tl gl (N - (ftEnd v st (N - 1) x + 1) + 1) (ftEnd v st (N - 1) x + 1) (ftEvQ v tl gl x (ftEnd v st (N - 1) x) 0 en q) := by
  have e1 := ftEnd_geX (v := v) (st := st) (L := N - 1) (x := x) (y := x) (by omega) (by omega)
  rw [ftRdM, if_pos ⟨hx, h30, h0⟩, if_neg hr, if_pos hp, hen]
  exact ftRdM_fuel hw _ _ _ _ (by omega) (by omega)
theorem ftRdM_s {v : Nat → Int32} {N w x : Nat} {ri st fl tl gl : Int32} {q : ftRs} (hw : 1 ≤ w) (hx : x < N) (h30 : q.1 < 30) (h0 : q.2.1 = 0) (hr : ¬ ri ≤ v x - v (x - 1)) (hp : ¬ st < -(v x - v (x - 1))) :
    ftRdM v N w ri st fl tl gl (N - x + 1) x q = ftRdM v N w ri st fl tl gl (N - (x + 1) + 1) (x + 1) q := by
  rw [ftRdM, if_pos ⟨hx, h30, h0⟩, if_neg hr, if_neg hp]
  exact ftRdM_fuel hw _ _ _ _ (by omega) (by omega)
theorem ftRdM_e {v : Nat → Int32} {N w x f : Nat} {ri st fl tl gl : Int32} {q : ftRs} (h : ¬ (x < N ∧ q.1 < 30 ∧ q.2.1 = 0)) : ftRdM v N w ri st fl tl gl (f + 1) x q = q := by
  rw [ftRdM, if_neg h]
noncomputable def ftRm (v : Nat → Int32) (N w : Nat) (ri st fl tl gl : Int32) (ro : Nat → Nat → Int32) : ftRs := ftRdM v N w ri st fl tl gl (N - 1 + 1) 1 (0, 0, ro)
theorem ftRdM_r9 {v : Nat → Int32} {N w x y : Nat} {ri st fl tl gl : Int32} {q q9 : ftRs} {en : Int32} (hw : 1 ≤ w) (hx : x < N) (h30 : q.1 < 30) (h0 : q.2.1 = 0) (hr : ri ≤ v x - v (x - 1)) (hy : y = ftEnd v st (N - 1) (x + w - 1)) (hen : en = if v y < fl then 1 else 0) (hq : q9 = ftEvS v (ftEvO v tl gl x y 1 en (q.1, 0, q.2.2)) x y 1 en (q.1, 0, q.2.2)) :
    ftRdM v N w ri st fl tl gl (N - x + 1) x q = ftRdM v N w ri st fl tl gl (N - (y + 1) + 1) (y + 1) q9 := by
  subst hy
  rw [hq]
  exact ftRdM_r hw hx h30 h0 hr hen
theorem ftRdM_p9 {v : Nat → Int32} {N w x y : Nat} {ri st fl tl gl : Int32} {q q9 : ftRs} {en : Int32} (hw : 1 ≤ w) (hx : x < N) (h30 : q.1 < 30) (h0 : q.2.1 = 0) (hr : ¬ ri ≤ v x - v (x - 1)) (hp : st < -(v x - v (x - 1))) (hy : y = ftEnd v st (N - 1) x) (hen : en = if v y < fl then 1 else 0) (hq : q9 = ftEvS v (ftEvO v tl gl x y 0 en (q.1, 0, q.2.2)) x y 0 en (q.1, 0, q.2.2)) :
    ftRdM v N w ri st fl tl gl (N - x + 1) x q = ftRdM v N w ri st fl tl gl (N - (y + 1) + 1) (y + 1) q9 := by
  subst hy
  rw [hq]
  exact ftRdM_p hw hx h30 h0 hr hp hen
end
section
/-! the reference: words, numbers -/
def ftWs (j : Nat) : Nat := if j = 0 ∨ j = 3 ∨ j = 5 then 6 else if j = 1 then 11 else if j = 2 then 3 else 9
def ftLt (x : Int32) : Int32 := if x = 0 then 108 else if x = 1 then 101 else if x = 2 then 110 else if x = 3 then 103 else if x = 4 then 116 else if x = 5 then 104 else if x = 100 then 97 else if x = 101 then 116 else if x = 102 then 116 else if x = 103 then 101 else if x = 104 then 110 else if x = 105 then 117 else if x = 106 then 97 else if x = 107 then 116 else if x = 108 then 105 else if x = 109 then 111 else if x = 110 then 110 else if x = 200 then 101 else if x = 201 then 110 else if x = 202 then 100 else if x = 300 then 115 else if x = 301 then 112 else if x = 302 then 108 else if x = 303 then 105 else if x = 304 then 99 else if x = 305 then 101 else if x = 400 then 99 else if x = 401 then 111 else if x = 402 then 110 else if x = 403 then 110 else if x = 404 then 101 else if x = 405 then 99 else if x = 406 then 116 else if x = 407 then 111 else if x = 500 then 99 else if x = 501 then 104 else if x = 502 then 97 else if x = 503 then 110 else if x = 504 then 103 else if x = 505 then 101 else 114
/-- how many of the first K have P, from 0 on without a gap -/
noncomputable def ftIni (P : Nat → Prop) : Nat → Nat
  | 0 => 0
  | k + 1 => @ite _ (ftIni P k = k ∧ P k) (Classical.propDecidable _) (k + 1) (ftIni P k)
theorem ftIni_t {P : Nat → Prop} {k : Nat} (h : ftIni P k = k) (h2 : P k) : ftIni P (k + 1) = k + 1 := if_pos ⟨h, h2⟩
theorem ftIni_f {P : Nat → Prop} {k : Nat} (h : ¬ (ftIni P k = k ∧ P k)) : ftIni P (k + 1) = ftIni P k := if_neg h
theorem ftIni_le (P : Nat → Prop) (k : Nat) : ftIni P k ≤ k := by
  induction k with
  | zero => exact Nat.le_refl 0
  | succ k ih =>
    rcases Classical.em (ftIni P k = k ∧ P k) with q | q
    · rw [ftIni_t q.1 q.2]; exact Nat.le_refl _
    · rw [ftIni_f q]; omega
theorem ftIni_all {P : Nat → Prop} {K : Nat} (h : ∀ t, t < K → P t) : ftIni P K = K := by
  induction K with
  | zero => rfl
  | succ K ih => exact ftIni_t (ih (fun t ht => h t (by omega))) (h K (by omega))
theorem ftIni_of {P : Nat → Prop} {j K : Nat} (hj : j ≤ K) (h : ∀ t, t < j → P t) (hs : j < K → ¬ P j) : ftIni P K = j := by
  induction K with
  | zero => obtain rfl : j = 0 := by omega
            rfl
  | succ K ih =>
    by_cases q : j = K + 1
    · subst q; exact ftIni_all h
    · have e := ih (by omega) (fun r => hs (by omega))
      rw [ftIni_f, e]
      rw [e]
      rintro ⟨r1, r2⟩
      subst r1
      exact hs (by omega) r2
theorem ftIni_yes (P : Nat → Prop) (K : Nat) : ∀ t, t < ftIni P K → P t := by
  induction K with
  | zero => intro t h; exact absurd h (Nat.not_lt_zero t)
  | succ K ih =>
    intro t h
    rcases Classical.em (ftIni P K = K ∧ P K) with q | q
    · rw [ftIni_t q.1 q.2] at h
      by_cases r : t = K
      · subst r; exact q.2
      · exact ih t (by omega)
    · rw [ftIni_f q] at h; exact ih t h
theorem ftIni_no (P : Nat → Prop) (K : Nat) (h : ftIni P K < K) : ¬ P (ftIni P K) := by
  induction K with
  | zero => exact absurd h (Nat.not_lt_zero _)
  | succ K ih =>
    rcases Classical.em (ftIni P K = K ∧ P K) with q | q
    · rw [ftIni_t q.1 q.2] at h; exact absurd h (Nat.lt_irrefl _)
    · rw [ftIni_f q] at h ⊢
      rcases Nat.lt_or_ge (ftIni P K) K with r | r
      · exact ih r
      · have e : ftIni P K = K := Nat.le_antisymm (ftIni_le P K) r
        intro p
        rw [e] at p
        exact q ⟨e, p⟩
/-- the run of small letters at p -/
noncomputable def ftRun (tx : Nat → Int32) (tn p : Nat) : Nat := ftIni (fun t => p + t < tn ∧ 97 ≤ tx (p + t) ∧ tx (p + t) ≤ 122) 120
def ftWP (tx : Nat → Int32) (p d j k : Nat) : Prop := d = ftWs j ∧ ∀ t, t < k → tx (p + t) = ftLt (nI (100 * j + t))
noncomputable def ftWd (tx : Nat → Int32) (p d : Nat) : Nat → Int32
  | 0 => -1
  | j + 1 => @ite _ (ftWP tx p d j (ftWs j)) (Classical.propDecidable _) (nI j) (ftWd tx p d j)
theorem ftWd_t {tx : Nat → Int32} {p d j : Nat} (h : ftWP tx p d j (ftWs j)) : ftWd tx p d (j + 1) = nI j := if_pos h
theorem ftWd_f {tx : Nat → Int32} {p d j : Nat} (h : ¬ ftWP tx p d j (ftWs j)) : ftWd tx p d (j + 1) = ftWd tx p d j := if_neg h
theorem ftWP_mono {tx : Nat → Int32} {p d j k m : Nat} (hk : k ≤ m) (h : ftWP tx p d j m) : ftWP tx p d j k := ⟨h.1, fun t ht => h.2 t (by omega)⟩
theorem ftWP_s {tx : Nat → Int32} {p d j k : Nat} (h : ftWP tx p d j k) (e : tx (p + k) = ftLt (nI (100 * j + k))) : ftWP tx p d j (k + 1) := ⟨h.1, fun t ht => by
  rcases Nat.lt_succ_iff_lt_or_eq.mp ht with r | r
  · exact h.2 t r
  · subst r; exact e⟩
theorem ftWs_le (j : Nat) : ftWs j ≤ 11 := by unfold ftWs; (repeat' split) <;> omega
/-- a number at p: whether a blank stands there, whether a minus, where its digits begin, how many, their value -/
def ftSp (tx : Nat → Int32) (tn p : Nat) : Prop := p < tn ∧ tx p = 32
def ftNg (tx : Nat → Int32) (tn p : Nat) : Prop := p + 1 < tn ∧ tx (p + 1) = 45
noncomputable def ftNq (tx : Nat → Int32) (tn p : Nat) : Nat := @ite _ (ftNg tx tn p) (Classical.propDecidable _) (p + 2) (p + 1)
theorem ftNq_t {tx : Nat → Int32} {tn p : Nat} (h : ftNg tx tn p) : ftNq tx tn p = p + 2 := if_pos h
theorem ftNq_f {tx : Nat → Int32} {tn p : Nat} (h : ¬ ftNg tx tn p) : ftNq tx tn p = p + 1 := if_neg h
def ftDp (tx : Nat → Int32) (tn q : Nat) : Nat → Prop := fun t => q + t < tn ∧ 48 ≤ tx (q + t) ∧ tx (q + t) ≤ 57
noncomputable def ftNd (tx : Nat → Int32) (tn q : Nat) : Nat := ftIni (ftDp tx tn q) 5
def ftDg (tx : Nat → Int32) (q : Nat) : Nat → Int32
  | 0 => 0
  | k + 1 => 10 * ftDg tx q k + tx (q + k) - 48
noncomputable def ftNv (tx : Nat → Int32) (tn p : Nat) : Int32 := @ite _ (ftNg tx tn p) (Classical.propDecidable _) ((-1) * ftDg tx (ftNq tx tn p) (ftNd tx tn (ftNq tx tn p))) (1 * ftDg tx (ftNq tx tn p) (ftNd tx tn (ftNq tx tn p)))
theorem ftNv_t {tx : Nat → Int32} {tn p : Nat} (h : ftNg tx tn p) : ftNv tx tn p = (-1) * ftDg tx (ftNq tx tn p) (ftNd tx tn (ftNq tx tn p)) := if_pos h
theorem ftNv_f {tx : Nat → Int32} {tn p : Nat} (h : ¬ ftNg tx tn p) : ftNv tx tn p = 1 * ftDg tx (ftNq tx tn p) (ftNd tx tn (ftNq tx tn p)) := if_neg h
noncomputable def ftNe (tx : Nat → Int32) (tn p : Nat) : Nat := @ite _ (ftSp tx tn p) (Classical.propDecidable _) (ftNq tx tn p + ftNd tx tn (ftNq tx tn p)) p
theorem ftNe_t {tx : Nat → Int32} {tn p : Nat} (h : ftSp tx tn p) : ftNe tx tn p = ftNq tx tn p + ftNd tx tn (ftNq tx tn p) := if_pos h
theorem ftNe_f {tx : Nat → Int32} {tn p : Nat} (h : ¬ ftSp tx tn p) : ftNe tx tn p = p := if_neg h
noncomputable def ftNf (tx : Nat → Int32) (tn p i : Nat) (fg : Nat → Int32) : Nat → Int32 := @ite _ (ftSp tx tn p) (Classical.propDecidable _) (upd fg i (ftNv tx tn p)) fg
theorem ftNf_t {tx : Nat → Int32} {tn p i : Nat} {fg : Nat → Int32} (h : ftSp tx tn p) : ftNf tx tn p i fg = upd fg i (ftNv tx tn p) := if_pos h
theorem ftNf_f {tx : Nat → Int32} {tn p i : Nat} {fg : Nat → Int32} (h : ¬ ftSp tx tn p) : ftNf tx tn p i fg = fg := if_neg h
def ftNok (tx : Nat → Int32) (tn p : Nat) : Prop := ftSp tx tn p ∧ 0 < ftNd tx tn (ftNq tx tn p)
theorem ftNq_le {tx : Nat → Int32} {tn p : Nat} (h : p < tn) : ftNq tx tn p ≤ tn := by
  rcases Classical.em (ftNg tx tn p) with q | q
  · rw [ftNq_t q]; have := q.1; omega
  · rw [ftNq_f q]; omega
theorem ftNd_le {tx : Nat → Int32} {tn q : Nat} (h : q ≤ tn) : q + ftNd tx tn q ≤ tn := by
  rcases Nat.eq_zero_or_pos (ftNd tx tn q) with e | e
  · omega
  · have := (ftIni_yes (ftDp tx tn q) 5 (ftNd tx tn q - 1) (by unfold ftNd at e ⊢; omega)).1
    omega
theorem ftNe_le {tx : Nat → Int32} {tn p : Nat} (h : p ≤ tn) : ftNe tx tn p ≤ tn := by
  rcases Classical.em (ftSp tx tn p) with q | q
  · rw [ftNe_t q]; exact ftNd_le (ftNq_le q.1)
  · rw [ftNe_f q]; exact h
def ftNs (x : Int32) : Nat := if x < 3 then 1 else if x = 4 then 3 else 2
theorem ftNs_le (x : Int32) : ftNs x ≤ 3 := by unfold ftNs; (repeat' split) <;> omega
theorem ftNs_ge (x : Int32) : 1 ≤ ftNs x := by unfold ftNs; (repeat' split) <;> omega
def ftRt (wd : Int32) (i : Nat) (v ln : Int32) : Prop := if wd = 0 then 50 ≤ v ∧ v ≤ 400 else if wd = 1 then 0 ≤ v ∧ v ≤ 50 else if wd = 2 then 0 ≤ v ∧ v ≤ 20000 else if i = 0 then 1 ≤ v ∧ v ≤ ln - 1 else if i = 2 then 1 ≤ v ∧ v ≤ 20000 else if wd = 3 then -500 ≤ v ∧ v ≤ 5000 else if wd = 4 then 0 ≤ v ∧ v ≤ 5000 else 0 ≤ v ∧ v ≤ 50
end
section
/-! the reference: items, faults -/
theorem ft_shr1 : ∀ h, h < 64 → ∀ j, j < 6 → nI h >>> (nI j &&& 31) = nI (h / 2 ^ j) := by decide +kernel
theorem ft_and1 : ∀ h, h < 64 → nI h &&& 1 = nI (h % 2) := by decide +kernel
theorem ft_or1 : ∀ h, h < 64 → ∀ j, j < 6 → nI h ||| (1 <<< (nI j &&& 31)) = nI (h ||| 2 ^ j) := by decide +kernel
theorem ft_or64 : ∀ h, h < 64 → ∀ j, j < 6 → h ||| 2 ^ j < 64 := by decide +kernel
theorem ftWd_c (tx : Nat → Int32) (p d : Nat) (m : Nat) : ftWd tx p d m = -1 ∨ ∃ j, j < m ∧ ftWd tx p d m = nI j ∧ ftWP tx p d j (ftWs j) := by
  induction m with
  | zero => exact Or.inl rfl
  | succ m ih =>
    rcases Classical.em (ftWP tx p d m (ftWs m)) with q | q
    · exact Or.inr ⟨m, by omega, ftWd_t q, q⟩
    · rw [ftWd_f q]
      rcases ih with h | ⟨j, h1, h2⟩
      · exact Or.inl h
      · exact Or.inr ⟨j, by omega, h2⟩
/-- the word at p, where i numbers behind it end, their values, the row that they lie in -/
noncomputable def ftIw (tx : Nat → Int32) (tn p : Nat) : Int32 := ftWd tx p (ftRun tx tn p) 6
noncomputable def ftNP (tx : Nat → Int32) (tn q : Nat) : Nat → Nat
  | 0 => q
  | i + 1 => ftNe tx tn (ftNP tx tn q i)
noncomputable def ftIp (tx : Nat → Int32) (tn p i : Nat) : Nat := ftNP tx tn (p + ftRun tx tn p) i
noncomputable def ftIv (tx : Nat → Int32) (tn p i : Nat) : Int32 := ftNv tx tn (ftIp tx tn p i)
noncomputable def ftIf (tx : Nat → Int32) (tn p : Nat) (fg : Nat → Int32) : Nat → (Nat → Int32)
  | 0 => fg
  | i + 1 => ftNf tx tn (ftIp tx tn p i) i (ftIf tx tn p fg i)
theorem ftRun_le {tx : Nat → Int32} {tn p : Nat} (h : p ≤ tn) : p + ftRun tx tn p ≤ tn := by
  rcases Nat.eq_zero_or_pos (ftRun tx tn p) with e | e
  · omega
  · have := (ftIni_yes (fun t => p + t < tn ∧ 97 ≤ tx (p + t) ∧ tx (p + t) ≤ 122) 120 (ftRun tx tn p - 1) (by unfold ftRun at e ⊢; omega)).1
    omega
theorem ftIp_le {tx : Nat → Int32} {tn p : Nat} (h : p ≤ tn) (i : Nat) : ftIp tx tn p i ≤ tn := by
  induction i with
  | zero => exact ftRun_le h
  | succ i ih => exact ftNe_le ih
theorem ftIf_at {tx : Nat → Int32} {tn p : Nat} {fg : Nat → Int32} : ∀ m, (∀ t, t < m → ftNok tx tn (ftIp tx tn p t)) → ∀ i, i < m → ftIf tx tn p fg m i = ftIv tx tn p i := by
  intro m
  induction m with
  | zero => intro _ i h; exact absurd h (Nat.not_lt_zero i)
  | succ m ih =>
    intro h i hi
    have e := ftNf_t (fg := ftIf tx tn p fg m) (i := m) (h m (by omega)).1
    show ftNf tx tn (ftIp tx tn p m) m (ftIf tx tn p fg m) i = _
    rw [e]
    by_cases q : i = m
    · subst q; exact if_pos rfl
    · rw [ftUpd_ne q]; exact ih (fun t ht => h t (by omega)) i (by omega)
/-- whether the word is allowed there -/
def ftAl (wd : Int32) (md : Nat → Int32) (h : Nat) (x : Int32) : Prop := (wd < 3 → ¬ h / 2 ^ wd.toNatClampNeg % 2 = 1 ∧ md 3 ≤ 0) ∧ (¬ wd < 3 → (¬ ∃ t, t < (md 3).toNatClampNeg ∧ md (4 + 4 * t + 1) = x) ∧ ¬ md 3 = 10)
def ftItOk (tx : Nat → Int32) (tn : Nat) (md : Nat → Int32) (h p : Nat) : Prop := ¬ ftIw tx tn p < 0 ∧ (∀ i, i < ftNs (ftIw tx tn p) → ftNok tx tn (ftIp tx tn p i)) ∧ (∀ i, i < ftNs (ftIw tx tn p) → ftRt (ftIw tx tn p) i (ftIv tx tn p i) (md 0)) ∧ ftAl (ftIw tx tn p) md h (ftIv tx tn p 0) ∧ ftIp tx tn p (ftNs (ftIw tx tn p)) < tn ∧ tx (ftIp tx tn p (ftNs (ftIw tx tn p))) = 59
noncomputable def ftItP (tx : Nat → Int32) (tn p : Nat) : Nat := ftIp tx tn p (ftNs (ftIw tx tn p)) + 1
noncomputable def ftItM (tx : Nat → Int32) (tn : Nat) (md : Nat → Int32) (p : Nat) : Nat → Int32 := if ftIw tx tn p < 3 then upd md (ftIw tx tn p).toNatClampNeg (ftIv tx tn p 0) else ftAdd md (md 3).toNatClampNeg (ftIw tx tn p - 3) (ftIv tx tn p 0) (ftIv tx tn p 1) (if ftIw tx tn p = 4 then ftIv tx tn p 2 else 0)
noncomputable def ftItH (tx : Nat → Int32) (tn h p : Nat) : Nat := h ||| 2 ^ (ftIw tx tn p).toNatClampNeg
theorem ftNs_1 {wd : Int32} (h : wd < 3) : ftNs wd = 1 := if_pos h
theorem ftNs_3 {wd : Int32} (h : wd = 4) : ftNs wd = 3 := by subst h; rfl
theorem ftNs_2 {wd : Int32} (h : ¬ wd < 3) : 2 ≤ ftNs wd := by unfold ftNs; rw [if_neg h]; split <;> omega
/-- the items from p on: none, if one is not possible; else the row that they make -/
noncomputable def ftPar (tx : Nat → Int32) (tn : Nat) : Nat → Nat → Nat → (Nat → Int32) → Option (Nat → Int32)
  | 0, _, _, md => some md
  | f + 1, p, h, md => if p < tn then @ite _ (ftItOk tx tn md h p) (Classical.propDecidable _) (ftPar tx tn f (ftItP tx tn p) (ftItH tx tn h p) (ftItM tx tn md p)) none else some md
theorem ftItP_gt {tx : Nat → Int32} {tn p : Nat} : p < ftItP tx tn p := by
  have h : ∀ i, p ≤ ftIp tx tn p i := by
    intro i
    induction i with
    | zero => exact Nat.le_add_right _ _
    | succ i ih =>
      refine Nat.le_trans ih ?_
      show _ ≤ ftNe tx tn (ftIp tx tn p i)
      rcases Classical.em (ftSp tx tn (ftIp tx tn p i)) with q | q
      · rw [ftNe_t q]
        rcases Classical.em (ftNg tx tn (ftIp tx tn p i)) with r | r
        · rw [ftNq_t r]; omega
        · rw [ftNq_f r]; omega
      · rw [ftNe_f q]; exact Nat.le_refl _
  have := h (ftNs (ftIw tx tn p))
  unfold ftItP
  omega
theorem ftPar_fuel {tx : Nat → Int32} {tn : Nat} : ∀ (f g p h : Nat) (md : Nat → Int32), tn - p < f → tn - p < g → ftPar tx tn f p h md = ftPar tx tn g p h md := by
  intro f
  induction f with
  | zero => intro g p h md q; omega
  | succ f ih =>
    intro g p h md hf hg
    obtain ⟨g, rfl⟩ : ∃ k, g = k + 1 := ⟨g - 1, by omega⟩
    unfold ftPar
    by_cases c : p < tn
    · rw [if_pos c, if_pos c]
      have e := ftItP_gt (tx := tx) (tn := tn) (p := p)
      rw [ih g _ _ _ (by omega) (by omega)]
    · rw [if_neg c, if_neg c]
theorem ftPar_t {tx : Nat → Int32} {tn p h : Nat} {md : Nat → Int32} (hp : p < tn) (hk : ftItOk tx tn md h p) : ftPar tx tn (tn - p + 1) p h md = ftPar tx tn (tn - ftItP tx tn p + 1) (ftItP tx tn p) (ftItH tx tn h p) (ftItM tx tn md p) := by
  have e := ftItP_gt (tx := tx) (tn := tn) (p := p)
  rw [ftPar, if_pos hp, show @ite _ (ftItOk tx tn md h p) (Classical.propDecidable _) (ftPar tx tn (tn - p) (ftItP tx tn p) (ftItH tx tn h p) (ftItM tx tn md p)) none = ftPar tx tn (tn - p) (ftItP tx tn p) (ftItH tx tn h p) (ftItM tx tn md p) from if_pos hk]
  exact ftPar_fuel _ _ _ _ _ (by omega) (by omega)
theorem ftPar_f {tx : Nat → Int32} {tn p h : Nat} {md : Nat → Int32} (hp : p < tn) (hk : ¬ ftItOk tx tn md h p) : ftPar tx tn (tn - p + 1) p h md = none := by
  rw [ftPar, if_pos hp]
  exact if_neg hk
theorem ftPar_e {tx : Nat → Int32} {tn p h f : Nat} {md : Nat → Int32} (hp : ¬ p < tn) : ftPar tx tn (f + 1) p h md = some md := if_neg hp
def ftMd0 (md : Nat → Int32) : Nat → Int32 := upd (upd (upd (upd md 0 200) 1 10) 2 12000) 3 0
noncomputable def ftPars (tx : Nat → Int32) (tn : Nat) (md : Nat → Int32) : Option (Nat → Int32) := ftPar tx tn (tn - 0 + 1) 0 0 (ftMd0 md)
/-- the row of a link that is being made has at most ten parts -/
def ftMok (md : Nat → Int32) : Prop := ∃ n, n ≤ 10 ∧ md 3 = nI n
theorem ftAdd_3 (w : Nat → Int32) (n : Nat) (kd x lo re : Int32) : ftAdd w n kd x lo re 3 = nI (n + 1) := by unfold ftAdd upd; exact if_pos rfl
theorem ftItM_ok {tx : Nat → Int32} {tn : Nat} {md : Nat → Int32} {h p : Nat} (hm : ftMok md) (hk : ftItOk tx tn md h p) : ftMok (ftItM tx tn md p) := by
  obtain ⟨n, hn, e⟩ := hm
  obtain ⟨h1, -, -, h4, -⟩ := hk
  unfold ftItM
  rcases Classical.em (ftIw tx tn p < 3) with q | q
  · rw [if_pos q]
    have h3 : (ftIw tx tn p).toNatClampNeg < 3 := by
      obtain ⟨j, hj, hj2⟩ := nI_of h1
      rw [hj2, nI_clamp hj]
      rw [hj2] at q
      exact ft_ltN hj (by omega) q
    exact ⟨n, hn, by rw [ftUpd_ne (by omega)]; exact e⟩
  · rw [if_neg q]
    have h5 : n ≠ 10 := fun r => (h4.2 q).2 (by rw [e, r]; rfl)
    exact ⟨n + 1, by omega, by rw [ftAdd_3, e, nI_clamp (by omega)]⟩
end
section
/-! the middle: a row that is well formed, what is read off it -/
theorem ftI_nat {x : Int32} (h : 0 ≤ x) : x = nI x.toNatClampNeg ∧ x.toNatClampNeg < 2 ^ 31 := by
  obtain ⟨j, hj, rfl⟩ := nI_of (Int32.not_lt.mpr h)
  rw [nI_clamp hj]
  exact ⟨rfl, hj⟩
theorem ftI_le {x : Int32} {N : Nat} (h : 0 ≤ x) (h1 : x ≤ nI N) (hN : N < 2 ^ 31) : x.toNatClampNeg ≤ N := by
  obtain ⟨e, hl⟩ := ftI_nat h
  rw [e] at h1
  exact ft_leN hl hN h1
theorem ftI_lt {x : Int32} {N : Nat} (h : 0 ≤ x) (h1 : x < nI N) (hN : N < 2 ^ 31) : x.toNatClampNeg < N := by
  obtain ⟨e, hl⟩ := ftI_nat h
  rw [e] at h1
  exact ft_ltN hl hN h1
theorem ftI_ge {x : Int32} {N : Nat} (h : 0 ≤ x) (h1 : nI N ≤ x) (hN : N < 2 ^ 31) : N ≤ x.toNatClampNeg := by
  obtain ⟨e, hl⟩ := ftI_nat h
  rw [e] at h1
  exact ft_leN hN hl h1
theorem ftI_ge0 {x : Int32} {N : Nat} (h1 : nI N ≤ x) (hN : N < 2 ^ 31) : 0 ≤ x := Int32.le_trans (nI_pos' hN) h1
def ftCN (w : Nat → Int32) : Nat := (w 3).toNatClampNeg
def ftCL (w : Nat → Int32) : Nat := (w 0).toNatClampNeg
def ftCW (w : Nat → Int32) : Nat := (w (44 + 0)).toNatClampNeg
def ftCD (w : Nat → Int32) : Nat := (w (44 + 1)).toNatClampNeg
def ftCP (w : Nat → Int32) : Nat := (w (44 + 4)).toNatClampNeg
def ftCK (w : Nat → Int32) : Nat := (w 55).toNatClampNeg
def ftPartOk (w : Nat → Int32) (k : Nat) : Prop := (w (4 + 4 * k + 0) = 0 ∧ -500 ≤ w (4 + 4 * k + 2) ∧ w (4 + 4 * k + 2) ≤ 5000 ∧ w (4 + 4 * k + 3) = 0) ∨ (w (4 + 4 * k + 0) = 1 ∧ 0 ≤ w (4 + 4 * k + 2) ∧ w (4 + 4 * k + 2) ≤ 5000 ∧ 1 ≤ w (4 + 4 * k + 3) ∧ w (4 + 4 * k + 3) ≤ 20000) ∨ (w (4 + 4 * k + 0) = 2 ∧ 0 ≤ w (4 + 4 * k + 2) ∧ w (4 + 4 * k + 2) ≤ 50 ∧ w (4 + 4 * k + 3) = 0)
/-- a link's row -/
def ftLf (w : Nat → Int32) : Prop := (0 ≤ w 3 ∧ w 3 ≤ 10) ∧ (50 ≤ w 0 ∧ w 0 ≤ 400) ∧ (0 ≤ w 1 ∧ w 1 ≤ 50) ∧ (0 ≤ w 2 ∧ w 2 ≤ 20000) ∧ (∀ k, k < ftCN w → ftPartOk w k ∧ 1 ≤ w (4 + 4 * k + 1) ∧ w (4 + 4 * k + 1) < w 0) ∧ (∀ a b, a < b → b < ftCN w → w (4 + 4 * a + 1) < w (4 + 4 * b + 1))
def ftWf (w : Nat → Int32) : Prop := ftLf w ∧ (∀ s, s < 11 → ftLeast (nI s) ≤ w (44 + s) ∧ w (44 + s) ≤ ftMost (nI s)) ∧ (0 ≤ w 55 ∧ w 55 ≤ 3) ∧ (∀ i, i < ftCK w → 110 ≤ w (56 + i) ∧ w (56 + i) ≤ 460)
section FTWF
variable {w : Nat → Int32}
theorem ftLf_3 (h : ftLf w) : w 3 = nI (ftCN w) := (ftI_nat h.1.1).1
theorem ftLf_n (h : ftLf w) : ftCN w ≤ 10 := ftI_le (N := 10) h.1.1 h.1.2 (by omega)
theorem ftLf_0 (h : ftLf w) : w 0 = nI (ftCL w) := (ftI_nat (ftI_ge0 (N := 50) h.2.1.1 (by omega))).1
theorem ftLf_ln (h : ftLf w) : ftCL w ≤ 400 := ftI_le (N := 400) (ftI_ge0 (N := 50) h.2.1.1 (by omega)) h.2.1.2 (by omega)
theorem ftLf_lg (h : ftLf w) : 50 ≤ ftCL w := ftI_ge (N := 50) (ftI_ge0 (N := 50) h.2.1.1 (by omega)) h.2.1.1 (by omega)
theorem ftWf_3 (h : ftWf w) : w 3 = nI (ftCN w) := ftLf_3 h.1
theorem ftWf_n (h : ftWf w) : ftCN w ≤ 10 := ftLf_n h.1
theorem ftWf_0 (h : ftWf w) : w 0 = nI (ftCL w) := ftLf_0 h.1
theorem ftWf_ln (h : ftWf w) : ftCL w ≤ 400 := ftLf_ln h.1
theorem ftWf_lg (h : ftWf w) : 50 ≤ ftCL w := ftLf_lg h.1
theorem ftWf_set (h : ftWf w) {s : Nat} (hs : s < 11) {a b : Int32} (ha : ftLeast (nI s) = a) (hb : ftMost (nI s) = b) : a ≤ w (44 + s) ∧ w (44 + s) ≤ b := by
  have q := h.2.1 s hs
  rw [ha, hb] at q
  exact q
theorem ftWf_b0 (h : ftWf w) : 1 ≤ w (44 + 0) ∧ w (44 + 0) ≤ 20 := ftWf_set h (by omega) (by decide) (by decide)
theorem ftWf_b1 (h : ftWf w) : 100 ≤ w (44 + 1) ∧ w (44 + 1) ≤ 5000 := ftWf_set h (by omega) (by decide) (by decide)
theorem ftWf_b2 (h : ftWf w) : 0 ≤ w (44 + 2) ∧ w (44 + 2) ≤ 40000 := ftWf_set h (by omega) (by decide) (by decide)
theorem ftWf_b3 (h : ftWf w) : 0 ≤ w (44 + 3) ∧ w (44 + 3) ≤ 400 := ftWf_set h (by omega) (by decide) (by decide)
theorem ftWf_b4 (h : ftWf w) : 1 ≤ w (44 + 4) ∧ w (44 + 4) ≤ 32 := ftWf_set h (by omega) (by decide) (by decide)
theorem ftWf_s0 (h : ftWf w) : w (44 + 0) = nI (ftCW w) := (ftI_nat (ftI_ge0 (N := 1) (ftWf_b0 h).1 (by omega))).1
theorem ftWf_wd (h : ftWf w) : ftCW w ≤ 20 := ftI_le (N := 20) (ftI_ge0 (N := 1) (ftWf_b0 h).1 (by omega)) (ftWf_b0 h).2 (by omega)
theorem ftWf_wd1 (h : ftWf w) : 1 ≤ ftCW w := ftI_ge (N := 1) (ftI_ge0 (N := 1) (ftWf_b0 h).1 (by omega)) (ftWf_b0 h).1 (by omega)
theorem ftWf_s1 (h : ftWf w) : w (44 + 1) = nI (ftCD w) := (ftI_nat (ftI_ge0 (N := 100) (ftWf_b1 h).1 (by omega))).1
theorem ftWf_d (h : ftWf w) : ftCD w ≤ 5000 := ftI_le (N := 5000) (ftI_ge0 (N := 100) (ftWf_b1 h).1 (by omega)) (ftWf_b1 h).2 (by omega)
theorem ftWf_s4 (h : ftWf w) : w (44 + 4) = nI (ftCP w) := (ftI_nat (ftI_ge0 (N := 1) (ftWf_b4 h).1 (by omega))).1
theorem ftWf_pu (h : ftWf w) : ftCP w ≤ 32 := ftI_le (N := 32) (ftI_ge0 (N := 1) (ftWf_b4 h).1 (by omega)) (ftWf_b4 h).2 (by omega)
theorem ftWf_pu0 (h : ftWf w) : 0 < ftCP w := ftI_ge (N := 1) (ftI_ge0 (N := 1) (ftWf_b4 h).1 (by omega)) (ftWf_b4 h).1 (by omega)
theorem ftWf_pu2 (h : ftWf w) : ftCP w < 2 ^ 31 := Nat.lt_of_le_of_lt (ftWf_pu h) (by omega)
theorem ftWf_A0 (h : ftWf w) : 0 ≤ w (44 + 3) := (ftWf_b3 h).1
theorem ftWf_2a (h : ftWf w) : ¬ 2 * w (44 + 3) + 1 = 0 := by
  obtain ⟨e, -⟩ := ftI_nat (ftWf_b3 h).1
  have hl := ftI_le (N := 400) (ftWf_b3 h).1 (ftWf_b3 h).2 (by omega)
  rw [e]
  show ¬ nI 2 * nI _ + 1 = 0
  rw [ft_mulN, nI_1]
  exact nI_ne0 (by omega) (by omega)
theorem ftWf_55 (h : ftWf w) : w 55 = nI (ftCK w) := (ftI_nat h.2.2.1.1).1
theorem ftWf_kp (h : ftWf w) : ftCK w ≤ 3 := ftI_le (N := 3) h.2.2.1.1 h.2.2.1.2 (by omega)
theorem ftWf_szs (h : ftWf w) : ∀ i, i < ftCK w → w (56 + i) = nI (w (56 + i)).toNatClampNeg ∧ 110 ≤ (w (56 + i)).toNatClampNeg ∧ (w (56 + i)).toNatClampNeg ≤ 460 := fun i hi => by
  have q := h.2.2.2 i hi
  have q0 := ftI_ge0 (N := 110) q.1 (by omega)
  exact ⟨(ftI_nat q0).1, ftI_ge (N := 110) q0 q.1 (by omega), ftI_le (N := 460) q0 q.2 (by omega)⟩
end FTWF
/-! flashes -/
theorem ftUpd_at0 {f : Nat → Int32} {k : Nat} {x : Int32} : upd f k x k = x := if_pos rfl
theorem ftFl_cong {kf pf rf kg pg rg p0 h0 p1 h1 : Nat → Int32} : ∀ i, (∀ t, t < i → kf t = kg t ∧ pf t = pg t ∧ rf t = rg t) → (ftFl kf pf rf p0 h0 i).1 = (ftFl kg pg rg p1 h1 i).1 ∧ ∀ t, t < (ftFl kf pf rf p0 h0 i).1 → (ftFl kf pf rf p0 h0 i).2.1 t = (ftFl kg pg rg p1 h1 i).2.1 t ∧ (ftFl kf pf rf p0 h0 i).2.2 t = (ftFl kg pg rg p1 h1 i).2.2 t := by
  intro i
  induction i with
  | zero => intro _; exact ⟨rfl, fun t h => absurd h (Nat.not_lt_zero t)⟩
  | succ i ih =>
    intro h
    obtain ⟨e1, e2⟩ := ih (fun t ht => h t (by omega))
    obtain ⟨q1, q2, q3⟩ := h i (by omega)
    by_cases c : kf i = 1
    · rw [ftFl_t c, ftFl_t (by rw [← q1]; exact c)]
      refine ⟨?_, fun t ht => ?_⟩
      · show (ftFl kf pf rf p0 h0 i).1 + 1 = (ftFl kg pg rg p1 h1 i).1 + 1
        rw [e1]
      · show upd (ftFl kf pf rf p0 h0 i).2.1 (ftFl kf pf rf p0 h0 i).1 (pf i) t = upd (ftFl kg pg rg p1 h1 i).2.1 (ftFl kg pg rg p1 h1 i).1 (pg i) t ∧ upd (ftFl kf pf rf p0 h0 i).2.2 (ftFl kf pf rf p0 h0 i).1 (rf i) t = upd (ftFl kg pg rg p1 h1 i).2.2 (ftFl kg pg rg p1 h1 i).1 (rg i) t
        have ht : t < (ftFl kf pf rf p0 h0 i).1 + 1 := ht
        rw [← e1]
        by_cases r : t = (ftFl kf pf rf p0 h0 i).1
        · subst r
          rw [ftUpd_at0, ftUpd_at0, ftUpd_at0, ftUpd_at0]
          exact ⟨q2, q3⟩
        · rw [ftUpd_ne r, ftUpd_ne r, ftUpd_ne r, ftUpd_ne r]
          exact e2 t (by omega)
    · rw [ftFl_f c, ftFl_f (by rw [← q1]; exact c)]
      exact ⟨e1, e2⟩
theorem ftFlE_cong {len en len2 en2 : Int32} {kf pf rf kg pg rg p0 h0 p1 h1 : Nat → Int32} {n : Nat} (hl : len = len2) (he : en = en2) (h : ∀ t, t < n → kf t = kg t ∧ pf t = pg t ∧ rf t = rg t) : (ftFlE len en kf pf rf p0 h0 n).1 = (ftFlE len2 en2 kg pg rg p1 h1 n).1 ∧ ∀ t, t < (ftFlE len en kf pf rf p0 h0 n).1 → (ftFlE len en kf pf rf p0 h0 n).2.1 t = (ftFlE len2 en2 kg pg rg p1 h1 n).2.1 t ∧ (ftFlE len en kf pf rf p0 h0 n).2.2 t = (ftFlE len2 en2 kg pg rg p1 h1 n).2.2 t := by
  subst hl he
  obtain ⟨e1, e2⟩ := ftFl_cong (p0 := p0) (h0 := h0) (p1 := p1) (h1 := h1) n h
  by_cases c : 0 < en
  · rw [ftFlE_t c, ftFlE_t c]
    refine ⟨?_, fun t ht => ?_⟩
    · show (ftFl kf pf rf p0 h0 n).1 + 1 = (ftFl kg pg rg p1 h1 n).1 + 1
      rw [e1]
    · show upd (ftFl kf pf rf p0 h0 n).2.1 (ftFl kf pf rf p0 h0 n).1 len t = upd (ftFl kg pg rg p1 h1 n).2.1 (ftFl kg pg rg p1 h1 n).1 len t ∧ upd (ftFl kf pf rf p0 h0 n).2.2 (ftFl kf pf rf p0 h0 n).1 en t = upd (ftFl kg pg rg p1 h1 n).2.2 (ftFl kg pg rg p1 h1 n).1 en t
      have ht : t < (ftFl kf pf rf p0 h0 n).1 + 1 := ht
      rw [← e1]
      by_cases r : t = (ftFl kf pf rf p0 h0 n).1
      · subst r
        rw [ftUpd_at0, ftUpd_at0, ftUpd_at0, ftUpd_at0]
        exact ⟨rfl, rfl⟩
      · rw [ftUpd_ne r, ftUpd_ne r, ftUpd_ne r, ftUpd_ne r]
        exact e2 t (by omega)
  · rw [ftFlE_f c, ftFlE_f c]
    exact ⟨e1, e2⟩
theorem ftFl_ent {kf pf rf p0 h0 : Nat → Int32} : ∀ i t, t < (ftFl kf pf rf p0 h0 i).1 → ∃ k, k < i ∧ kf k = 1 ∧ (ftFl kf pf rf p0 h0 i).2.1 t = pf k ∧ (ftFl kf pf rf p0 h0 i).2.2 t = rf k := by
  intro i
  induction i with
  | zero => intro t h; exact absurd h (Nat.not_lt_zero t)
  | succ i ih =>
    intro t ht
    by_cases c : kf i = 1
    · rw [ftFl_t c] at ht ⊢
      have ht : t < (ftFl kf pf rf p0 h0 i).1 + 1 := ht
      show ∃ k, k < i + 1 ∧ kf k = 1 ∧ upd (ftFl kf pf rf p0 h0 i).2.1 (ftFl kf pf rf p0 h0 i).1 (pf i) t = pf k ∧ upd (ftFl kf pf rf p0 h0 i).2.2 (ftFl kf pf rf p0 h0 i).1 (rf i) t = rf k
      by_cases r : t = (ftFl kf pf rf p0 h0 i).1
      · subst r
        rw [ftUpd_at0, ftUpd_at0]
        exact ⟨i, by omega, c, rfl, rfl⟩
      · rw [ftUpd_ne r, ftUpd_ne r]
        obtain ⟨k, k1, k2⟩ := ih t (by omega)
        exact ⟨k, by omega, k2⟩
    · rw [ftFl_f c] at ht ⊢
      obtain ⟨k, k1, k2⟩ := ih t ht
      exact ⟨k, by omega, k2⟩
theorem ftFl_asc {kf pf rf p0 h0 : Nat → Int32} : ∀ i, (∀ a b, a < b → b < i → pf a < pf b) → ∀ a b, a < b → b < (ftFl kf pf rf p0 h0 i).1 → (ftFl kf pf rf p0 h0 i).2.1 a < (ftFl kf pf rf p0 h0 i).2.1 b := by
  intro i
  induction i with
  | zero => intro _ a b _ h; exact absurd h (Nat.not_lt_zero b)
  | succ i ih =>
    intro hp a b hab hb
    have ih := ih (fun a b h1 h2 => hp a b h1 (by omega))
    by_cases c : kf i = 1
    · rw [ftFl_t c] at hb ⊢
      have hb : b < (ftFl kf pf rf p0 h0 i).1 + 1 := hb
      show upd (ftFl kf pf rf p0 h0 i).2.1 (ftFl kf pf rf p0 h0 i).1 (pf i) a < upd (ftFl kf pf rf p0 h0 i).2.1 (ftFl kf pf rf p0 h0 i).1 (pf i) b
      rw [ftUpd_ne (show a ≠ (ftFl kf pf rf p0 h0 i).1 by omega)]
      by_cases r : b = (ftFl kf pf rf p0 h0 i).1
      · subst r
        rw [ftUpd_at0]
        obtain ⟨k, k1, k2, k3, -⟩ := ftFl_ent (kf := kf) (pf := pf) (rf := rf) (p0 := p0) (h0 := h0) i a hab
        rw [k3]
        exact hp k i k1 (by omega)
      · rw [ftUpd_ne r]
        exact ih a b hab (by omega)
    · rw [ftFl_f c] at hb ⊢
      exact ih a b hab hb
/-- the flashes of a row, on any rows laid before; on rows of zeros -/
def ftFW (w fa fh : Nat → Int32) : Nat × (Nat → Int32) × (Nat → Int32) := ftFlE (w 0) (w 2) (fun k => w (4 + 4 * k + 0)) (fun k => w (4 + 4 * k + 1)) (fun k => w (4 + 4 * k + 3)) fa fh (ftCN w)
def ftCF (w : Nat → Int32) : Nat × (Nat → Int32) × (Nat → Int32) := ftFW w (fun _ => 0) (fun _ => 0)
theorem ftFW_c (w fa fh : Nat → Int32) : (ftFW w fa fh).1 = (ftCF w).1 ∧ ∀ t, t < (ftFW w fa fh).1 → (ftFW w fa fh).2.1 t = (ftCF w).2.1 t ∧ (ftFW w fa fh).2.2 t = (ftCF w).2.2 t := ftFlE_cong rfl rfl (fun _ _ => ⟨rfl, rfl, rfl⟩)
/-- places and heights of flashes -/
def ftFok (R : Nat × (Nat → Int32) × (Nat → Int32)) : Prop := R.1 ≤ 11 ∧ (∀ t, t < R.1 → R.2.1 t = nI (R.2.1 t).toNatClampNeg ∧ R.2.2 t = nI (R.2.2 t).toNatClampNeg ∧ 1 ≤ (R.2.1 t).toNatClampNeg ∧ (R.2.1 t).toNatClampNeg ≤ 400 ∧ 0 < (R.2.2 t).toNatClampNeg ∧ (R.2.2 t).toNatClampNeg ≤ 20000) ∧ ∀ a b, a < b → b < R.1 → R.2.1 a < R.2.1 b
theorem ftPart_r {w : Nat → Int32} (h : ftLf w) {k : Nat} (hk : k < ftCN w) (h1 : w (4 + 4 * k + 0) = 1) : 1 ≤ w (4 + 4 * k + 3) ∧ w (4 + 4 * k + 3) ≤ 20000 := by
  obtain ⟨q, -⟩ := h.2.2.2.2.1 k hk
  rcases q with q | q | q
  · rw [h1] at q; exact absurd q.1 (by decide)
  · exact q.2.2.2
  · rw [h1] at q; exact absurd q.1 (by decide)
theorem ftPl_b {w : Nat → Int32} (h : ftLf w) {k : Nat} (hk : k < ftCN w) : 1 ≤ w (4 + 4 * k + 1) ∧ w (4 + 4 * k + 1) ≤ 400 ∧ w (4 + 4 * k + 1) < w 0 := by
  obtain ⟨-, q1, q2⟩ := h.2.2.2.2.1 k hk
  exact ⟨q1, Int32.le_trans (Int32.le_of_lt q2) h.2.1.2, q2⟩
theorem ftN_of {x : Int32} {a b : Nat} (h1 : nI a ≤ x) (h2 : x ≤ nI b) (ha : a < 2 ^ 31) (hb : b < 2 ^ 31) : x = nI x.toNatClampNeg ∧ a ≤ x.toNatClampNeg ∧ x.toNatClampNeg ≤ b := ⟨(ftI_nat (ftI_ge0 h1 ha)).1, ftI_ge (ftI_ge0 h1 ha) h1 ha, ftI_le (ftI_ge0 h1 ha) h2 hb⟩
theorem ft1_of {x : Int32} (h : 0 < x) : nI 1 ≤ x := by
  have e := (ftI_nat (Int32.le_of_lt h)).1
  have hl := (ftI_nat (Int32.le_of_lt h)).2
  rw [e] at h ⊢
  have h0 : 0 < x.toNatClampNeg := ft_ltN (a := 0) (by omega) hl h
  exact nI_le h0 hl
theorem ftFW_ok {w : Nat → Int32} (h : ftLf w) (fa fh : Nat → Int32) : ftFok (ftFW w fa fh) := by
  have hent : ∀ t, t < (ftFl (fun k => w (4 + 4 * k + 0)) (fun k => w (4 + 4 * k + 1)) (fun k => w (4 + 4 * k + 3)) fa fh (ftCN w)).1 → ∃ k, k < ftCN w ∧ w (4 + 4 * k + 0) = 1 ∧ (ftFl (fun k => w (4 + 4 * k + 0)) (fun k => w (4 + 4 * k + 1)) (fun k => w (4 + 4 * k + 3)) fa fh (ftCN w)).2.1 t = w (4 + 4 * k + 1) ∧ (ftFl (fun k => w (4 + 4 * k + 0)) (fun k => w (4 + 4 * k + 1)) (fun k => w (4 + 4 * k + 3)) fa fh (ftCN w)).2.2 t = w (4 + 4 * k + 3) := fun t ht => ftFl_ent (kf := fun k => w (4 + 4 * k + 0)) (pf := fun k => w (4 + 4 * k + 1)) (rf := fun k => w (4 + 4 * k + 3)) (p0 := fa) (h0 := fh) (ftCN w) t ht
  have hasc := ftFl_asc (kf := fun k => w (4 + 4 * k + 0)) (pf := fun k => w (4 + 4 * k + 1)) (rf := fun k => w (4 + 4 * k + 3)) (p0 := fa) (h0 := fh) (ftCN w) h.2.2.2.2.2
  have hle := ftFl_le (fun k => w (4 + 4 * k + 0)) (fun k => w (4 + 4 * k + 1)) (fun k => w (4 + 4 * k + 3)) fa fh (ftCN w)
  have hn := ftLf_n h
  refine ⟨Nat.le_trans (ftFlE_le _ _ _ _ _ _ _ _) (by omega), ?_, ?_⟩
  · intro t ht
    unfold ftFW at ht ⊢
    by_cases c : 0 < w 2
    · rw [ftFlE_t c] at ht ⊢
      generalize hq : ftFl (fun k => w (4 + 4 * k + 0)) (fun k => w (4 + 4 * k + 1)) (fun k => w (4 + 4 * k + 3)) fa fh (ftCN w) = q at ht hent hasc ⊢
      have ht : t < q.1 + 1 := ht
      show upd q.2.1 q.1 (w 0) t = nI (upd q.2.1 q.1 (w 0) t).toNatClampNeg ∧ upd q.2.2 q.1 (w 2) t = nI (upd q.2.2 q.1 (w 2) t).toNatClampNeg ∧ 1 ≤ (upd q.2.1 q.1 (w 0) t).toNatClampNeg ∧ (upd q.2.1 q.1 (w 0) t).toNatClampNeg ≤ 400 ∧ 0 < (upd q.2.2 q.1 (w 2) t).toNatClampNeg ∧ (upd q.2.2 q.1 (w 2) t).toNatClampNeg ≤ 20000
      by_cases r : t = q.1
      · subst r
        rw [ftUpd_at0, ftUpd_at0]
        obtain ⟨a1, a2, a3⟩ := ftN_of (x := w 0) (a := 50) (b := 400) h.2.1.1 h.2.1.2 (by omega) (by omega)
        obtain ⟨b1, b2, b3⟩ := ftN_of (x := w 2) (a := 1) (b := 20000) (ft1_of c) h.2.2.2.1.2 (by omega) (by omega)
        exact ⟨a1, b1, by omega, a3, b2, b3⟩
      · rw [ftUpd_ne r, ftUpd_ne r]
        obtain ⟨k, k1, k2, k3, k4⟩ := hent t (by omega)
        rw [k3, k4]
        obtain ⟨p1, p2, -⟩ := ftPl_b h k1
        obtain ⟨r1, r2⟩ := ftPart_r h k1 k2
        obtain ⟨a1, a2, a3⟩ := ftN_of (a := 1) (b := 400) p1 p2 (by omega) (by omega)
        obtain ⟨b1, b2, b3⟩ := ftN_of (a := 1) (b := 20000) r1 r2 (by omega) (by omega)
        exact ⟨a1, b1, a2, a3, b2, b3⟩
    · rw [ftFlE_f c] at ht ⊢
      obtain ⟨k, k1, k2, k3, k4⟩ := hent t ht
      rw [k3, k4]
      obtain ⟨p1, p2, -⟩ := ftPl_b h k1
      obtain ⟨r1, r2⟩ := ftPart_r h k1 k2
      obtain ⟨a1, a2, a3⟩ := ftN_of (a := 1) (b := 400) p1 p2 (by omega) (by omega)
      obtain ⟨b1, b2, b3⟩ := ftN_of (a := 1) (b := 20000) r1 r2 (by omega) (by omega)
      exact ⟨a1, b1, a2, a3, b2, b3⟩
  · intro a b hab hb
    unfold ftFW at hb ⊢
    by_cases c : 0 < w 2
    · rw [ftFlE_t c] at hb ⊢
      generalize hq : ftFl (fun k => w (4 + 4 * k + 0)) (fun k => w (4 + 4 * k + 1)) (fun k => w (4 + 4 * k + 3)) fa fh (ftCN w) = q at hb hent hasc ⊢
      have hb : b < q.1 + 1 := hb
      show upd q.2.1 q.1 (w 0) a < upd q.2.1 q.1 (w 0) b
      rw [ftUpd_ne (show a ≠ q.1 by omega)]
      by_cases r : b = q.1
      · subst r
        rw [ftUpd_at0]
        obtain ⟨k, k1, k2, k3, k4⟩ := hent a hab
        rw [k3]
        exact (ftPl_b h k1).2.2
      · rw [ftUpd_ne r]
        exact hasc a b hab (by omega)
    · rw [ftFlE_f c] at hb ⊢
      exact hasc a b hab hb
end
section
/-! ghosts: the class's and the reference's are alike -/
def ftGrel (q : ftGs) (k : ftGq) : Prop := q.1 = k.1 ∧ ∀ t, t < q.1 → k.2.1 t = ftGhPl q.2.1 q.2.2.1 t ∧ k.2.2.1 t = q.2.2.2 t ∧ k.2.2.2.1 t = q.2.1 t ∧ k.2.2.2.2 t = q.2.2.1 t
theorem ftDown_M {f1 f2 ga g1 : Nat → Int32} {x one : Int32} : ∀ k, (∀ t, t < k → ga t = ftGhPl f1 f2 t ∧ g1 t ≤ one) → ftDown f1 f2 x k = ftDownM ga g1 x one k := by
  intro k
  induction k with
  | zero => intro _; rfl
  | succ k ih =>
    intro h
    obtain ⟨q1, q2⟩ := h k (by omega)
    have e := ih (fun t ht => h t (by omega))
    rw [ftDown, ftDownM, q1, e]
    by_cases c : x < ftGhPl f1 f2 k
    · rw [if_pos c, if_pos (Or.inl c)]
    · rw [if_neg c, if_neg (fun r => r.elim c (fun r => absurd r.2 (Int32.not_lt.mpr q2)))]
theorem ftIns_at {f : Nat → Int32} {u k : Nat} {x : Int32} : ftIns f u k x k = x := if_pos rfl
theorem ftIns_up {f : Nat → Int32} {u k t : Nat} {x : Int32} (h1 : k < t) (h2 : t ≤ u) : ftIns f u k x t = f (t - 1) := by
  unfold ftIns
  rw [if_neg (by omega), if_pos ⟨h1, h2⟩]
theorem ftIns_dn {f : Nat → Int32} {u k t : Nat} {x : Int32} (h1 : t < k) : ftIns f u k x t = f t := by
  unfold ftIns
  rw [if_neg (by omega), if_neg (by omega)]
theorem ftIns_by {u k : Nat} (hk : k ≤ u) {P : Nat → Prop} (h0 : P k) (h1 : ∀ t, t < k → P t) (h2 : ∀ t, k < t → t ≤ u → P t) : ∀ t, t < u + 1 → P t := by
  intro t ht
  rcases Nat.lt_trichotomy t k with q | q | q
  · exact h1 t q
  · subst q; exact h0
  · exact h2 t q (by omega)
theorem ftGrel_ins {q : ftGs} {k : ftGq} {a b h : Int32} (hr : ftGrel q k) (hb : ∀ t, t < q.1 → q.2.1 t ≤ a) : ftGrel (ftGhIns q a b h) (ftGmIns k (2 * b - a) h a b) ∧ ∀ t, t < (ftGhIns q a b h).1 → (ftGhIns q a b h).2.1 t ≤ a := by
  obtain ⟨e1, e2⟩ := hr
  have ed : ftDown q.2.1 q.2.2.1 (2 * b - a) q.1 = ftDownM k.2.1 k.2.2.2.1 (2 * b - a) a q.1 := ftDown_M q.1 (fun t ht => ⟨(e2 t ht).1, by rw [(e2 t ht).2.2.1]; exact hb t ht⟩)
  have hd := ftDown_le q.2.1 q.2.2.1 (2 * b - a) q.1
  unfold ftGhIns ftGmIns
  rw [← e1, ← ed]
  generalize ftDown q.2.1 q.2.2.1 (2 * b - a) q.1 = j at hd
  refine ⟨⟨rfl, ?_⟩, ?_⟩
  · refine ftIns_by hd ?_ ?_ ?_
    · refine ⟨?_, ?_, ?_, ?_⟩
      · show ftIns k.2.1 q.1 j (2 * b - a) j = 2 * ftIns q.2.2.1 q.1 j b j - ftIns q.2.1 q.1 j a j
        rw [ftIns_at, ftIns_at, ftIns_at]
      · show ftIns k.2.2.1 q.1 j h j = ftIns q.2.2.2 q.1 j h j
        rw [ftIns_at, ftIns_at]
      · show ftIns k.2.2.2.1 q.1 j a j = ftIns q.2.1 q.1 j a j
        rw [ftIns_at, ftIns_at]
      · show ftIns k.2.2.2.2 q.1 j b j = ftIns q.2.2.1 q.1 j b j
        rw [ftIns_at, ftIns_at]
    · intro t ht
      obtain ⟨g1, g2, g3, g4⟩ := e2 t (by omega)
      refine ⟨?_, ?_, ?_, ?_⟩
      · show ftIns k.2.1 q.1 j (2 * b - a) t = 2 * ftIns q.2.2.1 q.1 j b t - ftIns q.2.1 q.1 j a t
        rw [ftIns_dn ht, ftIns_dn ht, ftIns_dn ht, g1]; rfl
      · show ftIns k.2.2.1 q.1 j h t = ftIns q.2.2.2 q.1 j h t
        rw [ftIns_dn ht, ftIns_dn ht, g2]
      · show ftIns k.2.2.2.1 q.1 j a t = ftIns q.2.1 q.1 j a t
        rw [ftIns_dn ht, ftIns_dn ht, g3]
      · show ftIns k.2.2.2.2 q.1 j b t = ftIns q.2.2.1 q.1 j b t
        rw [ftIns_dn ht, ftIns_dn ht, g4]
    · intro t h1 h2
      obtain ⟨g1, g2, g3, g4⟩ := e2 (t - 1) (by omega)
      refine ⟨?_, ?_, ?_, ?_⟩
      · show ftIns k.2.1 q.1 j (2 * b - a) t = 2 * ftIns q.2.2.1 q.1 j b t - ftIns q.2.1 q.1 j a t
        rw [ftIns_up h1 h2, ftIns_up h1 h2, ftIns_up h1 h2, g1]; rfl
      · show ftIns k.2.2.1 q.1 j h t = ftIns q.2.2.2 q.1 j h t
        rw [ftIns_up h1 h2, ftIns_up h1 h2, g2]
      · show ftIns k.2.2.2.1 q.1 j a t = ftIns q.2.1 q.1 j a t
        rw [ftIns_up h1 h2, ftIns_up h1 h2, g3]
      · show ftIns k.2.2.2.2 q.1 j b t = ftIns q.2.2.1 q.1 j b t
        rw [ftIns_up h1 h2, ftIns_up h1 h2, g4]
  · refine ftIns_by hd ?_ ?_ ?_
    · show ftIns q.2.1 q.1 j a j ≤ a
      rw [ftIns_at]; exact Int32.le_refl a
    · intro t ht
      show ftIns q.2.1 q.1 j a t ≤ a
      rw [ftIns_dn ht]; exact hb t (by omega)
    · intro t h1 h2
      show ftIns q.2.1 q.1 j a t ≤ a
      rw [ftIns_up h1 h2]; exact hb (t - 1) (by omega)
theorem ftGrel_step {ps hs pt ht : Nat → Int32} {gl : Int32} {i j : Nat} {q : ftGs} {k : ftGq} (h1 : ps i = pt i ∧ hs i = ht i) (h2 : ps j = pt j ∧ hs j = ht j) (hr : ftGrel q k) (hb : ∀ t, t < q.1 → q.2.1 t ≤ ps i) : ftGrel (ftGhStep ps hs gl i j q) (ftGmStep pt ht gl i j k) ∧ ∀ t, t < (ftGhStep ps hs gl i j q).1 → (ftGhStep ps hs gl i j q).2.1 t ≤ ps i := by
  have e : ftGhH hs gl i j = ftGhH ht gl i j := by unfold ftGhH; rw [h1.2, h2.2]
  unfold ftGhStep ftGmStep
  rw [← e, ← h1.1, ← h2.1]
  by_cases c : 0 < ftGhH hs gl i j
  · rw [if_pos c, if_pos c]
    exact ftGrel_ins hr hb
  · rw [if_neg c, if_neg c]
    exact ⟨hr, hb⟩
theorem ftGrel_in {ps hs pt ht : Nat → Int32} {gl : Int32} {i : Nat} {q : ftGs} {k : ftGq} (h1 : ps i = pt i ∧ hs i = ht i) (hr : ftGrel q k) (hb : ∀ t, t < q.1 → q.2.1 t ≤ ps i) : ∀ d, (∀ e, e < d → ps (i + 1 + e) = pt (i + 1 + e) ∧ hs (i + 1 + e) = ht (i + 1 + e)) → ftGrel (ftGhIn ps hs gl i q d) (ftGmIn pt ht gl i k d) ∧ ∀ t, t < (ftGhIn ps hs gl i q d).1 → (ftGhIn ps hs gl i q d).2.1 t ≤ ps i := by
  intro d
  induction d with
  | zero => intro _; exact ⟨hr, hb⟩
  | succ d ih =>
    intro h
    obtain ⟨a1, a2⟩ := ih (fun e he => h e (by omega))
    exact ftGrel_step h1 (h d (by omega)) a1 a2
theorem ftGrel_out {ps hs pt ht : Nat → Int32} {gl : Int32} {r : Nat} {q : ftGs} {k : ftGq} (hq : q.1 = 0) (hr : ftGrel q k) (he : ∀ t, t < r → ps t = pt t ∧ hs t = ht t) (hasc : ∀ a b, a < b → b < r → ps a < ps b) : ∀ i, i ≤ r → ftGrel (ftGhOut ps hs gl r q i) (ftGmOut pt ht gl r k i) ∧ ∀ t, t < (ftGhOut ps hs gl r q i).1 → ∀ j, i ≤ j → j < r → (ftGhOut ps hs gl r q i).2.1 t ≤ ps j := by
  intro i
  induction i with
  | zero =>
    intro _
    refine ⟨hr, fun t h => ?_⟩
    have h : t < q.1 := h
    omega
  | succ i ih =>
    intro hi
    obtain ⟨a1, a2⟩ := ih (by omega)
    obtain ⟨b1, b2⟩ := ftGrel_in (gl := gl) (he i (by omega)) a1 (fun t h => a2 t h i (Nat.le_refl i) (by omega)) (r - (i + 1)) (fun e h => he _ (by omega))
    exact ⟨b1, fun t h j h1 h2 => Int32.le_trans (b2 t h) (Int32.le_of_lt (hasc i j (by omega) h2))⟩
theorem ftGrel_run {R T : Nat × (Nat → Int32) × (Nat → Int32)} {gl : Int32} {f1 f2 f3 ga gh g1 g2 : Nat → Int32} (h1 : R.1 = T.1) (h2 : ∀ t, t < R.1 → R.2.1 t = T.2.1 t ∧ R.2.2 t = T.2.2 t) (hasc : ∀ a b, a < b → b < R.1 → R.2.1 a < R.2.1 b) : ftGrel (ftGhs R gl f1 f2 f3) (ftGms T gl ga gh g1 g2) := by
  unfold ftGhs ftGms
  rw [← h1]
  exact (ftGrel_out rfl ⟨rfl, fun t h => absurd h (Nat.not_lt_zero t)⟩ h2 hasc R.1 (Nat.le_refl _)).1
def ftGW (w fa fh ga gh g1 g2 : Nat → Int32) : ftGq := ftGms (ftFW w fa fh) (w (44 + 2)) ga gh g1 g2
def ftCG (w : Nat → Int32) : ftGq := ftGms (ftCF w) (w (44 + 2)) (fun _ => 0) (fun _ => 0) (fun _ => 0) (fun _ => 0)
def ftGeq (q k : ftGq) : Prop := q.1 = k.1 ∧ ∀ t, t < q.1 → q.2.1 t = k.2.1 t ∧ q.2.2.1 t = k.2.2.1 t ∧ q.2.2.2.1 t = k.2.2.2.1 t ∧ q.2.2.2.2 t = k.2.2.2.2 t
theorem ftGrel_eq {q : ftGs} {j k : ftGq} (h1 : ftGrel q j) (h2 : ftGrel q k) : ftGeq j k := by
  refine ⟨h1.1.symm.trans h2.1, fun t ht => ?_⟩
  rw [← h1.1] at ht
  obtain ⟨a1, a2, a3, a4⟩ := h1.2 t ht
  obtain ⟨b1, b2, b3, b4⟩ := h2.2 t ht
  exact ⟨a1.trans b1.symm, a2.trans b2.symm, a3.trans b3.symm, a4.trans b4.symm⟩
theorem ftGW_c {w : Nat → Int32} (h : ftLf w) (fa fh ga gh g1 g2 : Nat → Int32) : ftGeq (ftGW w fa fh ga gh g1 g2) (ftCG w) := by
  have hok := ftFW_ok h (fun _ => 0) (fun _ => 0)
  have hc := ftFW_c w fa fh
  refine ftGrel_eq (q := ftGhs (ftCF w) (w (44 + 2)) (fun _ => 0) (fun _ => 0) (fun _ => 0)) ?_ ?_
  · exact ftGrel_run hc.1.symm (fun t ht => by
      have := hc.2 t (by rw [hc.1]; exact ht)
      exact ⟨this.1.symm, this.2.symm⟩) hok.2.2
  · exact ftGrel_run rfl (fun _ _ => ⟨rfl, rfl⟩) hok.2.2
/-! what ghosts are -/
theorem ftIns_all {Q : Int32 → Int32 → Int32 → Prop} {f1 f2 f3 : Nat → Int32} {u k : Nat} {a b c : Int32} (hk : k ≤ u) (h : ∀ t, t < u → Q (f1 t) (f2 t) (f3 t)) (hq : Q a b c) : ∀ t, t < u + 1 → Q (ftIns f1 u k a t) (ftIns f2 u k b t) (ftIns f3 u k c t) := by
  refine ftIns_by hk ?_ ?_ ?_
  · rw [ftIns_at, ftIns_at, ftIns_at]; exact hq
  · intro t ht; rw [ftIns_dn ht, ftIns_dn ht, ftIns_dn ht]; exact h t (by omega)
  · intro t h1 h2; rw [ftIns_up h1 h2, ftIns_up h1 h2, ftIns_up h1 h2]; exact h (t - 1) (by omega)
theorem ftGh_in {Q : Int32 → Int32 → Int32 → Prop} {ps hs : Nat → Int32} {gl : Int32} {i : Nat} {q : ftGs} (h : ∀ t, t < q.1 → Q (q.2.1 t) (q.2.2.1 t) (q.2.2.2 t)) : ∀ d, (∀ e, e < d → 0 < ftGhH hs gl i (i + 1 + e) → Q (ps i) (ps (i + 1 + e)) (ftGhH hs gl i (i + 1 + e))) → ∀ t, t < (ftGhIn ps hs gl i q d).1 → Q ((ftGhIn ps hs gl i q d).2.1 t) ((ftGhIn ps hs gl i q d).2.2.1 t) ((ftGhIn ps hs gl i q d).2.2.2 t) := by
  intro d
  induction d with
  | zero => intro _; exact h
  | succ d ih =>
    intro hd
    have a := ih (fun e he => hd e (by omega))
    show ∀ t, t < (ftGhStep ps hs gl i (i + 1 + d) (ftGhIn ps hs gl i q d)).1 → Q ((ftGhStep ps hs gl i (i + 1 + d) (ftGhIn ps hs gl i q d)).2.1 t) ((ftGhStep ps hs gl i (i + 1 + d) (ftGhIn ps hs gl i q d)).2.2.1 t) ((ftGhStep ps hs gl i (i + 1 + d) (ftGhIn ps hs gl i q d)).2.2.2 t)
    unfold ftGhStep
    by_cases c : 0 < ftGhH hs gl i (i + 1 + d)
    · rw [if_pos c]
      exact ftIns_all (ftDown_le _ _ _ _) a (hd d (by omega) c)
    · rw [if_neg c]; exact a
theorem ftGh_ent {Q : Int32 → Int32 → Int32 → Prop} {R : Nat × (Nat → Int32) × (Nat → Int32)} {gl : Int32} {f1 f2 f3 : Nat → Int32} (h : ∀ i j, i < j → j < R.1 → 0 < ftGhH R.2.2 gl i j → Q (R.2.1 i) (R.2.1 j) (ftGhH R.2.2 gl i j)) : ∀ t, t < (ftGhs R gl f1 f2 f3).1 → Q ((ftGhs R gl f1 f2 f3).2.1 t) ((ftGhs R gl f1 f2 f3).2.2.1 t) ((ftGhs R gl f1 f2 f3).2.2.2 t) := by
  have key : ∀ i, i ≤ R.1 → ∀ t, t < (ftGhOut R.2.1 R.2.2 gl R.1 (0, f1, f2, f3) i).1 → Q ((ftGhOut R.2.1 R.2.2 gl R.1 (0, f1, f2, f3) i).2.1 t) ((ftGhOut R.2.1 R.2.2 gl R.1 (0, f1, f2, f3) i).2.2.1 t) ((ftGhOut R.2.1 R.2.2 gl R.1 (0, f1, f2, f3) i).2.2.2 t) := by
    intro i
    induction i with
    | zero => intro _ t ht; exact absurd ht (Nat.not_lt_zero t)
    | succ i ih =>
      intro hi
      exact ftGh_in (ih (by omega)) (R.1 - (i + 1)) (fun e he hp => h i (i + 1 + e) (by omega) (by omega) hp)
  exact key R.1 (Nat.le_refl _)
/-- a ghost's place and height, as numbers -/
def ftGQ (a b h : Int32) : Prop := 2 * b - a = nI (2 * b - a).toNatClampNeg ∧ (2 * b - a).toNatClampNeg ≤ 800 ∧ h = nI h.toNatClampNeg ∧ 0 < h.toNatClampNeg ∧ h.toNatClampNeg ≤ 20000
theorem ftGQ_of {R : Nat × (Nat → Int32) × (Nat → Int32)} {gl : Int32} (hR : ftFok R) (hg : 0 ≤ gl) (hg2 : gl ≤ 40000) {i j : Nat} (hij : i < j) (hj : j < R.1) (hp : 0 < ftGhH R.2.2 gl i j) : ftGQ (R.2.1 i) (R.2.1 j) (ftGhH R.2.2 gl i j) := by
  obtain ⟨-, h1, h2⟩ := hR
  obtain ⟨a1, a2, a3, a4, a5, a6⟩ := h1 i (by omega)
  obtain ⟨b1, b2, b3, b4, b5, b6⟩ := h1 j hj
  have hlt := h2 i j hij hj
  have eg := (ftI_nat hg).1
  have lg := ftI_le (N := 40000) hg hg2 (by omega)
  generalize (R.2.1 i).toNatClampNeg = A at *
  generalize (R.2.1 j).toNatClampNeg = B at *
  generalize (R.2.2 i).toNatClampNeg = C at *
  generalize (R.2.2 j).toNatClampNeg = E at *
  generalize gl.toNatClampNeg = G at *
  rw [a1, b1] at hlt
  have hAB : A < B := ft_ltN (by omega) (by omega) hlt
  have e1 : 2 * R.2.1 j - R.2.1 i = nI (2 * B - A) := by
    rw [a1, b1]
    show nI 2 * nI B - nI A = _
    rw [ft_mulN, ft_subN (by omega)]
  have e2 : (R.2.2 i + R.2.2 j) / 2 = nI ((C + E) / 2) := by
    rw [a2, b2, ft_addN]
    exact pk_div (d := 2) (by omega) (by omega) (by omega)
  have e3 : ftGhH R.2.2 gl i j = nI ((C + E) / 2 - G) := by
    unfold ftGhH at hp ⊢
    rw [e2, eg] at hp ⊢
    have := ft_ge0S (by omega) (by omega) (Int32.le_of_lt hp)
    rw [ft_subN this]
  have hpos : 0 < (C + E) / 2 - G := by
    rw [e3] at hp
    exact ft_ltN (a := 0) (by omega) (by omega) hp
  unfold ftGQ
  rw [e1, e3, nI_clamp (by omega), nI_clamp (by omega)]
  exact ⟨rfl, by omega, rfl, hpos, by omega⟩
/-- a row of ghosts whose places and heights are numbers -/
def ftGok (q : ftGq) : Prop := q.1 ≤ 55 ∧ ∀ t, t < q.1 → q.2.1 t = nI (q.2.1 t).toNatClampNeg ∧ (q.2.1 t).toNatClampNeg ≤ 800 ∧ q.2.2.1 t = nI (q.2.2.1 t).toNatClampNeg ∧ 0 < (q.2.2.1 t).toNatClampNeg ∧ (q.2.2.1 t).toNatClampNeg ≤ 20000
theorem ftGms_le (R : Nat × (Nat → Int32) × (Nat → Int32)) (gl : Int32) (ga gh g1 g2 : Nat → Int32) (h : R.1 ≤ 11) : (ftGms R gl ga gh g1 g2).1 ≤ 55 := Nat.le_trans (ftGmOut_le _ _ _ _ _ rfl _) (ftPairs_le2 _ (by omega) _ (by omega))
theorem ftGms_ok {R : Nat × (Nat → Int32) × (Nat → Int32)} {gl : Int32} (hR : ftFok R) (hg : 0 ≤ gl) (hg2 : gl ≤ 40000) (ga gh g1 g2 : Nat → Int32) : ftGok (ftGms R gl ga gh g1 g2) := by
  refine ⟨ftGms_le _ _ _ _ _ _ hR.1, fun t ht => ?_⟩
  have hr : ftGrel (ftGhs R gl ga ga ga) (ftGms R gl ga gh g1 g2) := ftGrel_run rfl (fun _ _ => ⟨rfl, rfl⟩) hR.2.2
  rw [← hr.1] at ht
  obtain ⟨e1, e2, -, -⟩ := hr.2 t ht
  have q : ftGQ _ _ _ := ftGh_ent (Q := ftGQ) (f1 := ga) (f2 := ga) (f3 := ga) (fun i j h1 h2 h3 => ftGQ_of hR hg hg2 h1 h2 h3) t ht
  rw [e1, e2]
  exact q
end
section
/-! events: the class's and the reference's are alike -/
theorem ftPkI_cong {PP HH PQ HQ : Nat → Nat} {wd d x : Nat} {a b : Int32} (hab : a = b) : ∀ k, (∀ i, i < k → PP i = PQ i ∧ HH i = HQ i) → ftPkI PP HH wd d x a k = ftPkI PQ HQ wd d x b k := by
  intro k
  induction k with
  | zero => intro _; exact hab
  | succ k ih =>
    intro h
    rw [ftPkI, ftPkI, ih (fun i hi => h i (by omega)), (h k (by omega)).1, (h k (by omega)).2]
theorem ftEndK_cong {v u : Nat → Int32} {st : Int32} {L : Nat} (h : ∀ t, t ≤ L → v t = u t) (k : Nat) : ftEndK v st L k = ftEndK u st L k := by
  induction k with
  | zero => rfl
  | succ k ih => rw [ftEndK, ftEndK, ih, h _ (Nat.sub_le _ _), h _ (Nat.sub_le _ _)]
theorem ftEnd_cong {v u : Nat → Int32} {st : Int32} {L y : Nat} (h : ∀ t, t ≤ L → v t = u t) : ftEnd v st L y = ftEnd u st L y := ftEndK_cong h _
theorem ftGr_cong {v u : Nat → Int32} {x : Nat} : ∀ d, (∀ t, t ≤ x + d → v t = u t) → ftGr v x d = ftGr u x d := by
  intro d
  induction d with
  | zero => intro h; exact h x (Nat.le_refl _)
  | succ d ih => intro h; rw [ftGr, ftGr, ih (fun t ht => h t (by omega)), h _ (Nat.le_refl _)]
theorem ftMk_cong {a b : Nat → Nat → Int32} {tl : Int32} {i j e : Nat} (hi : a 0 i = b 0 i ∧ a 4 i = b 4 i) (hj : a 0 j = b 0 j ∧ a 4 j = b 4 j) (he : a 0 e = b 0 e) : ftMk a tl i j e ↔ ftMk b tl i j e := by
  unfold ftMk
  rw [hi.1, hi.2, hj.1, hj.2, he]
theorem ftMkIn_t {ro : Nat → Nat → Int32} {tl : Int32} {i e k : Nat} (h : ftMk ro tl i (e - (k + 1)) e) : ftMkIn ro tl i e (k + 1) = some (e - (k + 1)) := if_pos h
theorem ftMkIn_f {ro : Nat → Nat → Int32} {tl : Int32} {i e k : Nat} (h : ¬ ftMk ro tl i (e - (k + 1)) e) : ftMkIn ro tl i e (k + 1) = ftMkIn ro tl i e k := if_neg h
theorem ftMkIn_cong {a b : Nat → Nat → Int32} {tl : Int32} {i e : Nat} (h : ∀ t, t ≤ e → a 0 t = b 0 t ∧ a 4 t = b 4 t) (hi : i ≤ e) (k : Nat) : ftMkIn a tl i e k = ftMkIn b tl i e k := by
  induction k with
  | zero => rfl
  | succ k ih =>
    have hc := ftMk_cong (tl := tl) (h i hi) (h (e - (k + 1)) (Nat.sub_le _ _)) (h e (Nat.le_refl _)).1
    rcases Classical.em (ftMk a tl i (e - (k + 1)) e) with q | q
    · rw [ftMkIn_t q, ftMkIn_t (hc.mp q)]
    · rw [ftMkIn_f q, ftMkIn_f (fun r => q (hc.mpr r)), ih]
theorem ftMkOut_cong {a b : Nat → Nat → Int32} {tl : Int32} {e : Nat} (h : ∀ t, t ≤ e → a 0 t = b 0 t ∧ a 4 t = b 4 t) (k : Nat) : ftMkOut a tl e k = ftMkOut b tl e k := by
  induction k with
  | zero => rfl
  | succ k ih => rw [ftMkOut, ftMkOut, ih, ftMkIn_cong h (Nat.sub_le _ _)]
theorem ftMkIn_lt {ro : Nat → Nat → Int32} {tl : Int32} {i e j : Nat} (he : 0 < e) : ∀ k, ftMkIn ro tl i e k = some j → j < e := by
  intro k
  induction k with
  | zero => intro h; cases h
  | succ k ih =>
    intro h
    rcases Classical.em (ftMk ro tl i (e - (k + 1)) e) with q | q
    · rw [ftMkIn_t q] at h
      cases h
      omega
    · rw [ftMkIn_f q] at h; exact ih h
theorem ftMkOut_lt {ro : Nat → Nat → Int32} {tl : Int32} {e i j : Nat} : ∀ k, k ≤ e → ftMkOut ro tl e k = some (i, j) → i < e ∧ j < e := by
  intro k
  induction k with
  | zero => intro _ h; cases h
  | succ k ih =>
    intro hk h
    rw [ftMkOut] at h
    cases hq : ftMkIn ro tl (e - (k + 1)) e (e - (e - (k + 1) + 1)) with
    | some j2 =>
      rw [hq] at h
      cases h
      exact ⟨by omega, ftMkIn_lt (by omega) _ hq⟩
    | none => rw [hq] at h; exact ih (by omega) h
theorem ftMkSet_at {ro : Nat → Nat → Int32} {e i j c t : Nat} (h : t ≠ e) : ftMkSet ro e i j c t = ro c t := by
  unfold ftMkSet
  by_cases q4 : c = 4
  · subst q4; rw [if_pos rfl, ftUpd_ne h]
  · rw [if_neg q4]
    by_cases q6 : c = 6
    · subst q6; rw [if_pos rfl, ftUpd_ne h]
    · rw [if_neg q6]
      by_cases q7 : c = 7
      · subst q7; rw [if_pos rfl, ftUpd_ne h]
      · rw [if_neg q7]
theorem ftMkSet_o {ro : Nat → Nat → Int32} {e i j c : Nat} (h4 : c ≠ 4) (h6 : c ≠ 6) (h7 : c ≠ 7) : ftMkSet ro e i j c = ro c := by
  unfold ftMkSet
  rw [if_neg h4, if_neg h6, if_neg h7]
theorem ftMkRow_at {ro : Nat → Nat → Int32} {tl : Int32} {e c t : Nat} (h : t ≠ e) : ftMkRow ro tl e c t = ro c t := by
  cases hq : ftMkOut ro tl e e with
  | none => rw [ftMkRow_none hq]
  | some p => obtain ⟨i, j⟩ := p; rw [ftMkRow_some hq, ftMkSet_at h]
theorem ftMkRow_o {ro : Nat → Nat → Int32} {tl : Int32} {e c : Nat} (h4 : c ≠ 4) (h6 : c ≠ 6) (h7 : c ≠ 7) : ftMkRow ro tl e c = ro c := by
  cases hq : ftMkOut ro tl e e with
  | none => rw [ftMkRow_none hq]
  | some p => obtain ⟨i, j⟩ := p; rw [ftMkRow_some hq, ftMkSet_o h4 h6 h7]
theorem ftGhosts_o (ro : Nat → Nat → Int32) (tl gl : Int32) {c : Nat} (h4 : c ≠ 4) (h6 : c ≠ 6) (h7 : c ≠ 7) (i : Nat) : ftGhosts ro tl gl i c = ro c := by
  induction i with
  | zero => rfl
  | succ i ih =>
    rcases Classical.em (ftGhosts ro tl gl i 4 i = 1 ∧ ftAbs (ftGhosts ro tl gl i 2 i) ≤ gl) with q | q
    · rw [← ftGhosts_t rfl q, ftMkRow_o h4 h6 h7, ih]
    · rw [← ftGhosts_f rfl q, ih]
/-- the ghosts among the first m events don't ask for the m-th -/
theorem ftGhosts_loc {a b : Nat → Nat → Int32} {tl gl : Int32} {m : Nat} (h : ∀ c t, t ≠ m → a c t = b c t) : ∀ i, i ≤ m → (∀ c t, t ≠ m → ftGhosts a tl gl i c t = ftGhosts b tl gl i c t) ∧ ∀ c, ftGhosts a tl gl i c m = a c m := by
  intro i
  induction i with
  | zero => intro _; exact ⟨h, fun _ => rfl⟩
  | succ i ih =>
    intro hi
    obtain ⟨g1, g2⟩ := ih (by omega)
    have e4 := g1 4 i (by omega)
    have e2 := g1 2 i (by omega)
    have eo : ftMkOut (ftGhosts a tl gl i) tl i i = ftMkOut (ftGhosts b tl gl i) tl i i := ftMkOut_cong (fun t ht => ⟨g1 0 t (by omega), g1 4 t (by omega)⟩) i
    rcases Classical.em (ftGhosts a tl gl i 4 i = 1 ∧ ftAbs (ftGhosts a tl gl i 2 i) ≤ gl) with q | q
    · have q2 : ftGhosts b tl gl i 4 i = 1 ∧ ftAbs (ftGhosts b tl gl i 2 i) ≤ gl := by rw [← e4, ← e2]; exact q
      rw [← ftGhosts_t rfl q, ← ftGhosts_t rfl q2]
      refine ⟨fun c t ht => ?_, fun c => ?_⟩
      · by_cases r : t = i
        · subst r
          cases hq : ftMkOut (ftGhosts a tl gl t) tl t t with
          | none => rw [ftMkRow_none hq, ftMkRow_none (eo ▸ hq)]; exact g1 c t ht
          | some p =>
            obtain ⟨x, y⟩ := p
            rw [ftMkRow_some hq, ftMkRow_some (eo ▸ hq)]
            unfold ftMkSet
            by_cases q4 : c = 4
            · subst q4; rw [if_pos rfl, if_pos rfl, ftUpd_at0, ftUpd_at0]
            · rw [if_neg q4, if_neg q4]
              by_cases q6 : c = 6
              · subst q6; rw [if_pos rfl, if_pos rfl, ftUpd_at0, ftUpd_at0]
              · rw [if_neg q6, if_neg q6]
                by_cases q7 : c = 7
                · subst q7; rw [if_pos rfl, if_pos rfl, ftUpd_at0, ftUpd_at0]
                · rw [if_neg q7, if_neg q7]; exact g1 c t ht
        · rw [ftMkRow_at r, ftMkRow_at r]; exact g1 c t ht
      · rw [ftMkRow_at (show m ≠ i by omega)]; exact g2 c
    · have q2 : ¬ (ftGhosts b tl gl i 4 i = 1 ∧ ftAbs (ftGhosts b tl gl i 2 i) ≤ gl) := by rw [← e4, ← e2]; exact q
      rw [← ftGhosts_f rfl q, ← ftGhosts_f rfl q2]
      exact ⟨g1, g2⟩
/-- class's events q (ghosts told behind), reference's k -/
def ftErel (N : Nat) (tl gl : Int32) (q k : ftRs) : Prop := q.1 = k.1 ∧ q.2.1 = k.2.1 ∧ q.1 ≤ 30 ∧ ∀ t, t < q.1 → (∀ c, c < 6 → ftGhosts q.2.2 tl gl q.1 c t = k.2.2 c t) ∧ (∃ e, e < N ∧ k.2.2 1 t = nI e) ∧ ((k.2.2 4 t = 2 ∧ (∃ i j, i < 30 ∧ j < 30 ∧ k.2.2 6 t = nI i ∧ k.2.2 7 t = nI j) ∧ ftGhosts q.2.2 tl gl q.1 6 t = k.2.2 6 t ∧ ftGhosts q.2.2 tl gl q.1 7 t = k.2.2 7 t) ∨ (¬ k.2.2 4 t = 2 ∧ ftGhosts q.2.2 tl gl q.1 6 t = -1 ∧ ftGhosts q.2.2 tl gl q.1 7 t = -1))
theorem ftEvK_n2 (rb en : Int32) : ¬ ftEvK rb en = 2 := by
  unfold ftEvK
  by_cases h : en = 0
  · rw [if_pos h]
    by_cases r : rb = 0
    · rw [if_pos r]; decide
    · rw [if_neg r]; decide
  · rw [if_neg h]; decide
theorem ftRdEv_at {v : Nat → Int32} {x y : Nat} {rb en : Int32} {q : ftRs} {c t : Nat} (h : t ≠ q.1) : (ftRdEv v x y rb en q).2.2 c t = q.2.2 c t := if_neg h
theorem ftRdEv_m {v : Nat → Int32} {x y : Nat} {rb en : Int32} {q : ftRs} {c : Nat} : (ftRdEv v x y rb en q).2.2 c q.1 = ftEvE v x y (ftSb q.2.2 q.1) rb en c := if_pos rfl
theorem ftEvE_4 (v : Nat → Int32) (x y sb : Nat) (rb en : Int32) : ftEvE v x y sb rb en 4 = ftEvK rb en := rfl
theorem ftEvS_at {v : Nat → Int32} {O : Option (Nat × Nat)} {x y : Nat} {rb en : Int32} {k : ftRs} {c t : Nat} (h : t ≠ k.1) : (ftEvS v O x y rb en k).2.2 c t = k.2.2 c t := by
  show (if c = 4 then (match O with | none => upd (k.2.2 4) k.1 (ftEvK rb en) | some _ => upd (k.2.2 4) k.1 2) else if c = 6 then ftMk1 O (k.2.2 6) k.1 else if c = 7 then ftMk2 O (k.2.2 7) k.1 else upd (k.2.2 c) k.1 (ftEvV v x y (ftSb k.2.2 k.1) rb c)) t = k.2.2 c t
  by_cases q4 : c = 4
  · subst q4
    rw [if_pos rfl]
    cases O with
    | none => exact ftUpd_ne h
    | some p => exact ftUpd_ne h
  · rw [if_neg q4]
    by_cases q6 : c = 6
    · subst q6
      rw [if_pos rfl]
      cases O with
      | none => rfl
      | some p => obtain ⟨i, j⟩ := p; exact ftUpd_ne h
    · rw [if_neg q6]
      by_cases q7 : c = 7
      · subst q7
        rw [if_pos rfl]
        cases O with
        | none => rfl
        | some p => obtain ⟨i, j⟩ := p; exact ftUpd_ne h
      · rw [if_neg q7]; exact ftUpd_ne h
theorem ftErel_step {v u : Nat → Int32} {N x y : Nat} {tl gl rb en : Int32} {q k : ftRs} (hv : ∀ t, t < N → v t = u t) (hx1 : 1 ≤ x) (hxy : x ≤ y) (hy : y < N) (h30 : q.1 < 30) (hr : ftErel N tl gl q k) : ftErel N tl gl (ftRdEv v x y rb en q) (ftEvQ u tl gl x y rb en k) := by
  obtain ⟨e1, e2, -, e3⟩ := hr
  obtain ⟨g1, g2⟩ := ftGhosts_loc (a := (ftRdEv v x y rb en q).2.2) (b := q.2.2) (tl := tl) (gl := gl) (m := q.1) (fun c t ht => ftRdEv_at ht) q.1 (Nat.le_refl _)
  have hsb : ftSb q.2.2 q.1 = ftSb k.2.2 k.1 := by
    rw [← e1]
    unfold ftSb
    by_cases z : q.1 = 0
    · rw [if_pos z, if_pos z]
    · rw [if_neg z, if_neg z, ← (e3 (q.1 - 1) (by omega)).1 1 (by omega), ftGhosts_o _ _ _ (by omega) (by omega) (by omega)]
  have hsbN : ftSb k.2.2 k.1 < N := by
    rw [← e1]
    unfold ftSb
    by_cases z : q.1 = 0
    · rw [if_pos z]; omega
    · rw [if_neg z]
      obtain ⟨e, he, hee⟩ := (e3 (q.1 - 1) (by omega)).2.1
      rw [hee]
      rcases Nat.lt_or_ge e (2 ^ 31) with r | r
      · rw [nI_clamp r]; exact he
      · have : (nI e).toNatClampNeg < 2 ^ 31 := by
          have := (nI e).toInt_lt
          unfold Int32.toNatClampNeg
          omega
        omega
  have hE4 : ftGhosts (ftRdEv v x y rb en q).2.2 tl gl q.1 4 q.1 = ftEvK rb en := by rw [g2 4, ftRdEv_m, ftEvE_4]
  have hE2 : ftGhosts (ftRdEv v x y rb en q).2.2 tl gl q.1 2 q.1 = u (x - 1) - u y := by
    rw [g2 2, ftRdEv_m]
    show v (x - 1) - v y = _
    rw [hv _ (by omega), hv _ (by omega)]
  have hEV : ∀ c, c < 6 → c ≠ 4 → ftEvE v x y (ftSb q.2.2 q.1) rb en c = ftEvV u x y (ftSb k.2.2 k.1) rb c := by
    intro c hc h4
    rw [hsb]
    match c, hc, h4 with
    | 0, _, _ => rfl
    | 1, _, _ => rfl
    | 2, _, _ => show v (x - 1) - v y = u (x - 1) - u y; rw [hv _ (by omega), hv _ (by omega)]
    | 3, _, _ =>
      show (if rb = 0 then 0 else ftGr v x (y - x) - v (x - 1)) = (if rb = 0 then 0 else ftGr u x (y - x) - u (x - 1))
      rw [ftGr_cong (y - x) (fun t ht => hv t (by omega)), hv (x - 1) (by omega)]
    | 5, _, _ => show v (ftSb k.2.2 k.1) - v (x - 1) = u (ftSb k.2.2 k.1) - u (x - 1); rw [hv _ hsbN, hv _ (by omega)]
  have hOut : ftMkOut (ftGhosts (ftRdEv v x y rb en q).2.2 tl gl q.1) tl q.1 q.1 = ftMkOut (ftRoM (upd (k.2.2 0) k.1 (nI x)) (upd (k.2.2 4) k.1 (ftEvK rb en))) tl k.1 k.1 := by
    rw [← e1]
    refine ftMkOut_cong (fun t ht => ?_) q.1
    show _ = upd (k.2.2 0) q.1 (nI x) t ∧ _ = upd (k.2.2 4) q.1 (ftEvK rb en) t
    by_cases z : t = q.1
    · subst z
      rw [ftUpd_at0, ftUpd_at0]
      exact ⟨by rw [g2 0, ftRdEv_m]; rfl, hE4⟩
    · rw [ftUpd_ne z, ftUpd_ne z, g1 0 t z, g1 4 t z]
      exact ⟨(e3 t (by omega)).1 0 (by omega), (e3 t (by omega)).1 4 (by omega)⟩
  have hcnt : (ftRdEv v x y rb en q).1 = q.1 + 1 := rfl
  refine ⟨by rw [hcnt, e1]; rfl, rfl, by rw [hcnt]; omega, fun t ht => ?_⟩
  rw [hcnt] at ht ⊢
  -- the rows behind the step, and the reference's
  obtain ⟨O, hO⟩ : ∃ O, O = ftEvO u tl gl x y rb en k := ⟨_, rfl⟩
  have hQ : ftEvQ u tl gl x y rb en k = ftEvS u O x y rb en k := by rw [hO]; rfl
  rw [hQ]
  by_cases z : t = q.1
  · subst z
    have hk1 : ∀ c, c < 6 → c ≠ 4 → (ftEvS u O x y rb en k).2.2 c q.1 = ftEvV u x y (ftSb k.2.2 k.1) rb c := by
      intro c hc h4
      rw [e1]
      show (if c = 4 then _ else if c = 6 then _ else if c = 7 then _ else upd (k.2.2 c) k.1 (ftEvV u x y (ftSb k.2.2 k.1) rb c)) k.1 = _
      rw [if_neg h4, if_neg (by omega), if_neg (by omega)]
      exact ftUpd_at0
    have hend : ∃ e, e < N ∧ (ftEvS u O x y rb en k).2.2 1 q.1 = nI e := ⟨y, hy, hk1 1 (by omega) (by omega)⟩
    rcases Classical.em (ftEvK rb en = 1 ∧ ftAbs (u (x - 1) - u y) ≤ gl) with cc | cc
    · have q9 : ftGhosts (ftRdEv v x y rb en q).2.2 tl gl q.1 4 q.1 = 1 ∧ ftAbs (ftGhosts (ftRdEv v x y rb en q).2.2 tl gl q.1 2 q.1) ≤ gl := by rw [hE4, hE2]; exact cc
      rw [← ftGhosts_t rfl q9]
      have hO2 : O = ftMkOut (ftRoM (upd (k.2.2 0) k.1 (nI x)) (upd (k.2.2 4) k.1 (ftEvK rb en))) tl k.1 k.1 := by rw [hO]; exact if_pos cc
      rw [← hO2] at hOut
      cases hq : O with
      | none =>
        rw [hq] at hOut hk1 hend
        rw [ftMkRow_none hOut]
        have h4 : (ftEvS u none x y rb en k).2.2 4 q.1 = ftEvK rb en := by rw [e1]; exact ftUpd_at0
        refine ⟨fun c hc => ?_, hend, Or.inr ⟨by rw [h4]; exact ftEvK_n2 rb en, by rw [g2 6, ftRdEv_m]; rfl, by rw [g2 7, ftRdEv_m]; rfl⟩⟩
        by_cases c4 : c = 4
        · subst c4; rw [hE4, h4]
        · rw [g2 c, ftRdEv_m, hk1 c hc c4]; exact hEV c hc c4
      | some p =>
        obtain ⟨i, j⟩ := p
        rw [hq] at hOut hk1 hend
        rw [ftMkRow_some hOut]
        obtain ⟨li, lj⟩ := ftMkOut_lt q.1 (Nat.le_refl _) hOut
        have h4 : (ftEvS u (some (i, j)) x y rb en k).2.2 4 q.1 = 2 := by rw [e1]; exact ftUpd_at0
        have h6 : (ftEvS u (some (i, j)) x y rb en k).2.2 6 q.1 = nI i := by rw [e1]; exact ftUpd_at0
        have h7 : (ftEvS u (some (i, j)) x y rb en k).2.2 7 q.1 = nI j := by rw [e1]; exact ftUpd_at0
        refine ⟨fun c hc => ?_, hend, Or.inl ⟨h4, ⟨i, j, by omega, by omega, h6, h7⟩, ?_, ?_⟩⟩
        · by_cases c4 : c = 4
          · subst c4; rw [h4]; exact ftUpd_at0
          · rw [ftMkSet_o c4 (by omega) (by omega), g2 c, ftRdEv_m, hk1 c hc c4]; exact hEV c hc c4
        · rw [h6]; exact ftUpd_at0
        · rw [h7]; exact ftUpd_at0
    · have q9 : ¬ (ftGhosts (ftRdEv v x y rb en q).2.2 tl gl q.1 4 q.1 = 1 ∧ ftAbs (ftGhosts (ftRdEv v x y rb en q).2.2 tl gl q.1 2 q.1) ≤ gl) := by rw [hE4, hE2]; exact cc
      rw [← ftGhosts_f rfl q9]
      have hq : O = none := by rw [hO]; exact if_neg cc
      rw [hq] at hk1 hend ⊢
      have h4 : (ftEvS u none x y rb en k).2.2 4 q.1 = ftEvK rb en := by rw [e1]; exact ftUpd_at0
      refine ⟨fun c hc => ?_, hend, Or.inr ⟨by rw [h4]; exact ftEvK_n2 rb en, by rw [g2 6, ftRdEv_m]; rfl, by rw [g2 7, ftRdEv_m]; rfl⟩⟩
      by_cases c4 : c = 4
      · subst c4; rw [hE4, h4]
      · rw [g2 c, ftRdEv_m, hk1 c hc c4]; exact hEV c hc c4
  · have hk : ∀ c, (ftEvS u O x y rb en k).2.2 c t = k.2.2 c t := fun c => ftEvS_at (by rw [← e1]; exact z)
    have hg : ∀ c, ftGhosts (ftRdEv v x y rb en q).2.2 tl gl (q.1 + 1) c t = ftGhosts q.2.2 tl gl q.1 c t := by
      intro c
      rcases Classical.em (ftGhosts (ftRdEv v x y rb en q).2.2 tl gl q.1 4 q.1 = 1 ∧ ftAbs (ftGhosts (ftRdEv v x y rb en q).2.2 tl gl q.1 2 q.1) ≤ gl) with cc | cc
      · rw [← ftGhosts_t rfl cc, ftMkRow_at z]; exact g1 c t z
      · rw [← ftGhosts_f rfl cc]; exact g1 c t z
    rw [hk 1, hk 4, hk 6, hk 7, hg 6, hg 7]
    refine ⟨fun c hc => ?_, (e3 t (by omega)).2⟩
    rw [hg c, hk c]
    exact (e3 t (by omega)).1 c hc
theorem ftErel_run {v u : Nat → Int32} {N w : Nat} {ri st fl tl gl : Int32} (hN : 0 < N) (hw : 1 ≤ w) (hv : ∀ t, t < N → v t = u t) : ∀ (f x : Nat) (q k : ftRs), 1 ≤ x → ftErel N tl gl q k → ftErel N tl gl (ftRdL v N w ri st fl f x q) (ftRdM u N w ri st fl tl gl f x k) := by
  intro f
  induction f with
  | zero => intro x q k _ h; exact h
  | succ f ih =>
    intro x q k hx h
    obtain ⟨e1, e2, -, -⟩ := id h
    unfold ftRdL ftRdM
    by_cases c : x < N ∧ q.1 < 30 ∧ q.2.1 = 0
    · rw [if_pos c, if_pos (show x < N ∧ k.1 < 30 ∧ k.2.1 = 0 by rw [← e1, ← e2]; exact c)]
      have ex := hv x c.1
      have ex1 := hv (x - 1) (by omega)
      rw [ex, ex1]
      have hvL : ∀ t, t ≤ N - 1 → v t = u t := fun t ht => hv t (by omega)
      have key : ∀ y rb, x ≤ y → ftErel N tl gl (ftRdEv v x (ftEnd v st (N - 1) y) rb (if v (ftEnd v st (N - 1) y) < fl then 1 else 0) q) (ftEvQ u tl gl x (ftEnd u st (N - 1) y) rb (if u (ftEnd u st (N - 1) y) < fl then 1 else 0) k) := by
        intro y rb hy
        have b1 := ftEnd_geX (v := u) (st := st) (L := N - 1) (x := x) (y := y) hy (by omega)
        have b2 := ftEnd_le u st (N - 1) y
        rw [ftEnd_cong hvL, hv _ (show ftEnd u st (N - 1) y < N by omega)]
        exact ftErel_step hv hx b1 (by omega) c.2.1 h
      have b1 := ftEnd_geX (v := u) (st := st) (L := N - 1) (x := x) (y := x + w - 1) (by omega) (by omega)
      have b2 := ftEnd_geX (v := u) (st := st) (L := N - 1) (x := x) (y := x) (by omega) (by omega)
      by_cases d : ri ≤ u x - u (x - 1)
      · rw [if_pos d, if_pos d]
        have kk := key (x + w - 1) 1 (by omega)
        rw [ftEnd_cong hvL] at kk ⊢
        exact ih _ _ _ (by omega) kk
      · rw [if_neg d, if_neg d]
        by_cases g : st < -(u x - u (x - 1))
        · rw [if_pos g, if_pos g]
          have kk := key x 0 (by omega)
          rw [ftEnd_cong hvL] at kk ⊢
          exact ih _ _ _ (by omega) kk
        · rw [if_neg g, if_neg g]
          exact ih _ _ _ (by omega) h
    · rw [if_neg c, if_neg (show ¬ (x < N ∧ k.1 < 30 ∧ k.2.1 = 0) by rw [← e1, ← e2]; exact c)]
      exact h
theorem ftErel_of {v u : Nat → Int32} {N w : Nat} {ri st fl tl gl : Int32} {ro rm : Nat → Nat → Int32} (hN : 0 < N) (hw : 1 ≤ w) (hv : ∀ t, t < N → v t = u t) : ftErel N tl gl (ftRd v N w ri st fl ro) (ftRm u N w ri st fl tl gl rm) :=
  ftErel_run hN hw hv _ 1 _ _ (Nat.le_refl 1) ⟨rfl, rfl, by omega, fun t h => absurd h (Nat.not_lt_zero t)⟩
def ftEeq (q k : ftRs) : Prop := q.1 = k.1 ∧ q.2.1 = k.2.1 ∧ ∀ t, t < q.1 → (∀ c, c < 6 → q.2.2 c t = k.2.2 c t) ∧ (q.2.2 4 t = 2 → q.2.2 6 t = k.2.2 6 t ∧ q.2.2 7 t = k.2.2 7 t)
theorem ftErel_eq {N : Nat} {tl gl : Int32} {q j k : ftRs} (h1 : ftErel N tl gl q j) (h2 : ftErel N tl gl q k) : ftEeq j k := by
  refine ⟨h1.1.symm.trans h2.1, h1.2.1.symm.trans h2.2.1, fun t ht => ?_⟩
  rw [← h1.1] at ht
  obtain ⟨a1, -, a3⟩ := h1.2.2.2 t ht
  obtain ⟨b1, -, b3⟩ := h2.2.2.2 t ht
  refine ⟨fun c hc => (a1 c hc).symm.trans (b1 c hc), fun h4 => ?_⟩
  have k4 : k.2.2 4 t = 2 := by rw [← b1 4 (by omega), a1 4 (by omega)]; exact h4
  rcases a3 with a3 | a3
  · rcases b3 with b3 | b3
    · exact ⟨a3.2.2.1.symm.trans b3.2.2.1, a3.2.2.2.symm.trans b3.2.2.2⟩
    · exact absurd k4 b3.1
  · exact absurd h4 a3.1
/-! what a row says: base, peaks, noise, samples, events -/
def ftCB (w : Nat → Int32) (x : Nat) : Int32 := ftBsM w (ftCL w) (ftCN w) x
def ftTn (f : Nat → Int32) : Nat → Nat := fun i => (f i).toNatClampNeg
def ftCQ (w : Nat → Int32) (x : Nat) : Int32 := ftPkM (ftTn (ftCF w).2.1) (ftTn (ftCF w).2.2) (ftTn (ftCG w).2.1) (ftTn (ftCG w).2.2.1) (ftCF w).1 (ftCG w).1 (ftCW w) (ftCD w) x
def ftCZ (w : Nat → Int32) (x : Nat) : Int32 := ftNoise (w (44 + 3)) (w (44 + 5)) (ftCP w) x
def ftCV (w : Nat → Int32) (x : Nat) : Int32 := ftCB w x + ftCQ w x + ftCZ w x
noncomputable def ftCE (w : Nat → Int32) : ftRs := ftRm (ftCV w) (ftCL w + 60) (ftCW w) (w (44 + 6)) (w (44 + 7)) (w (44 + 8)) (w (44 + 9)) (w (44 + 10)) (fun _ _ => 0)
theorem ftCQ_run {w : Nat → Int32} (h : ftLf w) {fa fh ga gh g1 g2 : Nat → Int32} (x : Nat) : ftPkM (ftTn (ftFW w fa fh).2.1) (ftTn (ftFW w fa fh).2.2) (ftTn (ftGW w fa fh ga gh g1 g2).2.1) (ftTn (ftGW w fa fh ga gh g1 g2).2.2.1) (ftFW w fa fh).1 (ftGW w fa fh ga gh g1 g2).1 (ftCW w) (ftCD w) x = ftCQ w x := by
  have hF := ftFW_c w fa fh
  have hG := ftGW_c h fa fh ga gh g1 g2
  unfold ftCQ ftPkM
  rw [hF.1, hG.1]
  refine ftPkI_cong (ftPkI_cong rfl _ (fun i hi => ?_)) _ (fun i hi => ?_)
  · have := hF.2 i (by rw [hF.1]; exact hi)
    unfold ftTn
    exact ⟨by rw [this.1], by rw [this.2]⟩
  · have := hG.2 i (by rw [hG.1]; exact hi)
    unfold ftTn
    exact ⟨by rw [this.1], by rw [this.2.1]⟩
theorem ftCE_run {w v : Nat → Int32} {ro : Nat → Nat → Int32} (h : ftWf w) (hv : ∀ x, x < ftCL w + 60 → v x = ftCV w x) : ftEeq (ftRm v (ftCL w + 60) (ftCW w) (w (44 + 6)) (w (44 + 7)) (w (44 + 8)) (w (44 + 9)) (w (44 + 10)) ro) (ftCE w) :=
  ftErel_eq (ftErel_of (ro := fun _ _ => 0) (by omega) (ftWf_wd1 h) (fun t ht => (hv t ht).symm)) (ftErel_of (ro := fun _ _ => 0) (by omega) (ftWf_wd1 h) (fun _ _ => rfl))
end
section

end
section
/-! the reference: count, lineLoss, sample, echo -/
theorem ft_btw {x : Int32} {K : Nat} (hK : K < 2 ^ 30) (h0 : 0 ≤ x) (h : x ≤ nI K - 1) : x.toNatClampNeg < K ∧ x = nI x.toNatClampNeg := by
  obtain ⟨e, hl⟩ := ftI_nat h0
  refine ⟨?_, e⟩
  rw [e] at h
  rcases Nat.eq_zero_or_pos K with z | z
  · subst z
    have h1 : (nI x.toNatClampNeg).toInt ≤ (nI 0 - 1 : Int32).toInt := Int32.le_iff_toInt_le.mp h
    rw [nI_toInt hl] at h1
    have h2 : (nI 0 - 1 : Int32).toInt = -1 := by decide
    omega
  · rw [show nI K - 1 = nI (K - 1) from ft_subN (b := 1) z] at h
    have := ft_leN hl (by omega) h
    omega
theorem ft_btw2 {x : Int32} {K : Nat} (hK : K < 2 ^ 31) (h0 : 0 ≤ x) (h : x ≤ nI K) : x.toNatClampNeg ≤ K ∧ x = nI x.toNatClampNeg := ⟨ftI_le h0 h hK, (ftI_nat h0).1⟩
theorem ftCG_le {w : Nat → Int32} (h : ftWf w) : (ftCG w).1 ≤ 55 := ftGms_le _ _ _ _ _ _ (ftFW_ok h.1 _ _).1
def ftCntK (w : Nat → Int32) (hm tn k : Nat) : Int32 := if k ≤ 10 then w (44 + k) else if k < 15 then w (k - 11) else if k = 15 then nI (ftCL w + 60) else if k = 16 then w 55 else if k = 17 then nI hm else nI tn
noncomputable def ftCntA (w : Nat → Int32) (hm tn : Nat) (x : Int32) : Int32 := ftIte (0 ≤ x ∧ x ≤ 18) (ftCntK w hm tn x.toNatClampNeg) (-1000001)
noncomputable def ftLlA (w : Nat → Int32) (x : Int32) : Int32 := ftIte (0 ≤ x ∧ x ≤ w 0) (ftLj w x (ftSum (fun y => ftFw w (nI y) (ftCN w)) x.toNatClampNeg) (ftCN w)) (-1000001)
def ftSmK (w : Nat → Int32) (k : Nat) (x : Int32) : Int32 := if x = 0 then ftCV w k else if x = 1 then ftCB w k else if x = 2 then ftCQ w k else ftCZ w k
noncomputable def ftSmA (w : Nat → Int32) (a b : Int32) : Int32 := ftIte ((0 ≤ a ∧ a ≤ nI (ftCL w + 60 - 1)) ∧ 0 ≤ b ∧ b ≤ 3) (ftSmK w a.toNatClampNeg b) (-1000001)
def ftEcK (w : Nat → Int32) (k : Nat) (x : Int32) : Int32 := if x = 0 then (ftCG w).2.1 k else if x = 1 then (ftCG w).2.2.1 k else if x = 2 then (ftCG w).2.2.2.1 k else (ftCG w).2.2.2.2 k
noncomputable def ftEcA (w : Nat → Int32) (a b : Int32) : Int32 := ftIte (¬ a < 0 ∧ 0 ≤ b ∧ b ≤ 3) (ftIte (a < nI (ftCG w).1) (ftEcK w a.toNatClampNeg b) (-1000004)) (-1000001)
theorem ftSum_s (f : Nat → Int32) (k : Nat) : ftSum f k + f k = ftSum f (k + 1) := rfl
end
section
/-! the reference: what asks for events -/
theorem ftCE_rel {w : Nat → Int32} (h : ftWf w) : ftErel (ftCL w + 60) (w (44 + 9)) (w (44 + 10)) (ftRd (ftCV w) (ftCL w + 60) (ftCW w) (w (44 + 6)) (w (44 + 7)) (w (44 + 8)) (fun _ _ => 0)) (ftCE w) := ftErel_of (by omega) (ftWf_wd1 h) (fun _ _ => rfl)
theorem ftCE_le {w : Nat → Int32} (h : ftWf w) : (ftCE w).1 ≤ 30 := by
  have q := ftCE_rel h
  rw [← q.1]; exact q.2.2.1
theorem ftCE_end {w : Nat → Int32} (h : ftWf w) {t : Nat} (ht : t < (ftCE w).1) : ∃ e, e < ftCL w + 60 ∧ (ftCE w).2.2 1 t = nI e := by
  have q := ftCE_rel h
  exact (q.2.2.2 t (by rw [q.1]; exact ht)).2.1
def ftEvP (w : Nat → Int32) (E : ftRs) (k : Nat) (x : Int32) : Int32 := if x = 0 then E.2.2 0 k else if x = 1 then E.2.2 1 k else if x = 2 then E.2.2 2 k else if x = 3 then E.2.2 3 k else if x = 4 then E.2.2 4 k else if x = 5 then E.2.2 5 k else if x = 6 then (if E.2.2 4 k = 2 then E.2.2 6 k else -1000004) else (if E.2.2 4 k = 2 then E.2.2 7 k else -1000004)
noncomputable def ftEvA (w : Nat → Int32) (a b : Int32) : Int32 := ftIte ((0 ≤ a ∧ a ≤ nI (ftCE w).1 - 1) ∧ 0 ≤ b ∧ b ≤ 7) (ftEvP w (ftCE w) a.toNatClampNeg b) (-1000001)
noncomputable def ftT1 (E : ftRs) (x : Int32) (k : Nat) : Int32 := if x = 0 then E.2.2 2 k else if x = 1 then E.2.2 5 k else if x = 2 then (if E.2.2 4 k = 2 then E.2.2 2 k else 0) else ftIte ((3 ≤ x ∧ x ≤ 5) ∧ E.2.2 4 k = x - 3) 1 0
noncomputable def ftTs (E : ftRs) (x : Int32) : Nat → Int32
  | 0 => 0
  | k + 1 => ftTs E x k + ftT1 E x k
noncomputable def ftToK (w : Nat → Int32) (E : ftRs) (x : Int32) : Int32 := if x < 6 then ftTs E x E.1 else if x = 7 then (if E.2.1 = 0 then 0 else 1) else if E.1 = 0 then 0 else ftCV w 0 - ftCV w (E.2.2 1 (E.1 - 1)).toNatClampNeg
noncomputable def ftToA (w : Nat → Int32) (x : Int32) : Int32 := ftIte (0 ≤ x ∧ x ≤ 7) (ftToK w (ftCE w) x) (-1000001)
theorem ftFst_cong {P Q : Nat → Prop} : ∀ k, (∀ t, t < k → (P t ↔ Q t)) → ftFst P k = ftFst Q k := by
  intro k
  induction k with
  | zero => intro _; rfl
  | succ k ih =>
    intro h
    rw [ftFst, ftFst, ih (fun t ht => h t (by omega)), propext (h k (by omega))]
theorem ftCount_cong {P Q : Nat → Prop} : ∀ k, (∀ t, t < k → (P t ↔ Q t)) → ftCount P k = ftCount Q k := by
  intro k
  induction k with
  | zero => intro _; rfl
  | succ k ih =>
    intro h
    rw [ftCount, ftCount, ih (fun t ht => h t (by omega)), propext (h k (by omega))]
noncomputable def ftCOn (w : Nat → Int32) (x : Int32) : Int32 := ftOnM ((ftCE w).2.2 0) ((ftCE w).2.2 1) (ftCE w).1 x
noncomputable def ftCNe (w : Nat → Int32) (x : Int32) : Int32 := ftNearM ((ftCE w).2.2 0) ((ftCE w).2.2 4) (w (44 + 9)) (ftCE w).1 x
noncomputable def ftCSt (w : Nat → Int32) (k : Nat) : Int32 := ftStandM ((ftCE w).2.2 0) ((ftCE w).2.2 1) ((ftCE w).2.2 4) w (ftCE w).1 k
noncomputable def ftCSs (w : Nat → Int32) (ho : Int32) : Int32 := ftStandsM ((ftCE w).2.2 0) ((ftCE w).2.2 1) ((ftCE w).2.2 4) w (ftCE w).1 ho (ftCN w)
noncomputable def ftCSg (w : Nat → Int32) : Nat → Int32 := ftCount (fun e => ftStrM ((ftCE w).2.2 0) ((ftCE w).2.2 4) w e (ftCN w))
/-- rows that say what the events of w are -/
def ftEe (w : Nat → Int32) (u : Nat → Nat → Int32) : Prop := ∀ t, t < (ftCE w).1 → (∀ c, c < 6 → u (25 + c) t = (ftCE w).2.2 c t) ∧ ((ftCE w).2.2 4 t = 2 → u 31 t = (ftCE w).2.2 6 t ∧ u 32 t = (ftCE w).2.2 7 t)
theorem ftOn_u {w : Nat → Int32} {u : Nat → Nat → Int32} (h : ftEe w u) (x : Int32) : ftOnM (u 25) (u 26) (ftCE w).1 x = ftCOn w x := ftFst_cong _ (fun t ht => by
  have e0 : u 25 t = _ := (h t ht).1 0 (by omega)
  have e1 : u 26 t = _ := (h t ht).1 1 (by omega)
  rw [e0, e1])
theorem ftNe_u {w : Nat → Int32} {u : Nat → Nat → Int32} (h : ftEe w u) (x : Int32) : ftNearM (u 25) (u 29) (w (44 + 9)) (ftCE w).1 x = ftCNe w x := ftFst_cong _ (fun t ht => by
  have e0 : u 25 t = _ := (h t ht).1 0 (by omega)
  have e1 : u 29 t = _ := (h t ht).1 4 (by omega)
  rw [e0, e1])
theorem ftSt_u {w : Nat → Int32} {u : Nat → Nat → Int32} (h : ftEe w u) (k : Nat) : ftStandM (u 25) (u 26) (u 29) w (ftCE w).1 k = ftCSt w k := by
  unfold ftCSt ftStandM
  have e1 := ftNe_u h (w (4 + 4 * k + 1))
  have e2 := ftOn_u h (w (4 + 4 * k + 1))
  unfold ftCNe at e1
  unfold ftCOn at e2
  rw [e1, e2]
theorem ftSs_u {w : Nat → Int32} {u : Nat → Nat → Int32} (h : ftEe w u) (ho : Int32) : ftStandsM (u 25) (u 26) (u 29) w (ftCE w).1 ho (ftCN w) = ftCSs w ho := ftCount_cong _ (fun k hk => by
  have e := ftSt_u h k
  unfold ftCSt at e
  rw [e])
theorem ftStr_u {w : Nat → Int32} {u : Nat → Nat → Int32} (h : ftEe w u) {e : Nat} (he : e < (ftCE w).1) : ftStrM (u 25) (u 29) w e (ftCN w) ↔ ftStrM ((ftCE w).2.2 0) ((ftCE w).2.2 4) w e (ftCN w) := by
  have e0 : u 25 e = _ := (h e he).1 0 (by omega)
  have e4 : u 29 e = _ := (h e he).1 4 (by omega)
  unfold ftStrM
  rw [e0, e4]
noncomputable def ftEaA (w : Nat → Int32) (x : Int32) : Int32 := ftIte (0 ≤ x ∧ x ≤ nI (ftCL w + 60 - 1)) (if ftCOn w x < 0 then -1000004 else ftCOn w x) (-1000001)
def ftWo (E : ftRs) : Nat → Int32
  | 0 => -1000004
  | k + 1 => if E.2.2 4 k < 3 ∧ (ftWo E k < 0 ∨ E.2.2 2 (ftWo E k).toNatClampNeg < E.2.2 2 k) then nI k else ftWo E k
theorem ftWo_b (E : ftRs) : ∀ k, ftWo E k < 0 ∨ ∃ b, b < k ∧ ftWo E k = nI b := by
  intro k
  induction k with
  | zero => exact Or.inl (show (-1000004 : Int32) < 0 by decide)
  | succ k ih =>
    rw [ftWo]
    split
    · exact Or.inr ⟨k, by omega, rfl⟩
    · rcases ih with h | ⟨b, h1, h2⟩
      · exact Or.inl h
      · exact Or.inr ⟨b, by omega, h2⟩
theorem ftWo_t {E : ftRs} {k : Nat} (h1 : E.2.2 4 k < 3) (h2 : ftWo E k < 0 ∨ E.2.2 2 (ftWo E k).toNatClampNeg < E.2.2 2 k) : nI k = ftWo E (k + 1) := (if_pos ⟨h1, h2⟩).symm
theorem ftWo_f {E : ftRs} {k : Nat} (h1 : ¬ (E.2.2 4 k < 3 ∧ (ftWo E k < 0 ∨ E.2.2 2 (ftWo E k).toNatClampNeg < E.2.2 2 k))) : ftWo E k = ftWo E (k + 1) := (if_neg h1).symm
noncomputable def ftPtK (w : Nat → Int32) (k : Nat) (x : Int32) : Int32 := if x < 4 then w (4 + 4 * k + x.toNatClampNeg) else if x = 4 then ftCSt w k else if ftCSt w k = 0 then ftCNe w (w (4 + 4 * k + 1)) else if ftCSt w k = 1 then ftCOn w (w (4 + 4 * k + 1)) else -1000004
noncomputable def ftPtA (w : Nat → Int32) (a b : Int32) : Int32 := ftIte ((0 ≤ a ∧ a ≤ w 3 - 1) ∧ 0 ≤ b ∧ b ≤ 5) (ftPtK w a.toNatClampNeg b) (-1000001)
noncomputable def ftFiA (w : Nat → Int32) (x : Int32) : Int32 := ftIte (0 ≤ x ∧ x ≤ 3) (if x = 3 then ftCSg w (ftCE w).1 else ftCSs w x) (-1000001)
end
section
/-! the reference: widthFor, pulsesFor, compare -/
/-- of N, N-1 .. (d of them) the last one with P, as number; or NOT_FOUND -/
noncomputable def ftDn (N : Nat) (P : Nat → Prop) : Nat → Int32
  | 0 => -1000004
  | d + 1 => ftIte (P (N - d)) (nI (N - d)) (ftDn N P d)
theorem ftDn_t {N : Nat} {P : Nat → Prop} {j : Nat} (hj : j ≤ N) (h0 : 0 < j) (h : P j) : nI j = ftDn N P (N - (j - 1)) := by
  rw [show N - (j - 1) = (N - j) + 1 by omega, ftDn, show N - (N - j) = j by omega, ftIte_t h]
theorem ftDn_f {N : Nat} {P : Nat → Prop} {j : Nat} {x : Int32} (hj : j ≤ N) (h0 : 0 < j) (e : x = ftDn N P (N - j)) (h : ¬ P j) : x = ftDn N P (N - (j - 1)) := by
  rw [show N - (j - 1) = (N - j) + 1 by omega, ftDn, show N - (N - j) = j by omega, ftIte_f h]
  exact e
theorem ftUpd_self {f : Nat → Int32} {k : Nat} {x : Int32} (h : f k = x) : upd f k x = f := by
  funext t
  unfold upd
  by_cases q : t = k
  · rw [if_pos q, q, h]
  · rw [if_neg q]
theorem ftWf_upd {w : Nat → Int32} (h : ftWf w) {s : Nat} (hs : s < 11) {x : Int32} (h1 : ftLeast (nI s) ≤ x) (h2 : x ≤ ftMost (nI s)) : ftWf (upd w (44 + s) x) := by
  have e : ∀ t, t ≠ 44 + s → upd w (44 + s) x t = w t := fun t ht => ftUpd_ne ht
  have en : ftCN (upd w (44 + s) x) = ftCN w := by unfold ftCN; rw [e 3 (by omega)]
  have ek : ftCK (upd w (44 + s) x) = ftCK w := by unfold ftCK; rw [e 55 (by omega)]
  have hn := ftWf_n h
  obtain ⟨⟨a1, a2, a3, a4, a5, a6⟩, b, c, d⟩ := h
  refine ⟨⟨by rw [e 3 (by omega)]; exact a1, by rw [e 0 (by omega)]; exact a2, by rw [e 1 (by omega)]; exact a3, by rw [e 2 (by omega)]; exact a4, fun k hk => ?_, fun p q hpq hq => ?_⟩, fun t ht => ?_, by rw [e 55 (by omega)]; exact c, fun i hi => ?_⟩
  · rw [en] at hk
    have q := a5 k hk
    unfold ftPartOk at q ⊢
    rw [e _ (by omega), e _ (by omega), e _ (by omega), e _ (by omega), e 0 (by omega)]
    exact q
  · rw [en] at hq
    rw [e _ (by omega), e _ (by omega)]
    exact a6 p q hpq hq
  · by_cases q : t = s
    · subst q; rw [ftUpd_at0]; exact ⟨h1, h2⟩
    · rw [e _ (by omega)]; exact b t ht
  · rw [ek] at hi
    rw [e _ (by omega)]
    exact d i hi
theorem ftWf_w44 {w : Nat → Int32} (h : ftWf w) {j : Nat} (h1 : 1 ≤ j) (h2 : j ≤ 20) : ftWf (upd w 44 (nI j)) := ftWf_upd h (s := 0) (by omega) (by rw [show ftLeast (nI 0) = nI 1 by decide]; exact nI_le h1 (by omega)) (by rw [show ftMost (nI 0) = nI 20 by decide]; exact nI_le h2 (by omega))
theorem ftWf_w48 {w : Nat → Int32} (h : ftWf w) {j : Nat} (h1 : 1 ≤ j) (h2 : j ≤ 32) : ftWf (upd w 48 (nI j)) := ftWf_upd h (s := 4) (by omega) (by rw [show ftLeast (nI 4) = nI 1 by decide]; exact nI_le h1 (by omega)) (by rw [show ftMost (nI 4) = nI 32 by decide]; exact nI_le h2 (by omega))
/-- with this width no part is hidden or missed -/
def ftWq (w : Nat → Int32) (j : Nat) : Prop := ftCSs (upd w 44 (nI j)) 1 + ftCSs (upd w 44 (nI j)) 2 = 0
noncomputable def ftWfA (w : Nat → Int32) : Int32 := ftDn 20 (ftWq w) 20
/-- with so many pulses the noise is quiet -/
def ftPq (w : Nat → Int32) (li : Int32) (j : Nat) : Prop := ∀ t, t < ftCL w + 60 → ftSz (ftNoise (w (44 + 3)) (w (44 + 5)) j t) ≤ li
noncomputable def ftPuA (w : Nat → Int32) (li : Int32) : Int32 := ftIte (0 ≤ li ∧ li ≤ 400) (ftDn 32 (ftPq w li) 32) (-1000001)
abbrev ftCm : Type := Int32 × Int32 × Int32 × Int32
/-- a comparison's step at x, where the difference is y: first place, how many, the greatest, its place -/
def ftCm1 (q : ftCm) (x y li : Int32) : ftCm := (if li < y then x else q.1, q.2.1 + (if li < y then 1 else 0), if q.2.2.1 < y then y else q.2.2.1, if q.2.2.1 ≤ y then x else q.2.2.2)
def ftCmB (v u : Nat → Int32) (li : Int32) (n : Nat) : Nat → ftCm
  | 0 => (-1000004, 0, -1, 0)
  | d + 1 => ftCm1 (ftCmB v u li n d) (nI (n - (d + 1))) (ftSz (v (n - (d + 1)) - u (n - (d + 1)))) li
def ftCmN (w : Nat → Int32) (k : Nat) : Nat := min (ftCL w + 60) (w (56 + k)).toNatClampNeg
def ftCmQ (w : Nat → Int32) (k : Nat) (li : Int32) : ftCm := ftCmB (ftCV w) (fun x => w (59 + 460 * k + x)) li (ftCmN w k) (ftCmN w k)
def ftCmK (w : Nat → Int32) (k : Nat) (li x : Int32) : Int32 := if x = 0 then (ftCmQ w k li).1 else if x = 1 then (ftCmQ w k li).2.1 else if x = 2 then (ftCmQ w k li).2.2.1 else (ftCmQ w k li).2.2.2
theorem ft_dec1 (y : Int32) : y + Int32.ofInt (-1) = y - 1 := by
  have e : Int32.ofInt (-1) = -1 := by decide
  rw [e, Int32.sub_eq_add_neg]
theorem ft_m1 {x : Nat} (h : 0 < x) : nI x - 1 = nI (x - 1) := ft_subN (b := 1) h
theorem ft_m1lt {x : Nat} (hx : x < 2 ^ 31) (h : nI x - 1 < 0) : x = 0 := by
  rcases Nat.eq_zero_or_pos x with q | q
  · exact q
  · rw [ft_m1 q] at h
    exact absurd h (nI_pos (by omega))
theorem ft_m1nlt {x : Nat} (h : ¬ nI x - 1 < 0) : 0 < x := by
  rcases Nat.eq_zero_or_pos x with q | q
  · subst q
    exact absurd (by decide) h
  · exact q
noncomputable def ftCmA (w : Nat → Int32) (a b c : Int32) : Int32 := ftIte ((0 ≤ a ∧ a ≤ w 55 - 1) ∧ (0 ≤ b ∧ b ≤ 50000) ∧ 0 ≤ c ∧ c ≤ 3) (ftCmK w a.toNatClampNeg b c) (-1000001)
end
section
/-! texts: what a text says asks for no more of the row laid before than its parts -/
noncomputable def ftCh {α : Type} (C : Prop) (a b : α) : α := @ite α C (Classical.propDecidable C) a b
theorem ftCh_t {α : Type} {C : Prop} {a b : α} (h : C) : ftCh C a b = a := if_pos h
theorem ftCh_f {α : Type} {C : Prop} {a b : α} (h : ¬ C) : ftCh C a b = b := if_neg h
def ftMeq (m k : Nat → Int32) : Prop := ftMok m ∧ ∀ t, t < 4 + 4 * ftCN m → m t = k t
theorem ftMok_n {m : Nat → Int32} (h : ftMok m) : m 3 = nI (ftCN m) ∧ ftCN m ≤ 10 := by
  obtain ⟨n, h1, h2⟩ := h
  unfold ftCN
  rw [h2, nI_clamp (by omega)]
  exact ⟨rfl, h1⟩
theorem ftMeq_n {m k : Nat → Int32} (h : ftMeq m k) : ftCN m = ftCN k := by unfold ftCN; rw [h.2 3 (by omega)]
theorem ftAl_cong {wd : Int32} {m k : Nat → Int32} {h : Nat} {x : Int32} (e : ftMeq m k) (q : ftAl wd m h x) : ftAl wd k h x := by
  refine ⟨fun a => ⟨(q.1 a).1, by rw [← e.2 3 (by omega)]; exact (q.1 a).2⟩, fun a => ⟨fun r => (q.2 a).1 ?_, by rw [← e.2 3 (by omega)]; exact (q.2 a).2⟩⟩
  obtain ⟨t, h1, h2⟩ := r
  have h1 : t < ftCN k := h1
  rw [← ftMeq_n e] at h1
  exact ⟨t, h1, by rw [e.2 _ (by omega)]; exact h2⟩
theorem ftMeq_sym {m k : Nat → Int32} (h : ftMeq m k) : ftMeq k m := by
  refine ⟨?_, fun t ht => (h.2 t (by rw [ftMeq_n h]; exact ht)).symm⟩
  obtain ⟨n, h1, h2⟩ := h.1
  exact ⟨n, h1, by rw [← h.2 3 (by omega)]; exact h2⟩
theorem ftItOk_1 {tx : Nat → Int32} {tn : Nat} {m k : Nat → Int32} {h p : Nat} (e : ftMeq m k) (q : ftItOk tx tn m h p) : ftItOk tx tn k h p := by
  obtain ⟨a, b, c, d, f⟩ := q
  exact ⟨a, b, fun i hi => by rw [← e.2 0 (by omega)]; exact c i hi, ftAl_cong e d, f⟩
theorem ftPosW_cong {m k : Nat → Int32} {x : Int32} : ∀ n, (∀ t, t < 4 + 4 * n → m t = k t) → ftPosW m x n = ftPosW k x n := by
  intro n
  induction n with
  | zero => intro _; rfl
  | succ n ih =>
    intro h
    rw [ftPosW, ftPosW, h _ (by omega), ih (fun t ht => h t (by omega))]
theorem ftComes_at {w : Nat → Int32} {k t : Nat} {kd x lo re : Int32} (h : t < 4 + 4 * k ∨ 4 + 4 * k + 4 ≤ t) : ftComes w k kd x lo re t = w t := by
  unfold ftComes
  rw [ftUpd_ne (by omega), ftUpd_ne (by omega), ftUpd_ne (by omega), ftUpd_ne (by omega)]
theorem ftComes_in {w u : Nat → Int32} {k t : Nat} {kd x lo re : Int32} (h : 4 + 4 * k ≤ t ∧ t < 4 + 4 * k + 4) : ftComes w k kd x lo re t = ftComes u k kd x lo re t := by
  unfold ftComes upd
  by_cases a : t = 4 + 4 * k + 3
  · rw [if_pos a, if_pos a]
  · rw [if_neg a, if_neg a]
    by_cases b : t = 4 + 4 * k + 2
    · rw [if_pos b, if_pos b]
    · rw [if_neg b, if_neg b]
      by_cases c : t = 4 + 4 * k + 1
      · rw [if_pos c, if_pos c]
      · rw [if_neg c, if_neg c]
        have d : t = 4 + 4 * k + 0 := by omega
        rw [if_pos d, if_pos d]
theorem ftAdd_cong {m k : Nat → Int32} {n : Nat} {kd x lo re : Int32} (h : ∀ t, t < 4 + 4 * n → m t = k t) : ∀ t, t < 4 + 4 * (n + 1) → ftAdd m n kd x lo re t = ftAdd k n kd x lo re t := by
  intro t ht
  have ep := ftPosW_cong (x := x) n h
  have hle := ftPosW_le k x n
  unfold ftAdd
  rw [ep]
  generalize ftPosW k x n = j at hle
  by_cases a : t = 3
  · subst a; rw [ftUpd_at0, ftUpd_at0]
  · rw [ftUpd_ne a, ftUpd_ne a]
    by_cases b : 4 + 4 * j ≤ t ∧ t < 4 + 4 * j + 4
    · exact ftComes_in b
    · rw [ftComes_at (by omega), ftComes_at (by omega)]
      unfold ftShP
      by_cases c : 4 + 4 * j + 4 ≤ t ∧ t < 4 + 4 * n + 4
      · rw [if_pos c, if_pos c]; exact h _ (by omega)
      · rw [if_neg c, if_neg c]; exact h _ (by omega)
theorem ftIw_3 {tx : Nat → Int32} {tn : Nat} {m : Nat → Int32} {h p : Nat} (q : ftItOk tx tn m h p) (h3 : ftIw tx tn p < 3) : (ftIw tx tn p).toNatClampNeg < 3 ∧ ftIw tx tn p = nI (ftIw tx tn p).toNatClampNeg := by
  have h0 := Int32.not_lt.mp q.1
  exact ⟨ftI_lt (N := 3) h0 h3 (by omega), (ftI_nat h0).1⟩
theorem ftItM_cong {tx : Nat → Int32} {tn : Nat} {m k : Nat → Int32} {h p : Nat} (e : ftMeq m k) (q : ftItOk tx tn m h p) : ftMeq (ftItM tx tn m p) (ftItM tx tn k p) := by
  refine ⟨ftItM_ok e.1 q, ?_⟩
  have hn := ftMok_n e.1
  have hk := ftMeq_n e
  unfold ftItM
  rcases Classical.em (ftIw tx tn p < 3) with c | c
  · rw [if_pos c, if_pos c]
    have h3 := (ftIw_3 q c).1
    have ec : ftCN (upd m (ftIw tx tn p).toNatClampNeg (ftIv tx tn p 0)) = ftCN m := by unfold ftCN; rw [ftUpd_ne (by omega)]
    rw [ec]
    intro t ht
    by_cases z : t = (ftIw tx tn p).toNatClampNeg
    · rw [z, ftUpd_at0, ftUpd_at0]
    · rw [ftUpd_ne z, ftUpd_ne z]; exact e.2 t ht
  · rw [if_neg c, if_neg c]
    have en : (m 3).toNatClampNeg = ftCN m := rfl
    have ek : (k 3).toNatClampNeg = ftCN m := hk.symm
    rw [en, ek]
    have hlt : ftCN m < 10 := by
      have := (q.2.2.2.1.2 c).2
      rcases Nat.lt_or_ge (ftCN m) 10 with r | r
      · exact r
      · exact absurd (by rw [hn.1, show ftCN m = 10 by omega]; rfl) this
    have ec : ftCN (ftAdd m (ftCN m) (ftIw tx tn p - 3) (ftIv tx tn p 0) (ftIv tx tn p 1) (if ftIw tx tn p = 4 then ftIv tx tn p 2 else 0)) = ftCN m + 1 := by
      show (ftAdd _ _ _ _ _ _ 3).toNatClampNeg = _
      rw [ftAdd_3, nI_clamp (by omega)]
    rw [ec]
    exact ftAdd_cong e.2
theorem ftPar_cong {tx : Nat → Int32} {tn : Nat} : ∀ (f p h : Nat) (m k : Nat → Int32), ftMeq m k → (ftPar tx tn f p h m = none ∧ ftPar tx tn f p h k = none) ∨ ∃ a b, ftPar tx tn f p h m = some a ∧ ftPar tx tn f p h k = some b ∧ ftMeq a b := by
  intro f
  induction f with
  | zero => intro p h m k e; exact Or.inr ⟨m, k, rfl, rfl, e⟩
  | succ f ih =>
    intro p h m k e
    by_cases c : p < tn
    · have um : ftPar tx tn (f + 1) p h m = ftCh (ftItOk tx tn m h p) (ftPar tx tn f (ftItP tx tn p) (ftItH tx tn h p) (ftItM tx tn m p)) none := by rw [ftPar, if_pos c]; rfl
      have uk : ftPar tx tn (f + 1) p h k = ftCh (ftItOk tx tn k h p) (ftPar tx tn f (ftItP tx tn p) (ftItH tx tn h p) (ftItM tx tn k p)) none := by rw [ftPar, if_pos c]; rfl
      rw [um, uk]
      rcases Classical.em (ftItOk tx tn m h p) with q | q
      · rw [ftCh_t q, ftCh_t (ftItOk_1 e q)]
        exact ih _ _ _ _ (ftItM_cong e q)
      · rw [ftCh_f q, ftCh_f (fun r => q (ftItOk_1 (ftMeq_sym e) r))]
        exact Or.inl ⟨rfl, rfl⟩
    · rw [ftPar, if_neg c, ftPar, if_neg c]
      exact Or.inr ⟨m, k, rfl, rfl, e⟩
theorem ftMd0_eq (m k : Nat → Int32) : ftMeq (ftMd0 m) (ftMd0 k) := by
  have e3 : ftMd0 m 3 = nI 0 := rfl
  have en : ftCN (ftMd0 m) = 0 := by unfold ftCN; rw [e3, nI_clamp (by omega)]
  refine ⟨⟨0, by omega, e3⟩, fun t ht => ?_⟩
  rw [en] at ht
  match t, ht with
  | 0, _ => rfl
  | 1, _ => rfl
  | 2, _ => rfl
  | 3, _ => rfl
noncomputable def ftCPar (tx : Nat → Int32) (tn : Nat) : Option (Nat → Int32) := ftPars tx tn (fun _ => 0)
noncomputable def ftCPm (tx : Nat → Int32) (tn : Nat) : Nat → Int32 := (ftCPar tx tn).getD (fun _ => 0)
theorem ftPars_c (tx : Nat → Int32) (tn : Nat) (md : Nat → Int32) : (ftPars tx tn md = none ↔ ftCPar tx tn = none) ∧ ∀ a, ftPars tx tn md = some a → ftCPar tx tn = some (ftCPm tx tn) ∧ ftMeq a (ftCPm tx tn) := by
  rcases ftPar_cong (tx := tx) (tn := tn) (tn - 0 + 1) 0 0 _ _ (ftMd0_eq md (fun _ => 0)) with ⟨h1, h2⟩ | ⟨a, b, h1, h2, h3⟩
  · have h1 : ftPars tx tn md = none := h1
    have h2 : ftCPar tx tn = none := h2
    exact ⟨⟨fun _ => h2, fun _ => h1⟩, fun a h => by rw [h1] at h; cases h⟩
  · have h1 : ftPars tx tn md = some a := h1
    have h2 : ftCPar tx tn = some b := h2
    refine ⟨⟨fun h => (by rw [h1] at h; cases h), fun h => (by rw [h2] at h; cases h)⟩, fun c h => ?_⟩
    rw [h1] at h
    cases h
    have hm : ftCPm tx tn = b := by unfold ftCPm; rw [h2]; rfl
    rw [hm]
    exact ⟨h2, h3⟩
def ftLayW (w m : Nat → Int32) : Nat → Int32 := fun t => if t < 44 then (if t < 4 + 4 * ftCN m then m t else 0) else w t
theorem ftLayW_cong {w m k : Nat → Int32} (h : ftMeq m k) : ftLayW w m = ftLayW w k := by
  funext t
  unfold ftLayW
  rw [← ftMeq_n h]
  by_cases a : t < 44
  · rw [if_pos a, if_pos a]
    by_cases b : t < 4 + 4 * ftCN m
    · rw [if_pos b, if_pos b, h.2 t b]
    · rw [if_neg b, if_neg b]
  · rw [if_neg a, if_neg a]
/-! what the changes make of a row -/
def ftAdV (w : Nat → Int32) (k x lo re : Int32) : Prop := ((0 ≤ k ∧ k ≤ 2) ∧ (1 ≤ x ∧ x ≤ w 0 - 1) ∧ ((k = 1 ∧ 1 ≤ re ∧ re ≤ 20000) ∨ (¬ k = 1 ∧ re = 0))) ∧ ((if k = 0 then -500 else 0) ≤ lo ∧ lo ≤ (if k = 2 then 50 else 5000))
def ftAdC (w : Nat → Int32) (k x lo re : Int32) : Prop := ftAdV w k x lo re ∧ ftPa w x (ftCN w) < 0 ∧ ¬ w 3 = 10
noncomputable def ftAdA (w : Nat → Int32) (k x lo re : Int32) : Int32 := ftIte (ftAdV w k x lo re) (ftIte (ftPa w x (ftCN w) < 0) (ftIte (w 3 = 10) (-1000003) (nI (ftPosW w x (ftCN w)))) (-1000002)) (-1000001)
def ftShD (u : Nat → Int32) (k j : Nat) : Nat → Int32 := fun t => if 4 + 4 * k ≤ t ∧ t < j then u (t + 4) else u t
theorem ftShD_0 (u : Nat → Int32) (k : Nat) : u = ftShD u k (4 + 4 * k) := funext fun t => (if_neg (by omega)).symm
theorem ftShD_s {u : Nat → Int32} {k j : Nat} (h : 4 + 4 * k ≤ j) : upd (ftShD u k j) j (ftShD u k j (j + 4)) = ftShD u k (j + 1) := by
  have e : ftShD u k j (j + 4) = u (j + 4) := if_neg (by omega)
  rw [e]
  funext t
  unfold upd ftShD
  by_cases q : t = j
  · subst q; rw [if_pos rfl, if_pos (by omega)]
  · rw [if_neg q]
    by_cases r : 4 + 4 * k ≤ t ∧ t < j
    · rw [if_pos r, if_pos (by omega)]
    · rw [if_neg r, if_neg (by omega)]
def ftDel (w : Nat → Int32) (k : Nat) : Nat → Int32 := ftShD (upd w 3 (nI (ftCN w - 1))) k (4 + 4 * (ftCN w - 1))
def ftRmC (w : Nat → Int32) (x : Int32) : Prop := 0 ≤ x ∧ x ≤ w 3 - 1
def ftSetC (x v : Int32) : Prop := (0 ≤ x ∧ x ≤ 10) ∧ ftLeast x ≤ v ∧ v ≤ ftMost x
/-- traces kept: the oldest of three gone, the present one behind -/
def ftShK (f : Nat → Int32) (j : Nat) : Nat → Int32 := fun t => if 59 ≤ t ∧ t < j then f (t + 460) else f t
theorem ftShK_0 (f : Nat → Int32) : f = ftShK f 59 := funext fun t => (if_neg (by omega)).symm
theorem ftShK_s {f : Nat → Int32} {j : Nat} (h : 59 ≤ j) : upd (ftShK f j) j (ftShK f j (j + 460)) = ftShK f (j + 1) := by
  have e : ftShK f j (j + 460) = f (j + 460) := if_neg (by omega)
  rw [e]
  funext t
  unfold upd ftShK
  by_cases q : t = j
  · subst q; rw [if_pos rfl, if_pos (by omega)]
  · rw [if_neg q]
    by_cases r : 59 ≤ t ∧ t < j
    · rw [if_pos r, if_pos (by omega)]
    · rw [if_neg r, if_neg (by omega)]
def ftKs (w : Nat → Int32) : Nat → Int32 := if ftCK w = 3 then upd (ftShK (upd (upd w 56 (w 57)) 57 (w 58)) 979) 55 2 else w
def ftKk (w : Nat → Int32) : Nat := if ftCK w = 3 then 2 else ftCK w
def ftKeep (w : Nat → Int32) : Nat → Int32 := upd (upd (ftSeg (ftCV w) (ftKs w) (59 + 460 * ftKk w) (ftCL w + 60)) (56 + ftKk w) (nI (ftCL w + 60))) 55 (nI (ftKk w + 1))
theorem ftSeg_cong {g k f : Nat → Int32} {o X : Nat} (h : ∀ x, x < X → g x = k x) : ftSeg g f o X = ftSeg k f o X := by
  funext t
  unfold ftSeg
  by_cases q : o ≤ t ∧ t < o + X
  · rw [if_pos q, if_pos q, h _ (by omega)]
  · rw [if_neg q, if_neg q]
theorem ftSeg_lo {g f : Nat → Int32} {o X t : Nat} (h : t < o) : ftSeg g f o X t = f t := if_neg (by omega)
theorem ftKs_lo {w : Nat → Int32} {t : Nat} (h : t < 55) : ftKs w t = w t := by
  unfold ftKs
  by_cases q : ftCK w = 3
  · rw [if_pos q, ftUpd_ne (by omega)]
    unfold ftShK
    rw [if_neg (by omega), ftUpd_ne (by omega), ftUpd_ne (by omega)]
  · rw [if_neg q]
end
section

end
section
/-! what lies outside the worlds: texts, tables of the class -/
def ftLe : List Nat := [6, 11, 3, 6, 9, 6]
def ftBy : List (List Int32) := [[108, 101, 110, 103, 116, 104], [97, 116, 116, 101, 110, 117, 97, 116, 105, 111, 110], [101, 110, 100], [115, 112, 108, 105, 99, 101], [99, 111, 110, 110, 101, 99, 116, 111, 114], [99, 104, 97, 110, 103, 101]]
def ftNi : List Nat := [97, 98, 100, 102, 104, 106]
def ftNt : List String := ["length", "attenuation", "end", "splice", "connector", "change"]
def ftTbs : List (List Int32) := [[1, 100, 0, 0, 1, 0, 10, 5, 0, 0, 0], [20, 5000, 40000, 400, 32, 65535, 5000, 2000, 40000, 20, 2000], [5, 1500, 9000, 0, 4, 1, 600, 60, 8000, 3, 150]]
def ftTb (k : Nat) : Nat → Int32 := fun j => (ftTbs.getD k []).getD j 0
def ftTn9 : List String := ["LEAST_VALUES", "GREATEST_VALUES", "FIRST_VALUES"]
def ftSt (sK sV : Nat → Nat) (A : Nat → Prop) (U : State) (H : Heap) : Prop :=
  vk_S 6 ftLe ftBy sK sV A U H ∧ va_Z "java/lang/String" "COMPACT_STRINGS" "Z" (.int 1) A U H ∧ va_Zq "jdk/internal/util/Preconditions" "SIOOBE_FORMATTER" "Ljava/util/function/BiFunction;" A U H ∧ (∀ i, i < 6 → vk_R RX5 (ftNi.getD i 0) (ftNt.getD i "") (sK i) U) ∧ (∀ k, k < 3 → va_T .int (sV (6 + k)) 11 (fun j => .int (ftTb k j)) A U H) ∧ ∀ k, k < 3 → va_Z "FiberTrace" (ftTn9.getD k "") "[I" (.ref (sV (6 + k))) A U H
theorem ftSt.go {sK sV : Nat → Nat} {A B : Nat → Prop} {s U : State} {H : Heap} {locs : List Loc} (h : ftSt sK sV A s s.heap) (hS : va_S A s.heap H locs) (hB : ∀ q, B q → A q) (hU : U.heap = H) (hW : s.WarmedH U.vm) : ftSt sK sV B U U.heap := by
  obtain ⟨h1, h2, h3, h4, h5, h6⟩ := h
  rw [hU]
  exact ⟨vk_S.moved hW.alike ((h1.kept hS.2.1).narrow hB), va_Z.moved hW.alike ((h2.kept hS.2.1).narrow hB), va_Zq.moved hW.alike ((h3.kept hS.2.1).narrow hB), fun i hi => vk_R.warm hW (h4 i hi), fun k hk => va_T.moved hW.alike (((h5 k hk).kept hS.2.1).narrow hB), fun k hk => va_Z.moved hW.alike (((h6 k hk).kept hS.2.1).narrow hB)⟩
theorem ftSt.call {sK sV : Nat → Nat} {A : Nat → Prop} {U : State} {g : JFrame} {mk : MethodId} {a : Array Value} (h : ftSt sK sV A U U.heap) : ftSt sK sV A (U.calling g mk a) (U.calling g mk a).heap := by
  obtain ⟨h1, h2, h3, h4, h5, h6⟩ := h
  have al : U.vm.Alike (U.calling g mk a).vm := Vm.Alike.refl U.vm
  exact ⟨vk_S.moved al h1, va_Z.moved al h2, va_Zq.moved al h3, fun i hi => vk_R.same (u := U) rfl (h4 i hi), fun k hk => va_T.moved al (h5 k hk), fun k hk => va_Z.moved al (h6 k hk)⟩
abbrev ftROS (D : va_G) (cI cS : ClassId) (sK sV : Nat → Nat) (av : List Value) (ws : va_W) : Array Value → State → Prop := va_Pc av (fun U => va_P D vwCl ws U.heap ∧ ftK D cI cS U ∧ ftSt sK sV (fun _ => False) U U.heap)
abbrev ftRWS (D : va_G) (cI cS : ClassId) (sK sV : Nat → Nat) (av : List Value) (ws : va_W) (sz : Nat) : Array Value → State → Prop := va_Pc av (fun U => U.heap.size = sz ∧ va_P D vwCl ws U.heap ∧ ftK D cI cS U ∧ va_D (fun _ => True) ws ∧ ftSt sK sV (va_A ws sz) U U.heap)
theorem ft_blindROS {D : va_G} {cI cS : ClassId} {sK sV : Nat → Nat} {av : List Value} {ws : va_W} : FrameBlind (ftROS D cI cS sK sV av ws) := fun a U g mk q => ⟨q.1, q.2.1, q.2.2.1.call, q.2.2.2.call⟩
theorem ft_blindRWS {D : va_G} {cI cS : ClassId} {sK sV : Nat → Nat} {av : List Value} {ws : va_W} {sz : Nat} : FrameBlind (ftRWS D cI cS sK sV av ws sz) := fun a U g mk q => ⟨q.1, q.2.1, q.2.2.1, q.2.2.2.1.call, q.2.2.2.2.1, q.2.2.2.2.2.call⟩
/-- the end of one that writes nothing and answers nothing -/
def ftSv : Array Value → State → Outcome → State → Prop := fun _ st oc t => oc = .returned none ∧ t.heap = st.heap
theorem ft_csv {p : Program} {l : Launch} {e : Env} {R : Room} {s : State} {m : MethodId} {args : Array Value} {below : List Frame} {meth : Method} {c : Code} {H : Heap} {locs : List Loc} {cells slots : Nat} {Q : State → Prop} {a : Array Value} {st0 rest : List Value} {pc : Nat} {ls : Array Slot} (hr : va_Run p l e R s m args below meth c H locs cells slots 0 0 (F0 m pc ls st0) rest (ftSv a) (fun _ => False))
    (kk : W p l e R s m args below meth c H locs cells slots Q (F0 m (pc + 3) ls rest)) : W p l e R s m args below meth c H locs cells slots Q (F0 m pc ls st0) := by
  intro T hT X
  obtain ⟨v, st₀, t, T', L, h0, X', hL, e1, -, ⟨hv, hh⟩, st⟩ := hr T hT X
  cases hv
  obtain ⟨t2, a1, b1⟩ := kk T' (by rw [e1, hh, h0]) (Stand.forget X' (fun q h => (hL q h).elim))
  exact ⟨t2, st t2 a1, b1⟩
section FTST
variable {D : va_G} {cI cS : ClassId} {sK sV : Nat → Nat} {As : List Value} {ws wc : va_W} {s : State} {H : Heap} {A : Nat → Prop} {locs : List Loc}
theorem ft_preROS (hP : va_P D vwCl ws H) (hK : ftK D cI cS s) (hSt : ftSt sK sV A s s.heap) (hS : va_S A s.heap H locs) (is : List Nat) (hs : is.filterMap (fun i => ws[i]?) = wc) : PreS s H (ftROS D cI cS sK sV As wc) As :=
  ⟨ft_blindROS, fun U hU hW => ⟨rfl, by rw [hU]; exact hP.sub is hs, hK.warm hW, hSt.go hS (fun _ h => h.elim) hU hW⟩⟩
theorem ft_preROVS {a q0 ci : Nat} {q : vw_C} {fs : List Value} (hP : va_P D vwCl ws H) (hK : ftK D cI cS s) (hSt : ftSt sK sV A s s.heap) (hS : va_S A s.heap H locs) (is : List Nat) (hs : is.filterMap (fun i => ws[i]?) = wc) (hc : vwCl[ci]? = some q) (he : ws[q0]? = some (a, .inr (ci, fs))) : PreV s H q.1 a (ftROS D cI cS sK sV (.ref a :: As) wc) As :=
  ⟨ft_blindROS, va_recv hK.1 hP hc he, fun U hU hW => ⟨rfl, by rw [hU]; exact hP.sub is hs, hK.warm hW, hSt.go hS (fun _ h => h.elim) hU hW⟩⟩
theorem ft_preJ {a : Nat} {C : String} (hP : va_P D vwCl ws H) (hK : ftK D cI cS s) (hSt : ftSt sK sV A s s.heap) (hS : va_S A s.heap H locs) (hr : ∃ cell : Cell, H[a]? = some cell ∧ cell.vm.isStatics = false ∧ s.vm.findClass C = some cell.cls) (is : List Nat) (hs : is.filterMap (fun i => ws[i]?) = wc) : PreV s H C a (ftROS D cI cS sK sV (.ref a :: As) wc) As :=
  ⟨ft_blindROS, hr, fun U hU hW => ⟨rfl, by rw [hU]; exact hP.sub is hs, hK.warm hW, hSt.go hS (fun _ h => h.elim) hU hW⟩⟩
theorem ft_preRWS (hP : va_P D vwCl ws H) (hD : va_D A ws) (hK : ftK D cI cS s) (hSt : ftSt sK sV A s s.heap) (hS : va_S A s.heap H locs) (hA : ∀ q, s.heap.size ≤ q → A q) (is : List Nat) (hs : is.filterMap (fun i => ws[i]?) = wc) (hn : va_nd is = true) (hm : is.map (fun i => ws[i]?) = wc.map some) : PreS s H (ftRWS D cI cS sK sV As wc H.size) As :=
  ⟨ft_blindRWS, fun U hU hW => ⟨rfl, by rw [hU], by rw [hU]; exact hP.sub is hs, hK.warm hW, (hD.sub is hn hm).weaken (fun _ _ _ _ => trivial), hSt.go hS (va_free hD hS hA is hm) hU hW⟩⟩
theorem ft_preRWVS {a q0 ci : Nat} {q : vw_C} {fs : List Value} (hP : va_P D vwCl ws H) (hD : va_D A ws) (hK : ftK D cI cS s) (hSt : ftSt sK sV A s s.heap) (hS : va_S A s.heap H locs) (hA : ∀ q, s.heap.size ≤ q → A q) (is : List Nat) (hs : is.filterMap (fun i => ws[i]?) = wc) (hn : va_nd is = true) (hm : is.map (fun i => ws[i]?) = wc.map some) (hc : vwCl[ci]? = some q) (he : ws[q0]? = some (a, .inr (ci, fs))) : PreV s H q.1 a (ftRWS D cI cS sK sV (.ref a :: As) wc H.size) As :=
  ⟨ft_blindRWS, va_recv hK.1 hP hc he, fun U hU hW => ⟨rfl, by rw [hU], by rw [hU]; exact hP.sub is hs, hK.warm hW, (hD.sub is hn hm).weaken (fun _ _ _ _ => trivial), hSt.go hS (va_free hD hS hA is hm) hU hW⟩⟩
end FTST
/-- a text's letters are those of the reference's words -/
theorem ftBy_lt : ∀ j, j < 6 → ∀ t, t < ftLe.getD j 0 → (ftBy.getD j []).getD t 0 &&& 255 = ftLt (nI (100 * j + t)) ∧ (((ftBy.getD j []).getD t 0 &&& 255).toUInt32 % 65536).toInt32 = (ftBy.getD j []).getD t 0 &&& 255 ∧ narrow .char (.int ((ftBy.getD j []).getD t 0 &&& 255)) = .int ((ftBy.getD j []).getD t 0 &&& 255) := by decide +kernel
theorem ftLe_ws : ∀ j, j < 6 → ftLe.getD j 0 = ftWs j := by decide +kernel
theorem ftTb_le : ∀ k, k < 11 → ftTb 0 k = ftLeast (nI k) ∧ ftTb 1 k = ftMost (nI k) ∧ ftTb 2 k = ftFirst (nI k) := by decide +kernel
set_option maxHeartbeats 4000000 in
set_option maxRecDepth 100000 in
theorem c_J0_coder_7d493 (l : Launch) (D : va_G) (cI cS : ClassId) (sK sV : Nat → Nat) (j : Nat) (hj : j < 6) : Met l yJ0_coder_7d493 wsJ0_coder_7d493 ({ frames := 0, cells := 0, slots := 0, locals := 0 }) (ftROS D cI cS sK sV [.ref (sK j)] []) (vp_Si (fun o9 => o9 = 0)) 0 0 (fun _ => False) := by
  refine ft_ofWF (cc := cJ0_coder_7d493) (maxL := 1) (ret := (some .byte)) (by decide +kernel) rfl ?_
  intro p e s m args below meth c s₁ B hml hv
  obtain ⟨rfl, hP, hKK, hSt⟩ := hv
  have hS : va_S (fun _ => False) s.heap s.heap [] := va_S.rf
  have hK := hKK.1
  have hx := B.exec
  have hb := B.bytes
  have hr := B.returns
  have hts := atoms_spec (ws := wsJ0_coder_7d493) B.pre
  have hown : s.vm.findClass RJ0 = some m.cls := findClass_of_methodNamed B.named
  have hlocks := B.notSynchronized
  have hP : va_P D vwCl [] s.heap := hP
  have hl := lv_entry ([.ref (sK j)]) (n := 1) (Nat.le_of_ble_eq_true rfl)
  rw [lg_entry_eq]
  generalize (lg_sl ([.ref (sK j)]) ++ List.replicate (1 - (lg_sl ([.ref (sK j)])).length) Slot.unset).toArray = ls at hl ⊢
  have hl : lv_has ls 1 [(0, .ref (sK j))] := hl
  refine va_gets hx hb hSt.2.1 hS hown (hts (.fieldLink RJ0 38 "java/lang/String" "COMPACT_STRINGS" "Z") (by decide +kernel)) (fun _ h9 => h9) dJ0_coder_7d493_0 ?_
  refine lv_if_eq (tgt := 13) hx hb dJ0_coder_7d493_3 (by decide) (fun c3 => ?_) (fun c3 => ?_)
  · exact absurd c3 (by decide)
  · refine lv_aload_n hx hb dJ0_coder_7d493_6 rfl (lv_at hl 0 rfl) ?_
    refine vk_getf hx hb (hSt.1.1 j hj).2.1 hS hown (hts (.fieldLink RJ0 15 "java/lang/String" "coder" "B") (by decide +kernel)) (fun _ h9 => h9) dJ0_coder_7d493_7 ?_
    refine lv_goto (tgt := 14) hx hb dJ0_coder_7d493_10 (by decide) ?_
    exact W.zret (v := 0) hx hb hr (by rfl) (fun t ht hW => ⟨0, rfl, rfl, ht⟩) (fun _ h9 => absurd h9 List.not_mem_nil) dJ0_coder_7d493_14
set_option maxHeartbeats 4000000 in
set_option maxRecDepth 100000 in
theorem c_J0_length_8abf5 (l : Launch) (D : va_G) (cI cS : ClassId) (sK sV : Nat → Nat) (j : Nat) (hj : j < 6) : Met l yJ0_length_8abf5 wsJ0_length_8abf5 ({ frames := 1, cells := 0, slots := 0, locals := 20 }) (ftROS D cI cS sK sV [.ref (sK j)] []) (vp_Si (fun o9 => o9 = nI (ftWs j))) 0 0 (fun _ => False) := by
  refine ft_ofWF (cc := cJ0_length_8abf5) (maxL := 1) (ret := (some .int)) (by decide +kernel) rfl ?_
  intro p e s m args below meth c s₁ B hml hv
  obtain ⟨rfl, hP, hKK, hSt⟩ := hv
  have hS : va_S (fun _ => False) s.heap s.heap [] := va_S.rf
  have hK := hKK.1
  have hx := B.exec
  have hb := B.bytes
  have hr := B.returns
  have hts := atoms_spec (ws := wsJ0_length_8abf5) B.pre
  have hown : s.vm.findClass RJ0 = some m.cls := findClass_of_methodNamed B.named
  have hlocks := B.notSynchronized
  have hP : va_P D vwCl [] s.heap := hP
  have hl := lv_entry ([.ref (sK j)]) (n := 1) (Nat.le_of_ble_eq_true rfl)
  rw [lg_entry_eq]
  generalize (lg_sl ([.ref (sK j)]) ++ List.replicate (1 - (lg_sl ([.ref (sK j)])).length) Slot.unset).toArray = ls at hl ⊢
  have hl : lv_has ls 1 [(0, .ref (sK j))] := hl
  refine lv_aload_n hx hb dJ0_length_8abf5_0 rfl (lv_at hl 0 rfl) ?_
  refine vk_getf hx hb (hSt.1.1 j hj).2.2.1 hS hown (hts (.fieldLink RJ0 9 "java/lang/String" "value" "[B") (by decide +kernel)) (fun _ h9 => h9) dJ0_length_8abf5_1 ?_
  refine va_tlen (v := nI (ftWs j)) hx hb (hSt.1.1 j hj).2.2.2 hS (congrArg Int32.ofNat (ftLe_ws j hj)) dJ0_length_8abf5_4 ?_
  refine lv_aload_n hx hb dJ0_length_8abf5_5 rfl (lv_at hl 0 rfl) ?_
  refine ft_csi (r := 0) (va_runV (C := RJ0) (As := []) (rest := [.int (nI (ftWs j))]) ⟨hx, hb, hml, hown, hts⟩ (c_J0_coder_7d493 l D cI cS sK sV j (by first | assumption | omega)) (cwV 0 hts gJ0_length_8abf5_J0_coder_7d493 rfl rfl rfl (by decide +kernel) ⟨Nat.le_of_ble_eq_true rfl, Nat.le_of_ble_eq_true rfl⟩) (ft_preJ (a := sK j) hP hKK hSt hS (vk_recv hSt.1 (by omega) hS) [] rfl) rfl rfl hl.1 rfl (lv_room (Nat.le_of_ble_eq_true rfl)) dJ0_length_8abf5_6 ⟨Nat.le_of_ble_eq_true rfl, Nat.le_of_ble_eq_true rfl⟩) ?_
  refine lv_ishr hx hb dJ0_length_8abf5_9 ?_
  refine ft_top (y := nI (ftWs j)) (sc_shr0 (Nat.lt_of_le_of_lt (ftWs_le j) (by omega))) ?_
  exact W.iret (v := nI (ftWs j)) hx hb hr (fun t ht hW => ⟨nI (ftWs j), rfl, rfl, ht⟩) (fun _ h9 => absurd h9 List.not_mem_nil) dJ0_length_8abf5_10
set_option maxHeartbeats 4000000 in
set_option maxRecDepth 100000 in
theorem c_J0_isLatin1_aae02 (l : Launch) (D : va_G) (cI cS : ClassId) (sK sV : Nat → Nat) (j : Nat) (hj : j < 6) : Met l yJ0_isLatin1_aae02 wsJ0_isLatin1_aae02 ({ frames := 0, cells := 0, slots := 0, locals := 0 }) (ftROS D cI cS sK sV [.ref (sK j)] []) (vp_Si (fun o9 => o9 = 1)) 0 0 (fun _ => False) := by
  refine ft_ofWF (cc := cJ0_isLatin1_aae02) (maxL := 1) (ret := (some .boolean)) (by decide +kernel) rfl ?_
  intro p e s m args below meth c s₁ B hml hv
  obtain ⟨rfl, hP, hKK, hSt⟩ := hv
  have hS : va_S (fun _ => False) s.heap s.heap [] := va_S.rf
  have hK := hKK.1
  have hx := B.exec
  have hb := B.bytes
  have hr := B.returns
  have hts := atoms_spec (ws := wsJ0_isLatin1_aae02) B.pre
  have hown : s.vm.findClass RJ0 = some m.cls := findClass_of_methodNamed B.named
  have hlocks := B.notSynchronized
  have hP : va_P D vwCl [] s.heap := hP
  have hl := lv_entry ([.ref (sK j)]) (n := 1) (Nat.le_of_ble_eq_true rfl)
  rw [lg_entry_eq]
  generalize (lg_sl ([.ref (sK j)]) ++ List.replicate (1 - (lg_sl ([.ref (sK j)])).length) Slot.unset).toArray = ls at hl ⊢
  have hl : lv_has ls 1 [(0, .ref (sK j))] := hl
  refine va_gets hx hb hSt.2.1 hS hown (hts (.fieldLink RJ0 38 "java/lang/String" "COMPACT_STRINGS" "Z") (by decide +kernel)) (fun _ h9 => h9) dJ0_isLatin1_aae02_0 ?_
  refine lv_if_eq (tgt := 17) hx hb dJ0_isLatin1_aae02_3 (by decide) (fun c3 => ?_) (fun c3 => ?_)
  · exact absurd c3 (by decide)
  · refine lv_aload_n hx hb dJ0_isLatin1_aae02_6 rfl (lv_at hl 0 rfl) ?_
    refine vk_getf hx hb (hSt.1.1 j hj).2.1 hS hown (hts (.fieldLink RJ0 15 "java/lang/String" "coder" "B") (by decide +kernel)) (fun _ h9 => h9) dJ0_isLatin1_aae02_7 ?_
    refine lv_if_ne (tgt := 17) hx hb dJ0_isLatin1_aae02_10 (by decide) (fun c10 => ?_) (fun c10 => ?_)
    · exact absurd rfl c10
    · refine lv_iconst (v := 1) hx hb dJ0_isLatin1_aae02_13 (by decide) ?_
      refine lv_goto (tgt := 18) hx hb dJ0_isLatin1_aae02_14 (by decide) ?_
      exact W.zret (v := 1) hx hb hr (by rfl) (fun t ht hW => ⟨1, rfl, rfl, ht⟩) (fun _ h9 => absurd h9 List.not_mem_nil) dJ0_isLatin1_aae02_18
set_option maxHeartbeats 4000000 in
set_option maxRecDepth 100000 in
theorem c_J3_checkIndex_8e157n (l : Launch) (D : va_G) (cI cS : ClassId) (i n : Nat) (hin : i < n) (hn : n < 1000) : Met l yJ3_checkIndex_8e157 wsJ3_checkIndex_8e157 ({ frames := 1, cells := 0, slots := 0, locals := 30 }) (ftRO D cI cS [.int (nI i), .int (nI n), .null] []) (vp_Si (fun o9 => o9 = nI i)) 0 0 (fun _ => False) := by
  refine ft_ofWF (cc := cJ3_checkIndex_8e157) (maxL := 3) (ret := (some .int)) (by decide +kernel) rfl ?_
  intro p e s m args below meth c s₁ B hml hv
  obtain ⟨rfl, hP, hKK⟩ := hv
  have hK := hKK.1
  have hx := B.exec
  have hb := B.bytes
  have hr := B.returns
  have hts := atoms_spec (ws := wsJ3_checkIndex_8e157) B.pre
  have hown : s.vm.findClass RJ3 = some m.cls := findClass_of_methodNamed B.named
  have hlocks := B.notSynchronized
  have hP : va_P D vwCl [] s.heap := hP
  have hl := lv_entry ([.int (nI i), .int (nI n), .null]) (n := 3) (Nat.le_of_ble_eq_true rfl)
  rw [lg_entry_eq]
  generalize (lg_sl ([.int (nI i), .int (nI n), .null]) ++ List.replicate (3 - (lg_sl ([.int (nI i), .int (nI n), .null])).length) Slot.unset).toArray = ls at hl ⊢
  have hl : lv_has ls 3 [(0, .int (nI i)), (1, .int (nI n)), (2, .null)] := hl
  refine lv_iload_n hx hb dJ3_checkIndex_8e157_0 rfl (lv_at hl 0 rfl) ?_
  refine lv_if_lt (tgt := 9) hx hb dJ3_checkIndex_8e157_1 (by decide) (fun c1 => ?_) (fun c1 => ?_)
  · exact absurd c1 (nI_pos (by omega))
  · refine lv_iload_n hx hb dJ3_checkIndex_8e157_4 rfl (lv_at hl 0 rfl) ?_
    refine lv_iload_n hx hb dJ3_checkIndex_8e157_5 rfl (lv_at hl 1 rfl) ?_
    refine lv_icmp_lt (tgt := 16) hx hb dJ3_checkIndex_8e157_6 (by decide) (fun c6 => ?_) (fun c6 => ?_)
    · have c6n : i < n := ft_ltN (by omega) (by omega) c6
      refine lv_iload_n hx hb dJ3_checkIndex_8e157_16 rfl (lv_at hl 0 rfl) ?_
      exact W.iret (v := nI i) hx hb hr (fun t ht hW => ⟨nI i, rfl, rfl, ht⟩) (fun _ h9 => absurd h9 List.not_mem_nil) dJ3_checkIndex_8e157_17
    · have c6n : n ≤ i := ft_nltN (by omega) (by omega) c6
      exact absurd c6n (by omega)
set_option maxHeartbeats 4000000 in
set_option maxRecDepth 100000 in
theorem c_J3_checkIndex_8e157r (l : Launch) (D : va_G) (cI cS : ClassId) (i n t9 : Nat) (hin : i < n) (hn : n < 1000) : Met l yJ3_checkIndex_8e157 wsJ3_checkIndex_8e157 ({ frames := 1, cells := 0, slots := 0, locals := 30 }) (ftRO D cI cS [.int (nI i), .int (nI n), .ref t9] []) (vp_Si (fun o9 => o9 = nI i)) 0 0 (fun _ => False) := by
  refine ft_ofWF (cc := cJ3_checkIndex_8e157) (maxL := 3) (ret := (some .int)) (by decide +kernel) rfl ?_
  intro p e s m args below meth c s₁ B hml hv
  obtain ⟨rfl, hP, hKK⟩ := hv
  have hK := hKK.1
  have hx := B.exec
  have hb := B.bytes
  have hr := B.returns
  have hts := atoms_spec (ws := wsJ3_checkIndex_8e157) B.pre
  have hown : s.vm.findClass RJ3 = some m.cls := findClass_of_methodNamed B.named
  have hlocks := B.notSynchronized
  have hP : va_P D vwCl [] s.heap := hP
  have hl := lv_entry ([.int (nI i), .int (nI n), .ref t9]) (n := 3) (Nat.le_of_ble_eq_true rfl)
  rw [lg_entry_eq]
  generalize (lg_sl ([.int (nI i), .int (nI n), .ref t9]) ++ List.replicate (3 - (lg_sl ([.int (nI i), .int (nI n), .ref t9])).length) Slot.unset).toArray = ls at hl ⊢
  have hl : lv_has ls 3 [(0, .int (nI i)), (1, .int (nI n)), (2, .ref t9)] := hl
  refine lv_iload_n hx hb dJ3_checkIndex_8e157_0 rfl (lv_at hl 0 rfl) ?_
  refine lv_if_lt (tgt := 9) hx hb dJ3_checkIndex_8e157_1 (by decide) (fun c1 => ?_) (fun c1 => ?_)
  · exact absurd c1 (nI_pos (by omega))
  · refine lv_iload_n hx hb dJ3_checkIndex_8e157_4 rfl (lv_at hl 0 rfl) ?_
    refine lv_iload_n hx hb dJ3_checkIndex_8e157_5 rfl (lv_at hl 1 rfl) ?_
    refine lv_icmp_lt (tgt := 16) hx hb dJ3_checkIndex_8e157_6 (by decide) (fun c6 => ?_) (fun c6 => ?_)
    · have c6n : i < n := ft_ltN (by omega) (by omega) c6
      refine lv_iload_n hx hb dJ3_checkIndex_8e157_16 rfl (lv_at hl 0 rfl) ?_
      exact W.iret (v := nI i) hx hb hr (fun t ht hW => ⟨nI i, rfl, rfl, ht⟩) (fun _ h9 => absurd h9 List.not_mem_nil) dJ3_checkIndex_8e157_17
    · have c6n : n ≤ i := ft_nltN (by omega) (by omega) c6
      exact absurd c6n (by omega)
set_option maxHeartbeats 4000000 in
set_option maxRecDepth 100000 in
theorem c_J0_checkIndex_df160 (l : Launch) (D : va_G) (cI cS : ClassId) (sK sV : Nat → Nat) (i n : Nat) (hin : i < n) (hn : n < 1000) : Met l yJ0_checkIndex_df160 wsJ0_checkIndex_df160 ({ frames := 2, cells := 0, slots := 0, locals := 52 }) (ftROS D cI cS sK sV [.int (nI i), .int (nI n)] []) (ftSv) 0 0 (fun _ => False) := by
  refine ft_ofWF (cc := cJ0_checkIndex_df160) (maxL := 2) (ret := none) (by decide +kernel) rfl ?_
  intro p e s m args below meth c s₁ B hml hv
  obtain ⟨rfl, hP, hKK, hSt⟩ := hv
  have hS : va_S (fun _ => False) s.heap s.heap [] := va_S.rf
  have hK := hKK.1
  have hx := B.exec
  have hb := B.bytes
  have hr := B.returns
  have hts := atoms_spec (ws := wsJ0_checkIndex_df160) B.pre
  have hown : s.vm.findClass RJ0 = some m.cls := findClass_of_methodNamed B.named
  have hlocks := B.notSynchronized
  have hP : va_P D vwCl [] s.heap := hP
  have hl := lv_entry ([.int (nI i), .int (nI n)]) (n := 2) (Nat.le_of_ble_eq_true rfl)
  rw [lg_entry_eq]
  generalize (lg_sl ([.int (nI i), .int (nI n)]) ++ List.replicate (2 - (lg_sl ([.int (nI i), .int (nI n)])).length) Slot.unset).toArray = ls at hl ⊢
  have hl : lv_has ls 2 [(0, .int (nI i)), (1, .int (nI n))] := hl
  refine lv_iload_n hx hb dJ0_checkIndex_df160_0 rfl (lv_at hl 0 rfl) ?_
  refine lv_iload_n hx hb dJ0_checkIndex_df160_1 rfl (lv_at hl 1 rfl) ?_
  rcases hSt.2.2.1 with hz9 | ⟨t9, hz9⟩
  · refine va_gets hx hb hz9 hS hown (hts (.fieldLink RJ0 1053 "jdk/internal/util/Preconditions" "SIOOBE_FORMATTER" "Ljava/util/function/BiFunction;") (by decide +kernel)) (fun _ h9 => h9) dJ0_checkIndex_df160_2 ?_
    refine ft_csi (r := nI i) (va_runS (As := [.int (nI i), .int (nI n), .null]) (rest := []) ⟨hx, hb, hml, hown, hts⟩ (c_J3_checkIndex_8e157n l D cI cS i n (by first | assumption | omega) (by first | assumption | omega)) (va_cwS 3 hts gJ0_checkIndex_df160_J3_checkIndex_8e157 rfl rfl rfl (by decide +kernel) ⟨Nat.le_of_ble_eq_true rfl, Nat.le_of_ble_eq_true rfl⟩) (ft_preRO hP hKK [] rfl) rfl rfl hl.1 rfl (lv_room (Nat.le_of_ble_eq_true rfl)) dJ0_checkIndex_df160_5 ⟨Nat.le_of_ble_eq_true rfl, Nat.le_of_ble_eq_true rfl⟩) ?_
    refine lv_pop hx hb dJ0_checkIndex_df160_8 rfl ?_
    exact W.vret hx hb hr (fun t ht hW => ⟨rfl, ht⟩) (fun _ h9 => absurd h9 List.not_mem_nil) dJ0_checkIndex_df160_9
  · refine va_gets hx hb hz9 hS hown (hts (.fieldLink RJ0 1053 "jdk/internal/util/Preconditions" "SIOOBE_FORMATTER" "Ljava/util/function/BiFunction;") (by decide +kernel)) (fun _ h9 => h9) dJ0_checkIndex_df160_2 ?_
    refine ft_csi (r := nI i) (va_runS (As := [.int (nI i), .int (nI n), .ref t9]) (rest := []) ⟨hx, hb, hml, hown, hts⟩ (c_J3_checkIndex_8e157r l D cI cS i n t9 (by first | assumption | omega) (by first | assumption | omega)) (va_cwS 3 hts gJ0_checkIndex_df160_J3_checkIndex_8e157 rfl rfl rfl (by decide +kernel) ⟨Nat.le_of_ble_eq_true rfl, Nat.le_of_ble_eq_true rfl⟩) (ft_preRO hP hKK [] rfl) rfl rfl hl.1 rfl (lv_room (Nat.le_of_ble_eq_true rfl)) dJ0_checkIndex_df160_5 ⟨Nat.le_of_ble_eq_true rfl, Nat.le_of_ble_eq_true rfl⟩) ?_
    refine lv_pop hx hb dJ0_checkIndex_df160_8 rfl ?_
    exact W.vret hx hb hr (fun t ht hW => ⟨rfl, ht⟩) (fun _ h9 => absurd h9 List.not_mem_nil) dJ0_checkIndex_df160_9
set_option maxHeartbeats 4000000 in
set_option maxRecDepth 100000 in
theorem c_J1_charAt_3b067 (l : Launch) (D : va_G) (cI cS : ClassId) (sK sV : Nat → Nat) (j tq : Nat) (hj : j < 6) (htq : tq < ftWs j) : Met l yJ1_charAt_3b067 wsJ1_charAt_3b067 ({ frames := 3, cells := 0, slots := 0, locals := 73 }) (ftROS D cI cS sK sV [.ref (sV j), .int (nI tq)] []) (vp_Si (fun o9 => o9 = ftLt (nI (100 * j + tq)))) 0 0 (fun _ => False) := by
  refine ft_ofWF (cc := cJ1_charAt_3b067) (maxL := 2) (ret := (some .char)) (by decide +kernel) rfl ?_
  intro p e s m args below meth c s₁ B hml hv
  obtain ⟨rfl, hP, hKK, hSt⟩ := hv
  have hS : va_S (fun _ => False) s.heap s.heap [] := va_S.rf
  have hK := hKK.1
  have hx := B.exec
  have hb := B.bytes
  have hr := B.returns
  have hts := atoms_spec (ws := wsJ1_charAt_3b067) B.pre
  have hown : s.vm.findClass RJ1 = some m.cls := findClass_of_methodNamed B.named
  have hlocks := B.notSynchronized
  have hP : va_P D vwCl [] s.heap := hP
  have hl := lv_entry ([.ref (sV j), .int (nI tq)]) (n := 2) (Nat.le_of_ble_eq_true rfl)
  rw [lg_entry_eq]
  generalize (lg_sl ([.ref (sV j), .int (nI tq)]) ++ List.replicate (2 - (lg_sl ([.ref (sV j), .int (nI tq)])).length) Slot.unset).toArray = ls at hl ⊢
  have hl : lv_has ls 2 [(0, .ref (sV j)), (1, .int (nI tq))] := hl
  have hw11 := ftWs_le j
  have ht8 : tq < ftLe.getD j 0 := by rw [ftLe_ws j hj]; exact htq
  refine lv_iload_n hx hb dJ1_charAt_3b067_0 rfl (lv_at hl 1 rfl) ?_
  refine lv_aload_n hx hb dJ1_charAt_3b067_1 rfl (lv_at hl 0 rfl) ?_
  refine va_tlen (v := nI (ftWs j)) hx hb (hSt.1.1 j hj).2.2.2 hS (congrArg Int32.ofNat (ftLe_ws j hj)) dJ1_charAt_3b067_2 ?_
  refine ft_csv (va_runS (As := [.int (nI tq), .int (nI (ftWs j))]) (rest := []) ⟨hx, hb, hml, hown, hts⟩ (c_J0_checkIndex_df160 l D cI cS sK sV tq (ftWs j) (by first | assumption | omega) (by first | assumption | omega)) (va_cwS 2 hts gJ1_charAt_3b067_J0_checkIndex_df160 rfl rfl rfl (by decide +kernel) ⟨Nat.le_of_ble_eq_true rfl, Nat.le_of_ble_eq_true rfl⟩) (ft_preROS hP hKK hSt hS [] rfl) rfl rfl hl.1 rfl (lv_room (Nat.le_of_ble_eq_true rfl)) dJ1_charAt_3b067_3 ⟨Nat.le_of_ble_eq_true rfl, Nat.le_of_ble_eq_true rfl⟩) ?_
  refine lv_aload_n hx hb dJ1_charAt_3b067_6 rfl (lv_at hl 0 rfl) ?_
  refine lv_iload_n hx hb dJ1_charAt_3b067_7 rfl (lv_at hl 1 rfl) ?_
  refine va_tb hx hb (hSt.1.1 j hj).2.2.2 hS (by rw [ftLe_ws j hj]; exact vp_in_nI htq (by omega)) (v := .int ((ftBy.getD j []).getD tq 0)) (by rw [nI_clamp (by omega)]) dJ1_charAt_3b067_8 ?_
  refine lv_sipush (v := 255) hx hb dJ1_charAt_3b067_9 (by decide) ?_
  refine lv_iand hx hb dJ1_charAt_3b067_12 ?_
  refine lv_i2c (v := ((ftBy.getD j []).getD tq 0) &&& 255) hx hb dJ1_charAt_3b067_13 (ftBy_lt j hj tq ht8).2.1 ?_
  exact W.zret (v := ((ftBy.getD j []).getD tq 0) &&& 255) hx hb hr (by exact (ftBy_lt j hj tq ht8).2.2) (fun t ht hW => ⟨((ftBy.getD j []).getD tq 0) &&& 255, rfl, (by show (((ftBy.getD j []).getD tq 0) &&& 255 : Int32) = ftLt (nI (100 * j + tq)); exact (ftBy_lt j hj tq ht8).1), ht⟩) (fun _ h9 => absurd h9 List.not_mem_nil) dJ1_charAt_3b067_14
set_option maxHeartbeats 4000000 in
set_option maxRecDepth 100000 in
theorem c_J0_charAt_5068e (l : Launch) (D : va_G) (cI cS : ClassId) (sK sV : Nat → Nat) (j tq : Nat) (hj : j < 6) (htq : tq < ftWs j) : Met l yJ0_charAt_5068e wsJ0_charAt_5068e ({ frames := 4, cells := 0, slots := 0, locals := 94 }) (ftROS D cI cS sK sV [.ref (sK j), .int (nI tq)] []) (vp_Si (fun o9 => o9 = ftLt (nI (100 * j + tq)))) 0 0 (fun _ => False) := by
  refine ft_ofWF (cc := cJ0_charAt_5068e) (maxL := 2) (ret := (some .char)) (by decide +kernel) rfl ?_
  intro p e s m args below meth c s₁ B hml hv
  obtain ⟨rfl, hP, hKK, hSt⟩ := hv
  have hS : va_S (fun _ => False) s.heap s.heap [] := va_S.rf
  have hK := hKK.1
  have hx := B.exec
  have hb := B.bytes
  have hr := B.returns
  have hts := atoms_spec (ws := wsJ0_charAt_5068e) B.pre
  have hown : s.vm.findClass RJ0 = some m.cls := findClass_of_methodNamed B.named
  have hlocks := B.notSynchronized
  have hP : va_P D vwCl [] s.heap := hP
  have hl := lv_entry ([.ref (sK j), .int (nI tq)]) (n := 2) (Nat.le_of_ble_eq_true rfl)
  rw [lg_entry_eq]
  generalize (lg_sl ([.ref (sK j), .int (nI tq)]) ++ List.replicate (2 - (lg_sl ([.ref (sK j), .int (nI tq)])).length) Slot.unset).toArray = ls at hl ⊢
  have hl : lv_has ls 2 [(0, .ref (sK j)), (1, .int (nI tq))] := hl
  refine lv_aload_n hx hb dJ0_charAt_5068e_0 rfl (lv_at hl 0 rfl) ?_
  refine ft_csi (r := 1) (va_runV (C := RJ0) (As := []) (rest := []) ⟨hx, hb, hml, hown, hts⟩ (c_J0_isLatin1_aae02 l D cI cS sK sV j (by first | assumption | omega)) (cwV 0 hts gJ0_charAt_5068e_J0_isLatin1_aae02 rfl rfl rfl (by decide +kernel) ⟨Nat.le_of_ble_eq_true rfl, Nat.le_of_ble_eq_true rfl⟩) (ft_preJ (a := sK j) hP hKK hSt hS (vk_recv hSt.1 (by omega) hS) [] rfl) rfl rfl hl.1 rfl (lv_room (Nat.le_of_ble_eq_true rfl)) dJ0_charAt_5068e_1 ⟨Nat.le_of_ble_eq_true rfl, Nat.le_of_ble_eq_true rfl⟩) ?_
  refine lv_if_eq (tgt := 16) hx hb dJ0_charAt_5068e_4 (by decide) (fun c4 => ?_) (fun c4 => ?_)
  · exact absurd c4 (by decide)
  · refine lv_aload_n hx hb dJ0_charAt_5068e_7 rfl (lv_at hl 0 rfl) ?_
    refine vk_getf hx hb (hSt.1.1 j hj).2.2.1 hS hown (hts (.fieldLink RJ0 9 "java/lang/String" "value" "[B") (by decide +kernel)) (fun _ h9 => h9) dJ0_charAt_5068e_8 ?_
    refine lv_iload_n hx hb dJ0_charAt_5068e_11 rfl (lv_at hl 1 rfl) ?_
    refine ft_csi (r := ftLt (nI (100 * j + tq))) (va_runS (As := [.ref (sV j), .int (nI tq)]) (rest := []) ⟨hx, hb, hml, hown, hts⟩ (c_J1_charAt_3b067 l D cI cS sK sV j tq (by first | assumption | omega) (by first | assumption | omega)) (va_cwS 2 hts gJ0_charAt_5068e_J1_charAt_3b067 rfl rfl rfl (by decide +kernel) ⟨Nat.le_of_ble_eq_true rfl, Nat.le_of_ble_eq_true rfl⟩) (ft_preROS hP hKK hSt hS [] rfl) rfl rfl hl.1 rfl (lv_room (Nat.le_of_ble_eq_true rfl)) dJ0_charAt_5068e_12 ⟨Nat.le_of_ble_eq_true rfl, Nat.le_of_ble_eq_true rfl⟩) ?_
    exact W.zret (v := ftLt (nI (100 * j + tq))) hx hb hr (by rw [← (ftBy_lt j hj tq (by rw [ftLe_ws j hj]; exact htq)).1]; exact (ftBy_lt j hj tq (by rw [ftLe_ws j hj]; exact htq)).2.2) (fun t ht hW => ⟨ftLt (nI (100 * j + tq)), rfl, rfl, ht⟩) (fun _ h9 => absurd h9 List.not_mem_nil) dJ0_charAt_5068e_15
set_option maxHeartbeats 4000000 in
set_option maxRecDepth 100000 in
theorem c_X10_att (l : Launch) (D : va_G) (cI cS : ClassId) (sK sV : Nat → Nat) (k : Nat) (i : Int32) (hk : k < 3) : Met l yX10_at wsX10_at ({ frames := 0, cells := 0, slots := 0, locals := 0 }) (ftROS D cI cS sK sV [.ref (sV (6 + k)), .int i] []) (vp_Si (fun o9 => o9 = ftAt 11 (ftTb k) i)) 0 0 (fun _ => False) := by
  refine Met.ofW (cc := cX10_at) (maxL := 2) (ret := (some .int)) (by decide) rfl ?_
  intro p e s m args below meth c s₁ B hml hv
  obtain ⟨rfl, hP, hKK, hSt⟩ := hv
  have hS : va_S (fun _ => False) s.heap s.heap [] := va_S.rf
  have hK := hKK.1
  have hx := B.exec
  have hb := B.bytes
  have hr := B.returns
  have hts := atoms_spec (ws := wsX10_at) B.pre
  have hown : s.vm.findClass RX10 = some m.cls := findClass_of_methodNamed B.named
  have hlocks := B.notSynchronized
  have hP : va_P D vwCl [] s.heap := hP
  have hl := lv_entry ([.ref (sV (6 + k)), .int i]) (n := 2) (Nat.le_of_ble_eq_true rfl)
  rw [lg_entry_eq]
  generalize (lg_sl ([.ref (sV (6 + k)), .int i]) ++ List.replicate (2 - (lg_sl ([.ref (sV (6 + k)), .int i])).length) Slot.unset).toArray = ls at hl ⊢
  have hl : lv_has ls 2 [(0, .ref (sV (6 + k))), (1, .int i)] := hl
  refine lv_aload_n hx hb dX10_at_0 rfl (lv_at hl 0 rfl) ?_
  refine lv_ifnull hx hb dX10_at_1 ?_
  refine lv_iload_n hx hb dX10_at_4 rfl (lv_at hl 1 rfl) ?_
  refine lv_if_lt (tgt := 20) hx hb dX10_at_5 (by decide) (fun c5 => ?_) (fun c5 => ?_)
  · refine lv_iconst (v := 0) hx hb dX10_at_20 (by decide) ?_
    exact W.iret (v := 0) hx hb hr (fun t ht hW => ⟨0, rfl, (by show (0 : Int32) = ftAt 11 (ftTb k) i; first | exact (ftAt_in (ft_in (by omega) c5 c11)).symm | exact (ftAt_out (ft_out (by omega) c5 c11)).symm | exact (ftAt_out (fun q => q (Or.inl c5))).symm), ht⟩) (fun _ h9 => absurd h9 List.not_mem_nil) dX10_at_21
  · refine lv_iload_n hx hb dX10_at_8 rfl (lv_at hl 1 rfl) ?_
    refine lv_aload_n hx hb dX10_at_9 rfl (lv_at hl 0 rfl) ?_
    refine va_tlen (v := nI 11) hx hb (hSt.2.2.2.2.1 k hk) hS rfl dX10_at_10 ?_
    refine lv_icmp_ge (tgt := 20) hx hb dX10_at_11 (by decide) (fun c11 => ?_) (fun c11 => ?_)
    · refine lv_iconst (v := 0) hx hb dX10_at_20 (by decide) ?_
      exact W.iret (v := 0) hx hb hr (fun t ht hW => ⟨0, rfl, (by show (0 : Int32) = ftAt 11 (ftTb k) i; first | exact (ftAt_in (ft_in (by omega) c5 c11)).symm | exact (ftAt_out (ft_out (by omega) c5 c11)).symm | exact (ftAt_out (fun q => q (Or.inl c5))).symm), ht⟩) (fun _ h9 => absurd h9 List.not_mem_nil) dX10_at_21
    · refine lv_aload_n hx hb dX10_at_14 rfl (lv_at hl 0 rfl) ?_
      refine lv_iload_n hx hb dX10_at_15 rfl (lv_at hl 1 rfl) ?_
      refine va_ti hx hb (hSt.2.2.2.2.1 k hk) hS (ft_in (by omega) c5 c11) (v := .int (ftTb k i.toNatClampNeg)) rfl dX10_at_16 ?_
      refine lv_goto (tgt := 21) hx hb dX10_at_17 (by decide) ?_
      exact W.iret (v := ftTb k i.toNatClampNeg) hx hb hr (fun t ht hW => ⟨ftTb k i.toNatClampNeg, rfl, (by show (ftTb k i.toNatClampNeg : Int32) = ftAt 11 (ftTb k) i; first | exact (ftAt_in (ft_in (by omega) c5 c11)).symm | exact (ftAt_out (ft_out (by omega) c5 c11)).symm | exact (ftAt_out (fun q => q (Or.inl c5))).symm), ht⟩) (fun _ h9 => absurd h9 List.not_mem_nil) dX10_at_21
end
section
/-! a part more in a row, in rows of their own -/
section FTADD
variable {w : Nat → Int32} {n k i : Nat} {kd x lo re : Int32}
theorem ftAdd_x (h : i < 4) (hk : k ≠ ftPosW w x n) : ftAdd w n kd x lo re (4 + 4 * k + i) = ftShP w n (ftPosW w x n) (4 + 4 * k + i) := by
  unfold ftAdd
  rw [ftUpd_ne (by omega), ftComes_at (by omega)]
theorem ftAdd_lo (h : i < 4) (hk : k < ftPosW w x n) : ftAdd w n kd x lo re (4 + 4 * k + i) = w (4 + 4 * k + i) := by
  rw [ftAdd_x h (by omega), ftShP_low (by omega)]
theorem ftAdd_hi (h : i < 4) (hk : ftPosW w x n < k) (hn : k ≤ n) : ftAdd w n kd x lo re (4 + 4 * k + i) = w (4 + 4 * (k - 1) + i) := by
  rw [ftAdd_x h (by omega)]
  unfold ftShP
  rw [if_pos (by omega)]
  congr 1
  omega
theorem ftAdd_at0 : ftAdd w n kd x lo re (4 + 4 * ftPosW w x n + 0) = kd := by
  unfold ftAdd ftComes
  rw [ftUpd_ne (by omega), ftUpd_ne (by omega), ftUpd_ne (by omega), ftUpd_ne (by omega), ftUpd_at0]
theorem ftAdd_at1 : ftAdd w n kd x lo re (4 + 4 * ftPosW w x n + 1) = x := by
  unfold ftAdd ftComes
  rw [ftUpd_ne (by omega), ftUpd_ne (by omega), ftUpd_ne (by omega), ftUpd_at0]
theorem ftAdd_at2 : ftAdd w n kd x lo re (4 + 4 * ftPosW w x n + 2) = lo := by
  unfold ftAdd ftComes
  rw [ftUpd_ne (by omega), ftUpd_ne (by omega), ftUpd_at0]
theorem ftAdd_at3 : ftAdd w n kd x lo re (4 + 4 * ftPosW w x n + 3) = re := by
  unfold ftAdd ftComes
  rw [ftUpd_ne (by omega), ftUpd_at0]
theorem ftAdd_l {t : Nat} (h : t < 3) : ftAdd w n kd x lo re t = w t := by
  unfold ftAdd
  rw [ftUpd_ne (by omega), ftComes_at (by omega), ftShP_low (by omega)]
theorem ftAdd_b {t : Nat} (h : 44 ≤ t) (hn : n < 10) : ftAdd w n kd x lo re t = w t := by
  have hp := ftPosW_le w x n
  unfold ftAdd
  rw [ftUpd_ne (by omega), ftComes_at (by omega)]
  unfold ftShP
  rw [if_neg (by omega)]
end FTADD
/-- where a part comes: places below it, places above it -/
theorem ftPosW_hi {w : Nat → Int32} {x : Int32} : ∀ n t, ftPosW w x n ≤ t → t < n → x < w (4 + 4 * t + 1) := by
  intro n
  induction n with
  | zero => intro t _ h; exact absurd h (Nat.not_lt_zero t)
  | succ n ih =>
    intro t h1 h2
    rw [ftPosW] at h1
    by_cases c : x < w (4 + 4 * n + 1)
    · rw [if_pos c] at h1
      by_cases z : t = n
      · subst z; exact c
      · exact ih t h1 (by omega)
    · rw [if_neg c] at h1; omega
theorem ftPosW_lo {w : Nat → Int32} {x : Int32} : ∀ n, (∀ a b, a < b → b < n → w (4 + 4 * a + 1) < w (4 + 4 * b + 1)) → (∀ t, t < n → w (4 + 4 * t + 1) ≠ x) → ∀ t, t < ftPosW w x n → w (4 + 4 * t + 1) < x := by
  intro n
  induction n with
  | zero => intro _ _ t h; exact absurd h (Nat.not_lt_zero t)
  | succ n ih =>
    intro ha hne t ht
    rw [ftPosW] at ht
    by_cases c : x < w (4 + 4 * n + 1)
    · rw [if_pos c] at ht
      exact ih (fun a b h1 h2 => ha a b h1 (by omega)) (fun t h => hne t (by omega)) t ht
    · rw [if_neg c] at ht
      have hn : w (4 + 4 * n + 1) < x := by
        rcases Int32.lt_or_eq_of_le (Int32.not_lt.mp c) with q | q
        · exact q
        · exact absurd q (hne n (by omega))
      by_cases z : t = n
      · subst z; exact hn
      · exact Int32.lt_of_lt_of_le (ha t n (by omega) (by omega)) (Int32.le_of_lt hn)
theorem ftIdx_pos {w pf : Nat → Int32} {x : Int32} {n : Nat} (hp : ∀ t, t < n → w (4 + 4 * t + 1) = pf t) (ha : ∀ a b, a < b → b < n → w (4 + 4 * a + 1) < w (4 + 4 * b + 1)) (hne : ∀ t, t < n → w (4 + 4 * t + 1) ≠ x) : ftIdx pf x n = ftPosW w x n := by
  have hle := ftPosW_le w x n
  refine ftIdx_of hle (fun t ht => ?_) (fun h => ?_)
  · rw [← hp t (by omega)]; exact ftPosW_lo n ha hne t ht
  · rw [← hp _ h]
    exact Int32.not_lt.mpr (Int32.le_of_lt (ftPosW_hi n _ (Nat.le_refl _) h))
def ftNew (k x lo re : Int32) : Prop := (k = 0 ∧ -500 ≤ lo ∧ lo ≤ 5000 ∧ re = 0) ∨ (k = 1 ∧ 0 ≤ lo ∧ lo ≤ 5000 ∧ 1 ≤ re ∧ re ≤ 20000) ∨ (k = 2 ∧ 0 ≤ lo ∧ lo ≤ 50 ∧ re = 0)
theorem ftAdd_cn {w : Nat → Int32} {n : Nat} {kd x lo re : Int32} (hn : n < 10) : ftCN (ftAdd w n kd x lo re) = n + 1 := by
  show (ftAdd _ _ _ _ _ _ 3).toNatClampNeg = _
  rw [ftAdd_3, nI_clamp (by omega)]
theorem ftAdd_lf {w : Nat → Int32} {kd x lo re : Int32} (h : ftLf w) (hn : ftCN w < 10) (hx1 : 1 ≤ x) (hx2 : x < w 0) (hne : ∀ t, t < ftCN w → w (4 + 4 * t + 1) ≠ x) (hv : ftNew kd x lo re) : ftLf (ftAdd w (ftCN w) kd x lo re) := by
  obtain ⟨a1, a2, a3, a4, a5, a6⟩ := id h
  have hc := ftAdd_cn (w := w) (kd := kd) (x := x) (lo := lo) (re := re) hn
  have hle := ftPosW_le w x (ftCN w)
  have hlo := ftPosW_lo (ftCN w) a6 hne
  have hhi := ftPosW_hi (w := w) (x := x) (ftCN w)
  refine ⟨?_, by rw [ftAdd_l (by omega)]; exact a2, by rw [ftAdd_l (by omega)]; exact a3, by rw [ftAdd_l (by omega)]; exact a4, ?_, ?_⟩
  · rw [ftAdd_3]
    exact ⟨nI_pos' (by omega), nI_le (b := 10) (by omega) (by omega)⟩
  · intro k hk
    rw [hc] at hk
    rw [ftAdd_l (show 0 < 3 by omega)]
    unfold ftPartOk
    rcases Nat.lt_trichotomy k (ftPosW w x (ftCN w)) with q | q | q
    · rw [ftAdd_lo (by omega) q, ftAdd_lo (by omega) q, ftAdd_lo (by omega) q, ftAdd_lo (by omega) q]
      exact a5 k (by omega)
    · rw [q, ftAdd_at0, ftAdd_at1, ftAdd_at2, ftAdd_at3]
      exact ⟨hv, hx1, hx2⟩
    · rw [ftAdd_hi (by omega) q (by omega), ftAdd_hi (by omega) q (by omega), ftAdd_hi (by omega) q (by omega), ftAdd_hi (by omega) q (by omega)]
      exact a5 (k - 1) (by omega)
  · intro a b hab hb
    rw [hc] at hb
    rcases Nat.lt_trichotomy a (ftPosW w x (ftCN w)) with q | q | q
    · rw [ftAdd_lo (by omega) q]
      rcases Nat.lt_trichotomy b (ftPosW w x (ftCN w)) with r | r | r
      · rw [ftAdd_lo (by omega) r]; exact a6 a b hab (by omega)
      · rw [r, ftAdd_at1]; exact hlo a q
      · rw [ftAdd_hi (by omega) r (by omega)]
        by_cases z : a = b - 1
        · omega
        · exact a6 a (b - 1) (by omega) (by omega)
    · rw [q, ftAdd_at1, ftAdd_hi (by omega) (by omega) (by omega)]
      exact hhi (b - 1) (by omega) (by omega)
    · rw [ftAdd_hi (by omega) q (by omega), ftAdd_hi (by omega) (by omega) (by omega)]
      exact a6 (a - 1) (b - 1) (by omega) (by omega)
theorem ftLf_mok {w : Nat → Int32} (h : ftLf w) : ftMok w := ⟨ftCN w, ftLf_n h, ftLf_3 h⟩
theorem ft_lt3 {j : Nat} (hj : j < 6) : nI j < 3 ↔ j < 3 := ⟨fun h => ft_ltN (b := 3) (by omega) (by omega) h, fun h => nI_lt (b := 3) h (by omega)⟩
theorem ftRt_new : ∀ j, 3 ≤ j → j < 6 → ∀ {tx : Nat → Int32} {tn p : Nat} {m : Nat → Int32}, (∀ i, i < ftNs (nI j) → ftRt (nI j) i (ftIv tx tn p i) (m 0)) → (1 ≤ ftIv tx tn p 0 ∧ ftIv tx tn p 0 ≤ m 0 - 1) ∧ ftNew (nI j - 3) (ftIv tx tn p 0) (ftIv tx tn p 1) (if nI j = 4 then ftIv tx tn p 2 else 0) := by
  intro j h3 h6 tx tn p m h
  match j, h3, h6 with
  | 3, _, _ =>
    have q0 := h 0 (by decide)
    have q1 := h 1 (by decide)
    have e : ∀ v ln, ftRt (nI 3) 0 v ln = (1 ≤ v ∧ v ≤ ln - 1) := fun v ln => rfl
    have e1 : ∀ v ln, ftRt (nI 3) 1 v ln = (-500 ≤ v ∧ v ≤ 5000) := fun v ln => rfl
    rw [e] at q0
    rw [e1] at q1
    exact ⟨q0, Or.inl ⟨rfl, q1.1, q1.2, rfl⟩⟩
  | 4, _, _ =>
    have q0 := h 0 (by decide)
    have q1 := h 1 (by decide)
    have q2 := h 2 (by decide)
    have e : ∀ v ln, ftRt (nI 4) 0 v ln = (1 ≤ v ∧ v ≤ ln - 1) := fun v ln => rfl
    have e1 : ∀ v ln, ftRt (nI 4) 1 v ln = (0 ≤ v ∧ v ≤ 5000) := fun v ln => rfl
    have e2 : ∀ v ln, ftRt (nI 4) 2 v ln = (1 ≤ v ∧ v ≤ 20000) := fun v ln => rfl
    rw [e] at q0
    rw [e1] at q1
    rw [e2] at q2
    exact ⟨q0, Or.inr (Or.inl ⟨rfl, q1.1, q1.2, q2.1, q2.2⟩)⟩
  | 5, _, _ =>
    have q0 := h 0 (by decide)
    have q1 := h 1 (by decide)
    have e : ∀ v ln, ftRt (nI 5) 0 v ln = (1 ≤ v ∧ v ≤ ln - 1) := fun v ln => rfl
    have e1 : ∀ v ln, ftRt (nI 5) 1 v ln = (0 ≤ v ∧ v ≤ 50) := fun v ln => rfl
    rw [e] at q0
    rw [e1] at q1
    exact ⟨q0, Or.inr (Or.inr ⟨rfl, q1.1, q1.2, rfl⟩)⟩
theorem ft_ltm1 {x y : Int32} (hy : 50 ≤ y) (hx : 1 ≤ x) (h : x ≤ y - 1) : x < y := by
  obtain ⟨ey, ly⟩ := ftI_nat (ftI_ge0 (N := 50) hy (by omega))
  obtain ⟨ex, lx⟩ := ftI_nat (ftI_ge0 (N := 1) hx (by omega))
  have h50 := ftI_ge (N := 50) (ftI_ge0 (N := 50) hy (by omega)) hy (by omega)
  rw [ex, ey] at h ⊢
  rw [show nI y.toNatClampNeg - 1 = nI (y.toNatClampNeg - 1) from ft_subN (b := 1) (by omega)] at h
  have := ft_leN lx (by omega) h
  exact nI_lt (by omega) ly
theorem ftItM_lf {tx : Nat → Int32} {tn : Nat} {m : Nat → Int32} {h p : Nat} (hm : ftLf m) (q : ftItOk tx tn m h p) : ftLf (ftItM tx tn m p) := by
  obtain ⟨b1, b2, b3, b4, -⟩ := id q
  obtain ⟨j, hj, hW⟩ : ∃ j, j < 6 ∧ ftIw tx tn p = nI j := by
    rcases ftWd_c tx p (ftRun tx tn p) 6 with r | ⟨j, r1, r2, -⟩
    · exact absurd (show ftIw tx tn p < 0 by unfold ftIw; rw [r]; decide) b1
    · exact ⟨j, r1, r2⟩
  obtain ⟨a1, a2, a3, a4, a5, a6⟩ := id hm
  unfold ftItM
  rw [hW] at b2 b3 b4 ⊢
  rcases Nat.lt_or_ge j 3 with c | c
  · rw [if_pos ((ft_lt3 hj).mpr c), nI_clamp (by omega)]
    have h0 := (b4.1 ((ft_lt3 hj).mpr c)).2
    have hn0 : ftCN m = 0 := by
      have e := ftLf_3 hm
      rw [e] at h0
      exact ft_le0 (by have := ftLf_n hm; omega) h0
    have hr := b3 0 (by rw [ftNs_1 ((ft_lt3 hj).mpr c)]; omega)
    have e3 : ∀ v, upd m j v 3 = m 3 := fun v => ftUpd_ne (by omega)
    have ec : ∀ v, ftCN (upd m j v) = 0 := fun v => by unfold ftCN; rw [e3]; exact hn0
    match j, c with
    | 0, _ =>
      have hr : 50 ≤ ftIv tx tn p 0 ∧ ftIv tx tn p 0 ≤ 400 := hr
      exact ⟨by rw [e3]; exact a1, hr, a3, a4, fun k hk => by rw [ec] at hk; omega, fun a b _ hb => by rw [ec] at hb; omega⟩
    | 1, _ =>
      have hr : 0 ≤ ftIv tx tn p 0 ∧ ftIv tx tn p 0 ≤ 50 := hr
      exact ⟨by rw [e3]; exact a1, a2, hr, a4, fun k hk => by rw [ec] at hk; omega, fun a b _ hb => by rw [ec] at hb; omega⟩
    | 2, _ =>
      have hr : 0 ≤ ftIv tx tn p 0 ∧ ftIv tx tn p 0 ≤ 20000 := hr
      exact ⟨by rw [e3]; exact a1, a2, a3, hr, fun k hk => by rw [ec] at hk; omega, fun a b _ hb => by rw [ec] at hb; omega⟩
  · have hnl : ¬ nI j < 3 := fun r => absurd ((ft_lt3 hj).mp r) (by omega)
    rw [if_neg hnl]
    obtain ⟨d1, d2⟩ := b4.2 hnl
    obtain ⟨e1, e2⟩ := ftRt_new j c hj b3
    have en : (m 3).toNatClampNeg = ftCN m := rfl
    rw [en]
    have hn := ftLf_n hm
    have hlt : ftCN m < 10 := by
      rcases Nat.lt_or_ge (ftCN m) 10 with r | r
      · exact r
      · exact absurd (by rw [ftLf_3 hm, show ftCN m = 10 by omega]; rfl) d2
    exact ftAdd_lf hm hlt e1.1 (ft_ltm1 a2.1 e1.1 e1.2) (fun t ht r => d1 ⟨t, ht, r⟩) e2
theorem ftPar_lf {tx : Nat → Int32} {tn : Nat} : ∀ (f p h : Nat) (m a : Nat → Int32), ftLf m → ftPar tx tn f p h m = some a → ftLf a := by
  intro f
  induction f with
  | zero => intro p h m a hm e; cases e; exact hm
  | succ f ih =>
    intro p h m a hm e
    by_cases c : p < tn
    · have um : ftPar tx tn (f + 1) p h m = ftCh (ftItOk tx tn m h p) (ftPar tx tn f (ftItP tx tn p) (ftItH tx tn h p) (ftItM tx tn m p)) none := by rw [ftPar, if_pos c]; rfl
      rw [um] at e
      rcases Classical.em (ftItOk tx tn m h p) with q | q
      · rw [ftCh_t q] at e
        exact ih _ _ _ _ (ftItM_lf hm q) e
      · rw [ftCh_f q] at e; cases e
    · rw [ftPar, if_neg c] at e
      cases e; exact hm
theorem ftMd0_lf (m : Nat → Int32) : ftLf (ftMd0 m) := by
  have e0 : ftMd0 m 0 = 200 := rfl
  have e1 : ftMd0 m 1 = 10 := rfl
  have e2 : ftMd0 m 2 = 12000 := rfl
  have e3 : ftMd0 m 3 = 0 := rfl
  have en : ftCN (ftMd0 m) = 0 := by unfold ftCN; rw [e3]; rfl
  refine ⟨by rw [e3]; decide, by rw [e0]; decide, by rw [e1]; decide, by rw [e2]; decide, fun k hk => ?_, fun a b _ hb => ?_⟩
  · rw [en] at hk; omega
  · rw [en] at hb; omega
theorem ftCPm_lf {tx : Nat → Int32} {tn : Nat} (h : ¬ ftCPar tx tn = none) : ftLf (ftCPm tx tn) := by
  unfold ftCPm
  cases hq : ftCPar tx tn with
  | none => exact absurd hq h
  | some a => exact ftPar_lf _ _ _ _ _ (ftMd0_lf _) hq
/-! words: the class's is the reference's where an item is possible -/
def ftLet (x : Int32) : Prop := (97 ≤ x ∧ x ≤ 122) ∨ (65 ≤ x ∧ x ≤ 90)
def ftC (tx : Nat → Int32) (tn i : Nat) : Int32 := if i < tn then tx i else 0
theorem ftC_in {tx : Nat → Int32} {tn i : Nat} (h : i < tn) : ftC tx tn i = tx i := if_pos h
theorem ftC_out {tx : Nat → Int32} {tn i : Nat} (h : tn ≤ i) : ftC tx tn i = 0 := if_neg (by omega)
def ftCW9 (tx : Nat → Int32) (tn p j : Nat) : Prop := (∀ t, t < ftWs j → ftC tx tn (p + t) = ftLt (nI (100 * j + t))) ∧ ¬ ftLet (ftC tx tn (p + ftWs j))
theorem ftLt_low : ∀ j, j < 6 → ∀ t, t < ftWs j → 97 ≤ ftLt (nI (100 * j + t)) ∧ ftLt (nI (100 * j + t)) ≤ 122 := by decide +kernel
theorem ftLt_diff : ∀ i, i < 6 → ∀ j, j < 6 → i ≠ j → ftWs i = ftWs j → ∃ t, t < ftWs i ∧ ftLt (nI (100 * i + t)) ≠ ftLt (nI (100 * j + t)) := by decide +kernel
theorem ftWP_one {tx : Nat → Int32} {p d i j : Nat} (hi : i < 6) (hj : j < 6) (h1 : ftWP tx p d i (ftWs i)) (h2 : ftWP tx p d j (ftWs j)) : i = j := by
  rcases Nat.eq_or_lt_of_le (Nat.le_refl i) with _ | _
  · by_cases q : i = j
    · exact q
    · obtain ⟨t, t1, t2⟩ := ftLt_diff i hi j hj q (h1.1.symm.trans h2.1)
      exact absurd ((h1.2 t t1).symm.trans (h2.2 t (by rw [← h2.1, h1.1]; exact t1))) t2
  · omega
theorem ftWd_of {tx : Nat → Int32} {p d j : Nat} (hj : j < 6) (h : ftWP tx p d j (ftWs j)) : ∀ m, m ≤ 6 → j < m → ftWd tx p d m = nI j := by
  intro m
  induction m with
  | zero => intro _ q; omega
  | succ m ih =>
    intro hm q
    by_cases r : j = m
    · subst r; exact ftWd_t h
    · rw [ftWd_f (fun s => r (ftWP_one hj (by omega) h s))]
      exact ih (by omega) (by omega)
/-- the class finds the word j: so does the reference -/
theorem ftCW_run {tx : Nat → Int32} {tn p j : Nat} (hj : j < 6) (h : ftCW9 tx tn p j) : ftRun tx tn p = ftWs j ∧ ftIw tx tn p = nI j ∧ p + ftWs j ≤ tn := by
  have hws := ftWs_le j
  have hin : ∀ t, t < ftWs j → p + t < tn ∧ tx (p + t) = ftLt (nI (100 * j + t)) := by
    intro t ht
    have e := h.1 t ht
    rcases Nat.lt_or_ge (p + t) tn with q | q
    · rw [ftC_in q] at e; exact ⟨q, e⟩
    · rw [ftC_out q] at e
      have := (ftLt_low j hj t ht).1
      rw [← e] at this
      exact absurd this (by decide)
  have hrun : ftRun tx tn p = ftWs j := by
    refine ftIni_of (by omega) (fun t ht => ?_) (fun _ q => ?_)
    · obtain ⟨q1, q2⟩ := hin t ht
      rw [q2]
      exact ⟨q1, ftLt_low j hj t ht⟩
    · exact h.2 (by rw [ftC_in q.1]; exact Or.inl q.2)
  refine ⟨hrun, ?_, ?_⟩
  · unfold ftIw
    rw [hrun]
    exact ftWd_of hj ⟨rfl, fun t ht => (hin t ht).2⟩ 6 (by omega) hj
  · rcases Nat.eq_zero_or_pos (ftWs j) with z | z
    · have : ∀ j, j < 6 → 0 < ftWs j := by decide
      have := this j hj
      omega
    · have := (hin (ftWs j - 1) (by omega)).1
      omega
/-- an item is possible: the class finds its word -/
theorem ftIt_cw {tx : Nat → Int32} {tn p h : Nat} {m : Nat → Int32} (q : ftItOk tx tn m h p) : ∃ j, j < 6 ∧ ftIw tx tn p = nI j ∧ ftCW9 tx tn p j := by
  obtain ⟨b1, b2, -⟩ := q
  rcases ftWd_c tx p (ftRun tx tn p) 6 with r | ⟨j, r1, r2, r3⟩
  · exact absurd (show ftIw tx tn p < 0 by unfold ftIw; rw [r]; decide) b1
  · have hW : ftIw tx tn p = nI j := r2
    refine ⟨j, r1, hW, fun t ht => ?_, ?_⟩
    · have h9 := (ftIni_yes (fun t => p + t < tn ∧ 97 ≤ tx (p + t) ∧ tx (p + t) ≤ 122) 120 t (by
        have : t < ftRun tx tn p := by rw [r3.1]; exact ht
        exact this)).1
      rw [ftC_in h9]; exact r3.2 t ht
    · have h0 := (b2 0 (ftNs_ge _)).1
      have e : ftIp tx tn p 0 = p + ftWs j := by show p + ftRun tx tn p = _; rw [r3.1]
      rw [e] at h0
      rw [ftC_in h0.1, h0.2]
      intro z
      rcases z with z | z
      · exact absurd z.1 (by decide)
      · exact absurd z.1 (by decide)
end
section
/-! the class's texts -/
theorem ftSp_c {tx : Nat → Int32} {tn p : Nat} : ftSp tx tn p ↔ ftC tx tn p = 32 := by
  constructor
  · rintro ⟨h, e⟩; rw [ftC_in h]; exact e
  · intro e
    rcases Nat.lt_or_ge p tn with q | q
    · rw [ftC_in q] at e; exact ⟨q, e⟩
    · rw [ftC_out q] at e; exact absurd e (by decide)
theorem ftNg_c {tx : Nat → Int32} {tn p : Nat} : ftNg tx tn p ↔ ftC tx tn (p + 1) = 45 := by
  constructor
  · rintro ⟨h, e⟩; rw [ftC_in h]; exact e
  · intro e
    rcases Nat.lt_or_ge (p + 1) tn with q | q
    · rw [ftC_in q] at e; exact ⟨q, e⟩
    · rw [ftC_out q] at e; exact absurd e (by decide)
theorem ftDp_c {tx : Nat → Int32} {tn q t : Nat} : ftDp tx tn q t ↔ 48 ≤ ftC tx tn (q + t) ∧ ftC tx tn (q + t) ≤ 57 := by
  constructor
  · rintro ⟨h, e⟩; rw [ftC_in h]; exact e
  · intro e
    rcases Nat.lt_or_ge (q + t) tn with r | r
    · rw [ftC_in r] at e; exact ⟨r, e⟩
    · rw [ftC_out r] at e; exact absurd e.1 (by decide)
theorem ft_neg1 (v : Int32) : -v = (-1) * v := by rw [Int32.neg_mul, Int32.one_mul]
noncomputable def ftNfs (tx : Nat → Int32) (tn q : Nat) (nf : Nat → Int32) : Nat → (Nat → Int32)
  | 0 => nf
  | i + 1 => ftNf tx tn (ftNP tx tn q i) i (ftNfs tx tn q nf i)
theorem ftNP_le {tx : Nat → Int32} {tn q : Nat} (h : q ≤ tn) (i : Nat) : ftNP tx tn q i ≤ tn := by
  induction i with
  | zero => exact h
  | succ i ih => exact ftNe_le ih
noncomputable def ftNm (tx : Nat → Int32) (tn q wn : Nat) : Nat := ftIni (fun i => ftNok tx tn (ftNP tx tn q i)) wn
theorem ftNfs_at {tx : Nat → Int32} {tn q : Nat} {nf : Nat → Int32} : ∀ m, (∀ t, t < m → ftNok tx tn (ftNP tx tn q t)) → ∀ i, i < m → ftNfs tx tn q nf m i = ftNv tx tn (ftNP tx tn q i) := by
  intro m
  induction m with
  | zero => intro _ i h; exact absurd h (Nat.not_lt_zero i)
  | succ m ih =>
    intro h i hi
    have e := ftNf_t (fg := ftNfs tx tn q nf m) (i := m) (h m (by omega)).1
    show ftNf tx tn (ftNP tx tn q m) m (ftNfs tx tn q nf m) i = _
    rw [e]
    by_cases z : i = m
    · subst z; exact ftUpd_at0
    · rw [ftUpd_ne z]; exact ih (fun t ht => h t (by omega)) i (by omega)
theorem ftLoss_j (ln : Int32) : ∀ j, 3 ≤ j → j < 6 → ∀ v, ftLossFits (nI j - 3) v ↔ ftRt (nI j) 1 v ln := by
  intro j h3 h6 v
  match j, h3, h6 with
  | 3, _, _ =>
    rw [show ftRt (nI 3) 1 v ln = (-500 ≤ v ∧ v ≤ 5000) from rfl, show nI 3 - 3 = 0 by decide]
    simp [ftLossFits]
  | 4, _, _ =>
    rw [show ftRt (nI 4) 1 v ln = (0 ≤ v ∧ v ≤ 5000) from rfl, show nI 4 - 3 = 1 by decide]
    simp [ftLossFits]
  | 5, _, _ =>
    rw [show ftRt (nI 5) 1 v ln = (0 ≤ v ∧ v ≤ 50) from rfl, show nI 5 - 3 = 2 by decide]
    simp [ftLossFits]
theorem ftRefl_j (ln v : Int32) : ftReflFits (nI 4 - 3) v ↔ ftRt (nI 4) 2 v ln := by
  rw [show ftRt (nI 4) 2 v ln = (1 ≤ v ∧ v ≤ 20000) from rfl, show nI 4 - 3 = 1 by decide]
  simp [ftReflFits]
/-- a link of the class is a row's -/
def ftLR (m : Nat → Int32) (len att en : Int32) (n : Nat) (kf pf lf rf : Nat → Int32) : Prop := m 0 = len ∧ m 1 = att ∧ m 2 = en ∧ m 3 = nI n ∧ n ≤ 10 ∧ ∀ k, k < n → m (4 + 4 * k + 0) = kf k ∧ m (4 + 4 * k + 1) = pf k ∧ m (4 + 4 * k + 2) = lf k ∧ m (4 + 4 * k + 3) = rf k
def ftTd (td : Nat → Int32) (h : Nat) : Prop := ∀ j, j < 3 → td j = nI (h / 2 ^ j % 2)
theorem ftLR_n {m : Nat → Int32} {len att en : Int32} {n : Nat} {kf pf lf rf : Nat → Int32} (h : ftLR m len att en n kf pf lf rf) : ftCN m = n := by
  unfold ftCN
  rw [h.2.2.2.1, nI_clamp (by have := h.2.2.2.2.1; omega)]
theorem ftIns_add {m f : Nat → Int32} {n i : Nat} {kd x lo re v : Int32} (hi : i < 4) (hf : ∀ k, k < n → m (4 + 4 * k + i) = f k) (hv : ftAdd m n kd x lo re (4 + 4 * ftPosW m x n + i) = v) : ∀ k, k < n + 1 → ftAdd m n kd x lo re (4 + 4 * k + i) = ftIns f n (ftPosW m x n) v k := by
  have hle := ftPosW_le m x n
  refine ftIns_by hle ?_ ?_ ?_
  · rw [hv, ftIns_at]
  · intro t ht
    rw [ftAdd_lo hi ht, ftIns_dn ht]; exact hf t (by omega)
  · intro t h1 h2
    rw [ftAdd_hi hi h1 h2, ftIns_up h1 h2]; exact hf (t - 1) (by omega)
theorem ftLR_add {m : Nat → Int32} {len att en kd x lo re : Int32} {n : Nat} {kf pf lf rf : Nat → Int32} (h : ftLR m len att en n kf pf lf rf) (hn : n < 10) (ha : ∀ a b, a < b → b < n → m (4 + 4 * a + 1) < m (4 + 4 * b + 1)) (hne : ∀ t, t < n → m (4 + 4 * t + 1) ≠ x) : ftLR (ftAdd m n kd x lo re) len att en (n + 1) (ftIns kf n (ftIdx pf x n) kd) (ftIns pf n (ftIdx pf x n) x) (ftIns lf n (ftIdx pf x n) lo) (ftIns rf n (ftIdx pf x n) re) := by
  obtain ⟨a1, a2, a3, a4, a5, a6⟩ := h
  rw [ftIdx_pos (fun t ht => (a6 t ht).2.1) ha hne]
  refine ⟨by rw [ftAdd_l (by omega)]; exact a1, by rw [ftAdd_l (by omega)]; exact a2, by rw [ftAdd_l (by omega)]; exact a3, ftAdd_3 _ _ _ _ _ _, by omega, fun k hk => ?_⟩
  exact ⟨ftIns_add (by omega) (fun k hk => (a6 k hk).1) ftAdd_at0 k hk, ftIns_add (by omega) (fun k hk => (a6 k hk).2.1) ftAdd_at1 k hk, ftIns_add (by omega) (fun k hk => (a6 k hk).2.2.1) ftAdd_at2 k hk, ftIns_add (by omega) (fun k hk => (a6 k hk).2.2.2) ftAdd_at3 k hk⟩
theorem ftTd_or : ∀ h, h < 64 → ∀ j, j < 6 → ∀ i, i < 3 → (h ||| 2 ^ j) / 2 ^ i % 2 = if i = j then 1 else h / 2 ^ i % 2 := by decide +kernel
set_option maxHeartbeats 4000000 in
set_option maxRecDepth 100000 in
theorem c_X5_append (l : Launch) (D : va_G) (cI cS : ClassId) (sz : Nat) (a0 ag am ad b0 : Nat) (tn : Nat) (v1 v2 v3 : Int32) (v4 : Int32) (tx : Nat → Int32) (x : Int32) (htn : tn < 120) : Met l yX5_append wsX5_append ({ frames := 1, cells := 0, slots := 0, locals := 22 }) (ftRW D cI cS [.ref a0, .int x] [(a0, .inr (5, [.ref ag, .ref am, .ref ad, .ref b0, .int (nI tn), .int v1, .int v2, .int v3, .int v4])), (ag, .inl (cI, 120, .inl tx))] sz) (ftQi D (nI (tn + 1)) [(a0, .inr (5, [.ref ag, .ref am, .ref ad, .ref b0, .int (nI tn), .int v1, .int v2, .int v3, .int v4])), (ag, .inl (cI, 120, .inl tx))] [(a0, .inr (5, [.ref ag, .ref am, .ref ad, .ref b0, .int (nI (tn + 1)), .int v1, .int v2, .int v3, .int v4])), (ag, .inl (cI, 120, .inl (upd tx tn x)))] sz) 0 0 (va_A [(a0, .inr (5, [.ref ag, .ref am, .ref ad, .ref b0, .int (nI tn), .int v1, .int v2, .int v3, .int v4])), (ag, .inl (cI, 120, .inl tx))] sz) := by
  refine Met.ofW (cc := cX5_append) (maxL := 2) (ret := (some .int)) (by decide) rfl ?_
  intro p e s m args below meth c s₁ B hml hv
  obtain ⟨rfl, hsz, hP, hKK, hD0⟩ := hv
  have hK := hKK.1
  have hx := B.exec
  have hb := B.bytes
  have hr := B.returns
  have hts := atoms_spec (ws := wsX5_append) B.pre
  have hown : s.vm.findClass RX5 = some m.cls := findClass_of_methodNamed B.named
  have hlocks := B.notSynchronized
  subst hsz
  have hD := hD0.self (sz := s.heap.size)
  generalize hAe : va_A [(a0, .inr (5, [.ref ag, .ref am, .ref ad, .ref b0, .int (nI tn), .int v1, .int v2, .int v3, .int v4])), (ag, .inl (cI, 120, .inl tx))] s.heap.size = A at hD ⊢
  have hA : ∀ q : Nat, s.heap.size ≤ q → A q := fun q h => by rw [← hAe]; exact Or.inr h
  have hS : va_S A s.heap s.heap [] := va_S.rf
  have hD : va_D A [(a0, .inr (5, [.ref ag, .ref am, .ref ad, .ref b0, .int (nI tn), .int v1, .int v2, .int v3, .int v4])), (ag, .inl (cI, 120, .inl tx))] := hD
  have hP : va_P D vwCl [(a0, .inr (5, [.ref ag, .ref am, .ref ad, .ref b0, .int (nI tn), .int v1, .int v2, .int v3, .int v4])), (ag, .inl (cI, 120, .inl tx))] s.heap := hP
  have hl := lv_entry ([.ref a0, .int x]) (n := 2) (Nat.le_of_ble_eq_true rfl)
  rw [lg_entry_eq]
  generalize (lg_sl ([.ref a0, .int x]) ++ List.replicate (2 - (lg_sl ([.ref a0, .int x])).length) Slot.unset).toArray = ls at hl ⊢
  have hl : lv_has ls 2 [(0, .ref a0), (1, .int x)] := hl
  refine lv_aload_n hx hb dX5_append_0 rfl (lv_at hl 0 rfl) ?_
  refine va_get (D := D) (ci := 5) (v := .ref ag) (C := RX5) (T := TX5) (N := 9) hx hb hts (by decide +kernel) hown hK hP 0 rfl rfl 0 (by decide) (hts (.fieldLink RX5 9 "FiberTrace$LinkText" "signs" "[I") (by decide +kernel)) (fun _ h9 => h9) rfl dX5_append_1 ?_
  refine lv_aload_n hx hb dX5_append_4 rfl (lv_at hl 0 rfl) ?_
  refine va_get (D := D) (ci := 5) (v := .int (nI tn)) (C := RX5) (T := TX5) (N := 9) hx hb hts (by decide +kernel) hown hK hP 0 rfl rfl 4 (by decide) (hts (.fieldLink RX5 28 "FiberTrace$LinkText" "size" "I") (by decide +kernel)) (fun _ h9 => h9) rfl dX5_append_5 ?_
  refine lv_iload_n hx hb dX5_append_8 rfl (lv_at hl 1 rfl) ?_
  refine ft_cv (wc := [(ag, .inl (cI, 120, .inl tx))]) (wr := [(a0, .inr (5, [.ref ag, .ref am, .ref ad, .ref b0, .int (nI tn), .int v1, .int v2, .int v3, .int v4]))]) (w1 := [(ag, .inl (cI, 120, .inl (ftPut 120 tx (nI tn) x)))]) (ws1 := [(a0, .inr (5, [.ref ag, .ref am, .ref ad, .ref b0, .int (nI tn), .int v1, .int v2, .int v3, .int v4])), (ag, .inl (cI, 120, .inl (ftPut 120 tx (nI tn) x)))]) (va_runSN (As := [.ref ag, .int (nI tn), .int x]) (rest := []) ⟨hx, hb, hml, hown, hts⟩ (c_X10_put l D cI cS s.heap.size ag 120 tx (nI tn) x (by first | assumption | omega)) ⟨va_cnB 3 hts gX5_append_X10_put_n32 rfl rfl rfl (hKK.2 _ (List.mem_of_getElem? (i := 7) rfl)) (hts (.initialized RX10) (by decide +kernel)) (by decide +kernel) ⟨Nat.le_of_ble_eq_true rfl, Nat.le_of_ble_eq_true rfl⟩, hts (.static yX10_put) (by decide +kernel), trivial⟩ (ft_preRW hP hD hKK [1] rfl rfl rfl) rfl rfl hl.1 rfl (lv_room (Nat.le_of_ble_eq_true rfl)) dX5_append_9 ⟨Nat.le_of_ble_eq_true rfl, Nat.le_of_ble_eq_true rfl⟩) hP hD hS hA [1] [0] [0, 1] rfl rfl (by decide) (by decide) (by decide) rfl rfl (fun H locs hP hD hS => ?_)
  rw [ftPut_N (k := tn) (by omega) (by omega)] at hP hD
  have hP : va_P D vwCl [(a0, .inr (5, [.ref ag, .ref am, .ref ad, .ref b0, .int (nI tn), .int v1, .int v2, .int v3, .int v4])), (ag, .inl (cI, 120, .inl (upd tx tn x)))] H := hP
  have hD : va_D A [(a0, .inr (5, [.ref ag, .ref am, .ref ad, .ref b0, .int (nI tn), .int v1, .int v2, .int v3, .int v4])), (ag, .inl (cI, 120, .inl (upd tx tn x)))] := hD
  refine lv_aload_n hx hb dX5_append_12 rfl (lv_at hl 0 rfl) ?_
  refine lv_dup hx hb dX5_append_13 rfl ?_
  refine va_get (D := D) (ci := 5) (v := .int (nI tn)) (C := RX5) (T := TX5) (N := 9) hx hb hts (by decide +kernel) hown hK hP 0 rfl rfl 4 (by decide) (hts (.fieldLink RX5 28 "FiberTrace$LinkText" "size" "I") (by decide +kernel)) (fun _ h9 => h9) rfl dX5_append_14 ?_
  refine lv_iconst (v := 1) hx hb dX5_append_17 (by decide) ?_
  refine lv_iadd hx hb dX5_append_18 ?_
  refine ft_top (y := nI (tn + 1)) (ft_addN tn 1) ?_
  refine va_put (D := D) (ci := 5) (v := .int (nI (tn + 1))) (ty := .int) (C := RX5) (T := TX5) (N := 9) hx hb hts (by decide +kernel) tyX5 tyX5_ok nmX5 hown hK hP hD hS 0 rfl rfl 4 (by decide) (hts (.fieldLink RX5 28 "FiberTrace$LinkText" "size" "I") (by decide +kernel)) (fun _ h9 => h9) rfl (by decide +kernel) rfl rfl (Nat.le_of_ble_eq_true rfl) dX5_append_19 (fun H locs hP hD hS => ?_)
  have hP : va_P D vwCl [(a0, .inr (5, [.ref ag, .ref am, .ref ad, .ref b0, .int (nI (tn + 1)), .int v1, .int v2, .int v3, .int v4])), (ag, .inl (cI, 120, .inl (upd tx tn x)))] H := hP
  have hD : va_D A [(a0, .inr (5, [.ref ag, .ref am, .ref ad, .ref b0, .int (nI (tn + 1)), .int v1, .int v2, .int v3, .int v4])), (ag, .inl (cI, 120, .inl (upd tx tn x)))] := hD
  refine lv_aload_n hx hb dX5_append_22 rfl (lv_at hl 0 rfl) ?_
  refine va_get (D := D) (ci := 5) (v := .int (nI (tn + 1))) (C := RX5) (T := TX5) (N := 9) hx hb hts (by decide +kernel) hown hK hP 0 rfl rfl 4 (by decide) (hts (.fieldLink RX5 28 "FiberTrace$LinkText" "size" "I") (by decide +kernel)) (fun _ h9 => h9) rfl dX5_append_23 ?_
  have hw9 : ([(a0, .inr (5, [.ref ag, .ref am, .ref ad, .ref b0, .int (nI (tn + 1)), .int v1, .int v2, .int v3, .int v4])), (ag, .inl (cI, 120, .inl (upd tx tn x)))] : va_W) = [(a0, .inr (5, [.ref ag, .ref am, .ref ad, .ref b0, .int (nI (tn + 1)), .int v1, .int v2, .int v3, .int v4])), (ag, .inl (cI, 120, .inl (upd tx tn x)))] := rfl
  rw [hw9] at hP hD
  exact W.iret (v := nI (tn + 1)) hx hb hr (fun t ht hW => ⟨⟨nI (tn + 1), (), rfl, rfl, by rw [ht]; exact hP, by rw [hAe]; exact hD⟩, by rw [hAe]; exact hS.F ht⟩) hS.2.2 dX5_append_26
set_option maxHeartbeats 4000000 in
set_option maxRecDepth 100000 in
theorem c_X5_empty (l : Launch) (D : va_G) (cI cS : ClassId) (sz : Nat) (a0 ag am ad b0 : Nat) (tn : Nat) (v1 v2 v3 : Int32) (v4 : Int32)  : Met l yX5_empty wsX5_empty ({ frames := 0, cells := 0, slots := 0, locals := 0 }) (ftRW D cI cS [.ref a0] [(a0, .inr (5, [.ref ag, .ref am, .ref ad, .ref b0, .int (nI tn), .int v1, .int v2, .int v3, .int v4]))] sz) (ftQi D (nI tn) [(a0, .inr (5, [.ref ag, .ref am, .ref ad, .ref b0, .int (nI tn), .int v1, .int v2, .int v3, .int v4]))] [(a0, .inr (5, [.ref ag, .ref am, .ref ad, .ref b0, .int 0, .int v1, .int v2, .int v3, .int v4]))] sz) 0 0 (va_A [(a0, .inr (5, [.ref ag, .ref am, .ref ad, .ref b0, .int (nI tn), .int v1, .int v2, .int v3, .int v4]))] sz) := by
  refine Met.ofW (cc := cX5_empty) (maxL := 2) (ret := (some .int)) (by decide) rfl ?_
  intro p e s m args below meth c s₁ B hml hv
  obtain ⟨rfl, hsz, hP, hKK, hD0⟩ := hv
  have hK := hKK.1
  have hx := B.exec
  have hb := B.bytes
  have hr := B.returns
  have hts := atoms_spec (ws := wsX5_empty) B.pre
  have hown : s.vm.findClass RX5 = some m.cls := findClass_of_methodNamed B.named
  have hlocks := B.notSynchronized
  subst hsz
  have hD := hD0.self (sz := s.heap.size)
  generalize hAe : va_A [(a0, .inr (5, [.ref ag, .ref am, .ref ad, .ref b0, .int (nI tn), .int v1, .int v2, .int v3, .int v4]))] s.heap.size = A at hD ⊢
  have hA : ∀ q : Nat, s.heap.size ≤ q → A q := fun q h => by rw [← hAe]; exact Or.inr h
  have hS : va_S A s.heap s.heap [] := va_S.rf
  have hD : va_D A [(a0, .inr (5, [.ref ag, .ref am, .ref ad, .ref b0, .int (nI tn), .int v1, .int v2, .int v3, .int v4]))] := hD
  have hP : va_P D vwCl [(a0, .inr (5, [.ref ag, .ref am, .ref ad, .ref b0, .int (nI tn), .int v1, .int v2, .int v3, .int v4]))] s.heap := hP
  have hl := lv_entry ([.ref a0]) (n := 2) (Nat.le_of_ble_eq_true rfl)
  rw [lg_entry_eq]
  generalize (lg_sl ([.ref a0]) ++ List.replicate (2 - (lg_sl ([.ref a0])).length) Slot.unset).toArray = ls at hl ⊢
  have hl : lv_has ls 2 [(0, .ref a0)] := hl
  refine lv_aload_n hx hb dX5_empty_0 rfl (lv_at hl 0 rfl) ?_
  refine va_get (D := D) (ci := 5) (v := .int (nI tn)) (C := RX5) (T := TX5) (N := 9) hx hb hts (by decide +kernel) hown hK hP 0 rfl rfl 4 (by decide) (hts (.fieldLink RX5 28 "FiberTrace$LinkText" "size" "I") (by decide +kernel)) (fun _ h9 => h9) rfl dX5_empty_1 ?_
  refine lv_istore_n (lv' := [(1, .int (nI tn)), (0, .ref a0)]) hx hb dX5_empty_4 rfl hl (by decide) rfl (fun ls hl => ?_)
  refine lv_aload_n hx hb dX5_empty_5 rfl (lv_at hl 1 rfl) ?_
  refine lv_iconst (v := 0) hx hb dX5_empty_6 (by decide) ?_
  refine va_put (D := D) (ci := 5) (v := .int 0) (ty := .int) (C := RX5) (T := TX5) (N := 9) hx hb hts (by decide +kernel) tyX5 tyX5_ok nmX5 hown hK hP hD hS 0 rfl rfl 4 (by decide) (hts (.fieldLink RX5 28 "FiberTrace$LinkText" "size" "I") (by decide +kernel)) (fun _ h9 => h9) rfl (by decide +kernel) rfl rfl (Nat.le_of_ble_eq_true rfl) dX5_empty_7 (fun H locs hP hD hS => ?_)
  have hP : va_P D vwCl [(a0, .inr (5, [.ref ag, .ref am, .ref ad, .ref b0, .int 0, .int v1, .int v2, .int v3, .int v4]))] H := hP
  have hD : va_D A [(a0, .inr (5, [.ref ag, .ref am, .ref ad, .ref b0, .int 0, .int v1, .int v2, .int v3, .int v4]))] := hD
  refine lv_iload_n hx hb dX5_empty_10 rfl (lv_at hl 0 rfl) ?_
  have hw9 : ([(a0, .inr (5, [.ref ag, .ref am, .ref ad, .ref b0, .int 0, .int v1, .int v2, .int v3, .int v4]))] : va_W) = [(a0, .inr (5, [.ref ag, .ref am, .ref ad, .ref b0, .int 0, .int v1, .int v2, .int v3, .int v4]))] := rfl
  rw [hw9] at hP hD
  exact W.iret (v := nI tn) hx hb hr (fun t ht hW => ⟨⟨nI tn, (), rfl, rfl, by rw [ht]; exact hP, by rw [hAe]; exact hD⟩, by rw [hAe]; exact hS.F ht⟩) hS.2.2 dX5_empty_11
set_option maxHeartbeats 4000000 in
set_option maxRecDepth 100000 in
theorem c_X5_signAt (l : Launch) (D : va_G) (cI cS : ClassId) (a0 ag am ad b0 : Nat) (tn : Nat) (v1 v2 v3 : Int32) (v4 : Int32) (tx : Nat → Int32) (i : Nat) (htn : tn ≤ 120) (hi : i < 1000) : Met l yX5_signAt wsX5_signAt ({ frames := 1, cells := 0, slots := 0, locals := 21 }) (ftRO D cI cS [.ref a0, .int (nI i)] [(a0, .inr (5, [.ref ag, .ref am, .ref ad, .ref b0, .int (nI tn), .int v1, .int v2, .int v3, .int v4])), (ag, .inl (cI, 120, .inl tx))]) (vp_Si (fun o9 => o9 = ftC tx tn i)) 0 0 (fun _ => False) := by
  refine Met.ofW (cc := cX5_signAt) (maxL := 2) (ret := (some .int)) (by decide) rfl ?_
  intro p e s m args below meth c s₁ B hml hv
  obtain ⟨rfl, hP, hKK⟩ := hv
  have hK := hKK.1
  have hx := B.exec
  have hb := B.bytes
  have hr := B.returns
  have hts := atoms_spec (ws := wsX5_signAt) B.pre
  have hown : s.vm.findClass RX5 = some m.cls := findClass_of_methodNamed B.named
  have hlocks := B.notSynchronized
  have hP : va_P D vwCl [(a0, .inr (5, [.ref ag, .ref am, .ref ad, .ref b0, .int (nI tn), .int v1, .int v2, .int v3, .int v4])), (ag, .inl (cI, 120, .inl tx))] s.heap := hP
  have hl := lv_entry ([.ref a0, .int (nI i)]) (n := 2) (Nat.le_of_ble_eq_true rfl)
  rw [lg_entry_eq]
  generalize (lg_sl ([.ref a0, .int (nI i)]) ++ List.replicate (2 - (lg_sl ([.ref a0, .int (nI i)])).length) Slot.unset).toArray = ls at hl ⊢
  have hl : lv_has ls 2 [(0, .ref a0), (1, .int (nI i))] := hl
  refine lv_iload_n hx hb dX5_signAt_0 rfl (lv_at hl 1 rfl) ?_
  refine lv_aload_n hx hb dX5_signAt_1 rfl (lv_at hl 0 rfl) ?_
  refine va_get (D := D) (ci := 5) (v := .int (nI tn)) (C := RX5) (T := TX5) (N := 9) hx hb hts (by decide +kernel) hown hK hP 0 rfl rfl 4 (by decide) (hts (.fieldLink RX5 28 "FiberTrace$LinkText" "size" "I") (by decide +kernel)) (fun _ h9 => h9) rfl dX5_signAt_2 ?_
  refine lv_icmp_ge (tgt := 19) hx hb dX5_signAt_5 (by decide) (fun c5 => ?_) (fun c5 => ?_)
  · have c5n : tn ≤ i := ft_leN (by omega) (by omega) c5
    have hv9 : ftC tx tn i = 0 := ftC_out c5n
    refine lv_iconst (v := 0) hx hb dX5_signAt_19 (by decide) ?_
    exact W.iret (v := 0) hx hb hr (fun t ht hW => ⟨0, rfl, (by show (0 : Int32) = ftC tx tn i; exact hv9.symm), ht⟩) (fun _ h9 => absurd h9 List.not_mem_nil) dX5_signAt_20
  · have c5n : i < tn := ft_nleN (by omega) (by omega) c5
    have hv9 : ftC tx tn i = tx i := ftC_in c5n
    refine lv_aload_n hx hb dX5_signAt_8 rfl (lv_at hl 0 rfl) ?_
    refine va_get (D := D) (ci := 5) (v := .ref ag) (C := RX5) (T := TX5) (N := 9) hx hb hts (by decide +kernel) hown hK hP 0 rfl rfl 0 (by decide) (hts (.fieldLink RX5 9 "FiberTrace$LinkText" "signs" "[I") (by decide +kernel)) (fun _ h9 => h9) rfl dX5_signAt_9 ?_
    refine lv_iload_n hx hb dX5_signAt_12 rfl (lv_at hl 1 rfl) ?_
    refine ft_csi (r := ftAt 120 tx (nI i)) (va_runSN (As := [.ref ag, .int (nI i)]) (rest := []) ⟨hx, hb, hml, hown, hts⟩ (c_X10_at l D cI cS ag 120 tx (nI i) (by first | assumption | omega)) ⟨va_cnB 2 hts gX5_signAt_X10_at_n93 rfl rfl rfl (hKK.2 _ (List.mem_of_getElem? (i := 8) rfl)) (hts (.initialized RX10) (by decide +kernel)) (by decide +kernel) ⟨Nat.le_of_ble_eq_true rfl, Nat.le_of_ble_eq_true rfl⟩, hts (.static yX10_at) (by decide +kernel), trivial⟩ (ft_preRO hP hKK [1] rfl) rfl rfl hl.1 rfl (lv_room (Nat.le_of_ble_eq_true rfl)) dX5_signAt_13 ⟨Nat.le_of_ble_eq_true rfl, Nat.le_of_ble_eq_true rfl⟩) ?_
    refine ft_top (y := tx i) (ftAt_N (by omega) (by omega)) ?_
    refine lv_goto (tgt := 20) hx hb dX5_signAt_16 (by decide) ?_
    exact W.iret (v := tx i) hx hb hr (fun t ht hW => ⟨tx i, rfl, (by show (tx i : Int32) = ftC tx tn i; exact hv9.symm), ht⟩) (fun _ h9 => absurd h9 List.not_mem_nil) dX5_signAt_20
set_option maxHeartbeats 4000000 in
set_option maxRecDepth 100000 in
theorem c_X5_nameOf (l : Launch) (D : va_G) (cI cS : ClassId) (sK sV : Nat → Nat) (j : Nat) (hj : j < 6) : Met l yX5_nameOf wsX5_nameOf ({ frames := 0, cells := 0, slots := 0, locals := 0 }) (ftROS D cI cS sK sV [.int (nI j)] []) (ftSr (sK j)) 0 0 (fun _ => False) := by
  refine Met.ofW (cc := cX5_nameOf) (maxL := 1) (ret := (some (.object "java/lang/String"))) (by decide) rfl ?_
  intro p e s m args below meth c s₁ B hml hv
  obtain ⟨rfl, hP, hKK, hSt⟩ := hv
  have hS : va_S (fun _ => False) s.heap s.heap [] := va_S.rf
  have hK := hKK.1
  have hx := B.exec
  have hb := B.bytes
  have hr := B.returns
  have hts := atoms_spec (ws := wsX5_nameOf) B.pre
  have hown : s.vm.findClass RX5 = some m.cls := findClass_of_methodNamed B.named
  have hlocks := B.notSynchronized
  have hP : va_P D vwCl [] s.heap := hP
  have hl := lv_entry ([.int (nI j)]) (n := 1) (Nat.le_of_ble_eq_true rfl)
  rw [lg_entry_eq]
  generalize (lg_sl ([.int (nI j)]) ++ List.replicate (1 - (lg_sl ([.int (nI j)])).length) Slot.unset).toArray = ls at hl ⊢
  have hl : lv_has ls 1 [(0, .int (nI j))] := hl
  refine lv_iload_n hx hb dX5_nameOf_0 rfl (lv_at hl 0 rfl) ?_
  by_cases c1_0 : (nI j) = 0
  · refine lv_tableIn (off := 35) (tgt := 36) hx hb dX5_nameOf_1 (by rw [c1_0]; decide) (by rw [c1_0]; decide) (by rw [c1_0]; decide) (by decide) ?_
    refine va_ldcS hx hb hown (hSt.2.2.2.1 0 (by omega)) dX5_nameOf_36 ?_
    exact W.aret (v := .ref (sK 0)) hx hb hr (Or.inl ⟨_, rfl⟩) (Or.inr ⟨_, rfl⟩) (fun t ht hW => ⟨(by rw [show j = 0 from ft_eqN (by omega) (by omega) c1_0]), ht⟩) (fun _ h9 => absurd h9 List.not_mem_nil) dX5_nameOf_38
  by_cases c1_1 : (nI j) = 1
  · refine lv_tableIn (off := 38) (tgt := 39) hx hb dX5_nameOf_1 (by rw [c1_1]; decide) (by rw [c1_1]; decide) (by rw [c1_1]; decide) (by decide) ?_
    refine va_ldcS hx hb hown (hSt.2.2.2.1 1 (by omega)) dX5_nameOf_39 ?_
    exact W.aret (v := .ref (sK 1)) hx hb hr (Or.inl ⟨_, rfl⟩) (Or.inr ⟨_, rfl⟩) (fun t ht hW => ⟨(by rw [show j = 1 from ft_eqN (by omega) (by omega) c1_1]), ht⟩) (fun _ h9 => absurd h9 List.not_mem_nil) dX5_nameOf_41
  by_cases c1_2 : (nI j) = 2
  · refine lv_tableIn (off := 41) (tgt := 42) hx hb dX5_nameOf_1 (by rw [c1_2]; decide) (by rw [c1_2]; decide) (by rw [c1_2]; decide) (by decide) ?_
    refine va_ldcS hx hb hown (hSt.2.2.2.1 2 (by omega)) dX5_nameOf_42 ?_
    exact W.aret (v := .ref (sK 2)) hx hb hr (Or.inl ⟨_, rfl⟩) (Or.inr ⟨_, rfl⟩) (fun t ht hW => ⟨(by rw [show j = 2 from ft_eqN (by omega) (by omega) c1_2]), ht⟩) (fun _ h9 => absurd h9 List.not_mem_nil) dX5_nameOf_44
  by_cases c1_3 : (nI j) = 3
  · refine lv_tableIn (off := 44) (tgt := 45) hx hb dX5_nameOf_1 (by rw [c1_3]; decide) (by rw [c1_3]; decide) (by rw [c1_3]; decide) (by decide) ?_
    refine va_ldcS hx hb hown (hSt.2.2.2.1 3 (by omega)) dX5_nameOf_45 ?_
    exact W.aret (v := .ref (sK 3)) hx hb hr (Or.inl ⟨_, rfl⟩) (Or.inr ⟨_, rfl⟩) (fun t ht hW => ⟨(by rw [show j = 3 from ft_eqN (by omega) (by omega) c1_3]), ht⟩) (fun _ h9 => absurd h9 List.not_mem_nil) dX5_nameOf_47
  by_cases c1_4 : (nI j) = 4
  · refine lv_tableIn (off := 47) (tgt := 48) hx hb dX5_nameOf_1 (by rw [c1_4]; decide) (by rw [c1_4]; decide) (by rw [c1_4]; decide) (by decide) ?_
    refine va_ldcS hx hb hown (hSt.2.2.2.1 4 (by omega)) dX5_nameOf_48 ?_
    exact W.aret (v := .ref (sK 4)) hx hb hr (Or.inl ⟨_, rfl⟩) (Or.inr ⟨_, rfl⟩) (fun t ht hW => ⟨(by rw [show j = 4 from ft_eqN (by omega) (by omega) c1_4]), ht⟩) (fun _ h9 => absurd h9 List.not_mem_nil) dX5_nameOf_50
  have c1_0i := lv_neT (a := 0) c1_0 (by decide)
  have c1_1i := lv_neT (a := 1) c1_1 (by decide)
  have c1_2i := lv_neT (a := 2) c1_2 (by decide)
  have c1_3i := lv_neT (a := 3) c1_3 (by decide)
  have c1_4i := lv_neT (a := 4) c1_4 (by decide)
  refine lv_tableOut (tgt := 51) hx hb dX5_nameOf_1 (by omega) (by decide) ?_
  have h5 : j = 5 := by
    have q0 : j ≠ 0 := fun q => c1_0 (by rw [q]; rfl)
    have q1 : j ≠ 1 := fun q => c1_1 (by rw [q]; rfl)
    have q2 : j ≠ 2 := fun q => c1_2 (by rw [q]; rfl)
    have q3 : j ≠ 3 := fun q => c1_3 (by rw [q]; rfl)
    have q4 : j ≠ 4 := fun q => c1_4 (by rw [q]; rfl)
    omega
  refine va_ldcS hx hb hown (hSt.2.2.2.1 5 (by omega)) dX5_nameOf_51 ?_
  exact W.aret (v := .ref (sK 5)) hx hb hr (Or.inl ⟨_, rfl⟩) (Or.inr ⟨_, rfl⟩) (fun t ht hW => ⟨(by rw [h5]), ht⟩) (fun _ h9 => absurd h9 List.not_mem_nil) dX5_nameOf_53
set_option maxHeartbeats 4000000 in
set_option maxRecDepth 100000 in
theorem c_X5_numbersOf (l : Launch) (D : va_G) (cI cS : ClassId) (x : Int32)  : Met l yX5_numbersOf wsX5_numbersOf ({ frames := 0, cells := 0, slots := 0, locals := 0 }) (ftRO D cI cS [.int x] []) (vp_Si (fun o9 => o9 = nI (ftNs x))) 0 0 (fun _ => False) := by
  refine Met.ofW (cc := cX5_numbersOf) (maxL := 1) (ret := (some .int)) (by decide) rfl ?_
  intro p e s m args below meth c s₁ B hml hv
  obtain ⟨rfl, hP, hKK⟩ := hv
  have hK := hKK.1
  have hx := B.exec
  have hb := B.bytes
  have hr := B.returns
  have hts := atoms_spec (ws := wsX5_numbersOf) B.pre
  have hown : s.vm.findClass RX5 = some m.cls := findClass_of_methodNamed B.named
  have hlocks := B.notSynchronized
  have hP : va_P D vwCl [] s.heap := hP
  have hl := lv_entry ([.int x]) (n := 1) (Nat.le_of_ble_eq_true rfl)
  rw [lg_entry_eq]
  generalize (lg_sl ([.int x]) ++ List.replicate (1 - (lg_sl ([.int x])).length) Slot.unset).toArray = ls at hl ⊢
  have hl : lv_has ls 1 [(0, .int x)] := hl
  refine lv_iload_n hx hb dX5_numbersOf_0 rfl (lv_at hl 0 rfl) ?_
  refine lv_iconst (v := 3) hx hb dX5_numbersOf_1 (by decide) ?_
  refine lv_icmp_ge (tgt := 7) hx hb dX5_numbersOf_2 (by decide) (fun c2 => ?_) (fun c2 => ?_)
  · refine lv_iload_n hx hb dX5_numbersOf_7 rfl (lv_at hl 0 rfl) ?_
    refine lv_iconst (v := 4) hx hb dX5_numbersOf_8 (by decide) ?_
    refine lv_icmp_ne (tgt := 16) hx hb dX5_numbersOf_9 (by decide) (fun c9 => ?_) (fun c9 => ?_)
    · refine lv_iconst (v := 2) hx hb dX5_numbersOf_16 (by decide) ?_
      exact W.iret (v := 2) hx hb hr (fun t ht hW => ⟨2, rfl, (by show (2 : Int32) = nI (ftNs x); unfold ftNs; first | (rw [if_pos (Int32.not_le.mp c2)]; rfl) | (rw [if_neg (Int32.not_lt.mpr c2), if_pos c9]; rfl) | (rw [if_neg (Int32.not_lt.mpr c2), if_neg c9]; rfl)), ht⟩) (fun _ h9 => absurd h9 List.not_mem_nil) dX5_numbersOf_17
    · refine lv_iconst (v := 3) hx hb dX5_numbersOf_12 (by decide) ?_
      refine lv_goto (tgt := 17) hx hb dX5_numbersOf_13 (by decide) ?_
      exact W.iret (v := 3) hx hb hr (fun t ht hW => ⟨3, rfl, (by show (3 : Int32) = nI (ftNs x); unfold ftNs; first | (rw [if_pos (Int32.not_le.mp c2)]; rfl) | (rw [if_neg (Int32.not_lt.mpr c2), if_pos c9]; rfl) | (rw [if_neg (Int32.not_lt.mpr c2), if_neg c9]; rfl)), ht⟩) (fun _ h9 => absurd h9 List.not_mem_nil) dX5_numbersOf_17
  · refine lv_iconst (v := 1) hx hb dX5_numbersOf_5 (by decide) ?_
    exact W.iret (v := 1) hx hb hr (fun t ht hW => ⟨1, rfl, (by show (1 : Int32) = nI (ftNs x); unfold ftNs; first | (rw [if_pos (Int32.not_le.mp c2)]; rfl) | (rw [if_neg (Int32.not_lt.mpr c2), if_pos c9]; rfl) | (rw [if_neg (Int32.not_lt.mpr c2), if_neg c9]; rfl)), ht⟩) (fun _ h9 => absurd h9 List.not_mem_nil) dX5_numbersOf_6
set_option maxHeartbeats 4000000 in
set_option maxRecDepth 100000 in
theorem c_X5_isLetter (l : Launch) (D : va_G) (cI cS : ClassId) (x : Int32)  : Met l yX5_isLetter wsX5_isLetter ({ frames := 1, cells := 0, slots := 0, locals := 22 }) (ftRO D cI cS [.int x] []) (vp_Si (fun o9 => o9 = ftB (ftLet x))) 0 0 (fun _ => False) := by
  refine Met.ofW (cc := cX5_isLetter) (maxL := 1) (ret := (some .boolean)) (by decide) rfl ?_
  intro p e s m args below meth c s₁ B hml hv
  obtain ⟨rfl, hP, hKK⟩ := hv
  have hK := hKK.1
  have hx := B.exec
  have hb := B.bytes
  have hr := B.returns
  have hts := atoms_spec (ws := wsX5_isLetter) B.pre
  have hown : s.vm.findClass RX5 = some m.cls := findClass_of_methodNamed B.named
  have hlocks := B.notSynchronized
  have hP : va_P D vwCl [] s.heap := hP
  have hl := lv_entry ([.int x]) (n := 1) (Nat.le_of_ble_eq_true rfl)
  rw [lg_entry_eq]
  generalize (lg_sl ([.int x]) ++ List.replicate (1 - (lg_sl ([.int x])).length) Slot.unset).toArray = ls at hl ⊢
  have hl : lv_has ls 1 [(0, .int x)] := hl
  refine lv_iload_n hx hb dX5_isLetter_0 rfl (lv_at hl 0 rfl) ?_
  refine lv_bipush (v := 97) hx hb dX5_isLetter_1 (by decide) ?_
  refine lv_bipush (v := 122) hx hb dX5_isLetter_3 (by decide) ?_
  refine ft_csi (r := ftB (97 ≤ x ∧ x ≤ 122)) (va_runSN (As := [.int x, .int 97, .int 122]) (rest := []) ⟨hx, hb, hml, hown, hts⟩ (c_X10_isWithin l D cI cS x 97 122) ⟨va_cnB 3 hts gX5_isLetter_X10_isWithin_n115 rfl rfl rfl (hKK.2 _ (List.mem_of_getElem? (i := 9) rfl)) (hts (.initialized RX10) (by decide +kernel)) (by decide +kernel) ⟨Nat.le_of_ble_eq_true rfl, Nat.le_of_ble_eq_true rfl⟩, hts (.static yX10_isWithin) (by decide +kernel), trivial⟩ (ft_preRO hP hKK [] rfl) rfl rfl hl.1 rfl (lv_room (Nat.le_of_ble_eq_true rfl)) dX5_isLetter_5 ⟨Nat.le_of_ble_eq_true rfl, Nat.le_of_ble_eq_true rfl⟩) ?_
  refine lv_if_ne (tgt := 22) hx hb dX5_isLetter_8 (by decide) (fun c8 => ?_) (fun c8 => ?_)
  · replace c8 := ftB_ne c8
    have hv9 : ftB (ftLet x) = 1 := ftB_t (Or.inl c8)
    refine lv_iconst (v := 1) hx hb dX5_isLetter_22 (by decide) ?_
    refine lv_goto (tgt := 27) hx hb dX5_isLetter_23 (by decide) ?_
    exact W.zret (v := 1) hx hb hr (by rfl) (fun t ht hW => ⟨1, rfl, (by show (1 : Int32) = ftB (ftLet x); exact hv9.symm), ht⟩) (fun _ h9 => absurd h9 List.not_mem_nil) dX5_isLetter_27
  · replace c8 := ftB_eq c8
    refine lv_iload_n hx hb dX5_isLetter_11 rfl (lv_at hl 0 rfl) ?_
    refine lv_bipush (v := 65) hx hb dX5_isLetter_12 (by decide) ?_
    refine lv_bipush (v := 90) hx hb dX5_isLetter_14 (by decide) ?_
    refine ft_csi (r := ftB (65 ≤ x ∧ x ≤ 90)) (va_runSN (As := [.int x, .int 65, .int 90]) (rest := []) ⟨hx, hb, hml, hown, hts⟩ (c_X10_isWithin l D cI cS x 65 90) ⟨va_cnB 3 hts gX5_isLetter_X10_isWithin_n115 rfl rfl rfl (hKK.2 _ (List.mem_of_getElem? (i := 9) rfl)) (hts (.initialized RX10) (by decide +kernel)) (by decide +kernel) ⟨Nat.le_of_ble_eq_true rfl, Nat.le_of_ble_eq_true rfl⟩, hts (.static yX10_isWithin) (by decide +kernel), trivial⟩ (ft_preRO hP hKK [] rfl) rfl rfl hl.1 rfl (lv_room (Nat.le_of_ble_eq_true rfl)) dX5_isLetter_16 ⟨Nat.le_of_ble_eq_true rfl, Nat.le_of_ble_eq_true rfl⟩) ?_
    refine lv_if_eq (tgt := 26) hx hb dX5_isLetter_19 (by decide) (fun c19 => ?_) (fun c19 => ?_)
    · replace c19 := ftB_eq c19
      have hv9 : ftB (ftLet x) = 0 := ftB_f (fun q => q.elim c8 c19)
      refine lv_iconst (v := 0) hx hb dX5_isLetter_26 (by decide) ?_
      exact W.zret (v := 0) hx hb hr (by rfl) (fun t ht hW => ⟨0, rfl, (by show (0 : Int32) = ftB (ftLet x); exact hv9.symm), ht⟩) (fun _ h9 => absurd h9 List.not_mem_nil) dX5_isLetter_27
    · replace c19 := ftB_ne c19
      have hv9 : ftB (ftLet x) = 1 := ftB_t (Or.inr c19)
      refine lv_iconst (v := 1) hx hb dX5_isLetter_22 (by decide) ?_
      refine lv_goto (tgt := 27) hx hb dX5_isLetter_23 (by decide) ?_
      exact W.zret (v := 1) hx hb hr (by rfl) (fun t ht hW => ⟨1, rfl, (by show (1 : Int32) = ftB (ftLet x); exact hv9.symm), ht⟩) (fun _ h9 => absurd h9 List.not_mem_nil) dX5_isLetter_27
set_option maxHeartbeats 4000000 in
set_option maxRecDepth 100000 in
theorem c_X5_standsAt (l : Launch) (D : va_G) (cI cS : ClassId) (sK sV : Nat → Nat) (a0 ag am ad b0 : Nat) (tn : Nat) (v1 v2 v3 : Int32) (v4 : Int32) (tx : Nat → Int32) (j sp : Nat) (htn : tn ≤ 120) (hj : j < 6) (hsp : sp ≤ tn) : Met l yX5_standsAt wsX5_standsAt ({ frames := 5, cells := 0, slots := 0, locals := 115 }) (ftROS D cI cS sK sV [.ref a0, .ref (sK j), .int (nI sp)] [(a0, .inr (5, [.ref ag, .ref am, .ref ad, .ref b0, .int (nI tn), .int v1, .int v2, .int v3, .int v4])), (ag, .inl (cI, 120, .inl tx))]) (vp_Si (fun o9 => o9 = ftB (∀ t, t < ftWs j → ftC tx tn (sp + t) = ftLt (nI (100 * j + t))))) 0 0 (fun _ => False) := by
  refine Met.ofW (cc := cX5_standsAt) (maxL := 4) (ret := (some .boolean)) (by decide) rfl ?_
  intro p e s m args below meth c s₁ B hml hv
  obtain ⟨rfl, hP, hKK, hSt⟩ := hv
  have hS : va_S (fun _ => False) s.heap s.heap [] := va_S.rf
  have hK := hKK.1
  have hx := B.exec
  have hb := B.bytes
  have hr := B.returns
  have hts := atoms_spec (ws := wsX5_standsAt) B.pre
  have hown : s.vm.findClass RX5 = some m.cls := findClass_of_methodNamed B.named
  have hlocks := B.notSynchronized
  have hP : va_P D vwCl [(a0, .inr (5, [.ref ag, .ref am, .ref ad, .ref b0, .int (nI tn), .int v1, .int v2, .int v3, .int v4])), (ag, .inl (cI, 120, .inl tx))] s.heap := hP
  have hl := lv_entry ([.ref a0, .ref (sK j), .int (nI sp)]) (n := 4) (Nat.le_of_ble_eq_true rfl)
  rw [lg_entry_eq]
  generalize (lg_sl ([.ref a0, .ref (sK j), .int (nI sp)]) ++ List.replicate (4 - (lg_sl ([.ref a0, .ref (sK j), .int (nI sp)])).length) Slot.unset).toArray = ls at hl ⊢
  have hl : lv_has ls 4 [(0, .ref a0), (1, .ref (sK j)), (2, .int (nI sp))] := hl
  have hw11 := ftWs_le j
  refine lv_iconst (v := 0) hx hb dX5_standsAt_0 (by decide) ?_
  refine lv_istore_n (lv' := [(3, .int 0), (0, .ref a0), (1, .ref (sK j)), (2, .int (nI sp))]) hx hb dX5_standsAt_1 rfl hl (by decide) rfl (fun ls hl => ?_)
  have lp2 : ∀ (n2 : Nat) (k : Nat) (x2_3 : Int32), ftWs j - k < n2 → (k ≤ ftWs j) → (∀ t, t < k → ftC tx tn (sp + t) = ftLt (nI (100 * j + t))) → x2_3 = nI k → ∀ ls : Array Slot, lv_has ls 4 [(0, .ref a0), (1, .ref (sK j)), (2, .int (nI sp)), (3, .int x2_3)] → W p l e (headSpec wsX5_standsAt { frames := 5, cells := 0, slots := 0, locals := 115 }).room s m ([.ref a0, .ref (sK j), .int (nI sp)] : List Value).toArray below meth c s.heap [] 0 0 (MQ below (vp_Si (fun o9 => o9 = ftB (∀ t, t < ftWs j → ftC tx tn (sp + t) = ftLt (nI (100 * j + t))))) ([.ref a0, .ref (sK j), .int (nI sp)] : List Value).toArray s 0 0 (fun _ => False)) (F0 m 2 ls []) := by
    intro n2
    induction n2 with
    | zero =>
      intro k x2_3  hm2
      exact absurd hm2 (Nat.not_lt_zero _)
    | succ n2 ih2 =>
      intro k x2_3  hm2 hks hall ex2_3  ls hl
      subst ex2_3
      refine lv_iload_n hx hb dX5_standsAt_2 rfl (lv_at hl 3 rfl) ?_
      refine lv_aload_n hx hb dX5_standsAt_3 rfl (lv_at hl 1 rfl) ?_
      refine ft_csi (r := nI (ftWs j)) (va_runV (C := RJ0) (As := []) (rest := [.int (nI k)]) ⟨hx, hb, hml, hown, hts⟩ (c_J0_length_8abf5 l D cI cS sK sV j (by first | assumption | omega)) (cwV 0 hts gX5_standsAt_J0_length_8abf5 rfl rfl rfl (by decide +kernel) ⟨Nat.le_of_ble_eq_true rfl, Nat.le_of_ble_eq_true rfl⟩) (ft_preJ (a := sK j) hP hKK hSt hS (vk_recv hSt.1 (by omega) hS) [] rfl) rfl rfl hl.1 rfl (lv_room (Nat.le_of_ble_eq_true rfl)) dX5_standsAt_4 ⟨Nat.le_of_ble_eq_true rfl, Nat.le_of_ble_eq_true rfl⟩) ?_
      refine lv_icmp_ge (tgt := 33) hx hb dX5_standsAt_7 (by decide) (fun c7 => ?_) (fun c7 => ?_)
      · have c7n : (ftWs j) ≤ k := ft_leN (by omega) (by omega) c7
        have hv9 : ftB (∀ t, t < ftWs j → ftC tx tn (sp + t) = ftLt (nI (100 * j + t))) = 1 := ftB_t (fun t ht => hall t (by omega))
        refine lv_iconst (v := 1) hx hb dX5_standsAt_33 (by decide) ?_
        exact W.zret (v := 1) hx hb hr (by rfl) (fun t ht hW => ⟨1, rfl, (by show (1 : Int32) = ftB (∀ t, t < ftWs j → ftC tx tn (sp + t) = ftLt (nI (100 * j + t))); exact hv9.symm), ht⟩) (fun _ h9 => absurd h9 List.not_mem_nil) dX5_standsAt_34
      · have c7n : k < (ftWs j) := ft_nleN (by omega) (by omega) c7
        refine lv_aload_n hx hb dX5_standsAt_10 rfl (lv_at hl 0 rfl) ?_
        refine lv_iload_n hx hb dX5_standsAt_11 rfl (lv_at hl 2 rfl) ?_
        refine lv_iload_n hx hb dX5_standsAt_12 rfl (lv_at hl 3 rfl) ?_
        refine lv_iadd hx hb dX5_standsAt_13 ?_
        refine ft_top (y := nI (sp + k)) (ft_addN sp k) ?_
        refine ft_csi (r := ftC tx tn (sp + k)) (va_runV (C := RX5) (As := [.int (nI (sp + k))]) (rest := []) ⟨hx, hb, hml, hown, hts⟩ (c_X5_signAt l D cI cS a0 ag am ad b0 tn v1 v2 v3 v4 tx (sp + k) (by first | assumption | omega) (by first | assumption | omega)) (cwV 1 hts gX5_standsAt_X5_signAt rfl rfl rfl (by decide +kernel) ⟨Nat.le_of_ble_eq_true rfl, Nat.le_of_ble_eq_true rfl⟩) (ft_preROV (ci := 5) (q0 := 0) hP hKK [0, 1] rfl rfl rfl) rfl rfl hl.1 rfl (lv_room (Nat.le_of_ble_eq_true rfl)) dX5_standsAt_14 ⟨Nat.le_of_ble_eq_true rfl, Nat.le_of_ble_eq_true rfl⟩) ?_
        refine lv_aload_n hx hb dX5_standsAt_17 rfl (lv_at hl 1 rfl) ?_
        refine lv_iload_n hx hb dX5_standsAt_18 rfl (lv_at hl 3 rfl) ?_
        refine ft_csi (r := ftLt (nI (100 * j + k))) (va_runV (C := RJ0) (As := [.int (nI k)]) (rest := [.int (ftC tx tn (sp + k))]) ⟨hx, hb, hml, hown, hts⟩ (c_J0_charAt_5068e l D cI cS sK sV j k (by first | assumption | omega) (by first | assumption | omega)) (cwV 1 hts gX5_standsAt_J0_charAt_5068e rfl rfl rfl (by decide +kernel) ⟨Nat.le_of_ble_eq_true rfl, Nat.le_of_ble_eq_true rfl⟩) (ft_preJ (a := sK j) hP hKK hSt hS (vk_recv hSt.1 (by omega) hS) [] rfl) rfl rfl hl.1 rfl (lv_room (Nat.le_of_ble_eq_true rfl)) dX5_standsAt_19 ⟨Nat.le_of_ble_eq_true rfl, Nat.le_of_ble_eq_true rfl⟩) ?_
        refine lv_icmp_eq (tgt := 27) hx hb dX5_standsAt_22 (by decide) (fun c22 => ?_) (fun c22 => ?_)
        · refine lv_iinc (v := nI (k + 1)) (lv' := [(3, .int (nI (k + 1))), (0, .ref a0), (1, .ref (sK j)), (2, .int (nI sp))]) hx hb dX5_standsAt_27 hl (k := 3) rfl (ft_inc k) (by decide) rfl (fun ls hl => ?_)
          refine lv_goto (tgt := 2) hx hb dX5_standsAt_30 (by decide) ?_
          exact ih2 (k + 1) (nI (k + 1))  (by omega) (by omega) (by intro t ht; rcases Nat.lt_succ_iff_lt_or_eq.mp ht with q | q; exact hall t q; subst q; exact c22) (by first | rfl | assumption)  ls (lv_sub hl [1, 2, 3, 0] rfl)
        · have hv9 : ftB (∀ t, t < ftWs j → ftC tx tn (sp + t) = ftLt (nI (100 * j + t))) = 0 := ftB_f (fun q => c22 (q k c7n))
          refine lv_iconst (v := 0) hx hb dX5_standsAt_25 (by decide) ?_
          exact W.zret (v := 0) hx hb hr (by rfl) (fun t ht hW => ⟨0, rfl, (by show (0 : Int32) = ftB (∀ t, t < ftWs j → ftC tx tn (sp + t) = ftLt (nI (100 * j + t))); exact hv9.symm), ht⟩) (fun _ h9 => absurd h9 List.not_mem_nil) dX5_standsAt_26
  exact lp2 _ 0 0  (Nat.lt_succ_self _) (by omega) (by intro t ht; exact absurd ht (Nat.not_lt_zero t)) (by rfl) ls (lv_sub hl [1, 2, 3, 0] rfl)
set_option maxHeartbeats 4000000 in
set_option maxRecDepth 100000 in
theorem c_X5_wordAt (l : Launch) (D : va_G) (cI cS : ClassId) (sK sV : Nat → Nat) (a0 ag am ad b0 : Nat) (tn : Nat) (v1 v2 v3 : Int32) (v4 : Int32) (tx : Nat → Int32) (sp : Nat) (htn : tn ≤ 120) (hsp : sp ≤ tn) : Met l yX5_wordAt wsX5_wordAt ({ frames := 6, cells := 0, slots := 0, locals := 138 }) (ftROS D cI cS sK sV [.ref a0, .int (nI sp)] [(a0, .inr (5, [.ref ag, .ref am, .ref ad, .ref b0, .int (nI tn), .int v1, .int v2, .int v3, .int v4])), (ag, .inl (cI, 120, .inl tx))]) (vp_Si (fun o9 => o9 = ftFst (ftCW9 tx tn sp) 6)) 0 0 (fun _ => False) := by
  refine Met.ofW (cc := cX5_wordAt) (maxL := 4) (ret := (some .int)) (by decide) rfl ?_
  intro p e s m args below meth c s₁ B hml hv
  obtain ⟨rfl, hP, hKK, hSt⟩ := hv
  have hS : va_S (fun _ => False) s.heap s.heap [] := va_S.rf
  have hK := hKK.1
  have hx := B.exec
  have hb := B.bytes
  have hr := B.returns
  have hts := atoms_spec (ws := wsX5_wordAt) B.pre
  have hown : s.vm.findClass RX5 = some m.cls := findClass_of_methodNamed B.named
  have hlocks := B.notSynchronized
  have hP : va_P D vwCl [(a0, .inr (5, [.ref ag, .ref am, .ref ad, .ref b0, .int (nI tn), .int v1, .int v2, .int v3, .int v4])), (ag, .inl (cI, 120, .inl tx))] s.heap := hP
  have hl := lv_entry ([.ref a0, .int (nI sp)]) (n := 4) (Nat.le_of_ble_eq_true rfl)
  rw [lg_entry_eq]
  generalize (lg_sl ([.ref a0, .int (nI sp)]) ++ List.replicate (4 - (lg_sl ([.ref a0, .int (nI sp)])).length) Slot.unset).toArray = ls at hl ⊢
  have hl : lv_has ls 4 [(0, .ref a0), (1, .int (nI sp))] := hl
  refine lv_iconst (v := 0) hx hb dX5_wordAt_0 (by decide) ?_
  refine lv_istore_n (lv' := [(2, .int 0), (0, .ref a0), (1, .int (nI sp))]) hx hb dX5_wordAt_1 rfl hl (by decide) rfl (fun ls hl => ?_)
  have lp2 : ∀ (n2 : Nat) (j : Nat) (x2_2 : Int32), 6 - j < n2 → (j ≤ 6) → (∀ i, i < j → ¬ ftCW9 tx tn sp i) → x2_2 = nI j → ∀ ls : Array Slot, lv_has ls 4 [(0, .ref a0), (1, .int (nI sp)), (2, .int x2_2)] → W p l e (headSpec wsX5_wordAt { frames := 6, cells := 0, slots := 0, locals := 138 }).room s m ([.ref a0, .int (nI sp)] : List Value).toArray below meth c s.heap [] 0 0 (MQ below (vp_Si (fun o9 => o9 = ftFst (ftCW9 tx tn sp) 6)) ([.ref a0, .int (nI sp)] : List Value).toArray s 0 0 (fun _ => False)) (F0 m 2 ls []) := by
    intro n2
    induction n2 with
    | zero =>
      intro j x2_2  hm2
      exact absurd hm2 (Nat.not_lt_zero _)
    | succ n2 ih2 =>
      intro j x2_2  hm2 hj6 hno ex2_2  ls hl
      subst ex2_2
      refine lv_iload_n hx hb dX5_wordAt_2 rfl (lv_at hl 2 rfl) ?_
      refine lv_bipush (v := 6) hx hb dX5_wordAt_3 (by decide) ?_
      refine lv_icmp_ge (tgt := 46) hx hb dX5_wordAt_5 (by decide) (fun c5 => ?_) (fun c5 => ?_)
      · have c5n : 6 ≤ j := ft_leN (by omega) (by omega) c5
        refine lv_iconst (v := (-1)) hx hb dX5_wordAt_46 (by decide) ?_
        exact W.iret (v := (-1)) hx hb hr (fun t ht hW => ⟨(-1), rfl, (by show ((-1) : Int32) = ftFst (ftCW9 tx tn sp) 6; (obtain rfl : j = 6 := by omega); exact (ftFst_none hno).symm), ht⟩) (fun _ h9 => absurd h9 List.not_mem_nil) dX5_wordAt_47
      · have c5n : j < 6 := ft_nleN (by omega) (by omega) c5
        refine lv_iload_n hx hb dX5_wordAt_8 rfl (lv_at hl 2 rfl) ?_
        refine ft_csr (r := sK j) (va_runS (As := [.int (nI j)]) (rest := []) ⟨hx, hb, hml, hown, hts⟩ (c_X5_nameOf l D cI cS sK sV j (by first | assumption | omega)) (va_cwS 1 hts gX5_wordAt_X5_nameOf rfl rfl rfl (by decide +kernel) ⟨Nat.le_of_ble_eq_true rfl, Nat.le_of_ble_eq_true rfl⟩) (ft_preROS hP hKK hSt hS [] rfl) rfl rfl hl.1 rfl (lv_room (Nat.le_of_ble_eq_true rfl)) dX5_wordAt_9 ⟨Nat.le_of_ble_eq_true rfl, Nat.le_of_ble_eq_true rfl⟩) ?_
        have hw11 := ftWs_le j
        refine lv_astore_n (lv' := [(3, .ref (sK j)), (0, .ref a0), (1, .int (nI sp)), (2, .int (nI j))]) hx hb dX5_wordAt_12 rfl hl (by decide) rfl (fun ls hl => ?_)
        refine lv_aload_n hx hb dX5_wordAt_13 rfl (lv_at hl 1 rfl) ?_
        refine lv_aload_n hx hb dX5_wordAt_14 rfl (lv_at hl 0 rfl) ?_
        refine lv_iload_n hx hb dX5_wordAt_15 rfl (lv_at hl 2 rfl) ?_
        refine ft_csi (r := ftB (∀ t, t < ftWs j → ftC tx tn (sp + t) = ftLt (nI (100 * j + t)))) (va_runV (C := RX5) (As := [.ref (sK j), .int (nI sp)]) (rest := []) ⟨hx, hb, hml, hown, hts⟩ (c_X5_standsAt l D cI cS sK sV a0 ag am ad b0 tn v1 v2 v3 v4 tx j sp (by first | assumption | omega) (by first | assumption | omega) (by first | assumption | omega)) (cwV 2 hts gX5_wordAt_X5_standsAt rfl rfl rfl (by decide +kernel) ⟨Nat.le_of_ble_eq_true rfl, Nat.le_of_ble_eq_true rfl⟩) (ft_preROVS (ci := 5) (q0 := 0) hP hKK hSt hS [0, 1] rfl rfl rfl) rfl rfl hl.1 rfl (lv_room (Nat.le_of_ble_eq_true rfl)) dX5_wordAt_16 ⟨Nat.le_of_ble_eq_true rfl, Nat.le_of_ble_eq_true rfl⟩) ?_
        refine lv_if_eq (tgt := 40) hx hb dX5_wordAt_19 (by decide) (fun c19 => ?_) (fun c19 => ?_)
        · replace c19 := ftB_eq c19
          have hn9 : ¬ ftCW9 tx tn sp j := fun q => c19 q.1
          refine lv_iinc (v := nI (j + 1)) (lv' := [(2, .int (nI (j + 1))), (3, .ref (sK j)), (0, .ref a0), (1, .int (nI sp))]) hx hb dX5_wordAt_40 hl (k := 3) rfl (ft_inc j) (by decide) rfl (fun ls hl => ?_)
          refine lv_goto (tgt := 2) hx hb dX5_wordAt_43 (by decide) ?_
          exact ih2 (j + 1) (nI (j + 1))  (by omega) (by omega) (by intro i hi; rcases Nat.lt_succ_iff_lt_or_eq.mp hi with q | q; exact hno i q; subst q; exact hn9) (by first | rfl | assumption)  ls (lv_sub hl [2, 3, 0] rfl)
        · replace c19 := ftB_ne c19
          refine lv_aload_n hx hb dX5_wordAt_22 rfl (lv_at hl 1 rfl) ?_
          refine lv_iload_n hx hb dX5_wordAt_23 rfl (lv_at hl 2 rfl) ?_
          refine lv_aload_n hx hb dX5_wordAt_24 rfl (lv_at hl 0 rfl) ?_
          refine ft_csi (r := nI (ftWs j)) (va_runV (C := RJ0) (As := []) (rest := [.int (nI sp), .ref a0]) ⟨hx, hb, hml, hown, hts⟩ (c_J0_length_8abf5 l D cI cS sK sV j (by first | assumption | omega)) (cwV 0 hts gX5_wordAt_J0_length_8abf5 rfl rfl rfl (by decide +kernel) ⟨Nat.le_of_ble_eq_true rfl, Nat.le_of_ble_eq_true rfl⟩) (ft_preJ (a := sK j) hP hKK hSt hS (vk_recv hSt.1 (by omega) hS) [] rfl) rfl rfl hl.1 rfl (lv_room (Nat.le_of_ble_eq_true rfl)) dX5_wordAt_25 ⟨Nat.le_of_ble_eq_true rfl, Nat.le_of_ble_eq_true rfl⟩) ?_
          refine lv_iadd hx hb dX5_wordAt_28 ?_
          refine ft_top (y := nI (sp + (ftWs j))) (ft_addN sp (ftWs j)) ?_
          refine ft_csi (r := ftC tx tn (sp + (ftWs j))) (va_runV (C := RX5) (As := [.int (nI (sp + (ftWs j)))]) (rest := []) ⟨hx, hb, hml, hown, hts⟩ (c_X5_signAt l D cI cS a0 ag am ad b0 tn v1 v2 v3 v4 tx (sp + (ftWs j)) (by first | assumption | omega) (by first | assumption | omega)) (cwV 1 hts gX5_wordAt_X5_signAt rfl rfl rfl (by decide +kernel) ⟨Nat.le_of_ble_eq_true rfl, Nat.le_of_ble_eq_true rfl⟩) (ft_preROV (ci := 5) (q0 := 0) hP hKK [0, 1] rfl rfl rfl) rfl rfl hl.1 rfl (lv_room (Nat.le_of_ble_eq_true rfl)) dX5_wordAt_29 ⟨Nat.le_of_ble_eq_true rfl, Nat.le_of_ble_eq_true rfl⟩) ?_
          refine ft_csi (r := ftB (ftLet (ftC tx tn (sp + (ftWs j))))) (va_runS (As := [.int (ftC tx tn (sp + (ftWs j)))]) (rest := []) ⟨hx, hb, hml, hown, hts⟩ (c_X5_isLetter l D cI cS (ftC tx tn (sp + (ftWs j)))) (va_cwS 1 hts gX5_wordAt_X5_isLetter rfl rfl rfl (by decide +kernel) ⟨Nat.le_of_ble_eq_true rfl, Nat.le_of_ble_eq_true rfl⟩) (ft_preRO hP hKK [] rfl) rfl rfl hl.1 rfl (lv_room (Nat.le_of_ble_eq_true rfl)) dX5_wordAt_32 ⟨Nat.le_of_ble_eq_true rfl, Nat.le_of_ble_eq_true rfl⟩) ?_
          refine lv_if_ne (tgt := 40) hx hb dX5_wordAt_35 (by decide) (fun c35 => ?_) (fun c35 => ?_)
          · replace c35 := ftB_ne c35
            have hn9 : ¬ ftCW9 tx tn sp j := fun q => q.2 c35
            refine lv_iinc (v := nI (j + 1)) (lv' := [(2, .int (nI (j + 1))), (3, .ref (sK j)), (0, .ref a0), (1, .int (nI sp))]) hx hb dX5_wordAt_40 hl (k := 3) rfl (ft_inc j) (by decide) rfl (fun ls hl => ?_)
            refine lv_goto (tgt := 2) hx hb dX5_wordAt_43 (by decide) ?_
            exact ih2 (j + 1) (nI (j + 1))  (by omega) (by omega) (by intro i hi; rcases Nat.lt_succ_iff_lt_or_eq.mp hi with q | q; exact hno i q; subst q; exact hn9) (by first | rfl | assumption)  ls (lv_sub hl [2, 3, 0] rfl)
          · replace c35 := ftB_eq c35
            have hy9 : ftCW9 tx tn sp j := ⟨c19, c35⟩
            refine lv_iload_n hx hb dX5_wordAt_38 rfl (lv_at hl 3 rfl) ?_
            exact W.iret (v := nI j) hx hb hr (fun t ht hW => ⟨nI j, rfl, (by show (nI j : Int32) = ftFst (ftCW9 tx tn sp) 6; exact (ftFst_some (by omega) hy9 hno 6 (by omega)).symm), ht⟩) (fun _ h9 => absurd h9 List.not_mem_nil) dX5_wordAt_39
  exact lp2 _ 0 0  (Nat.lt_succ_self _) (by omega) (by intro i hi; exact absurd hi (Nat.not_lt_zero i)) (by rfl) ls (lv_sub hl [1, 2, 0] rfl)
set_option maxHeartbeats 4000000 in
set_option maxRecDepth 100000 in
theorem c_X5_readNumber (l : Launch) (D : va_G) (cI cS : ClassId) (sz : Nat) (a0 ag am ad b0 : Nat) (tn : Nat) (v1 v2 v3 : Int32) (sp : Nat) (tx nf : Nat → Int32) (i : Nat) (htn : tn ≤ 120) (hsp : sp ≤ tn) (hi : i < 3) : Met l yX5_readNumber wsX5_readNumber ({ frames := 2, cells := 0, slots := 0, locals := 42 }) (ftRW D cI cS [.ref a0, .int (nI i)] [(a0, .inr (5, [.ref ag, .ref am, .ref ad, .ref b0, .int (nI tn), .int v1, .int v2, .int v3, .int (nI sp)])), (ag, .inl (cI, 120, .inl tx)), (am, .inl (cI, 3, .inl nf))] sz) (ftQi D (ftB (ftNok tx tn sp)) [(a0, .inr (5, [.ref ag, .ref am, .ref ad, .ref b0, .int (nI tn), .int v1, .int v2, .int v3, .int (nI sp)])), (ag, .inl (cI, 120, .inl tx)), (am, .inl (cI, 3, .inl nf))] [(a0, .inr (5, [.ref ag, .ref am, .ref ad, .ref b0, .int (nI tn), .int v1, .int v2, .int v3, .int (nI (ftNe tx tn sp))])), (ag, .inl (cI, 120, .inl tx)), (am, .inl (cI, 3, .inl (ftNf tx tn sp i nf)))] sz) 0 0 (va_A [(a0, .inr (5, [.ref ag, .ref am, .ref ad, .ref b0, .int (nI tn), .int v1, .int v2, .int v3, .int (nI sp)])), (ag, .inl (cI, 120, .inl tx)), (am, .inl (cI, 3, .inl nf))] sz) := by
  refine Met.ofW (cc := cX5_readNumber) (maxL := 5) (ret := (some .boolean)) (by decide) rfl ?_
  intro p e s m args below meth c s₁ B hml hv
  obtain ⟨rfl, hsz, hP, hKK, hD0⟩ := hv
  have hK := hKK.1
  have hx := B.exec
  have hb := B.bytes
  have hr := B.returns
  have hts := atoms_spec (ws := wsX5_readNumber) B.pre
  have hown : s.vm.findClass RX5 = some m.cls := findClass_of_methodNamed B.named
  have hlocks := B.notSynchronized
  subst hsz
  have hD := hD0.self (sz := s.heap.size)
  generalize hAe : va_A [(a0, .inr (5, [.ref ag, .ref am, .ref ad, .ref b0, .int (nI tn), .int v1, .int v2, .int v3, .int (nI sp)])), (ag, .inl (cI, 120, .inl tx)), (am, .inl (cI, 3, .inl nf))] s.heap.size = A at hD ⊢
  have hA : ∀ q : Nat, s.heap.size ≤ q → A q := fun q h => by rw [← hAe]; exact Or.inr h
  have hS : va_S A s.heap s.heap [] := va_S.rf
  have hD : va_D A [(a0, .inr (5, [.ref ag, .ref am, .ref ad, .ref b0, .int (nI tn), .int v1, .int v2, .int v3, .int (nI sp)])), (ag, .inl (cI, 120, .inl tx)), (am, .inl (cI, 3, .inl nf))] := hD
  have hP : va_P D vwCl [(a0, .inr (5, [.ref ag, .ref am, .ref ad, .ref b0, .int (nI tn), .int v1, .int v2, .int v3, .int (nI sp)])), (ag, .inl (cI, 120, .inl tx)), (am, .inl (cI, 3, .inl nf))] s.heap := hP
  have hl := lv_entry ([.ref a0, .int (nI i)]) (n := 5) (Nat.le_of_ble_eq_true rfl)
  rw [lg_entry_eq]
  generalize (lg_sl ([.ref a0, .int (nI i)]) ++ List.replicate (5 - (lg_sl ([.ref a0, .int (nI i)])).length) Slot.unset).toArray = ls at hl ⊢
  have hl : lv_has ls 5 [(0, .ref a0), (1, .int (nI i))] := hl
  refine lv_aload_n hx hb dX5_readNumber_0 rfl (lv_at hl 0 rfl) ?_
  refine lv_aload_n hx hb dX5_readNumber_1 rfl (lv_at hl 0 rfl) ?_
  refine va_get (D := D) (ci := 5) (v := .int (nI sp)) (C := RX5) (T := TX5) (N := 9) hx hb hts (by decide +kernel) hown hK hP 0 rfl rfl 8 (by decide) (hts (.fieldLink RX5 42 "FiberTrace$LinkText" "position" "I") (by decide +kernel)) (fun _ h9 => h9) rfl dX5_readNumber_2 ?_
  refine ft_csi (r := ftC tx tn sp) (va_runV (C := RX5) (As := [.int (nI sp)]) (rest := []) ⟨hx, hb, hml, hown, hts⟩ (c_X5_signAt l D cI cS a0 ag am ad b0 tn v1 v2 v3 (nI sp) tx sp (by first | assumption | omega) (by first | assumption | omega)) (cwV 1 hts gX5_readNumber_X5_signAt rfl rfl rfl (by decide +kernel) ⟨Nat.le_of_ble_eq_true rfl, Nat.le_of_ble_eq_true rfl⟩) (ft_preROV (ci := 5) (q0 := 0) hP hKK [0, 1] rfl rfl rfl) rfl rfl hl.1 rfl (lv_room (Nat.le_of_ble_eq_true rfl)) dX5_readNumber_5 ⟨Nat.le_of_ble_eq_true rfl, Nat.le_of_ble_eq_true rfl⟩) ?_
  refine lv_bipush (v := 32) hx hb dX5_readNumber_8 (by decide) ?_
  refine lv_icmp_eq (tgt := 15) hx hb dX5_readNumber_10 (by decide) (fun c10 => ?_) (fun c10 => ?_)
  · have hsq : ftSp tx tn sp := ftSp_c.mpr c10
    have hlt9 := hsq.1
    refine lv_aload_n hx hb dX5_readNumber_15 rfl (lv_at hl 0 rfl) ?_
    refine lv_dup hx hb dX5_readNumber_16 rfl ?_
    refine va_get (D := D) (ci := 5) (v := .int (nI sp)) (C := RX5) (T := TX5) (N := 9) hx hb hts (by decide +kernel) hown hK hP 0 rfl rfl 8 (by decide) (hts (.fieldLink RX5 42 "FiberTrace$LinkText" "position" "I") (by decide +kernel)) (fun _ h9 => h9) rfl dX5_readNumber_17 ?_
    refine lv_iconst (v := 1) hx hb dX5_readNumber_20 (by decide) ?_
    refine lv_iadd hx hb dX5_readNumber_21 ?_
    refine ft_top (y := nI (sp + 1)) (ft_addN sp 1) ?_
    refine va_put (D := D) (ci := 5) (v := .int (nI (sp + 1))) (ty := .int) (C := RX5) (T := TX5) (N := 9) hx hb hts (by decide +kernel) tyX5 tyX5_ok nmX5 hown hK hP hD hS 0 rfl rfl 8 (by decide) (hts (.fieldLink RX5 42 "FiberTrace$LinkText" "position" "I") (by decide +kernel)) (fun _ h9 => h9) rfl (by decide +kernel) rfl rfl (Nat.le_of_ble_eq_true rfl) dX5_readNumber_22 (fun H locs hP hD hS => ?_)
    have hP : va_P D vwCl [(a0, .inr (5, [.ref ag, .ref am, .ref ad, .ref b0, .int (nI tn), .int v1, .int v2, .int v3, .int (nI (sp + 1))])), (ag, .inl (cI, 120, .inl tx)), (am, .inl (cI, 3, .inl nf))] H := hP
    have hD : va_D A [(a0, .inr (5, [.ref ag, .ref am, .ref ad, .ref b0, .int (nI tn), .int v1, .int v2, .int v3, .int (nI (sp + 1))])), (ag, .inl (cI, 120, .inl tx)), (am, .inl (cI, 3, .inl nf))] := hD
    refine lv_aload_n hx hb dX5_readNumber_25 rfl (lv_at hl 0 rfl) ?_
    refine lv_aload_n hx hb dX5_readNumber_26 rfl (lv_at hl 0 rfl) ?_
    refine va_get (D := D) (ci := 5) (v := .int (nI (sp + 1))) (C := RX5) (T := TX5) (N := 9) hx hb hts (by decide +kernel) hown hK hP 0 rfl rfl 8 (by decide) (hts (.fieldLink RX5 42 "FiberTrace$LinkText" "position" "I") (by decide +kernel)) (fun _ h9 => h9) rfl dX5_readNumber_27 ?_
    refine ft_csi (r := ftC tx tn (sp + 1)) (va_runV (C := RX5) (As := [.int (nI (sp + 1))]) (rest := []) ⟨hx, hb, hml, hown, hts⟩ (c_X5_signAt l D cI cS a0 ag am ad b0 tn v1 v2 v3 (nI (sp + 1)) tx (sp + 1) (by first | assumption | omega) (by first | assumption | omega)) (cwV 1 hts gX5_readNumber_X5_signAt rfl rfl rfl (by decide +kernel) ⟨Nat.le_of_ble_eq_true rfl, Nat.le_of_ble_eq_true rfl⟩) (ft_preROV (ci := 5) (q0 := 0) hP hKK [0, 1] rfl rfl rfl) rfl rfl hl.1 rfl (lv_room (Nat.le_of_ble_eq_true rfl)) dX5_readNumber_30 ⟨Nat.le_of_ble_eq_true rfl, Nat.le_of_ble_eq_true rfl⟩) ?_
    refine lv_bipush (v := 45) hx hb dX5_readNumber_33 (by decide) ?_
    refine lv_icmp_ne (tgt := 42) hx hb dX5_readNumber_35 (by decide) (fun c35 => ?_) (fun c35 => ?_)
    · have hng : ¬ ftNg tx tn sp := fun q => c35 (ftNg_c.mp q)
      have hq8 : ftNq tx tn sp = sp + 1 := ftNq_f hng
      refine lv_iconst (v := 0) hx hb dX5_readNumber_42 (by decide) ?_
      refine lv_istore_n (lv' := [(2, .int 0), (0, .ref a0), (1, .int (nI i))]) hx hb dX5_readNumber_43 rfl hl (by decide) rfl (fun ls hl => ?_)
      refine lv_iload_n hx hb dX5_readNumber_44 rfl (lv_at hl 0 rfl) ?_
      refine lv_if_eq (tgt := 58) hx hb dX5_readNumber_45 (by decide) (fun c45 => ?_) (fun c45 => ?_)
      · obtain ⟨q9, hq9⟩ : ∃ q9, q9 = sp + 1 := ⟨_, rfl⟩
        have hqq : ftNq tx tn sp = q9 := by rw [hq9]; exact hq8
        have hqn : q9 ≤ tn := by omega
        refine lv_iconst (v := 0) hx hb dX5_readNumber_58 (by decide) ?_
        refine lv_istore_n (lv' := [(3, .int 0), (2, .int 0), (0, .ref a0), (1, .int (nI i))]) hx hb dX5_readNumber_59 rfl hl (by decide) rfl (fun ls hl => ?_)
        refine lv_iconst (v := 0) hx hb dX5_readNumber_60 (by decide) ?_
        refine lv_istore (lv' := [(4, .int 0), (3, .int 0), (2, .int 0), (0, .ref a0), (1, .int (nI i))]) hx hb dX5_readNumber_61 hl (by decide) rfl (fun ls hl => ?_)
        have lp63 : ∀ (n63 : Nat) (k : Nat) (x63_3 : Int32) (x63_4 : Int32) (g63_a0_8 : Int32), 5 - k < n63 → (k ≤ 5) → (∀ t, t < k → ftDp tx tn q9 t) → (q9 + k ≤ tn) → x63_3 = ftDg tx q9 k → x63_4 = nI k → g63_a0_8 = nI (q9 + k) → ∀ (H : Heap) (locs : List Loc), va_P D vwCl [(a0, .inr (5, [.ref ag, .ref am, .ref ad, .ref b0, .int (nI tn), .int v1, .int v2, .int v3, .int g63_a0_8])), (ag, .inl (cI, 120, .inl tx)), (am, .inl (cI, 3, .inl nf))] H → va_D A [(a0, .inr (5, [.ref ag, .ref am, .ref ad, .ref b0, .int (nI tn), .int v1, .int v2, .int v3, .int g63_a0_8])), (ag, .inl (cI, 120, .inl tx)), (am, .inl (cI, 3, .inl nf))] → va_S A s.heap H locs → ∀ ls : Array Slot, lv_has ls 5 [(0, .ref a0), (1, .int (nI i)), (2, .int 0), (3, .int x63_3), (4, .int x63_4)] → W p l e (headSpec wsX5_readNumber { frames := 2, cells := 0, slots := 0, locals := 42 }).room s m ([.ref a0, .int (nI i)] : List Value).toArray below meth c H locs 0 0 (MQ below (ftQi D (ftB (ftNok tx tn sp)) [(a0, .inr (5, [.ref ag, .ref am, .ref ad, .ref b0, .int (nI tn), .int v1, .int v2, .int v3, .int (nI sp)])), (ag, .inl (cI, 120, .inl tx)), (am, .inl (cI, 3, .inl nf))] [(a0, .inr (5, [.ref ag, .ref am, .ref ad, .ref b0, .int (nI tn), .int v1, .int v2, .int v3, .int (nI (ftNe tx tn sp))])), (ag, .inl (cI, 120, .inl tx)), (am, .inl (cI, 3, .inl (ftNf tx tn sp i nf)))] s.heap.size) ([.ref a0, .int (nI i)] : List Value).toArray s 0 0 A) (F0 m 63 ls []) := by
          intro n63
          induction n63 with
          | zero =>
            intro k x63_3 x63_4 g63_a0_8 hm63
            exact absurd hm63 (Nat.not_lt_zero _)
          | succ n63 ih63 =>
            intro k x63_3 x63_4 g63_a0_8 hm63 hk5 hall hqk ex63_3 ex63_4 eg63_a0_8 H locs hP hD hS ls hl
            subst ex63_4
            subst eg63_a0_8
            refine lv_iload hx hb dX5_readNumber_63 (lv_at hl 4 rfl) ?_
            refine lv_iconst (v := 5) hx hb dX5_readNumber_65 (by decide) ?_
            refine lv_icmp_ge (tgt := 120) hx hb dX5_readNumber_66 (by decide) (fun c66 => ?_) (fun c66 => ?_)
            · have c66n : 5 ≤ k := ft_leN (by omega) (by omega) c66
              have hm : ftNd tx tn q9 = k := ftIni_of (by omega) hall (fun h => absurd h (by omega))
              refine lv_aload_n hx hb dX5_readNumber_120 rfl (lv_at hl 0 rfl) ?_
              refine va_get (D := D) (ci := 5) (v := .ref am) (C := RX5) (T := TX5) (N := 9) hx hb hts (by decide +kernel) hown hK hP 0 rfl rfl 1 (by decide) (hts (.fieldLink RX5 15 "FiberTrace$LinkText" "numbers" "[I") (by decide +kernel)) (fun _ h9 => h9) rfl dX5_readNumber_121 ?_
              refine lv_iload_n hx hb dX5_readNumber_124 rfl (lv_at hl 1 rfl) ?_
              refine lv_iload_n hx hb dX5_readNumber_125 rfl (lv_at hl 2 rfl) ?_
              refine lv_if_eq (tgt := 134) hx hb dX5_readNumber_126 (by decide) (fun c126 => ?_) (fun c126 => ?_)
              · refine lv_iload_n hx hb dX5_readNumber_134 rfl (lv_at hl 3 rfl) ?_
                refine ft_cv (wc := [(am, .inl (cI, 3, .inl nf))]) (wr := [(a0, .inr (5, [.ref ag, .ref am, .ref ad, .ref b0, .int (nI tn), .int v1, .int v2, .int v3, .int (nI (q9 + k))])), (ag, .inl (cI, 120, .inl tx))]) (w1 := [(am, .inl (cI, 3, .inl (ftPut 3 nf (nI i) x63_3)))]) (ws1 := [(a0, .inr (5, [.ref ag, .ref am, .ref ad, .ref b0, .int (nI tn), .int v1, .int v2, .int v3, .int (nI (q9 + k))])), (ag, .inl (cI, 120, .inl tx)), (am, .inl (cI, 3, .inl (ftPut 3 nf (nI i) x63_3)))]) (va_runSN (As := [.ref am, .int (nI i), .int x63_3]) (rest := []) ⟨hx, hb, hml, hown, hts⟩ (c_X10_put l D cI cS H.size am 3 nf (nI i) x63_3 (by first | assumption | omega)) ⟨va_cnB 3 hts gX5_readNumber_X10_put_n32 rfl rfl rfl (hKK.2 _ (List.mem_of_getElem? (i := 7) rfl)) (hts (.initialized RX10) (by decide +kernel)) (by decide +kernel) ⟨Nat.le_of_ble_eq_true rfl, Nat.le_of_ble_eq_true rfl⟩, hts (.static yX10_put) (by decide +kernel), trivial⟩ (ft_preRW hP hD hKK [2] rfl rfl rfl) rfl rfl hl.1 rfl (lv_room (Nat.le_of_ble_eq_true rfl)) dX5_readNumber_135 ⟨Nat.le_of_ble_eq_true rfl, Nat.le_of_ble_eq_true rfl⟩) hP hD hS hA [2] [0, 1] [0, 1, 2] rfl rfl (by decide) (by decide) (by decide) rfl rfl (fun H locs hP hD hS => ?_)
                rw [ftPut_N (k := i) (by omega) (by omega)] at hP hD
                have hP : va_P D vwCl [(a0, .inr (5, [.ref ag, .ref am, .ref ad, .ref b0, .int (nI tn), .int v1, .int v2, .int v3, .int (nI (q9 + k))])), (ag, .inl (cI, 120, .inl tx)), (am, .inl (cI, 3, .inl (upd nf i x63_3)))] H := hP
                have hD : va_D A [(a0, .inr (5, [.ref ag, .ref am, .ref ad, .ref b0, .int (nI tn), .int v1, .int v2, .int v3, .int (nI (q9 + k))])), (ag, .inl (cI, 120, .inl tx)), (am, .inl (cI, 3, .inl (upd nf i x63_3)))] := hD
                refine lv_iload hx hb dX5_readNumber_138 (lv_at hl 4 rfl) ?_
                refine lv_if_le (tgt := 147) hx hb dX5_readNumber_140 (by decide) (fun c140 => ?_) (fun c140 => ?_)
                · have c140n : k ≤ 0 := ft_leN (by omega) (by omega) c140
                  have hok9 : ftB (ftNok tx tn sp) = 0 := ftB_f (fun q => by have q2 := q.2; rw [hqq, hm] at q2; omega)
                  refine lv_iconst (v := 0) hx hb dX5_readNumber_147 (by decide) ?_
                  have hw9 : ([(a0, .inr (5, [.ref ag, .ref am, .ref ad, .ref b0, .int (nI tn), .int v1, .int v2, .int v3, .int (nI (q9 + k))])), (ag, .inl (cI, 120, .inl tx)), (am, .inl (cI, 3, .inl (upd nf i x63_3)))] : va_W) = [(a0, .inr (5, [.ref ag, .ref am, .ref ad, .ref b0, .int (nI tn), .int v1, .int v2, .int v3, .int (nI (ftNe tx tn sp))])), (ag, .inl (cI, 120, .inl tx)), (am, .inl (cI, 3, .inl (ftNf tx tn sp i nf)))] := by rw [ftNe_t hsq, ftNf_t hsq, hqq, hm]; first | (rw [ftNv_t hng, hqq, hm, ex63_3, ft_neg1]; done) | (rw [ftNv_f hng, hqq, hm, ex63_3, Int32.one_mul]; done)
                  rw [hw9] at hP hD
                  exact W.zret (v := 0) hx hb hr (by rfl) (fun t ht hW => ⟨⟨0, (), rfl, (by show (0 : Int32) = ftB (ftNok tx tn sp); exact hok9.symm), by rw [ht]; exact hP, by rw [hAe]; exact hD⟩, by rw [hAe]; exact hS.F ht⟩) hS.2.2 dX5_readNumber_148
                · have c140n : 0 < k := ft_nleN (by omega) (by omega) c140
                  have hok9 : ftB (ftNok tx tn sp) = 1 := ftB_t ⟨hsq, by rw [hqq, hm]; omega⟩
                  refine lv_iconst (v := 1) hx hb dX5_readNumber_143 (by decide) ?_
                  refine lv_goto (tgt := 148) hx hb dX5_readNumber_144 (by decide) ?_
                  have hw9 : ([(a0, .inr (5, [.ref ag, .ref am, .ref ad, .ref b0, .int (nI tn), .int v1, .int v2, .int v3, .int (nI (q9 + k))])), (ag, .inl (cI, 120, .inl tx)), (am, .inl (cI, 3, .inl (upd nf i x63_3)))] : va_W) = [(a0, .inr (5, [.ref ag, .ref am, .ref ad, .ref b0, .int (nI tn), .int v1, .int v2, .int v3, .int (nI (ftNe tx tn sp))])), (ag, .inl (cI, 120, .inl tx)), (am, .inl (cI, 3, .inl (ftNf tx tn sp i nf)))] := by rw [ftNe_t hsq, ftNf_t hsq, hqq, hm]; first | (rw [ftNv_t hng, hqq, hm, ex63_3, ft_neg1]; done) | (rw [ftNv_f hng, hqq, hm, ex63_3, Int32.one_mul]; done)
                  rw [hw9] at hP hD
                  exact W.zret (v := 1) hx hb hr (by rfl) (fun t ht hW => ⟨⟨1, (), rfl, (by show (1 : Int32) = ftB (ftNok tx tn sp); exact hok9.symm), by rw [ht]; exact hP, by rw [hAe]; exact hD⟩, by rw [hAe]; exact hS.F ht⟩) hS.2.2 dX5_readNumber_148
              · exact absurd rfl c126
            · have c66n : k < 5 := ft_nleN (by omega) (by omega) c66
              refine lv_aload_n hx hb dX5_readNumber_69 rfl (lv_at hl 0 rfl) ?_
              refine lv_aload_n hx hb dX5_readNumber_70 rfl (lv_at hl 0 rfl) ?_
              refine va_get (D := D) (ci := 5) (v := .int (nI (q9 + k))) (C := RX5) (T := TX5) (N := 9) hx hb hts (by decide +kernel) hown hK hP 0 rfl rfl 8 (by decide) (hts (.fieldLink RX5 42 "FiberTrace$LinkText" "position" "I") (by decide +kernel)) (fun _ h9 => h9) rfl dX5_readNumber_71 ?_
              refine ft_csi (r := ftC tx tn (q9 + k)) (va_runV (C := RX5) (As := [.int (nI (q9 + k))]) (rest := []) ⟨hx, hb, hml, hown, hts⟩ (c_X5_signAt l D cI cS a0 ag am ad b0 tn v1 v2 v3 (nI (q9 + k)) tx (q9 + k) (by first | assumption | omega) (by first | assumption | omega)) (cwV 1 hts gX5_readNumber_X5_signAt rfl rfl rfl (by decide +kernel) ⟨Nat.le_of_ble_eq_true rfl, Nat.le_of_ble_eq_true rfl⟩) (ft_preROV (ci := 5) (q0 := 0) hP hKK [0, 1] rfl rfl rfl) rfl rfl hl.1 rfl (lv_room (Nat.le_of_ble_eq_true rfl)) dX5_readNumber_74 ⟨Nat.le_of_ble_eq_true rfl, Nat.le_of_ble_eq_true rfl⟩) ?_
              refine lv_bipush (v := 48) hx hb dX5_readNumber_77 (by decide) ?_
              refine lv_bipush (v := 57) hx hb dX5_readNumber_79 (by decide) ?_
              refine ft_csi (r := ftB (48 ≤ (ftC tx tn (q9 + k)) ∧ (ftC tx tn (q9 + k)) ≤ 57)) (va_runSN (As := [.int (ftC tx tn (q9 + k)), .int 48, .int 57]) (rest := []) ⟨hx, hb, hml, hown, hts⟩ (c_X10_isWithin l D cI cS (ftC tx tn (q9 + k)) 48 57) ⟨va_cnB 3 hts gX5_readNumber_X10_isWithin_n115 rfl rfl rfl (hKK.2 _ (List.mem_of_getElem? (i := 9) rfl)) (hts (.initialized RX10) (by decide +kernel)) (by decide +kernel) ⟨Nat.le_of_ble_eq_true rfl, Nat.le_of_ble_eq_true rfl⟩, hts (.static yX10_isWithin) (by decide +kernel), trivial⟩ (ft_preRO hP hKK [] rfl) rfl rfl hl.1 rfl (lv_room (Nat.le_of_ble_eq_true rfl)) dX5_readNumber_81 ⟨Nat.le_of_ble_eq_true rfl, Nat.le_of_ble_eq_true rfl⟩) ?_
              refine lv_if_eq (tgt := 120) hx hb dX5_readNumber_84 (by decide) (fun c84 => ?_) (fun c84 => ?_)
              · replace c84 := ftB_eq c84
                have hm : ftNd tx tn q9 = k := ftIni_of (by omega) hall (fun _ q => c84 (ftDp_c.mp q))
                refine lv_aload_n hx hb dX5_readNumber_120 rfl (lv_at hl 0 rfl) ?_
                refine va_get (D := D) (ci := 5) (v := .ref am) (C := RX5) (T := TX5) (N := 9) hx hb hts (by decide +kernel) hown hK hP 0 rfl rfl 1 (by decide) (hts (.fieldLink RX5 15 "FiberTrace$LinkText" "numbers" "[I") (by decide +kernel)) (fun _ h9 => h9) rfl dX5_readNumber_121 ?_
                refine lv_iload_n hx hb dX5_readNumber_124 rfl (lv_at hl 1 rfl) ?_
                refine lv_iload_n hx hb dX5_readNumber_125 rfl (lv_at hl 2 rfl) ?_
                refine lv_if_eq (tgt := 134) hx hb dX5_readNumber_126 (by decide) (fun c126 => ?_) (fun c126 => ?_)
                · refine lv_iload_n hx hb dX5_readNumber_134 rfl (lv_at hl 3 rfl) ?_
                  refine ft_cv (wc := [(am, .inl (cI, 3, .inl nf))]) (wr := [(a0, .inr (5, [.ref ag, .ref am, .ref ad, .ref b0, .int (nI tn), .int v1, .int v2, .int v3, .int (nI (q9 + k))])), (ag, .inl (cI, 120, .inl tx))]) (w1 := [(am, .inl (cI, 3, .inl (ftPut 3 nf (nI i) x63_3)))]) (ws1 := [(a0, .inr (5, [.ref ag, .ref am, .ref ad, .ref b0, .int (nI tn), .int v1, .int v2, .int v3, .int (nI (q9 + k))])), (ag, .inl (cI, 120, .inl tx)), (am, .inl (cI, 3, .inl (ftPut 3 nf (nI i) x63_3)))]) (va_runSN (As := [.ref am, .int (nI i), .int x63_3]) (rest := []) ⟨hx, hb, hml, hown, hts⟩ (c_X10_put l D cI cS H.size am 3 nf (nI i) x63_3 (by first | assumption | omega)) ⟨va_cnB 3 hts gX5_readNumber_X10_put_n32 rfl rfl rfl (hKK.2 _ (List.mem_of_getElem? (i := 7) rfl)) (hts (.initialized RX10) (by decide +kernel)) (by decide +kernel) ⟨Nat.le_of_ble_eq_true rfl, Nat.le_of_ble_eq_true rfl⟩, hts (.static yX10_put) (by decide +kernel), trivial⟩ (ft_preRW hP hD hKK [2] rfl rfl rfl) rfl rfl hl.1 rfl (lv_room (Nat.le_of_ble_eq_true rfl)) dX5_readNumber_135 ⟨Nat.le_of_ble_eq_true rfl, Nat.le_of_ble_eq_true rfl⟩) hP hD hS hA [2] [0, 1] [0, 1, 2] rfl rfl (by decide) (by decide) (by decide) rfl rfl (fun H locs hP hD hS => ?_)
                  rw [ftPut_N (k := i) (by omega) (by omega)] at hP hD
                  have hP : va_P D vwCl [(a0, .inr (5, [.ref ag, .ref am, .ref ad, .ref b0, .int (nI tn), .int v1, .int v2, .int v3, .int (nI (q9 + k))])), (ag, .inl (cI, 120, .inl tx)), (am, .inl (cI, 3, .inl (upd nf i x63_3)))] H := hP
                  have hD : va_D A [(a0, .inr (5, [.ref ag, .ref am, .ref ad, .ref b0, .int (nI tn), .int v1, .int v2, .int v3, .int (nI (q9 + k))])), (ag, .inl (cI, 120, .inl tx)), (am, .inl (cI, 3, .inl (upd nf i x63_3)))] := hD
                  refine lv_iload hx hb dX5_readNumber_138 (lv_at hl 4 rfl) ?_
                  refine lv_if_le (tgt := 147) hx hb dX5_readNumber_140 (by decide) (fun c140 => ?_) (fun c140 => ?_)
                  · have c140n : k ≤ 0 := ft_leN (by omega) (by omega) c140
                    have hok9 : ftB (ftNok tx tn sp) = 0 := ftB_f (fun q => by have q2 := q.2; rw [hqq, hm] at q2; omega)
                    refine lv_iconst (v := 0) hx hb dX5_readNumber_147 (by decide) ?_
                    have hw9 : ([(a0, .inr (5, [.ref ag, .ref am, .ref ad, .ref b0, .int (nI tn), .int v1, .int v2, .int v3, .int (nI (q9 + k))])), (ag, .inl (cI, 120, .inl tx)), (am, .inl (cI, 3, .inl (upd nf i x63_3)))] : va_W) = [(a0, .inr (5, [.ref ag, .ref am, .ref ad, .ref b0, .int (nI tn), .int v1, .int v2, .int v3, .int (nI (ftNe tx tn sp))])), (ag, .inl (cI, 120, .inl tx)), (am, .inl (cI, 3, .inl (ftNf tx tn sp i nf)))] := by rw [ftNe_t hsq, ftNf_t hsq, hqq, hm]; first | (rw [ftNv_t hng, hqq, hm, ex63_3, ft_neg1]; done) | (rw [ftNv_f hng, hqq, hm, ex63_3, Int32.one_mul]; done)
                    rw [hw9] at hP hD
                    exact W.zret (v := 0) hx hb hr (by rfl) (fun t ht hW => ⟨⟨0, (), rfl, (by show (0 : Int32) = ftB (ftNok tx tn sp); exact hok9.symm), by rw [ht]; exact hP, by rw [hAe]; exact hD⟩, by rw [hAe]; exact hS.F ht⟩) hS.2.2 dX5_readNumber_148
                  · have c140n : 0 < k := ft_nleN (by omega) (by omega) c140
                    have hok9 : ftB (ftNok tx tn sp) = 1 := ftB_t ⟨hsq, by rw [hqq, hm]; omega⟩
                    refine lv_iconst (v := 1) hx hb dX5_readNumber_143 (by decide) ?_
                    refine lv_goto (tgt := 148) hx hb dX5_readNumber_144 (by decide) ?_
                    have hw9 : ([(a0, .inr (5, [.ref ag, .ref am, .ref ad, .ref b0, .int (nI tn), .int v1, .int v2, .int v3, .int (nI (q9 + k))])), (ag, .inl (cI, 120, .inl tx)), (am, .inl (cI, 3, .inl (upd nf i x63_3)))] : va_W) = [(a0, .inr (5, [.ref ag, .ref am, .ref ad, .ref b0, .int (nI tn), .int v1, .int v2, .int v3, .int (nI (ftNe tx tn sp))])), (ag, .inl (cI, 120, .inl tx)), (am, .inl (cI, 3, .inl (ftNf tx tn sp i nf)))] := by rw [ftNe_t hsq, ftNf_t hsq, hqq, hm]; first | (rw [ftNv_t hng, hqq, hm, ex63_3, ft_neg1]; done) | (rw [ftNv_f hng, hqq, hm, ex63_3, Int32.one_mul]; done)
                    rw [hw9] at hP hD
                    exact W.zret (v := 1) hx hb hr (by rfl) (fun t ht hW => ⟨⟨1, (), rfl, (by show (1 : Int32) = ftB (ftNok tx tn sp); exact hok9.symm), by rw [ht]; exact hP, by rw [hAe]; exact hD⟩, by rw [hAe]; exact hS.F ht⟩) hS.2.2 dX5_readNumber_148
                · exact absurd rfl c126
              · replace c84 := ftB_ne c84
                have hdp : ftDp tx tn q9 k := ftDp_c.mpr c84
                have hlt7 := hdp.1
                refine lv_iload_n hx hb dX5_readNumber_87 rfl (lv_at hl 3 rfl) ?_
                refine lv_bipush (v := 10) hx hb dX5_readNumber_88 (by decide) ?_
                refine lv_imul hx hb dX5_readNumber_90 ?_
                refine lv_aload_n hx hb dX5_readNumber_91 rfl (lv_at hl 0 rfl) ?_
                refine lv_aload_n hx hb dX5_readNumber_92 rfl (lv_at hl 0 rfl) ?_
                refine va_get (D := D) (ci := 5) (v := .int (nI (q9 + k))) (C := RX5) (T := TX5) (N := 9) hx hb hts (by decide +kernel) hown hK hP 0 rfl rfl 8 (by decide) (hts (.fieldLink RX5 42 "FiberTrace$LinkText" "position" "I") (by decide +kernel)) (fun _ h9 => h9) rfl dX5_readNumber_93 ?_
                refine ft_csi (r := ftC tx tn (q9 + k)) (va_runV (C := RX5) (As := [.int (nI (q9 + k))]) (rest := [.int (x63_3 * 10)]) ⟨hx, hb, hml, hown, hts⟩ (c_X5_signAt l D cI cS a0 ag am ad b0 tn v1 v2 v3 (nI (q9 + k)) tx (q9 + k) (by first | assumption | omega) (by first | assumption | omega)) (cwV 1 hts gX5_readNumber_X5_signAt rfl rfl rfl (by decide +kernel) ⟨Nat.le_of_ble_eq_true rfl, Nat.le_of_ble_eq_true rfl⟩) (ft_preROV (ci := 5) (q0 := 0) hP hKK [0, 1] rfl rfl rfl) rfl rfl hl.1 rfl (lv_room (Nat.le_of_ble_eq_true rfl)) dX5_readNumber_96 ⟨Nat.le_of_ble_eq_true rfl, Nat.le_of_ble_eq_true rfl⟩) ?_
                refine lv_iadd hx hb dX5_readNumber_99 ?_
                refine lv_bipush (v := 48) hx hb dX5_readNumber_100 (by decide) ?_
                refine lv_isub hx hb dX5_readNumber_102 ?_
                refine lv_istore_n (lv' := [(3, .int (((x63_3 * 10) + (ftC tx tn (q9 + k))) - 48)), (0, .ref a0), (1, .int (nI i)), (2, .int 0), (4, .int (nI k))]) hx hb dX5_readNumber_103 rfl hl (by decide) rfl (fun ls hl => ?_)
                refine lv_aload_n hx hb dX5_readNumber_104 rfl (lv_at hl 1 rfl) ?_
                refine lv_dup hx hb dX5_readNumber_105 rfl ?_
                refine va_get (D := D) (ci := 5) (v := .int (nI (q9 + k))) (C := RX5) (T := TX5) (N := 9) hx hb hts (by decide +kernel) hown hK hP 0 rfl rfl 8 (by decide) (hts (.fieldLink RX5 42 "FiberTrace$LinkText" "position" "I") (by decide +kernel)) (fun _ h9 => h9) rfl dX5_readNumber_106 ?_
                refine lv_iconst (v := 1) hx hb dX5_readNumber_109 (by decide) ?_
                refine lv_iadd hx hb dX5_readNumber_110 ?_
                refine ft_top (y := nI ((q9 + k) + 1)) (ft_addN (q9 + k) 1) ?_
                refine va_put (D := D) (ci := 5) (v := .int (nI ((q9 + k) + 1))) (ty := .int) (C := RX5) (T := TX5) (N := 9) hx hb hts (by decide +kernel) tyX5 tyX5_ok nmX5 hown hK hP hD hS 0 rfl rfl 8 (by decide) (hts (.fieldLink RX5 42 "FiberTrace$LinkText" "position" "I") (by decide +kernel)) (fun _ h9 => h9) rfl (by decide +kernel) rfl rfl (Nat.le_of_ble_eq_true rfl) dX5_readNumber_111 (fun H locs hP hD hS => ?_)
                have hP : va_P D vwCl [(a0, .inr (5, [.ref ag, .ref am, .ref ad, .ref b0, .int (nI tn), .int v1, .int v2, .int v3, .int (nI ((q9 + k) + 1))])), (ag, .inl (cI, 120, .inl tx)), (am, .inl (cI, 3, .inl nf))] H := hP
                have hD : va_D A [(a0, .inr (5, [.ref ag, .ref am, .ref ad, .ref b0, .int (nI tn), .int v1, .int v2, .int v3, .int (nI ((q9 + k) + 1))])), (ag, .inl (cI, 120, .inl tx)), (am, .inl (cI, 3, .inl nf))] := hD
                refine lv_iinc (v := nI (k + 1)) (lv' := [(4, .int (nI (k + 1))), (3, .int (((x63_3 * 10) + (ftC tx tn (q9 + k))) - 48)), (0, .ref a0), (1, .int (nI i)), (2, .int 0)]) hx hb dX5_readNumber_114 hl (k := 4) rfl (ft_inc k) (by decide) rfl (fun ls hl => ?_)
                refine lv_goto (tgt := 63) hx hb dX5_readNumber_117 (by decide) ?_
                exact ih63 (k + 1) (((x63_3 * 10) + (ftC tx tn (q9 + k))) - 48) (nI (k + 1)) (nI ((q9 + k) + 1)) (by omega) (by omega) (by intro t ht; rcases Nat.lt_succ_iff_lt_or_eq.mp ht with q | q; exact hall t q; subst q; exact hdp) (by omega) (by rw [ex63_3, ftC_in hlt7, Int32.mul_comm]; rfl) (by first | rfl | assumption) (by rfl) _ _ hP hD hS ls (lv_sub hl [2, 3, 4, 1, 0] rfl)
        exact lp63 _ 0 0 0 (nI (sp + 1)) (Nat.lt_succ_self _) (by omega) (by intro t ht; exact absurd ht (Nat.not_lt_zero t)) (by omega) (by rfl) (by rfl) (by rw [hq9]) _ _ hP hD hS ls (lv_sub hl [3, 4, 2, 1, 0] rfl)
      · exact absurd rfl c45
    · have hng : ftNg tx tn sp := ftNg_c.mpr c35
      have hlt8 := hng.1
      have hq8 : ftNq tx tn sp = sp + 1 + 1 := ftNq_t hng
      refine lv_iconst (v := 1) hx hb dX5_readNumber_38 (by decide) ?_
      refine lv_goto (tgt := 43) hx hb dX5_readNumber_39 (by decide) ?_
      refine lv_istore_n (lv' := [(2, .int 1), (0, .ref a0), (1, .int (nI i))]) hx hb dX5_readNumber_43 rfl hl (by decide) rfl (fun ls hl => ?_)
      refine lv_iload_n hx hb dX5_readNumber_44 rfl (lv_at hl 0 rfl) ?_
      refine lv_if_eq (tgt := 58) hx hb dX5_readNumber_45 (by decide) (fun c45 => ?_) (fun c45 => ?_)
      · exact absurd c45 (by decide)
      · refine lv_aload_n hx hb dX5_readNumber_48 rfl (lv_at hl 1 rfl) ?_
        refine lv_dup hx hb dX5_readNumber_49 rfl ?_
        refine va_get (D := D) (ci := 5) (v := .int (nI (sp + 1))) (C := RX5) (T := TX5) (N := 9) hx hb hts (by decide +kernel) hown hK hP 0 rfl rfl 8 (by decide) (hts (.fieldLink RX5 42 "FiberTrace$LinkText" "position" "I") (by decide +kernel)) (fun _ h9 => h9) rfl dX5_readNumber_50 ?_
        refine lv_iconst (v := 1) hx hb dX5_readNumber_53 (by decide) ?_
        refine lv_iadd hx hb dX5_readNumber_54 ?_
        refine ft_top (y := nI ((sp + 1) + 1)) (ft_addN (sp + 1) 1) ?_
        refine va_put (D := D) (ci := 5) (v := .int (nI ((sp + 1) + 1))) (ty := .int) (C := RX5) (T := TX5) (N := 9) hx hb hts (by decide +kernel) tyX5 tyX5_ok nmX5 hown hK hP hD hS 0 rfl rfl 8 (by decide) (hts (.fieldLink RX5 42 "FiberTrace$LinkText" "position" "I") (by decide +kernel)) (fun _ h9 => h9) rfl (by decide +kernel) rfl rfl (Nat.le_of_ble_eq_true rfl) dX5_readNumber_55 (fun H locs hP hD hS => ?_)
        have hP : va_P D vwCl [(a0, .inr (5, [.ref ag, .ref am, .ref ad, .ref b0, .int (nI tn), .int v1, .int v2, .int v3, .int (nI ((sp + 1) + 1))])), (ag, .inl (cI, 120, .inl tx)), (am, .inl (cI, 3, .inl nf))] H := hP
        have hD : va_D A [(a0, .inr (5, [.ref ag, .ref am, .ref ad, .ref b0, .int (nI tn), .int v1, .int v2, .int v3, .int (nI ((sp + 1) + 1))])), (ag, .inl (cI, 120, .inl tx)), (am, .inl (cI, 3, .inl nf))] := hD
        obtain ⟨q9, hq9⟩ : ∃ q9, q9 = (sp + 1) + 1 := ⟨_, rfl⟩
        have hqq : ftNq tx tn sp = q9 := by rw [hq9]; exact hq8
        have hqn : q9 ≤ tn := by omega
        refine lv_iconst (v := 0) hx hb dX5_readNumber_58 (by decide) ?_
        refine lv_istore_n (lv' := [(3, .int 0), (2, .int 1), (0, .ref a0), (1, .int (nI i))]) hx hb dX5_readNumber_59 rfl hl (by decide) rfl (fun ls hl => ?_)
        refine lv_iconst (v := 0) hx hb dX5_readNumber_60 (by decide) ?_
        refine lv_istore (lv' := [(4, .int 0), (3, .int 0), (2, .int 1), (0, .ref a0), (1, .int (nI i))]) hx hb dX5_readNumber_61 hl (by decide) rfl (fun ls hl => ?_)
        have lp63 : ∀ (n63 : Nat) (k : Nat) (x63_3 : Int32) (x63_4 : Int32) (g63_a0_8 : Int32), 5 - k < n63 → (k ≤ 5) → (∀ t, t < k → ftDp tx tn q9 t) → (q9 + k ≤ tn) → x63_3 = ftDg tx q9 k → x63_4 = nI k → g63_a0_8 = nI (q9 + k) → ∀ (H : Heap) (locs : List Loc), va_P D vwCl [(a0, .inr (5, [.ref ag, .ref am, .ref ad, .ref b0, .int (nI tn), .int v1, .int v2, .int v3, .int g63_a0_8])), (ag, .inl (cI, 120, .inl tx)), (am, .inl (cI, 3, .inl nf))] H → va_D A [(a0, .inr (5, [.ref ag, .ref am, .ref ad, .ref b0, .int (nI tn), .int v1, .int v2, .int v3, .int g63_a0_8])), (ag, .inl (cI, 120, .inl tx)), (am, .inl (cI, 3, .inl nf))] → va_S A s.heap H locs → ∀ ls : Array Slot, lv_has ls 5 [(0, .ref a0), (1, .int (nI i)), (2, .int 1), (3, .int x63_3), (4, .int x63_4)] → W p l e (headSpec wsX5_readNumber { frames := 2, cells := 0, slots := 0, locals := 42 }).room s m ([.ref a0, .int (nI i)] : List Value).toArray below meth c H locs 0 0 (MQ below (ftQi D (ftB (ftNok tx tn sp)) [(a0, .inr (5, [.ref ag, .ref am, .ref ad, .ref b0, .int (nI tn), .int v1, .int v2, .int v3, .int (nI sp)])), (ag, .inl (cI, 120, .inl tx)), (am, .inl (cI, 3, .inl nf))] [(a0, .inr (5, [.ref ag, .ref am, .ref ad, .ref b0, .int (nI tn), .int v1, .int v2, .int v3, .int (nI (ftNe tx tn sp))])), (ag, .inl (cI, 120, .inl tx)), (am, .inl (cI, 3, .inl (ftNf tx tn sp i nf)))] s.heap.size) ([.ref a0, .int (nI i)] : List Value).toArray s 0 0 A) (F0 m 63 ls []) := by
          intro n63
          induction n63 with
          | zero =>
            intro k x63_3 x63_4 g63_a0_8 hm63
            exact absurd hm63 (Nat.not_lt_zero _)
          | succ n63 ih63 =>
            intro k x63_3 x63_4 g63_a0_8 hm63 hk5 hall hqk ex63_3 ex63_4 eg63_a0_8 H locs hP hD hS ls hl
            subst ex63_4
            subst eg63_a0_8
            refine lv_iload hx hb dX5_readNumber_63 (lv_at hl 4 rfl) ?_
            refine lv_iconst (v := 5) hx hb dX5_readNumber_65 (by decide) ?_
            refine lv_icmp_ge (tgt := 120) hx hb dX5_readNumber_66 (by decide) (fun c66 => ?_) (fun c66 => ?_)
            · have c66n : 5 ≤ k := ft_leN (by omega) (by omega) c66
              have hm : ftNd tx tn q9 = k := ftIni_of (by omega) hall (fun h => absurd h (by omega))
              refine lv_aload_n hx hb dX5_readNumber_120 rfl (lv_at hl 0 rfl) ?_
              refine va_get (D := D) (ci := 5) (v := .ref am) (C := RX5) (T := TX5) (N := 9) hx hb hts (by decide +kernel) hown hK hP 0 rfl rfl 1 (by decide) (hts (.fieldLink RX5 15 "FiberTrace$LinkText" "numbers" "[I") (by decide +kernel)) (fun _ h9 => h9) rfl dX5_readNumber_121 ?_
              refine lv_iload_n hx hb dX5_readNumber_124 rfl (lv_at hl 1 rfl) ?_
              refine lv_iload_n hx hb dX5_readNumber_125 rfl (lv_at hl 2 rfl) ?_
              refine lv_if_eq (tgt := 134) hx hb dX5_readNumber_126 (by decide) (fun c126 => ?_) (fun c126 => ?_)
              · exact absurd c126 (by decide)
              · refine lv_iload_n hx hb dX5_readNumber_129 rfl (lv_at hl 3 rfl) ?_
                refine lv_ineg hx hb dX5_readNumber_130 ?_
                refine lv_goto (tgt := 135) hx hb dX5_readNumber_131 (by decide) ?_
                refine ft_cv (wc := [(am, .inl (cI, 3, .inl nf))]) (wr := [(a0, .inr (5, [.ref ag, .ref am, .ref ad, .ref b0, .int (nI tn), .int v1, .int v2, .int v3, .int (nI (q9 + k))])), (ag, .inl (cI, 120, .inl tx))]) (w1 := [(am, .inl (cI, 3, .inl (ftPut 3 nf (nI i) (-x63_3))))]) (ws1 := [(a0, .inr (5, [.ref ag, .ref am, .ref ad, .ref b0, .int (nI tn), .int v1, .int v2, .int v3, .int (nI (q9 + k))])), (ag, .inl (cI, 120, .inl tx)), (am, .inl (cI, 3, .inl (ftPut 3 nf (nI i) (-x63_3))))]) (va_runSN (As := [.ref am, .int (nI i), .int (-x63_3)]) (rest := []) ⟨hx, hb, hml, hown, hts⟩ (c_X10_put l D cI cS H.size am 3 nf (nI i) (-x63_3) (by first | assumption | omega)) ⟨va_cnB 3 hts gX5_readNumber_X10_put_n32 rfl rfl rfl (hKK.2 _ (List.mem_of_getElem? (i := 7) rfl)) (hts (.initialized RX10) (by decide +kernel)) (by decide +kernel) ⟨Nat.le_of_ble_eq_true rfl, Nat.le_of_ble_eq_true rfl⟩, hts (.static yX10_put) (by decide +kernel), trivial⟩ (ft_preRW hP hD hKK [2] rfl rfl rfl) rfl rfl hl.1 rfl (lv_room (Nat.le_of_ble_eq_true rfl)) dX5_readNumber_135 ⟨Nat.le_of_ble_eq_true rfl, Nat.le_of_ble_eq_true rfl⟩) hP hD hS hA [2] [0, 1] [0, 1, 2] rfl rfl (by decide) (by decide) (by decide) rfl rfl (fun H locs hP hD hS => ?_)
                rw [ftPut_N (k := i) (by omega) (by omega)] at hP hD
                have hP : va_P D vwCl [(a0, .inr (5, [.ref ag, .ref am, .ref ad, .ref b0, .int (nI tn), .int v1, .int v2, .int v3, .int (nI (q9 + k))])), (ag, .inl (cI, 120, .inl tx)), (am, .inl (cI, 3, .inl (upd nf i (-x63_3))))] H := hP
                have hD : va_D A [(a0, .inr (5, [.ref ag, .ref am, .ref ad, .ref b0, .int (nI tn), .int v1, .int v2, .int v3, .int (nI (q9 + k))])), (ag, .inl (cI, 120, .inl tx)), (am, .inl (cI, 3, .inl (upd nf i (-x63_3))))] := hD
                refine lv_iload hx hb dX5_readNumber_138 (lv_at hl 4 rfl) ?_
                refine lv_if_le (tgt := 147) hx hb dX5_readNumber_140 (by decide) (fun c140 => ?_) (fun c140 => ?_)
                · have c140n : k ≤ 0 := ft_leN (by omega) (by omega) c140
                  have hok9 : ftB (ftNok tx tn sp) = 0 := ftB_f (fun q => by have q2 := q.2; rw [hqq, hm] at q2; omega)
                  refine lv_iconst (v := 0) hx hb dX5_readNumber_147 (by decide) ?_
                  have hw9 : ([(a0, .inr (5, [.ref ag, .ref am, .ref ad, .ref b0, .int (nI tn), .int v1, .int v2, .int v3, .int (nI (q9 + k))])), (ag, .inl (cI, 120, .inl tx)), (am, .inl (cI, 3, .inl (upd nf i (-x63_3))))] : va_W) = [(a0, .inr (5, [.ref ag, .ref am, .ref ad, .ref b0, .int (nI tn), .int v1, .int v2, .int v3, .int (nI (ftNe tx tn sp))])), (ag, .inl (cI, 120, .inl tx)), (am, .inl (cI, 3, .inl (ftNf tx tn sp i nf)))] := by rw [ftNe_t hsq, ftNf_t hsq, hqq, hm]; first | (rw [ftNv_t hng, hqq, hm, ex63_3, ft_neg1]; done) | (rw [ftNv_f hng, hqq, hm, ex63_3, Int32.one_mul]; done)
                  rw [hw9] at hP hD
                  exact W.zret (v := 0) hx hb hr (by rfl) (fun t ht hW => ⟨⟨0, (), rfl, (by show (0 : Int32) = ftB (ftNok tx tn sp); exact hok9.symm), by rw [ht]; exact hP, by rw [hAe]; exact hD⟩, by rw [hAe]; exact hS.F ht⟩) hS.2.2 dX5_readNumber_148
                · have c140n : 0 < k := ft_nleN (by omega) (by omega) c140
                  have hok9 : ftB (ftNok tx tn sp) = 1 := ftB_t ⟨hsq, by rw [hqq, hm]; omega⟩
                  refine lv_iconst (v := 1) hx hb dX5_readNumber_143 (by decide) ?_
                  refine lv_goto (tgt := 148) hx hb dX5_readNumber_144 (by decide) ?_
                  have hw9 : ([(a0, .inr (5, [.ref ag, .ref am, .ref ad, .ref b0, .int (nI tn), .int v1, .int v2, .int v3, .int (nI (q9 + k))])), (ag, .inl (cI, 120, .inl tx)), (am, .inl (cI, 3, .inl (upd nf i (-x63_3))))] : va_W) = [(a0, .inr (5, [.ref ag, .ref am, .ref ad, .ref b0, .int (nI tn), .int v1, .int v2, .int v3, .int (nI (ftNe tx tn sp))])), (ag, .inl (cI, 120, .inl tx)), (am, .inl (cI, 3, .inl (ftNf tx tn sp i nf)))] := by rw [ftNe_t hsq, ftNf_t hsq, hqq, hm]; first | (rw [ftNv_t hng, hqq, hm, ex63_3, ft_neg1]; done) | (rw [ftNv_f hng, hqq, hm, ex63_3, Int32.one_mul]; done)
                  rw [hw9] at hP hD
                  exact W.zret (v := 1) hx hb hr (by rfl) (fun t ht hW => ⟨⟨1, (), rfl, (by show (1 : Int32) = ftB (ftNok tx tn sp); exact hok9.symm), by rw [ht]; exact hP, by rw [hAe]; exact hD⟩, by rw [hAe]; exact hS.F ht⟩) hS.2.2 dX5_readNumber_148
            · have c66n : k < 5 := ft_nleN (by omega) (by omega) c66
              refine lv_aload_n hx hb dX5_readNumber_69 rfl (lv_at hl 0 rfl) ?_
              refine lv_aload_n hx hb dX5_readNumber_70 rfl (lv_at hl 0 rfl) ?_
              refine va_get (D := D) (ci := 5) (v := .int (nI (q9 + k))) (C := RX5) (T := TX5) (N := 9) hx hb hts (by decide +kernel) hown hK hP 0 rfl rfl 8 (by decide) (hts (.fieldLink RX5 42 "FiberTrace$LinkText" "position" "I") (by decide +kernel)) (fun _ h9 => h9) rfl dX5_readNumber_71 ?_
              refine ft_csi (r := ftC tx tn (q9 + k)) (va_runV (C := RX5) (As := [.int (nI (q9 + k))]) (rest := []) ⟨hx, hb, hml, hown, hts⟩ (c_X5_signAt l D cI cS a0 ag am ad b0 tn v1 v2 v3 (nI (q9 + k)) tx (q9 + k) (by first | assumption | omega) (by first | assumption | omega)) (cwV 1 hts gX5_readNumber_X5_signAt rfl rfl rfl (by decide +kernel) ⟨Nat.le_of_ble_eq_true rfl, Nat.le_of_ble_eq_true rfl⟩) (ft_preROV (ci := 5) (q0 := 0) hP hKK [0, 1] rfl rfl rfl) rfl rfl hl.1 rfl (lv_room (Nat.le_of_ble_eq_true rfl)) dX5_readNumber_74 ⟨Nat.le_of_ble_eq_true rfl, Nat.le_of_ble_eq_true rfl⟩) ?_
              refine lv_bipush (v := 48) hx hb dX5_readNumber_77 (by decide) ?_
              refine lv_bipush (v := 57) hx hb dX5_readNumber_79 (by decide) ?_
              refine ft_csi (r := ftB (48 ≤ (ftC tx tn (q9 + k)) ∧ (ftC tx tn (q9 + k)) ≤ 57)) (va_runSN (As := [.int (ftC tx tn (q9 + k)), .int 48, .int 57]) (rest := []) ⟨hx, hb, hml, hown, hts⟩ (c_X10_isWithin l D cI cS (ftC tx tn (q9 + k)) 48 57) ⟨va_cnB 3 hts gX5_readNumber_X10_isWithin_n115 rfl rfl rfl (hKK.2 _ (List.mem_of_getElem? (i := 9) rfl)) (hts (.initialized RX10) (by decide +kernel)) (by decide +kernel) ⟨Nat.le_of_ble_eq_true rfl, Nat.le_of_ble_eq_true rfl⟩, hts (.static yX10_isWithin) (by decide +kernel), trivial⟩ (ft_preRO hP hKK [] rfl) rfl rfl hl.1 rfl (lv_room (Nat.le_of_ble_eq_true rfl)) dX5_readNumber_81 ⟨Nat.le_of_ble_eq_true rfl, Nat.le_of_ble_eq_true rfl⟩) ?_
              refine lv_if_eq (tgt := 120) hx hb dX5_readNumber_84 (by decide) (fun c84 => ?_) (fun c84 => ?_)
              · replace c84 := ftB_eq c84
                have hm : ftNd tx tn q9 = k := ftIni_of (by omega) hall (fun _ q => c84 (ftDp_c.mp q))
                refine lv_aload_n hx hb dX5_readNumber_120 rfl (lv_at hl 0 rfl) ?_
                refine va_get (D := D) (ci := 5) (v := .ref am) (C := RX5) (T := TX5) (N := 9) hx hb hts (by decide +kernel) hown hK hP 0 rfl rfl 1 (by decide) (hts (.fieldLink RX5 15 "FiberTrace$LinkText" "numbers" "[I") (by decide +kernel)) (fun _ h9 => h9) rfl dX5_readNumber_121 ?_
                refine lv_iload_n hx hb dX5_readNumber_124 rfl (lv_at hl 1 rfl) ?_
                refine lv_iload_n hx hb dX5_readNumber_125 rfl (lv_at hl 2 rfl) ?_
                refine lv_if_eq (tgt := 134) hx hb dX5_readNumber_126 (by decide) (fun c126 => ?_) (fun c126 => ?_)
                · exact absurd c126 (by decide)
                · refine lv_iload_n hx hb dX5_readNumber_129 rfl (lv_at hl 3 rfl) ?_
                  refine lv_ineg hx hb dX5_readNumber_130 ?_
                  refine lv_goto (tgt := 135) hx hb dX5_readNumber_131 (by decide) ?_
                  refine ft_cv (wc := [(am, .inl (cI, 3, .inl nf))]) (wr := [(a0, .inr (5, [.ref ag, .ref am, .ref ad, .ref b0, .int (nI tn), .int v1, .int v2, .int v3, .int (nI (q9 + k))])), (ag, .inl (cI, 120, .inl tx))]) (w1 := [(am, .inl (cI, 3, .inl (ftPut 3 nf (nI i) (-x63_3))))]) (ws1 := [(a0, .inr (5, [.ref ag, .ref am, .ref ad, .ref b0, .int (nI tn), .int v1, .int v2, .int v3, .int (nI (q9 + k))])), (ag, .inl (cI, 120, .inl tx)), (am, .inl (cI, 3, .inl (ftPut 3 nf (nI i) (-x63_3))))]) (va_runSN (As := [.ref am, .int (nI i), .int (-x63_3)]) (rest := []) ⟨hx, hb, hml, hown, hts⟩ (c_X10_put l D cI cS H.size am 3 nf (nI i) (-x63_3) (by first | assumption | omega)) ⟨va_cnB 3 hts gX5_readNumber_X10_put_n32 rfl rfl rfl (hKK.2 _ (List.mem_of_getElem? (i := 7) rfl)) (hts (.initialized RX10) (by decide +kernel)) (by decide +kernel) ⟨Nat.le_of_ble_eq_true rfl, Nat.le_of_ble_eq_true rfl⟩, hts (.static yX10_put) (by decide +kernel), trivial⟩ (ft_preRW hP hD hKK [2] rfl rfl rfl) rfl rfl hl.1 rfl (lv_room (Nat.le_of_ble_eq_true rfl)) dX5_readNumber_135 ⟨Nat.le_of_ble_eq_true rfl, Nat.le_of_ble_eq_true rfl⟩) hP hD hS hA [2] [0, 1] [0, 1, 2] rfl rfl (by decide) (by decide) (by decide) rfl rfl (fun H locs hP hD hS => ?_)
                  rw [ftPut_N (k := i) (by omega) (by omega)] at hP hD
                  have hP : va_P D vwCl [(a0, .inr (5, [.ref ag, .ref am, .ref ad, .ref b0, .int (nI tn), .int v1, .int v2, .int v3, .int (nI (q9 + k))])), (ag, .inl (cI, 120, .inl tx)), (am, .inl (cI, 3, .inl (upd nf i (-x63_3))))] H := hP
                  have hD : va_D A [(a0, .inr (5, [.ref ag, .ref am, .ref ad, .ref b0, .int (nI tn), .int v1, .int v2, .int v3, .int (nI (q9 + k))])), (ag, .inl (cI, 120, .inl tx)), (am, .inl (cI, 3, .inl (upd nf i (-x63_3))))] := hD
                  refine lv_iload hx hb dX5_readNumber_138 (lv_at hl 4 rfl) ?_
                  refine lv_if_le (tgt := 147) hx hb dX5_readNumber_140 (by decide) (fun c140 => ?_) (fun c140 => ?_)
                  · have c140n : k ≤ 0 := ft_leN (by omega) (by omega) c140
                    have hok9 : ftB (ftNok tx tn sp) = 0 := ftB_f (fun q => by have q2 := q.2; rw [hqq, hm] at q2; omega)
                    refine lv_iconst (v := 0) hx hb dX5_readNumber_147 (by decide) ?_
                    have hw9 : ([(a0, .inr (5, [.ref ag, .ref am, .ref ad, .ref b0, .int (nI tn), .int v1, .int v2, .int v3, .int (nI (q9 + k))])), (ag, .inl (cI, 120, .inl tx)), (am, .inl (cI, 3, .inl (upd nf i (-x63_3))))] : va_W) = [(a0, .inr (5, [.ref ag, .ref am, .ref ad, .ref b0, .int (nI tn), .int v1, .int v2, .int v3, .int (nI (ftNe tx tn sp))])), (ag, .inl (cI, 120, .inl tx)), (am, .inl (cI, 3, .inl (ftNf tx tn sp i nf)))] := by rw [ftNe_t hsq, ftNf_t hsq, hqq, hm]; first | (rw [ftNv_t hng, hqq, hm, ex63_3, ft_neg1]; done) | (rw [ftNv_f hng, hqq, hm, ex63_3, Int32.one_mul]; done)
                    rw [hw9] at hP hD
                    exact W.zret (v := 0) hx hb hr (by rfl) (fun t ht hW => ⟨⟨0, (), rfl, (by show (0 : Int32) = ftB (ftNok tx tn sp); exact hok9.symm), by rw [ht]; exact hP, by rw [hAe]; exact hD⟩, by rw [hAe]; exact hS.F ht⟩) hS.2.2 dX5_readNumber_148
                  · have c140n : 0 < k := ft_nleN (by omega) (by omega) c140
                    have hok9 : ftB (ftNok tx tn sp) = 1 := ftB_t ⟨hsq, by rw [hqq, hm]; omega⟩
                    refine lv_iconst (v := 1) hx hb dX5_readNumber_143 (by decide) ?_
                    refine lv_goto (tgt := 148) hx hb dX5_readNumber_144 (by decide) ?_
                    have hw9 : ([(a0, .inr (5, [.ref ag, .ref am, .ref ad, .ref b0, .int (nI tn), .int v1, .int v2, .int v3, .int (nI (q9 + k))])), (ag, .inl (cI, 120, .inl tx)), (am, .inl (cI, 3, .inl (upd nf i (-x63_3))))] : va_W) = [(a0, .inr (5, [.ref ag, .ref am, .ref ad, .ref b0, .int (nI tn), .int v1, .int v2, .int v3, .int (nI (ftNe tx tn sp))])), (ag, .inl (cI, 120, .inl tx)), (am, .inl (cI, 3, .inl (ftNf tx tn sp i nf)))] := by rw [ftNe_t hsq, ftNf_t hsq, hqq, hm]; first | (rw [ftNv_t hng, hqq, hm, ex63_3, ft_neg1]; done) | (rw [ftNv_f hng, hqq, hm, ex63_3, Int32.one_mul]; done)
                    rw [hw9] at hP hD
                    exact W.zret (v := 1) hx hb hr (by rfl) (fun t ht hW => ⟨⟨1, (), rfl, (by show (1 : Int32) = ftB (ftNok tx tn sp); exact hok9.symm), by rw [ht]; exact hP, by rw [hAe]; exact hD⟩, by rw [hAe]; exact hS.F ht⟩) hS.2.2 dX5_readNumber_148
              · replace c84 := ftB_ne c84
                have hdp : ftDp tx tn q9 k := ftDp_c.mpr c84
                have hlt7 := hdp.1
                refine lv_iload_n hx hb dX5_readNumber_87 rfl (lv_at hl 3 rfl) ?_
                refine lv_bipush (v := 10) hx hb dX5_readNumber_88 (by decide) ?_
                refine lv_imul hx hb dX5_readNumber_90 ?_
                refine lv_aload_n hx hb dX5_readNumber_91 rfl (lv_at hl 0 rfl) ?_
                refine lv_aload_n hx hb dX5_readNumber_92 rfl (lv_at hl 0 rfl) ?_
                refine va_get (D := D) (ci := 5) (v := .int (nI (q9 + k))) (C := RX5) (T := TX5) (N := 9) hx hb hts (by decide +kernel) hown hK hP 0 rfl rfl 8 (by decide) (hts (.fieldLink RX5 42 "FiberTrace$LinkText" "position" "I") (by decide +kernel)) (fun _ h9 => h9) rfl dX5_readNumber_93 ?_
                refine ft_csi (r := ftC tx tn (q9 + k)) (va_runV (C := RX5) (As := [.int (nI (q9 + k))]) (rest := [.int (x63_3 * 10)]) ⟨hx, hb, hml, hown, hts⟩ (c_X5_signAt l D cI cS a0 ag am ad b0 tn v1 v2 v3 (nI (q9 + k)) tx (q9 + k) (by first | assumption | omega) (by first | assumption | omega)) (cwV 1 hts gX5_readNumber_X5_signAt rfl rfl rfl (by decide +kernel) ⟨Nat.le_of_ble_eq_true rfl, Nat.le_of_ble_eq_true rfl⟩) (ft_preROV (ci := 5) (q0 := 0) hP hKK [0, 1] rfl rfl rfl) rfl rfl hl.1 rfl (lv_room (Nat.le_of_ble_eq_true rfl)) dX5_readNumber_96 ⟨Nat.le_of_ble_eq_true rfl, Nat.le_of_ble_eq_true rfl⟩) ?_
                refine lv_iadd hx hb dX5_readNumber_99 ?_
                refine lv_bipush (v := 48) hx hb dX5_readNumber_100 (by decide) ?_
                refine lv_isub hx hb dX5_readNumber_102 ?_
                refine lv_istore_n (lv' := [(3, .int (((x63_3 * 10) + (ftC tx tn (q9 + k))) - 48)), (0, .ref a0), (1, .int (nI i)), (2, .int 1), (4, .int (nI k))]) hx hb dX5_readNumber_103 rfl hl (by decide) rfl (fun ls hl => ?_)
                refine lv_aload_n hx hb dX5_readNumber_104 rfl (lv_at hl 1 rfl) ?_
                refine lv_dup hx hb dX5_readNumber_105 rfl ?_
                refine va_get (D := D) (ci := 5) (v := .int (nI (q9 + k))) (C := RX5) (T := TX5) (N := 9) hx hb hts (by decide +kernel) hown hK hP 0 rfl rfl 8 (by decide) (hts (.fieldLink RX5 42 "FiberTrace$LinkText" "position" "I") (by decide +kernel)) (fun _ h9 => h9) rfl dX5_readNumber_106 ?_
                refine lv_iconst (v := 1) hx hb dX5_readNumber_109 (by decide) ?_
                refine lv_iadd hx hb dX5_readNumber_110 ?_
                refine ft_top (y := nI ((q9 + k) + 1)) (ft_addN (q9 + k) 1) ?_
                refine va_put (D := D) (ci := 5) (v := .int (nI ((q9 + k) + 1))) (ty := .int) (C := RX5) (T := TX5) (N := 9) hx hb hts (by decide +kernel) tyX5 tyX5_ok nmX5 hown hK hP hD hS 0 rfl rfl 8 (by decide) (hts (.fieldLink RX5 42 "FiberTrace$LinkText" "position" "I") (by decide +kernel)) (fun _ h9 => h9) rfl (by decide +kernel) rfl rfl (Nat.le_of_ble_eq_true rfl) dX5_readNumber_111 (fun H locs hP hD hS => ?_)
                have hP : va_P D vwCl [(a0, .inr (5, [.ref ag, .ref am, .ref ad, .ref b0, .int (nI tn), .int v1, .int v2, .int v3, .int (nI ((q9 + k) + 1))])), (ag, .inl (cI, 120, .inl tx)), (am, .inl (cI, 3, .inl nf))] H := hP
                have hD : va_D A [(a0, .inr (5, [.ref ag, .ref am, .ref ad, .ref b0, .int (nI tn), .int v1, .int v2, .int v3, .int (nI ((q9 + k) + 1))])), (ag, .inl (cI, 120, .inl tx)), (am, .inl (cI, 3, .inl nf))] := hD
                refine lv_iinc (v := nI (k + 1)) (lv' := [(4, .int (nI (k + 1))), (3, .int (((x63_3 * 10) + (ftC tx tn (q9 + k))) - 48)), (0, .ref a0), (1, .int (nI i)), (2, .int 1)]) hx hb dX5_readNumber_114 hl (k := 4) rfl (ft_inc k) (by decide) rfl (fun ls hl => ?_)
                refine lv_goto (tgt := 63) hx hb dX5_readNumber_117 (by decide) ?_
                exact ih63 (k + 1) (((x63_3 * 10) + (ftC tx tn (q9 + k))) - 48) (nI (k + 1)) (nI ((q9 + k) + 1)) (by omega) (by omega) (by intro t ht; rcases Nat.lt_succ_iff_lt_or_eq.mp ht with q | q; exact hall t q; subst q; exact hdp) (by omega) (by rw [ex63_3, ftC_in hlt7, Int32.mul_comm]; rfl) (by first | rfl | assumption) (by rfl) _ _ hP hD hS ls (lv_sub hl [2, 3, 4, 1, 0] rfl)
        exact lp63 _ 0 0 0 (nI ((sp + 1) + 1)) (Nat.lt_succ_self _) (by omega) (by intro t ht; exact absurd ht (Nat.not_lt_zero t)) (by omega) (by rfl) (by rfl) (by rw [hq9]) _ _ hP hD hS ls (lv_sub hl [3, 4, 2, 1, 0] rfl)
  · have hns : ¬ ftSp tx tn sp := fun q => c10 (ftSp_c.mp q)
    refine lv_iconst (v := 0) hx hb dX5_readNumber_13 (by decide) ?_
    have hw9 : ([(a0, .inr (5, [.ref ag, .ref am, .ref ad, .ref b0, .int (nI tn), .int v1, .int v2, .int v3, .int (nI sp)])), (ag, .inl (cI, 120, .inl tx)), (am, .inl (cI, 3, .inl nf))] : va_W) = [(a0, .inr (5, [.ref ag, .ref am, .ref ad, .ref b0, .int (nI tn), .int v1, .int v2, .int v3, .int (nI (ftNe tx tn sp))])), (ag, .inl (cI, 120, .inl tx)), (am, .inl (cI, 3, .inl (ftNf tx tn sp i nf)))] := by rw [ftNe_f hns, ftNf_f hns]
    rw [hw9] at hP hD
    exact W.zret (v := 0) hx hb hr (by rfl) (fun t ht hW => ⟨⟨0, (), rfl, (by show (0 : Int32) = ftB (ftNok tx tn sp); exact (ftB_f (fun q : ftNok tx tn sp => hns q.1)).symm), by rw [ht]; exact hP, by rw [hAe]; exact hD⟩, by rw [hAe]; exact hS.F ht⟩) hS.2.2 dX5_readNumber_14
set_option maxHeartbeats 4000000 in
set_option maxRecDepth 100000 in
theorem c_X5_readNumbers (l : Launch) (D : va_G) (cI cS : ClassId) (sz : Nat) (a0 ag am ad b0 : Nat) (tn : Nat) (v1 v2 v3 : Int32) (sp : Nat) (tx nf : Nat → Int32) (wn : Nat) (htn : tn ≤ 120) (hsp : sp ≤ tn) (hwn : wn ≤ 3) : Met l yX5_readNumbers wsX5_readNumbers ({ frames := 3, cells := 0, slots := 0, locals := 66 }) (ftRW D cI cS [.ref a0, .int (nI wn)] [(a0, .inr (5, [.ref ag, .ref am, .ref ad, .ref b0, .int (nI tn), .int v1, .int v2, .int v3, .int (nI sp)])), (ag, .inl (cI, 120, .inl tx)), (am, .inl (cI, 3, .inl nf))] sz) (ftQi D (if ftNm tx tn sp wn = wn then -1 else nI (ftNm tx tn sp wn)) [(a0, .inr (5, [.ref ag, .ref am, .ref ad, .ref b0, .int (nI tn), .int v1, .int v2, .int v3, .int (nI sp)])), (ag, .inl (cI, 120, .inl tx)), (am, .inl (cI, 3, .inl nf))] [(a0, .inr (5, [.ref ag, .ref am, .ref ad, .ref b0, .int (nI tn), .int v1, .int v2, .int v3, .int (nI (ftNP tx tn sp (min (ftNm tx tn sp wn + 1) wn)))])), (ag, .inl (cI, 120, .inl tx)), (am, .inl (cI, 3, .inl (ftNfs tx tn sp nf (min (ftNm tx tn sp wn + 1) wn))))] sz) 0 0 (va_A [(a0, .inr (5, [.ref ag, .ref am, .ref ad, .ref b0, .int (nI tn), .int v1, .int v2, .int v3, .int (nI sp)])), (ag, .inl (cI, 120, .inl tx)), (am, .inl (cI, 3, .inl nf))] sz) := by
  refine Met.ofW (cc := cX5_readNumbers) (maxL := 3) (ret := (some .int)) (by decide) rfl ?_
  intro p e s m args below meth c s₁ B hml hv
  obtain ⟨rfl, hsz, hP, hKK, hD0⟩ := hv
  have hK := hKK.1
  have hx := B.exec
  have hb := B.bytes
  have hr := B.returns
  have hts := atoms_spec (ws := wsX5_readNumbers) B.pre
  have hown : s.vm.findClass RX5 = some m.cls := findClass_of_methodNamed B.named
  have hlocks := B.notSynchronized
  subst hsz
  have hD := hD0.self (sz := s.heap.size)
  generalize hAe : va_A [(a0, .inr (5, [.ref ag, .ref am, .ref ad, .ref b0, .int (nI tn), .int v1, .int v2, .int v3, .int (nI sp)])), (ag, .inl (cI, 120, .inl tx)), (am, .inl (cI, 3, .inl nf))] s.heap.size = A at hD ⊢
  have hA : ∀ q : Nat, s.heap.size ≤ q → A q := fun q h => by rw [← hAe]; exact Or.inr h
  have hS : va_S A s.heap s.heap [] := va_S.rf
  have hD : va_D A [(a0, .inr (5, [.ref ag, .ref am, .ref ad, .ref b0, .int (nI tn), .int v1, .int v2, .int v3, .int (nI sp)])), (ag, .inl (cI, 120, .inl tx)), (am, .inl (cI, 3, .inl nf))] := hD
  have hP : va_P D vwCl [(a0, .inr (5, [.ref ag, .ref am, .ref ad, .ref b0, .int (nI tn), .int v1, .int v2, .int v3, .int (nI sp)])), (ag, .inl (cI, 120, .inl tx)), (am, .inl (cI, 3, .inl nf))] s.heap := hP
  have hl := lv_entry ([.ref a0, .int (nI wn)]) (n := 3) (Nat.le_of_ble_eq_true rfl)
  rw [lg_entry_eq]
  generalize (lg_sl ([.ref a0, .int (nI wn)]) ++ List.replicate (3 - (lg_sl ([.ref a0, .int (nI wn)])).length) Slot.unset).toArray = ls at hl ⊢
  have hl : lv_has ls 3 [(0, .ref a0), (1, .int (nI wn))] := hl
  refine lv_iconst (v := 0) hx hb dX5_readNumbers_0 (by decide) ?_
  refine lv_istore_n (lv' := [(2, .int 0), (0, .ref a0), (1, .int (nI wn))]) hx hb dX5_readNumbers_1 rfl hl (by decide) rfl (fun ls hl => ?_)
  have lp2 : ∀ (n2 : Nat) (i : Nat) (x2_2 : Int32) (g2_a0_8 : Int32) (g2_am : Nat → Int32), wn - i < n2 → (i ≤ wn) → (∀ t, t < i → ftNok tx tn (ftNP tx tn sp t)) → x2_2 = nI i → g2_a0_8 = nI (ftNP tx tn sp i) → g2_am = ftNfs tx tn sp nf i → ∀ (H : Heap) (locs : List Loc), va_P D vwCl [(a0, .inr (5, [.ref ag, .ref am, .ref ad, .ref b0, .int (nI tn), .int v1, .int v2, .int v3, .int g2_a0_8])), (ag, .inl (cI, 120, .inl tx)), (am, .inl (cI, 3, .inl g2_am))] H → va_D A [(a0, .inr (5, [.ref ag, .ref am, .ref ad, .ref b0, .int (nI tn), .int v1, .int v2, .int v3, .int g2_a0_8])), (ag, .inl (cI, 120, .inl tx)), (am, .inl (cI, 3, .inl g2_am))] → va_S A s.heap H locs → ∀ ls : Array Slot, lv_has ls 3 [(0, .ref a0), (1, .int (nI wn)), (2, .int x2_2)] → W p l e (headSpec wsX5_readNumbers { frames := 3, cells := 0, slots := 0, locals := 66 }).room s m ([.ref a0, .int (nI wn)] : List Value).toArray below meth c H locs 0 0 (MQ below (ftQi D (if ftNm tx tn sp wn = wn then -1 else nI (ftNm tx tn sp wn)) [(a0, .inr (5, [.ref ag, .ref am, .ref ad, .ref b0, .int (nI tn), .int v1, .int v2, .int v3, .int (nI sp)])), (ag, .inl (cI, 120, .inl tx)), (am, .inl (cI, 3, .inl nf))] [(a0, .inr (5, [.ref ag, .ref am, .ref ad, .ref b0, .int (nI tn), .int v1, .int v2, .int v3, .int (nI (ftNP tx tn sp (min (ftNm tx tn sp wn + 1) wn)))])), (ag, .inl (cI, 120, .inl tx)), (am, .inl (cI, 3, .inl (ftNfs tx tn sp nf (min (ftNm tx tn sp wn + 1) wn))))] s.heap.size) ([.ref a0, .int (nI wn)] : List Value).toArray s 0 0 A) (F0 m 2 ls []) := by
    intro n2
    induction n2 with
    | zero =>
      intro i x2_2 g2_a0_8 g2_am hm2
      exact absurd hm2 (Nat.not_lt_zero _)
    | succ n2 ih2 =>
      intro i x2_2 g2_a0_8 g2_am hm2 hin hok ex2_2 eg2_a0_8 eg2_am H locs hP hD hS ls hl
      subst ex2_2
      subst eg2_a0_8
      have hpi := ftNP_le (tx := tx) hsp i
      refine lv_iload_n hx hb dX5_readNumbers_2 rfl (lv_at hl 2 rfl) ?_
      refine lv_iload_n hx hb dX5_readNumbers_3 rfl (lv_at hl 1 rfl) ?_
      refine lv_icmp_ge (tgt := 23) hx hb dX5_readNumbers_4 (by decide) (fun c4 => ?_) (fun c4 => ?_)
      · have c4n : wn ≤ i := ft_leN (by omega) (by omega) c4
        have hm : ftNm tx tn sp wn = wn := ftIni_of (Nat.le_refl _) (fun t ht => hok t (by omega)) (fun h => absurd h (Nat.lt_irrefl _))
        refine lv_iconst (v := (-1)) hx hb dX5_readNumbers_23 (by decide) ?_
        have hw9 : ([(a0, .inr (5, [.ref ag, .ref am, .ref ad, .ref b0, .int (nI tn), .int v1, .int v2, .int v3, .int (nI (ftNP tx tn sp i))])), (ag, .inl (cI, 120, .inl tx)), (am, .inl (cI, 3, .inl g2_am))] : va_W) = [(a0, .inr (5, [.ref ag, .ref am, .ref ad, .ref b0, .int (nI tn), .int v1, .int v2, .int v3, .int (nI (ftNP tx tn sp (min (ftNm tx tn sp wn + 1) wn)))])), (ag, .inl (cI, 120, .inl tx)), (am, .inl (cI, 3, .inl (ftNfs tx tn sp nf (min (ftNm tx tn sp wn + 1) wn))))] := by rw [hm, Nat.min_eq_right (by omega), eg2_am, show i = wn by omega]
        rw [hw9] at hP hD
        exact W.iret (v := (-1)) hx hb hr (fun t ht hW => ⟨⟨(-1), (), rfl, (by show ((-1) : Int32) = if ftNm tx tn sp wn = wn then -1 else nI (ftNm tx tn sp wn); rw [hm, if_pos rfl]), by rw [ht]; exact hP, by rw [hAe]; exact hD⟩, by rw [hAe]; exact hS.F ht⟩) hS.2.2 dX5_readNumbers_24
      · have c4n : i < wn := ft_nleN (by omega) (by omega) c4
        refine lv_aload_n hx hb dX5_readNumbers_7 rfl (lv_at hl 0 rfl) ?_
        refine lv_iload_n hx hb dX5_readNumbers_8 rfl (lv_at hl 2 rfl) ?_
        refine ft_ci (r := ftB (ftNok tx tn (ftNP tx tn sp i))) (wc := [(a0, .inr (5, [.ref ag, .ref am, .ref ad, .ref b0, .int (nI tn), .int v1, .int v2, .int v3, .int (nI (ftNP tx tn sp i))])), (ag, .inl (cI, 120, .inl tx)), (am, .inl (cI, 3, .inl g2_am))]) (wr := []) (w1 := [(a0, .inr (5, [.ref ag, .ref am, .ref ad, .ref b0, .int (nI tn), .int v1, .int v2, .int v3, .int (nI (ftNe tx tn (ftNP tx tn sp i)))])), (ag, .inl (cI, 120, .inl tx)), (am, .inl (cI, 3, .inl (ftNf tx tn (ftNP tx tn sp i) i g2_am)))]) (ws1 := [(a0, .inr (5, [.ref ag, .ref am, .ref ad, .ref b0, .int (nI tn), .int v1, .int v2, .int v3, .int (nI (ftNe tx tn (ftNP tx tn sp i)))])), (ag, .inl (cI, 120, .inl tx)), (am, .inl (cI, 3, .inl (ftNf tx tn (ftNP tx tn sp i) i g2_am)))]) (va_runV (C := RX5) (As := [.int (nI i)]) (rest := []) ⟨hx, hb, hml, hown, hts⟩ (c_X5_readNumber l D cI cS H.size a0 ag am ad b0 tn v1 v2 v3 (ftNP tx tn sp i) tx g2_am i (by first | assumption | omega) (by first | assumption | omega) (by first | assumption | omega)) (cwV 1 hts gX5_readNumbers_X5_readNumber rfl rfl rfl (by decide +kernel) ⟨Nat.le_of_ble_eq_true rfl, Nat.le_of_ble_eq_true rfl⟩) (ft_preRWV (ci := 5) (q0 := 0) hP hD hKK [0, 1, 2] rfl rfl rfl rfl rfl) rfl rfl hl.1 rfl (lv_room (Nat.le_of_ble_eq_true rfl)) dX5_readNumbers_9 ⟨Nat.le_of_ble_eq_true rfl, Nat.le_of_ble_eq_true rfl⟩) hP hD hS hA [0, 1, 2] [] [0, 1, 2] rfl rfl (by decide) (by decide) (by decide) rfl rfl (fun H locs hP hD hS => ?_)
        have hP : va_P D vwCl [(a0, .inr (5, [.ref ag, .ref am, .ref ad, .ref b0, .int (nI tn), .int v1, .int v2, .int v3, .int (nI (ftNe tx tn (ftNP tx tn sp i)))])), (ag, .inl (cI, 120, .inl tx)), (am, .inl (cI, 3, .inl (ftNf tx tn (ftNP tx tn sp i) i g2_am)))] H := hP
        have hD : va_D A [(a0, .inr (5, [.ref ag, .ref am, .ref ad, .ref b0, .int (nI tn), .int v1, .int v2, .int v3, .int (nI (ftNe tx tn (ftNP tx tn sp i)))])), (ag, .inl (cI, 120, .inl tx)), (am, .inl (cI, 3, .inl (ftNf tx tn (ftNP tx tn sp i) i g2_am)))] := hD
        refine lv_if_ne (tgt := 17) hx hb dX5_readNumbers_12 (by decide) (fun c12 => ?_) (fun c12 => ?_)
        · replace c12 := ftB_ne c12
          refine lv_iinc (v := nI (i + 1)) (lv' := [(2, .int (nI (i + 1))), (0, .ref a0), (1, .int (nI wn))]) hx hb dX5_readNumbers_17 hl (k := 2) rfl (ft_inc i) (by decide) rfl (fun ls hl => ?_)
          refine lv_goto (tgt := 2) hx hb dX5_readNumbers_20 (by decide) ?_
          exact ih2 (i + 1) (nI (i + 1)) (nI (ftNe tx tn (ftNP tx tn sp i))) (ftNf tx tn (ftNP tx tn sp i) i g2_am) (by omega) (by omega) (by intro t ht; rcases Nat.lt_succ_iff_lt_or_eq.mp ht with q | q; exact hok t q; subst q; exact c12) (by first | rfl | assumption) (by rfl) (by rw [eg2_am]; rfl) _ _ hP hD hS ls (lv_sub hl [1, 2, 0] rfl)
        · replace c12 := ftB_eq c12
          have hm : ftNm tx tn sp wn = i := ftIni_of hin hok (fun _ => c12)
          refine lv_iload_n hx hb dX5_readNumbers_15 rfl (lv_at hl 2 rfl) ?_
          have hw9 : ([(a0, .inr (5, [.ref ag, .ref am, .ref ad, .ref b0, .int (nI tn), .int v1, .int v2, .int v3, .int (nI (ftNe tx tn (ftNP tx tn sp i)))])), (ag, .inl (cI, 120, .inl tx)), (am, .inl (cI, 3, .inl (ftNf tx tn (ftNP tx tn sp i) i g2_am)))] : va_W) = [(a0, .inr (5, [.ref ag, .ref am, .ref ad, .ref b0, .int (nI tn), .int v1, .int v2, .int v3, .int (nI (ftNP tx tn sp (min (ftNm tx tn sp wn + 1) wn)))])), (ag, .inl (cI, 120, .inl tx)), (am, .inl (cI, 3, .inl (ftNfs tx tn sp nf (min (ftNm tx tn sp wn + 1) wn))))] := by rw [hm, Nat.min_eq_left (by omega), eg2_am]; rfl
          rw [hw9] at hP hD
          exact W.iret (v := nI i) hx hb hr (fun t ht hW => ⟨⟨nI i, (), rfl, (by show (nI i : Int32) = if ftNm tx tn sp wn = wn then -1 else nI (ftNm tx tn sp wn); rw [hm, if_neg (by omega)]), by rw [ht]; exact hP, by rw [hAe]; exact hD⟩, by rw [hAe]; exact hS.F ht⟩) hS.2.2 dX5_readNumbers_16
  exact lp2 _ 0 0 (nI sp) nf (Nat.lt_succ_self _) (by omega) (by intro t ht; exact absurd ht (Nat.not_lt_zero t)) (by rfl) (by rfl) (by rfl) _ _ hP hD hS ls (lv_sub hl [1, 2, 0] rfl)
end
