/-! a part more in a row, in rows of their own -/
section FTADD
variable {w : Nat → Int32} {n k i : Nat} {kd x lo re : Int32}
theorem ftAdd_x (h : i < 4) (hk : k ≠ ftPosW w x n) : ftAdd w n kd x lo re (4 + 4 * k + i) = ftShP w n (ftPosW w x n) (4 + 4 * k + i) := by
  unfold ftAdd
  rw [ftUpd_ne (by omega), ftComes_at (by omega)]
theorem ftAdd_lo (h : i < 4) (hk : k < ftPosW w x n) : ftAdd w n kd x lo re (4 + 4 * k + i) = w (4 + 4 * k + i) := by
  rw [ftAdd_x h (by omega), ftShP_low (by omega)]
theorem ftAdd_hi (h : i < 4) (hk : ftPosW w x n < k) (hn : k ≤ n) : ftAdd w n kd x lo re (4 + 4 * k + i) = w (4 + 4 * (k - 1) + i) := by
  rw [ftAdd_x h (by omega)]
  unfold ftShP
  rw [if_pos (by omega)]
  congr 1
  omega
theorem ftAdd_at0 : ftAdd w n kd x lo re (4 + 4 * ftPosW w x n + 0) = kd := by
  unfold ftAdd ftComes
  rw [ftUpd_ne (by omega), ftUpd_ne (by omega), ftUpd_ne (by omega), ftUpd_ne (by omega), ftUpd_at0]
theorem ftAdd_at1 : ftAdd w n kd x lo re (4 + 4 * ftPosW w x n + 1) = x := by
  unfold ftAdd ftComes
  rw [ftUpd_ne (by omega), ftUpd_ne (by omega), ftUpd_ne (by omega), ftUpd_at0]
theorem ftAdd_at2 : ftAdd w n kd x lo re (4 + 4 * ftPosW w x n + 2) = lo := by
  unfold ftAdd ftComes
  rw [ftUpd_ne (by omega), ftUpd_ne (by omega), ftUpd_at0]
theorem ftAdd_at3 : ftAdd w n kd x lo re (4 + 4 * ftPosW w x n + 3) = re := by
  unfold ftAdd ftComes
  rw [ftUpd_ne (by omega), ftUpd_at0]
theorem ftAdd_l {t : Nat} (h : t < 3) : ftAdd w n kd x lo re t = w t := by
  unfold ftAdd
  rw [ftUpd_ne (by omega), ftComes_at (by omega), ftShP_low (by omega)]
theorem ftAdd_b {t : Nat} (h : 44 ≤ t) (hn : n < 10) : ftAdd w n kd x lo re t = w t := by
  have hp := ftPosW_le w x n
  unfold ftAdd
  rw [ftUpd_ne (by omega), ftComes_at (by omega)]
  unfold ftShP
  rw [if_neg (by omega)]
end FTADD
/-- where a part comes: places below it, places above it -/
theorem ftPosW_hi {w : Nat → Int32} {x : Int32} : ∀ n t, ftPosW w x n ≤ t → t < n → x < w (4 + 4 * t + 1) := by
  intro n
  induction n with
  | zero => intro t _ h; exact absurd h (Nat.not_lt_zero t)
  | succ n ih =>
    intro t h1 h2
    rw [ftPosW] at h1
    by_cases c : x < w (4 + 4 * n + 1)
    · rw [if_pos c] at h1
      by_cases z : t = n
      · subst z; exact c
      · exact ih t h1 (by omega)
    · rw [if_neg c] at h1; omega
theorem ftPosW_lo {w : Nat → Int32} {x : Int32} : ∀ n, (∀ a b, a < b → b < n → w (4 + 4 * a + 1) < w (4 + 4 * b + 1)) → (∀ t, t < n → w (4 + 4 * t + 1) ≠ x) → ∀ t, t < ftPosW w x n → w (4 + 4 * t + 1) < x := by
  intro n
  induction n with
  | zero => intro _ _ t h; exact absurd h (Nat.not_lt_zero t)
  | succ n ih =>
    intro ha hne t ht
    rw [ftPosW] at ht
    by_cases c : x < w (4 + 4 * n + 1)
    · rw [if_pos c] at ht
      exact ih (fun a b h1 h2 => ha a b h1 (by omega)) (fun t h => hne t (by omega)) t ht
    · rw [if_neg c] at ht
      have hn : w (4 + 4 * n + 1) < x := by
        rcases Int32.lt_or_eq_of_le (Int32.not_lt.mp c) with q | q
        · exact q
        · exact absurd q (hne n (by omega))
      by_cases z : t = n
      · subst z; exact hn
      · exact Int32.lt_of_lt_of_le (ha t n (by omega) (by omega)) (Int32.le_of_lt hn)
theorem ftIdx_pos {w pf : Nat → Int32} {x : Int32} {n : Nat} (hp : ∀ t, t < n → w (4 + 4 * t + 1) = pf t) (ha : ∀ a b, a < b → b < n → w (4 + 4 * a + 1) < w (4 + 4 * b + 1)) (hne : ∀ t, t < n → w (4 + 4 * t + 1) ≠ x) : ftIdx pf x n = ftPosW w x n := by
  have hle := ftPosW_le w x n
  refine ftIdx_of hle (fun t ht => ?_) (fun h => ?_)
  · rw [← hp t (by omega)]; exact ftPosW_lo n ha hne t ht
  · rw [← hp _ h]
    exact Int32.not_lt.mpr (Int32.le_of_lt (ftPosW_hi n _ (Nat.le_refl _) h))
def ftNew (k x lo re : Int32) : Prop := (k = 0 ∧ -500 ≤ lo ∧ lo ≤ 5000 ∧ re = 0) ∨ (k = 1 ∧ 0 ≤ lo ∧ lo ≤ 5000 ∧ 1 ≤ re ∧ re ≤ 20000) ∨ (k = 2 ∧ 0 ≤ lo ∧ lo ≤ 50 ∧ re = 0)
theorem ftAdd_cn {w : Nat → Int32} {n : Nat} {kd x lo re : Int32} (hn : n < 10) : ftCN (ftAdd w n kd x lo re) = n + 1 := by
  show (ftAdd _ _ _ _ _ _ 3).toNatClampNeg = _
  rw [ftAdd_3, nI_clamp (by omega)]
theorem ftAdd_lf {w : Nat → Int32} {kd x lo re : Int32} (h : ftLf w) (hn : ftCN w < 10) (hx1 : 1 ≤ x) (hx2 : x < w 0) (hne : ∀ t, t < ftCN w → w (4 + 4 * t + 1) ≠ x) (hv : ftNew kd x lo re) : ftLf (ftAdd w (ftCN w) kd x lo re) := by
  obtain ⟨a1, a2, a3, a4, a5, a6⟩ := id h
  have hc := ftAdd_cn (w := w) (kd := kd) (x := x) (lo := lo) (re := re) hn
  have hle := ftPosW_le w x (ftCN w)
  have hlo := ftPosW_lo (ftCN w) a6 hne
  have hhi := ftPosW_hi (w := w) (x := x) (ftCN w)
  refine ⟨?_, by rw [ftAdd_l (by omega)]; exact a2, by rw [ftAdd_l (by omega)]; exact a3, by rw [ftAdd_l (by omega)]; exact a4, ?_, ?_⟩
  · rw [ftAdd_3]
    exact ⟨nI_pos' (by omega), nI_le (b := 10) (by omega) (by omega)⟩
  · intro k hk
    rw [hc] at hk
    rw [ftAdd_l (show 0 < 3 by omega)]
    unfold ftPartOk
    rcases Nat.lt_trichotomy k (ftPosW w x (ftCN w)) with q | q | q
    · rw [ftAdd_lo (by omega) q, ftAdd_lo (by omega) q, ftAdd_lo (by omega) q, ftAdd_lo (by omega) q]
      exact a5 k (by omega)
    · rw [q, ftAdd_at0, ftAdd_at1, ftAdd_at2, ftAdd_at3]
      exact ⟨hv, hx1, hx2⟩
    · rw [ftAdd_hi (by omega) q (by omega), ftAdd_hi (by omega) q (by omega), ftAdd_hi (by omega) q (by omega), ftAdd_hi (by omega) q (by omega)]
      exact a5 (k - 1) (by omega)
  · intro a b hab hb
    rw [hc] at hb
    rcases Nat.lt_trichotomy a (ftPosW w x (ftCN w)) with q | q | q
    · rw [ftAdd_lo (by omega) q]
      rcases Nat.lt_trichotomy b (ftPosW w x (ftCN w)) with r | r | r
      · rw [ftAdd_lo (by omega) r]; exact a6 a b hab (by omega)
      · rw [r, ftAdd_at1]; exact hlo a q
      · rw [ftAdd_hi (by omega) r (by omega)]
        by_cases z : a = b - 1
        · omega
        · exact a6 a (b - 1) (by omega) (by omega)
    · rw [q, ftAdd_at1, ftAdd_hi (by omega) (by omega) (by omega)]
      exact hhi (b - 1) (by omega) (by omega)
    · rw [ftAdd_hi (by omega) q (by omega), ftAdd_hi (by omega) (by omega) (by omega)]
      exact a6 (a - 1) (b - 1) (by omega) (by omega)
theorem ftLf_mok {w : Nat → Int32} (h : ftLf w) : ftMok w := ⟨ftCN w, ftLf_n h, ftLf_3 h⟩
theorem ft_lt3 {j : Nat} (hj : j < 6) : nI j < 3 ↔ j < 3 := ⟨fun h => ft_ltN (b := 3) (by omega) (by omega) h, fun h => nI_lt (b := 3) h (by omega)⟩
theorem ftRt_new : ∀ j, 3 ≤ j → j < 6 → ∀ {tx : Nat → Int32} {tn p : Nat} {m : Nat → Int32}, (∀ i, i < ftNs (nI j) → ftRt (nI j) i (ftIv tx tn p i) (m 0)) → (1 ≤ ftIv tx tn p 0 ∧ ftIv tx tn p 0 ≤ m 0 - 1) ∧ ftNew (nI j - 3) (ftIv tx tn p 0) (ftIv tx tn p 1) (if nI j = 4 then ftIv tx tn p 2 else 0) := by
  intro j h3 h6 tx tn p m h
  match j, h3, h6 with
  | 3, _, _ =>
    have q0 := h 0 (by decide)
    have q1 := h 1 (by decide)
    have e : ∀ v ln, ftRt (nI 3) 0 v ln = (1 ≤ v ∧ v ≤ ln - 1) := fun v ln => rfl
    have e1 : ∀ v ln, ftRt (nI 3) 1 v ln = (-500 ≤ v ∧ v ≤ 5000) := fun v ln => rfl
    rw [e] at q0
    rw [e1] at q1
    exact ⟨q0, Or.inl ⟨rfl, q1.1, q1.2, rfl⟩⟩
  | 4, _, _ =>
    have q0 := h 0 (by decide)
    have q1 := h 1 (by decide)
    have q2 := h 2 (by decide)
    have e : ∀ v ln, ftRt (nI 4) 0 v ln = (1 ≤ v ∧ v ≤ ln - 1) := fun v ln => rfl
    have e1 : ∀ v ln, ftRt (nI 4) 1 v ln = (0 ≤ v ∧ v ≤ 5000) := fun v ln => rfl
    have e2 : ∀ v ln, ftRt (nI 4) 2 v ln = (1 ≤ v ∧ v ≤ 20000) := fun v ln => rfl
    rw [e] at q0
    rw [e1] at q1
    rw [e2] at q2
    exact ⟨q0, Or.inr (Or.inl ⟨rfl, q1.1, q1.2, q2.1, q2.2⟩)⟩
  | 5, _, _ =>
    have q0 := h 0 (by decide)
    have q1 := h 1 (by decide)
    have e : ∀ v ln, ftRt (nI 5) 0 v ln = (1 ≤ v ∧ v ≤ ln - 1) := fun v ln => rfl
    have e1 : ∀ v ln, ftRt (nI 5) 1 v ln = (0 ≤ v ∧ v ≤ 50) := fun v ln => rfl
    rw [e] at q0
    rw [e1] at q1
    exact ⟨q0, Or.inr (Or.inr ⟨rfl, q1.1, q1.2, rfl⟩)⟩
theorem ft_ltm1 {x y : Int32} (hy : 50 ≤ y) (hx : 1 ≤ x) (h : x ≤ y - 1) : x < y := by
  obtain ⟨ey, ly⟩ := ftI_nat (ftI_ge0 (N := 50) hy (by omega))
  obtain ⟨ex, lx⟩ := ftI_nat (ftI_ge0 (N := 1) hx (by omega))
  have h50 := ftI_ge (N := 50) (ftI_ge0 (N := 50) hy (by omega)) hy (by omega)
  rw [ex, ey] at h ⊢
  rw [show nI y.toNatClampNeg - 1 = nI (y.toNatClampNeg - 1) from ft_subN (b := 1) (by omega)] at h
  have := ft_leN lx (by omega) h
  exact nI_lt (by omega) ly
theorem ftItM_lf {tx : Nat → Int32} {tn : Nat} {m : Nat → Int32} {h p : Nat} (hm : ftLf m) (q : ftItOk tx tn m h p) : ftLf (ftItM tx tn m p) := by
  obtain ⟨b1, b2, b3, b4, -⟩ := id q
  obtain ⟨j, hj, hW⟩ : ∃ j, j < 6 ∧ ftIw tx tn p = nI j := by
    rcases ftWd_c tx p (ftRun tx tn p) 6 with r | ⟨j, r1, r2, -⟩
    · exact absurd (show ftIw tx tn p < 0 by unfold ftIw; rw [r]; decide) b1
    · exact ⟨j, r1, r2⟩
  obtain ⟨a1, a2, a3, a4, a5, a6⟩ := id hm
  unfold ftItM
  rw [hW] at b2 b3 b4 ⊢
  rcases Nat.lt_or_ge j 3 with c | c
  · rw [if_pos ((ft_lt3 hj).mpr c), nI_clamp (by omega)]
    have h0 := (b4.1 ((ft_lt3 hj).mpr c)).2
    have hn0 : ftCN m = 0 := by
      have e := ftLf_3 hm
      rw [e] at h0
      exact ft_le0 (by have := ftLf_n hm; omega) h0
    have hr := b3 0 (by rw [ftNs_1 ((ft_lt3 hj).mpr c)]; omega)
    have e3 : ∀ v, upd m j v 3 = m 3 := fun v => ftUpd_ne (by omega)
    have ec : ∀ v, ftCN (upd m j v) = 0 := fun v => by unfold ftCN; rw [e3]; exact hn0
    match j, c with
    | 0, _ =>
      have hr : 50 ≤ ftIv tx tn p 0 ∧ ftIv tx tn p 0 ≤ 400 := hr
      exact ⟨by rw [e3]; exact a1, hr, a3, a4, fun k hk => by rw [ec] at hk; omega, fun a b _ hb => by rw [ec] at hb; omega⟩
    | 1, _ =>
      have hr : 0 ≤ ftIv tx tn p 0 ∧ ftIv tx tn p 0 ≤ 50 := hr
      exact ⟨by rw [e3]; exact a1, a2, hr, a4, fun k hk => by rw [ec] at hk; omega, fun a b _ hb => by rw [ec] at hb; omega⟩
    | 2, _ =>
      have hr : 0 ≤ ftIv tx tn p 0 ∧ ftIv tx tn p 0 ≤ 20000 := hr
      exact ⟨by rw [e3]; exact a1, a2, a3, hr, fun k hk => by rw [ec] at hk; omega, fun a b _ hb => by rw [ec] at hb; omega⟩
  · have hnl : ¬ nI j < 3 := fun r => absurd ((ft_lt3 hj).mp r) (by omega)
    rw [if_neg hnl]
    obtain ⟨d1, d2⟩ := b4.2 hnl
    obtain ⟨e1, e2⟩ := ftRt_new j c hj b3
    have en : (m 3).toNatClampNeg = ftCN m := rfl
    rw [en]
    have hn := ftLf_n hm
    have hlt : ftCN m < 10 := by
      rcases Nat.lt_or_ge (ftCN m) 10 with r | r
      · exact r
      · exact absurd (by rw [ftLf_3 hm, show ftCN m = 10 by omega]; rfl) d2
    exact ftAdd_lf hm hlt e1.1 (ft_ltm1 a2.1 e1.1 e1.2) (fun t ht r => d1 ⟨t, ht, r⟩) e2
theorem ftPar_lf {tx : Nat → Int32} {tn : Nat} : ∀ (f p h : Nat) (m a : Nat → Int32), ftLf m → ftPar tx tn f p h m = some a → ftLf a := by
  intro f
  induction f with
  | zero => intro p h m a hm e; cases e; exact hm
  | succ f ih =>
    intro p h m a hm e
    by_cases c : p < tn
    · have um : ftPar tx tn (f + 1) p h m = ftCh (ftItOk tx tn m h p) (ftPar tx tn f (ftItP tx tn p) (ftItH tx tn h p) (ftItM tx tn m p)) none := by rw [ftPar, if_pos c]; rfl
      rw [um] at e
      rcases Classical.em (ftItOk tx tn m h p) with q | q
      · rw [ftCh_t q] at e
        exact ih _ _ _ _ (ftItM_lf hm q) e
      · rw [ftCh_f q] at e; cases e
    · rw [ftPar, if_neg c] at e
      cases e; exact hm
theorem ftMd0_lf (m : Nat → Int32) : ftLf (ftMd0 m) := by
  have e0 : ftMd0 m 0 = 200 := rfl
  have e1 : ftMd0 m 1 = 10 := rfl
  have e2 : ftMd0 m 2 = 12000 := rfl
  have e3 : ftMd0 m 3 = 0 := rfl
  have en : ftCN (ftMd0 m) = 0 := by unfold ftCN; rw [e3]; rfl
  refine ⟨by rw [e3]; decide, by rw [e0]; decide, by rw [e1]; decide, by rw [e2]; decide, fun k hk => ?_, fun a b _ hb => ?_⟩
  · rw [en] at hk; omega
  · rw [en] at hb; omega
theorem ftCPm_lf {tx : Nat → Int32} {tn : Nat} (h : ¬ ftCPar tx tn = none) : ftLf (ftCPm tx tn) := by
  unfold ftCPm
  cases hq : ftCPar tx tn with
  | none => exact absurd hq h
  | some a => exact ftPar_lf _ _ _ _ _ (ftMd0_lf _) hq
/-! words: the class's is the reference's where an item is possible -/
def ftLet (x : Int32) : Prop := (97 ≤ x ∧ x ≤ 122) ∨ (65 ≤ x ∧ x ≤ 90)
def ftC (tx : Nat → Int32) (tn i : Nat) : Int32 := if i < tn then tx i else 0
theorem ftC_in {tx : Nat → Int32} {tn i : Nat} (h : i < tn) : ftC tx tn i = tx i := if_pos h
theorem ftC_out {tx : Nat → Int32} {tn i : Nat} (h : tn ≤ i) : ftC tx tn i = 0 := if_neg (by omega)
def ftCW9 (tx : Nat → Int32) (tn p j : Nat) : Prop := (∀ t, t < ftWs j → ftC tx tn (p + t) = ftLt (nI (100 * j + t))) ∧ ¬ ftLet (ftC tx tn (p + ftWs j))
theorem ftLt_low : ∀ j, j < 6 → ∀ t, t < ftWs j → 97 ≤ ftLt (nI (100 * j + t)) ∧ ftLt (nI (100 * j + t)) ≤ 122 := by decide +kernel
theorem ftLt_diff : ∀ i, i < 6 → ∀ j, j < 6 → i ≠ j → ftWs i = ftWs j → ∃ t, t < ftWs i ∧ ftLt (nI (100 * i + t)) ≠ ftLt (nI (100 * j + t)) := by decide +kernel
theorem ftWP_one {tx : Nat → Int32} {p d i j : Nat} (hi : i < 6) (hj : j < 6) (h1 : ftWP tx p d i (ftWs i)) (h2 : ftWP tx p d j (ftWs j)) : i = j := by
  rcases Nat.eq_or_lt_of_le (Nat.le_refl i) with _ | _
  · by_cases q : i = j
    · exact q
    · obtain ⟨t, t1, t2⟩ := ftLt_diff i hi j hj q (h1.1.symm.trans h2.1)
      exact absurd ((h1.2 t t1).symm.trans (h2.2 t (by rw [← h2.1, h1.1]; exact t1))) t2
  · omega
theorem ftWd_of {tx : Nat → Int32} {p d j : Nat} (hj : j < 6) (h : ftWP tx p d j (ftWs j)) : ∀ m, m ≤ 6 → j < m → ftWd tx p d m = nI j := by
  intro m
  induction m with
  | zero => intro _ q; omega
  | succ m ih =>
    intro hm q
    by_cases r : j = m
    · subst r; exact ftWd_t h
    · rw [ftWd_f (fun s => r (ftWP_one hj (by omega) h s))]
      exact ih (by omega) (by omega)
/-- the class finds the word j: so does the reference -/
theorem ftCW_run {tx : Nat → Int32} {tn p j : Nat} (hj : j < 6) (h : ftCW9 tx tn p j) : ftRun tx tn p = ftWs j ∧ ftIw tx tn p = nI j ∧ p + ftWs j ≤ tn := by
  have hws := ftWs_le j
  have hin : ∀ t, t < ftWs j → p + t < tn ∧ tx (p + t) = ftLt (nI (100 * j + t)) := by
    intro t ht
    have e := h.1 t ht
    rcases Nat.lt_or_ge (p + t) tn with q | q
    · rw [ftC_in q] at e; exact ⟨q, e⟩
    · rw [ftC_out q] at e
      have := (ftLt_low j hj t ht).1
      rw [← e] at this
      exact absurd this (by decide)
  have hrun : ftRun tx tn p = ftWs j := by
    refine ftIni_of (by omega) (fun t ht => ?_) (fun _ q => ?_)
    · obtain ⟨q1, q2⟩ := hin t ht
      rw [q2]
      exact ⟨q1, ftLt_low j hj t ht⟩
    · exact h.2 (by rw [ftC_in q.1]; exact Or.inl q.2)
  refine ⟨hrun, ?_, ?_⟩
  · unfold ftIw
    rw [hrun]
    exact ftWd_of hj ⟨rfl, fun t ht => (hin t ht).2⟩ 6 (by omega) hj
  · rcases Nat.eq_zero_or_pos (ftWs j) with z | z
    · have : ∀ j, j < 6 → 0 < ftWs j := by decide
      have := this j hj
      omega
    · have := (hin (ftWs j - 1) (by omega)).1
      omega
/-- an item is possible: the class finds its word -/
theorem ftIt_cw {tx : Nat → Int32} {tn p h : Nat} {m : Nat → Int32} (q : ftItOk tx tn m h p) : ∃ j, j < 6 ∧ ftIw tx tn p = nI j ∧ ftCW9 tx tn p j := by
  obtain ⟨b1, b2, -⟩ := q
  rcases ftWd_c tx p (ftRun tx tn p) 6 with r | ⟨j, r1, r2, r3⟩
  · exact absurd (show ftIw tx tn p < 0 by unfold ftIw; rw [r]; decide) b1
  · have hW : ftIw tx tn p = nI j := r2
    refine ⟨j, r1, hW, fun t ht => ?_, ?_⟩
    · have h9 := (ftIni_yes (fun t => p + t < tn ∧ 97 ≤ tx (p + t) ∧ tx (p + t) ≤ 122) 120 t (by
        have : t < ftRun tx tn p := by rw [r3.1]; exact ht
        exact this)).1
      rw [ftC_in h9]; exact r3.2 t ht
    · have h0 := (b2 0 (ftNs_ge _)).1
      have e : ftIp tx tn p 0 = p + ftWs j := by show p + ftRun tx tn p = _; rw [r3.1]
      rw [e] at h0
      rw [ftC_in h0.1, h0.2]
      intro z
      rcases z with z | z
      · exact absurd z.1 (by decide)
      · exact absurd z.1 (by decide)
