/-! the class's rows and a row of the reference: base, peaks, joints -/
theorem ft_subsub (a b c : Int32) : a - b - c = a - (b + c) := by
  simp only [Int32.sub_eq_add_neg, Int32.neg_add, Int32.add_assoc]
/-- the parts of a link are a row's -/
def ftLRk (w : Nat → Int32) (n : Nat) (kf pf lf rf : Nat → Int32) : Prop := ∀ k, k < n → w (4 + 4 * k + 0) = kf k ∧ w (4 + 4 * k + 1) = pf k ∧ w (4 + 4 * k + 2) = lf k ∧ w (4 + 4 * k + 3) = rf k
theorem ftFade_w {w kf pf lf rf : Nat → Int32} {att x : Int32} {n : Nat} (ha : w 1 = att) (h : ftLRk w n kf pf lf rf) : ∀ m, m ≤ n → ftFade kf pf lf att x m = ftFw w x m := by
  intro m
  induction m with
  | zero => intro _; exact ha.symm
  | succ m ih =>
    intro hm
    obtain ⟨a, b, c, -⟩ := h m (by omega)
    rw [ftFade, ftFw, a, b, c, ih (by omega)]
theorem ftLv_sum {w : Nat → Int32} {n : Nat} : ∀ X, ftLv w n X = 50000 - ftSum (fun x => ftFw w (nI x) n) X := by
  intro X
  induction X with
  | zero => show (50000 : Int32) = 50000 - 0; decide
  | succ X ih =>
    show ftLv w n X - ftFw w (nI X) n = 50000 - (ftSum (fun x => ftFw w (nI x) n) X + ftFw w (nI X) n)
    rw [ih, ft_subsub]
theorem ftKd_lt {w : Nat → Int32} (h : ftLf w) {k : Nat} (hk : k < ftCN w) : ¬ w (4 + 4 * k + 0) = 2 ↔ w (4 + 4 * k + 0) < 2 := by
  rcases (h.2.2.2.2.1 k hk).1 with q | q | q
  · rw [q.1]; decide
  · rw [q.1]; decide
  · rw [q.1]; decide
theorem ftJoints_w {w kf pf lf rf : Nat → Int32} {x s0 : Int32} {n : Nat} (h : ftLRk w n kf pf lf rf) (hk : ∀ k, k < n → (¬ w (4 + 4 * k + 0) = 2 ↔ w (4 + 4 * k + 0) < 2)) : ∀ m, m ≤ n → s0 + ftJoints kf pf lf x m = ftLj w x s0 m := by
  intro m
  induction m with
  | zero => intro _; show s0 + 0 = s0; exact Int32.add_zero s0
  | succ m ih =>
    intro hm
    obtain ⟨a, b, c, -⟩ := h m (by omega)
    have hq := hk m (by omega)
    rw [ftJoints, ftLj, ← ih (by omega), ← a, ← b, ← c, ← Int32.add_assoc]
    by_cases d : w (4 + 4 * m + 0) < 2 ∧ w (4 + 4 * m + 1) < x
    · rw [if_pos d, if_pos ⟨hq.mpr d.1, d.2⟩]
    · rw [if_neg d, if_neg (fun r => d ⟨hq.mp r.1, r.2⟩)]
theorem ftSpr_w {w kf pf lf rf : Nat → Int32} {x b0 : Int32} {n : Nat} (hw : ¬ w (44 + 0) = 0) (h : ftLRk w n kf pf lf rf) (hk : ∀ k, k < n → (¬ w (4 + 4 * k + 0) = 2 ↔ w (4 + 4 * k + 0) < 2)) : ∀ m, m ≤ n → b0 - ftSpr kf pf lf x (w (44 + 0)) m = ftBi w x b0 m := by
  intro m
  induction m with
  | zero => intro _; show b0 - 0 = b0; exact Int32.sub_zero b0
  | succ m ih =>
    intro hm
    obtain ⟨a, b, c, -⟩ := h m (by omega)
    have hq := hk m (by omega)
    have es : ftSpr1 (lf m) (pf m) x (w (44 + 0)) = ftSp1 w x m := by
      unfold ftSpr1 ftSp1 ftQuot
      rw [if_neg hw, b, c]
    rw [ftSpr, ftBi, ← ih (by omega), es, ← a, ← b]
    by_cases d : w (4 + 4 * m + 0) < 2 ∧ w (4 + 4 * m + 1) ≤ x
    · rw [if_pos d, if_pos ⟨hq.mpr d.1, d.2⟩, ft_subsub]
    · rw [if_neg d, if_neg (fun r => d ⟨hq.mp r.1, r.2⟩), Int32.add_zero]
theorem ftLR_ln {w : Nat → Int32} {ln : Nat} {att en : Int32} {n : Nat} {kf pf lf rf : Nat → Int32} (h : ftLR w (nI ln) att en n kf pf lf rf) (hl : ln ≤ 400) : ftCL w = ln := by
  unfold ftCL; rw [h.1, nI_clamp (by omega)]
theorem ftLR_pos {w : Nat → Int32} {len att en : Int32} {n : Nat} {kf pf lf rf : Nat → Int32} (hf : ftLf w) (h : ftLR w len att en n kf pf lf rf) : ftPos pf n (fun k => (pf k).toNatClampNeg) := by
  have hn := ftLR_n h
  refine ⟨h.2.2.2.2.1, fun t ht => ?_, fun t ht => ?_, fun a b hab hb => ?_⟩
  · have q := (hf.2.2.2.2.1 t (by omega)).2
    rw [(h.2.2.2.2.2 t ht).2.1] at q
    exact (ftI_nat (ftI_ge0 (N := 1) q.1 (by omega))).1
  · have q := (hf.2.2.2.2.1 t (by omega)).2
    have q4 := hf.2.1.2
    rw [(h.2.2.2.2.2 t ht).2.1] at q
    have q0 := ftI_ge0 (N := 1) q.1 (by omega)
    obtain ⟨e1, e2⟩ := ftI_nat q0
    have l0 := ftLf_0 hf
    have l1 := ftLf_ln hf
    rw [l0, e1] at q
    have := ft_ltN e2 (by omega) q.2
    show (pf t).toNatClampNeg < 400
    omega
  · have qa := (hf.2.2.2.2.1 a (by omega)).2
    have qb := (hf.2.2.2.2.1 b (by omega)).2
    have q := hf.2.2.2.2.2 a b hab (by omega)
    rw [(h.2.2.2.2.2 a (by omega)).2.1] at q qa
    rw [(h.2.2.2.2.2 b (by omega)).2.1] at q qb
    obtain ⟨e1, e2⟩ := ftI_nat (ftI_ge0 (N := 1) qa.1 (by omega))
    obtain ⟨e3, e4⟩ := ftI_nat (ftI_ge0 (N := 1) qb.1 (by omega))
    rw [e1, e3] at q
    exact ft_ltN e2 e4 q
theorem ftWf_s0z {w : Nat → Int32} (h : ftWf w) : ¬ w (44 + 0) = 0 := by
  rw [ftWf_s0 h]
  have := ftWf_wd h
  exact nI_ne0 (ftWf_wd1 h) (by omega)
theorem ftBase_w {w : Nat → Int32} {ln : Nat} {att en : Int32} {n : Nat} {kf pf lf rf : Nat → Int32} (hf : ftWf w) (h : ftLR w (nI ln) att en n kf pf lf rf) (hl : ln ≤ 400) {ws : Int32} (hs : ws = w (44 + 0)) (x : Nat) : ftBase ln kf pf lf att n ws x = ftCB w x := by
  have hn := ftLR_n h
  have hc := ftLR_ln h hl
  subst hs
  unfold ftBase ftCB ftBsM
  rw [hc, hn]
  by_cases c : nI x < nI ln
  · rw [if_pos c, if_pos c, ← ftSpr_w (ftWf_s0z hf) h.2.2.2.2.2 (fun k hk => ftKd_lt hf.1 (by omega)) n (Nat.le_refl n), ftLv_sum, ftFades, ftSum_congr (fun y _ => ftFade_w h.2.1 h.2.2.2.2.2 n (Nat.le_refl n))]
  · rw [if_neg c, if_neg c]
theorem ftPks_I {PP HH : Nat → Nat} {wd d N t : Nat} {f : Nat → Int32} (ht : t < N) (h0 : ∀ t, t < N → 0 ≤ f t) : ∀ i, ftPks PP HH wd d N f i t = ftPkI PP HH wd d t (f t) i := by
  intro i
  induction i with
  | zero => rfl
  | succ i ih =>
    have hp := ftPks_pos (PP := PP) (HH := HH) (w := wd) (d := d) h0 i t ht
    show ftRaiseG (ftPks PP HH wd d N f i) (PP i) (HH i) wd d N t = _
    rw [ftPkI, ← ih]
    unfold ftRaiseG
    by_cases c : PP i ≤ t
    · rw [if_pos ⟨c, ht⟩]
      unfold ftMax
      by_cases q : nI (ftPk (PP i) (HH i) wd d t) < ftPks PP HH wd d N f i t
      · rw [if_pos q, if_neg (fun r => Int32.lt_irrefl (Int32.lt_trans q r))]
      · rw [if_neg q]
        by_cases r : ftPks PP HH wd d N f i t < nI (ftPk (PP i) (HH i) wd d t)
        · rw [if_pos r]
        · rw [if_neg r]; exact Int32.le_antisymm (Int32.not_lt.mp r) (Int32.not_lt.mp q)
    · have e : ftPk (PP i) (HH i) wd d t = 0 := by unfold ftPk; rw [if_pos (by omega)]
      rw [if_neg (fun q => c q.1), e, nI_0, if_neg (Int32.not_lt.mpr hp)]
theorem ftPeaks_w {PP HH PG HG : Nat → Nat} {r g wd d N x : Nat} {fp : Nat → Int32} (hx : x < N) : ftPeaks PP HH PG HG r g wd d N fp x = ftPkM PP HH PG HG r g wd d x := by
  have h0 : ∀ t, t < N → 0 ≤ ftFill (fun _ => 0) fp N t := fun t ht => by rw [ftFill_at ht]; decide
  unfold ftPeaks ftPkM
  rw [ftPks_I hx (ftPks_pos h0 r), ftPks_I hx h0, ftFill_at hx]
/-! flashes and ghosts of the class -/
theorem ftFl_w {w : Nat → Int32} {len att en : Int32} {n : Nat} {kf pf lf rf : Nat → Int32} (h : ftLR w len att en n kf pf lf rf) (p0 h0 : Nat → Int32) : (ftFlE len en kf pf rf p0 h0 n).1 = (ftCF w).1 ∧ ∀ t, t < (ftFlE len en kf pf rf p0 h0 n).1 → (ftFlE len en kf pf rf p0 h0 n).2.1 t = (ftCF w).2.1 t ∧ (ftFlE len en kf pf rf p0 h0 n).2.2 t = (ftCF w).2.2 t := by
  unfold ftCF ftFW
  rw [ftLR_n h]
  exact ftFlE_cong h.1.symm h.2.2.1.symm (fun t ht => ⟨(h.2.2.2.2.2 t ht).1.symm, (h.2.2.2.2.2 t ht).2.1.symm, (h.2.2.2.2.2 t ht).2.2.2.symm⟩)
/-- flashes that are those of w -/
def ftFle (w : Nat → Int32) (R : Nat × (Nat → Int32) × (Nat → Int32)) : Prop := R.1 = (ftCF w).1 ∧ ∀ t, t < R.1 → R.2.1 t = (ftCF w).2.1 t ∧ R.2.2 t = (ftCF w).2.2 t
theorem ftFle_gh {w : Nat → Int32} (hf : ftLf w) {R : Nat × (Nat → Int32) × (Nat → Int32)} (h : ftFle w R) {gl : Int32} (hg : gl = w (44 + 2)) (f1 f2 f3 : Nat → Int32) : ftGrel (ftGhs R gl f1 f2 f3) (ftCG w) := by
  subst hg
  have hk := (ftFW_ok hf (fun _ => 0) (fun _ => 0)).2.2
  exact ftGrel_run h.1 h.2 (fun a b hab hb => by rw [(h.2 a (by omega)).1, (h.2 b hb).1]; exact hk a b hab (by show b < (ftCF w).1; rw [← h.1]; exact hb))
theorem ftFle_le {w : Nat → Int32} (hf : ftLf w) {R : Nat × (Nat → Int32) × (Nat → Int32)} (h : ftFle w R) : R.1 ≤ 11 := by rw [h.1]; exact (ftFW_ok hf (fun _ => 0) (fun _ => 0)).1
theorem ftFle_rf {w : Nat → Int32} (hf : ftLf w) {R : Nat × (Nat → Int32) × (Nat → Int32)} (h : ftFle w R) : ∀ i, i < R.1 → R.2.1 i = nI (ftTn (ftCF w).2.1 i) ∧ R.2.2 i = nI (ftTn (ftCF w).2.2 i) ∧ ftTn (ftCF w).2.1 i ≤ 1000 ∧ 0 < ftTn (ftCF w).2.2 i ∧ ftTn (ftCF w).2.2 i ≤ 40000 := by
  intro i hi
  obtain ⟨a1, a2⟩ := h.2 i hi
  obtain ⟨b1, b2, b3, b4, b5, b6⟩ := (ftFW_ok hf (fun _ => 0) (fun _ => 0)).2.1 i (by show i < (ftCF w).1; rw [← h.1]; exact hi)
  exact ⟨a1.trans b1, a2.trans b2, Nat.le_trans b4 (by omega), b5, Nat.le_trans b6 (by omega)⟩
theorem ftCG_ok {w : Nat → Int32} (h : ftWf w) : ftGok (ftCG w) := ftGms_ok (ftFW_ok h.1 _ _) (ftWf_b2 h).1 (ftWf_b2 h).2 _ _ _ _
theorem ftGrel_gh {w : Nat → Int32} (hf : ftWf w) {q : ftGs} (h : ftGrel q (ftCG w)) : q.1 ≤ 55 ∧ ∀ i, i < q.1 → ftGhPl q.2.1 q.2.2.1 i = nI (ftTn (ftCG w).2.1 i) ∧ q.2.2.2 i = nI (ftTn (ftCG w).2.2.1 i) ∧ ftTn (ftCG w).2.1 i ≤ 1000 ∧ 0 < ftTn (ftCG w).2.2.1 i ∧ ftTn (ftCG w).2.2.1 i ≤ 40000 := by
  have hk := ftCG_ok hf
  refine ⟨by rw [h.1]; exact hk.1, fun i hi => ?_⟩
  obtain ⟨a1, a2, -, -⟩ := h.2 i hi
  obtain ⟨b1, b2, b3, b4, b5⟩ := hk.2 i (by rw [← h.1]; exact hi)
  exact ⟨a1.symm.trans b1, a2.symm.trans b3, Nat.le_trans b2 (by omega), b4, Nat.le_trans b5 (by omega)⟩
/-! what measuring leaves -/
abbrev ftUm : Type := (Nat → Nat) × (Nat → Int32) × (Nat → Nat → Int32) × (Nat → Nat → Int32)
/-- events that are those of w -/
def ftRdd (w : Nat → Int32) (k : Nat) (ro : Nat → Nat → Int32) : Prop := ∃ (v : Nat → Int32) (rr : Nat → Nat → Int32), (∀ t, t < ftCL w + 60 → v t = ftCV w t) ∧ k = (ftRd v (ftCL w + 60) (ftCW w) (w (44 + 6)) (w (44 + 7)) (w (44 + 8)) rr).1 ∧ ∀ c, c < 8 → ro c = ftGhosts (ftRd v (ftCL w + 60) (ftCW w) (w (44 + 6)) (w (44 + 7)) (w (44 + 8)) rr).2.2 (w (44 + 9)) (w (44 + 10)) k c
def ftMs (w : Nat → Int32) (u : ftUm) : Prop := u.1 2 = ftCL w + 60 ∧ (∀ x, x < ftCL w + 60 → u.2.2.1 5 x = ftCB w x ∧ u.2.2.1 6 x = ftCQ w x ∧ u.2.2.1 7 x = ftCZ w x ∧ u.2.2.1 8 x = ftCV w x) ∧ ftGrel (u.1 1, u.2.2.1 2, u.2.2.1 3, u.2.2.1 4) (ftCG w) ∧ u.2.1 6 = w (44 + 9) ∧ ftRdd w (u.1 3) u.2.2.2
/-- the noise that is drawn -/
def ftNc (u : ftUm) : Prop := ∀ N pu, N < 2 ^ 31 → pu < 2 ^ 31 → u.2.1 2 = nI N → u.2.1 4 = nI pu → ∀ x, x < N → u.2.2.1 7 x = ftNoise (u.2.1 3) (u.2.1 5) pu x
theorem ftErel_rdd {w : Nat → Int32} (hf : ftWf w) {k : Nat} {ro : Nat → Nat → Int32} (h : ftRdd w k ro) : k = (ftCE w).1 ∧ k ≤ 30 ∧ ∀ t, t < k → (∀ c, c < 6 → ro c t = (ftCE w).2.2 c t) ∧ (∃ e, e < ftCL w + 60 ∧ (ftCE w).2.2 1 t = nI e) ∧ (((ftCE w).2.2 4 t = 2 ∧ (∃ i j, i < 30 ∧ j < 30 ∧ (ftCE w).2.2 6 t = nI i ∧ (ftCE w).2.2 7 t = nI j) ∧ ro 6 t = (ftCE w).2.2 6 t ∧ ro 7 t = (ftCE w).2.2 7 t) ∨ (¬ (ftCE w).2.2 4 t = 2 ∧ ro 6 t = -1 ∧ ro 7 t = -1)) := by
  obtain ⟨v, rr, hv, hk, hro⟩ := h
  have hE : ftErel (ftCL w + 60) (w (44 + 9)) (w (44 + 10)) _ (ftCE w) := ftErel_of (ro := rr) (rm := fun _ _ => 0) (by omega) (ftWf_wd1 hf) hv
  obtain ⟨e1, -, e3, e4⟩ := hE
  rw [← hk] at e1 e3 e4
  refine ⟨e1, e3, fun t ht => ?_⟩
  obtain ⟨a1, a2, a3⟩ := e4 t ht
  refine ⟨fun c hc => by rw [hro c (by omega)]; exact a1 c hc, a2, ?_⟩
  rw [hro 6 (by omega), hro 7 (by omega)]
  exact a3
