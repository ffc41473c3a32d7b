/-! ghosts: the class's and the reference's are alike -/
def ftGrel (q : ftGs) (k : ftGq) : Prop := q.1 = k.1 ∧ ∀ t, t < q.1 → k.2.1 t = ftGhPl q.2.1 q.2.2.1 t ∧ k.2.2.1 t = q.2.2.2 t ∧ k.2.2.2.1 t = q.2.1 t ∧ k.2.2.2.2 t = q.2.2.1 t
theorem ftDown_M {f1 f2 ga g1 : Nat → Int32} {x one : Int32} : ∀ k, (∀ t, t < k → ga t = ftGhPl f1 f2 t ∧ g1 t ≤ one) → ftDown f1 f2 x k = ftDownM ga g1 x one k := by
  intro k
  induction k with
  | zero => intro _; rfl
  | succ k ih =>
    intro h
    obtain ⟨q1, q2⟩ := h k (by omega)
    have e := ih (fun t ht => h t (by omega))
    rw [ftDown, ftDownM, q1, e]
    by_cases c : x < ftGhPl f1 f2 k
    · rw [if_pos c, if_pos (Or.inl c)]
    · rw [if_neg c, if_neg (fun r => r.elim c (fun r => absurd r.2 (Int32.not_lt.mpr q2)))]
theorem ftIns_at {f : Nat → Int32} {u k : Nat} {x : Int32} : ftIns f u k x k = x := if_pos rfl
theorem ftIns_up {f : Nat → Int32} {u k t : Nat} {x : Int32} (h1 : k < t) (h2 : t ≤ u) : ftIns f u k x t = f (t - 1) := by
  unfold ftIns
  rw [if_neg (by omega), if_pos ⟨h1, h2⟩]
theorem ftIns_dn {f : Nat → Int32} {u k t : Nat} {x : Int32} (h1 : t < k) : ftIns f u k x t = f t := by
  unfold ftIns
  rw [if_neg (by omega), if_neg (by omega)]
theorem ftIns_by {u k : Nat} (hk : k ≤ u) {P : Nat → Prop} (h0 : P k) (h1 : ∀ t, t < k → P t) (h2 : ∀ t, k < t → t ≤ u → P t) : ∀ t, t < u + 1 → P t := by
  intro t ht
  rcases Nat.lt_trichotomy t k with q | q | q
  · exact h1 t q
  · subst q; exact h0
  · exact h2 t q (by omega)
theorem ftGrel_ins {q : ftGs} {k : ftGq} {a b h : Int32} (hr : ftGrel q k) (hb : ∀ t, t < q.1 → q.2.1 t ≤ a) : ftGrel (ftGhIns q a b h) (ftGmIns k (2 * b - a) h a b) ∧ ∀ t, t < (ftGhIns q a b h).1 → (ftGhIns q a b h).2.1 t ≤ a := by
  obtain ⟨e1, e2⟩ := hr
  have ed : ftDown q.2.1 q.2.2.1 (2 * b - a) q.1 = ftDownM k.2.1 k.2.2.2.1 (2 * b - a) a q.1 := ftDown_M q.1 (fun t ht => ⟨(e2 t ht).1, by rw [(e2 t ht).2.2.1]; exact hb t ht⟩)
  have hd := ftDown_le q.2.1 q.2.2.1 (2 * b - a) q.1
  unfold ftGhIns ftGmIns
  rw [← e1, ← ed]
  generalize ftDown q.2.1 q.2.2.1 (2 * b - a) q.1 = j at hd
  refine ⟨⟨rfl, ?_⟩, ?_⟩
  · refine ftIns_by hd ?_ ?_ ?_
    · refine ⟨?_, ?_, ?_, ?_⟩
      · show ftIns k.2.1 q.1 j (2 * b - a) j = 2 * ftIns q.2.2.1 q.1 j b j - ftIns q.2.1 q.1 j a j
        rw [ftIns_at, ftIns_at, ftIns_at]
      · show ftIns k.2.2.1 q.1 j h j = ftIns q.2.2.2 q.1 j h j
        rw [ftIns_at, ftIns_at]
      · show ftIns k.2.2.2.1 q.1 j a j = ftIns q.2.1 q.1 j a j
        rw [ftIns_at, ftIns_at]
      · show ftIns k.2.2.2.2 q.1 j b j = ftIns q.2.2.1 q.1 j b j
        rw [ftIns_at, ftIns_at]
    · intro t ht
      obtain ⟨g1, g2, g3, g4⟩ := e2 t (by omega)
      refine ⟨?_, ?_, ?_, ?_⟩
      · show ftIns k.2.1 q.1 j (2 * b - a) t = 2 * ftIns q.2.2.1 q.1 j b t - ftIns q.2.1 q.1 j a t
        rw [ftIns_dn ht, ftIns_dn ht, ftIns_dn ht, g1]; rfl
      · show ftIns k.2.2.1 q.1 j h t = ftIns q.2.2.2 q.1 j h t
        rw [ftIns_dn ht, ftIns_dn ht, g2]
      · show ftIns k.2.2.2.1 q.1 j a t = ftIns q.2.1 q.1 j a t
        rw [ftIns_dn ht, ftIns_dn ht, g3]
      · show ftIns k.2.2.2.2 q.1 j b t = ftIns q.2.2.1 q.1 j b t
        rw [ftIns_dn ht, ftIns_dn ht, g4]
    · intro t h1 h2
      obtain ⟨g1, g2, g3, g4⟩ := e2 (t - 1) (by omega)
      refine ⟨?_, ?_, ?_, ?_⟩
      · show ftIns k.2.1 q.1 j (2 * b - a) t = 2 * ftIns q.2.2.1 q.1 j b t - ftIns q.2.1 q.1 j a t
        rw [ftIns_up h1 h2, ftIns_up h1 h2, ftIns_up h1 h2, g1]; rfl
      · show ftIns k.2.2.1 q.1 j h t = ftIns q.2.2.2 q.1 j h t
        rw [ftIns_up h1 h2, ftIns_up h1 h2, g2]
      · show ftIns k.2.2.2.1 q.1 j a t = ftIns q.2.1 q.1 j a t
        rw [ftIns_up h1 h2, ftIns_up h1 h2, g3]
      · show ftIns k.2.2.2.2 q.1 j b t = ftIns q.2.2.1 q.1 j b t
        rw [ftIns_up h1 h2, ftIns_up h1 h2, g4]
  · refine ftIns_by hd ?_ ?_ ?_
    · show ftIns q.2.1 q.1 j a j ≤ a
      rw [ftIns_at]; exact Int32.le_refl a
    · intro t ht
      show ftIns q.2.1 q.1 j a t ≤ a
      rw [ftIns_dn ht]; exact hb t (by omega)
    · intro t h1 h2
      show ftIns q.2.1 q.1 j a t ≤ a
      rw [ftIns_up h1 h2]; exact hb (t - 1) (by omega)
theorem ftGrel_step {ps hs pt ht : Nat → Int32} {gl : Int32} {i j : Nat} {q : ftGs} {k : ftGq} (h1 : ps i = pt i ∧ hs i = ht i) (h2 : ps j = pt j ∧ hs j = ht j) (hr : ftGrel q k) (hb : ∀ t, t < q.1 → q.2.1 t ≤ ps i) : ftGrel (ftGhStep ps hs gl i j q) (ftGmStep pt ht gl i j k) ∧ ∀ t, t < (ftGhStep ps hs gl i j q).1 → (ftGhStep ps hs gl i j q).2.1 t ≤ ps i := by
  have e : ftGhH hs gl i j = ftGhH ht gl i j := by unfold ftGhH; rw [h1.2, h2.2]
  unfold ftGhStep ftGmStep
  rw [← e, ← h1.1, ← h2.1]
  by_cases c : 0 < ftGhH hs gl i j
  · rw [if_pos c, if_pos c]
    exact ftGrel_ins hr hb
  · rw [if_neg c, if_neg c]
    exact ⟨hr, hb⟩
theorem ftGrel_in {ps hs pt ht : Nat → Int32} {gl : Int32} {i : Nat} {q : ftGs} {k : ftGq} (h1 : ps i = pt i ∧ hs i = ht i) (hr : ftGrel q k) (hb : ∀ t, t < q.1 → q.2.1 t ≤ ps i) : ∀ d, (∀ e, e < d → ps (i + 1 + e) = pt (i + 1 + e) ∧ hs (i + 1 + e) = ht (i + 1 + e)) → ftGrel (ftGhIn ps hs gl i q d) (ftGmIn pt ht gl i k d) ∧ ∀ t, t < (ftGhIn ps hs gl i q d).1 → (ftGhIn ps hs gl i q d).2.1 t ≤ ps i := by
  intro d
  induction d with
  | zero => intro _; exact ⟨hr, hb⟩
  | succ d ih =>
    intro h
    obtain ⟨a1, a2⟩ := ih (fun e he => h e (by omega))
    exact ftGrel_step h1 (h d (by omega)) a1 a2
theorem ftGrel_out {ps hs pt ht : Nat → Int32} {gl : Int32} {r : Nat} {q : ftGs} {k : ftGq} (hq : q.1 = 0) (hr : ftGrel q k) (he : ∀ t, t < r → ps t = pt t ∧ hs t = ht t) (hasc : ∀ a b, a < b → b < r → ps a < ps b) : ∀ i, i ≤ r → ftGrel (ftGhOut ps hs gl r q i) (ftGmOut pt ht gl r k i) ∧ ∀ t, t < (ftGhOut ps hs gl r q i).1 → ∀ j, i ≤ j → j < r → (ftGhOut ps hs gl r q i).2.1 t ≤ ps j := by
  intro i
  induction i with
  | zero =>
    intro _
    refine ⟨hr, fun t h => ?_⟩
    have h : t < q.1 := h
    omega
  | succ i ih =>
    intro hi
    obtain ⟨a1, a2⟩ := ih (by omega)
    obtain ⟨b1, b2⟩ := ftGrel_in (gl := gl) (he i (by omega)) a1 (fun t h => a2 t h i (Nat.le_refl i) (by omega)) (r - (i + 1)) (fun e h => he _ (by omega))
    exact ⟨b1, fun t h j h1 h2 => Int32.le_trans (b2 t h) (Int32.le_of_lt (hasc i j (by omega) h2))⟩
theorem ftGrel_run {R T : Nat × (Nat → Int32) × (Nat → Int32)} {gl : Int32} {f1 f2 f3 ga gh g1 g2 : Nat → Int32} (h1 : R.1 = T.1) (h2 : ∀ t, t < R.1 → R.2.1 t = T.2.1 t ∧ R.2.2 t = T.2.2 t) (hasc : ∀ a b, a < b → b < R.1 → R.2.1 a < R.2.1 b) : ftGrel (ftGhs R gl f1 f2 f3) (ftGms T gl ga gh g1 g2) := by
  unfold ftGhs ftGms
  rw [← h1]
  exact (ftGrel_out rfl ⟨rfl, fun t h => absurd h (Nat.not_lt_zero t)⟩ h2 hasc R.1 (Nat.le_refl _)).1
def ftGW (w fa fh ga gh g1 g2 : Nat → Int32) : ftGq := ftGms (ftFW w fa fh) (w (44 + 2)) ga gh g1 g2
def ftCG (w : Nat → Int32) : ftGq := ftGms (ftCF w) (w (44 + 2)) (fun _ => 0) (fun _ => 0) (fun _ => 0) (fun _ => 0)
def ftGeq (q k : ftGq) : Prop := q.1 = k.1 ∧ ∀ t, t < q.1 → q.2.1 t = k.2.1 t ∧ q.2.2.1 t = k.2.2.1 t ∧ q.2.2.2.1 t = k.2.2.2.1 t ∧ q.2.2.2.2 t = k.2.2.2.2 t
theorem ftGrel_eq {q : ftGs} {j k : ftGq} (h1 : ftGrel q j) (h2 : ftGrel q k) : ftGeq j k := by
  refine ⟨h1.1.symm.trans h2.1, fun t ht => ?_⟩
  rw [← h1.1] at ht
  obtain ⟨a1, a2, a3, a4⟩ := h1.2 t ht
  obtain ⟨b1, b2, b3, b4⟩ := h2.2 t ht
  exact ⟨a1.trans b1.symm, a2.trans b2.symm, a3.trans b3.symm, a4.trans b4.symm⟩
theorem ftGW_c {w : Nat → Int32} (h : ftLf w) (fa fh ga gh g1 g2 : Nat → Int32) : ftGeq (ftGW w fa fh ga gh g1 g2) (ftCG w) := by
  have hok := ftFW_ok h (fun _ => 0) (fun _ => 0)
  have hc := ftFW_c w fa fh
  refine ftGrel_eq (q := ftGhs (ftCF w) (w (44 + 2)) (fun _ => 0) (fun _ => 0) (fun _ => 0)) ?_ ?_
  · exact ftGrel_run hc.1.symm (fun t ht => by
      have := hc.2 t (by rw [hc.1]; exact ht)
      exact ⟨this.1.symm, this.2.symm⟩) hok.2.2
  · exact ftGrel_run rfl (fun _ _ => ⟨rfl, rfl⟩) hok.2.2
/-! what ghosts are -/
theorem ftIns_all {Q : Int32 → Int32 → Int32 → Prop} {f1 f2 f3 : Nat → Int32} {u k : Nat} {a b c : Int32} (hk : k ≤ u) (h : ∀ t, t < u → Q (f1 t) (f2 t) (f3 t)) (hq : Q a b c) : ∀ t, t < u + 1 → Q (ftIns f1 u k a t) (ftIns f2 u k b t) (ftIns f3 u k c t) := by
  refine ftIns_by hk ?_ ?_ ?_
  · rw [ftIns_at, ftIns_at, ftIns_at]; exact hq
  · intro t ht; rw [ftIns_dn ht, ftIns_dn ht, ftIns_dn ht]; exact h t (by omega)
  · intro t h1 h2; rw [ftIns_up h1 h2, ftIns_up h1 h2, ftIns_up h1 h2]; exact h (t - 1) (by omega)
theorem ftGh_in {Q : Int32 → Int32 → Int32 → Prop} {ps hs : Nat → Int32} {gl : Int32} {i : Nat} {q : ftGs} (h : ∀ t, t < q.1 → Q (q.2.1 t) (q.2.2.1 t) (q.2.2.2 t)) : ∀ d, (∀ e, e < d → 0 < ftGhH hs gl i (i + 1 + e) → Q (ps i) (ps (i + 1 + e)) (ftGhH hs gl i (i + 1 + e))) → ∀ t, t < (ftGhIn ps hs gl i q d).1 → Q ((ftGhIn ps hs gl i q d).2.1 t) ((ftGhIn ps hs gl i q d).2.2.1 t) ((ftGhIn ps hs gl i q d).2.2.2 t) := by
  intro d
  induction d with
  | zero => intro _; exact h
  | succ d ih =>
    intro hd
    have a := ih (fun e he => hd e (by omega))
    show ∀ t, t < (ftGhStep ps hs gl i (i + 1 + d) (ftGhIn ps hs gl i q d)).1 → Q ((ftGhStep ps hs gl i (i + 1 + d) (ftGhIn ps hs gl i q d)).2.1 t) ((ftGhStep ps hs gl i (i + 1 + d) (ftGhIn ps hs gl i q d)).2.2.1 t) ((ftGhStep ps hs gl i (i + 1 + d) (ftGhIn ps hs gl i q d)).2.2.2 t)
    unfold ftGhStep
    by_cases c : 0 < ftGhH hs gl i (i + 1 + d)
    · rw [if_pos c]
      exact ftIns_all (ftDown_le _ _ _ _) a (hd d (by omega) c)
    · rw [if_neg c]; exact a
theorem ftGh_ent {Q : Int32 → Int32 → Int32 → Prop} {R : Nat × (Nat → Int32) × (Nat → Int32)} {gl : Int32} {f1 f2 f3 : Nat → Int32} (h : ∀ i j, i < j → j < R.1 → 0 < ftGhH R.2.2 gl i j → Q (R.2.1 i) (R.2.1 j) (ftGhH R.2.2 gl i j)) : ∀ t, t < (ftGhs R gl f1 f2 f3).1 → Q ((ftGhs R gl f1 f2 f3).2.1 t) ((ftGhs R gl f1 f2 f3).2.2.1 t) ((ftGhs R gl f1 f2 f3).2.2.2 t) := by
  have key : ∀ i, i ≤ R.1 → ∀ t, t < (ftGhOut R.2.1 R.2.2 gl R.1 (0, f1, f2, f3) i).1 → Q ((ftGhOut R.2.1 R.2.2 gl R.1 (0, f1, f2, f3) i).2.1 t) ((ftGhOut R.2.1 R.2.2 gl R.1 (0, f1, f2, f3) i).2.2.1 t) ((ftGhOut R.2.1 R.2.2 gl R.1 (0, f1, f2, f3) i).2.2.2 t) := by
    intro i
    induction i with
    | zero => intro _ t ht; exact absurd ht (Nat.not_lt_zero t)
    | succ i ih =>
      intro hi
      exact ftGh_in (ih (by omega)) (R.1 - (i + 1)) (fun e he hp => h i (i + 1 + e) (by omega) (by omega) hp)
  exact key R.1 (Nat.le_refl _)
/-- a ghost's place and height, as numbers -/
def ftGQ (a b h : Int32) : Prop := 2 * b - a = nI (2 * b - a).toNatClampNeg ∧ (2 * b - a).toNatClampNeg ≤ 800 ∧ h = nI h.toNatClampNeg ∧ 0 < h.toNatClampNeg ∧ h.toNatClampNeg ≤ 20000
theorem ftGQ_of {R : Nat × (Nat → Int32) × (Nat → Int32)} {gl : Int32} (hR : ftFok R) (hg : 0 ≤ gl) (hg2 : gl ≤ 40000) {i j : Nat} (hij : i < j) (hj : j < R.1) (hp : 0 < ftGhH R.2.2 gl i j) : ftGQ (R.2.1 i) (R.2.1 j) (ftGhH R.2.2 gl i j) := by
  obtain ⟨-, h1, h2⟩ := hR
  obtain ⟨a1, a2, a3, a4, a5, a6⟩ := h1 i (by omega)
  obtain ⟨b1, b2, b3, b4, b5, b6⟩ := h1 j hj
  have hlt := h2 i j hij hj
  have eg := (ftI_nat hg).1
  have lg := ftI_le (N := 40000) hg hg2 (by omega)
  generalize (R.2.1 i).toNatClampNeg = A at *
  generalize (R.2.1 j).toNatClampNeg = B at *
  generalize (R.2.2 i).toNatClampNeg = C at *
  generalize (R.2.2 j).toNatClampNeg = E at *
  generalize gl.toNatClampNeg = G at *
  rw [a1, b1] at hlt
  have hAB : A < B := ft_ltN (by omega) (by omega) hlt
  have e1 : 2 * R.2.1 j - R.2.1 i = nI (2 * B - A) := by
    rw [a1, b1]
    show nI 2 * nI B - nI A = _
    rw [ft_mulN, ft_subN (by omega)]
  have e2 : (R.2.2 i + R.2.2 j) / 2 = nI ((C + E) / 2) := by
    rw [a2, b2, ft_addN]
    exact pk_div (d := 2) (by omega) (by omega) (by omega)
  have e3 : ftGhH R.2.2 gl i j = nI ((C + E) / 2 - G) := by
    unfold ftGhH at hp ⊢
    rw [e2, eg] at hp ⊢
    have := ft_ge0S (by omega) (by omega) (Int32.le_of_lt hp)
    rw [ft_subN this]
  have hpos : 0 < (C + E) / 2 - G := by
    rw [e3] at hp
    exact ft_ltN (a := 0) (by omega) (by omega) hp
  unfold ftGQ
  rw [e1, e3, nI_clamp (by omega), nI_clamp (by omega)]
  exact ⟨rfl, by omega, rfl, hpos, by omega⟩
/-- a row of ghosts whose places and heights are numbers -/
def ftGok (q : ftGq) : Prop := q.1 ≤ 55 ∧ ∀ t, t < q.1 → q.2.1 t = nI (q.2.1 t).toNatClampNeg ∧ (q.2.1 t).toNatClampNeg ≤ 800 ∧ q.2.2.1 t = nI (q.2.2.1 t).toNatClampNeg ∧ 0 < (q.2.2.1 t).toNatClampNeg ∧ (q.2.2.1 t).toNatClampNeg ≤ 20000
theorem ftGms_le (R : Nat × (Nat → Int32) × (Nat → Int32)) (gl : Int32) (ga gh g1 g2 : Nat → Int32) (h : R.1 ≤ 11) : (ftGms R gl ga gh g1 g2).1 ≤ 55 := Nat.le_trans (ftGmOut_le _ _ _ _ _ rfl _) (ftPairs_le2 _ (by omega) _ (by omega))
theorem ftGms_ok {R : Nat × (Nat → Int32) × (Nat → Int32)} {gl : Int32} (hR : ftFok R) (hg : 0 ≤ gl) (hg2 : gl ≤ 40000) (ga gh g1 g2 : Nat → Int32) : ftGok (ftGms R gl ga gh g1 g2) := by
  refine ⟨ftGms_le _ _ _ _ _ _ hR.1, fun t ht => ?_⟩
  have hr : ftGrel (ftGhs R gl ga ga ga) (ftGms R gl ga gh g1 g2) := ftGrel_run rfl (fun _ _ => ⟨rfl, rfl⟩) hR.2.2
  rw [← hr.1] at ht
  obtain ⟨e1, e2, -, -⟩ := hr.2 t ht
  have q : ftGQ _ _ _ := ftGh_ent (Q := ftGQ) (f1 := ga) (f2 := ga) (f3 := ga) (fun i j h1 h2 h3 => ftGQ_of hR hg hg2 h1 h2 h3) t ht
  rw [e1, e2]
  exact q
