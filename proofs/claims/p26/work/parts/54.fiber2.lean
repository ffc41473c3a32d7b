/-! measured or not -/
def ftMi (w : Nat → Int32) (fl : Int32) (mu : ftUm) : Prop := (fl = 0 ∨ fl = 1) ∧ (¬ fl = 0 → ftMs w mu) ∧ ftNc mu
theorem ft_tp {w : Nat → Int32} {ln : Nat} {x : Int32} (hcl : ftCL w = ln) (hln : ln ≤ 400) : (0 ≤ x ∧ x ≤ nI ln + 60 - 1) ↔ (0 ≤ x ∧ x ≤ nI (ftCL w + 60 - 1)) := by
  have e : nI ln + 60 - 1 = nI (ftCL w + 60 - 1) := by
    rw [hcl, show nI ln + 60 = nI (ln + 60) from ft_addN ln 60]
    exact ft_subN (b := 1) (by omega)
  rw [e]
theorem ft_tpk {K : Nat} {x : Int32} (hK : 0 < K) (hK2 : K < 2 ^ 31) (h : 0 ≤ x ∧ x ≤ nI (K - 1)) : ∃ k, x = nI k ∧ k < K := by
  obtain ⟨e1, e2⟩ := ftI_nat h.1
  have h2 := h.2
  rw [e1] at h2
  have := ft_leN e2 (by omega) h2
  exact ⟨_, e1, by omega⟩
theorem ft_tpz {K : Nat} {x : Int32} (hK2 : K < 2 ^ 31) (h : 0 ≤ x ∧ x ≤ nI K - 1) : ∃ k, x = nI k ∧ k < K := by
  rcases Nat.eq_zero_or_pos K with q | q
  · subst q
    exact absurd (Int32.le_trans h.1 h.2) (by decide)
  · rw [show nI K - 1 = nI (K - 1) from ft_subN (b := 1) q] at h
    exact ft_tpk q hK2 h
theorem ft_orn {v : Int32} (h : v = -1 ∨ ∃ t, t < 2 ^ 31 ∧ v = nI t) : (if v = -1 then (-1000004 : Int32) else v) = if v < 0 then -1000004 else v := by
  rcases h with q | ⟨t, ht, q⟩
  · subst q; decide
  · subst q
    rw [if_neg (ft_nIm1 ht), if_neg (nI_pos ht)]
/-- the part of w's events that the class's rows say -/
def ftEv6 (w : Nat → Int32) (k : Nat) (ro : Nat → Nat → Int32) : Prop := k = (ftCE w).1 ∧ k ≤ 30 ∧ ∀ t, t < k → ∀ c, c < 6 → ro c t = (ftCE w).2.2 c t
theorem ftEv6_of {w : Nat → Int32} (hf : ftWf w) {k : Nat} {ro : Nat → Nat → Int32} (h : ftRdd w k ro) : ftEv6 w k ro := by
  obtain ⟨h1, h2, h3⟩ := ftErel_rdd hf h
  exact ⟨h1, h2, fun t ht => (h3 t ht).1⟩
theorem ftCov_w {w : Nat → Int32} {k : Nat} {ro : Nat → Nat → Int32} (h : ftEv6 w k ro) (x : Int32) : ftCov ro k x = ftCOn w x := by
  unfold ftCov ftCOn ftOnM
  rw [← h.1]
  exact ftFst_cong k (fun t ht => by rw [h.2.2 t ht 0 (by omega), h.2.2 t ht 1 (by omega)])
theorem ftFst_v (P : Nat → Prop) {k : Nat} (hk : k < 2 ^ 31) : ftFst P k = -1 ∨ ∃ t, t < 2 ^ 31 ∧ ftFst P k = nI t := by
  rcases ftFst_c P k hk with ⟨q, -⟩ | ⟨t, h1, -, h3⟩
  · exact Or.inl q
  · exact Or.inr ⟨t, by omega, h3⟩
/-- kinds of events; how many are the end -/
def ftKv (q : ftRs) : Prop := (∀ t, t < q.1 → q.2.2 4 t = 0 ∨ q.2.2 4 t = 1 ∨ q.2.2 4 t = 2 ∨ q.2.2 4 t = 3) ∧ ftCount (fun t => q.2.2 4 t = 3) q.1 = if q.2.1 = 0 then 0 else 1
theorem ftEvK_v (rb en : Int32) : (en = 0 ∧ (ftEvK rb en = 0 ∨ ftEvK rb en = 1)) ∨ (¬ en = 0 ∧ ftEvK rb en = 3) := by
  unfold ftEvK
  by_cases h : en = 0
  · rw [if_pos h]
    by_cases r : rb = 0
    · rw [if_pos r]; exact Or.inl ⟨h, Or.inl rfl⟩
    · rw [if_neg r]; exact Or.inl ⟨h, Or.inr rfl⟩
  · rw [if_neg h]; exact Or.inr ⟨h, rfl⟩
theorem ftEvQ_k {v : Nat → Int32} {tl gl : Int32} {x y : Nat} {rb en : Int32} {q : ftRs} : (en = 0 ∧ ((ftEvQ v tl gl x y rb en q).2.2 4 q.1 = 0 ∨ (ftEvQ v tl gl x y rb en q).2.2 4 q.1 = 1 ∨ (ftEvQ v tl gl x y rb en q).2.2 4 q.1 = 2)) ∨ (¬ en = 0 ∧ (ftEvQ v tl gl x y rb en q).2.2 4 q.1 = 3) := by
  have hn : ∀ O : Option (Nat × Nat), O = none → (ftEvS v O x y rb en q).2.2 4 q.1 = ftEvK rb en := by
    intro O h
    subst h
    show upd (q.2.2 4) q.1 (ftEvK rb en) q.1 = _
    exact ftUpd_at0
  have hs : ∀ O : Option (Nat × Nat), (∃ z, O = some z) → (ftEvS v O x y rb en q).2.2 4 q.1 = 2 := by
    rintro O ⟨z, h⟩
    subst h
    show upd (q.2.2 4) q.1 2 q.1 = _
    exact ftUpd_at0
  unfold ftEvQ
  have hE := ftEvK_v rb en
  by_cases c : ftEvK rb en = 1 ∧ ftAbs (v (x - 1) - v y) ≤ gl
  · have e0 : en = 0 := by
      rcases hE with q | q
      · exact q.1
      · rw [q.2] at c; exact absurd c.1 (by decide)
    refine Or.inl ⟨e0, ?_⟩
    cases hO : ftEvO v tl gl x y rb en q with
    | none => rw [hn _ rfl, c.1]; exact Or.inr (Or.inl rfl)
    | some z => rw [hs _ ⟨z, rfl⟩]; exact Or.inr (Or.inr rfl)
  · rw [hn _ (ftEvO_f c)]
    rcases hE with ⟨q1, q2 | q2⟩ | ⟨q1, q2⟩
    · exact Or.inl ⟨q1, Or.inl q2⟩
    · exact Or.inl ⟨q1, Or.inr (Or.inl q2)⟩
    · exact Or.inr ⟨q1, q2⟩
theorem ftKv_step {v : Nat → Int32} {tl gl : Int32} {x y : Nat} {rb en : Int32} {q : ftRs} (h : ftKv q) (h0 : q.2.1 = 0) : ftKv (ftEvQ v tl gl x y rb en q) := by
  have hk := ftEvQ_k (v := v) (tl := tl) (gl := gl) (x := x) (y := y) (rb := rb) (en := en) (q := q)
  have hold : ∀ t, t < q.1 → (ftEvQ v tl gl x y rb en q).2.2 4 t = q.2.2 4 t := fun t ht => ftEvS_at (by omega)
  have hc : ftCount (fun t => (ftEvQ v tl gl x y rb en q).2.2 4 t = 3) q.1 = 0 := by
    rw [ftCount_cong q.1 (fun t ht => by rw [hold t ht] : ∀ t, t < q.1 → ((ftEvQ v tl gl x y rb en q).2.2 4 t = 3 ↔ q.2.2 4 t = 3)), h.2, if_pos h0]
  refine ⟨fun t ht => ?_, ?_⟩
  · have ht : t < q.1 + 1 := ht
    rcases Nat.lt_succ_iff_lt_or_eq.mp ht with r | r
    · rw [hold t r]; exact h.1 t r
    · subst r
      rcases hk with ⟨-, r | r | r⟩ | ⟨-, r⟩
      · exact Or.inl r
      · exact Or.inr (Or.inl r)
      · exact Or.inr (Or.inr (Or.inl r))
      · exact Or.inr (Or.inr (Or.inr r))
  · show ftCount (fun t => (ftEvQ v tl gl x y rb en q).2.2 4 t = 3) (q.1 + 1) = if en = 0 then 0 else 1
    rw [ftCount, hc]
    rcases hk with ⟨e, r⟩ | ⟨e, r⟩
    · rw [if_pos e, ftB_f (by rcases r with r | r | r <;> (rw [r]; decide))]; rfl
    · rw [if_neg e, ftB_t r]; rfl
theorem ftKv_run {v : Nat → Int32} {N w : Nat} {ri st fl tl gl : Int32} : ∀ (f x : Nat) (q : ftRs), ftKv q → ftKv (ftRdM v N w ri st fl tl gl f x q) := by
  intro f
  induction f with
  | zero => intro x q h; exact h
  | succ f ih =>
    intro x q h
    rw [ftRdM]
    split
    · rename_i c
      split
      · exact ih _ _ (ftKv_step h c.2.2)
      · split
        · exact ih _ _ (ftKv_step h c.2.2)
        · exact ih _ _ h
    · exact h
theorem ftKv_ce (w : Nat → Int32) : ftKv (ftCE w) := ftKv_run _ _ _ ⟨fun t h => absurd h (Nat.not_lt_zero t), rfl⟩
theorem ftK3 (w : Nat → Int32) : ∀ t, t < (ftCE w).1 → (¬ (ftCE w).2.2 4 t = 3 ↔ (ftCE w).2.2 4 t < 3) := by
  intro t ht
  rcases (ftKv_ce w).1 t ht with q | q | q | q <;> (rw [q]; decide)
theorem ftWorst_w {w : Nat → Int32} {k : Nat} {ro : Nat → Nat → Int32} (h : ftEv6 w k ro) : ∀ m, m ≤ k → (ftWorst ro m = -1 ∧ ftWo (ftCE w) m = -1000004) ∨ ∃ b, b < m ∧ ftWorst ro m = nI b ∧ ftWo (ftCE w) m = nI b := by
  intro m
  induction m with
  | zero => intro _; exact Or.inl ⟨rfl, rfl⟩
  | succ m ih =>
    intro hm
    have e4 : ro 4 m = (ftCE w).2.2 4 m := h.2.2 m (by omega) 4 (by omega)
    have e2 : ro 2 m = (ftCE w).2.2 2 m := h.2.2 m (by omega) 2 (by omega)
    have hk := ftK3 w m (by rw [← h.1]; omega)
    have h30 := h.2.1
    rw [ftWorst, ftWo, e4, e2]
    rcases ih (by omega) with ⟨a1, a2⟩ | ⟨b, b1, b2, b3⟩
    · rw [a1, a2]
      by_cases c : (ftCE w).2.2 4 m < 3
      · rw [if_pos ⟨hk.mpr c, Or.inl rfl⟩, if_pos ⟨c, Or.inl (by decide)⟩]
        exact Or.inr ⟨m, by omega, rfl, rfl⟩
      · rw [if_neg (fun q => c (hk.mp q.1)), if_neg (fun q => c q.1)]
        exact Or.inl ⟨rfl, rfl⟩
    · have eb : ftAt 30 (ro 2) (nI b) = (ftCE w).2.2 2 b := by
        rw [ftAt_N (k := b) (by omega) (by omega)]
        exact h.2.2 b (by omega) 2 (by omega)
      rw [b2, b3, eb, nI_clamp (show b < 2 ^ 31 by omega)]
      by_cases c : (ftCE w).2.2 4 m < 3 ∧ (ftCE w).2.2 2 b < (ftCE w).2.2 2 m
      · rw [if_pos ⟨hk.mpr c.1, Or.inr c.2⟩, if_pos ⟨c.1, Or.inr c.2⟩]
        exact Or.inr ⟨m, by omega, rfl, rfl⟩
      · rw [if_neg (fun q => c ⟨hk.mp q.1, q.2.resolve_left (ft_nIm1 (by omega))⟩), if_neg (fun q => c ⟨q.1, q.2.resolve_left (nI_pos (by omega))⟩)]
        exact Or.inr ⟨b, by omega, rfl, rfl⟩
theorem ftWorst_or {w : Nat → Int32} {k : Nat} {ro : Nat → Nat → Int32} (h : ftEv6 w k ro) : (if ftWorst ro k = -1 then -1000004 else ftWorst ro k) = ftWo (ftCE w) (ftCE w).1 := by
  have h30 := h.2.1
  rw [← h.1]
  rcases ftWorst_w h k (Nat.le_refl k) with ⟨a1, a2⟩ | ⟨b, b1, b2, b3⟩
  · rw [a1, a2, if_pos rfl]
  · rw [b2, b3, if_neg (ft_nIm1 (by omega))]
