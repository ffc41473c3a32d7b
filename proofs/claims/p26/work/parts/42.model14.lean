/-! the reference: what asks for events -/
theorem ftCE_rel {w : Nat → Int32} (h : ftWf w) : ftErel (ftCL w + 60) (w (44 + 9)) (w (44 + 10)) (ftRd (ftCV w) (ftCL w + 60) (ftCW w) (w (44 + 6)) (w (44 + 7)) (w (44 + 8)) (fun _ _ => 0)) (ftCE w) := ftErel_of (by omega) (ftWf_wd1 h) (fun _ _ => rfl)
theorem ftCE_le {w : Nat → Int32} (h : ftWf w) : (ftCE w).1 ≤ 30 := by
  have q := ftCE_rel h
  rw [← q.1]; exact q.2.2.1
theorem ftCE_end {w : Nat → Int32} (h : ftWf w) {t : Nat} (ht : t < (ftCE w).1) : ∃ e, e < ftCL w + 60 ∧ (ftCE w).2.2 1 t = nI e := by
  have q := ftCE_rel h
  exact (q.2.2.2 t (by rw [q.1]; exact ht)).2.1
def ftEvP (w : Nat → Int32) (E : ftRs) (k : Nat) (x : Int32) : Int32 := if x = 0 then E.2.2 0 k else if x = 1 then E.2.2 1 k else if x = 2 then E.2.2 2 k else if x = 3 then E.2.2 3 k else if x = 4 then E.2.2 4 k else if x = 5 then E.2.2 5 k else if x = 6 then (if E.2.2 4 k = 2 then E.2.2 6 k else -1000004) else (if E.2.2 4 k = 2 then E.2.2 7 k else -1000004)
noncomputable def ftEvA (w : Nat → Int32) (a b : Int32) : Int32 := ftIte ((0 ≤ a ∧ a ≤ nI (ftCE w).1 - 1) ∧ 0 ≤ b ∧ b ≤ 7) (ftEvP w (ftCE w) a.toNatClampNeg b) (-1000001)
noncomputable def ftT1 (E : ftRs) (x : Int32) (k : Nat) : Int32 := if x = 0 then E.2.2 2 k else if x = 1 then E.2.2 5 k else if x = 2 then (if E.2.2 4 k = 2 then E.2.2 2 k else 0) else ftIte ((3 ≤ x ∧ x ≤ 5) ∧ E.2.2 4 k = x - 3) 1 0
noncomputable def ftTs (E : ftRs) (x : Int32) : Nat → Int32
  | 0 => 0
  | k + 1 => ftTs E x k + ftT1 E x k
noncomputable def ftToK (w : Nat → Int32) (E : ftRs) (x : Int32) : Int32 := if x < 6 then ftTs E x E.1 else if x = 7 then (if E.2.1 = 0 then 0 else 1) else if E.1 = 0 then 0 else ftCV w 0 - ftCV w (E.2.2 1 (E.1 - 1)).toNatClampNeg
noncomputable def ftToA (w : Nat → Int32) (x : Int32) : Int32 := ftIte (0 ≤ x ∧ x ≤ 7) (ftToK w (ftCE w) x) (-1000001)
theorem ftFst_cong {P Q : Nat → Prop} : ∀ k, (∀ t, t < k → (P t ↔ Q t)) → ftFst P k = ftFst Q k := by
  intro k
  induction k with
  | zero => intro _; rfl
  | succ k ih =>
    intro h
    rw [ftFst, ftFst, ih (fun t ht => h t (by omega)), propext (h k (by omega))]
theorem ftCount_cong {P Q : Nat → Prop} : ∀ k, (∀ t, t < k → (P t ↔ Q t)) → ftCount P k = ftCount Q k := by
  intro k
  induction k with
  | zero => intro _; rfl
  | succ k ih =>
    intro h
    rw [ftCount, ftCount, ih (fun t ht => h t (by omega)), propext (h k (by omega))]
noncomputable def ftCOn (w : Nat → Int32) (x : Int32) : Int32 := ftOnM ((ftCE w).2.2 0) ((ftCE w).2.2 1) (ftCE w).1 x
noncomputable def ftCNe (w : Nat → Int32) (x : Int32) : Int32 := ftNearM ((ftCE w).2.2 0) ((ftCE w).2.2 4) (w (44 + 9)) (ftCE w).1 x
noncomputable def ftCSt (w : Nat → Int32) (k : Nat) : Int32 := ftStandM ((ftCE w).2.2 0) ((ftCE w).2.2 1) ((ftCE w).2.2 4) w (ftCE w).1 k
noncomputable def ftCSs (w : Nat → Int32) (ho : Int32) : Int32 := ftStandsM ((ftCE w).2.2 0) ((ftCE w).2.2 1) ((ftCE w).2.2 4) w (ftCE w).1 ho (ftCN w)
noncomputable def ftCSg (w : Nat → Int32) : Nat → Int32 := ftCount (fun e => ftStrM ((ftCE w).2.2 0) ((ftCE w).2.2 4) w e (ftCN w))
/-- rows that say what the events of w are -/
def ftEe (w : Nat → Int32) (u : Nat → Nat → Int32) : Prop := ∀ t, t < (ftCE w).1 → (∀ c, c < 6 → u (25 + c) t = (ftCE w).2.2 c t) ∧ ((ftCE w).2.2 4 t = 2 → u 31 t = (ftCE w).2.2 6 t ∧ u 32 t = (ftCE w).2.2 7 t)
theorem ftOn_u {w : Nat → Int32} {u : Nat → Nat → Int32} (h : ftEe w u) (x : Int32) : ftOnM (u 25) (u 26) (ftCE w).1 x = ftCOn w x := ftFst_cong _ (fun t ht => by
  have e0 : u 25 t = _ := (h t ht).1 0 (by omega)
  have e1 : u 26 t = _ := (h t ht).1 1 (by omega)
  rw [e0, e1])
theorem ftNe_u {w : Nat → Int32} {u : Nat → Nat → Int32} (h : ftEe w u) (x : Int32) : ftNearM (u 25) (u 29) (w (44 + 9)) (ftCE w).1 x = ftCNe w x := ftFst_cong _ (fun t ht => by
  have e0 : u 25 t = _ := (h t ht).1 0 (by omega)
  have e1 : u 29 t = _ := (h t ht).1 4 (by omega)
  rw [e0, e1])
theorem ftSt_u {w : Nat → Int32} {u : Nat → Nat → Int32} (h : ftEe w u) (k : Nat) : ftStandM (u 25) (u 26) (u 29) w (ftCE w).1 k = ftCSt w k := by
  unfold ftCSt ftStandM
  have e1 := ftNe_u h (w (4 + 4 * k + 1))
  have e2 := ftOn_u h (w (4 + 4 * k + 1))
  unfold ftCNe at e1
  unfold ftCOn at e2
  rw [e1, e2]
theorem ftSs_u {w : Nat → Int32} {u : Nat → Nat → Int32} (h : ftEe w u) (ho : Int32) : ftStandsM (u 25) (u 26) (u 29) w (ftCE w).1 ho (ftCN w) = ftCSs w ho := ftCount_cong _ (fun k hk => by
  have e := ftSt_u h k
  unfold ftCSt at e
  rw [e])
theorem ftStr_u {w : Nat → Int32} {u : Nat → Nat → Int32} (h : ftEe w u) {e : Nat} (he : e < (ftCE w).1) : ftStrM (u 25) (u 29) w e (ftCN w) ↔ ftStrM ((ftCE w).2.2 0) ((ftCE w).2.2 4) w e (ftCN w) := by
  have e0 : u 25 e = _ := (h e he).1 0 (by omega)
  have e4 : u 29 e = _ := (h e he).1 4 (by omega)
  unfold ftStrM
  rw [e0, e4]
noncomputable def ftEaA (w : Nat → Int32) (x : Int32) : Int32 := ftIte (0 ≤ x ∧ x ≤ nI (ftCL w + 60 - 1)) (if ftCOn w x < 0 then -1000004 else ftCOn w x) (-1000001)
def ftWo (E : ftRs) : Nat → Int32
  | 0 => -1000004
  | k + 1 => if E.2.2 4 k < 3 ∧ (ftWo E k < 0 ∨ E.2.2 2 (ftWo E k).toNatClampNeg < E.2.2 2 k) then nI k else ftWo E k
theorem ftWo_b (E : ftRs) : ∀ k, ftWo E k < 0 ∨ ∃ b, b < k ∧ ftWo E k = nI b := by
  intro k
  induction k with
  | zero => exact Or.inl (show (-1000004 : Int32) < 0 by decide)
  | succ k ih =>
    rw [ftWo]
    split
    · exact Or.inr ⟨k, by omega, rfl⟩
    · rcases ih with h | ⟨b, h1, h2⟩
      · exact Or.inl h
      · exact Or.inr ⟨b, by omega, h2⟩
theorem ftWo_t {E : ftRs} {k : Nat} (h1 : E.2.2 4 k < 3) (h2 : ftWo E k < 0 ∨ E.2.2 2 (ftWo E k).toNatClampNeg < E.2.2 2 k) : nI k = ftWo E (k + 1) := (if_pos ⟨h1, h2⟩).symm
theorem ftWo_f {E : ftRs} {k : Nat} (h1 : ¬ (E.2.2 4 k < 3 ∧ (ftWo E k < 0 ∨ E.2.2 2 (ftWo E k).toNatClampNeg < E.2.2 2 k))) : ftWo E k = ftWo E (k + 1) := (if_neg h1).symm
noncomputable def ftPtK (w : Nat → Int32) (k : Nat) (x : Int32) : Int32 := if x < 4 then w (4 + 4 * k + x.toNatClampNeg) else if x = 4 then ftCSt w k else if ftCSt w k = 0 then ftCNe w (w (4 + 4 * k + 1)) else if ftCSt w k = 1 then ftCOn w (w (4 + 4 * k + 1)) else -1000004
noncomputable def ftPtA (w : Nat → Int32) (a b : Int32) : Int32 := ftIte ((0 ≤ a ∧ a ≤ w 3 - 1) ∧ 0 ≤ b ∧ b ≤ 5) (ftPtK w a.toNatClampNeg b) (-1000001)
noncomputable def ftFiA (w : Nat → Int32) (x : Int32) : Int32 := ftIte (0 ≤ x ∧ x ≤ 3) (if x = 3 then ftCSg w (ftCE w).1 else ftCSs w x) (-1000001)







