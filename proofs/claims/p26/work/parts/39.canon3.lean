/-! events: the class's and the reference's are alike -/
theorem ftPkI_cong {PP HH PQ HQ : Nat → Nat} {wd d x : Nat} {a b : Int32} (hab : a = b) : ∀ k, (∀ i, i < k → PP i = PQ i ∧ HH i = HQ i) → ftPkI PP HH wd d x a k = ftPkI PQ HQ wd d x b k := by
  intro k
  induction k with
  | zero => intro _; exact hab
  | succ k ih =>
    intro h
    rw [ftPkI, ftPkI, ih (fun i hi => h i (by omega)), (h k (by omega)).1, (h k (by omega)).2]
theorem ftEndK_cong {v u : Nat → Int32} {st : Int32} {L : Nat} (h : ∀ t, t ≤ L → v t = u t) (k : Nat) : ftEndK v st L k = ftEndK u st L k := by
  induction k with
  | zero => rfl
  | succ k ih => rw [ftEndK, ftEndK, ih, h _ (Nat.sub_le _ _), h _ (Nat.sub_le _ _)]
theorem ftEnd_cong {v u : Nat → Int32} {st : Int32} {L y : Nat} (h : ∀ t, t ≤ L → v t = u t) : ftEnd v st L y = ftEnd u st L y := ftEndK_cong h _
theorem ftGr_cong {v u : Nat → Int32} {x : Nat} : ∀ d, (∀ t, t ≤ x + d → v t = u t) → ftGr v x d = ftGr u x d := by
  intro d
  induction d with
  | zero => intro h; exact h x (Nat.le_refl _)
  | succ d ih => intro h; rw [ftGr, ftGr, ih (fun t ht => h t (by omega)), h _ (Nat.le_refl _)]
theorem ftMk_cong {a b : Nat → Nat → Int32} {tl : Int32} {i j e : Nat} (hi : a 0 i = b 0 i ∧ a 4 i = b 4 i) (hj : a 0 j = b 0 j ∧ a 4 j = b 4 j) (he : a 0 e = b 0 e) : ftMk a tl i j e ↔ ftMk b tl i j e := by
  unfold ftMk
  rw [hi.1, hi.2, hj.1, hj.2, he]
theorem ftMkIn_t {ro : Nat → Nat → Int32} {tl : Int32} {i e k : Nat} (h : ftMk ro tl i (e - (k + 1)) e) : ftMkIn ro tl i e (k + 1) = some (e - (k + 1)) := if_pos h
theorem ftMkIn_f {ro : Nat → Nat → Int32} {tl : Int32} {i e k : Nat} (h : ¬ ftMk ro tl i (e - (k + 1)) e) : ftMkIn ro tl i e (k + 1) = ftMkIn ro tl i e k := if_neg h
theorem ftMkIn_cong {a b : Nat → Nat → Int32} {tl : Int32} {i e : Nat} (h : ∀ t, t ≤ e → a 0 t = b 0 t ∧ a 4 t = b 4 t) (hi : i ≤ e) (k : Nat) : ftMkIn a tl i e k = ftMkIn b tl i e k := by
  induction k with
  | zero => rfl
  | succ k ih =>
    have hc := ftMk_cong (tl := tl) (h i hi) (h (e - (k + 1)) (Nat.sub_le _ _)) (h e (Nat.le_refl _)).1
    rcases Classical.em (ftMk a tl i (e - (k + 1)) e) with q | q
    · rw [ftMkIn_t q, ftMkIn_t (hc.mp q)]
    · rw [ftMkIn_f q, ftMkIn_f (fun r => q (hc.mpr r)), ih]
theorem ftMkOut_cong {a b : Nat → Nat → Int32} {tl : Int32} {e : Nat} (h : ∀ t, t ≤ e → a 0 t = b 0 t ∧ a 4 t = b 4 t) (k : Nat) : ftMkOut a tl e k = ftMkOut b tl e k := by
  induction k with
  | zero => rfl
  | succ k ih => rw [ftMkOut, ftMkOut, ih, ftMkIn_cong h (Nat.sub_le _ _)]
theorem ftMkIn_lt {ro : Nat → Nat → Int32} {tl : Int32} {i e j : Nat} (he : 0 < e) : ∀ k, ftMkIn ro tl i e k = some j → j < e := by
  intro k
  induction k with
  | zero => intro h; cases h
  | succ k ih =>
    intro h
    rcases Classical.em (ftMk ro tl i (e - (k + 1)) e) with q | q
    · rw [ftMkIn_t q] at h
      cases h
      omega
    · rw [ftMkIn_f q] at h; exact ih h
theorem ftMkOut_lt {ro : Nat → Nat → Int32} {tl : Int32} {e i j : Nat} : ∀ k, k ≤ e → ftMkOut ro tl e k = some (i, j) → i < e ∧ j < e := by
  intro k
  induction k with
  | zero => intro _ h; cases h
  | succ k ih =>
    intro hk h
    rw [ftMkOut] at h
    cases hq : ftMkIn ro tl (e - (k + 1)) e (e - (e - (k + 1) + 1)) with
    | some j2 =>
      rw [hq] at h
      cases h
      exact ⟨by omega, ftMkIn_lt (by omega) _ hq⟩
    | none => rw [hq] at h; exact ih (by omega) h
theorem ftMkSet_at {ro : Nat → Nat → Int32} {e i j c t : Nat} (h : t ≠ e) : ftMkSet ro e i j c t = ro c t := by
  unfold ftMkSet
  by_cases q4 : c = 4
  · subst q4; rw [if_pos rfl, ftUpd_ne h]
  · rw [if_neg q4]
    by_cases q6 : c = 6
    · subst q6; rw [if_pos rfl, ftUpd_ne h]
    · rw [if_neg q6]
      by_cases q7 : c = 7
      · subst q7; rw [if_pos rfl, ftUpd_ne h]
      · rw [if_neg q7]
theorem ftMkSet_o {ro : Nat → Nat → Int32} {e i j c : Nat} (h4 : c ≠ 4) (h6 : c ≠ 6) (h7 : c ≠ 7) : ftMkSet ro e i j c = ro c := by
  unfold ftMkSet
  rw [if_neg h4, if_neg h6, if_neg h7]
theorem ftMkRow_at {ro : Nat → Nat → Int32} {tl : Int32} {e c t : Nat} (h : t ≠ e) : ftMkRow ro tl e c t = ro c t := by
  cases hq : ftMkOut ro tl e e with
  | none => rw [ftMkRow_none hq]
  | some p => obtain ⟨i, j⟩ := p; rw [ftMkRow_some hq, ftMkSet_at h]
theorem ftMkRow_o {ro : Nat → Nat → Int32} {tl : Int32} {e c : Nat} (h4 : c ≠ 4) (h6 : c ≠ 6) (h7 : c ≠ 7) : ftMkRow ro tl e c = ro c := by
  cases hq : ftMkOut ro tl e e with
  | none => rw [ftMkRow_none hq]
  | some p => obtain ⟨i, j⟩ := p; rw [ftMkRow_some hq, ftMkSet_o h4 h6 h7]
theorem ftGhosts_o (ro : Nat → Nat → Int32) (tl gl : Int32) {c : Nat} (h4 : c ≠ 4) (h6 : c ≠ 6) (h7 : c ≠ 7) (i : Nat) : ftGhosts ro tl gl i c = ro c := by
  induction i with
  | zero => rfl
  | succ i ih =>
    rcases Classical.em (ftGhosts ro tl gl i 4 i = 1 ∧ ftAbs (ftGhosts ro tl gl i 2 i) ≤ gl) with q | q
    · rw [← ftGhosts_t rfl q, ftMkRow_o h4 h6 h7, ih]
    · rw [← ftGhosts_f rfl q, ih]
/-- the ghosts among the first m events don't ask for the m-th -/
theorem ftGhosts_loc {a b : Nat → Nat → Int32} {tl gl : Int32} {m : Nat} (h : ∀ c t, t ≠ m → a c t = b c t) : ∀ i, i ≤ m → (∀ c t, t ≠ m → ftGhosts a tl gl i c t = ftGhosts b tl gl i c t) ∧ ∀ c, ftGhosts a tl gl i c m = a c m := by
  intro i
  induction i with
  | zero => intro _; exact ⟨h, fun _ => rfl⟩
  | succ i ih =>
    intro hi
    obtain ⟨g1, g2⟩ := ih (by omega)
    have e4 := g1 4 i (by omega)
    have e2 := g1 2 i (by omega)
    have eo : ftMkOut (ftGhosts a tl gl i) tl i i = ftMkOut (ftGhosts b tl gl i) tl i i := ftMkOut_cong (fun t ht => ⟨g1 0 t (by omega), g1 4 t (by omega)⟩) i
    rcases Classical.em (ftGhosts a tl gl i 4 i = 1 ∧ ftAbs (ftGhosts a tl gl i 2 i) ≤ gl) with q | q
    · have q2 : ftGhosts b tl gl i 4 i = 1 ∧ ftAbs (ftGhosts b tl gl i 2 i) ≤ gl := by rw [← e4, ← e2]; exact q
      rw [← ftGhosts_t rfl q, ← ftGhosts_t rfl q2]
      refine ⟨fun c t ht => ?_, fun c => ?_⟩
      · by_cases r : t = i
        · subst r
          cases hq : ftMkOut (ftGhosts a tl gl t) tl t t with
          | none => rw [ftMkRow_none hq, ftMkRow_none (eo ▸ hq)]; exact g1 c t ht
          | some p =>
            obtain ⟨x, y⟩ := p
            rw [ftMkRow_some hq, ftMkRow_some (eo ▸ hq)]
            unfold ftMkSet
            by_cases q4 : c = 4
            · subst q4; rw [if_pos rfl, if_pos rfl, ftUpd_at0, ftUpd_at0]
            · rw [if_neg q4, if_neg q4]
              by_cases q6 : c = 6
              · subst q6; rw [if_pos rfl, if_pos rfl, ftUpd_at0, ftUpd_at0]
              · rw [if_neg q6, if_neg q6]
                by_cases q7 : c = 7
                · subst q7; rw [if_pos rfl, if_pos rfl, ftUpd_at0, ftUpd_at0]
                · rw [if_neg q7, if_neg q7]; exact g1 c t ht
        · rw [ftMkRow_at r, ftMkRow_at r]; exact g1 c t ht
      · rw [ftMkRow_at (show m ≠ i by omega)]; exact g2 c
    · have q2 : ¬ (ftGhosts b tl gl i 4 i = 1 ∧ ftAbs (ftGhosts b tl gl i 2 i) ≤ gl) := by rw [← e4, ← e2]; exact q
      rw [← ftGhosts_f rfl q, ← ftGhosts_f rfl q2]
      exact ⟨g1, g2⟩
/-- class's events q (ghosts told behind), reference's k -/
def ftErel (N : Nat) (tl gl : Int32) (q k : ftRs) : Prop := q.1 = k.1 ∧ q.2.1 = k.2.1 ∧ q.1 ≤ 30 ∧ ∀ t, t < q.1 → (∀ c, c < 6 → ftGhosts q.2.2 tl gl q.1 c t = k.2.2 c t) ∧ (∃ e, e < N ∧ k.2.2 1 t = nI e) ∧ ((k.2.2 4 t = 2 ∧ (∃ i j, i < 30 ∧ j < 30 ∧ k.2.2 6 t = nI i ∧ k.2.2 7 t = nI j) ∧ ftGhosts q.2.2 tl gl q.1 6 t = k.2.2 6 t ∧ ftGhosts q.2.2 tl gl q.1 7 t = k.2.2 7 t) ∨ (¬ k.2.2 4 t = 2 ∧ ftGhosts q.2.2 tl gl q.1 6 t = -1 ∧ ftGhosts q.2.2 tl gl q.1 7 t = -1))
theorem ftEvK_n2 (rb en : Int32) : ¬ ftEvK rb en = 2 := by
  unfold ftEvK
  by_cases h : en = 0
  · rw [if_pos h]
    by_cases r : rb = 0
    · rw [if_pos r]; decide
    · rw [if_neg r]; decide
  · rw [if_neg h]; decide
theorem ftRdEv_at {v : Nat → Int32} {x y : Nat} {rb en : Int32} {q : ftRs} {c t : Nat} (h : t ≠ q.1) : (ftRdEv v x y rb en q).2.2 c t = q.2.2 c t := if_neg h
theorem ftRdEv_m {v : Nat → Int32} {x y : Nat} {rb en : Int32} {q : ftRs} {c : Nat} : (ftRdEv v x y rb en q).2.2 c q.1 = ftEvE v x y (ftSb q.2.2 q.1) rb en c := if_pos rfl
theorem ftEvE_4 (v : Nat → Int32) (x y sb : Nat) (rb en : Int32) : ftEvE v x y sb rb en 4 = ftEvK rb en := rfl
theorem ftEvS_at {v : Nat → Int32} {O : Option (Nat × Nat)} {x y : Nat} {rb en : Int32} {k : ftRs} {c t : Nat} (h : t ≠ k.1) : (ftEvS v O x y rb en k).2.2 c t = k.2.2 c t := by
  show (if c = 4 then (match O with | none => upd (k.2.2 4) k.1 (ftEvK rb en) | some _ => upd (k.2.2 4) k.1 2) else if c = 6 then ftMk1 O (k.2.2 6) k.1 else if c = 7 then ftMk2 O (k.2.2 7) k.1 else upd (k.2.2 c) k.1 (ftEvV v x y (ftSb k.2.2 k.1) rb c)) t = k.2.2 c t
  by_cases q4 : c = 4
  · subst q4
    rw [if_pos rfl]
    cases O with
    | none => exact ftUpd_ne h
    | some p => exact ftUpd_ne h
  · rw [if_neg q4]
    by_cases q6 : c = 6
    · subst q6
      rw [if_pos rfl]
      cases O with
      | none => rfl
      | some p => obtain ⟨i, j⟩ := p; exact ftUpd_ne h
    · rw [if_neg q6]
      by_cases q7 : c = 7
      · subst q7
        rw [if_pos rfl]
        cases O with
        | none => rfl
        | some p => obtain ⟨i, j⟩ := p; exact ftUpd_ne h
      · rw [if_neg q7]; exact ftUpd_ne h
theorem ftErel_step {v u : Nat → Int32} {N x y : Nat} {tl gl rb en : Int32} {q k : ftRs} (hv : ∀ t, t < N → v t = u t) (hx1 : 1 ≤ x) (hxy : x ≤ y) (hy : y < N) (h30 : q.1 < 30) (hr : ftErel N tl gl q k) : ftErel N tl gl (ftRdEv v x y rb en q) (ftEvQ u tl gl x y rb en k) := by
  obtain ⟨e1, e2, -, e3⟩ := hr
  obtain ⟨g1, g2⟩ := ftGhosts_loc (a := (ftRdEv v x y rb en q).2.2) (b := q.2.2) (tl := tl) (gl := gl) (m := q.1) (fun c t ht => ftRdEv_at ht) q.1 (Nat.le_refl _)
  have hsb : ftSb q.2.2 q.1 = ftSb k.2.2 k.1 := by
    rw [← e1]
    unfold ftSb
    by_cases z : q.1 = 0
    · rw [if_pos z, if_pos z]
    · rw [if_neg z, if_neg z, ← (e3 (q.1 - 1) (by omega)).1 1 (by omega), ftGhosts_o _ _ _ (by omega) (by omega) (by omega)]
  have hsbN : ftSb k.2.2 k.1 < N := by
    rw [← e1]
    unfold ftSb
    by_cases z : q.1 = 0
    · rw [if_pos z]; omega
    · rw [if_neg z]
      obtain ⟨e, he, hee⟩ := (e3 (q.1 - 1) (by omega)).2.1
      rw [hee]
      rcases Nat.lt_or_ge e (2 ^ 31) with r | r
      · rw [nI_clamp r]; exact he
      · have : (nI e).toNatClampNeg < 2 ^ 31 := by
          have := (nI e).toInt_lt
          unfold Int32.toNatClampNeg
          omega
        omega
  have hE4 : ftGhosts (ftRdEv v x y rb en q).2.2 tl gl q.1 4 q.1 = ftEvK rb en := by rw [g2 4, ftRdEv_m, ftEvE_4]
  have hE2 : ftGhosts (ftRdEv v x y rb en q).2.2 tl gl q.1 2 q.1 = u (x - 1) - u y := by
    rw [g2 2, ftRdEv_m]
    show v (x - 1) - v y = _
    rw [hv _ (by omega), hv _ (by omega)]
  have hEV : ∀ c, c < 6 → c ≠ 4 → ftEvE v x y (ftSb q.2.2 q.1) rb en c = ftEvV u x y (ftSb k.2.2 k.1) rb c := by
    intro c hc h4
    rw [hsb]
    match c, hc, h4 with
    | 0, _, _ => rfl
    | 1, _, _ => rfl
    | 2, _, _ => show v (x - 1) - v y = u (x - 1) - u y; rw [hv _ (by omega), hv _ (by omega)]
    | 3, _, _ =>
      show (if rb = 0 then 0 else ftGr v x (y - x) - v (x - 1)) = (if rb = 0 then 0 else ftGr u x (y - x) - u (x - 1))
      rw [ftGr_cong (y - x) (fun t ht => hv t (by omega)), hv (x - 1) (by omega)]
    | 5, _, _ => show v (ftSb k.2.2 k.1) - v (x - 1) = u (ftSb k.2.2 k.1) - u (x - 1); rw [hv _ hsbN, hv _ (by omega)]
  have hOut : ftMkOut (ftGhosts (ftRdEv v x y rb en q).2.2 tl gl q.1) tl q.1 q.1 = ftMkOut (ftRoM (upd (k.2.2 0) k.1 (nI x)) (upd (k.2.2 4) k.1 (ftEvK rb en))) tl k.1 k.1 := by
    rw [← e1]
    refine ftMkOut_cong (fun t ht => ?_) q.1
    show _ = upd (k.2.2 0) q.1 (nI x) t ∧ _ = upd (k.2.2 4) q.1 (ftEvK rb en) t
    by_cases z : t = q.1
    · subst z
      rw [ftUpd_at0, ftUpd_at0]
      exact ⟨by rw [g2 0, ftRdEv_m]; rfl, hE4⟩
    · rw [ftUpd_ne z, ftUpd_ne z, g1 0 t z, g1 4 t z]
      exact ⟨(e3 t (by omega)).1 0 (by omega), (e3 t (by omega)).1 4 (by omega)⟩
  have hcnt : (ftRdEv v x y rb en q).1 = q.1 + 1 := rfl
  refine ⟨by rw [hcnt, e1]; rfl, rfl, by rw [hcnt]; omega, fun t ht => ?_⟩
  rw [hcnt] at ht ⊢
  -- the rows behind the step, and the reference's
  obtain ⟨O, hO⟩ : ∃ O, O = ftEvO u tl gl x y rb en k := ⟨_, rfl⟩
  have hQ : ftEvQ u tl gl x y rb en k = ftEvS u O x y rb en k := by rw [hO]; rfl
  rw [hQ]
  by_cases z : t = q.1
  · subst z
    have hk1 : ∀ c, c < 6 → c ≠ 4 → (ftEvS u O x y rb en k).2.2 c q.1 = ftEvV u x y (ftSb k.2.2 k.1) rb c := by
      intro c hc h4
      rw [e1]
      show (if c = 4 then _ else if c = 6 then _ else if c = 7 then _ else upd (k.2.2 c) k.1 (ftEvV u x y (ftSb k.2.2 k.1) rb c)) k.1 = _
      rw [if_neg h4, if_neg (by omega), if_neg (by omega)]
      exact ftUpd_at0
    have hend : ∃ e, e < N ∧ (ftEvS u O x y rb en k).2.2 1 q.1 = nI e := ⟨y, hy, hk1 1 (by omega) (by omega)⟩
    rcases Classical.em (ftEvK rb en = 1 ∧ ftAbs (u (x - 1) - u y) ≤ gl) with cc | cc
    · have q9 : ftGhosts (ftRdEv v x y rb en q).2.2 tl gl q.1 4 q.1 = 1 ∧ ftAbs (ftGhosts (ftRdEv v x y rb en q).2.2 tl gl q.1 2 q.1) ≤ gl := by rw [hE4, hE2]; exact cc
      rw [← ftGhosts_t rfl q9]
      have hO2 : O = ftMkOut (ftRoM (upd (k.2.2 0) k.1 (nI x)) (upd (k.2.2 4) k.1 (ftEvK rb en))) tl k.1 k.1 := by rw [hO]; exact if_pos cc
      rw [← hO2] at hOut
      cases hq : O with
      | none =>
        rw [hq] at hOut hk1 hend
        rw [ftMkRow_none hOut]
        have h4 : (ftEvS u none x y rb en k).2.2 4 q.1 = ftEvK rb en := by rw [e1]; exact ftUpd_at0
        refine ⟨fun c hc => ?_, hend, Or.inr ⟨by rw [h4]; exact ftEvK_n2 rb en, by rw [g2 6, ftRdEv_m]; rfl, by rw [g2 7, ftRdEv_m]; rfl⟩⟩
        by_cases c4 : c = 4
        · subst c4; rw [hE4, h4]
        · rw [g2 c, ftRdEv_m, hk1 c hc c4]; exact hEV c hc c4
      | some p =>
        obtain ⟨i, j⟩ := p
        rw [hq] at hOut hk1 hend
        rw [ftMkRow_some hOut]
        obtain ⟨li, lj⟩ := ftMkOut_lt q.1 (Nat.le_refl _) hOut
        have h4 : (ftEvS u (some (i, j)) x y rb en k).2.2 4 q.1 = 2 := by rw [e1]; exact ftUpd_at0
        have h6 : (ftEvS u (some (i, j)) x y rb en k).2.2 6 q.1 = nI i := by rw [e1]; exact ftUpd_at0
        have h7 : (ftEvS u (some (i, j)) x y rb en k).2.2 7 q.1 = nI j := by rw [e1]; exact ftUpd_at0
        refine ⟨fun c hc => ?_, hend, Or.inl ⟨h4, ⟨i, j, by omega, by omega, h6, h7⟩, ?_, ?_⟩⟩
        · by_cases c4 : c = 4
          · subst c4; rw [h4]; exact ftUpd_at0
          · rw [ftMkSet_o c4 (by omega) (by omega), g2 c, ftRdEv_m, hk1 c hc c4]; exact hEV c hc c4
        · rw [h6]; exact ftUpd_at0
        · rw [h7]; exact ftUpd_at0
    · have q9 : ¬ (ftGhosts (ftRdEv v x y rb en q).2.2 tl gl q.1 4 q.1 = 1 ∧ ftAbs (ftGhosts (ftRdEv v x y rb en q).2.2 tl gl q.1 2 q.1) ≤ gl) := by rw [hE4, hE2]; exact cc
      rw [← ftGhosts_f rfl q9]
      have hq : O = none := by rw [hO]; exact if_neg cc
      rw [hq] at hk1 hend ⊢
      have h4 : (ftEvS u none x y rb en k).2.2 4 q.1 = ftEvK rb en := by rw [e1]; exact ftUpd_at0
      refine ⟨fun c hc => ?_, hend, Or.inr ⟨by rw [h4]; exact ftEvK_n2 rb en, by rw [g2 6, ftRdEv_m]; rfl, by rw [g2 7, ftRdEv_m]; rfl⟩⟩
      by_cases c4 : c = 4
      · subst c4; rw [hE4, h4]
      · rw [g2 c, ftRdEv_m, hk1 c hc c4]; exact hEV c hc c4
  · have hk : ∀ c, (ftEvS u O x y rb en k).2.2 c t = k.2.2 c t := fun c => ftEvS_at (by rw [← e1]; exact z)
    have hg : ∀ c, ftGhosts (ftRdEv v x y rb en q).2.2 tl gl (q.1 + 1) c t = ftGhosts q.2.2 tl gl q.1 c t := by
      intro c
      rcases Classical.em (ftGhosts (ftRdEv v x y rb en q).2.2 tl gl q.1 4 q.1 = 1 ∧ ftAbs (ftGhosts (ftRdEv v x y rb en q).2.2 tl gl q.1 2 q.1) ≤ gl) with cc | cc
      · rw [← ftGhosts_t rfl cc, ftMkRow_at z]; exact g1 c t z
      · rw [← ftGhosts_f rfl cc]; exact g1 c t z
    rw [hk 1, hk 4, hk 6, hk 7, hg 6, hg 7]
    refine ⟨fun c hc => ?_, (e3 t (by omega)).2⟩
    rw [hg c, hk c]
    exact (e3 t (by omega)).1 c hc
theorem ftErel_run {v u : Nat → Int32} {N w : Nat} {ri st fl tl gl : Int32} (hN : 0 < N) (hw : 1 ≤ w) (hv : ∀ t, t < N → v t = u t) : ∀ (f x : Nat) (q k : ftRs), 1 ≤ x → ftErel N tl gl q k → ftErel N tl gl (ftRdL v N w ri st fl f x q) (ftRdM u N w ri st fl tl gl f x k) := by
  intro f
  induction f with
  | zero => intro x q k _ h; exact h
  | succ f ih =>
    intro x q k hx h
    obtain ⟨e1, e2, -, -⟩ := id h
    unfold ftRdL ftRdM
    by_cases c : x < N ∧ q.1 < 30 ∧ q.2.1 = 0
    · rw [if_pos c, if_pos (show x < N ∧ k.1 < 30 ∧ k.2.1 = 0 by rw [← e1, ← e2]; exact c)]
      have ex := hv x c.1
      have ex1 := hv (x - 1) (by omega)
      rw [ex, ex1]
      have hvL : ∀ t, t ≤ N - 1 → v t = u t := fun t ht => hv t (by omega)
      have key : ∀ y rb, x ≤ y → ftErel N tl gl (ftRdEv v x (ftEnd v st (N - 1) y) rb (if v (ftEnd v st (N - 1) y) < fl then 1 else 0) q) (ftEvQ u tl gl x (ftEnd u st (N - 1) y) rb (if u (ftEnd u st (N - 1) y) < fl then 1 else 0) k) := by
        intro y rb hy
        have b1 := ftEnd_geX (v := u) (st := st) (L := N - 1) (x := x) (y := y) hy (by omega)
        have b2 := ftEnd_le u st (N - 1) y
        rw [ftEnd_cong hvL, hv _ (show ftEnd u st (N - 1) y < N by omega)]
        exact ftErel_step hv hx b1 (by omega) c.2.1 h
      have b1 := ftEnd_geX (v := u) (st := st) (L := N - 1) (x := x) (y := x + w - 1) (by omega) (by omega)
      have b2 := ftEnd_geX (v := u) (st := st) (L := N - 1) (x := x) (y := x) (by omega) (by omega)
      by_cases d : ri ≤ u x - u (x - 1)
      · rw [if_pos d, if_pos d]
        have kk := key (x + w - 1) 1 (by omega)
        rw [ftEnd_cong hvL] at kk ⊢
        exact ih _ _ _ (by omega) kk
      · rw [if_neg d, if_neg d]
        by_cases g : st < -(u x - u (x - 1))
        · rw [if_pos g, if_pos g]
          have kk := key x 0 (by omega)
          rw [ftEnd_cong hvL] at kk ⊢
          exact ih _ _ _ (by omega) kk
        · rw [if_neg g, if_neg g]
          exact ih _ _ _ (by omega) h
    · rw [if_neg c, if_neg (show ¬ (x < N ∧ k.1 < 30 ∧ k.2.1 = 0) by rw [← e1, ← e2]; exact c)]
      exact h
theorem ftErel_of {v u : Nat → Int32} {N w : Nat} {ri st fl tl gl : Int32} {ro rm : Nat → Nat → Int32} (hN : 0 < N) (hw : 1 ≤ w) (hv : ∀ t, t < N → v t = u t) : ftErel N tl gl (ftRd v N w ri st fl ro) (ftRm u N w ri st fl tl gl rm) :=
  ftErel_run hN hw hv _ 1 _ _ (Nat.le_refl 1) ⟨rfl, rfl, by omega, fun t h => absurd h (Nat.not_lt_zero t)⟩
def ftEeq (q k : ftRs) : Prop := q.1 = k.1 ∧ q.2.1 = k.2.1 ∧ ∀ t, t < q.1 → (∀ c, c < 6 → q.2.2 c t = k.2.2 c t) ∧ (q.2.2 4 t = 2 → q.2.2 6 t = k.2.2 6 t ∧ q.2.2 7 t = k.2.2 7 t)
theorem ftErel_eq {N : Nat} {tl gl : Int32} {q j k : ftRs} (h1 : ftErel N tl gl q j) (h2 : ftErel N tl gl q k) : ftEeq j k := by
  refine ⟨h1.1.symm.trans h2.1, h1.2.1.symm.trans h2.2.1, fun t ht => ?_⟩
  rw [← h1.1] at ht
  obtain ⟨a1, -, a3⟩ := h1.2.2.2 t ht
  obtain ⟨b1, -, b3⟩ := h2.2.2.2 t ht
  refine ⟨fun c hc => (a1 c hc).symm.trans (b1 c hc), fun h4 => ?_⟩
  have k4 : k.2.2 4 t = 2 := by rw [← b1 4 (by omega), a1 4 (by omega)]; exact h4
  rcases a3 with a3 | a3
  · rcases b3 with b3 | b3
    · exact ⟨a3.2.2.1.symm.trans b3.2.2.1, a3.2.2.2.symm.trans b3.2.2.2⟩
    · exact absurd k4 b3.1
  · exact absurd h4 a3.1
/-! what a row says: base, peaks, noise, samples, events -/
def ftCB (w : Nat → Int32) (x : Nat) : Int32 := ftBsM w (ftCL w) (ftCN w) x
def ftTn (f : Nat → Int32) : Nat → Nat := fun i => (f i).toNatClampNeg
def ftCQ (w : Nat → Int32) (x : Nat) : Int32 := ftPkM (ftTn (ftCF w).2.1) (ftTn (ftCF w).2.2) (ftTn (ftCG w).2.1) (ftTn (ftCG w).2.2.1) (ftCF w).1 (ftCG w).1 (ftCW w) (ftCD w) x
def ftCZ (w : Nat → Int32) (x : Nat) : Int32 := ftNoise (w (44 + 3)) (w (44 + 5)) (ftCP w) x
def ftCV (w : Nat → Int32) (x : Nat) : Int32 := ftCB w x + ftCQ w x + ftCZ w x
noncomputable def ftCE (w : Nat → Int32) : ftRs := ftRm (ftCV w) (ftCL w + 60) (ftCW w) (w (44 + 6)) (w (44 + 7)) (w (44 + 8)) (w (44 + 9)) (w (44 + 10)) (fun _ _ => 0)
theorem ftCQ_run {w : Nat → Int32} (h : ftLf w) {fa fh ga gh g1 g2 : Nat → Int32} (x : Nat) : ftPkM (ftTn (ftFW w fa fh).2.1) (ftTn (ftFW w fa fh).2.2) (ftTn (ftGW w fa fh ga gh g1 g2).2.1) (ftTn (ftGW w fa fh ga gh g1 g2).2.2.1) (ftFW w fa fh).1 (ftGW w fa fh ga gh g1 g2).1 (ftCW w) (ftCD w) x = ftCQ w x := by
  have hF := ftFW_c w fa fh
  have hG := ftGW_c h fa fh ga gh g1 g2
  unfold ftCQ ftPkM
  rw [hF.1, hG.1]
  refine ftPkI_cong (ftPkI_cong rfl _ (fun i hi => ?_)) _ (fun i hi => ?_)
  · have := hF.2 i (by rw [hF.1]; exact hi)
    unfold ftTn
    exact ⟨by rw [this.1], by rw [this.2]⟩
  · have := hG.2 i (by rw [hG.1]; exact hi)
    unfold ftTn
    exact ⟨by rw [this.1], by rw [this.2.1]⟩
theorem ftCE_run {w v : Nat → Int32} {ro : Nat → Nat → Int32} (h : ftWf w) (hv : ∀ x, x < ftCL w + 60 → v x = ftCV w x) : ftEeq (ftRm v (ftCL w + 60) (ftCW w) (w (44 + 6)) (w (44 + 7)) (w (44 + 8)) (w (44 + 9)) (w (44 + 10)) ro) (ftCE w) :=
  ftErel_eq (ftErel_of (ro := fun _ _ => 0) (by omega) (ftWf_wd1 h) (fun t ht => (hv t ht).symm)) (ftErel_of (ro := fun _ _ => 0) (by omega) (ftWf_wd1 h) (fun _ _ => rfl))
