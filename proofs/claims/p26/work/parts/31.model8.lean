/-! the reference: parts and events -/
noncomputable def ftOnM (eb ee : Nat → Int32) (k : Nat) (x : Int32) : Int32 := ftFst (fun i => eb i ≤ x ∧ x ≤ ee i) k
noncomputable def ftNearM (eb ek : Nat → Int32) (tl : Int32) (k : Nat) (x : Int32) : Int32 := ftFst (fun i => ¬ ek i = 2 ∧ ftNear tl (eb i) x) k
noncomputable def ftStandM (eb ee ek w : Nat → Int32) (km k : Nat) : Int32 := if w (4 + 4 * k + 0) = 2 then 2 else if 0 ≤ ftNearM eb ek (w (44 + 9)) km (w (4 + 4 * k + 1)) then 0 else if 0 ≤ ftOnM eb ee km (w (4 + 4 * k + 1)) then 1 else 2
noncomputable def ftStandsM (eb ee ek w : Nat → Int32) (km : Nat) (ho : Int32) (n : Nat) : Int32 := ftCount (fun k => w (4 + 4 * k + 0) < 2 ∧ ftStandM eb ee ek w km k = ho) n
def ftStrM (eb ek w : Nat → Int32) (e n : Nat) : Prop := ek e < 2 ∧ ∀ t, t < n → (w (4 + 4 * t + 0) = 2 ∨ w (44 + 9) < ftSz (eb e - w (4 + 4 * t + 1)))
theorem ftStrM_s {eb ek w : Nat → Int32} {e k : Nat} (h : ftStrM eb ek w e k) (q : w (4 + 4 * k + 0) = 2 ∨ w (44 + 9) < ftSz (eb e - w (4 + 4 * k + 1))) : ftStrM eb ek w e (k + 1) :=
  ⟨h.1, fun t ht => by
    rcases Nat.lt_succ_iff_lt_or_eq.mp ht with r | r
    · exact h.2 t r
    · subst r; exact q⟩
theorem ftStrM_d {eb ek w : Nat → Int32} {e k : Nat} (h : ftStrM eb ek w e (k + 1)) : ftStrM eb ek w e k := ⟨h.1, fun t ht => h.2 t (by omega)⟩
theorem ftStrM_q {eb ek w : Nat → Int32} {e k : Nat} (h : ftStrM eb ek w e (k + 1)) : w (4 + 4 * k + 0) = 2 ∨ w (44 + 9) < ftSz (eb e - w (4 + 4 * k + 1)) := h.2 k (by omega)





