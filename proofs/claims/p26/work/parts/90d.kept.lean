/-! what isKept asks -/
theorem lxKk_t {w : Nat → Int32} (h : ftCK w = 3) : (3 : Int32) = nI (ftKk w + 1) := by unfold ftKk; rw [if_pos h]; rfl
theorem lxKk_f {w : Nat → Int32} (h : ¬ ftCK w = 3) : nI (ftCK w + 1) = nI (ftKk w + 1) := by unfold ftKk; rw [if_neg h]
theorem lxKp_cl (w : Nat → Int32) : ftCL (ftKeep w) = ftCL w := by unfold ftCL; rw [ftKeep_lo (by omega)]
theorem lxSm {w : Nat → Int32} {X : Nat} (hX : X < ftCL w + 60) (hl : ftCL w ≤ 400) : ftSmA w (nI X) 0 = ftCV w X := by
  unfold ftSmA
  rw [ftIte_t ⟨⟨nI_le (a := 0) (Nat.zero_le X) (by omega), nI_le (by omega) (by omega)⟩, by decide, by decide⟩, nI_clamp (by omega)]
  unfold ftSmK
  rw [if_pos rfl]
section LXKW
variable {w v : Nat → Int32}
/-- the row behind another noise -/
theorem lxKv_row (h : ftWf w) (hv : v = upd (ftKeep w) (44 + 3) 100) : (∀ t, t < 47 → v t = w t) ∧ (∀ t, 55 ≤ t → v t = ftKeep w t) ∧ v 55 = nI (ftKk w + 1) ∧ ftCL v = ftCL w := by
  subst hv
  refine ⟨fun t ht => (ftUpd_ne (by omega)).trans (ftKeep_lo (by omega)), fun t ht => ftUpd_ne (by omega), (ftUpd_ne (by omega)).trans ftKeep_55, ?_⟩
  unfold ftCL
  rw [ftUpd_ne (by omega), ftKeep_lo (by omega)]
/-- the greatest difference and its place, as numbers -/
theorem lxKv_3n (h : ftWf w) (hv : ftWf v) (e47 : ∀ t, t < 47 → v t = w t) (e56 : ∀ t, 55 ≤ t → v t = ftKeep w t) (h0 : w (44 + 3) = 0) : ∃ G b, G ≤ 40000 ∧ b < ftCL w + 60 ∧ (∀ t, t < ftCL w + 60 → lxDf w v t ≤ nI G) ∧ lxDf w v b = nI G ∧ (∀ t, t < b → lxDf w v t < nI G) ∧ ftCmK v (ftKk w) 0 2 = nI G ∧ ftCmK v (ftKk w) 0 3 = nI b := by
  obtain ⟨g, b, h1, h2, h3, h4, h5, h6, h7, h8⟩ := lxKv_3 h hv e47 e56 h0
  obtain ⟨e, hl⟩ := ftI_nat h1
  refine ⟨g.toNatClampNeg, b, ftI_le (N := 40000) h1 h2 (by omega), h3, ?_, ?_, ?_, ?_, h8⟩
  · intro t ht; rw [← e]; exact h4 t ht
  · rw [← e]; exact h5
  · intro t ht; rw [← e]; exact h6 t ht
  · rw [← e]; exact h7
theorem lxKv_predN (h : ftWf w) (e47 : ∀ t, t < 47 → v t = w t) (e56 : ∀ t, 55 ≤ t → v t = ftKeep w t) {G b : Nat} (hG : G ≤ 40000) (hg0 : 0 < G) (hb : b < ftCL w + 60) (he : lxDf w v b = nI G) (hm : ∀ t, t < b → lxDf w v t < nI G) : ftCmK v (ftKk w) (nI (G - 1)) 0 = nI b := by
  have q := lxKv_pred h e47 e56 (g := nI G) ((nI_ltI (a := 0) (by omega) (by omega)).mpr hg0) hb he hm
  rw [show nI G - 1 = nI (G - 1) from ft_subN (b := 1) (by omega)] at q
  exact q
theorem lx_li {l : Nat} (h : l ≤ 50000) : 0 ≤ nI l ∧ nI l ≤ 50000 := ⟨nI_le (a := 0) (Nat.zero_le l) (by omega), nI_le (b := 50000) h (by omega)⟩
theorem lx_absD {x : Int32} (h : 0 ≤ x) : x = ftAbs x := (if_pos h).symm
theorem lx_absN {x : Int32} (h : ¬ 0 ≤ x) : -x = ftAbs x := (Int32.zero_sub x).symm.trans (if_neg h).symm
end LXKW
