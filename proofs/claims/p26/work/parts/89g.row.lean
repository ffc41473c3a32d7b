/-! rows behind changes -/
theorem lx_un {w z w1 : Nat → Int32} {hn : Nat} (hh : hn ≤ 5) (e : ∀ t, 1439 ≤ t → w1 t = w t) : ftFill (fun t => ftPush w z hn ((min (hn + 1) 5 - 1) * 1439 + t)) w1 1439 = w := by
  funext t
  unfold ftFill
  by_cases c : t < 1439
  · rw [if_pos c]
    by_cases q : hn = 5
    · subst q; exact ftPush5_new c
    · have e9 : min (hn + 1) 5 - 1 = hn := by omega
      rw [e9]; exact ftPush_new q c
  · rw [if_neg c]; exact e t (by omega)
theorem lxO_row {k : Nat} {c : ftCdT} {v w z : Nat → Int32} {hn : Nat} {tx : Nat → Int32} {tn : Nat} (h : lxO k c v z hn tx tn) (hf : c.1.2.1 3 = 0) (hw : ftWf w) (e : ∀ t, t < 4 + 4 * ftCN v → w t = v t) (e2 : ∀ t, 44 ≤ t → w t = v t) : lxO k c w z hn tx tn := by
  obtain ⟨⟨⟨h1, h2, h3, h4, h5⟩, h6, h7⟩, h8⟩ := h
  have hn9 := ftLR_n h2
  obtain ⟨g0, g1, g2, g3, g4, g5⟩ := h2
  refine ⟨⟨⟨hw, ⟨(e 0 (by omega)).trans g0, (e 1 (by omega)).trans g1, (e 2 (by omega)).trans g2, (e 3 (by omega)).trans g3, g4, fun q hq => ?_⟩, fun j hj => (h3 j hj).trans (e2 _ (by omega)).symm, (e2 55 (by omega)).trans h4, fun i hi => ?_⟩, ⟨Or.inl hf, fun q => absurd hf q, h6.2.2⟩, h7⟩, h8⟩
  · obtain ⟨q0, q1, q2, q3⟩ := g5 q hq
    exact ⟨(e _ (by omega)).trans q0, (e _ (by omega)).trans q1, (e _ (by omega)).trans q2, (e _ (by omega)).trans q3⟩
  · obtain ⟨q1, q2, q3⟩ := h5 i hi
    rw [e2 (59 + 460 * i + 0) (by omega), e2 (56 + i) (by omega)]
    exact ⟨q1, q2, fun x hx => (q3 x hx).trans (e2 _ (by omega)).symm⟩
section LXDEL
variable {w : Nat → Int32} {n : Nat} {kd x lo re : Int32}
theorem lx_del (hw3 : w 3 = nI n) (hn : n < 10) : (∀ t, t < 4 + 4 * n → ftDel (ftAdd w n kd x lo re) (ftPosW w x n) t = w t) ∧ ∀ t, 44 ≤ t → ftDel (ftAdd w n kd x lo re) (ftPosW w x n) t = w t := by
  have hc : ftCN (ftAdd w n kd x lo re) = n + 1 := ftAdd_cn hn
  have hp := ftPosW_le w x n
  constructor
  · intro t ht
    rcases Nat.lt_or_ge t 4 with q | q
    · rcases Nat.lt_or_ge t 3 with r | r
      · rw [ftDel_lo hc r]; exact ftAdd_l r
      · have e : t = 3 := by omega
        subst e
        rw [ftDel_3 hc, hw3]; rfl
    · obtain ⟨a, i, hi, rfl⟩ : ∃ a i, i < 4 ∧ t = 4 + 4 * a + i := ⟨(t - 4) / 4, (t - 4) % 4, Nat.mod_lt _ (by omega), by omega⟩
      rw [ftDel_part hc hi (by omega)]
      by_cases r : ftPosW w x n ≤ a
      · rw [if_pos r, ftAdd_hi hi (by omega) (by omega)]; rfl
      · rw [if_neg r, ftAdd_lo hi (by omega)]
  · intro t ht
    rw [ftDel_hi hc (by omega) ht]
    exact ftAdd_tl hn ht
end LXDEL
/-- rows that agree below 55 make the same samples -/
theorem lxCV_eq {w v : Nat → Int32} (h : ∀ t, t < 55 → v t = w t) (hw : ftWf w) (x : Nat) : ftCV v x = ftCV w x := by
  unfold ftCV
  rw [lxCB_eq (fun t ht => h t (by omega)) (ftWf_n hw), lxCQ_eq (fun t ht => h t (by omega)) (ftWf_n hw)]
  have e : ftCZ v x = ftCZ w x := by
    unfold ftCZ ftCP
    rw [h (44 + 3) (by omega), h (44 + 4) (by omega), h (44 + 5) (by omega)]
  rw [e]
theorem lx_cmA {w : Nat → Int32} {K : Nat} {li : Int32} {j : Nat} (h55 : w 55 = nI (K + 1)) (hK : K < 3) (hl : 0 ≤ li ∧ li ≤ 50000) (hj : j < 4) : ftCmA w (nI K) li (nI j) = ftCmK w K li (nI j) := by
  have e : (0 ≤ nI K ∧ nI K ≤ w 55 - 1) ∧ (0 ≤ li ∧ li ≤ 50000) ∧ 0 ≤ nI j ∧ nI j ≤ 3 := by
    refine ⟨⟨nI_le (a := 0) (Nat.zero_le K) (by omega), ?_⟩, hl, nI_le (a := 0) (Nat.zero_le j) (by omega), nI_le (b := 3) (by omega) (by omega)⟩
    rw [h55, show nI (K + 1) - 1 = nI (K + 1 - 1) from ft_subN (b := 1) (by omega)]
    exact nI_le (by omega) (by omega)
  unfold ftCmA
  rw [ftIte_t e, nI_clamp (by omega)]
