/-! the objects' answers: what the law needs of them -/
theorem lxCnt_k {w : Nat → Int32} {a b : Nat} {x : Int32} {k : Nat} (hk : k ≤ 18) (hx : x = nI k) : ftCntA w a b x = ftCntK w a b k := by
  subst hx
  unfold ftCntA
  rw [ftIte_t ⟨nI_le (a := 0) (Nat.zero_le k) (by omega), nI_le (b := 18) (by omega) (by omega)⟩, nI_clamp (by omega)]
theorem lxCnt_11 {w : Nat → Int32} {a b : Nat} (h : ftWf w) : ftCntA w a b 11 = nI (ftCL w) := (lxCnt_k (k := 11) (by omega) rfl).trans (ftWf_0 h)
theorem lxCnt_14 {w : Nat → Int32} {a b : Nat} (h : ftWf w) : ftCntA w a b 14 = nI (ftCN w) := (lxCnt_k (k := 14) (by omega) rfl).trans (ftWf_3 h)
theorem lxCnt_15a {w : Nat → Int32} {a b : Nat} : ftCntA w a b 15 = nI (ftCL w + 60) := lxCnt_k (k := 15) (by omega) rfl
theorem lxCnt_16 {w : Nat → Int32} {a b : Nat} (h : ftWf w) : ftCntA w a b 16 = nI (ftCK w) := (lxCnt_k (k := 16) (by omega) rfl).trans (ftWf_55 h)
theorem lxCnt_18 {w : Nat → Int32} {a b : Nat} : ftCntA w a b 18 = nI b := lxCnt_k (k := 18) (by omega) rfl
theorem lxCnt_3 {w : Nat → Int32} {a b : Nat} : ftCntA w a b 3 = w (44 + 3) := lxCnt_k (k := 3) (by omega) rfl
theorem lx_inc11 (i : Nat) : nI i + Int32.ofInt 11 = nI (i + 11) := ft_addN i 11
theorem lxQ_W {c : ftCdT} {w : Nat → Int32} {tx : Nat → Int32} {tn : Nat} (h : lxQ c w tx tn) : ftWf w := h.1.1
theorem lxO_W {k : Nat} {c : ftCdT} {w z : Nat → Int32} {hn : Nat} {tx : Nat → Int32} {tn : Nat} (h : lxO k c w z hn tx tn) : ftWf w := h.1.1.1
theorem lxO_5 {k : Nat} {c : ftCdT} {w z : Nat → Int32} {hn : Nat} {tx : Nat → Int32} {tn : Nat} (h : lxO k c w z hn tx tn) : hn ≤ 5 := by
  obtain ⟨h1, h2, -⟩ := h
  rw [← h2]; exact h1.2.2.2.2.1
theorem lxO_t {k : Nat} {c : ftCdT} {w z : Nat → Int32} {hn : Nat} {tx : Nat → Int32} {tn : Nat} (h : lxO k c w z hn tx tn) : tn ≤ 120 := by
  obtain ⟨h1, -, -, h4⟩ := h
  rw [← h4]; exact h1.2.2.2.2.2.1
theorem lxO_self {k : Nat} {c : ftCdT} {w z : Nat → Int32} {hn : Nat} {tx : Nat → Int32} {tn : Nat} (h : lxO k c w z hn tx tn) : c = lxTxt c tx tn := by
  obtain ⟨-, -, h3, h4⟩ := h
  subst h3
  subst h4
  rfl
theorem lxQ_self {c : ftCdT} {w : Nat → Int32} {tx : Nat → Int32} {tn : Nat} (h : lxQ c w tx tn) : c = lxTxt c tx tn := by
  obtain ⟨-, h3, h4⟩ := h
  subst h3
  subst h4
  rfl
theorem lxQ_t {c : ftCdT} {w : Nat → Int32} {tx : Nat → Int32} {tn : Nat} (h : lxQ c w tx tn) : tn ≤ 120 := by
  obtain ⟨h1, -, h4⟩ := h
  rw [← h4]; exact h1.2.2.2.2.2.2.1
theorem lx_dg9 (n d i : Nat) : 32 ≤ nI (48 + lxD n d i) ∧ nI (48 + lxD n d i) ≤ 126 := by
  have := lxD_lt n d i
  exact ⟨nI_le (a := 32) (by omega) (by omega), nI_le (b := 126) (by omega) (by omega)⟩
