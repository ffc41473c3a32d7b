/-! the least width -/
theorem ft_cpy0 {f g : Nat → Int32} {n t : Nat} (h : t < n) : va_cpy f g 0 0 n t = f t := by
  unfold va_cpy
  rw [if_pos ⟨Nat.zero_le t, by omega⟩, Nat.zero_add, Nat.sub_zero]
theorem ftCount_v (P : Nat → Prop) : ∀ k, ∃ c, c ≤ k ∧ ftCount P k = nI c := by
  intro k
  induction k with
  | zero => exact ⟨0, Nat.le_refl 0, rfl⟩
  | succ k ih =>
    obtain ⟨c, h1, h2⟩ := ih
    rcases Classical.em (P k) with q | q
    · exact ⟨c + 1, by omega, by rw [ftCount, h2, ftB_t q]; exact ft_addN c 1⟩
    · exact ⟨c, by omega, by rw [ftCount, h2, ftB_f q, Int32.add_zero]⟩
theorem ftWq_w {w : Nat → Int32} {j k n : Nat} {ro : Nat → Nat → Int32} {tl : Int32} {kf pf lf rf : Nat → Int32} (h : ftEv6 (upd w 44 (nI j)) k ro) (ht : tl = upd w 44 (nI j) (44 + 9)) (hf : ftLf (upd w 44 (nI j))) (hL : ftLRk (upd w 44 (nI j)) n kf pf lf rf) (hn : ftCN (upd w 44 (nI j)) = n) (hn10 : n ≤ 10) : (ftFindings ro k tl kf pf 1 n = 0 ∧ ftFindings ro k tl kf pf 2 n = 0) ↔ ftWq w j := by
  rw [ftFindings_w h ht hf hL hn, ftFindings_w h ht hf hL hn]
  unfold ftWq
  obtain ⟨a, a1, a2⟩ : ∃ a, a ≤ n ∧ ftCSs (upd w 44 (nI j)) 1 = nI a := by
    have q := ftCount_v (fun k => (upd w 44 (nI j)) (4 + 4 * k + 0) < 2 ∧ ftCSt (upd w 44 (nI j)) k = 1) (ftCN (upd w 44 (nI j)))
    rw [hn] at q
    obtain ⟨a, a1, a2⟩ := q
    exact ⟨a, a1, by rw [← a2, ← hn]; rfl⟩
  obtain ⟨b, b1, b2⟩ : ∃ b, b ≤ n ∧ ftCSs (upd w 44 (nI j)) 2 = nI b := by
    have q := ftCount_v (fun k => (upd w 44 (nI j)) (4 + 4 * k + 0) < 2 ∧ ftCSt (upd w 44 (nI j)) k = 2) (ftCN (upd w 44 (nI j)))
    rw [hn] at q
    obtain ⟨b, b1, b2⟩ := q
    exact ⟨b, b1, by rw [← b2, ← hn]; rfl⟩
  rw [a2, b2, ft_addN]
  constructor
  · rintro ⟨q1, q2⟩
    have h1 := ft_eq0N (by omega) q1
    have h2 := ft_eq0N (by omega) q2
    subst h1 h2; rfl
  · intro q
    have h1 := ft_eq0N (by omega) q
    obtain rfl : a = 0 := by omega
    obtain rfl : b = 0 := by omega
    exact ⟨rfl, rfl⟩
theorem ftLR_u {w : Nat → Int32} {len att en : Int32} {n : Nat} {kf pf lf rf : Nat → Int32} {v : Int32} {s : Nat} (hs : 44 ≤ s) (h : ftLR w len att en n kf pf lf rf) : ftLR (upd w s v) len att en n kf pf lf rf := by
  obtain ⟨a1, a2, a3, a4, a5, a6⟩ := h
  refine ⟨by rw [ftUpd_ne (by omega)]; exact a1, by rw [ftUpd_ne (by omega)]; exact a2, by rw [ftUpd_ne (by omega)]; exact a3, by rw [ftUpd_ne (by omega)]; exact a4, a5, fun k hk => ?_⟩
  rw [ftUpd_ne (by omega), ftUpd_ne (by omega), ftUpd_ne (by omega), ftUpd_ne (by omega)]
  exact a6 k hk

