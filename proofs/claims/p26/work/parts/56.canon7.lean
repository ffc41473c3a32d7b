/-! questions about events -/
theorem ft_negP (v : Int32) (h : 0 ≤ v) (h2 : 0 ≤ -v) : v = -v := by
  rw [Int32.le_iff_toInt_le] at h h2
  apply Int32.toInt_inj.mp
  rw [Int32.toInt_neg] at h2 ⊢
  have a := v.toInt_lt
  have b := v.le_toInt
  have c : (0 : Int32).toInt = 0 := rfl
  rw [c] at h h2
  unfold Int.bmod at h2 ⊢
  simp only [] at h2 ⊢
  split at h2 <;> split <;> omega
theorem ft_negN (v : Int32) (h : ¬ 0 ≤ v) (h2 : ¬ 0 ≤ -v) : v = -v := by
  rw [Int32.le_iff_toInt_le] at h h2
  apply Int32.toInt_inj.mp
  rw [Int32.toInt_neg] at h2 ⊢
  have a := v.toInt_lt
  have b := v.le_toInt
  have c : (0 : Int32).toInt = 0 := rfl
  rw [c] at h h2
  unfold Int.bmod at h2 ⊢
  simp only [] at h2 ⊢
  split at h2 <;> split <;> omega
theorem ftAbs_neg (v : Int32) : ftAbs (-v) = ftAbs v := by
  unfold ftAbs
  rw [Int32.zero_sub, Int32.zero_sub, Int32.neg_neg]
  by_cases h : 0 ≤ v
  · rw [if_pos h]
    by_cases h2 : 0 ≤ -v
    · rw [if_pos h2]; exact (ft_negP v h h2).symm
    · rw [if_neg h2]
  · rw [if_neg h]
    by_cases h2 : 0 ≤ -v
    · rw [if_pos h2]
    · rw [if_neg h2]; exact ft_negN v h h2
theorem ftAbs_sub (a b : Int32) : ftAbs (a - b) = ftAbs (b - a) := by rw [← Int32.neg_sub, ftAbs_neg]
theorem ft_7 {x : Int32} (h : 0 ≤ x ∧ x ≤ 7) (h0 : ¬ x = 0) (h1 : ¬ x = 1) (h2 : ¬ x = 2) (h3 : ¬ x = 3) (h4 : ¬ x = 4) (h5 : ¬ x = 5) (h6 : ¬ x = 6) : x = 7 := by
  obtain ⟨e2, e1⟩ := ft_btw2 (K := 7) (by omega) h.1 h.2
  generalize x.toNatClampNeg = k at e1 e2
  match k, e1, e2 with
  | 0, e1, _ => exact absurd e1 h0
  | 1, e1, _ => exact absurd e1 h1
  | 2, e1, _ => exact absurd e1 h2
  | 3, e1, _ => exact absurd e1 h3
  | 4, e1, _ => exact absurd e1 h4
  | 5, e1, _ => exact absurd e1 h5
  | 6, e1, _ => exact absurd e1 h6
  | 7, e1, _ => exact e1
  | k + 8, _, e2 => exact absurd e2 (by omega)
theorem ftTs_by {E : ftRs} {x : Int32} {f : Nat → Int32} {g : Nat → Int32} (h0 : f 0 = 0) (hs : ∀ m, f (m + 1) = f m + g m) : ∀ m, (∀ t, t < m → g t = ftT1 E x t) → f m = ftTs E x m := by
  intro m
  induction m with
  | zero => intro _; exact h0
  | succ m ih => intro h; rw [hs, ftTs, ih (fun t ht => h t (by omega)), h m (by omega)]
section FTEV7
variable {w : Nat → Int32} {k : Nat} {ro : Nat → Nat → Int32}
theorem ftTot_0 (h : ftEv6 w k ro) : ftSum (ro 2) k = ftToK w (ftCE w) 0 := by
  unfold ftToK
  rw [if_pos (by decide), ← h.1]
  exact ftTs_by (g := ro 2) rfl (fun _ => rfl) k (fun t ht => by rw [h.2.2 t ht 2 (by omega)]; rfl)
theorem ftTot_1 (h : ftEv6 w k ro) : ftSum (ro 5) k = ftToK w (ftCE w) 1 := by
  unfold ftToK
  rw [if_pos (by decide), ← h.1]
  exact ftTs_by (g := ro 5) rfl (fun _ => rfl) k (fun t ht => by rw [h.2.2 t ht 5 (by omega)]; rfl)
theorem ftTot_2 (h : ftEv6 w k ro) : ftLossG ro k = ftToK w (ftCE w) 2 := by
  unfold ftToK
  rw [if_pos (by decide), ← h.1]
  exact ftTs_by (f := ftLossG ro) (g := fun i => if ro 4 i = 2 then ro 2 i else 0) rfl (fun _ => rfl) k (fun t ht => by
    show (if ro 4 t = 2 then ro 2 t else 0) = _
    rw [h.2.2 t ht 2 (by omega), h.2.2 t ht 4 (by omega)]; rfl)
theorem ftTot_c (h : ftEv6 w k ro) {x kd : Int32} (h3 : 3 ≤ x ∧ x ≤ 5) (h6 : x < 6) (h0 : ¬ x = 0) (h1 : ¬ x = 1) (h2 : ¬ x = 2) (hk : x - 3 = kd) : ftCount (fun i => ro 4 i = kd) k = ftToK w (ftCE w) x := by
  unfold ftToK
  rw [if_pos h6, ← h.1]
  exact ftTs_by (f := ftCount (fun i => ro 4 i = kd)) (g := fun i => ftB (ro 4 i = kd)) rfl (fun _ => rfl) k (fun t ht => by
    show ftB (ro 4 t = kd) = ftT1 (ftCE w) x t
    rw [h.2.2 t ht 4 (by omega), ftT1, if_neg h0, if_neg h1, if_neg h2, hk]
    by_cases c : (ftCE w).2.2 4 t = kd
    · rw [ftB_t c, ftIte_t ⟨h3, c⟩]
    · rw [ftB_f c, ftIte_f (fun q => c q.2)])
theorem ftTot_6 : (if (ftCE w).1 = 0 then 0 else ftCV w 0 - ftCV w ((ftCE w).2.2 1 ((ftCE w).1 - 1)).toNatClampNeg) = ftToK w (ftCE w) 6 := by
  rw [ftToK, if_neg (show ¬ (6 : Int32) < 6 by decide), if_neg (show ¬ (6 : Int32) = 7 by decide)]
theorem ftTot_7 (h : ftEv6 w k ro) : ftCount (fun i => ro 4 i = 3) k = ftToK w (ftCE w) 7 := by
  rw [ftToK, if_neg (show ¬ (7 : Int32) < 6 by decide), if_pos rfl, ← (ftKv_ce w).2, ← h.1]
  exact ftCount_cong k (fun t ht => by rw [h.2.2 t ht 4 (by omega)])
theorem ftFinder_w (h : ftEv6 w k ro) {tl : Int32} (ht : tl = w (44 + 9)) (x : Int32) : ftFinder ro k tl x = ftCNe w x := by
  unfold ftFinder ftCNe ftNearM
  rw [← h.1, ht]
  exact ftFst_cong k (fun t ht => by rw [h.2.2 t ht 0 (by omega), h.2.2 t ht 4 (by omega)])
theorem ft_nn {v : Int32} (h : v = -1 ∨ ∃ t, t < 2 ^ 31 ∧ v = nI t) : 0 ≤ v ↔ ¬ v = -1 := by
  rcases h with q | ⟨t, ht, q⟩
  · subst q; decide
  · subst q
    exact ⟨fun _ => ft_nIm1 ht, fun _ => Int32.not_lt.mp (nI_pos ht)⟩
theorem ftCNe_v (hk : (ftCE w).1 < 2 ^ 31) (x : Int32) : ftCNe w x = -1 ∨ ∃ t, t < 2 ^ 31 ∧ ftCNe w x = nI t := ftFst_v _ hk
theorem ftCOn_v (hk : (ftCE w).1 < 2 ^ 31) (x : Int32) : ftCOn w x = -1 ∨ ∃ t, t < 2 ^ 31 ∧ ftCOn w x = nI t := ftFst_v _ hk
theorem ftCSt_v (w : Nat → Int32) (i : Nat) : ftCSt w i = if w (4 + 4 * i + 0) = 2 then 2 else if 0 ≤ ftCNe w (w (4 + 4 * i + 1)) then 0 else if 0 ≤ ftCOn w (w (4 + 4 * i + 1)) then 1 else 2 := rfl
theorem ftFinding_w (h : ftEv6 w k ro) {tl : Int32} (ht : tl = w (44 + 9)) {i : Nat} {pf kf : Int32} (hp : w (4 + 4 * i + 1) = pf) (hkf : w (4 + 4 * i + 0) = kf) : ftFinding ro k tl pf kf = ftCSt w i := by
  have h30 := h.2.1
  have hE := h.1
  rw [ftCSt_v, ftFinding, ftFinder_w h ht, ftCov_w h, hp, hkf]
  by_cases c : kf = 2
  · rw [if_pos c, if_pos c]
  · rw [if_neg c, if_neg c]
    by_cases a : ftCNe w pf = -1
    · rw [if_pos a, if_neg (fun q => (ft_nn (ftCNe_v (by omega) pf)).mp q a)]
      by_cases b : ftCOn w pf = -1
      · rw [if_pos b, if_neg (fun q => (ft_nn (ftCOn_v (by omega) pf)).mp q b)]
      · rw [if_neg b, if_pos ((ft_nn (ftCOn_v (by omega) pf)).mpr b)]
    · rw [if_neg a, if_pos ((ft_nn (ftCNe_v (by omega) pf)).mpr a)]
theorem ftWit_w (h : ftEv6 w k ro) {tl : Int32} (ht : tl = w (44 + 9)) {i : Nat} {pf kf : Int32} (hp : w (4 + 4 * i + 1) = pf) (hkf : w (4 + 4 * i + 0) = kf) : (if ftWitness ro k tl pf kf = -1 then -1000004 else ftWitness ro k tl pf kf) = if ftCSt w i = 0 then ftCNe w pf else if ftCSt w i = 1 then ftCOn w pf else -1000004 := by
  have h30 := h.2.1
  have hE := h.1
  have hF := ftFinding_w h ht hp hkf
  rw [ftWitness, hF, ftFinder_w h ht, ftCov_w h]
  by_cases a : ftCSt w i = 0
  · have hn : ¬ ftCNe w pf = -1 := by
      intro q
      rw [ftCSt_v, hp, hkf] at a
      by_cases c : kf = 2
      · rw [if_pos c] at a; exact absurd a (by decide)
      · rw [if_neg c, if_neg (fun r => (ft_nn (ftCNe_v (by omega) pf)).mp r q)] at a
        split at a
        · exact absurd a (by decide)
        · exact absurd a (by decide)
    rw [if_pos a, if_neg hn, if_pos a]
  · rw [if_neg a, if_neg a]
    by_cases b : ftCSt w i = 1
    · have hn : ¬ ftCOn w pf = -1 := by
        intro q
        rw [ftCSt_v, hp, hkf] at b
        by_cases c : kf = 2
        · rw [if_pos c] at b; exact absurd b (by decide)
        · rw [if_neg c] at b
          split at b
          · exact absurd b (by decide)
          · rw [if_neg (fun r => (ft_nn (ftCOn_v (by omega) pf)).mp r q)] at b
            exact absurd b (by decide)
      rw [if_pos b, if_neg hn, if_pos b]
    · rw [if_neg b, if_neg b, if_pos rfl]
theorem ftFindings_w (h : ftEv6 w k ro) {tl : Int32} (ht : tl = w (44 + 9)) {n : Nat} {kf pf lf rf : Nat → Int32} (hf : ftLf w) (hL : ftLRk w n kf pf lf rf) (hn : ftCN w = n) (ho : Int32) : ftFindings ro k tl kf pf ho n = ftCSs w ho := by
  unfold ftFindings ftCSs ftStandsM
  rw [hn]
  refine ftCount_cong n (fun i hi => ?_)
  have e := ftFinding_w h ht (hL i hi).2.1 (hL i hi).1
  unfold ftCSt at e
  rw [e, ← (hL i hi).1, ftKd_lt hf (by omega)]
theorem ftStrange_w (h : ftEv6 w k ro) {tl : Int32} (ht : tl = w (44 + 9)) {n : Nat} {kf pf lf rf : Nat → Int32} (hL : ftLRk w n kf pf lf rf) (hn : ftCN w = n) : ftStrange ro k tl kf pf n = ftCSg w (ftCE w).1 := by
  unfold ftStrange ftCSg
  rw [← h.1]
  refine ftCount_cong k (fun t htk => ?_)
  rw [h.2.2 t htk 0 (by omega), h.2.2 t htk 4 (by omega)]
  unfold ftStrM
  have hk := (ftKv_ce w).1 t (by rw [← h.1]; exact htk)
  have hlt : ((ftCE w).2.2 4 t = 0 ∨ (ftCE w).2.2 4 t = 1) ↔ (ftCE w).2.2 4 t < 2 := by
    rcases hk with q | q | q | q <;> (rw [q]; decide)
  rw [hlt, hn]
  refine and_congr_right (fun _ => ?_)
  unfold ftNearJ ftNear
  constructor
  · intro q i hi
    rcases Classical.em (w (4 + 4 * i + 0) = 2) with r | r
    · exact Or.inl r
    · refine Or.inr (Int32.not_le.mp (fun z => q ⟨i, hi, ?_, ?_⟩))
      · rw [← (hL i hi).1]; exact r
      · rw [ht, ← (hL i hi).2.1, ftAbs_sub, ← ftSz_abs]; exact z
  · rintro q ⟨i, hi, r1, r2⟩
    rcases q i hi with z | z
    · exact r1 ((hL i hi).1.symm.trans z)
    · rw [ht, ← (hL i hi).2.1, ftAbs_sub, ← ftSz_abs] at r2
      exact absurd r2 (Int32.not_le.mpr z)
end FTEV7
