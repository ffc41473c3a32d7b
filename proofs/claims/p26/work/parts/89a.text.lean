/-! a text that the law types: numbers, words, items -/
def lxD (n d i : Nat) : Nat := n / 10 ^ (d - 1 - i) % 10
theorem lxD_lt (n d i : Nat) : lxD n d i < 10 := Nat.mod_lt _ (by omega)
theorem lxD_s {n d k : Nat} (hk : k < d) : n / 10 ^ (d - (k + 1)) = 10 * (n / 10 ^ (d - k)) + lxD n d k := by
  have e : d - k = (d - (k + 1)) + 1 := by omega
  have e2 : d - 1 - k = d - (k + 1) := by omega
  unfold lxD
  rw [e2, e, Nat.pow_succ, ← Nat.div_div_eq_div_mul]
  exact (Nat.div_add_mod _ 10).symm
/-- at p a number: a space, a sign where s is 2, d digits of n -/
def lxN (tx : Nat → Int32) (p s d n : Nat) : Prop := tx p = 32 ∧ (s = 1 ∨ (s = 2 ∧ tx (p + 1) = 45)) ∧ 1 ≤ d ∧ d ≤ 5 ∧ n < 10 ^ d ∧ ∀ i, i < d → tx (p + s + i) = nI (48 + lxD n d i)
def lxV (s n : Nat) : Int32 := if s = 2 then (-1) * nI n else 1 * nI n
theorem lx_dg {tx : Nat → Int32} {q d n : Nat} (hn : n < 10 ^ d) (h : ∀ i, i < d → tx (q + i) = nI (48 + lxD n d i)) : ∀ k, k ≤ d → ftDg tx q k = nI (n / 10 ^ (d - k)) := by
  intro k
  induction k with
  | zero => intro _; rw [Nat.sub_zero, Nat.div_eq_of_lt hn]; exact nI_0.symm
  | succ k ih =>
    intro hk
    have hlt := lxD_lt n d k
    show 10 * ftDg tx q k + tx (q + k) - 48 = _
    rw [ih (by omega), h k (by omega), lxD_s (show k < d by omega)]
    show nI 10 * nI _ + nI _ - nI 48 = _
    rw [ft_mulN, ft_addN, ft_subN (by omega)]
    congr 1
    omega
theorem lx_dig {tx : Nat → Int32} {x : Nat} (hx : x < 10) {q : Nat} (h : tx q = nI (48 + x)) : 48 ≤ tx q ∧ tx q ≤ 57 := by
  rw [h]
  exact ⟨nI_le (a := 48) (by omega) (by omega), nI_le (b := 57) (by omega) (by omega)⟩
theorem lx_nd {tx : Nat → Int32} {tn q d n : Nat} (hd : d ≤ 5) (ht : q + d ≤ tn) (h : ∀ i, i < d → tx (q + i) = nI (48 + lxD n d i)) (hs : q + d < tn → tx (q + d) = 32 ∨ tx (q + d) = 59) : ftNd tx tn q = d := by
  refine ftIni_of hd (fun t ht9 => ⟨by omega, lx_dig (lxD_lt n d t) (h t ht9)⟩) (fun _ q9 => ?_)
  obtain ⟨h1, h2, h3⟩ := q9
  rcases hs h1 with e | e
  · rw [e] at h2; exact absurd h2 (by decide)
  · rw [e] at h3; exact absurd h3 (by decide)
theorem lx_num {tx : Nat → Int32} {tn p s d n : Nat} (h : lxN tx p s d n) (ht : p + s + d ≤ tn) (hs : p + s + d < tn → tx (p + s + d) = 32 ∨ tx (p + s + d) = 59) : ftNok tx tn p ∧ ftNv tx tn p = lxV s n ∧ ftNe tx tn p = p + s + d := by
  obtain ⟨h1, h2, h3, h4, h5, h6⟩ := h
  have hsp : ftSp tx tn p := ⟨by omega, h1⟩
  have hnd := lx_nd h4 ht h6 hs
  have hdg := lx_dg h5 h6 d (Nat.le_refl d)
  rw [Nat.sub_self, Nat.pow_zero, Nat.div_one] at hdg
  rcases h2 with e | ⟨e, e2⟩
  · subst e
    have hng : ¬ ftNg tx tn p := by
      intro q
      have e9 := h6 0 (by omega)
      have l9 := (lx_dig (lxD_lt n d 0) e9).1
      rw [show p + 1 + 0 = p + 1 from rfl, q.2] at l9
      exact absurd l9 (by decide)
    have hq := ftNq_f hng
    refine ⟨⟨hsp, by rw [hq, hnd]; omega⟩, ?_, ?_⟩
    · rw [ftNv_f hng, hq, hnd, hdg]; rfl
    · rw [ftNe_t hsp, hq, hnd]
  · subst e
    have hng : ftNg tx tn p := ⟨by omega, e2⟩
    have hq := ftNq_t hng
    refine ⟨⟨hsp, by rw [hq, hnd]; omega⟩, ?_, ?_⟩
    · rw [ftNv_t hng, hq, hnd, hdg]; rfl
    · rw [ftNe_t hsp, hq, hnd]
theorem lxN_mono {tx ty : Nat → Int32} {p s d n : Nat} (h : lxN tx p s d n) (e : ∀ t, t < p + s + d → ty t = tx t) : lxN ty p s d n := by
  obtain ⟨h1, h2, h3, h4, h5, h6⟩ := h
  refine ⟨by rw [e _ (by omega)]; exact h1, ?_, h3, h4, h5, fun i hi => by rw [e _ (by omega)]; exact h6 i hi⟩
  rcases h2 with q | ⟨q, q2⟩
  · exact Or.inl q
  · exact Or.inr ⟨q, by rw [e _ (by omega)]; exact q2⟩
theorem lxWs_pos (j : Nat) : 0 < ftWs j := by unfold ftWs; (repeat' split) <;> omega
/-- at p the word j -/
def lxW (tx : Nat → Int32) (p j : Nat) : Prop := ∀ t, t < ftWs j → tx (p + t) = ftLt (nI (100 * j + t))
theorem lxW_mono {tx ty : Nat → Int32} {p j : Nat} (h : lxW tx p j) (e : ∀ t, t < p + ftWs j → ty t = tx t) : lxW ty p j := fun t ht => by rw [e _ (by omega)]; exact h t ht
theorem lx_word {tx : Nat → Int32} {tn p j : Nat} (h : lxW tx p j) (ht : p + ftWs j ≤ tn) (hs : p + ftWs j < tn → tx (p + ftWs j) = 32) : ftCW9 tx tn p j := by
  refine ⟨fun t ht9 => by rw [ftC_in (by omega)]; exact h t ht9, fun q => ?_⟩
  rcases Nat.lt_or_ge (p + ftWs j) tn with r | r
  · rw [ftC_in r, hs r] at q
    rcases q with q | q
    · exact absurd q.1 (by decide)
    · exact absurd q.1 (by decide)
  · rw [ftC_out r] at q
    rcases q with q | q
    · exact absurd q.1 (by decide)
    · exact absurd q.1 (by decide)
/-- where the numbers of an item begin -/
def lxP (p : Nat) (s d : Nat → Nat) : Nat → Nat
  | 0 => p
  | i + 1 => lxP p s d i + s i + d i
theorem lxP_le (p : Nat) (s d : Nat → Nat) {i k : Nat} (h : i ≤ k) : lxP p s d i ≤ lxP p s d k := by
  induction k with
  | zero => rw [Nat.le_zero.mp h]; exact Nat.le_refl _
  | succ k ih =>
    rcases Nat.lt_or_ge k i with q | q
    · rw [show i = k + 1 by omega]; exact Nat.le_refl _
    · have := ih q
      show lxP p s d i ≤ lxP p s d k + s k + d k
      omega
/-- at p the word j, behind it K numbers -/
def lxI (tx : Nat → Int32) (p j K : Nat) (s d n : Nat → Nat) : Prop := lxW tx p j ∧ ∀ i, i < K → lxN tx (lxP (p + ftWs j) s d i) (s i) (d i) (n i)
theorem lxI_mono {tx ty : Nat → Int32} {p j K : Nat} {s d n : Nat → Nat} (h : lxI tx p j K s d n) (e : ∀ t, t < lxP (p + ftWs j) s d K → ty t = tx t) : lxI ty p j K s d n :=
  ⟨lxW_mono h.1 (fun t ht => e t (Nat.lt_of_lt_of_le ht (lxP_le (p + ftWs j) s d (i := 0) (Nat.zero_le K)))), fun i hi => lxN_mono (h.2 i hi) (fun t ht => e t (Nat.lt_of_lt_of_le ht (lxP_le (p + ftWs j) s d (i := i + 1) hi)))⟩
/-- what the reader finds of it -/
theorem lx_item {tx : Nat → Int32} {tn p j K : Nat} {s d n : Nat → Nat} (h : lxI tx p j K s d n) (ht : lxP (p + ftWs j) s d K ≤ tn) (hs : lxP (p + ftWs j) s d K < tn → tx (lxP (p + ftWs j) s d K) = 59) : (0 < K ∨ p + ftWs j = tn → ftCW9 tx tn p j) ∧ (∀ i, i ≤ K → ftNP tx tn (p + ftWs j) i = lxP (p + ftWs j) s d i) ∧ ∀ i, i < K → ftNok tx tn (lxP (p + ftWs j) s d i) ∧ ftNv tx tn (lxP (p + ftWs j) s d i) = lxV (s i) (n i) := by
  have hn : ∀ i, i < K → ftNok tx tn (lxP (p + ftWs j) s d i) ∧ ftNv tx tn (lxP (p + ftWs j) s d i) = lxV (s i) (n i) ∧ ftNe tx tn (lxP (p + ftWs j) s d i) = lxP (p + ftWs j) s d i + s i + d i := by
    intro i hi
    have hle := lxP_le (p + ftWs j) s d (i := i + 1) (k := K) hi
    refine lx_num (h.2 i hi) (Nat.le_trans hle ht) (fun q => ?_)
    rcases Nat.lt_or_ge (i + 1) K with r | r
    · exact Or.inl (h.2 (i + 1) r).1
    · have e : i + 1 = K := by omega
      have h9 := hs (by rw [← e]; exact q)
      rw [← e] at h9
      exact Or.inr h9
  refine ⟨fun hK => ?_, fun i => ?_, fun i hi => ⟨(hn i hi).1, (hn i hi).2.1⟩⟩
  · have h0 := lxP_le (p + ftWs j) s d (i := 0) (Nat.zero_le K)
    refine lx_word h.1 (Nat.le_trans h0 ht) (fun q => ?_)
    rcases hK with r | r
    · exact (h.2 0 r).1
    · omega
  · induction i with
    | zero => intro _; rfl
    | succ i ih =>
      intro hi
      show ftNe tx tn (ftNP tx tn (p + ftWs j) i) = lxP (p + ftWs j) s d i + s i + d i
      rw [ih (by omega)]
      exact (hn i (by omega)).2.2
/-- the link's row behind an item -/
noncomputable def lxM (j : Nat) (s n : Nat → Nat) (m : Nat → Int32) : Nat → Int32 := if nI j < 3 then upd m j (lxV (s 0) (n 0)) else ftAdd m (m 3).toNatClampNeg (nI j - 3) (lxV (s 0) (n 0)) (lxV (s 1) (n 1)) (if nI j = 4 then lxV (s 2) (n 2) else 0)
def lxRg (j : Nat) (s n : Nat → Nat) (m : Nat → Int32) (h : Nat) : Prop := (∀ i, i < ftNs (nI j) → ftRt (nI j) i (lxV (s i) (n i)) (m 0)) ∧ ftAl (nI j) m h (lxV (s 0) (n 0))
theorem lx_ok {tx : Nat → Int32} {tn p j h : Nat} {s d n : Nat → Nat} {m : Nat → Int32} (hj : j < 6) (hI : lxI tx p j (ftNs (nI j)) s d n) (hc : tx (lxP (p + ftWs j) s d (ftNs (nI j))) = 59) (ht : lxP (p + ftWs j) s d (ftNs (nI j)) < tn) (hr : lxRg j s n m h) : ftItOk tx tn m h p ∧ ftItP tx tn p = lxP (p + ftWs j) s d (ftNs (nI j)) + 1 ∧ ftItM tx tn m p = lxM j s n m ∧ ftItH tx tn h p = h ||| 2 ^ j := by
  have hN := ftNs_ge (nI j)
  obtain ⟨h1, h2, h3⟩ := lx_item hI (Nat.le_of_lt ht) (fun _ => hc)
  obtain ⟨hrun, hIw, hpl⟩ := ftCW_run hj (h1 (Or.inl (by omega)))
  refine ⟨(ftItC_ok hj hrun hIw).mpr ⟨fun i hi => ?_, fun i hi => ?_, ?_, ?_⟩, ?_, ?_, ftItH_j hj hIw⟩
  · rw [h2 i (by omega)]; exact (h3 i hi).1
  · rw [h2 i (by omega), (h3 i hi).2]; exact hr.1 i hi
  · rw [h2 0 (by omega), (h3 0 (by omega)).2]; exact hr.2
  · rw [h2 _ (Nat.le_refl _), ftC_in ht]; exact hc
  · rw [ftItP_j hrun hIw, h2 _ (Nat.le_refl _)]
  · have e := ftItM_j (tx := tx) (tn := tn) (m := m) (nf := fun i => lxV (s i) (n i)) hj hrun hIw rfl (by rw [h2 0 (by omega)]; exact (h3 0 (by omega)).2.symm) (fun r => by rw [h2 1 (by have := ftNs_2 r; omega)]; exact (h3 1 (ftNs_2 r)).2.symm) (fun r => by rw [h2 2 (by rw [ftNs_3 r]; omega)]; exact (h3 2 (by rw [ftNs_3 r]; omega)).2.symm)
    rw [← e]
    rfl
/-- K items of a text are read, whatever follows: where the reading stands -/
def lxG (tx : Nat → Int32) (K p h : Nat) (m : Nat → Int32) : Prop := ∀ (ty : Nat → Int32) (tn : Nat), (∀ t, t < p → ty t = tx t) → p ≤ tn → ftRc ty tn K ∧ ftSt9 ty tn K = (p, h, m)
theorem lxG_0 (tx : Nat → Int32) : lxG tx 0 0 0 (ftMd0 (fun _ => 0)) := fun _ _ _ _ => ⟨fun _ h => absurd h (Nat.not_lt_zero _), rfl⟩
theorem lxG_mono {tx ty : Nat → Int32} {K p h : Nat} {m : Nat → Int32} (q : lxG tx K p h m) (e : ∀ t, t < p → ty t = tx t) : lxG ty K p h m := fun tz tn e2 ht => q tz tn (fun t h9 => (e2 t h9).trans (e t h9)) ht
theorem lxG_s {tx : Nat → Int32} {K p h j : Nat} {m : Nat → Int32} {s d n : Nat → Nat} (q : lxG tx K p h m) (hj : j < 6) (hI : lxI tx p j (ftNs (nI j)) s d n) (hc : tx (lxP (p + ftWs j) s d (ftNs (nI j))) = 59) (hr : lxRg j s n m h) : lxG tx (K + 1) (lxP (p + ftWs j) s d (ftNs (nI j)) + 1) (h ||| 2 ^ j) (lxM j s n m) := by
  intro ty tn e ht
  have hle := lxP_le (p + ftWs j) s d (i := 0) (k := ftNs (nI j)) (Nat.zero_le _)
  have hle : p + ftWs j ≤ lxP (p + ftWs j) s d (ftNs (nI j)) := hle
  obtain ⟨q1, q2⟩ := q ty tn (fun t h9 => e t (by omega)) (by omega)
  have hI2 := lxI_mono hI (fun t h9 => e t (Nat.lt_succ_of_lt h9))
  have hc2 : ty (lxP (p + ftWs j) s d (ftNs (nI j))) = 59 := (e _ (Nat.lt_succ_self _)).trans hc
  obtain ⟨k1, k2, k3, k4⟩ := lx_ok (tn := tn) hj hI2 hc2 (by omega) hr
  constructor
  · intro i hi
    rcases Nat.lt_or_ge i K with r | r
    · exact q1 i r
    · have e9 : i = K := by omega
      subst e9
      rw [q2]
      exact ⟨by show p < tn; omega, k1⟩
  · show (ftItP ty tn (ftSt9 ty tn K).1, ftItH ty tn (ftSt9 ty tn K).2.1 (ftSt9 ty tn K).1, ftItM ty tn (ftSt9 ty tn K).2.2 (ftSt9 ty tn K).1) = _
    rw [q2]
    show (ftItP ty tn p, ftItH ty tn h p, ftItM ty tn m p) = _
    rw [k2, k3, k4]
theorem lx_par {tx : Nat → Int32} {tn K : Nat} (h : ftRc tx tn K) : ftCPar tx tn = ftPar tx tn (tn - (ftSt9 tx tn K).1 + 1) (ftSt9 tx tn K).1 (ftSt9 tx tn K).2.1 (ftSt9 tx tn K).2.2 := by
  induction K with
  | zero => rfl
  | succ K ih =>
    rw [ih (fun i hi => h i (by omega)), ftPar_t (h K (by omega)).1 (h K (by omega)).2]
    rfl
/-- the whole text is read -/
theorem lxG_all {tx : Nat → Int32} {K p h : Nat} {m : Nat → Int32} (q : lxG tx K p h m) : ftCPar tx p = some m := by
  obtain ⟨q1, q2⟩ := q tx p (fun _ _ => rfl) (Nat.le_refl p)
  rw [lx_par q1, q2]
  exact ftPar_e (fun r => Nat.lt_irrefl _ r)
