/-! faults of a text that the law types -/
theorem lx_fault {tx : Nat → Int32} {tn K p h : Nat} {m : Nat → Int32} {R N : Int32} (q : lxG tx K p h m) (ht : p < tn) (hk : ¬ ftItOk tx tn m h p) (hf : ∀ rs pl nu, ftFk tx tn m h p rs pl nu → rs = R ∧ nu = N) : ftCPar tx tn = none ∧ ∀ rs pl nu, ftFx tx tn rs pl nu → rs = R ∧ pl = nI p ∧ nu = N := by
  obtain ⟨q1, q2⟩ := q tx tn (fun _ _ => rfl) (Nat.le_of_lt ht)
  constructor
  · rw [lx_par q1, q2]
    exact ftPar_f ht hk
  · rintro rs pl nu ⟨L, h1, h2, h3, h4⟩
    have e : L = K := by
      rcases Nat.lt_trichotomy L K with r | r | r
      · exact absurd (q1 L r).2 h3
      · exact r
      · have h9 := (h1 K r).2
        rw [q2] at h9
        exact absurd h9 hk
    subst e
    rw [q2] at h4
    obtain ⟨e1, e2⟩ := hf rs pl nu h4
    exact ⟨e1, h4.1, e2⟩
section LXFL
variable {tx : Nat → Int32} {tn K p h j : Nat} {m : Nat → Int32} {s d n : Nat → Nat}
/-- a part at a place that is taken -/
theorem lx_fl4 (q : lxG tx K p h m) (hj : j < 6) (hI : lxI tx p j (ftNs (nI j)) s d n) (hc : tx (lxP (p + ftWs j) s d (ftNs (nI j))) = 59) (ht : lxP (p + ftWs j) s d (ftNs (nI j)) < tn) (hr : ∀ i, i < ftNs (nI j) → ftRt (nI j) i (lxV (s i) (n i)) (m 0)) (hal : ¬ ftAl (nI j) m h (lxV (s 0) (n 0))) : ftCPar tx tn = none ∧ ∀ rs pl nu, ftFx tx tn rs pl nu → rs = 4 ∧ pl = nI p ∧ nu = nI (ftNs (nI j)) := by
  have hN := ftNs_ge (nI j)
  obtain ⟨h1, h2, h3⟩ := lx_item hI (Nat.le_of_lt ht) (fun _ => hc)
  have hcw := h1 (Or.inl (by omega))
  obtain ⟨hrun, hIw, hpl⟩ := ftCW_run hj hcw
  have hle : p + ftWs j ≤ lxP (p + ftWs j) s d (ftNs (nI j)) := lxP_le (p + ftWs j) s d (i := 0) (Nat.zero_le _)
  have hw := lxWs_pos j
  refine lx_fault q (by omega) (fun r => ?_) (fun rs pl nu r => ?_)
  · have r2 := ((ftItC_ok hj hrun hIw).mp r).2.2.1
    rw [h2 0 (by omega), (h3 0 (by omega)).2] at r2
    exact hal r2
  · refine ((r.2 j hj hcw).2 (fun i hi => by rw [h2 i (by omega)]; exact (h3 i hi).1)).2 (fun i hi => ?_) (fun r2 => ?_)
    · rw [h2 i (by omega), (h3 i hi).2]; exact hr i hi
    · rw [h2 0 (by omega), (h3 0 (by omega)).2] at r2
      exact hal r2
/-- the text ends where a number is missing -/
theorem lx_fl2 (q : lxG tx K p h m) (hj : j < 6) {M : Nat} (hM : M < ftNs (nI j)) (hI : lxI tx p j M s d n) (ht : lxP (p + ftWs j) s d M = tn) : ftCPar tx tn = none ∧ ∀ rs pl nu, ftFx tx tn rs pl nu → rs = 2 ∧ pl = nI p ∧ nu = nI (M + 1) := by
  obtain ⟨h1, h2, h3⟩ := lx_item hI (Nat.le_of_eq ht) (fun r => absurd r (by rw [ht]; exact Nat.lt_irrefl _))
  have hcw : ftCW9 tx tn p j := h1 (by
    rcases Nat.eq_zero_or_pos M with r | r
    · subst r; exact Or.inr ht
    · exact Or.inl r)
  obtain ⟨hrun, hIw, hpl⟩ := ftCW_run hj hcw
  have hle : p + ftWs j ≤ lxP (p + ftWs j) s d M := lxP_le (p + ftWs j) s d (i := 0) (Nat.zero_le _)
  have hw := lxWs_pos j
  have hno : ¬ ftNok tx tn (ftNP tx tn (p + ftWs j) M) := by
    rw [h2 M (Nat.le_refl M), ht]
    exact fun r => absurd r.1.1 (Nat.lt_irrefl _)
  refine lx_fault q (by omega) (fun r => ?_) (fun rs pl nu r => ?_)
  · exact hno (((ftItC_ok hj hrun hIw).mp r).1 M hM)
  · exact (r.2 j hj hcw).1 M hM (fun i hi => by rw [h2 i (by omega)]; exact (h3 i hi).1) hno
/-- the first number is out of its range -/
theorem lx_fl3 (q : lxG tx K p h m) (hj : j < 6) (hI : lxI tx p j (ftNs (nI j)) s d n) (ht : lxP (p + ftWs j) s d (ftNs (nI j)) = tn) (hr : ¬ ftRt (nI j) 0 (lxV (s 0) (n 0)) (m 0)) : ftCPar tx tn = none ∧ ∀ rs pl nu, ftFx tx tn rs pl nu → rs = 3 ∧ pl = nI p ∧ nu = nI 1 := by
  have hN := ftNs_ge (nI j)
  obtain ⟨h1, h2, h3⟩ := lx_item hI (Nat.le_of_eq ht) (fun r => absurd r (by rw [ht]; exact Nat.lt_irrefl _))
  have hcw := h1 (Or.inl (by omega))
  obtain ⟨hrun, hIw, hpl⟩ := ftCW_run hj hcw
  have hle : p + ftWs j ≤ lxP (p + ftWs j) s d (ftNs (nI j)) := lxP_le (p + ftWs j) s d (i := 0) (Nat.zero_le _)
  have hw := lxWs_pos j
  refine lx_fault q (by omega) (fun r => ?_) (fun rs pl nu r => ?_)
  · have r2 := ((ftItC_ok hj hrun hIw).mp r).2.1 0 (by omega)
    rw [h2 0 (by omega), (h3 0 (by omega)).2] at r2
    exact hr r2
  · refine ((r.2 j hj hcw).2 (fun i hi => by rw [h2 i (by omega)]; exact (h3 i hi).1)).1 0 (by omega) (fun i hi => absurd hi (Nat.not_lt_zero i)) (fun r2 => ?_)
    rw [h2 0 (by omega), (h3 0 (by omega)).2] at r2
    exact hr r2
end LXFL
/-- what fault(1) answers -/
def lxFr (tx : Nat → Int32) (tn : Nat) (x : Int32) : Prop := (¬ ftCPar tx tn = none ∧ x = -1000004) ∨ (ftCPar tx tn = none ∧ ∀ rs pl nu, ftFx tx tn rs pl nu → rs = x)
