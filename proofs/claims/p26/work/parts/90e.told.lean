/-! what isTold types -/
section LXIT
variable {tx t1 t2 t3 : Nat → Int32} {p j s1 d1 n1 s2 d2 n2 s3 d3 n3 : Nat}
def lxZ : Nat → Nat := fun _ => 0
theorem lx_it0 : lxI (lxTy (lxWf j) tx p (ftWs j)) p j 0 lxZ lxZ lxZ ∧ lxP (p + ftWs j) lxZ lxZ 0 = p + ftWs j := ⟨lxI_w tx p j lxZ lxZ lxZ, rfl⟩
theorem lx_it1 (hN1 : lxN t1 (p + ftWs j) s1 d1 n1) (ha1 : ∀ t, t < p + ftWs j → t1 t = lxTy (lxWf j) tx p (ftWs j) t) : ∃ s d n : Nat → Nat, lxI t1 p j 1 s d n ∧ lxP (p + ftWs j) s d 1 = p + ftWs j + s1 + d1 ∧ lxV (s 0) (n 0) = lxV s1 n1 := by
  obtain ⟨h0, e0⟩ := lx_it0 (tx := tx) (p := p) (j := j)
  obtain ⟨h1, e1⟩ := lxI_s h0 e0 hN1 ha1
  exact ⟨_, _, _, h1, e1, rfl⟩
theorem lx_it2 (hN1 : lxN t1 (p + ftWs j) s1 d1 n1) (ha1 : ∀ t, t < p + ftWs j → t1 t = lxTy (lxWf j) tx p (ftWs j) t) (hN2 : lxN t2 (p + ftWs j + s1 + d1) s2 d2 n2) (ha2 : ∀ t, t < p + ftWs j + s1 + d1 → t2 t = t1 t) : ∃ s d n : Nat → Nat, lxI t2 p j 2 s d n ∧ lxP (p + ftWs j) s d 2 = p + ftWs j + s1 + d1 + s2 + d2 ∧ lxV (s 0) (n 0) = lxV s1 n1 ∧ lxV (s 1) (n 1) = lxV s2 n2 := by
  obtain ⟨h0, e0⟩ := lx_it0 (tx := tx) (p := p) (j := j)
  obtain ⟨h1, e1⟩ := lxI_s h0 e0 hN1 ha1
  obtain ⟨h2, e2⟩ := lxI_s h1 e1 hN2 ha2
  exact ⟨_, _, _, h2, e2, rfl, rfl⟩
theorem lx_it3 (hN1 : lxN t1 (p + ftWs j) s1 d1 n1) (ha1 : ∀ t, t < p + ftWs j → t1 t = lxTy (lxWf j) tx p (ftWs j) t) (hN2 : lxN t2 (p + ftWs j + s1 + d1) s2 d2 n2) (ha2 : ∀ t, t < p + ftWs j + s1 + d1 → t2 t = t1 t) (hN3 : lxN t3 (p + ftWs j + s1 + d1 + s2 + d2) s3 d3 n3) (ha3 : ∀ t, t < p + ftWs j + s1 + d1 + s2 + d2 → t3 t = t2 t) : ∃ s d n : Nat → Nat, lxI t3 p j 3 s d n ∧ lxP (p + ftWs j) s d 3 = p + ftWs j + s1 + d1 + s2 + d2 + s3 + d3 ∧ lxV (s 0) (n 0) = lxV s1 n1 ∧ lxV (s 1) (n 1) = lxV s2 n2 ∧ lxV (s 2) (n 2) = lxV s3 n3 := by
  obtain ⟨h0, e0⟩ := lx_it0 (tx := tx) (p := p) (j := j)
  obtain ⟨h1, e1⟩ := lxI_s h0 e0 hN1 ha1
  obtain ⟨h2, e2⟩ := lxI_s h1 e1 hN2 ha2
  obtain ⟨h3, e3⟩ := lxI_s h2 e2 hN3 ha3
  exact ⟨_, _, _, h3, e3, rfl, rfl, rfl⟩
/-- the sign that ends an item -/
theorem lx_end {tx : Nat → Int32} {K q : Nat} {s d n : Nat → Nat} (h : lxI tx p j K s d n) (e : lxP (p + ftWs j) s d K = q) : lxI (upd tx q 59) p j K s d n ∧ upd tx q 59 (lxP (p + ftWs j) s d K) = 59 :=
  ⟨lxI_mono h (fun t ht => ftUpd_ne (by omega)), by rw [e]; exact ftUpd_at0⟩
/-- an item that sets a number of the link -/
theorem lx_base {K h : Nat} {m : Nat → Int32} {d n : Nat} (q : lxG tx K p h m) (hj : j < 3) (hN : lxN t1 (p + ftWs j) 1 d n) (ha : ∀ t, t < p + ftWs j → t1 t = lxTy (lxWf j) tx p (ftWs j) t) (hr : ftRt (nI j) 0 (nI n) (m 0)) (hal : ftAl (nI j) m h (nI n)) : lxG (upd t1 (p + ftWs j + 1 + d) 59) (K + 1) (p + ftWs j + 1 + d + 1) (h ||| 2 ^ j) (upd m j (nI n)) := by
  obtain ⟨S, D, N, h1, e1, v1⟩ := lx_it1 hN ha
  obtain ⟨h2, c2⟩ := lx_end h1 e1
  rw [lxV_1] at v1
  have h3 : nI j < 3 := (nI_ltI (b := 3) (by omega) (by omega)).mpr hj
  have hns : ftNs (nI j) = 1 := ftNs_1 h3
  have hlo : ∀ t, t < p → upd t1 (p + ftWs j + 1 + d) 59 t = tx t := fun t ht => by
    rw [ftUpd_ne (by omega), ha t (by omega)]
    exact lxTy_lo ht
  have g := lxG_s (j := j) (s := S) (d := D) (n := N) (lxG_mono q hlo) (by omega) (by rw [hns]; exact h2) (by rw [hns]; exact c2) (by
    refine ⟨fun i hi => ?_, by rw [v1]; exact hal⟩
    rw [hns] at hi
    have e : i = 0 := by omega
    subst e
    rw [v1]
    exact hr)
  rw [hns, e1] at g
  have em : lxM j S N m = upd m j (nI n) := by
    unfold lxM
    rw [if_pos h3, v1]
  rw [em] at g
  exact g
end LXIT
theorem lx_ex1 {P : Nat → Prop} {n : Nat} (h : ∃ i, i < n ∧ P i) : ∃ i, i < n + 1 ∧ P i := by
  obtain ⟨i, h1, h2⟩ := h
  exact ⟨i, by omega, h2⟩
theorem lx_ex2 {P : Nat → Prop} {n : Nat} (h : P n) : ∃ i, i < n + 1 ∧ P i := ⟨n, Nat.lt_succ_self n, h⟩
theorem lx_ex3 {P : Nat → Prop} {n : Nat} (h : ¬ ∃ i, i < n ∧ P i) (h2 : ¬ P n) : ¬ ∃ i, i < n + 1 ∧ P i := by
  rintro ⟨i, h3, h4⟩
  rcases Nat.lt_succ_iff_lt_or_eq.mp h3 with r | r
  · exact h ⟨i, r, h4⟩
  · subst r; exact h2 h4
theorem lx_ns3 {k : Nat} (h : k = 1) : nI (ftNs (nI (3 + k))) = 3 := by subst h; rfl
theorem lx_ns2 {k : Nat} (hk : k < 3) (h : k ≠ 1) : nI (ftNs (nI (3 + k))) = 2 := by
  have : k = 0 ∨ k = 2 := by omega
  rcases this with r | r <;> subst r <;> rfl
/-- fault's answer, the fault known -/
def lxFA (tx : Nat → Int32) (tn : Nat) (p0 r : Int32) : Prop := (¬ (0 ≤ p0 ∧ p0 ≤ 2) → r = -1000001) ∧ ((0 ≤ p0 ∧ p0 ≤ 2) → ¬ ftCPar tx tn = none → r = -1000004) ∧ ((0 ≤ p0 ∧ p0 ≤ 2) → ftCPar tx tn = none → ∃ rs pl nu, ftFx tx tn rs pl nu ∧ r = if p0 = 0 then pl else if p0 = 1 then rs else nu)
theorem lx_fa0 {tx : Nat → Int32} {tn : Nat} {r R P N : Int32} (h : lxFA tx tn 0 r) (f : ftCPar tx tn = none ∧ ∀ rs pl nu, ftFx tx tn rs pl nu → rs = R ∧ pl = P ∧ nu = N) : r = P := by
  obtain ⟨rs, pl, nu, hx, e⟩ := h.2.2 ⟨by decide, by decide⟩ f.1
  rw [if_pos rfl] at e
  exact e.trans (f.2 rs pl nu hx).2.1
theorem lx_fa1 {tx : Nat → Int32} {tn : Nat} {r R P N : Int32} (h : lxFA tx tn 1 r) (f : ftCPar tx tn = none ∧ ∀ rs pl nu, ftFx tx tn rs pl nu → rs = R ∧ pl = P ∧ nu = N) : r = R := by
  obtain ⟨rs, pl, nu, hx, e⟩ := h.2.2 ⟨by decide, by decide⟩ f.1
  rw [if_neg (by decide), if_pos rfl] at e
  exact e.trans (f.2 rs pl nu hx).1
theorem lx_fa2 {tx : Nat → Int32} {tn : Nat} {r R P N : Int32} (h : lxFA tx tn 2 r) (f : ftCPar tx tn = none ∧ ∀ rs pl nu, ftFx tx tn rs pl nu → rs = R ∧ pl = P ∧ nu = N) : r = N := by
  obtain ⟨rs, pl, nu, hx, e⟩ := h.2.2 ⟨by decide, by decide⟩ f.1
  rw [if_neg (by decide), if_neg (by decide)] at e
  exact e.trans (f.2 rs pl nu hx).2.2
theorem lx_faO {tx : Nat → Int32} {tn : Nat} {x r : Int32} {m : Nat → Int32} (h : lxFA tx tn x r) (hx : 0 ≤ x ∧ x ≤ 2) (f : ftCPar tx tn = some m) : r = -1000004 := h.2.1 hx (by rw [f]; exact fun q => by cases q)
theorem lx_faX {tx : Nat → Int32} {tn : Nat} {r x : Int32} (h : lxFA tx tn 1 r) (f : lxFr tx tn x) : r = x := by
  rcases f with ⟨f1, f2⟩ | ⟨f1, f2⟩
  · rw [f2]; exact h.2.1 ⟨by decide, by decide⟩ f1
  · obtain ⟨rs, pl, nu, hx, e⟩ := h.2.2 ⟨by decide, by decide⟩ f1
    rw [if_neg (by decide), if_pos rfl] at e
    rw [e]
    exact f2 rs pl nu hx
theorem lxFr_O {tx : Nat → Int32} {tn : Nat} {m : Nat → Int32} (f : ftCPar tx tn = some m) : lxFr tx tn (-1000004) := Or.inl ⟨(by rw [f]; exact (fun q => by cases q)), rfl⟩
theorem lxFr_F {tx : Nat → Int32} {tn : Nat} {R P N : Int32} (f : ftCPar tx tn = none ∧ ∀ rs pl nu, ftFx tx tn rs pl nu → rs = R ∧ pl = P ∧ nu = N) : lxFr tx tn R := Or.inr ⟨f.1, fun rs pl nu h => (f.2 rs pl nu h).1⟩
/-- a loss, as it is typed -/
theorem lx_loss {a : Nat} (h : a ≤ 5500) : ∃ s n, nI a - 500 = lxV s n ∧ (s = 1 ∨ s = 2 ∧ 0 < n) ∧ n < 100000 ∧ -500 ≤ nI a - 500 ∧ nI a - 500 ≤ 5000 := by
  rcases Nat.lt_or_ge a 500 with q | q
  · have e : nI a - 500 = -nI (500 - a) := by
      rw [← ft_subN (a := 500) (b := a) (by omega), Int32.neg_sub]
      rfl
    refine ⟨2, 500 - a, by rw [e, lxV_2], Or.inr ⟨rfl, by omega⟩, by omega, ?_, ?_⟩
    · rw [Int32.le_iff_toInt_le, Int32.toInt_sub, nI_toInt (by omega), show (500 : Int32).toInt = 500 by decide, show (-500 : Int32).toInt = -500 by decide, Int.bmod_def]
      split <;> omega
    · rw [Int32.le_iff_toInt_le, Int32.toInt_sub, nI_toInt (by omega), show (500 : Int32).toInt = 500 by decide, show (5000 : Int32).toInt = 5000 by decide, Int.bmod_def]
      split <;> omega
  · have e : nI a - 500 = nI (a - 500) := ft_subN (b := 500) q
    rw [e]
    exact ⟨1, a - 500, (lxV_1 _).symm, Or.inl rfl, by omega, Int32.le_trans (b := 0) (by decide) (nI_le (a := 0) (Nat.zero_le _) (by omega)), nI_le (b := 5000) (by omega) (by omega)⟩
/-- a part that the law makes -/
theorem lx_fitT {m : Nat → Int32} {kd pl LN : Nat} {lo fl : Int32} (hm : m 0 = nI LN) (hL : 50 ≤ LN ∧ LN ≤ 400) (hk : kd < 3) (h1 : 1 ≤ pl) (h2 : pl ≤ 49) (hl : (kd = 0 ∧ -500 ≤ lo ∧ lo ≤ 5000) ∨ (kd = 1 ∧ 0 ≤ lo ∧ lo ≤ 5000) ∨ (kd = 2 ∧ 0 ≤ lo ∧ lo ≤ 50)) (hf : (kd = 1 ∧ 1 ≤ fl ∧ fl ≤ 20000) ∨ (kd ≠ 1 ∧ fl = 0)) : lxFit m (nI kd) (nI pl) lo fl := by
  refine ⟨⟨⟨nI_le (a := 0) (Nat.zero_le _) (by omega), nI_le (b := 2) (by omega) (by omega)⟩, ⟨nI_le (a := 1) h1 (by omega), ?_⟩, ?_⟩, ?_⟩
  · rw [hm, show nI LN - 1 = nI (LN - 1) from ft_subN (b := 1) (by omega)]
    exact nI_le (by omega) (by omega)
  · rcases hf with ⟨q, q2⟩ | ⟨q, q2⟩
    · subst q; exact Or.inl ⟨rfl, q2⟩
    · exact Or.inr ⟨fun r => q (ft_eqN (b := 1) (by omega) (by omega) r), q2⟩
  · rcases hl with ⟨q, q2⟩ | ⟨q, q2⟩ | ⟨q, q2⟩ <;> subst q <;> exact q2
theorem lxG_lf {tx : Nat → Int32} {K p h : Nat} {m : Nat → Int32} (q : lxG tx K p h m) : ftLf m := by
  have e := lxG_all q
  have r := ftCPm_lf (tx := tx) (tn := p) (by rw [e]; exact fun q => by cases q)
  rw [ftCPm_of e] at r
  exact r
theorem lx_stepG {tx : Nat → Int32} {K p h k no2 : Nat} {m M9 : Nat → Int32} {s d n : Nat → Nat} (q : lxG tx K p h m) (hk : k < 3) (hI : lxI tx p (3 + k) (ftNs (nI (3 + k))) s d n) (hE : lxP (p + ftWs (3 + k)) s d (ftNs (nI (3 + k))) + 1 = no2) (hc : tx (lxP (p + ftWs (3 + k)) s d (ftNs (nI (3 + k)))) = 59) (hr : lxRg (3 + k) s n m h) (em : lxM (3 + k) s n m = M9) : lxG tx (K + 1) no2 (h ||| 2 ^ (3 + k)) M9 := by
  have g := lxG_s q (by omega) hI hc hr
  rw [hE, em] at g
  exact g
theorem lx_pls {tf tf2 : Nat → Int32} {kk : Nat} {P : Int32 → Prop} {y x : Int32} (h : ∀ x, (∃ i, i < kk ∧ tf (4 * i + 1) = x) ↔ P x) (h1 : tf2 (4 * kk + 1) = y) (h2 : ∀ i, i < kk → tf2 (4 * i + 1) = tf (4 * i + 1)) : (∃ i, i < kk + 1 ∧ tf2 (4 * i + 1) = x) ↔ x = y ∨ P x := by
  constructor
  · rintro ⟨i, hi, hx⟩
    rcases Nat.lt_succ_iff_lt_or_eq.mp hi with r | r
    · rw [h2 i r] at hx
      exact Or.inr ((h x).mp ⟨i, r, hx⟩)
    · subst r
      exact Or.inl (hx.symm.trans h1)
  · rintro (r | r)
    · exact ⟨kk, Nat.lt_succ_self kk, h1.trans r.symm⟩
    · obtain ⟨i, hi, hx⟩ := (h x).mpr r
      exact ⟨i, by omega, (h2 i hi).trans hx⟩
theorem lx_nrt {m : Nat → Int32} {LN : Nat} (hm : m 0 = nI LN) (hL : 50 ≤ LN ∧ LN ≤ 400) : ¬ ftRt (nI 3) 0 (nI LN) (m 0) := by
  intro q
  have q2 : 1 ≤ nI LN ∧ nI LN ≤ m 0 - 1 := q
  have q3 := q2.2
  rw [hm, show nI LN - 1 = nI (LN - 1) from ft_subN (b := 1) (by omega)] at q3
  have := (nI_leI (by omega) (by omega)).mp q3
  omega
theorem lx_rt0 {LN : Nat} {v : Int32} (h : 50 ≤ LN ∧ LN ≤ 400) : ftRt (nI 0) 0 (nI LN) v := by
  unfold ftRt
  rw [if_pos (by decide)]
  exact ⟨nI_le (a := 50) h.1 (by omega), nI_le (b := 400) h.2 (by omega)⟩
theorem lx_rt2 {E : Nat} {v : Int32} (h : E ≤ 20000) : ftRt (nI 2) 0 (nI E) v := by
  unfold ftRt
  rw [if_neg (by decide), if_neg (by decide), if_pos (by decide)]
  exact ⟨nI_le (a := 0) (Nat.zero_le _) (by omega), nI_le (b := 20000) h (by omega)⟩
theorem lx_al0 {v : Int32} : ftAl (nI 0) (ftMd0 (fun _ => 0)) 0 v := ⟨fun _ => ⟨by decide, by decide⟩, fun q => absurd (by decide) q⟩
theorem lx_al2 {u v : Int32} : ftAl (nI 2) (upd (ftMd0 (fun _ => 0)) 0 u) (0 ||| 2 ^ 0) v := ⟨fun _ => ⟨by decide, by rw [ftUpd_ne (by omega)]; decide⟩, fun q => absurd (by decide) q⟩
