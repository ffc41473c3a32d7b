/-! an object: its row w, the rows z of its history (hn of them), its text tx of tn signs; k bounds its keeps -/
def lxO (k : Nat) (c : ftCdT) (w z : Nat → Int32) (hn : Nat) (tx : Nat → Int32) (tn : Nat) : Prop := ftR2 k c w z ∧ c.1.1 3 = hn ∧ c.2.2.1.2.1 = tx ∧ c.2.2.1.1 = tn
/-- an object that keeps nothing and undoes nothing -/
def lxQ (c : ftCdT) (w : Nat → Int32) (tx : Nat → Int32) (tn : Nat) : Prop := (ftWf w ∧ ftLR w (c.1.2.1 0) (c.1.2.1 1) (c.1.2.1 2) (c.1.1 0) (c.1.2.2.1 0) (c.1.2.2.1 1) (c.1.2.2.1 2) (c.1.2.2.1 3) ∧ (∀ j, j < 11 → c.1.2.2.1 4 j = w (44 + j)) ∧ ftMi w (c.1.2.1 3) c.2.1 ∧ c.1.1 2 < 5 ∧ c.1.1 3 ≤ 5 ∧ c.2.2.1.1 ≤ 120 ∧ c.1.1 1 = 0) ∧ c.2.2.1.2.1 = tx ∧ c.2.2.1.1 = tn
theorem ft_post {l : Launch} {y : MethodName} {cw : List Cond} {rm : Room} {D : va_G} {Pc : Array Value → State → Prop} {B : va_W} {sz : Nat} {S : Type} {post post' : Int32 → S → Prop} {X1 : S → va_W} {free : Addr → Prop} (h : Met l y cw rm Pc (ftXi D B sz post X1) 0 0 free) (hp : ∀ r u, post r u → post' r u) : Met l y cw rm Pc (ftXi D B sz post' X1) 0 0 free := by
  refine ft_weak h (fun _ _ q => q) (fun a s o t _ q => ?_) (fun _ q => q)
  obtain ⟨⟨r, u, ho, hp9, hP, hD⟩, hF⟩ := q
  exact ⟨⟨r, u, ho, hp r u hp9, hP, hD⟩, hF⟩
theorem lx_R2k {k : Nat} {c : ftCdT} {w z : Nat → Int32} (h : ftR2 (k + 1) c w z) (hk : c.1.1 1 ≤ k) : ftR2 k c w z := ⟨h.1, h.2.1, hk, h.2.2.2⟩
def ftJ9 : ftRD := (fun _ => 0, fun _ _ => 0)
theorem lxQ_row {c : ftCdT} {w v : Nat → Int32} {tx : Nat → Int32} {tn : Nat} (h : lxQ c w tx tn) (hf : c.1.2.1 3 = 0) (hv : ftWf v) (e : ∀ t, t < 4 + 4 * ftCN w → v t = w t) (es : ∀ j, j < 11 → v (44 + j) = w (44 + j)) : lxQ c v tx tn := by
  obtain ⟨⟨h1, h2, h3, h4, h5⟩, h6⟩ := h
  refine ⟨⟨hv, ?_, fun j hj => (h3 j hj).trans (es j hj).symm, ⟨Or.inl hf, fun q => absurd hf q, h4.2.2⟩, h5⟩, h6⟩
  have hn := ftLR_n h2
  obtain ⟨g0, g1, g2, g3, g4, g5⟩ := h2
  refine ⟨(e 0 (by omega)).trans g0, (e 1 (by omega)).trans g1, (e 2 (by omega)).trans g2, (e 3 (by omega)).trans g3, g4, fun k hk => ?_⟩
  obtain ⟨q0, q1, q2, q3⟩ := g5 k hk
  exact ⟨(e _ (by omega)).trans q0, (e _ (by omega)).trans q1, (e _ (by omega)).trans q2, (e _ (by omega)).trans q3⟩
/-- another text -/
def lxTxt (c : ftCdT) (tx : Nat → Int32) (tn : Nat) : ftCdT := (c.1, c.2.1, (tn, tx, c.2.2.1.2.2), c.2.2.2)
theorem lxO_txt {k : Nat} {c : ftCdT} {w z : Nat → Int32} {hn : Nat} {tx ty : Nat → Int32} {tn tm : Nat} (h : lxO k c w z hn tx tn) (ht : tm ≤ 120) : lxO k (lxTxt c ty tm) w z hn ty tm := by
  obtain ⟨hR, h1, -, -⟩ := h
  exact ⟨⟨hR.1, hR.2.1, hR.2.2.1, hR.2.2.2.1, hR.2.2.2.2.1, ht, hR.2.2.2.2.2.2⟩, h1, rfl, rfl⟩
theorem lxQ_txt {c : ftCdT} {w : Nat → Int32} {tx ty : Nat → Int32} {tn tm : Nat} (h : lxQ c w tx tn) (ht : tm ≤ 120) : lxQ (lxTxt c ty tm) w ty tm := by
  obtain ⟨⟨h1, h2, h3, h4, h9, h10, h12, hk0⟩, -, -⟩ := h
  exact ⟨⟨h1, h2, h3, h4, h9, h10, ht, hk0⟩, rfl, rfl⟩
theorem lxO_Q {k : Nat} {c : ftCdT} {w z : Nat → Int32} {hn : Nat} {tx : Nat → Int32} {tn : Nat} (h : lxO k c w z hn tx tn) : ftWf w := h.1.1.1
theorem lxCnt_15 {w : Nat → Int32} {v : Int32} {hm tn a b : Nat} {x : Int32} (hj : ∃ j, 11 ≤ j ∧ j ≤ 15 ∧ x = nI j) : ftCntA (upd w 55 v) hm tn x = ftCntA w a b x := by
  obtain ⟨j, j1, j2, rfl⟩ := hj
  have hc : (0 : Int32) ≤ nI j ∧ nI j ≤ 18 := ⟨nI_le (a := 0) (Nat.zero_le j) (by omega), nI_le (b := 18) (by omega) (by omega)⟩
  unfold ftCntA
  rw [ftIte_t hc, ftIte_t hc, nI_clamp (by omega)]
  unfold ftCntK
  rw [if_neg (show ¬ j ≤ 10 by omega), if_neg (show ¬ j ≤ 10 by omega)]
  by_cases q : j < 15
  · rw [if_pos q, if_pos q, ftUpd_ne (by omega)]
  · have q15 : j = 15 := by omega
    rw [if_neg q, if_neg q, if_pos q15, if_pos q15]
    unfold ftCL
    rw [ftUpd_ne (by omega)]
