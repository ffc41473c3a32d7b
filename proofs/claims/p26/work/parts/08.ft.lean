/-! own rows: the facts that every contract carries, calls in one row -/
def ftNest : List Cond := [.methodLinkNest RX10 25 yX5_init RX10, .methodLinkNest RX10 32 yX3_init RX10, .methodLinkNest RX10 39 yX0_init RX10, .methodLinkNest RX10 46 yX6_init RX10, .methodLinkNest RX10 53 yX1_init RX10, .methodLinkNest RX10 60 yX9_init RX10, .methodLinkNest RX10 67 yX7_init RX10, .methodLinkNest RX5 32 yX10_put RX10, .methodLinkNest RX5 93 yX10_at RX10, .methodLinkNest RX5 115 yX10_isWithin RX10, .methodLinkNest RX4 46 yX10_isWithin RX10, .methodLinkNest RX4 50 yX10_at RX10, .methodLinkNest RX4 54 yX10_insertInto RX10, .methodLinkNest RX1 38 yX10_at RX10, .methodLinkNest RX1 67 yX10_put RX10, .methodLinkNest RX1 75 yX10_insertInto RX10, .methodLinkNest RX9 33 yX10_at RX10, .methodLinkNest RX4 70 yX10_quotient RX10, .methodLinkNest RX9 53 yX10_put RX10, .methodLinkNest RX6 9 yX10_at RX10, .methodLinkNest RX6 23 yX10_quotient RX10, .methodLinkNest RX7 40 yX10_at RX10, .methodLinkNest RX7 55 yX10_put RX10, .methodLinkNest RX7 81 yX10_isWithin RX10, .methodLinkNest RX3 35 yX10_at RX10, .methodLinkNest RX0 45 yX10_at RX10, .methodLinkNest RX3 30 yX10_put RX10, .methodLinkNest RX4 58 yX10_removeFrom RX10]
def ftK (D : va_G) (cI cS : ClassId) (U : State) : Prop := va_K D vwCl [(cI, .int), (cS, .object "FiberTrace$State")] U ∧ ∀ w ∈ ftNest, va_Nw w U
theorem ftNest_on : ∀ w ∈ ftNest, w.onTables = true := by
  intro w hw
  simp only [ftNest, List.mem_cons, List.not_mem_nil, or_false] at hw
  rcases hw with rfl | rfl | rfl | rfl | rfl | rfl | rfl | rfl | rfl | rfl | rfl | rfl | rfl | rfl | rfl | rfl | rfl | rfl | rfl | rfl | rfl | rfl | rfl | rfl | rfl | rfl | rfl | rfl <;> rfl
theorem ftNest_warm {s U : State} (hW : s.WarmedH U.vm) : ∀ w ∈ ftNest, va_Nw w s → va_Nw w U := by
  intro w hw h
  simp only [ftNest, List.mem_cons, List.not_mem_nil, or_false] at hw
  rcases hw with rfl | rfl | rfl | rfl | rfl | rfl | rfl | rfl | rfl | rfl | rfl | rfl | rfl | rfl | rfl | rfl | rfl | rfl | rfl | rfl | rfl | rfl | rfl | rfl | rfl | rfl | rfl | rfl <;> exact va_Nw.warmM hW h
theorem ftK.warm {D : va_G} {cI cS : ClassId} {s U : State} (hW : s.WarmedH U.vm) (h : ftK D cI cS s) : ftK D cI cS U := ⟨va_K.moved hW.alike h.1, fun w hw => ftNest_warm hW w hw (h.2 w hw)⟩
theorem ftK.call {D : va_G} {cI cS : ClassId} {U : State} {g : JFrame} {mk : MethodId} {a : Array Value} (h : ftK D cI cS U) : ftK D cI cS (U.calling g mk a) := ⟨va_K.moved (u := U) (U := U.calling g mk a) (Vm.Alike.refl U.vm) h.1, fun w hw => va_Nw.same (u := U) (U := U.calling g mk a) (ftNest_on w hw) rfl (h.2 w hw)⟩
/-- a contract's start: of one that writes nothing, of one that writes -/
abbrev ftRO (D : va_G) (cI cS : ClassId) (av : List Value) (ws : va_W) : Array Value → State → Prop := va_Pc av (fun U => va_P D vwCl ws U.heap ∧ ftK D cI cS U)
abbrev ftRW (D : va_G) (cI cS : ClassId) (av : List Value) (ws : va_W) (sz : Nat) : Array Value → State → Prop := va_Pc av (fun U => U.heap.size = sz ∧ va_P D vwCl ws U.heap ∧ ftK D cI cS U ∧ va_D (fun _ => True) ws)
/-- its end: the answer, the cells behind it -/
abbrev ftQi (D : va_G) (r : Int32) (ws ws' : va_W) (sz : Nat) : Array Value → State → Outcome → State → Prop := va_Qi (S := Unit) (fun x _ => x = r) (fun _ t => va_P D vwCl ws' t.heap ∧ va_D (va_A ws sz) ws') (va_A ws sz)
abbrev ftQv (D : va_G) (ws ws' : va_W) (sz : Nat) : Array Value → State → Outcome → State → Prop := va_Qv (S := Unit) (fun _ => True) (fun _ t => va_P D vwCl ws' t.heap ∧ va_D (va_A ws sz) ws') (va_A ws sz)
/-- the end of one that writes nothing and answers a cell -/
abbrev ftSr (r : Nat) : Array Value → State → Outcome → State → Prop := fun _ st oc t => oc = .returned (some (.ref r)) ∧ t.heap = st.heap
theorem ft_blindRO {D : va_G} {cI cS : ClassId} {av : List Value} {ws : va_W} : FrameBlind (ftRO D cI cS av ws) := fun a U g mk q => ⟨q.1, q.2.1, q.2.2.call⟩
theorem ft_blindRW {D : va_G} {cI cS : ClassId} {av : List Value} {ws : va_W} {sz : Nat} : FrameBlind (ftRW D cI cS av ws sz) := fun a U g mk q => ⟨q.1, q.2.1, q.2.2.1, q.2.2.2.1.call, q.2.2.2.2⟩
theorem ft_preRO {D : va_G} {cI cS : ClassId} {As : List Value} {ws wc : va_W} {s : State} {H : Heap} (hP : va_P D vwCl ws H) (hK : ftK D cI cS s) (is : List Nat) (hs : is.filterMap (fun i => ws[i]?) = wc) : PreS s H (ftRO D cI cS As wc) As :=
  ⟨ft_blindRO, fun U hU hW => ⟨rfl, by rw [hU]; exact hP.sub is hs, hK.warm hW⟩⟩
theorem ft_preROV {D : va_G} {cI cS : ClassId} {As : List Value} {ws wc : va_W} {s : State} {H : Heap} {a q0 ci : Nat} {q : vw_C} {fs : List Value} (hP : va_P D vwCl ws H) (hK : ftK D cI cS s) (is : List Nat) (hs : is.filterMap (fun i => ws[i]?) = wc) (hc : vwCl[ci]? = some q) (he : ws[q0]? = some (a, .inr (ci, fs))) : PreV s H q.1 a (ftRO D cI cS (.ref a :: As) wc) As :=
  ⟨ft_blindRO, va_recv hK.1 hP hc he, fun U hU hW => ⟨rfl, by rw [hU]; exact hP.sub is hs, hK.warm hW⟩⟩
theorem ft_preRW {D : va_G} {cI cS : ClassId} {As : List Value} {ws wc : va_W} {s : State} {H : Heap} {A : Nat → Prop} (hP : va_P D vwCl ws H) (hD : va_D A ws) (hK : ftK D cI cS s) (is : List Nat) (hs : is.filterMap (fun i => ws[i]?) = wc) (hn : va_nd is = true) (hm : is.map (fun i => ws[i]?) = wc.map some) : PreS s H (ftRW D cI cS As wc H.size) As :=
  ⟨ft_blindRW, fun U hU hW => ⟨rfl, by rw [hU], by rw [hU]; exact hP.sub is hs, hK.warm hW, (hD.sub is hn hm).weaken (fun _ _ _ _ => trivial)⟩⟩
theorem ft_preRWV {D : va_G} {cI cS : ClassId} {As : List Value} {ws wc : va_W} {s : State} {H : Heap} {A : Nat → Prop} {a q0 ci : Nat} {q : vw_C} {fs : List Value} (hP : va_P D vwCl ws H) (hD : va_D A ws) (hK : ftK D cI cS s) (is : List Nat) (hs : is.filterMap (fun i => ws[i]?) = wc) (hn : va_nd is = true) (hm : is.map (fun i => ws[i]?) = wc.map some) (hc : vwCl[ci]? = some q) (he : ws[q0]? = some (a, .inr (ci, fs))) : PreV s H q.1 a (ftRW D cI cS (.ref a :: As) wc H.size) As :=
  ⟨ft_blindRW, va_recv hK.1 hP hc he, fun U hU hW => ⟨rfl, by rw [hU], by rw [hU]; exact hP.sub is hs, hK.warm hW, (hD.sub is hn hm).weaken (fun _ _ _ _ => trivial)⟩⟩
section FTC
variable {p : Program} {l : Launch} {e : Env} {R : Room} {s : State} {m : MethodId} {args : Array Value} {below : List Frame} {meth : Method} {c : Code} {H : Heap} {locs : List Loc} {cells slots : Nat} {Q : State → Prop}
/-- a call that writes nothing, its answer known -/
theorem ft_csi {r : Int32} {a : Array Value} {st0 rest : List Value} {pc : Nat} {ls : Array Slot} (hr : va_Run p l e R s m args below meth c H locs cells slots 0 0 (F0 m pc ls st0) rest (vp_Si (fun x => x = r) a) (fun _ => False))
    (kk : W p l e R s m args below meth c H locs cells slots Q (F0 m (pc + 3) ls (.int r :: rest))) : W p l e R s m args below meth c H locs cells slots Q (F0 m pc ls st0) := by
  intro T hT X
  obtain ⟨v, st₀, t, T', L, h0, X', hL, e1, -, ⟨r, hv, rfl, hh⟩, st⟩ := hr T hT X
  cases hv
  obtain ⟨t2, a1, b1⟩ := kk T' (by rw [e1, hh, h0]) (Stand.forget X' (fun q h => (hL q h).elim))
  exact ⟨t2, st t2 a1, b1⟩
theorem ft_csr {r : Nat} {a : Array Value} {st0 rest : List Value} {pc : Nat} {ls : Array Slot} (hr : va_Run p l e R s m args below meth c H locs cells slots 0 0 (F0 m pc ls st0) rest (ftSr r a) (fun _ => False))
    (kk : W p l e R s m args below meth c H locs cells slots Q (F0 m (pc + 3) ls (.ref r :: rest))) : W p l e R s m args below meth c H locs cells slots Q (F0 m pc ls st0) := by
  intro T hT X
  obtain ⟨v, st₀, t, T', L, h0, X', hL, e1, -, ⟨hv, hh⟩, st⟩ := hr T hT X
  cases hv
  obtain ⟨t2, a1, b1⟩ := kk T' (by rw [e1, hh, h0]) (Stand.forget X' (fun q h => (hL q h).elim))
  exact ⟨t2, st t2 a1, b1⟩
theorem ft_topv {x y : Value} {rest : List Value} {pc : Nat} {ls : Array Slot} (h : x = y) (k : W p l e R s m args below meth c H locs cells slots Q (F0 m pc ls (y :: rest))) : W p l e R s m args below meth c H locs cells slots Q (F0 m pc ls (x :: rest)) := by rw [h]; exact k
/-- a call that writes the cells wc: behind it they are w1, in their old places -/
theorem ft_ci {D : va_G} {A : Nat → Prop} {H0 : Heap} {r : Int32} {a : Array Value} {st0 rest : List Value} {pc : Nat} {ls : Array Slot} {ws wc wr w1 ws1 : va_W} (hr : va_Run p l e R s m args below meth c H locs cells slots 0 0 (F0 m pc ls st0) rest (ftQi D r wc w1 H.size a) (va_A wc H.size))
    (hP : va_P D vwCl ws H) (hD : va_D A ws) (hS : va_S A H0 H locs) (hA : ∀ q, H0.size ≤ q → A q) (isC isR pm : List Nat) (hC : isC.map (fun i => ws[i]?) = wc.map some) (hR : isR.map (fun i => ws[i]?) = wr.map some) (hn : va_nd isR = true) (hdis : ∀ i ∈ isR, i ∉ isC) (hpn : va_nd pm = true) (hpm : pm.map (fun i => (wr ++ w1)[i]?) = ws1.map some) (hpf : pm.filterMap (fun i => (wr ++ w1)[i]?) = ws1)
    (kk : ∀ (H1 : Heap) (locs1 : List Loc), va_P D vwCl ws1 H1 → va_D A ws1 → va_S A H0 H1 locs1 → W p l e R s m args below meth c H1 locs1 cells slots Q (F0 m (pc + 3) ls (.int r :: rest))) : W p l e R s m args below meth c H locs cells slots Q (F0 m pc ls st0) := by
  have hFc := va_free (wc := wc) hD hS hA isC hC
  refine va_calli hr hS (fun q _ h => hFc q h) hFc (fun r2 u t H1 locs1 ht hvm hw hB hz1 hk1 hS1 => ?_)
  subst hw
  obtain ⟨hP1, hD1⟩ := hB
  rw [ht] at hP1
  obtain ⟨hP2, hD2⟩ := va_join (wr := wr) (w1 := w1) hP hD isC isR hC hR hn hdis hk1 hFc hP1 hD1
  exact kk H1 locs1 (hP2.sub pm hpf) (hD2.sub pm hpn hpm) hS1
theorem ft_cv {D : va_G} {A : Nat → Prop} {H0 : Heap} {a : Array Value} {st0 rest : List Value} {pc : Nat} {ls : Array Slot} {ws wc wr w1 ws1 : va_W} (hr : va_Run p l e R s m args below meth c H locs cells slots 0 0 (F0 m pc ls st0) rest (ftQv D wc w1 H.size a) (va_A wc H.size))
    (hP : va_P D vwCl ws H) (hD : va_D A ws) (hS : va_S A H0 H locs) (hA : ∀ q, H0.size ≤ q → A q) (isC isR pm : List Nat) (hC : isC.map (fun i => ws[i]?) = wc.map some) (hR : isR.map (fun i => ws[i]?) = wr.map some) (hn : va_nd isR = true) (hdis : ∀ i ∈ isR, i ∉ isC) (hpn : va_nd pm = true) (hpm : pm.map (fun i => (wr ++ w1)[i]?) = ws1.map some) (hpf : pm.filterMap (fun i => (wr ++ w1)[i]?) = ws1)
    (kk : ∀ (H1 : Heap) (locs1 : List Loc), va_P D vwCl ws1 H1 → va_D A ws1 → va_S A H0 H1 locs1 → W p l e R s m args below meth c H1 locs1 cells slots Q (F0 m (pc + 3) ls rest)) : W p l e R s m args below meth c H locs cells slots Q (F0 m pc ls st0) := by
  have hFc := va_free (wc := wc) hD hS hA isC hC
  refine va_callv hr hS (fun q _ h => hFc q h) hFc (fun u t H1 locs1 ht hvm hw hB hz1 hk1 hS1 => ?_)
  obtain ⟨hP1, hD1⟩ := hB
  rw [ht] at hP1
  obtain ⟨hP2, hD2⟩ := va_join (wr := wr) (w1 := w1) hP hD isC isR hC hR hn hdis hk1 hFc hP1 hD1
  exact kk H1 locs1 (hP2.sub pm hpf) (hD2.sub pm hpn hpm) hS1
end FTC
/-- a contract of a method whose class has rows of natives, but not this one (java.lang.Math.floorMod) -/
theorem ft_ofWF {l : Launch} {y : MethodName} {ws ws' : List Cond} {rm : Room} {Pc : Array Value → State → Prop} {Qc : Array Value → State → Outcome → State → Prop} {mc ms : Nat} {free : Addr → Prop} {cc : ByteArray} {maxL : Nat} {ret : Option FieldType}
    (hy : plainFor y = true) (hw : ws = Cond.code y cc maxL ret :: ws')
    (body : ∀ p e s m args below meth c s₁, BodyLoose p l y (headSpec ws rm) cc maxL ret e s m args below meth c s₁ → c.maxLocals = maxL → Pc args s →
      W p l e (headSpec ws rm).room s m args below meth c s.heap [] 0 0 (MQ below Qc args s mc ms free) (entryFrame m args maxL)) : Met l y ws rm Pc Qc mc ms free := by
  refine MetFree.of_bodySF (code := cc) (maxLocals := maxL) (ret := ret) hy ?_ ?_
  · intro args s m h hn
    obtain ⟨meth, c, h1, h2, h3, h4, h5, h6, -, -⟩ := Cond.code_spec hn (atoms_spec (ws := ws) h _ (by rw [hw]; exact List.mem_cons_self))
    exact ⟨meth, c, h1, h2, h3, h4, h5, h6⟩
  · intro p e s m args below meth c s₁ B hml hP _
    have hh0 : s₁.heap = s.heap := by rw [B.state]; rfl
    obtain ⟨t, a1, o, b1, b2, b3⟩ := body p e s m args below meth c s₁ B hml hP s₁ hh0 (Stand.of_body B)
    exact ⟨t, o, a1, b1, b2, ⟨b3.1, b3.2⟩⟩
/-! numbers -/
noncomputable def ftB (P : Prop) : Int32 := @ite _ P (Classical.propDecidable P) 1 0
theorem ftB_t {P : Prop} (h : P) : ftB P = 1 := by unfold ftB; exact if_pos h
theorem ftB_f {P : Prop} (h : ¬ P) : ftB P = 0 := by unfold ftB; exact if_neg h
theorem ftB_ne {P : Prop} (h : ¬ ftB P = 0) : P := Classical.byContradiction fun q => h (ftB_f q)
theorem ftB_eq {P : Prop} (h : ftB P = 0) : ¬ P := fun q => by rw [ftB_t q] at h; exact absurd h (by decide)
theorem ftB_nar {P : Prop} : narrow .boolean (.int (ftB P)) = .int (ftB P) := by
  rcases Classical.em P with h | h
  · rw [ftB_t h]; rfl
  · rw [ftB_f h]; rfl
theorem ftB_congr {P Q : Prop} (h : P ↔ Q) : ftB P = ftB Q := by rw [propext h]
theorem ft_inc (k : Nat) : nI k + Int32.ofInt 1 = nI (k + 1) := nI_1 k
theorem ft_dec {k : Nat} (h : 0 < k) : nI k + Int32.ofInt (-1) = nI (k - 1) := by
  obtain ⟨j, rfl⟩ : ∃ j, k = j + 1 := ⟨k - 1, by omega⟩
  have e : Int32.ofInt (-1) = -1 := by decide
  rw [e, ← Int32.sub_eq_add_neg, Nat.add_sub_cancel]
  exact nI_pred j
theorem ft_eqN {a b : Nat} (ha : a < 2 ^ 31) (hb : b < 2 ^ 31) (h : nI a = nI b) : a = b := (nI_eq ha hb).mp h
theorem ft_neN {a b : Nat} (ha : a < 2 ^ 31) (hb : b < 2 ^ 31) (h : ¬ nI a = nI b) : a ≠ b := fun q => h (by rw [q])
theorem ft_leN {a b : Nat} (ha : a < 2 ^ 31) (hb : b < 2 ^ 31) (h : nI a ≤ nI b) : a ≤ b := (nI_leI ha hb).mp h
theorem ft_nleN {a b : Nat} (ha : a < 2 ^ 31) (hb : b < 2 ^ 31) (h : ¬ nI a ≤ nI b) : b < a := Nat.lt_of_not_le fun q => h ((nI_leI ha hb).mpr q)
theorem ft_ltN {a b : Nat} (ha : a < 2 ^ 31) (hb : b < 2 ^ 31) (h : nI a < nI b) : a < b := (nI_ltI ha hb).mp h
theorem ft_nltN {a b : Nat} (ha : a < 2 ^ 31) (hb : b < 2 ^ 31) (h : ¬ nI a < nI b) : b ≤ a := Nat.le_of_not_lt fun q => h ((nI_ltI ha hb).mpr q)
theorem ft_addN (a b : Nat) : nI a + nI b = nI (a + b) := nI_add a b
theorem ft_mulN (a b : Nat) : nI a * nI b = nI (a * b) := (Int32.ofNat_mul a b).symm
theorem ft_subN {a b : Nat} (h : b ≤ a) : nI a - nI b = nI (a - b) := by
  have e := nI_add (a - b) b
  rw [Nat.sub_add_cancel h] at e
  rw [← e, Int32.add_sub_cancel]
theorem ft_clampN {f : Nat → Int32} {k : Nat} (h : k < 2 ^ 31) : f (nI k).toNatClampNeg = f k := by rw [nI_clamp h]
theorem ft_le0 {k : Nat} (hk : k < 2 ^ 31) (h : nI k ≤ 0) : k = 0 := by
  rcases Nat.eq_zero_or_pos k with q | q
  · exact q
  · exact absurd h (nI_nle q hk)
theorem ft_eq0N {k : Nat} (hk : k < 2 ^ 31) (h : nI k = 0) : k = 0 := by
  rcases Nat.eq_zero_or_pos k with q | q
  · exact q
  · exact absurd h (nI_ne0 q hk)
theorem ft_ne0N {k : Nat} (h : ¬ nI k = 0) : 0 < k := by
  rcases Nat.eq_zero_or_pos k with q | q
  · subst q; exact absurd nI_0 h
  · exact q
theorem ft_gt0 {k : Nat} (h : ¬ nI k ≤ 0) : 0 < k := by
  rcases Nat.eq_zero_or_pos k with q | q
  · subst q; exact absurd (by decide) h
  · exact q
theorem ft_in {i : Int32} {n : Nat} (hn : n < 2 ^ 31) (c1 : ¬ i < 0) (c2 : ¬ Int32.ofNat n ≤ i) : vp_in i n := by
  obtain ⟨j, hj, rfl⟩ := nI_of c1
  exact vp_in_nI (Nat.lt_of_not_le fun q => c2 (nI_le q hj)) hn
theorem ft_out {i : Int32} {n : Nat} (hn : n < 2 ^ 31) (c1 : ¬ i < 0) (c2 : Int32.ofNat n ≤ i) : ¬ vp_in i n := by
  obtain ⟨j, hj, rfl⟩ := nI_of c1
  exact fun q => q (Or.inr (by rw [nI_clamp hj]; exact (nI_leI hn hj).mp c2))
def ftRemI (x y : Int32) : Int32 := x - x / y * y
def ftQuot (x y : Int32) : Int32 := if y = 0 then 0 else x / y
def ftAbs (x : Int32) : Int32 := if 0 ≤ x then x else 0 - x
def ftMax (x y : Int32) : Int32 := if x < y then y else x
def ftMin (x y : Int32) : Int32 := if y < x then y else x
/-- what FiberTrace.at answers, what FiberTrace.put leaves -/
def ftAt (n : Nat) (f : Nat → Int32) (i : Int32) : Int32 := if i < 0 ∨ n ≤ i.toNatClampNeg then 0 else f i.toNatClampNeg
def ftPut (n : Nat) (f : Nat → Int32) (i x : Int32) : Nat → Int32 := if i < 0 ∨ n ≤ i.toNatClampNeg then f else upd f i.toNatClampNeg x
theorem ftAt_in {n : Nat} {f : Nat → Int32} {i : Int32} (h : vp_in i n) : ftAt n f i = f i.toNatClampNeg := if_neg h
theorem ftAt_out {n : Nat} {f : Nat → Int32} {i : Int32} (h : ¬ vp_in i n) : ftAt n f i = 0 := if_pos (Decidable.byContradiction h)
theorem ftPut_in {n : Nat} {f : Nat → Int32} {i x : Int32} (h : vp_in i n) : ftPut n f i x = upd f i.toNatClampNeg x := if_neg h
theorem ftPut_out {n : Nat} {f : Nat → Int32} {i x : Int32} (h : ¬ vp_in i n) : ftPut n f i x = f := if_pos (Decidable.byContradiction h)
theorem ftAt_N {n k : Nat} {f : Nat → Int32} (h : k < n) (hn : n < 2 ^ 31) : ftAt n f (nI k) = f k := by rw [ftAt_in (vp_in_nI h hn), nI_clamp (by omega)]
theorem ftPut_N {n k : Nat} {f : Nat → Int32} {x : Int32} (h : k < n) (hn : n < 2 ^ 31) : ftPut n f (nI k) x = upd f k x := by rw [ftPut_in (vp_in_nI h hn), nI_clamp (by omega)]
section FTT
variable {p : Program} {l : Launch} {e : Env} {R : Room} {s : State} {m : MethodId} {args : Array Value} {below : List Frame} {meth : Method} {c : Code} {H : Heap} {locs : List Loc} {cells slots : Nat} {Q : State → Prop}
theorem ft_top {x y : Int32} {rest : List Value} {pc : Nat} {ls : Array Slot} (h : x = y) (k : W p l e R s m args below meth c H locs cells slots Q (F0 m pc ls (.int y :: rest))) : W p l e R s m args below meth c H locs cells slots Q (F0 m pc ls (.int x :: rest)) := by rw [h]; exact k
end FTT
