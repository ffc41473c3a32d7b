/-! the law: calls over a world of two blocks -/
section FTLAW
variable {p : Program} {l : Launch} {e : Env} {R : Room} {s : State} {m : MethodId} {args : Array Value} {below : List Frame} {meth : Method} {c : Code} {H : Heap} {locs : List Loc} {cells slots : Nat} {Q : State → Prop}
variable {pc : Nat} {ls : Array Slot} {st0 rest : List Value} {D : va_G} {A : Nat → Prop} {X Y : va_W} {H0 : Heap} {S : Type} {post : Int32 → S → Prop} {X1 : S → va_W} {a : Array Value}
theorem ft_callL (hr : va_Run p l e R s m args below meth c H locs cells slots 0 0 (F0 m pc ls st0) rest (ftXi D X H.size post X1 a) (va_A X H.size)) (hP : va_P D vwCl (X ++ Y) H) (hD : va_D A (X ++ Y)) (hS : va_S A H0 H locs) (hA : ∀ q, H0.size ≤ q → A q)
    (kk : ∀ (r : Int32) (u : S), post r u → ∀ (H1 : Heap) (locs1 : List Loc), va_P D vwCl (X1 u ++ Y) H1 → va_D A (X1 u ++ Y) → va_S A H0 H1 locs1 → W p l e R s m args below meth c H1 locs1 cells slots Q (F0 m (pc + 3) ls (.int r :: rest))) : W p l e R s m args below meth c H locs cells slots Q (F0 m pc ls st0) := by
  have hFc := va_free (wc := X) hD hS hA (List.range' 0 X.length) (ft_mL X Y)
  refine va_calli hr hS (fun q _ h => hFc q h) hFc (fun r u t H1 locs1 ht hvm hw hB hz1 hk1 hS1 => ?_)
  obtain ⟨hP1, hD1⟩ := hB
  rw [ht] at hP1
  obtain ⟨hP2, hD2⟩ := va_join (wr := Y) (w1 := X1 u) hP hD (List.range' 0 X.length) (List.range' X.length Y.length) (ft_mL X Y) (ft_mR X Y) (ft_ndr _ _) (ft_dLR X Y) hk1 hFc hP1 hD1
  exact kk r u hw H1 locs1 (ft_PS hP2) (ft_DS hD2) hS1
theorem ft_callR (hr : va_Run p l e R s m args below meth c H locs cells slots 0 0 (F0 m pc ls st0) rest (ftXi D Y H.size post X1 a) (va_A Y H.size)) (hP : va_P D vwCl (X ++ Y) H) (hD : va_D A (X ++ Y)) (hS : va_S A H0 H locs) (hA : ∀ q, H0.size ≤ q → A q)
    (kk : ∀ (r : Int32) (u : S), post r u → ∀ (H1 : Heap) (locs1 : List Loc), va_P D vwCl (X ++ X1 u) H1 → va_D A (X ++ X1 u) → va_S A H0 H1 locs1 → W p l e R s m args below meth c H1 locs1 cells slots Q (F0 m (pc + 3) ls (.int r :: rest))) : W p l e R s m args below meth c H locs cells slots Q (F0 m pc ls st0) := by
  have hFc := va_free (wc := Y) hD hS hA (List.range' X.length Y.length) (ft_mR X Y)
  refine va_calli hr hS (fun q _ h => hFc q h) hFc (fun r u t H1 locs1 ht hvm hw hB hz1 hk1 hS1 => ?_)
  obtain ⟨hP1, hD1⟩ := hB
  rw [ht] at hP1
  obtain ⟨hP2, hD2⟩ := va_join (wr := X) (w1 := X1 u) hP hD (List.range' X.length Y.length) (List.range' 0 X.length) (ft_mR X Y) (ft_mL X Y) (ft_ndr _ _) (ft_dRL X Y) hk1 hFc hP1 hD1
  exact kk r u hw H1 locs1 hP2 hD2 hS1
end FTLAW
section FTLPRE
variable {D : va_G} {cI cS : ClassId} {sK sV : Nat → Nat} {As : List Value} {X Y : va_W} {s : State} {H : Heap} {A : Nat → Prop} {locs : List Loc} {a ci : Nat} {q : vw_C} {fs : List Value}
theorem ft_preL (hP : va_P D vwCl (X ++ Y) H) (hD : va_D A (X ++ Y)) (hK : ftK D cI cS s) (hSt : ftSt sK sV A s s.heap) (hS : va_S A s.heap H locs) (hA : ∀ q, s.heap.size ≤ q → A q) (hc : vwCl[ci]? = some q) (he : X[0]? = some (a, .inr (ci, fs))) : PreV s H q.1 a (ftRWS D cI cS sK sV (.ref a :: As) X H.size) As :=
  ⟨ft_blindRWS, va_recv hK.1 hP hc (ft_gL he), fun U hU hW => ⟨rfl, by rw [hU], by rw [hU]; exact ft_PL hP, hK.warm hW, (ft_DL hD).weaken (fun _ _ _ _ => trivial), hSt.go hS (va_free hD hS hA (List.range' 0 X.length) (ft_mL X Y)) hU hW⟩⟩
theorem ft_preR (hP : va_P D vwCl (X ++ Y) H) (hD : va_D A (X ++ Y)) (hK : ftK D cI cS s) (hSt : ftSt sK sV A s s.heap) (hS : va_S A s.heap H locs) (hA : ∀ q, s.heap.size ≤ q → A q) (hc : vwCl[ci]? = some q) (he : Y[0]? = some (a, .inr (ci, fs))) : PreV s H q.1 a (ftRWS D cI cS sK sV (.ref a :: As) Y H.size) As :=
  ⟨ft_blindRWS, va_recv hK.1 hP hc (ft_gR he), fun U hU hW => ⟨rfl, by rw [hU], by rw [hU]; exact ft_PR hP, hK.warm hW, (ft_DR hD).weaken (fun _ _ _ _ => trivial), hSt.go hS (va_free hD hS hA (List.range' X.length Y.length) (ft_mR X Y)) hU hW⟩⟩
end FTLPRE
theorem ft_gt5 {i L : Nat} (hi : i < 2 ^ 31) (hL : L < 2 ^ 31) : Int32.ofNat L - 5 < nI i ↔ L < i + 5 := by
  by_cases h : 5 ≤ L
  · rw [show Int32.ofNat L - 5 = nI (L - 5) from ft_subN (a := L) (b := 5) h, nI_ltI (by omega) hi]
    omega
  · have h0 : Int32.ofNat L - 5 < 0 := by
      match L, h with
      | 0, _ => decide
      | 1, _ => decide
      | 2, _ => decide
      | 3, _ => decide
      | 4, _ => decide
      | L + 5, h => exact absurd (by omega) h
    exact ⟨fun _ => by omega, fun _ => Int32.lt_of_lt_of_le h0 (nI_le (a := 0) (b := i) (Nat.zero_le i) hi)⟩
/-- what stays the same in the law -/
def lw_Cx (p : Program) (s : State) (m : MethodId) (meth : Method) (c : Code) (b L : Nat) (xs : Nat → Int32) (D : va_G) (cI cS : ClassId) (sK sV : Nat → Nat) : Prop :=
  lw_At p s m meth c b L xs ∧ ftK D cI cS s ∧ ftSt sK sV (fun q => s.heap.size ≤ q) s s.heap ∧ L < 2 ^ 30
abbrev ftLW (l : Launch) (p : Program) (e : Env) (s : State) (m : MethodId) (below : List Frame) (meth : Method) (c : Code) (b : Nat) (H : Heap) (locs : List Loc) (g : JFrame) : Prop := W p l e room_1 s m #[Value.ref b] below meth c H locs 600000 7302250 (lw_Z below #[Value.ref b] s) g
abbrev ftLs (ls : Array Slot) (b o0 m0 i : Nat) : Prop := lv_has ls 4 [(0, .ref b), (1, .ref o0), (2, .ref m0), (3, .int (nI i))]
/-- at the loop's head, the script read: the law ends with true -/
theorem lw_exit {l : Launch} {p : Program} {e : Env} {s : State} {m : MethodId} {below : List Frame} {meth : Method} {c : Code} {b L : Nat} {xs : Nat → Int32} {D : va_G} {cI cS : ClassId} {sK sV : Nat → Nat} (C0 : lw_Cx p s m meth c b L xs D cI cS sK sV) {o0 m0 i : Nat} (hi : i < 2 ^ 30) (hLi : L < i + 5) {H : Heap} {locs : List Loc} (hS : va_S (fun q => s.heap.size ≤ q) s.heap H locs) {ls : Array Slot} (hl : ftLs ls b o0 m0 i) : ftLW l p e s m below meth c b H locs (F0 m 18 ls []) := by
  obtain ⟨⟨hx, hb, hr, hml, hown, hts, hX, hbl, hlocks, hgv⟩, -, -, hL30⟩ := C0
  have hbA : ¬ (fun q : Nat => s.heap.size ≤ q) b := Nat.not_le.mpr hbl
  refine lv_iload_n hx hb dL_law_18 rfl (lv_at hl 3 rfl) ?_
  refine lv_aload_n hx hb dL_law_19 rfl (lv_at hl 0 rfl) ?_
  refine va_slen hx hb hX hbl hbA hS dL_law_20 ?_
  refine lv_iconst (v := 5) hx hb dL_law_21 (by decide) ?_
  refine lv_isub hx hb dL_law_22 ?_
  refine lv_icmp_gt (tgt := 705) hx hb dL_law_23 (by decide) (fun _ => ?_) (fun c23 => ?_)
  · refine lv_iconst (v := 1) hx hb dL_law_705 (by decide) ?_
    refine va_forget (fun q hq => hS.2.2 q hq) ?_
    exact lw_ret hx hb hr hlocks dL_law_706
  · exact absurd ((ft_gt5 (by omega) (by omega)).mpr hLi) c23
/-- behind a call: on to the loop's head -/
theorem lw_next {l : Launch} {p : Program} {e : Env} {s : State} {m : MethodId} {below : List Frame} {meth : Method} {c : Code} {b L : Nat} {xs : Nat → Int32} {D : va_G} {cI cS : ClassId} {sK sV : Nat → Nat} (C0 : lw_Cx p s m meth c b L xs D cI cS sK sV) {o0 m0 i : Nat} {H : Heap} {locs : List Loc} {ls : Array Slot} (hl : ftLs ls b o0 m0 i) (kk : ∀ ls : Array Slot, ftLs ls b o0 m0 (i + 5) → ftLW l p e s m below meth c b H locs (F0 m 18 ls [])) : ftLW l p e s m below meth c b H locs (F0 m 699 ls []) := by
  obtain ⟨⟨hx, hb, hr, hml, hown, hts, hX, hbl, hlocks, hgv⟩, -, -, hL30⟩ := C0
  refine lv_iinc (v := nI (i + 5)) (lv' := [(3, .int (nI (i + 5))), (0, .ref b), (1, .ref o0), (2, .ref m0)]) hx hb dL_law_699 hl (k := 3) rfl (ft_addN i 5) (by decide) rfl (fun ls hl => ?_)
  refine lv_goto (tgt := 18) hx hb dL_law_702 (by decide) ?_
  exact kk ls (lv_sub hl [1, 2, 3, 0] rfl)
/-- at the loop's head, five numbers left: on to the switch -/
theorem lw_head {l : Launch} {p : Program} {e : Env} {s : State} {m : MethodId} {below : List Frame} {meth : Method} {c : Code} {b L : Nat} {xs : Nat → Int32} {D : va_G} {cI cS : ClassId} {sK sV : Nat → Nat} (C0 : lw_Cx p s m meth c b L xs D cI cS sK sV) {o0 m0 i : Nat} (hLi : i + 5 ≤ L) {H : Heap} {locs : List Loc} (hS : va_S (fun q => s.heap.size ≤ q) s.heap H locs) {ls : Array Slot} (hl : ftLs ls b o0 m0 i) (kk : ∀ x : Int32, ftLW l p e s m below meth c b H locs (F0 m 32 ls [.int x])) : ftLW l p e s m below meth c b H locs (F0 m 18 ls []) := by
  obtain ⟨⟨hx, hb, hr, hml, hown, hts, hX, hbl, hlocks, hgv⟩, -, -, hL30⟩ := C0
  have hbA : ¬ (fun q : Nat => s.heap.size ≤ q) b := Nat.not_le.mpr hbl
  refine lv_iload_n hx hb dL_law_18 rfl (lv_at hl 3 rfl) ?_
  refine lv_aload_n hx hb dL_law_19 rfl (lv_at hl 0 rfl) ?_
  refine va_slen hx hb hX hbl hbA hS dL_law_20 ?_
  refine lv_iconst (v := 5) hx hb dL_law_21 (by decide) ?_
  refine lv_isub hx hb dL_law_22 ?_
  refine lv_icmp_gt (tgt := 705) hx hb dL_law_23 (by decide) (fun c23 => ?_) (fun _ => ?_)
  · exact absurd ((ft_gt5 (by omega) (by omega)).mp c23) (by omega)
  · refine lv_aload_n hx hb dL_law_26 rfl (lv_at hl 0 rfl) ?_
    refine lv_iload_n hx hb dL_law_27 rfl (lv_at hl 3 rfl) ?_
    refine va_sld hx hb hX hbl hbA hS (vp_in_nI (by omega) (by omega)) dL_law_28 ?_
    refine lv_bipush (v := 31) hx hb dL_law_29 (by decide) ?_
    refine lv_iand hx hb dL_law_31 ?_
    exact kk _
