section FTLAW
variable {p : Program} {l : Launch} {e : Env} {R : Room} {s : State} {m : MethodId} {args : Array Value} {below : List Frame} {meth : Method} {c : Code} {H : Heap} {locs : List Loc} {cells slots : Nat} {Q : State → Prop}
variable {pc : Nat} {ls : Array Slot} {st0 rest : List Value} {D : va_G} {A : Nat → Prop} {X Y : va_W} {H0 : Heap} {S : Type} {post : Int32 → S → Prop} {X1 : S → va_W} {a : Array Value}
theorem ft_callL (hr : va_Run p l e R s m args below meth c H locs cells slots 0 0 (F0 m pc ls st0) rest (ftXi D X H.size post X1 a) (va_A X H.size)) (hP : va_P D vwCl (X ++ Y) H) (hD : va_D A (X ++ Y)) (hS : va_S A H0 H locs) (hA : ∀ q, H0.size ≤ q → A q)
    (kk : ∀ (r : Int32) (u : S), post r u → ∀ (H1 : Heap) (locs1 : List Loc), va_P D vwCl (X1 u ++ Y) H1 → va_D A (X1 u ++ Y) → va_S A H0 H1 locs1 → W p l e R s m args below meth c H1 locs1 cells slots Q (F0 m (pc + 3) ls (.int r :: rest))) : W p l e R s m args below meth c H locs cells slots Q (F0 m pc ls st0) := by
  have hFc := va_free (wc := X) hD hS hA (List.range' 0 X.length) (ft_mL X Y)
  refine va_calli hr hS (fun q _ h => hFc q h) hFc (fun r u t H1 locs1 ht hvm hw hB hz1 hk1 hS1 => ?_)
  obtain ⟨hP1, hD1⟩ := hB
  rw [ht] at hP1
  obtain ⟨hP2, hD2⟩ := va_join (wr := Y) (w1 := X1 u) hP hD (List.range' 0 X.length) (List.range' X.length Y.length) (ft_mL X Y) (ft_mR X Y) (ft_ndr _ _) (ft_dLR X Y) hk1 hFc hP1 hD1
  exact kk r u hw H1 locs1 (ft_PS hP2) (ft_DS hD2) hS1
theorem ft_callR (hr : va_Run p l e R s m args below meth c H locs cells slots 0 0 (F0 m pc ls st0) rest (ftXi D Y H.size post X1 a) (va_A Y H.size)) (hP : va_P D vwCl (X ++ Y) H) (hD : va_D A (X ++ Y)) (hS : va_S A H0 H locs) (hA : ∀ q, H0.size ≤ q → A q)
    (kk : ∀ (r : Int32) (u : S), post r u → ∀ (H1 : Heap) (locs1 : List Loc), va_P D vwCl (X ++ X1 u) H1 → va_D A (X ++ X1 u) → va_S A H0 H1 locs1 → W p l e R s m args below meth c H1 locs1 cells slots Q (F0 m (pc + 3) ls (.int r :: rest))) : W p l e R s m args below meth c H locs cells slots Q (F0 m pc ls st0) := by
  have hFc := va_free (wc := Y) hD hS hA (List.range' X.length Y.length) (ft_mR X Y)
  refine va_calli hr hS (fun q _ h => hFc q h) hFc (fun r u t H1 locs1 ht hvm hw hB hz1 hk1 hS1 => ?_)
  obtain ⟨hP1, hD1⟩ := hB
  rw [ht] at hP1
  obtain ⟨hP2, hD2⟩ := va_join (wr := X) (w1 := X1 u) hP hD (List.range' X.length Y.length) (List.range' 0 X.length) (ft_mR X Y) (ft_mL X Y) (ft_ndr _ _) (ft_dRL X Y) hk1 hFc hP1 hD1
  exact kk r u hw H1 locs1 hP2 hD2 hS1
end FTLAW
section FTLPRE
variable {D : va_G} {cI cS : ClassId} {sK sV : Nat → Nat} {As : List Value} {X Y : va_W} {s : State} {H : Heap} {A : Nat → Prop} {locs : List Loc} {a ci : Nat} {q : vw_C} {fs : List Value}
theorem ft_preL (hP : va_P D vwCl (X ++ Y) H) (hD : va_D A (X ++ Y)) (hK : ftK D cI cS s) (hSt : ftSt sK sV A s s.heap) (hS : va_S A s.heap H locs) (hA : ∀ q, s.heap.size ≤ q → A q) (hc : vwCl[ci]? = some q) (he : X[0]? = some (a, .inr (ci, fs))) : PreV s H q.1 a (ftRWS D cI cS sK sV (.ref a :: As) X H.size) As :=
  ⟨ft_blindRWS, va_recv hK.1 hP hc (ft_gL he), fun U hU hW => ⟨rfl, by rw [hU], by rw [hU]; exact ft_PL hP, hK.warm hW, (ft_DL hD).weaken (fun _ _ _ _ => trivial), hSt.go hS (va_free hD hS hA (List.range' 0 X.length) (ft_mL X Y)) hU hW⟩⟩
theorem ft_preR (hP : va_P D vwCl (X ++ Y) H) (hD : va_D A (X ++ Y)) (hK : ftK D cI cS s) (hSt : ftSt sK sV A s s.heap) (hS : va_S A s.heap H locs) (hA : ∀ q, s.heap.size ≤ q → A q) (hc : vwCl[ci]? = some q) (he : Y[0]? = some (a, .inr (ci, fs))) : PreV s H q.1 a (ftRWS D cI cS sK sV (.ref a :: As) Y H.size) As :=
  ⟨ft_blindRWS, va_recv hK.1 hP hc (ft_gR he), fun U hU hW => ⟨rfl, by rw [hU], by rw [hU]; exact ft_PR hP, hK.warm hW, (ft_DR hD).weaken (fun _ _ _ _ => trivial), hSt.go hS (va_free hD hS hA (List.range' X.length Y.length) (ft_mR X Y)) hU hW⟩⟩
end FTLPRE
/-! calls over worlds of blocks -/
section FTLAWV
variable {p : Program} {l : Launch} {e : Env} {R : Room} {s : State} {m : MethodId} {args : Array Value} {below : List Frame} {meth : Method} {c : Code} {H : Heap} {locs : List Loc} {cells slots : Nat} {Q : State → Prop}
variable {pc : Nat} {ls : Array Slot} {st0 rest : List Value} {D : va_G} {A : Nat → Prop} {ws X Y : va_W} {H0 : Heap} {S : Type} {X1 ws1 : S → va_W} {a : Array Value}
theorem ft_callB {post : Int32 → S → Prop} (hr : va_Run p l e R s m args below meth c H locs cells slots 0 0 (F0 m pc ls st0) rest (ftXi D X H.size post X1 a) (va_A X H.size)) (hP : va_P D vwCl ws H) (hD : va_D A ws) (hS : va_S A H0 H locs) (hA : ∀ q, H0.size ≤ q → A q) (hpm : ws.Perm (X ++ Y)) (hpm1 : ∀ u, (X1 u ++ Y).Perm (ws1 u))
    (kk : ∀ (r : Int32) (u : S), post r u → ∀ (H1 : Heap) (locs1 : List Loc), va_P D vwCl (ws1 u) H1 → va_D A (ws1 u) → va_S A H0 H1 locs1 → W p l e R s m args below meth c H1 locs1 cells slots Q (F0 m (pc + 3) ls (.int r :: rest))) : W p l e R s m args below meth c H locs cells slots Q (F0 m pc ls st0) :=
  ft_callL hr (ft_pmP hpm hP) (ft_pmD hpm hD) hS hA (fun r u h H1 locs1 hP1 hD1 hS1 => kk r u h H1 locs1 (ft_pmP (hpm1 u) hP1) (ft_pmD (hpm1 u) hD1) hS1)
theorem ft_callBv {post : S → Prop} (hr : va_Run p l e R s m args below meth c H locs cells slots 0 0 (F0 m pc ls st0) rest (ftXv D X H.size post X1 a) (va_A X H.size)) (hP : va_P D vwCl ws H) (hD : va_D A ws) (hS : va_S A H0 H locs) (hA : ∀ q, H0.size ≤ q → A q) (hpm : ws.Perm (X ++ Y)) (hpm1 : ∀ u, (X1 u ++ Y).Perm (ws1 u))
    (kk : ∀ (u : S), post u → ∀ (H1 : Heap) (locs1 : List Loc), va_P D vwCl (ws1 u) H1 → va_D A (ws1 u) → va_S A H0 H1 locs1 → W p l e R s m args below meth c H1 locs1 cells slots Q (F0 m (pc + 3) ls rest)) : W p l e R s m args below meth c H locs cells slots Q (F0 m pc ls st0) := by
  replace hP := ft_pmP hpm hP
  replace hD := ft_pmD hpm hD
  have hFc := va_free (wc := X) hD hS hA (List.range' 0 X.length) (ft_mL X Y)
  refine va_callv hr hS (fun q _ h => hFc q h) hFc (fun u t H1 locs1 ht hvm hw hB hz1 hk1 hS1 => ?_)
  obtain ⟨hP1, hD1⟩ := hB
  rw [ht] at hP1
  obtain ⟨hP2, hD2⟩ := va_join (wr := Y) (w1 := X1 u) hP hD (List.range' 0 X.length) (List.range' X.length Y.length) (ft_mL X Y) (ft_mR X Y) (ft_ndr _ _) (ft_dLR X Y) hk1 hFc hP1 hD1
  exact kk u hw H1 locs1 (ft_pmP (hpm1 u) (ft_PS hP2)) (ft_pmD (hpm1 u) (ft_DS hD2)) hS1
end FTLAWV
section FTLPREB
variable {D : va_G} {cI cS : ClassId} {sK sV : Nat → Nat} {As : List Value} {ws X Y : va_W} {s : State} {H : Heap} {A : Nat → Prop} {locs : List Loc} {a ci : Nat} {q : vw_C} {fs : List Value}
theorem ft_preB (hpm : ws.Perm (X ++ Y)) (hP : va_P D vwCl ws H) (hD : va_D A ws) (hK : ftK D cI cS s) (hSt : ftSt sK sV A s s.heap) (hS : va_S A s.heap H locs) (hA : ∀ q, s.heap.size ≤ q → A q) (hc : vwCl[ci]? = some q) (he : X[0]? = some (a, .inr (ci, fs))) : PreV s H q.1 a (ftRWS D cI cS sK sV (.ref a :: As) X H.size) As :=
  ft_preL (ft_pmP hpm hP) (ft_pmD hpm hD) hK hSt hS hA hc he
theorem ft_preBS (hpm : ws.Perm (X ++ Y)) (hP : va_P D vwCl ws H) (hD : va_D A ws) (hK : ftK D cI cS s) (hSt : ftSt sK sV A s s.heap) (hS : va_S A s.heap H locs) (hA : ∀ q, s.heap.size ≤ q → A q) : PreS s H (ftRWS D cI cS sK sV As X H.size) As := by
  have hP := ft_pmP hpm hP
  have hD := ft_pmD hpm hD
  exact ⟨ft_blindRWS, fun U hU hW => ⟨rfl, by rw [hU], by rw [hU]; exact ft_PL hP, hK.warm hW, (ft_DL hD).weaken (fun _ _ _ _ => trivial), hSt.go hS (va_free hD hS hA (List.range' 0 X.length) (ft_mL X Y)) hU hW⟩⟩
end FTLPREB
theorem ft_pmE (X : va_W) : X.Perm (X ++ []) := List.Perm.of_eq (List.append_nil X).symm
theorem ft_pm3 (X Y Z : va_W) : (X ++ (Y ++ Z)).Perm (Z ++ (X ++ Y)) := by
  rw [← List.append_assoc]
  exact List.perm_append_comm
