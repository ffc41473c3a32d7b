/-! contracts over whole blocks -/
theorem ft_fm {α : Type} {f : Nat → Option α} : ∀ {is : List Nat} {w : List α}, is.map f = w.map some → is.filterMap f = w
  | [], [], _ => rfl
  | [], _ :: _, h => by cases h
  | _ :: _, [], h => by cases h
  | i :: is, x :: w, h => by
    rw [List.map_cons, List.map_cons] at h
    injection h with h1 h2
    rw [List.filterMap_cons_some h1, ft_fm h2]
theorem ft_Asub {ws wc : va_W} {sz : Nat} {isC : List Nat} (hC : isC.map (fun i => ws[i]?) = wc.map some) (q : Nat) (h : va_A wc sz q) : va_A ws sz q := by
  rcases h with ⟨k, e, hk⟩ | h
  · have h1 : (isC.map (fun i => ws[i]?))[k]? = some (some (q, e)) := by rw [hC, List.getElem?_map, hk]; rfl
    rw [List.getElem?_map] at h1
    cases hh : isC[k]? with
    | none => rw [hh] at h1; cases h1
    | some i => rw [hh] at h1; exact Or.inl ⟨i, e, Option.some.inj h1⟩
  · exact Or.inr h
theorem ft_rest {ws : va_W} {n : Nat} (hl : ws.length = n) : ∀ (is : List Nat), (∀ i ∈ is, i < n) → ∃ wr : va_W, is.map (fun i => ws[i]?) = wr.map some
  | [], _ => ⟨[], rfl⟩
  | i :: is, h => by
    obtain ⟨wr, hw⟩ := ft_rest hl is (fun j hj => h j (List.mem_cons_of_mem _ hj))
    have hi : i < ws.length := by rw [hl]; exact h i List.mem_cons_self
    exact ⟨ws[i] :: wr, by rw [List.map_cons, List.map_cons, hw, List.getElem?_eq_getElem hi]⟩
theorem ft_at {ws1 ws2 : va_W} {is : List Nat} (hm : is.map (fun i => ws1[i]?) = ws2.map some) {i : Nat} {x : Nat × va_E} (hi : i ∈ is) (hx : ws1[i]? = some x) : ∃ j : Nat, is[j]? = some i ∧ ws2[j]? = some x := by
  obtain ⟨j, hj⟩ := List.getElem?_of_mem hi
  refine ⟨j, hj, ?_⟩
  have h1 : (is.map (fun i => ws1[i]?))[j]? = (ws2.map some)[j]? := by rw [hm]
  rw [List.getElem?_map, List.getElem?_map, hj] at h1
  cases h2 : ws2[j]? with
  | none => rw [h2] at h1; cases h1
  | some y =>
    rw [h2] at h1
    have h3 : ws1[i]? = some y := Option.some.inj h1
    rw [hx] at h3
    exact h3.symm
theorem ft_permP {D : va_G} {cl : List vw_C} {ws1 ws2 : va_W} {H : Heap} {n : Nat} (is : List Nat) (hl : ws1.length = n) (hcov : ∀ i, i < n → i ∈ is) (hm : is.map (fun i => ws1[i]?) = ws2.map some) (h : va_P D cl ws2 H) : va_P D cl ws1 H := by
  intro k x hx
  obtain ⟨j, -, hj⟩ := ft_at hm (hcov k (by rw [← hl]; exact (List.getElem?_eq_some_iff.mp hx).1)) hx
  exact h j x hj
theorem ft_permD {A : Nat → Prop} {ws1 ws2 : va_W} {n : Nat} (is : List Nat) (hl : ws1.length = n) (hcov : ∀ i, i < n → i ∈ is) (hm : is.map (fun i => ws1[i]?) = ws2.map some) (h : va_D A ws2) : va_D A ws1 := by
  refine ⟨fun i j x y hx hy hxy => ?_, fun k x hx => ?_⟩
  · obtain ⟨i2, h1, h2⟩ := ft_at hm (hcov i (by rw [← hl]; exact (List.getElem?_eq_some_iff.mp hx).1)) hx
    obtain ⟨j2, h3, h4⟩ := ft_at hm (hcov j (by rw [← hl]; exact (List.getElem?_eq_some_iff.mp hy).1)) hy
    have e := h.1 i2 j2 x y h2 h4 hxy
    subst e
    exact Option.some.inj (h1.symm.trans h3)
  · obtain ⟨j, -, hj⟩ := ft_at hm (hcov k (by rw [← hl]; exact (List.getElem?_eq_some_iff.mp hx).1)) hx
    exact h.2 j x hj
theorem ft_map_app {ws1 wr w1 : va_W} {isR isC : List Nat} (h1 : isR.map (fun i => ws1[i]?) = wr.map some) (h2 : isC.map (fun i => ws1[i]?) = w1.map some) : (isR ++ isC).map (fun i => ws1[i]?) = (wr ++ w1).map some := by
  rw [List.map_append, List.map_append, h1, h2]
theorem ftSt.narrow {sK sV : Nat → Nat} {A B : Nat → Prop} {U : State} {H : Heap} (h : ftSt sK sV A U H) (hB : ∀ q, B q → A q) : ftSt sK sV B U H := by
  obtain ⟨h1, h2, h3, h4, h5, h6⟩ := h
  exact ⟨h1.narrow hB, h2.narrow hB, h3.narrow hB, h4, fun k hk => (h5 k hk).narrow hB, fun k hk => (h6 k hk).narrow hB⟩
section FTFR
variable {S S' : Type} {l : Launch} {y : MethodName} {cw : List Cond} {rm : Room} {D : va_G} {cI cS : ClassId} {sK sV : Nat → Nat} {av : List Value} {ws wc : va_W} {w1 : S → va_W} {ws1 : S' → va_W} {sz n : Nat} {post : Int32 → S → Prop} {post' : Int32 → S' → Prop}
theorem ft_frS (h : Met l y cw rm (ftRWS D cI cS sK sV av wc sz) (ftXi D wc sz post w1) 0 0 (va_A wc sz)) (g : S → S') (hpost : ∀ r u, post r u → post' r (g u)) (isC isR : List Nat) (hC : isC.map (fun i => ws[i]?) = wc.map some) (hcn : va_nd isC = true) (hl : ws.length = n) (hlt : ∀ i ∈ isR, i < n) (hn : va_nd isR = true) (hdis : ∀ i ∈ isR, i ∉ isC) (hcov : ∀ i, i < n → i ∈ isR ++ isC) (hl1 : ∀ u, (ws1 (g u)).length = n) (hC1 : ∀ u, isC.map (fun i => (ws1 (g u))[i]?) = (w1 u).map some) (hR1 : ∀ u, isR.map (fun i => (ws1 (g u))[i]?) = isR.map (fun i => ws[i]?)) :
    Met l y cw rm (ftRWS D cI cS sK sV av ws sz) (ftXi D ws sz post' ws1) 0 0 (va_A ws sz) := by
  obtain ⟨wr, hR⟩ := ft_rest hl isR hlt
  refine ft_weak h (fun a s q => ?_) (fun a s o t q0 q => ?_) (fun q hq => ft_Asub hC q hq)
  · obtain ⟨ha, hz, hP, hK, hD, hSt⟩ := q
    exact ⟨ha, hz, hP.sub isC (ft_fm hC), hK, hD.sub isC hcn hC, hSt.narrow (ft_Asub hC)⟩
  · obtain ⟨ha, hz, hP, hK, hD, hSt⟩ := q0
    obtain ⟨⟨r, u, ho, hp, hP1, hD1⟩, hF1, hF2⟩ := q
    subst hz
    have hDs := hD.self (sz := s.heap.size)
    obtain ⟨hP2, hD2⟩ := va_join hP hDs isC isR hC hR hn hdis hF2 (ft_Asub hC) hP1 hD1
    have hm := ft_map_app ((hR1 u).trans hR) (hC1 u)
    exact ⟨⟨r, g u, ho, hpost r u hp, ft_permP _ (hl1 u) hcov hm hP2, ft_permD _ (hl1 u) hcov hm hD2⟩, hF1, fun q h1 h2 => hF2 q h1 (fun h3 => h2 (ft_Asub hC q h3))⟩
theorem ft_fr (h : Met l y cw rm (ftRW D cI cS av wc sz) (ftXi D wc sz post w1) 0 0 (va_A wc sz)) (g : S → S') (hpost : ∀ r u, post r u → post' r (g u)) (isC isR : List Nat) (hC : isC.map (fun i => ws[i]?) = wc.map some) (hcn : va_nd isC = true) (hl : ws.length = n) (hlt : ∀ i ∈ isR, i < n) (hn : va_nd isR = true) (hdis : ∀ i ∈ isR, i ∉ isC) (hcov : ∀ i, i < n → i ∈ isR ++ isC) (hl1 : ∀ u, (ws1 (g u)).length = n) (hC1 : ∀ u, isC.map (fun i => (ws1 (g u))[i]?) = (w1 u).map some) (hR1 : ∀ u, isR.map (fun i => (ws1 (g u))[i]?) = isR.map (fun i => ws[i]?)) :
    Met l y cw rm (ftRWS D cI cS sK sV av ws sz) (ftXi D ws sz post' ws1) 0 0 (va_A ws sz) :=
  ft_frS (ft_weak h (Pc' := ftRWS D cI cS sK sV av wc sz) (fun _ _ q => ⟨q.1, q.2.1, q.2.2.1, q.2.2.2.1, q.2.2.2.2.1⟩) (fun _ _ _ _ _ q => q) (fun _ q => q)) g hpost isC isR hC hcn hl hlt hn hdis hcov hl1 hC1 hR1
theorem ft_frO {r0 : Int32} (h : Met l y cw rm (ftRO D cI cS av wc) (vp_Si (fun x => x = r0)) 0 0 (fun _ => False)) (isC : List Nat) (hC : isC.map (fun i => ws[i]?) = wc.map some) (u0 : S') (hu : post' r0 u0) (he : ws1 u0 = ws) :
    Met l y cw rm (ftRWS D cI cS sK sV av ws sz) (ftXi D ws sz post' ws1) 0 0 (va_A ws sz) := by
  refine ft_weak h (fun a s q => ?_) (fun a s o t q0 q => ?_) (fun q hq => hq.elim)
  · obtain ⟨ha, hz, hP, hK, hD, hSt⟩ := q
    exact ⟨ha, hP.sub isC (ft_fm hC), hK⟩
  · obtain ⟨ha, hz, hP, hK, hD, hSt⟩ := q0
    obtain ⟨r, ho, hr, hh⟩ := q
    subst hz
    subst hr
    exact ⟨⟨r, u0, ho, hu, by rw [he, hh]; exact hP, by rw [he]; exact hD.self⟩, Nat.le_of_eq (by rw [hh]), fun q _ _ => by rw [hh]⟩
end FTFR
