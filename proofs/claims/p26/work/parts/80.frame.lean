/-! contracts over whole blocks, block by block -/
theorem ft_gL {X Y : va_W} {k : Nat} {q : Nat × va_E} (h : X[k]? = some q) : (X ++ Y)[k]? = some q := by
  rw [List.getElem?_append_left (List.getElem?_eq_some_iff.mp h).1]; exact h
theorem ft_gR {X Y : va_W} {k : Nat} {q : Nat × va_E} (h : Y[k]? = some q) : (X ++ Y)[X.length + k]? = some q := by
  rw [List.getElem?_append_right (by omega), show X.length + k - X.length = k by omega]; exact h
theorem ft_PL {D : va_G} {cl : List vw_C} {X Y : va_W} {H : Heap} (h : va_P D cl (X ++ Y) H) : va_P D cl X H := fun k q hk => h k q (ft_gL hk)
theorem ft_PR {D : va_G} {cl : List vw_C} {X Y : va_W} {H : Heap} (h : va_P D cl (X ++ Y) H) : va_P D cl Y H := fun _ q hk => h _ q (ft_gR hk)
theorem ft_DL {A : Nat → Prop} {X Y : va_W} (h : va_D A (X ++ Y)) : va_D A X := ⟨fun i j p q hp hq e => h.1 i j p q (ft_gL hp) (ft_gL hq) e, fun k q hk => h.2 k q (ft_gL hk)⟩
theorem ft_DR {A : Nat → Prop} {X Y : va_W} (h : va_D A (X ++ Y)) : va_D A Y := ⟨fun i j p q hp hq e => by have := h.1 _ _ p q (ft_gR hp) (ft_gR hq) e; omega, fun _ q hk => h.2 _ q (ft_gR hk)⟩
theorem ft_DS {A : Nat → Prop} {X Y : va_W} (h : va_D A (Y ++ X)) : va_D A (X ++ Y) := va_D.app (ft_DR h) (ft_DL h) (fun i j p q hp hq e => by
  have h1 := h.1 _ _ p q (ft_gR hp) (ft_gL hq) e
  have h2 := (List.getElem?_eq_some_iff.mp hq).1
  omega)
theorem ft_PS {D : va_G} {cl : List vw_C} {X Y : va_W} {H : Heap} (h : va_P D cl (Y ++ X) H) : va_P D cl (X ++ Y) H := va_P.app (ft_PR h) (ft_PL h)
theorem ft_mL (X Y : va_W) : (List.range' 0 X.length).map (fun i => (X ++ Y)[i]?) = X.map some := by
  refine List.ext_getElem (by simp) (fun i h1 h2 => ?_)
  have hi : i < X.length := by simpa using h1
  rw [List.getElem_map, List.getElem_map, List.getElem_range', Nat.zero_add, Nat.one_mul, List.getElem?_append_left hi, List.getElem?_eq_getElem hi]
theorem ft_mR (X Y : va_W) : (List.range' X.length Y.length).map (fun i => (X ++ Y)[i]?) = Y.map some := by
  refine List.ext_getElem (by simp) (fun i h1 h2 => ?_)
  have hi : i < Y.length := by simpa using h1
  rw [List.getElem_map, List.getElem_map, List.getElem_range', Nat.one_mul, List.getElem?_append_right (by omega), show X.length + i - X.length = i by omega, List.getElem?_eq_getElem hi]
theorem ft_dLR (X Y : va_W) : ∀ i ∈ List.range' X.length Y.length, i ∉ List.range' 0 X.length := by
  intro i hi
  rw [List.mem_range'_1] at hi ⊢
  omega
theorem ft_dRL (X Y : va_W) : ∀ i ∈ List.range' 0 X.length, i ∉ List.range' X.length Y.length := by
  intro i hi
  rw [List.mem_range'_1] at hi ⊢
  omega
theorem ft_inP {D : va_G} {cl : List vw_C} {ws : va_W} {H : Heap} : va_P D cl ws H ↔ ∀ q ∈ ws, va_at D cl q H :=
  ⟨fun h q hq => by obtain ⟨k, hk⟩ := List.getElem?_of_mem hq; exact h k q hk, fun h k q hk => h q (List.mem_of_getElem? hk)⟩
theorem ft_inD {A : Nat → Prop} {ws : va_W} : va_D A ws ↔ (ws.map Prod.fst).Nodup ∧ ∀ q ∈ ws, A q.1 := by
  constructor
  · intro h
    refine ⟨?_, fun q hq => by obtain ⟨k, hk⟩ := List.getElem?_of_mem hq; exact h.2 k q hk⟩
    rw [List.Nodup, List.pairwise_iff_getElem]
    intro i j hi hj hij e
    have hi' : i < ws.length := by simpa using hi
    have hj' : j < ws.length := by simpa using hj
    have := h.1 i j ws[i] ws[j] (List.getElem?_eq_getElem hi') (List.getElem?_eq_getElem hj') (by simpa using e)
    omega
  · intro h
    obtain ⟨h1, h2⟩ := h
    rw [List.Nodup, List.pairwise_iff_getElem] at h1
    refine ⟨fun i j p q hp hq e => ?_, fun k q hk => h2 q (List.mem_of_getElem? hk)⟩
    obtain ⟨hi, ei⟩ := List.getElem?_eq_some_iff.mp hp
    obtain ⟨hj, ej⟩ := List.getElem?_eq_some_iff.mp hq
    rcases Nat.lt_trichotomy i j with r | r | r
    · exact absurd (show (ws.map Prod.fst)[i]'(by simpa using hi) = (ws.map Prod.fst)[j]'(by simpa using hj) by rw [List.getElem_map, List.getElem_map, ei, ej]; exact e) (h1 i j (by simpa using hi) (by simpa using hj) r)
    · exact r
    · exact absurd (show (ws.map Prod.fst)[j]'(by simpa using hj) = (ws.map Prod.fst)[i]'(by simpa using hi) by rw [List.getElem_map, List.getElem_map, ei, ej]; exact e.symm) (h1 j i (by simpa using hj) (by simpa using hi) r)
theorem ft_pmP {D : va_G} {cl : List vw_C} {ws ws' : va_W} {H : Heap} (hp : ws.Perm ws') (h : va_P D cl ws H) : va_P D cl ws' H := ft_inP.mpr fun q hq => ft_inP.mp h q (hp.mem_iff.mpr hq)
theorem ft_pmD {A : Nat → Prop} {ws ws' : va_W} (hp : ws.Perm ws') (h : va_D A ws) : va_D A ws' := by
  rw [ft_inD] at h ⊢
  exact ⟨(hp.map Prod.fst).nodup_iff.mp h.1, fun q hq => h.2 q (hp.mem_iff.mpr hq)⟩
theorem ft_pmA {ws ws' : va_W} {sz : Nat} (hp : ∀ q, q ∈ ws' → q ∈ ws) (q : Nat) (h : va_A ws' sz q) : va_A ws sz q := by
  rcases h with ⟨k, e, hk⟩ | h
  · obtain ⟨j, hj⟩ := List.getElem?_of_mem (hp _ (List.mem_of_getElem? hk))
    exact Or.inl ⟨j, e, hj⟩
  · exact Or.inr h
abbrev ftFlt (n : Nat) (f : Nat → va_W) : va_W := ((List.range n).map f).flatten
theorem ft_flt {n : Nat} {isC isR : List Nat} (f : Nat → va_W) (hp : (isC ++ isR).Perm (List.range n)) : (ftFlt n f).Perm ((isC.map f).flatten ++ (isR.map f).flatten) := by
  have h := (hp.map f).flatten
  rw [List.map_append, List.flatten_append] at h
  exact h.symm
theorem ftSt.narrow {sK sV : Nat → Nat} {A B : Nat → Prop} {U : State} {H : Heap} (h : ftSt sK sV A U H) (hB : ∀ q, B q → A q) : ftSt sK sV B U H := by
  obtain ⟨h1, h2, h3, h4, h5, h6⟩ := h
  exact ⟨h1.narrow hB, h2.narrow hB, h3.narrow hB, h4, fun k hk => (h5 k hk).narrow hB, fun k hk => (h6 k hk).narrow hB⟩
/-- behind a call of a part of a world -/
theorem ft_jnL {D : va_G} {A : Nat → Prop} {X X1 Y : va_W} {H H1 : Heap} (hP : va_P D vwCl (X ++ Y) H) (hD : va_D A (X ++ Y)) (hk : ∀ q : Nat, q < H.size → ¬ va_A X H.size q → H1[q]? = H[q]?) (hF : ∀ q, va_A X H.size q → A q) (hP1 : va_P D vwCl X1 H1) (hD1 : va_D (va_A X H.size) X1) : va_P D vwCl (X1 ++ Y) H1 ∧ va_D A (X1 ++ Y) := by
  obtain ⟨hP2, hD2⟩ := va_join (wr := Y) (w1 := X1) hP hD (List.range' 0 X.length) (List.range' X.length Y.length) (ft_mL X Y) (ft_mR X Y) (ft_ndr _ _) (ft_dLR X Y) hk hF hP1 hD1
  exact ⟨ft_PS hP2, ft_DS hD2⟩
section FTFR
variable {S S' : Type} {l : Launch} {y : MethodName} {cw : List Cond} {rm : Room} {D : va_G} {cI cS : ClassId} {sK sV : Nat → Nat} {av : List Value} {wc : va_W} {w1 : S → va_W} {f : Nat → va_W} {f' : S' → Nat → va_W} {sz n : Nat} {post : Int32 → S → Prop} {post' : Int32 → S' → Prop}
theorem ft_frS (h : Met l y cw rm (ftRWS D cI cS sK sV av wc sz) (ftXi D wc sz post w1) 0 0 (va_A wc sz)) (g : S → S') (hpost : ∀ r u, post r u → post' r (g u)) (isC isR : List Nat) (hp : (isC ++ isR).Perm (List.range n)) (hC : (isC.map f).flatten = wc) (hC1 : ∀ u, (isC.map (f' (g u))).flatten = w1 u) (hR1 : ∀ u, isR.map (f' (g u)) = isR.map f) :
    Met l y cw rm (ftRWS D cI cS sK sV av (ftFlt n f) sz) (ftXi D (ftFlt n f) sz post' (fun u => ftFlt n (f' u))) 0 0 (va_A (ftFlt n f) sz) := by
  have hpm := ft_flt f hp
  rw [hC] at hpm
  have hsub : ∀ q, q ∈ wc → q ∈ ftFlt n f := fun q hq => hpm.mem_iff.mpr (List.mem_append_left _ hq)
  refine ft_weak h (fun a s q => ?_) (fun a s o t q0 q => ?_) (fun q hq => ft_pmA hsub q hq)
  · obtain ⟨ha, hz, hP, hK, hD, hSt⟩ := q
    exact ⟨ha, hz, ft_PL (ft_pmP hpm hP), hK, ft_DL (ft_pmD hpm hD), hSt.narrow (ft_pmA hsub)⟩
  · obtain ⟨ha, hz, hP, hK, hD, hSt⟩ := q0
    obtain ⟨⟨r, u, ho, hpo, hP1, hD1⟩, hF1, hF2⟩ := q
    subst hz
    have hDs := ft_pmD hpm (hD.self (sz := s.heap.size))
    obtain ⟨hP2, hD2⟩ := ft_jnL (ft_pmP hpm hP) hDs hF2 (ft_pmA hsub) hP1 hD1
    have hpm1 := ft_flt (f' (g u)) hp
    rw [hC1 u, hR1 u] at hpm1
    exact ⟨⟨r, g u, ho, hpost r u hpo, ft_pmP hpm1.symm hP2, ft_pmD hpm1.symm hD2⟩, hF1, fun q h1 h2 => hF2 q h1 (fun h3 => h2 (ft_pmA hsub q h3))⟩
theorem ft_fr (h : Met l y cw rm (ftRW D cI cS av wc sz) (ftXi D wc sz post w1) 0 0 (va_A wc sz)) (g : S → S') (hpost : ∀ r u, post r u → post' r (g u)) (isC isR : List Nat) (hp : (isC ++ isR).Perm (List.range n)) (hC : (isC.map f).flatten = wc) (hC1 : ∀ u, (isC.map (f' (g u))).flatten = w1 u) (hR1 : ∀ u, isR.map (f' (g u)) = isR.map f) :
    Met l y cw rm (ftRWS D cI cS sK sV av (ftFlt n f) sz) (ftXi D (ftFlt n f) sz post' (fun u => ftFlt n (f' u))) 0 0 (va_A (ftFlt n f) sz) :=
  ft_frS (ft_weak h (Pc' := ftRWS D cI cS sK sV av wc sz) (fun _ _ q => ⟨q.1, q.2.1, q.2.2.1, q.2.2.2.1, q.2.2.2.2.1⟩) (fun _ _ _ _ _ q => q) (fun _ q => q)) g hpost isC isR hp hC hC1 hR1
theorem ft_frO {r0 : Int32} (h : Met l y cw rm (ftRO D cI cS av wc) (vp_Si (fun x => x = r0)) 0 0 (fun _ => False)) (isC isR : List Nat) (hp : (isC ++ isR).Perm (List.range n)) (hC : (isC.map f).flatten = wc) (u0 : S') (hu : post' r0 u0) (he : f' u0 = f) :
    Met l y cw rm (ftRWS D cI cS sK sV av (ftFlt n f) sz) (ftXi D (ftFlt n f) sz post' (fun u => ftFlt n (f' u))) 0 0 (va_A (ftFlt n f) sz) := by
  have hpm := ft_flt f hp
  rw [hC] at hpm
  refine ft_weak h (fun a s q => ?_) (fun a s o t q0 q => ?_) (fun q hq => hq.elim)
  · obtain ⟨ha, hz, hP, hK, hD, hSt⟩ := q
    exact ⟨ha, ft_PL (ft_pmP hpm hP), hK⟩
  · obtain ⟨ha, hz, hP, hK, hD, hSt⟩ := q0
    obtain ⟨r, ho, hr, hh⟩ := q
    subst hz
    subst hr
    exact ⟨⟨r, u0, ho, hu, by show va_P D vwCl (ftFlt n (f' u0)) t.heap; rw [he, hh]; exact hP, by show va_D _ (ftFlt n (f' u0)); rw [he]; exact hD.self⟩, Nat.le_of_eq (by rw [hh]), fun q _ _ => by rw [hh]⟩
end FTFR
