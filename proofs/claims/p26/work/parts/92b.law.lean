/-! the script's numbers -/
def lxScr (D : va_G) (cI cS : ClassId) (b L : Nat) (xs : Nat → Int32) (av : List Value) : Array Value → State → Prop := va_Pc av (fun U => va_T .int b L (fun j => .int (xs j)) (fun _ => False) U U.heap ∧ ftK D cI cS U)
theorem lx_blindS {D : va_G} {cI cS : ClassId} {b L : Nat} {xs : Nat → Int32} {av : List Value} : FrameBlind (lxScr D cI cS b L xs av) := fun a U g mk q => ⟨q.1, va_T.moved (u := U) (U := U.calling g mk a) (Vm.Alike.refl U.vm) q.2.1, q.2.2.call⟩
theorem lx_scrT {b L : Nat} {xs : Nat → Int32} {s : State} {A : Nat → Prop} (h : va_X b L xs s s.heap) (hA : ¬ A b) : va_T .int b L (fun j => .int (xs j)) A s s.heap := by
  obtain ⟨scr, h1, h2, h3, h4, h5⟩ := h
  exact ⟨scr, h1, h2, h3, Nat.le_of_eq h4.symm, by rw [h4], h5, hA⟩
theorem lx_preS {D : va_G} {cI cS : ClassId} {b L : Nat} {xs : Nat → Int32} {As : List Value} {s : State} {H : Heap} {A : Nat → Prop} {locs : List Loc} (hT : va_T .int b L (fun j => .int (xs j)) A s s.heap) (hK : ftK D cI cS s) (hS : va_S A s.heap H locs) : PreS s H (lxScr D cI cS b L xs As) As :=
  ⟨lx_blindS, fun U hU hW => ⟨rfl, by rw [hU]; exact va_T.moved hW.alike ((hT.kept hS.2.1).narrow (fun _ h => h.elim)), hK.warm hW⟩⟩
section LXCSP
variable {p : Program} {l : Launch} {e : Env} {R : Room} {s : State} {m : MethodId} {args : Array Value} {below : List Frame} {meth : Method} {c : Code} {H : Heap} {locs : List Loc} {cells slots : Nat} {Q : State → Prop}
theorem ft_csp {P : Int32 → Prop} {a : Array Value} {st0 rest : List Value} {pc : Nat} {ls : Array Slot} (hr : va_Run p l e R s m args below meth c H locs cells slots 0 0 (F0 m pc ls st0) rest (vp_Si P a) (fun _ => False))
    (kk : ∀ r : Int32, P r → W p l e R s m args below meth c H locs cells slots Q (F0 m (pc + 3) ls (.int r :: rest))) : W p l e R s m args below meth c H locs cells slots Q (F0 m pc ls st0) := by
  intro T hT X
  obtain ⟨v, st₀, t, T', L, h0, X', hL, e1, -, ⟨r, hv, hp, hh⟩, st⟩ := hr T hT X
  cases hv
  obtain ⟨t2, a1, b1⟩ := kk r hp T' (by rw [e1, hh, h0]) (Stand.forget X' (fun q h => (hL q h).elim))
  exact ⟨t2, st t2 a1, b1⟩
end LXCSP
set_option maxHeartbeats 4000000 in
set_option maxRecDepth 100000 in
theorem c_L_cell (l : Launch) (D : va_G) (cI cS : ClassId) (b L : Nat) (xs : Nat → Int32) (k : Nat) (hL : L < 2 ^ 30) (hk : k < 1000) : Met l yL_cell wsL_cell ({ frames := 0, cells := 0, slots := 0, locals := 0 }) (lxScr D cI cS b L xs [.ref b, .int (nI k)]) (vp_Si (fun o9 => ∃ j, j < 2 ^ 31 ∧ o9 = nI j)) 0 0 (fun _ => False) := by
  refine Met.ofW (cc := cL_cell) (maxL := 2) (ret := (some .int)) (by decide) rfl ?_
  intro p e s m args below meth c s₁ B hml hv
  obtain ⟨rfl, hT, hKK⟩ := hv
  have hx := B.exec
  have hb := B.bytes
  have hr := B.returns
  have hts := atoms_spec (ws := wsL_cell) B.pre
  have hown : s.vm.findClass RL = some m.cls := findClass_of_methodNamed B.named
  have hlocks := B.notSynchronized
  have hS : va_S (fun _ => False) s.heap s.heap [] := va_S.rf
  have hl := lv_entry ([.ref b, .int (nI k)]) (n := 2) (Nat.le_of_ble_eq_true rfl)
  rw [lg_entry_eq]
  generalize (lg_sl ([.ref b, .int (nI k)]) ++ List.replicate (2 - (lg_sl ([.ref b, .int (nI k)])).length) Slot.unset).toArray = ls at hl ⊢
  have hl : lv_has ls 2 [(0, .ref b), (1, .int (nI k))] := hl
  refine lv_iload_n hx hb dL_cell_0 rfl (lv_at hl 1 rfl) ?_
  refine lv_aload_n hx hb dL_cell_1 rfl (lv_at hl 0 rfl) ?_
  refine va_tlen (v := Int32.ofNat L) hx hb hT hS rfl dL_cell_2 ?_
  refine lv_icmp_ge (tgt := 12) hx hb dL_cell_3 (by decide) (fun c3 => ?_) (fun c3 => ?_)
  · refine lv_ldc (v := 15485207) hx hb hown (hts (.constant RL 7 15485207) (by decide +kernel)) dL_cell_12 ?_
    refine lv_iload_n hx hb dL_cell_14 rfl (lv_at hl 1 rfl) ?_
    refine lv_imul hx hb dL_cell_15 ?_
    refine lv_sipush (v := 307) hx hb dL_cell_16 (by decide) ?_
    refine lv_iadd hx hb dL_cell_19 ?_
    refine lv_ldc (v := 2147483647) hx hb hown (hts (.constant RL 8 2147483647) (by decide +kernel)) dL_cell_20 ?_
    refine lv_iand hx hb dL_cell_22 ?_
    exact W.iret (v := (15485207 * nI k + 307) &&& 2147483647) hx hb hr (fun t ht hW => ⟨(15485207 * nI k + 307) &&& 2147483647, rfl, pk_andE _ 31 (by decide), ht⟩) (fun _ h9 => absurd h9 List.not_mem_nil) dL_cell_23
  · have hkL : k < L := (nI_ltI (by omega) (by omega)).mp (Int32.not_le.mp c3)
    refine lv_aload_n hx hb dL_cell_6 rfl (lv_at hl 0 rfl) ?_
    refine lv_iload_n hx hb dL_cell_7 rfl (lv_at hl 1 rfl) ?_
    refine va_ti hx hb hT hS (vp_in_nI hkL (by omega)) (v := .int (xs k)) (by rw [nI_clamp (by omega)]) dL_cell_8 ?_
    refine lv_goto (tgt := 20) hx hb dL_cell_9 (by decide) ?_
    refine lv_ldc (v := 2147483647) hx hb hown (hts (.constant RL 8 2147483647) (by decide +kernel)) dL_cell_20 ?_
    refine lv_iand hx hb dL_cell_22 ?_
    exact W.iret (v := xs k &&& 2147483647) hx hb hr (fun t ht hW => ⟨xs k &&& 2147483647, rfl, pk_andE _ 31 (by decide), ht⟩) (fun _ h9 => absurd h9 List.not_mem_nil) dL_cell_23
/-- a new object, last in the world -/
theorem ft_preNA {D : va_G} {cI cS : ClassId} {sK sV : Nat → Nat} {As : List Value} {X : va_W} {x : Nat × va_E} {s : State} {H : Heap} {A : Nat → Prop} {locs : List Loc} (hP : va_P D vwCl (X ++ [x]) H) (hD : va_D A (X ++ [x])) (hK : ftK D cI cS s) (hSt : ftSt sK sV A s s.heap) (hAO : ftAO s) (hS : va_S A s.heap H locs) (hA : ∀ q, s.heap.size ≤ q → A q) : PreS s H (ftRWSA D cI cS sK sV As [x] H.size) As :=
  ⟨ft_blindRWSA, fun U hU hW => ⟨rfl, by rw [hU], by rw [hU]; exact ft_PR hP, hK.warm hW, (ft_DR hD).weaken (fun _ _ _ _ => trivial), hSt.go hS (va_free hD hS hA (List.range' X.length 1) (ft_mR X [x])) hU hW, hAO.warm hW⟩⟩
theorem lxO_st : lxO 0 ftC0 ftW0 ftZr 0 (fun _ => 0) 0 := ⟨ftR2_0, rfl, rfl, rfl⟩
theorem lxQ_st : lxQ ftC0 ftW0 (fun _ => 0) 0 := by
  obtain ⟨h1, h2, h3, h4, -, -, -, -, h9, -, h11, h12⟩ := ftC0_cr
  exact ⟨⟨h1, h2, h3, h4, h9, h11, h12, rfl⟩, rfl, rfl⟩
theorem lx_par0 (tx : Nat → Int32) : ftCPar tx 0 = some (ftMd0 (fun _ => 0)) := lxG_all (lxG_0 tx)
theorem lxPt_10 {w : Nat → Int32} (h : ftWf w) : ftPtA w 10 0 = -1000001 := by
  unfold ftPtA
  refine ftIte_f (fun q => ?_)
  have q2 := q.1.2
  have hn := ftWf_n h
  rw [ftWf_3 h] at q2
  rcases Nat.eq_zero_or_pos (ftCN w) with r | r
  · rw [r] at q2; exact absurd q2 (by decide)
  · rw [show nI (ftCN w) - 1 = nI (ftCN w - 1) from ft_subN (b := 1) (by omega)] at q2
    have := (nI_leI (a := 10) (by omega) (by omega)).mp q2
    omega
