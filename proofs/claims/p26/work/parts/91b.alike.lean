set_option maxHeartbeats 4000000 in
set_option maxRecDepth 100000 in
theorem c_L_areAlike (l : Launch) (D : va_G) (cI cS : ClassId) (sz : Nat) (sK sV : Nat → Nat) (o0 p0 : Nat) (Ao Ap : Nat → Nat → Nat) (co cp : ftCdT) (k : Nat) (w z : Nat → Int32) (hm : Nat) (to : Nat → Int32) (no : Nat) (tp : Nat → Int32) (np : Nat) (hk : k < 900) (hO : lxO k co w z hm to no) (hQ : lxQ cp w tp np) : Met l yL_areAlike wsL_areAlike ({ frames := 7, cells := 0, slots := 0, locals := 173 }) (ftRWS D cI cS sK sV [.ref o0, .ref p0] (ftCB9 cI cS o0 Ao (co.1.2.1 0) co ++ ftCB9 cI cS p0 Ap (cp.1.2.1 0) cp) sz) (ftXi D (ftCB9 cI cS o0 Ao (co.1.2.1 0) co ++ ftCB9 cI cS p0 Ap (cp.1.2.1 0) cp) sz (fun (o9 : Int32) (u : ftCdT × ftCdT) => o9 = 1 ∧ (lxO k u.1 w z hm to no) ∧ (lxQ u.2 w tp np)) (fun (u : ftCdT × ftCdT) => (ftCB9 cI cS o0 Ao (u.1.1.2.1 0) u.1 ++ ftCB9 cI cS p0 Ap (u.2.1.2.1 0) u.2))) 0 0 (va_A (ftCB9 cI cS o0 Ao (co.1.2.1 0) co ++ ftCB9 cI cS p0 Ap (cp.1.2.1 0) cp) sz) := by
  refine Met.ofW (cc := cL_areAlike) (maxL := 5) (ret := (some .boolean)) (by decide) rfl ?_
  intro p e s m args below meth c s₁ B hml hv
  obtain ⟨rfl, hsz, hP, hKK, hD0, hSt⟩ := hv
  have hK := hKK.1
  have hx := B.exec
  have hb := B.bytes
  have hr := B.returns
  have hts := atoms_spec (ws := wsL_areAlike) B.pre
  have hown : s.vm.findClass RL = some m.cls := findClass_of_methodNamed B.named
  have hlocks := B.notSynchronized
  subst hsz
  have hD := hD0.self (sz := s.heap.size)
  generalize hAe : va_A (ftCB9 cI cS o0 Ao (co.1.2.1 0) co ++ ftCB9 cI cS p0 Ap (cp.1.2.1 0) cp) s.heap.size = A at hD hSt ⊢
  have hA : ∀ q : Nat, s.heap.size ≤ q → A q := fun q h => by rw [← hAe]; exact Or.inr h
  have hS : va_S A s.heap s.heap [] := va_S.rf
  have hD : va_D A (ftCB9 cI cS o0 Ao (co.1.2.1 0) co ++ ftCB9 cI cS p0 Ap (cp.1.2.1 0) cp) := hD
  have hP : va_P D vwCl (ftCB9 cI cS o0 Ao (co.1.2.1 0) co ++ ftCB9 cI cS p0 Ap (cp.1.2.1 0) cp) s.heap := hP
  have hl := lv_entry ([.ref o0, .ref p0]) (n := 5) (Nat.le_of_ble_eq_true rfl)
  rw [lg_entry_eq]
  generalize (lg_sl ([.ref o0, .ref p0]) ++ List.replicate (5 - (lg_sl ([.ref o0, .ref p0])).length) Slot.unset).toArray = ls at hl ⊢
  have hl : lv_has ls 5 [(0, .ref o0), (1, .ref p0)] := hl
  have hWf := lxO_W hO
  have hn10 := ftWf_n hWf
  have hln := ftWf_ln hWf
  refine lv_iconst (v := 1) hx hb dL_areAlike_0 (by decide) ?_
  refine lv_istore_n (lv' := [(2, .int 1), (0, .ref o0), (1, .ref p0)]) hx hb dL_areAlike_1 rfl hl (by decide) rfl (fun ls hl => ?_)
  refine lv_bipush (v := 11) hx hb dL_areAlike_2 (by decide) ?_
  refine lv_istore_n (lv' := [(3, .int 11), (2, .int 1), (0, .ref o0), (1, .ref p0)]) hx hb dL_areAlike_4 rfl hl (by decide) rfl (fun ls hl => ?_)
  have lp5 : ∀ (n5 : Nat) (i : Nat) (co9 cp9 : ftCdT) (x5_3 : Int32), 16 - i < n5 → (11 ≤ i) → (i ≤ 16) → (lxO k co9 w z hm to no) → (lxQ cp9 w tp np) → x5_3 = nI i → ∀ (H : Heap) (locs : List Loc), va_P D vwCl (ftCB9 cI cS o0 Ao (co9.1.2.1 0) co9 ++ ftCB9 cI cS p0 Ap (cp9.1.2.1 0) cp9) H → va_D A (ftCB9 cI cS o0 Ao (co9.1.2.1 0) co9 ++ ftCB9 cI cS p0 Ap (cp9.1.2.1 0) cp9) → va_S A s.heap H locs → ∀ ls : Array Slot, lv_has ls 5 [(0, .ref o0), (1, .ref p0), (2, .int 1), (3, .int x5_3)] → W p l e (headSpec wsL_areAlike { frames := 7, cells := 0, slots := 0, locals := 173 }).room s m ([.ref o0, .ref p0] : List Value).toArray below meth c H locs 0 0 (MQ below (ftXi D (ftCB9 cI cS o0 Ao (co.1.2.1 0) co ++ ftCB9 cI cS p0 Ap (cp.1.2.1 0) cp) s.heap.size (fun (o9 : Int32) (u : ftCdT × ftCdT) => o9 = 1 ∧ (lxO k u.1 w z hm to no) ∧ (lxQ u.2 w tp np)) (fun (u : ftCdT × ftCdT) => (ftCB9 cI cS o0 Ao (u.1.1.2.1 0) u.1 ++ ftCB9 cI cS p0 Ap (u.2.1.2.1 0) u.2))) ([.ref o0, .ref p0] : List Value).toArray s 0 0 A) (F0 m 5 ls []) := by
    intro n5
    induction n5 with
    | zero =>
      intro i co9 cp9 x5_3  hm5
      exact absurd hm5 (Nat.not_lt_zero _)
    | succ n5 ih5 =>
      intro i co9 cp9 x5_3  hm5 hi11 hi16 hO hQ ex5_3  H locs hP hD hS ls hl
      subst ex5_3
      refine lv_iload_n hx hb dL_areAlike_5 rfl (lv_at hl 3 rfl) ?_
      refine lv_bipush (v := 16) hx hb dL_areAlike_6 (by decide) ?_
      refine lv_icmp_ge (tgt := 40) hx hb dL_areAlike_8 (by decide) (fun c8 => ?_) (fun c8 => ?_)
      · have c8n : 16 ≤ i := ft_leN (by omega) (by omega) c8
        refine lv_iconst (v := 0) hx hb dL_areAlike_40 (by decide) ?_
        refine lv_istore_n (lv' := [(3, .int 0), (0, .ref o0), (1, .ref p0), (2, .int 1)]) hx hb dL_areAlike_41 rfl hl (by decide) rfl (fun ls hl => ?_)
        have lp42 : ∀ (n42 : Nat) (i : Nat) (co9 cp9 : ftCdT) (x42_3 : Int32), 11 - i < n42 → (i ≤ ftCN w) → (lxO k co9 w z hm to no) → (lxQ cp9 w tp np) → x42_3 = nI i → ∀ (H : Heap) (locs : List Loc), va_P D vwCl (ftCB9 cI cS o0 Ao (co9.1.2.1 0) co9 ++ ftCB9 cI cS p0 Ap (cp9.1.2.1 0) cp9) H → va_D A (ftCB9 cI cS o0 Ao (co9.1.2.1 0) co9 ++ ftCB9 cI cS p0 Ap (cp9.1.2.1 0) cp9) → va_S A s.heap H locs → ∀ ls : Array Slot, lv_has ls 5 [(0, .ref o0), (1, .ref p0), (2, .int 1), (3, .int x42_3)] → W p l e (headSpec wsL_areAlike { frames := 7, cells := 0, slots := 0, locals := 173 }).room s m ([.ref o0, .ref p0] : List Value).toArray below meth c H locs 0 0 (MQ below (ftXi D (ftCB9 cI cS o0 Ao (co.1.2.1 0) co ++ ftCB9 cI cS p0 Ap (cp.1.2.1 0) cp) s.heap.size (fun (o9 : Int32) (u : ftCdT × ftCdT) => o9 = 1 ∧ (lxO k u.1 w z hm to no) ∧ (lxQ u.2 w tp np)) (fun (u : ftCdT × ftCdT) => (ftCB9 cI cS o0 Ao (u.1.1.2.1 0) u.1 ++ ftCB9 cI cS p0 Ap (u.2.1.2.1 0) u.2))) ([.ref o0, .ref p0] : List Value).toArray s 0 0 A) (F0 m 42 ls []) := by
          intro n42
          induction n42 with
          | zero =>
            intro i co9 cp9 x42_3  hm42
            exact absurd hm42 (Nat.not_lt_zero _)
          | succ n42 ih42 =>
            intro i co9 cp9 x42_3  hm42 hi0 hO hQ ex42_3  H locs hP hD hS ls hl
            subst ex42_3
            refine lv_iload_n hx hb dL_areAlike_42 rfl (lv_at hl 3 rfl) ?_
            refine lv_aload_n hx hb dL_areAlike_43 rfl (lv_at hl 0 rfl) ?_
            refine lv_bipush (v := 14) hx hb dL_areAlike_44 (by decide) ?_
            refine ft_callB (X := (ftCB9 cI cS o0 Ao (co9.1.2.1 0) co9)) (Y := (ftCB9 cI cS p0 Ap (cp9.1.2.1 0) cp9)) (X1 := fun (u46 : ftCdT) => (ftCB9 cI cS o0 Ao (u46.1.2.1 0) u46)) (ws1 := fun (u46 : ftCdT) => (ftCB9 cI cS o0 Ao (u46.1.2.1 0) u46 ++ ftCB9 cI cS p0 Ap (cp9.1.2.1 0) cp9)) (va_runV (C := RX10) (As := [.int 14]) (rest := [.int (nI i)]) ⟨hx, hb, hml, hown, hts⟩ (eo_count l D cI cS H.size sK sV o0 Ao co9 k w z hm to no 14 (by omega) hO) (cwV 1 hts gL_areAlike_X10_count rfl rfl rfl (by decide +kernel) ⟨Nat.le_of_ble_eq_true rfl, Nat.le_of_ble_eq_true rfl⟩) (ft_preB (ci := 10) (List.Perm.refl _) hP hD hKK hSt hS hA rfl rfl) rfl rfl hl.1 rfl (lv_room (Nat.le_of_ble_eq_true rfl)) dL_areAlike_46 ⟨Nat.le_of_ble_eq_true rfl, Nat.le_of_ble_eq_true rfl⟩) hP hD hS hA (List.Perm.refl _) (fun _ => (List.Perm.symm (List.Perm.refl _))) (fun r46 u46 h46 H locs hP hD hS => ?_)
            have hP : va_P D vwCl (ftCB9 cI cS o0 Ao (u46.1.2.1 0) u46 ++ ftCB9 cI cS p0 Ap (cp9.1.2.1 0) cp9) H := hP
            have hD : va_D A (ftCB9 cI cS o0 Ao (u46.1.2.1 0) u46 ++ ftCB9 cI cS p0 Ap (cp9.1.2.1 0) cp9) := hD
            obtain ⟨hr46, hO⟩ := h46
            subst hr46
            refine ft_top (y := nI (ftCN w)) (lxCnt_14 hWf) ?_
            refine lv_icmp_ge (tgt := 105) hx hb dL_areAlike_49 (by decide) (fun c49 => ?_) (fun c49 => ?_)
            · have c49n : (ftCN w) ≤ i := ft_leN (by omega) (by omega) c49
              refine lv_iconst (v := 0) hx hb dL_areAlike_105 (by decide) ?_
              refine lv_istore_n (lv' := [(3, .int 0), (0, .ref o0), (1, .ref p0), (2, .int 1)]) hx hb dL_areAlike_106 rfl hl (by decide) rfl (fun ls hl => ?_)
              have lp107 : ∀ (n107 : Nat) (i2 : Nat) (co9 cp9 : ftCdT) (x107_3 : Int32), 8 - i2 < n107 → (i2 ≤ 8) → (lxO k co9 w z hm to no) → (lxQ cp9 w tp np) → x107_3 = nI i2 → ∀ (H : Heap) (locs : List Loc), va_P D vwCl (ftCB9 cI cS o0 Ao (co9.1.2.1 0) co9 ++ ftCB9 cI cS p0 Ap (cp9.1.2.1 0) cp9) H → va_D A (ftCB9 cI cS o0 Ao (co9.1.2.1 0) co9 ++ ftCB9 cI cS p0 Ap (cp9.1.2.1 0) cp9) → va_S A s.heap H locs → ∀ ls : Array Slot, lv_has ls 5 [(0, .ref o0), (1, .ref p0), (2, .int 1), (3, .int x107_3)] → W p l e (headSpec wsL_areAlike { frames := 7, cells := 0, slots := 0, locals := 173 }).room s m ([.ref o0, .ref p0] : List Value).toArray below meth c H locs 0 0 (MQ below (ftXi D (ftCB9 cI cS o0 Ao (co.1.2.1 0) co ++ ftCB9 cI cS p0 Ap (cp.1.2.1 0) cp) s.heap.size (fun (o9 : Int32) (u : ftCdT × ftCdT) => o9 = 1 ∧ (lxO k u.1 w z hm to no) ∧ (lxQ u.2 w tp np)) (fun (u : ftCdT × ftCdT) => (ftCB9 cI cS o0 Ao (u.1.1.2.1 0) u.1 ++ ftCB9 cI cS p0 Ap (u.2.1.2.1 0) u.2))) ([.ref o0, .ref p0] : List Value).toArray s 0 0 A) (F0 m 107 ls []) := by
                intro n107
                induction n107 with
                | zero =>
                  intro i2 co9 cp9 x107_3  hm107
                  exact absurd hm107 (Nat.not_lt_zero _)
                | succ n107 ih107 =>
                  intro i2 co9 cp9 x107_3  hm107 hi8 hO hQ ex107_3  H locs hP hD hS ls hl
                  subst ex107_3
                  refine lv_iload_n hx hb dL_areAlike_107 rfl (lv_at hl 3 rfl) ?_
                  refine lv_bipush (v := 8) hx hb dL_areAlike_108 (by decide) ?_
                  refine lv_icmp_ge (tgt := 142) hx hb dL_areAlike_110 (by decide) (fun c110 => ?_) (fun c110 => ?_)
                  · have c110n : 8 ≤ i2 := ft_leN (by omega) (by omega) c110
                    refine lv_iconst (v := 0) hx hb dL_areAlike_142 (by decide) ?_
                    refine lv_istore_n (lv' := [(3, .int 0), (0, .ref o0), (1, .ref p0), (2, .int 1)]) hx hb dL_areAlike_143 rfl hl (by decide) rfl (fun ls hl => ?_)
                    have lp144 : ∀ (n144 : Nat) (i3 : Nat) (co9 cp9 : ftCdT) (x144_3 : Int32), 500 - i3 < n144 → (i3 ≤ 500) → (lxO k co9 w z hm to no) → (lxQ cp9 w tp np) → x144_3 = nI i3 → ∀ (H : Heap) (locs : List Loc), va_P D vwCl (ftCB9 cI cS o0 Ao (co9.1.2.1 0) co9 ++ ftCB9 cI cS p0 Ap (cp9.1.2.1 0) cp9) H → va_D A (ftCB9 cI cS o0 Ao (co9.1.2.1 0) co9 ++ ftCB9 cI cS p0 Ap (cp9.1.2.1 0) cp9) → va_S A s.heap H locs → ∀ ls : Array Slot, lv_has ls 5 [(0, .ref o0), (1, .ref p0), (2, .int 1), (3, .int x144_3)] → W p l e (headSpec wsL_areAlike { frames := 7, cells := 0, slots := 0, locals := 173 }).room s m ([.ref o0, .ref p0] : List Value).toArray below meth c H locs 0 0 (MQ below (ftXi D (ftCB9 cI cS o0 Ao (co.1.2.1 0) co ++ ftCB9 cI cS p0 Ap (cp.1.2.1 0) cp) s.heap.size (fun (o9 : Int32) (u : ftCdT × ftCdT) => o9 = 1 ∧ (lxO k u.1 w z hm to no) ∧ (lxQ u.2 w tp np)) (fun (u : ftCdT × ftCdT) => (ftCB9 cI cS o0 Ao (u.1.1.2.1 0) u.1 ++ ftCB9 cI cS p0 Ap (u.2.1.2.1 0) u.2))) ([.ref o0, .ref p0] : List Value).toArray s 0 0 A) (F0 m 144 ls []) := by
                      intro n144
                      induction n144 with
                      | zero =>
                        intro i3 co9 cp9 x144_3  hm144
                        exact absurd hm144 (Nat.not_lt_zero _)
                      | succ n144 ih144 =>
                        intro i3 co9 cp9 x144_3  hm144 hi9 hO hQ ex144_3  H locs hP hD hS ls hl
                        subst ex144_3
                        refine lv_iload_n hx hb dL_areAlike_144 rfl (lv_at hl 3 rfl) ?_
                        refine lv_aload_n hx hb dL_areAlike_145 rfl (lv_at hl 0 rfl) ?_
                        refine lv_bipush (v := 15) hx hb dL_areAlike_146 (by decide) ?_
                        refine ft_callB (X := (ftCB9 cI cS o0 Ao (co9.1.2.1 0) co9)) (Y := (ftCB9 cI cS p0 Ap (cp9.1.2.1 0) cp9)) (X1 := fun (u148 : ftCdT) => (ftCB9 cI cS o0 Ao (u148.1.2.1 0) u148)) (ws1 := fun (u148 : ftCdT) => (ftCB9 cI cS o0 Ao (u148.1.2.1 0) u148 ++ ftCB9 cI cS p0 Ap (cp9.1.2.1 0) cp9)) (va_runV (C := RX10) (As := [.int 15]) (rest := [.int (nI i3)]) ⟨hx, hb, hml, hown, hts⟩ (eo_count l D cI cS H.size sK sV o0 Ao co9 k w z hm to no 15 (by omega) hO) (cwV 1 hts gL_areAlike_X10_count rfl rfl rfl (by decide +kernel) ⟨Nat.le_of_ble_eq_true rfl, Nat.le_of_ble_eq_true rfl⟩) (ft_preB (ci := 10) (List.Perm.refl _) hP hD hKK hSt hS hA rfl rfl) rfl rfl hl.1 rfl (lv_room (Nat.le_of_ble_eq_true rfl)) dL_areAlike_148 ⟨Nat.le_of_ble_eq_true rfl, Nat.le_of_ble_eq_true rfl⟩) hP hD hS hA (List.Perm.refl _) (fun _ => (List.Perm.symm (List.Perm.refl _))) (fun r148 u148 h148 H locs hP hD hS => ?_)
                        have hP : va_P D vwCl (ftCB9 cI cS o0 Ao (u148.1.2.1 0) u148 ++ ftCB9 cI cS p0 Ap (cp9.1.2.1 0) cp9) H := hP
                        have hD : va_D A (ftCB9 cI cS o0 Ao (u148.1.2.1 0) u148 ++ ftCB9 cI cS p0 Ap (cp9.1.2.1 0) cp9) := hD
                        obtain ⟨hr148, hO⟩ := h148
                        subst hr148
                        refine ft_top (y := nI (ftCL w + 60)) lxCnt_15a ?_
                        refine lv_icmp_ge (tgt := 185) hx hb dL_areAlike_151 (by decide) (fun c151 => ?_) (fun c151 => ?_)
                        · have c151n : (ftCL w + 60) ≤ i3 := ft_leN (by omega) (by omega) c151
                          refine lv_iload_n hx hb dL_areAlike_185 rfl (lv_at hl 2 rfl) ?_
                          obtain ⟨u9, hu9⟩ : ∃ u9 : ftCdT × ftCdT, u9 = (u148, cp9) := ⟨_, rfl⟩
                          have hw9 : ((ftCB9 cI cS o0 Ao (u148.1.2.1 0) u148 ++ ftCB9 cI cS p0 Ap (cp9.1.2.1 0) cp9) : va_W) = (ftCB9 cI cS o0 Ao (u9.1.1.2.1 0) u9.1 ++ ftCB9 cI cS p0 Ap (u9.2.1.2.1 0) u9.2) := by subst hu9; rfl
                          rw [hw9] at hP hD
                          have hf9_0 : lxO k u9.1 w z hm to no := by rw [hu9]; exact hO
                          have hf9_1 : lxQ u9.2 w tp np := by rw [hu9]; exact hQ
                          have hr9 : (1 : Int32) = 1 := by exact rfl
                          exact W.zret (v := 1) hx hb hr (by rfl) (fun t ht hW => ⟨⟨1, u9, rfl, ⟨hr9, ⟨hf9_0, hf9_1⟩⟩, by rw [ht]; exact hP, by rw [hAe]; exact hD⟩, by rw [hAe]; exact hS.F ht⟩) hS.2.2 dL_areAlike_186
                        · have c151n : i3 < (ftCL w + 60) := ft_nleN (by omega) (by omega) c151
                          refine lv_iload_n hx hb dL_areAlike_154 rfl (lv_at hl 2 rfl) ?_
                          refine lv_if_eq (tgt := 185) hx hb dL_areAlike_155 (by decide) (fun c155 => ?_) (fun c155 => ?_)
                          · exact absurd c155 (by decide)
                          · refine lv_aload_n hx hb dL_areAlike_158 rfl (lv_at hl 0 rfl) ?_
                            refine lv_iload_n hx hb dL_areAlike_159 rfl (lv_at hl 3 rfl) ?_
                            refine lv_iconst (v := 0) hx hb dL_areAlike_160 (by decide) ?_
                            refine ft_callB (X := (ftCB9 cI cS o0 Ao (u148.1.2.1 0) u148)) (Y := (ftCB9 cI cS p0 Ap (cp9.1.2.1 0) cp9)) (X1 := fun (u161 : ftCdT) => (ftCB9 cI cS o0 Ao (u161.1.2.1 0) u161)) (ws1 := fun (u161 : ftCdT) => (ftCB9 cI cS o0 Ao (u161.1.2.1 0) u161 ++ ftCB9 cI cS p0 Ap (cp9.1.2.1 0) cp9)) (va_runV (C := RX10) (As := [.int (nI i3), .int 0]) (rest := []) ⟨hx, hb, hml, hown, hts⟩ (eo_sample l D cI cS H.size sK sV o0 Ao u148 k w z hm to no (nI i3) 0 (by omega) hO) (cwV 2 hts gL_areAlike_X10_sample rfl rfl rfl (by decide +kernel) ⟨Nat.le_of_ble_eq_true rfl, Nat.le_of_ble_eq_true rfl⟩) (ft_preB (ci := 10) (List.Perm.refl _) hP hD hKK hSt hS hA rfl rfl) rfl rfl hl.1 rfl (lv_room (Nat.le_of_ble_eq_true rfl)) dL_areAlike_161 ⟨Nat.le_of_ble_eq_true rfl, Nat.le_of_ble_eq_true rfl⟩) hP hD hS hA (List.Perm.refl _) (fun _ => (List.Perm.symm (List.Perm.refl _))) (fun r161 u161 h161 H locs hP hD hS => ?_)
                            have hP : va_P D vwCl (ftCB9 cI cS o0 Ao (u161.1.2.1 0) u161 ++ ftCB9 cI cS p0 Ap (cp9.1.2.1 0) cp9) H := hP
                            have hD : va_D A (ftCB9 cI cS o0 Ao (u161.1.2.1 0) u161 ++ ftCB9 cI cS p0 Ap (cp9.1.2.1 0) cp9) := hD
                            obtain ⟨hr161, hO⟩ := h161
                            subst hr161
                            refine lv_aload_n hx hb dL_areAlike_164 rfl (lv_at hl 1 rfl) ?_
                            refine lv_iload_n hx hb dL_areAlike_165 rfl (lv_at hl 3 rfl) ?_
                            refine lv_iconst (v := 0) hx hb dL_areAlike_166 (by decide) ?_
                            refine ft_callB (X := (ftCB9 cI cS p0 Ap (cp9.1.2.1 0) cp9)) (Y := (ftCB9 cI cS o0 Ao (u161.1.2.1 0) u161)) (X1 := fun (u167 : ftCdT) => (ftCB9 cI cS p0 Ap (u167.1.2.1 0) u167)) (ws1 := fun (u167 : ftCdT) => (ftCB9 cI cS o0 Ao (u161.1.2.1 0) u161 ++ ftCB9 cI cS p0 Ap (u167.1.2.1 0) u167)) (va_runV (C := RX10) (As := [.int (nI i3), .int 0]) (rest := [.int (ftSmA w (nI i3) 0)]) ⟨hx, hb, hml, hown, hts⟩ (ep_sample l D cI cS H.size sK sV p0 Ap cp9 w tp np (nI i3) 0 hQ) (cwV 2 hts gL_areAlike_X10_sample rfl rfl rfl (by decide +kernel) ⟨Nat.le_of_ble_eq_true rfl, Nat.le_of_ble_eq_true rfl⟩) (ft_preB (ci := 10) List.perm_append_comm hP hD hKK hSt hS hA rfl rfl) rfl rfl hl.1 rfl (lv_room (Nat.le_of_ble_eq_true rfl)) dL_areAlike_167 ⟨Nat.le_of_ble_eq_true rfl, Nat.le_of_ble_eq_true rfl⟩) hP hD hS hA List.perm_append_comm (fun _ => (List.Perm.symm List.perm_append_comm)) (fun r167 u167 h167 H locs hP hD hS => ?_)
                            have hP : va_P D vwCl (ftCB9 cI cS o0 Ao (u161.1.2.1 0) u161 ++ ftCB9 cI cS p0 Ap (u167.1.2.1 0) u167) H := hP
                            have hD : va_D A (ftCB9 cI cS o0 Ao (u161.1.2.1 0) u161 ++ ftCB9 cI cS p0 Ap (u167.1.2.1 0) u167) := hD
                            obtain ⟨hr167, hQ⟩ := h167
                            subst hr167
                            refine lv_icmp_ne (tgt := 177) hx hb dL_areAlike_170 (by decide) (fun c170 => ?_) (fun c170 => ?_)
                            · exact absurd rfl c170
                            · refine lv_iconst (v := 1) hx hb dL_areAlike_173 (by decide) ?_
                              refine lv_goto (tgt := 178) hx hb dL_areAlike_174 (by decide) ?_
                              refine lv_istore_n (lv' := [(2, .int 1), (0, .ref o0), (1, .ref p0), (3, .int (nI i3))]) hx hb dL_areAlike_178 rfl hl (by decide) rfl (fun ls hl => ?_)
                              refine lv_iinc (v := (nI i3) + Int32.ofInt 11) (lv' := [(3, .int ((nI i3) + Int32.ofInt 11)), (2, .int 1), (0, .ref o0), (1, .ref p0)]) hx hb dL_areAlike_179 hl (k := 3) rfl rfl (by decide) rfl (fun ls hl => ?_)
                              refine lv_goto (tgt := 144) hx hb dL_areAlike_182 (by decide) ?_
                              exact ih144 (i3 + 11) u161 u167 ((nI i3) + Int32.ofInt 11)  (by omega) (by omega) (by exact hO) (by exact hQ) (by exact lx_inc11 i3)  _ _ hP hD hS ls (lv_sub hl [2, 3, 1, 0] rfl)
                    exact lp144 _ 0 co9 cp9 0  (Nat.lt_succ_self _) (by omega) (by exact hO) (by exact hQ) (by rfl) _ _ hP hD hS ls (lv_sub hl [1, 2, 3, 0] rfl)
                  · have c110n : i2 < 8 := ft_nleN (by omega) (by omega) c110
                    refine lv_iload_n hx hb dL_areAlike_113 rfl (lv_at hl 2 rfl) ?_
                    refine lv_if_eq (tgt := 134) hx hb dL_areAlike_114 (by decide) (fun c114 => ?_) (fun c114 => ?_)
                    · exact absurd c114 (by decide)
                    · refine lv_aload_n hx hb dL_areAlike_117 rfl (lv_at hl 0 rfl) ?_
                      refine lv_iload_n hx hb dL_areAlike_118 rfl (lv_at hl 3 rfl) ?_
                      refine ft_callB (X := (ftCB9 cI cS o0 Ao (co9.1.2.1 0) co9)) (Y := (ftCB9 cI cS p0 Ap (cp9.1.2.1 0) cp9)) (X1 := fun (u119 : ftCdT) => (ftCB9 cI cS o0 Ao (u119.1.2.1 0) u119)) (ws1 := fun (u119 : ftCdT) => (ftCB9 cI cS o0 Ao (u119.1.2.1 0) u119 ++ ftCB9 cI cS p0 Ap (cp9.1.2.1 0) cp9)) (va_runV (C := RX10) (As := [.int (nI i2)]) (rest := []) ⟨hx, hb, hml, hown, hts⟩ (eo_total l D cI cS H.size sK sV o0 Ao co9 k w z hm to no (nI i2) (by omega) hO) (cwV 1 hts gL_areAlike_X10_total rfl rfl rfl (by decide +kernel) ⟨Nat.le_of_ble_eq_true rfl, Nat.le_of_ble_eq_true rfl⟩) (ft_preB (ci := 10) (List.Perm.refl _) hP hD hKK hSt hS hA rfl rfl) rfl rfl hl.1 rfl (lv_room (Nat.le_of_ble_eq_true rfl)) dL_areAlike_119 ⟨Nat.le_of_ble_eq_true rfl, Nat.le_of_ble_eq_true rfl⟩) hP hD hS hA (List.Perm.refl _) (fun _ => (List.Perm.symm (List.Perm.refl _))) (fun r119 u119 h119 H locs hP hD hS => ?_)
                      have hP : va_P D vwCl (ftCB9 cI cS o0 Ao (u119.1.2.1 0) u119 ++ ftCB9 cI cS p0 Ap (cp9.1.2.1 0) cp9) H := hP
                      have hD : va_D A (ftCB9 cI cS o0 Ao (u119.1.2.1 0) u119 ++ ftCB9 cI cS p0 Ap (cp9.1.2.1 0) cp9) := hD
                      obtain ⟨hr119, hO⟩ := h119
                      subst hr119
                      refine lv_aload_n hx hb dL_areAlike_122 rfl (lv_at hl 1 rfl) ?_
                      refine lv_iload_n hx hb dL_areAlike_123 rfl (lv_at hl 3 rfl) ?_
                      refine ft_callB (X := (ftCB9 cI cS p0 Ap (cp9.1.2.1 0) cp9)) (Y := (ftCB9 cI cS o0 Ao (u119.1.2.1 0) u119)) (X1 := fun (u124 : ftCdT) => (ftCB9 cI cS p0 Ap (u124.1.2.1 0) u124)) (ws1 := fun (u124 : ftCdT) => (ftCB9 cI cS o0 Ao (u119.1.2.1 0) u119 ++ ftCB9 cI cS p0 Ap (u124.1.2.1 0) u124)) (va_runV (C := RX10) (As := [.int (nI i2)]) (rest := [.int (ftToA w (nI i2))]) ⟨hx, hb, hml, hown, hts⟩ (ep_total l D cI cS H.size sK sV p0 Ap cp9 w tp np (nI i2) hQ) (cwV 1 hts gL_areAlike_X10_total rfl rfl rfl (by decide +kernel) ⟨Nat.le_of_ble_eq_true rfl, Nat.le_of_ble_eq_true rfl⟩) (ft_preB (ci := 10) List.perm_append_comm hP hD hKK hSt hS hA rfl rfl) rfl rfl hl.1 rfl (lv_room (Nat.le_of_ble_eq_true rfl)) dL_areAlike_124 ⟨Nat.le_of_ble_eq_true rfl, Nat.le_of_ble_eq_true rfl⟩) hP hD hS hA List.perm_append_comm (fun _ => (List.Perm.symm List.perm_append_comm)) (fun r124 u124 h124 H locs hP hD hS => ?_)
                      have hP : va_P D vwCl (ftCB9 cI cS o0 Ao (u119.1.2.1 0) u119 ++ ftCB9 cI cS p0 Ap (u124.1.2.1 0) u124) H := hP
                      have hD : va_D A (ftCB9 cI cS o0 Ao (u119.1.2.1 0) u119 ++ ftCB9 cI cS p0 Ap (u124.1.2.1 0) u124) := hD
                      obtain ⟨hr124, hQ⟩ := h124
                      subst hr124
                      refine lv_icmp_ne (tgt := 134) hx hb dL_areAlike_127 (by decide) (fun c127 => ?_) (fun c127 => ?_)
                      · exact absurd rfl c127
                      · refine lv_iconst (v := 1) hx hb dL_areAlike_130 (by decide) ?_
                        refine lv_goto (tgt := 135) hx hb dL_areAlike_131 (by decide) ?_
                        refine lv_istore_n (lv' := [(2, .int 1), (0, .ref o0), (1, .ref p0), (3, .int (nI i2))]) hx hb dL_areAlike_135 rfl hl (by decide) rfl (fun ls hl => ?_)
                        refine lv_iinc (v := nI (i2 + 1)) (lv' := [(3, .int (nI (i2 + 1))), (2, .int 1), (0, .ref o0), (1, .ref p0)]) hx hb dL_areAlike_136 hl (k := 3) rfl (ft_inc i2) (by decide) rfl (fun ls hl => ?_)
                        refine lv_goto (tgt := 107) hx hb dL_areAlike_139 (by decide) ?_
                        exact ih107 (i2 + 1) u119 u124 (nI (i2 + 1))  (by omega) (by omega) (by exact hO) (by exact hQ) (by first | rfl | assumption)  _ _ hP hD hS ls (lv_sub hl [2, 3, 1, 0] rfl)
              exact lp107 _ 0 u46 cp9 0  (Nat.lt_succ_self _) (by omega) (by exact hO) (by exact hQ) (by rfl) _ _ hP hD hS ls (lv_sub hl [1, 2, 3, 0] rfl)
            · have c49n : i < (ftCN w) := ft_nleN (by omega) (by omega) c49
              refine lv_iload_n hx hb dL_areAlike_52 rfl (lv_at hl 2 rfl) ?_
              refine lv_if_eq (tgt := 105) hx hb dL_areAlike_53 (by decide) (fun c53 => ?_) (fun c53 => ?_)
              · exact absurd c53 (by decide)
              · refine lv_iconst (v := 0) hx hb dL_areAlike_56 (by decide) ?_
                refine lv_istore (lv' := [(4, .int 0), (0, .ref o0), (1, .ref p0), (2, .int 1), (3, .int (nI i))]) hx hb dL_areAlike_57 hl (by decide) rfl (fun ls hl => ?_)
                have lp59 : ∀ (n59 : Nat) (j : Nat) (co9 cp9 : ftCdT) (x59_4 : Int32), 6 - j < n59 → (j ≤ 6) → (lxO k co9 w z hm to no) → (lxQ cp9 w tp np) → x59_4 = nI j → ∀ (H : Heap) (locs : List Loc), va_P D vwCl (ftCB9 cI cS o0 Ao (co9.1.2.1 0) co9 ++ ftCB9 cI cS p0 Ap (cp9.1.2.1 0) cp9) H → va_D A (ftCB9 cI cS o0 Ao (co9.1.2.1 0) co9 ++ ftCB9 cI cS p0 Ap (cp9.1.2.1 0) cp9) → va_S A s.heap H locs → ∀ ls : Array Slot, lv_has ls 5 [(0, .ref o0), (1, .ref p0), (2, .int 1), (3, .int (nI i)), (4, .int x59_4)] → W p l e (headSpec wsL_areAlike { frames := 7, cells := 0, slots := 0, locals := 173 }).room s m ([.ref o0, .ref p0] : List Value).toArray below meth c H locs 0 0 (MQ below (ftXi D (ftCB9 cI cS o0 Ao (co.1.2.1 0) co ++ ftCB9 cI cS p0 Ap (cp.1.2.1 0) cp) s.heap.size (fun (o9 : Int32) (u : ftCdT × ftCdT) => o9 = 1 ∧ (lxO k u.1 w z hm to no) ∧ (lxQ u.2 w tp np)) (fun (u : ftCdT × ftCdT) => (ftCB9 cI cS o0 Ao (u.1.1.2.1 0) u.1 ++ ftCB9 cI cS p0 Ap (u.2.1.2.1 0) u.2))) ([.ref o0, .ref p0] : List Value).toArray s 0 0 A) (F0 m 59 ls []) := by
                  intro n59
                  induction n59 with
                  | zero =>
                    intro j co9 cp9 x59_4  hm59
                    exact absurd hm59 (Nat.not_lt_zero _)
                  | succ n59 ih59 =>
                    intro j co9 cp9 x59_4  hm59 hj6 hO hQ ex59_4  H locs hP hD hS ls hl
                    subst ex59_4
                    refine lv_iload hx hb dL_areAlike_59 (lv_at hl 4 rfl) ?_
                    refine lv_bipush (v := 6) hx hb dL_areAlike_61 (by decide) ?_
                    refine lv_icmp_ge (tgt := 99) hx hb dL_areAlike_63 (by decide) (fun c63 => ?_) (fun c63 => ?_)
                    · have c63n : 6 ≤ j := ft_leN (by omega) (by omega) c63
                      refine lv_iinc (v := nI (i + 1)) (lv' := [(3, .int (nI (i + 1))), (0, .ref o0), (1, .ref p0), (2, .int 1), (4, .int (nI j))]) hx hb dL_areAlike_99 hl (k := 3) rfl (ft_inc i) (by decide) rfl (fun ls hl => ?_)
                      refine lv_goto (tgt := 42) hx hb dL_areAlike_102 (by decide) ?_
                      exact ih42 (i + 1) co9 cp9 (nI (i + 1))  (by omega) (by omega) (by exact hO) (by exact hQ) (by first | rfl | assumption)  _ _ hP hD hS ls (lv_sub hl [1, 2, 3, 0] rfl)
                    · have c63n : j < 6 := ft_nleN (by omega) (by omega) c63
                      refine lv_iload_n hx hb dL_areAlike_66 rfl (lv_at hl 2 rfl) ?_
                      refine lv_if_eq (tgt := 91) hx hb dL_areAlike_67 (by decide) (fun c67 => ?_) (fun c67 => ?_)
                      · exact absurd c67 (by decide)
                      · refine lv_aload_n hx hb dL_areAlike_70 rfl (lv_at hl 0 rfl) ?_
                        refine lv_iload_n hx hb dL_areAlike_71 rfl (lv_at hl 3 rfl) ?_
                        refine lv_iload hx hb dL_areAlike_72 (lv_at hl 4 rfl) ?_
                        refine ft_callB (X := (ftCB9 cI cS o0 Ao (co9.1.2.1 0) co9)) (Y := (ftCB9 cI cS p0 Ap (cp9.1.2.1 0) cp9)) (X1 := fun (u74 : ftCdT) => (ftCB9 cI cS o0 Ao (u74.1.2.1 0) u74)) (ws1 := fun (u74 : ftCdT) => (ftCB9 cI cS o0 Ao (u74.1.2.1 0) u74 ++ ftCB9 cI cS p0 Ap (cp9.1.2.1 0) cp9)) (va_runV (C := RX10) (As := [.int (nI i), .int (nI j)]) (rest := []) ⟨hx, hb, hml, hown, hts⟩ (eo_part l D cI cS H.size sK sV o0 Ao co9 k w z hm to no (nI i) (nI j) (by omega) hO) (cwV 2 hts gL_areAlike_X10_part rfl rfl rfl (by decide +kernel) ⟨Nat.le_of_ble_eq_true rfl, Nat.le_of_ble_eq_true rfl⟩) (ft_preB (ci := 10) (List.Perm.refl _) hP hD hKK hSt hS hA rfl rfl) rfl rfl hl.1 rfl (lv_room (Nat.le_of_ble_eq_true rfl)) dL_areAlike_74 ⟨Nat.le_of_ble_eq_true rfl, Nat.le_of_ble_eq_true rfl⟩) hP hD hS hA (List.Perm.refl _) (fun _ => (List.Perm.symm (List.Perm.refl _))) (fun r74 u74 h74 H locs hP hD hS => ?_)
                        have hP : va_P D vwCl (ftCB9 cI cS o0 Ao (u74.1.2.1 0) u74 ++ ftCB9 cI cS p0 Ap (cp9.1.2.1 0) cp9) H := hP
                        have hD : va_D A (ftCB9 cI cS o0 Ao (u74.1.2.1 0) u74 ++ ftCB9 cI cS p0 Ap (cp9.1.2.1 0) cp9) := hD
                        obtain ⟨hr74, hO⟩ := h74
                        subst hr74
                        refine lv_aload_n hx hb dL_areAlike_77 rfl (lv_at hl 1 rfl) ?_
                        refine lv_iload_n hx hb dL_areAlike_78 rfl (lv_at hl 3 rfl) ?_
                        refine lv_iload hx hb dL_areAlike_79 (lv_at hl 4 rfl) ?_
                        refine ft_callB (X := (ftCB9 cI cS p0 Ap (cp9.1.2.1 0) cp9)) (Y := (ftCB9 cI cS o0 Ao (u74.1.2.1 0) u74)) (X1 := fun (u81 : ftCdT) => (ftCB9 cI cS p0 Ap (u81.1.2.1 0) u81)) (ws1 := fun (u81 : ftCdT) => (ftCB9 cI cS o0 Ao (u74.1.2.1 0) u74 ++ ftCB9 cI cS p0 Ap (u81.1.2.1 0) u81)) (va_runV (C := RX10) (As := [.int (nI i), .int (nI j)]) (rest := [.int (ftPtA w (nI i) (nI j))]) ⟨hx, hb, hml, hown, hts⟩ (ep_part l D cI cS H.size sK sV p0 Ap cp9 w tp np (nI i) (nI j) hQ) (cwV 2 hts gL_areAlike_X10_part rfl rfl rfl (by decide +kernel) ⟨Nat.le_of_ble_eq_true rfl, Nat.le_of_ble_eq_true rfl⟩) (ft_preB (ci := 10) List.perm_append_comm hP hD hKK hSt hS hA rfl rfl) rfl rfl hl.1 rfl (lv_room (Nat.le_of_ble_eq_true rfl)) dL_areAlike_81 ⟨Nat.le_of_ble_eq_true rfl, Nat.le_of_ble_eq_true rfl⟩) hP hD hS hA List.perm_append_comm (fun _ => (List.Perm.symm List.perm_append_comm)) (fun r81 u81 h81 H locs hP hD hS => ?_)
                        have hP : va_P D vwCl (ftCB9 cI cS o0 Ao (u74.1.2.1 0) u74 ++ ftCB9 cI cS p0 Ap (u81.1.2.1 0) u81) H := hP
                        have hD : va_D A (ftCB9 cI cS o0 Ao (u74.1.2.1 0) u74 ++ ftCB9 cI cS p0 Ap (u81.1.2.1 0) u81) := hD
                        obtain ⟨hr81, hQ⟩ := h81
                        subst hr81
                        refine lv_icmp_ne (tgt := 91) hx hb dL_areAlike_84 (by decide) (fun c84 => ?_) (fun c84 => ?_)
                        · exact absurd rfl c84
                        · refine lv_iconst (v := 1) hx hb dL_areAlike_87 (by decide) ?_
                          refine lv_goto (tgt := 92) hx hb dL_areAlike_88 (by decide) ?_
                          refine lv_istore_n (lv' := [(2, .int 1), (0, .ref o0), (1, .ref p0), (3, .int (nI i)), (4, .int (nI j))]) hx hb dL_areAlike_92 rfl hl (by decide) rfl (fun ls hl => ?_)
                          refine lv_iinc (v := nI (j + 1)) (lv' := [(4, .int (nI (j + 1))), (2, .int 1), (0, .ref o0), (1, .ref p0), (3, .int (nI i))]) hx hb dL_areAlike_93 hl (k := 4) rfl (ft_inc j) (by decide) rfl (fun ls hl => ?_)
                          refine lv_goto (tgt := 59) hx hb dL_areAlike_96 (by decide) ?_
                          exact ih59 (j + 1) u74 u81 (nI (j + 1))  (by omega) (by omega) (by exact hO) (by exact hQ) (by first | rfl | assumption)  _ _ hP hD hS ls (lv_sub hl [2, 3, 1, 4, 0] rfl)
                exact lp59 _ 0 u46 cp9 0  (Nat.lt_succ_self _) (by omega) (by exact hO) (by exact hQ) (by rfl) _ _ hP hD hS ls (lv_sub hl [1, 2, 3, 4, 0] rfl)
        exact lp42 _ 0 co9 cp9 0  (Nat.lt_succ_self _) (by omega) (by exact hO) (by exact hQ) (by rfl) _ _ hP hD hS ls (lv_sub hl [1, 2, 3, 0] rfl)
      · have c8n : i < 16 := ft_nleN (by omega) (by omega) c8
        refine lv_iload_n hx hb dL_areAlike_11 rfl (lv_at hl 2 rfl) ?_
        refine lv_if_eq (tgt := 32) hx hb dL_areAlike_12 (by decide) (fun c12 => ?_) (fun c12 => ?_)
        · exact absurd c12 (by decide)
        · refine lv_aload_n hx hb dL_areAlike_15 rfl (lv_at hl 0 rfl) ?_
          refine lv_iload_n hx hb dL_areAlike_16 rfl (lv_at hl 3 rfl) ?_
          refine ft_callB (X := (ftCB9 cI cS o0 Ao (co9.1.2.1 0) co9)) (Y := (ftCB9 cI cS p0 Ap (cp9.1.2.1 0) cp9)) (X1 := fun (u17 : ftCdT) => (ftCB9 cI cS o0 Ao (u17.1.2.1 0) u17)) (ws1 := fun (u17 : ftCdT) => (ftCB9 cI cS o0 Ao (u17.1.2.1 0) u17 ++ ftCB9 cI cS p0 Ap (cp9.1.2.1 0) cp9)) (va_runV (C := RX10) (As := [.int (nI i)]) (rest := []) ⟨hx, hb, hml, hown, hts⟩ (eo_count l D cI cS H.size sK sV o0 Ao co9 k w z hm to no (nI i) (by omega) hO) (cwV 1 hts gL_areAlike_X10_count rfl rfl rfl (by decide +kernel) ⟨Nat.le_of_ble_eq_true rfl, Nat.le_of_ble_eq_true rfl⟩) (ft_preB (ci := 10) (List.Perm.refl _) hP hD hKK hSt hS hA rfl rfl) rfl rfl hl.1 rfl (lv_room (Nat.le_of_ble_eq_true rfl)) dL_areAlike_17 ⟨Nat.le_of_ble_eq_true rfl, Nat.le_of_ble_eq_true rfl⟩) hP hD hS hA (List.Perm.refl _) (fun _ => (List.Perm.symm (List.Perm.refl _))) (fun r17 u17 h17 H locs hP hD hS => ?_)
          have hP : va_P D vwCl (ftCB9 cI cS o0 Ao (u17.1.2.1 0) u17 ++ ftCB9 cI cS p0 Ap (cp9.1.2.1 0) cp9) H := hP
          have hD : va_D A (ftCB9 cI cS o0 Ao (u17.1.2.1 0) u17 ++ ftCB9 cI cS p0 Ap (cp9.1.2.1 0) cp9) := hD
          obtain ⟨hr17, hO⟩ := h17
          subst hr17
          refine lv_aload_n hx hb dL_areAlike_20 rfl (lv_at hl 1 rfl) ?_
          refine lv_iload_n hx hb dL_areAlike_21 rfl (lv_at hl 3 rfl) ?_
          refine ft_callB (X := (ftCB9 cI cS p0 Ap (cp9.1.2.1 0) cp9)) (Y := (ftCB9 cI cS o0 Ao (u17.1.2.1 0) u17)) (X1 := fun (u22 : ftCdT) => (ftCB9 cI cS p0 Ap (u22.1.2.1 0) u22)) (ws1 := fun (u22 : ftCdT) => (ftCB9 cI cS o0 Ao (u17.1.2.1 0) u17 ++ ftCB9 cI cS p0 Ap (u22.1.2.1 0) u22)) (va_runV (C := RX10) (As := [.int (nI i)]) (rest := [.int (ftCntA w hm no (nI i))]) ⟨hx, hb, hml, hown, hts⟩ (ep_count l D cI cS H.size sK sV p0 Ap cp9 w tp np (nI i) hQ ⟨i, hi11, by omega, rfl⟩) (cwV 1 hts gL_areAlike_X10_count rfl rfl rfl (by decide +kernel) ⟨Nat.le_of_ble_eq_true rfl, Nat.le_of_ble_eq_true rfl⟩) (ft_preB (ci := 10) List.perm_append_comm hP hD hKK hSt hS hA rfl rfl) rfl rfl hl.1 rfl (lv_room (Nat.le_of_ble_eq_true rfl)) dL_areAlike_22 ⟨Nat.le_of_ble_eq_true rfl, Nat.le_of_ble_eq_true rfl⟩) hP hD hS hA List.perm_append_comm (fun _ => (List.Perm.symm List.perm_append_comm)) (fun r22 u22 h22 H locs hP hD hS => ?_)
          have hP : va_P D vwCl (ftCB9 cI cS o0 Ao (u17.1.2.1 0) u17 ++ ftCB9 cI cS p0 Ap (u22.1.2.1 0) u22) H := hP
          have hD : va_D A (ftCB9 cI cS o0 Ao (u17.1.2.1 0) u17 ++ ftCB9 cI cS p0 Ap (u22.1.2.1 0) u22) := hD
          obtain ⟨hr22, hu22⟩ := h22
          rw [hu22] at hP hD
          have hP : va_P D vwCl (ftCB9 cI cS o0 Ao (u17.1.2.1 0) u17 ++ ftCB9 cI cS p0 Ap (cp9.1.2.1 0) cp9) H := hP
          have hD : va_D A (ftCB9 cI cS o0 Ao (u17.1.2.1 0) u17 ++ ftCB9 cI cS p0 Ap (cp9.1.2.1 0) cp9) := hD
          refine lv_icmp_ne (tgt := 32) hx hb dL_areAlike_25 (by decide) (fun c25 => ?_) (fun c25 => ?_)
          · exact absurd (hr22 hm no).symm c25
          · refine lv_iconst (v := 1) hx hb dL_areAlike_28 (by decide) ?_
            refine lv_goto (tgt := 33) hx hb dL_areAlike_29 (by decide) ?_
            refine lv_istore_n (lv' := [(2, .int 1), (0, .ref o0), (1, .ref p0), (3, .int (nI i))]) hx hb dL_areAlike_33 rfl hl (by decide) rfl (fun ls hl => ?_)
            refine lv_iinc (v := nI (i + 1)) (lv' := [(3, .int (nI (i + 1))), (2, .int 1), (0, .ref o0), (1, .ref p0)]) hx hb dL_areAlike_34 hl (k := 3) rfl (ft_inc i) (by decide) rfl (fun ls hl => ?_)
            refine lv_goto (tgt := 5) hx hb dL_areAlike_37 (by decide) ?_
            exact ih5 (i + 1) u17 cp9 (nI (i + 1))  (by omega) (by omega) (by omega) (by exact hO) (by exact hQ) (by first | rfl | assumption)  _ _ hP hD hS ls (lv_sub hl [2, 3, 1, 0] rfl)
  exact lp5 _ 11 co cp 11  (Nat.lt_succ_self _) (by omega) (by omega) (by exact hO) (by exact hQ) (by rfl) _ _ hP hD hS ls (lv_sub hl [2, 3, 1, 0] rfl)
