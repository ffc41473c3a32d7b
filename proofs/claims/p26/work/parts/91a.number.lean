set_option maxHeartbeats 4000000 in
set_option maxRecDepth 100000 in
theorem c_L_numberP (l : Launch) (D : va_G) (cI cS : ClassId) (sz : Nat) (sK sV : Nat → Nat) (o0 : Nat) (Ao : Nat → Nat → Nat) (cq : ftCdT) (n : Nat) (hn : n < 100000) (ht : cq.2.2.1.1 + 7 ≤ 120) : Met l yL_number wsL_number ({ frames := 3, cells := 0, slots := 0, locals := 64 }) (ftRWS D cI cS sK sV [.ref o0, .int (nI n)] (ftCB9 cI cS o0 Ao (cq.1.2.1 0) cq) sz) (ftXv D (ftCB9 cI cS o0 Ao (cq.1.2.1 0) cq) sz (fun (u : ftCdT) => (∃ d tx, u = lxTxt cq tx (cq.2.2.1.1 + 1 + d) ∧ lxN tx cq.2.2.1.1 1 d n ∧ ∀ t, t < cq.2.2.1.1 → tx t = cq.2.2.1.2.1 t)) (fun (u : ftCdT) => (ftCB9 cI cS o0 Ao (u.1.2.1 0) u))) 0 0 (va_A (ftCB9 cI cS o0 Ao (cq.1.2.1 0) cq) sz) := by
  refine Met.ofW (cc := cL_number) (maxL := 4) (ret := none) (by decide) rfl ?_
  intro p e s m args below meth c s₁ B hml hv
  obtain ⟨rfl, hsz, hP, hKK, hD0, hSt⟩ := hv
  have hK := hKK.1
  have hx := B.exec
  have hb := B.bytes
  have hr := B.returns
  have hts := atoms_spec (ws := wsL_number) B.pre
  have hown : s.vm.findClass RL = some m.cls := findClass_of_methodNamed B.named
  have hlocks := B.notSynchronized
  subst hsz
  have hD := hD0.self (sz := s.heap.size)
  generalize hAe : va_A (ftCB9 cI cS o0 Ao (cq.1.2.1 0) cq) s.heap.size = A at hD hSt ⊢
  have hA : ∀ q : Nat, s.heap.size ≤ q → A q := fun q h => by rw [← hAe]; exact Or.inr h
  have hS : va_S A s.heap s.heap [] := va_S.rf
  have hD : va_D A (ftCB9 cI cS o0 Ao (cq.1.2.1 0) cq) := hD
  have hP : va_P D vwCl (ftCB9 cI cS o0 Ao (cq.1.2.1 0) cq) s.heap := hP
  have hl := lv_entry ([.ref o0, .int (nI n)]) (n := 4) (Nat.le_of_ble_eq_true rfl)
  rw [lg_entry_eq]
  generalize (lg_sl ([.ref o0, .int (nI n)]) ++ List.replicate (4 - (lg_sl ([.ref o0, .int (nI n)])).length) Slot.unset).toArray = ls at hl ⊢
  have hl : lv_has ls 4 [(0, .ref o0), (1, .int (nI n))] := hl
  have hP : va_P D vwCl (ftCB9 cI cS o0 Ao ((lxTxt cq cq.2.2.1.2.1 cq.2.2.1.1).1.2.1 0) (lxTxt cq cq.2.2.1.2.1 cq.2.2.1.1)) s.heap := hP
  have hD : va_D A (ftCB9 cI cS o0 Ao ((lxTxt cq cq.2.2.1.2.1 cq.2.2.1.1).1.2.1 0) (lxTxt cq cq.2.2.1.2.1 cq.2.2.1.1)) := hD
  refine lv_aload_n hx hb dL_number_0 rfl (lv_at hl 0 rfl) ?_
  refine lv_bipush (v := 32) hx hb dL_number_1 (by decide) ?_
  refine ft_callB (X := (ftCB9 cI cS o0 Ao ((lxTxt cq cq.2.2.1.2.1 cq.2.2.1.1).1.2.1 0) (lxTxt cq cq.2.2.1.2.1 cq.2.2.1.1))) (Y := []) (X1 := fun (u3 : ftCdT) => (ftCB9 cI cS o0 Ao (u3.1.2.1 0) u3)) (ws1 := fun (u3 : ftCdT) => (ftCB9 cI cS o0 Ao (u3.1.2.1 0) u3)) (va_runV (C := RX10) (As := [.int 32]) (rest := []) ⟨hx, hb, hml, hown, hts⟩ (et_type l D cI cS s.heap.size sK sV o0 Ao (lxTxt cq cq.2.2.1.2.1 cq.2.2.1.1) 32 (by decide) (show cq.2.2.1.1 < 120 by omega)) (cwV 1 hts gL_number_X10_type rfl rfl rfl (by decide +kernel) ⟨Nat.le_of_ble_eq_true rfl, Nat.le_of_ble_eq_true rfl⟩) (ft_preB (ci := 10) (ft_pmE _) hP hD hKK hSt hS hA rfl rfl) rfl rfl hl.1 rfl (lv_room (Nat.le_of_ble_eq_true rfl)) dL_number_3 ⟨Nat.le_of_ble_eq_true rfl, Nat.le_of_ble_eq_true rfl⟩) hP hD hS hA (ft_pmE _) (fun _ => (ft_pmE _).symm) (fun r3 u3 h3 H locs hP hD hS => ?_)
  have hP : va_P D vwCl (ftCB9 cI cS o0 Ao (u3.1.2.1 0) u3) H := hP
  have hD : va_D A (ftCB9 cI cS o0 Ao (u3.1.2.1 0) u3) := hD
  obtain ⟨hr3, hu3⟩ := h3
  subst hu3
  have hP : va_P D vwCl (ftCB9 cI cS o0 Ao ((lxTxt cq (upd cq.2.2.1.2.1 cq.2.2.1.1 32) (cq.2.2.1.1 + 1)).1.2.1 0) (lxTxt cq (upd cq.2.2.1.2.1 cq.2.2.1.1 32) (cq.2.2.1.1 + 1))) H := hP
  have hD : va_D A (ftCB9 cI cS o0 Ao ((lxTxt cq (upd cq.2.2.1.2.1 cq.2.2.1.1 32) (cq.2.2.1.1 + 1)).1.2.1 0) (lxTxt cq (upd cq.2.2.1.2.1 cq.2.2.1.1 32) (cq.2.2.1.1 + 1))) := hD
  refine lv_pop hx hb dL_number_6 rfl ?_
  refine lv_iload_n hx hb dL_number_7 rfl (lv_at hl 1 rfl) ?_
  refine lv_if_ge (tgt := 18) hx hb dL_number_8 (by decide) (fun c8 => ?_) (fun c8 => ?_)
  · refine lv_iload_n hx hb dL_number_18 rfl (lv_at hl 1 rfl) ?_
    refine lv_if_ge (tgt := 27) hx hb dL_number_19 (by decide) (fun c19 => ?_) (fun c19 => ?_)
    · refine lv_iload_n hx hb dL_number_27 rfl (lv_at hl 1 rfl) ?_
      refine lv_istore_n (lv' := [(2, .int (nI n)), (0, .ref o0), (1, .int (nI n))]) hx hb dL_number_28 rfl hl (by decide) rfl (fun ls hl => ?_)
      refine lv_iconst (v := 1) hx hb dL_number_29 (by decide) ?_
      refine lv_istore_n (lv' := [(3, .int 1), (2, .int (nI n)), (0, .ref o0), (1, .int (nI n))]) hx hb dL_number_30 rfl hl (by decide) rfl (fun ls hl => ?_)
      have lp31 : ∀ (n31 : Nat) (k : Nat) (x31_3 : Int32), 4 - k < n31 → (k ≤ 4) → x31_3 = nI (10 ^ k) → ∀ (H : Heap) (locs : List Loc), va_P D vwCl (ftCB9 cI cS o0 Ao ((lxTxt cq (upd cq.2.2.1.2.1 cq.2.2.1.1 32) (cq.2.2.1.1 + 1)).1.2.1 0) (lxTxt cq (upd cq.2.2.1.2.1 cq.2.2.1.1 32) (cq.2.2.1.1 + 1))) H → va_D A (ftCB9 cI cS o0 Ao ((lxTxt cq (upd cq.2.2.1.2.1 cq.2.2.1.1 32) (cq.2.2.1.1 + 1)).1.2.1 0) (lxTxt cq (upd cq.2.2.1.2.1 cq.2.2.1.1 32) (cq.2.2.1.1 + 1))) → va_S A s.heap H locs → ∀ ls : Array Slot, lv_has ls 4 [(0, .ref o0), (1, .int (nI n)), (2, .int (nI n)), (3, .int x31_3)] → W p l e (headSpec wsL_number { frames := 3, cells := 0, slots := 0, locals := 64 }).room s m ([.ref o0, .int (nI n)] : List Value).toArray below meth c H locs 0 0 (MQ below (ftXv D (ftCB9 cI cS o0 Ao (cq.1.2.1 0) cq) s.heap.size (fun (u : ftCdT) => (∃ d tx, u = lxTxt cq tx (cq.2.2.1.1 + 1 + d) ∧ lxN tx cq.2.2.1.1 1 d n ∧ ∀ t, t < cq.2.2.1.1 → tx t = cq.2.2.1.2.1 t)) (fun (u : ftCdT) => (ftCB9 cI cS o0 Ao (u.1.2.1 0) u))) ([.ref o0, .int (nI n)] : List Value).toArray s 0 0 A) (F0 m 31 ls []) := by
        intro n31
        induction n31 with
        | zero =>
          intro k x31_3  hm31
          exact absurd hm31 (Nat.not_lt_zero _)
        | succ n31 ih31 =>
          intro k x31_3  hm31 hk4 ex31_3  H locs hP hD hS ls hl
          subst ex31_3
          obtain ⟨hp1, hp2⟩ := lx_p10 hk4
          have hp3 : n / 10 ^ k ≤ n := Nat.div_le_self _ _
          refine lv_iload_n hx hb dL_number_31 rfl (lv_at hl 2 rfl) ?_
          refine lv_iload_n hx hb dL_number_32 rfl (lv_at hl 3 rfl) ?_
          refine lv_idiv hx hb dL_number_33 (nI_ne0 hp1 (by omega)) ?_
          refine ft_top (y := nI (n / 10 ^ k)) (pk_div (by omega) hp1 (by omega)) ?_
          refine lv_bipush (v := 9) hx hb dL_number_34 (by decide) ?_
          refine lv_icmp_le (tgt := 47) hx hb dL_number_36 (by decide) (fun c36 => ?_) (fun c36 => ?_)
          · have c36n : (n / 10 ^ k) ≤ 9 := ft_leN (by omega) (by omega) c36
            obtain ⟨d, hd⟩ : ∃ d, d = k + 1 := ⟨_, rfl⟩
            have hnd : n < 10 ^ d := by rw [hd]; exact lx_exit c36n
            have hd5 : d ≤ 5 := by omega
            have hd1 : 1 ≤ d := by omega
            have lp47 : ∀ (n47 : Nat) (i : Nat) (tx9 : Nat → Int32) (x47_3 : Int32), d - i < n47 → (i ≤ d) → (tx9 cq.2.2.1.1 = 32) → (∀ q, q < i → tx9 (cq.2.2.1.1 + 1 + q) = nI (48 + lxD n d q)) → (∀ t, t < cq.2.2.1.1 → tx9 t = cq.2.2.1.2.1 t) → x47_3 = lxUn d i → ∀ (H : Heap) (locs : List Loc), va_P D vwCl (ftCB9 cI cS o0 Ao ((lxTxt cq tx9 (cq.2.2.1.1 + 1 + i)).1.2.1 0) (lxTxt cq tx9 (cq.2.2.1.1 + 1 + i))) H → va_D A (ftCB9 cI cS o0 Ao ((lxTxt cq tx9 (cq.2.2.1.1 + 1 + i)).1.2.1 0) (lxTxt cq tx9 (cq.2.2.1.1 + 1 + i))) → va_S A s.heap H locs → ∀ ls : Array Slot, lv_has ls 4 [(0, .ref o0), (1, .int (nI n)), (2, .int (nI n)), (3, .int x47_3)] → W p l e (headSpec wsL_number { frames := 3, cells := 0, slots := 0, locals := 64 }).room s m ([.ref o0, .int (nI n)] : List Value).toArray below meth c H locs 0 0 (MQ below (ftXv D (ftCB9 cI cS o0 Ao (cq.1.2.1 0) cq) s.heap.size (fun (u : ftCdT) => (∃ d tx, u = lxTxt cq tx (cq.2.2.1.1 + 1 + d) ∧ lxN tx cq.2.2.1.1 1 d n ∧ ∀ t, t < cq.2.2.1.1 → tx t = cq.2.2.1.2.1 t)) (fun (u : ftCdT) => (ftCB9 cI cS o0 Ao (u.1.2.1 0) u))) ([.ref o0, .int (nI n)] : List Value).toArray s 0 0 A) (F0 m 47 ls []) := by
              intro n47
              induction n47 with
              | zero =>
                intro i tx9 x47_3  hm47
                exact absurd hm47 (Nat.not_lt_zero _)
              | succ n47 ih47 =>
                intro i tx9 x47_3  hm47 hi5 h32 hdg hag ex47_3  H locs hP hD hS ls hl
                subst ex47_3
                refine lv_iload_n hx hb dL_number_47 rfl (lv_at hl 3 rfl) ?_
                refine lv_if_le (tgt := 73) hx hb dL_number_48 (by decide) (fun c48 => ?_) (fun c48 => ?_)
                · have hie : i = d := by have := (lxUn_le hd5).mp c48; omega
                  obtain ⟨u9, hu9⟩ : ∃ u9 : ftCdT, u9 = (lxTxt cq tx9 (cq.2.2.1.1 + 1 + i)) := ⟨_, rfl⟩
                  have hw9 : ((ftCB9 cI cS o0 Ao ((lxTxt cq tx9 (cq.2.2.1.1 + 1 + i)).1.2.1 0) (lxTxt cq tx9 (cq.2.2.1.1 + 1 + i))) : va_W) = (ftCB9 cI cS o0 Ao (u9.1.2.1 0) u9) := by subst hu9; rfl
                  rw [hw9] at hP hD
                  have hf9_0 : ∃ d tx, u9 = lxTxt cq tx (cq.2.2.1.1 + 1 + d) ∧ lxN tx cq.2.2.1.1 1 d n ∧ ∀ t, t < cq.2.2.1.1 → tx t = cq.2.2.1.2.1 t := by rw [hie] at hu9; exact ⟨d, tx9, hu9, ⟨h32, Or.inl rfl, hd1, hd5, hnd, fun q hq => hdg q (by omega)⟩, hag⟩
                  exact W.vret hx hb hr (fun t ht hW => ⟨⟨u9, rfl, hf9_0, by rw [ht]; exact hP, by rw [hAe]; exact hD⟩, by rw [hAe]; exact hS.F ht⟩) hS.2.2 dL_number_73
                · have hid : i < d := Classical.byContradiction (fun q => c48 ((lxUn_le hd5).mpr q))
                  rw [lxUn_t hid] at hl
                  obtain ⟨hq1, hq2⟩ := lx_p10 (k := d - 1 - i) (by omega)
                  have hq3 : n / 10 ^ (d - 1 - i) ≤ n := Nat.div_le_self _ _
                  refine lv_aload_n hx hb dL_number_51 rfl (lv_at hl 0 rfl) ?_
                  refine lv_bipush (v := 48) hx hb dL_number_52 (by decide) ?_
                  refine lv_iload_n hx hb dL_number_54 rfl (lv_at hl 2 rfl) ?_
                  refine lv_iload_n hx hb dL_number_55 rfl (lv_at hl 3 rfl) ?_
                  refine lv_idiv hx hb dL_number_56 (nI_ne0 hq1 (by omega)) ?_
                  refine ft_top (y := nI (n / 10 ^ (d - 1 - i))) (pk_div (by omega) hq1 (by omega)) ?_
                  refine lv_bipush (v := 10) hx hb dL_number_57 (by decide) ?_
                  refine lv_irem hx hb dL_number_59 (by decide) ?_
                  refine ft_top (y := ftRemI (nI (n / 10 ^ (d - 1 - i))) 10) rfl ?_
                  refine ft_top (y := nI (lxD n d i)) (ft_remN (b := 10) (by omega) (by omega) (by omega)) ?_
                  refine lv_iadd hx hb dL_number_60 ?_
                  refine ft_top (y := nI (48 + (lxD n d i))) (ft_addN 48 (lxD n d i)) ?_
                  refine ft_callB (X := (ftCB9 cI cS o0 Ao ((lxTxt cq tx9 (cq.2.2.1.1 + 1 + i)).1.2.1 0) (lxTxt cq tx9 (cq.2.2.1.1 + 1 + i)))) (Y := []) (X1 := fun (u61 : ftCdT) => (ftCB9 cI cS o0 Ao (u61.1.2.1 0) u61)) (ws1 := fun (u61 : ftCdT) => (ftCB9 cI cS o0 Ao (u61.1.2.1 0) u61)) (va_runV (C := RX10) (As := [.int (nI (48 + (lxD n d i)))]) (rest := []) ⟨hx, hb, hml, hown, hts⟩ (et_type l D cI cS H.size sK sV o0 Ao (lxTxt cq tx9 (cq.2.2.1.1 + 1 + i)) (nI (48 + (lxD n d i))) (lx_dg9 n d i) (show cq.2.2.1.1 + 1 + i < 120 by omega)) (cwV 1 hts gL_number_X10_type rfl rfl rfl (by decide +kernel) ⟨Nat.le_of_ble_eq_true rfl, Nat.le_of_ble_eq_true rfl⟩) (ft_preB (ci := 10) (ft_pmE _) hP hD hKK hSt hS hA rfl rfl) rfl rfl hl.1 rfl (lv_room (Nat.le_of_ble_eq_true rfl)) dL_number_61 ⟨Nat.le_of_ble_eq_true rfl, Nat.le_of_ble_eq_true rfl⟩) hP hD hS hA (ft_pmE _) (fun _ => (ft_pmE _).symm) (fun r61 u61 h61 H locs hP hD hS => ?_)
                  have hP : va_P D vwCl (ftCB9 cI cS o0 Ao (u61.1.2.1 0) u61) H := hP
                  have hD : va_D A (ftCB9 cI cS o0 Ao (u61.1.2.1 0) u61) := hD
                  obtain ⟨hr61, hu61⟩ := h61
                  subst hu61
                  have hP : va_P D vwCl (ftCB9 cI cS o0 Ao ((lxTxt cq (upd tx9 (cq.2.2.1.1 + 1 + i) (nI (48 + (lxD n d i)))) (cq.2.2.1.1 + 1 + i + 1)).1.2.1 0) (lxTxt cq (upd tx9 (cq.2.2.1.1 + 1 + i) (nI (48 + (lxD n d i)))) (cq.2.2.1.1 + 1 + i + 1))) H := hP
                  have hD : va_D A (ftCB9 cI cS o0 Ao ((lxTxt cq (upd tx9 (cq.2.2.1.1 + 1 + i) (nI (48 + (lxD n d i)))) (cq.2.2.1.1 + 1 + i + 1)).1.2.1 0) (lxTxt cq (upd tx9 (cq.2.2.1.1 + 1 + i) (nI (48 + (lxD n d i)))) (cq.2.2.1.1 + 1 + i + 1))) := hD
                  refine lv_pop hx hb dL_number_64 rfl ?_
                  refine lv_iload_n hx hb dL_number_65 rfl (lv_at hl 3 rfl) ?_
                  refine lv_bipush (v := 10) hx hb dL_number_66 (by decide) ?_
                  refine lv_idiv hx hb dL_number_68 (by decide) ?_
                  refine ft_top (y := lxUn d (i + 1)) (lxUn_s hd5 hid) ?_
                  refine lv_istore_n (lv' := [(3, .int (lxUn d (i + 1))), (0, .ref o0), (1, .int (nI n)), (2, .int (nI n))]) hx hb dL_number_69 rfl hl (by decide) rfl (fun ls hl => ?_)
                  refine lv_goto (tgt := 47) hx hb dL_number_70 (by decide) ?_
                  exact ih47 (i + 1) (upd tx9 (cq.2.2.1.1 + 1 + i) (nI (48 + lxD n d i))) (lxUn d (i + 1))  (by omega) (by omega) (by exact (ftUpd_ne (by omega)).trans h32) (by intro q hq; rcases Nat.lt_succ_iff_lt_or_eq.mp hq with r | r; exact (ftUpd_ne (by omega)).trans (hdg q r); subst r; exact ftUpd_at0) (by intro t ht; exact (ftUpd_ne (by omega)).trans (hag t ht)) (by first | rfl | assumption)  _ _ hP hD hS ls (lv_sub hl [1, 2, 3, 0] rfl)
            exact lp47 _ 0 (upd cq.2.2.1.2.1 cq.2.2.1.1 32) (nI (10 ^ k))  (Nat.lt_succ_self _) (by omega) (by exact ftUpd_at0) (by intro q hq; exact absurd hq (Nat.not_lt_zero q)) (by intro t ht; exact ftUpd_ne (by omega)) (by rw [lxUn_t (by omega), hd]; rfl) _ _ hP hD hS ls (lv_sub hl [0, 1, 2, 3] rfl)
          · have c36n : 9 < (n / 10 ^ k) := ft_nleN (by omega) (by omega) c36
            refine lv_iload_n hx hb dL_number_39 rfl (lv_at hl 3 rfl) ?_
            refine lv_bipush (v := 10) hx hb dL_number_40 (by decide) ?_
            refine lv_imul hx hb dL_number_42 ?_
            refine ft_top (y := nI ((10 ^ k) * 10)) (ft_mulN (10 ^ k) 10) ?_
            refine lv_istore_n (lv' := [(3, .int (nI ((10 ^ k) * 10))), (0, .ref o0), (1, .int (nI n)), (2, .int (nI n))]) hx hb dL_number_43 rfl hl (by decide) rfl (fun ls hl => ?_)
            refine lv_goto (tgt := 31) hx hb dL_number_44 (by decide) ?_
            exact ih31 (k + 1) (nI ((10 ^ k) * 10))  (by have := lx_go hn hk4 c36n; omega) (by have := lx_go hn hk4 c36n; omega) (by rw [Nat.pow_succ])  _ _ hP hD hS ls (lv_sub hl [1, 2, 3, 0] rfl)
      exact lp31 _ 0 1  (Nat.lt_succ_self _) (by omega) (by rfl) _ _ hP hD hS ls (lv_sub hl [2, 3, 1, 0] rfl)
    · exact absurd (nI_le (a := 0) (Nat.zero_le n) (by omega)) c19
  · exact absurd (nI_le (a := 0) (Nat.zero_le n) (by omega)) c8
set_option maxHeartbeats 4000000 in
set_option maxRecDepth 100000 in
theorem c_L_numberN (l : Launch) (D : va_G) (cI cS : ClassId) (sz : Nat) (sK sV : Nat → Nat) (o0 : Nat) (Ao : Nat → Nat → Nat) (cq : ftCdT) (n : Nat) (hn0 : 0 < n) (hn : n < 100000) (ht : cq.2.2.1.1 + 7 ≤ 120) : Met l yL_number wsL_number ({ frames := 3, cells := 0, slots := 0, locals := 64 }) (ftRWS D cI cS sK sV [.ref o0, .int (-nI n)] (ftCB9 cI cS o0 Ao (cq.1.2.1 0) cq) sz) (ftXv D (ftCB9 cI cS o0 Ao (cq.1.2.1 0) cq) sz (fun (u : ftCdT) => (∃ d tx, u = lxTxt cq tx (cq.2.2.1.1 + 2 + d) ∧ lxN tx cq.2.2.1.1 2 d n ∧ ∀ t, t < cq.2.2.1.1 → tx t = cq.2.2.1.2.1 t)) (fun (u : ftCdT) => (ftCB9 cI cS o0 Ao (u.1.2.1 0) u))) 0 0 (va_A (ftCB9 cI cS o0 Ao (cq.1.2.1 0) cq) sz) := by
  refine Met.ofW (cc := cL_number) (maxL := 4) (ret := none) (by decide) rfl ?_
  intro p e s m args below meth c s₁ B hml hv
  obtain ⟨rfl, hsz, hP, hKK, hD0, hSt⟩ := hv
  have hK := hKK.1
  have hx := B.exec
  have hb := B.bytes
  have hr := B.returns
  have hts := atoms_spec (ws := wsL_number) B.pre
  have hown : s.vm.findClass RL = some m.cls := findClass_of_methodNamed B.named
  have hlocks := B.notSynchronized
  subst hsz
  have hD := hD0.self (sz := s.heap.size)
  generalize hAe : va_A (ftCB9 cI cS o0 Ao (cq.1.2.1 0) cq) s.heap.size = A at hD hSt ⊢
  have hA : ∀ q : Nat, s.heap.size ≤ q → A q := fun q h => by rw [← hAe]; exact Or.inr h
  have hS : va_S A s.heap s.heap [] := va_S.rf
  have hD : va_D A (ftCB9 cI cS o0 Ao (cq.1.2.1 0) cq) := hD
  have hP : va_P D vwCl (ftCB9 cI cS o0 Ao (cq.1.2.1 0) cq) s.heap := hP
  have hl := lv_entry ([.ref o0, .int (-nI n)]) (n := 4) (Nat.le_of_ble_eq_true rfl)
  rw [lg_entry_eq]
  generalize (lg_sl ([.ref o0, .int (-nI n)]) ++ List.replicate (4 - (lg_sl ([.ref o0, .int (-nI n)])).length) Slot.unset).toArray = ls at hl ⊢
  have hl : lv_has ls 4 [(0, .ref o0), (1, .int (-nI n))] := hl
  have hP : va_P D vwCl (ftCB9 cI cS o0 Ao ((lxTxt cq cq.2.2.1.2.1 cq.2.2.1.1).1.2.1 0) (lxTxt cq cq.2.2.1.2.1 cq.2.2.1.1)) s.heap := hP
  have hD : va_D A (ftCB9 cI cS o0 Ao ((lxTxt cq cq.2.2.1.2.1 cq.2.2.1.1).1.2.1 0) (lxTxt cq cq.2.2.1.2.1 cq.2.2.1.1)) := hD
  refine lv_aload_n hx hb dL_number_0 rfl (lv_at hl 0 rfl) ?_
  refine lv_bipush (v := 32) hx hb dL_number_1 (by decide) ?_
  refine ft_callB (X := (ftCB9 cI cS o0 Ao ((lxTxt cq cq.2.2.1.2.1 cq.2.2.1.1).1.2.1 0) (lxTxt cq cq.2.2.1.2.1 cq.2.2.1.1))) (Y := []) (X1 := fun (u3 : ftCdT) => (ftCB9 cI cS o0 Ao (u3.1.2.1 0) u3)) (ws1 := fun (u3 : ftCdT) => (ftCB9 cI cS o0 Ao (u3.1.2.1 0) u3)) (va_runV (C := RX10) (As := [.int 32]) (rest := []) ⟨hx, hb, hml, hown, hts⟩ (et_type l D cI cS s.heap.size sK sV o0 Ao (lxTxt cq cq.2.2.1.2.1 cq.2.2.1.1) 32 (by decide) (show cq.2.2.1.1 < 120 by omega)) (cwV 1 hts gL_number_X10_type rfl rfl rfl (by decide +kernel) ⟨Nat.le_of_ble_eq_true rfl, Nat.le_of_ble_eq_true rfl⟩) (ft_preB (ci := 10) (ft_pmE _) hP hD hKK hSt hS hA rfl rfl) rfl rfl hl.1 rfl (lv_room (Nat.le_of_ble_eq_true rfl)) dL_number_3 ⟨Nat.le_of_ble_eq_true rfl, Nat.le_of_ble_eq_true rfl⟩) hP hD hS hA (ft_pmE _) (fun _ => (ft_pmE _).symm) (fun r3 u3 h3 H locs hP hD hS => ?_)
  have hP : va_P D vwCl (ftCB9 cI cS o0 Ao (u3.1.2.1 0) u3) H := hP
  have hD : va_D A (ftCB9 cI cS o0 Ao (u3.1.2.1 0) u3) := hD
  obtain ⟨hr3, hu3⟩ := h3
  subst hu3
  have hP : va_P D vwCl (ftCB9 cI cS o0 Ao ((lxTxt cq (upd cq.2.2.1.2.1 cq.2.2.1.1 32) (cq.2.2.1.1 + 1)).1.2.1 0) (lxTxt cq (upd cq.2.2.1.2.1 cq.2.2.1.1 32) (cq.2.2.1.1 + 1))) H := hP
  have hD : va_D A (ftCB9 cI cS o0 Ao ((lxTxt cq (upd cq.2.2.1.2.1 cq.2.2.1.1 32) (cq.2.2.1.1 + 1)).1.2.1 0) (lxTxt cq (upd cq.2.2.1.2.1 cq.2.2.1.1 32) (cq.2.2.1.1 + 1))) := hD
  refine lv_pop hx hb dL_number_6 rfl ?_
  refine lv_iload_n hx hb dL_number_7 rfl (lv_at hl 1 rfl) ?_
  refine lv_if_ge (tgt := 18) hx hb dL_number_8 (by decide) (fun c8 => ?_) (fun c8 => ?_)
  · exact absurd (lx_neg hn0 (by omega)) (Int32.not_lt.mpr c8)
  · refine lv_aload_n hx hb dL_number_11 rfl (lv_at hl 0 rfl) ?_
    refine lv_bipush (v := 45) hx hb dL_number_12 (by decide) ?_
    refine ft_callB (X := (ftCB9 cI cS o0 Ao ((lxTxt cq (upd cq.2.2.1.2.1 cq.2.2.1.1 32) (cq.2.2.1.1 + 1)).1.2.1 0) (lxTxt cq (upd cq.2.2.1.2.1 cq.2.2.1.1 32) (cq.2.2.1.1 + 1)))) (Y := []) (X1 := fun (u14 : ftCdT) => (ftCB9 cI cS o0 Ao (u14.1.2.1 0) u14)) (ws1 := fun (u14 : ftCdT) => (ftCB9 cI cS o0 Ao (u14.1.2.1 0) u14)) (va_runV (C := RX10) (As := [.int 45]) (rest := []) ⟨hx, hb, hml, hown, hts⟩ (et_type l D cI cS H.size sK sV o0 Ao (lxTxt cq (upd cq.2.2.1.2.1 cq.2.2.1.1 32) (cq.2.2.1.1 + 1)) 45 (by decide) (show cq.2.2.1.1 + 1 < 120 by omega)) (cwV 1 hts gL_number_X10_type rfl rfl rfl (by decide +kernel) ⟨Nat.le_of_ble_eq_true rfl, Nat.le_of_ble_eq_true rfl⟩) (ft_preB (ci := 10) (ft_pmE _) hP hD hKK hSt hS hA rfl rfl) rfl rfl hl.1 rfl (lv_room (Nat.le_of_ble_eq_true rfl)) dL_number_14 ⟨Nat.le_of_ble_eq_true rfl, Nat.le_of_ble_eq_true rfl⟩) hP hD hS hA (ft_pmE _) (fun _ => (ft_pmE _).symm) (fun r14 u14 h14 H locs hP hD hS => ?_)
    have hP : va_P D vwCl (ftCB9 cI cS o0 Ao (u14.1.2.1 0) u14) H := hP
    have hD : va_D A (ftCB9 cI cS o0 Ao (u14.1.2.1 0) u14) := hD
    obtain ⟨hr14, hu14⟩ := h14
    subst hu14
    have hP : va_P D vwCl (ftCB9 cI cS o0 Ao ((lxTxt cq (upd (upd cq.2.2.1.2.1 cq.2.2.1.1 32) (cq.2.2.1.1 + 1) 45) (cq.2.2.1.1 + 1 + 1)).1.2.1 0) (lxTxt cq (upd (upd cq.2.2.1.2.1 cq.2.2.1.1 32) (cq.2.2.1.1 + 1) 45) (cq.2.2.1.1 + 1 + 1))) H := hP
    have hD : va_D A (ftCB9 cI cS o0 Ao ((lxTxt cq (upd (upd cq.2.2.1.2.1 cq.2.2.1.1 32) (cq.2.2.1.1 + 1) 45) (cq.2.2.1.1 + 1 + 1)).1.2.1 0) (lxTxt cq (upd (upd cq.2.2.1.2.1 cq.2.2.1.1 32) (cq.2.2.1.1 + 1) 45) (cq.2.2.1.1 + 1 + 1))) := hD
    refine lv_pop hx hb dL_number_17 rfl ?_
    refine lv_iload_n hx hb dL_number_18 rfl (lv_at hl 1 rfl) ?_
    refine lv_if_ge (tgt := 27) hx hb dL_number_19 (by decide) (fun c19 => ?_) (fun c19 => ?_)
    · exact absurd (lx_neg hn0 (by omega)) (Int32.not_lt.mpr c19)
    · refine lv_iload_n hx hb dL_number_22 rfl (lv_at hl 1 rfl) ?_
      refine lv_ineg hx hb dL_number_23 ?_
      refine ft_top (y := nI n) Int32.neg_neg ?_
      refine lv_goto (tgt := 28) hx hb dL_number_24 (by decide) ?_
      refine lv_istore_n (lv' := [(2, .int (nI n)), (0, .ref o0), (1, .int (-nI n))]) hx hb dL_number_28 rfl hl (by decide) rfl (fun ls hl => ?_)
      refine lv_iconst (v := 1) hx hb dL_number_29 (by decide) ?_
      refine lv_istore_n (lv' := [(3, .int 1), (2, .int (nI n)), (0, .ref o0), (1, .int (-nI n))]) hx hb dL_number_30 rfl hl (by decide) rfl (fun ls hl => ?_)
      have lp31 : ∀ (n31 : Nat) (k : Nat) (x31_3 : Int32), 4 - k < n31 → (k ≤ 4) → x31_3 = nI (10 ^ k) → ∀ (H : Heap) (locs : List Loc), va_P D vwCl (ftCB9 cI cS o0 Ao ((lxTxt cq (upd (upd cq.2.2.1.2.1 cq.2.2.1.1 32) (cq.2.2.1.1 + 1) 45) (cq.2.2.1.1 + 1 + 1)).1.2.1 0) (lxTxt cq (upd (upd cq.2.2.1.2.1 cq.2.2.1.1 32) (cq.2.2.1.1 + 1) 45) (cq.2.2.1.1 + 1 + 1))) H → va_D A (ftCB9 cI cS o0 Ao ((lxTxt cq (upd (upd cq.2.2.1.2.1 cq.2.2.1.1 32) (cq.2.2.1.1 + 1) 45) (cq.2.2.1.1 + 1 + 1)).1.2.1 0) (lxTxt cq (upd (upd cq.2.2.1.2.1 cq.2.2.1.1 32) (cq.2.2.1.1 + 1) 45) (cq.2.2.1.1 + 1 + 1))) → va_S A s.heap H locs → ∀ ls : Array Slot, lv_has ls 4 [(0, .ref o0), (1, .int (-nI n)), (2, .int (nI n)), (3, .int x31_3)] → W p l e (headSpec wsL_number { frames := 3, cells := 0, slots := 0, locals := 64 }).room s m ([.ref o0, .int (-nI n)] : List Value).toArray below meth c H locs 0 0 (MQ below (ftXv D (ftCB9 cI cS o0 Ao (cq.1.2.1 0) cq) s.heap.size (fun (u : ftCdT) => (∃ d tx, u = lxTxt cq tx (cq.2.2.1.1 + 2 + d) ∧ lxN tx cq.2.2.1.1 2 d n ∧ ∀ t, t < cq.2.2.1.1 → tx t = cq.2.2.1.2.1 t)) (fun (u : ftCdT) => (ftCB9 cI cS o0 Ao (u.1.2.1 0) u))) ([.ref o0, .int (-nI n)] : List Value).toArray s 0 0 A) (F0 m 31 ls []) := by
        intro n31
        induction n31 with
        | zero =>
          intro k x31_3  hm31
          exact absurd hm31 (Nat.not_lt_zero _)
        | succ n31 ih31 =>
          intro k x31_3  hm31 hk4 ex31_3  H locs hP hD hS ls hl
          subst ex31_3
          obtain ⟨hp1, hp2⟩ := lx_p10 hk4
          have hp3 : n / 10 ^ k ≤ n := Nat.div_le_self _ _
          refine lv_iload_n hx hb dL_number_31 rfl (lv_at hl 2 rfl) ?_
          refine lv_iload_n hx hb dL_number_32 rfl (lv_at hl 3 rfl) ?_
          refine lv_idiv hx hb dL_number_33 (nI_ne0 hp1 (by omega)) ?_
          refine ft_top (y := nI (n / 10 ^ k)) (pk_div (by omega) hp1 (by omega)) ?_
          refine lv_bipush (v := 9) hx hb dL_number_34 (by decide) ?_
          refine lv_icmp_le (tgt := 47) hx hb dL_number_36 (by decide) (fun c36 => ?_) (fun c36 => ?_)
          · have c36n : (n / 10 ^ k) ≤ 9 := ft_leN (by omega) (by omega) c36
            obtain ⟨d, hd⟩ : ∃ d, d = k + 1 := ⟨_, rfl⟩
            have hnd : n < 10 ^ d := by rw [hd]; exact lx_exit c36n
            have hd5 : d ≤ 5 := by omega
            have hd1 : 1 ≤ d := by omega
            have lp47 : ∀ (n47 : Nat) (i : Nat) (tx9 : Nat → Int32) (x47_3 : Int32), d - i < n47 → (i ≤ d) → (tx9 cq.2.2.1.1 = 32) → (tx9 (cq.2.2.1.1 + 1) = 45) → (∀ q, q < i → tx9 (cq.2.2.1.1 + 2 + q) = nI (48 + lxD n d q)) → (∀ t, t < cq.2.2.1.1 → tx9 t = cq.2.2.1.2.1 t) → x47_3 = lxUn d i → ∀ (H : Heap) (locs : List Loc), va_P D vwCl (ftCB9 cI cS o0 Ao ((lxTxt cq tx9 (cq.2.2.1.1 + 2 + i)).1.2.1 0) (lxTxt cq tx9 (cq.2.2.1.1 + 2 + i))) H → va_D A (ftCB9 cI cS o0 Ao ((lxTxt cq tx9 (cq.2.2.1.1 + 2 + i)).1.2.1 0) (lxTxt cq tx9 (cq.2.2.1.1 + 2 + i))) → va_S A s.heap H locs → ∀ ls : Array Slot, lv_has ls 4 [(0, .ref o0), (1, .int (-nI n)), (2, .int (nI n)), (3, .int x47_3)] → W p l e (headSpec wsL_number { frames := 3, cells := 0, slots := 0, locals := 64 }).room s m ([.ref o0, .int (-nI n)] : List Value).toArray below meth c H locs 0 0 (MQ below (ftXv D (ftCB9 cI cS o0 Ao (cq.1.2.1 0) cq) s.heap.size (fun (u : ftCdT) => (∃ d tx, u = lxTxt cq tx (cq.2.2.1.1 + 2 + d) ∧ lxN tx cq.2.2.1.1 2 d n ∧ ∀ t, t < cq.2.2.1.1 → tx t = cq.2.2.1.2.1 t)) (fun (u : ftCdT) => (ftCB9 cI cS o0 Ao (u.1.2.1 0) u))) ([.ref o0, .int (-nI n)] : List Value).toArray s 0 0 A) (F0 m 47 ls []) := by
              intro n47
              induction n47 with
              | zero =>
                intro i tx9 x47_3  hm47
                exact absurd hm47 (Nat.not_lt_zero _)
              | succ n47 ih47 =>
                intro i tx9 x47_3  hm47 hi5 h32 h45 hdg hag ex47_3  H locs hP hD hS ls hl
                subst ex47_3
                refine lv_iload_n hx hb dL_number_47 rfl (lv_at hl 3 rfl) ?_
                refine lv_if_le (tgt := 73) hx hb dL_number_48 (by decide) (fun c48 => ?_) (fun c48 => ?_)
                · have hie : i = d := by have := (lxUn_le hd5).mp c48; omega
                  obtain ⟨u9, hu9⟩ : ∃ u9 : ftCdT, u9 = (lxTxt cq tx9 (cq.2.2.1.1 + 2 + i)) := ⟨_, rfl⟩
                  have hw9 : ((ftCB9 cI cS o0 Ao ((lxTxt cq tx9 (cq.2.2.1.1 + 2 + i)).1.2.1 0) (lxTxt cq tx9 (cq.2.2.1.1 + 2 + i))) : va_W) = (ftCB9 cI cS o0 Ao (u9.1.2.1 0) u9) := by subst hu9; rfl
                  rw [hw9] at hP hD
                  have hf9_0 : ∃ d tx, u9 = lxTxt cq tx (cq.2.2.1.1 + 2 + d) ∧ lxN tx cq.2.2.1.1 2 d n ∧ ∀ t, t < cq.2.2.1.1 → tx t = cq.2.2.1.2.1 t := by rw [hie] at hu9; exact ⟨d, tx9, hu9, ⟨h32, Or.inr ⟨rfl, h45⟩, hd1, hd5, hnd, fun q hq => hdg q (by omega)⟩, hag⟩
                  exact W.vret hx hb hr (fun t ht hW => ⟨⟨u9, rfl, hf9_0, by rw [ht]; exact hP, by rw [hAe]; exact hD⟩, by rw [hAe]; exact hS.F ht⟩) hS.2.2 dL_number_73
                · have hid : i < d := Classical.byContradiction (fun q => c48 ((lxUn_le hd5).mpr q))
                  rw [lxUn_t hid] at hl
                  obtain ⟨hq1, hq2⟩ := lx_p10 (k := d - 1 - i) (by omega)
                  have hq3 : n / 10 ^ (d - 1 - i) ≤ n := Nat.div_le_self _ _
                  refine lv_aload_n hx hb dL_number_51 rfl (lv_at hl 0 rfl) ?_
                  refine lv_bipush (v := 48) hx hb dL_number_52 (by decide) ?_
                  refine lv_iload_n hx hb dL_number_54 rfl (lv_at hl 2 rfl) ?_
                  refine lv_iload_n hx hb dL_number_55 rfl (lv_at hl 3 rfl) ?_
                  refine lv_idiv hx hb dL_number_56 (nI_ne0 hq1 (by omega)) ?_
                  refine ft_top (y := nI (n / 10 ^ (d - 1 - i))) (pk_div (by omega) hq1 (by omega)) ?_
                  refine lv_bipush (v := 10) hx hb dL_number_57 (by decide) ?_
                  refine lv_irem hx hb dL_number_59 (by decide) ?_
                  refine ft_top (y := ftRemI (nI (n / 10 ^ (d - 1 - i))) 10) rfl ?_
                  refine ft_top (y := nI (lxD n d i)) (ft_remN (b := 10) (by omega) (by omega) (by omega)) ?_
                  refine lv_iadd hx hb dL_number_60 ?_
                  refine ft_top (y := nI (48 + (lxD n d i))) (ft_addN 48 (lxD n d i)) ?_
                  refine ft_callB (X := (ftCB9 cI cS o0 Ao ((lxTxt cq tx9 (cq.2.2.1.1 + 2 + i)).1.2.1 0) (lxTxt cq tx9 (cq.2.2.1.1 + 2 + i)))) (Y := []) (X1 := fun (u61 : ftCdT) => (ftCB9 cI cS o0 Ao (u61.1.2.1 0) u61)) (ws1 := fun (u61 : ftCdT) => (ftCB9 cI cS o0 Ao (u61.1.2.1 0) u61)) (va_runV (C := RX10) (As := [.int (nI (48 + (lxD n d i)))]) (rest := []) ⟨hx, hb, hml, hown, hts⟩ (et_type l D cI cS H.size sK sV o0 Ao (lxTxt cq tx9 (cq.2.2.1.1 + 2 + i)) (nI (48 + (lxD n d i))) (lx_dg9 n d i) (show cq.2.2.1.1 + 2 + i < 120 by omega)) (cwV 1 hts gL_number_X10_type rfl rfl rfl (by decide +kernel) ⟨Nat.le_of_ble_eq_true rfl, Nat.le_of_ble_eq_true rfl⟩) (ft_preB (ci := 10) (ft_pmE _) hP hD hKK hSt hS hA rfl rfl) rfl rfl hl.1 rfl (lv_room (Nat.le_of_ble_eq_true rfl)) dL_number_61 ⟨Nat.le_of_ble_eq_true rfl, Nat.le_of_ble_eq_true rfl⟩) hP hD hS hA (ft_pmE _) (fun _ => (ft_pmE _).symm) (fun r61 u61 h61 H locs hP hD hS => ?_)
                  have hP : va_P D vwCl (ftCB9 cI cS o0 Ao (u61.1.2.1 0) u61) H := hP
                  have hD : va_D A (ftCB9 cI cS o0 Ao (u61.1.2.1 0) u61) := hD
                  obtain ⟨hr61, hu61⟩ := h61
                  subst hu61
                  have hP : va_P D vwCl (ftCB9 cI cS o0 Ao ((lxTxt cq (upd tx9 (cq.2.2.1.1 + 2 + i) (nI (48 + (lxD n d i)))) (cq.2.2.1.1 + 2 + i + 1)).1.2.1 0) (lxTxt cq (upd tx9 (cq.2.2.1.1 + 2 + i) (nI (48 + (lxD n d i)))) (cq.2.2.1.1 + 2 + i + 1))) H := hP
                  have hD : va_D A (ftCB9 cI cS o0 Ao ((lxTxt cq (upd tx9 (cq.2.2.1.1 + 2 + i) (nI (48 + (lxD n d i)))) (cq.2.2.1.1 + 2 + i + 1)).1.2.1 0) (lxTxt cq (upd tx9 (cq.2.2.1.1 + 2 + i) (nI (48 + (lxD n d i)))) (cq.2.2.1.1 + 2 + i + 1))) := hD
                  refine lv_pop hx hb dL_number_64 rfl ?_
                  refine lv_iload_n hx hb dL_number_65 rfl (lv_at hl 3 rfl) ?_
                  refine lv_bipush (v := 10) hx hb dL_number_66 (by decide) ?_
                  refine lv_idiv hx hb dL_number_68 (by decide) ?_
                  refine ft_top (y := lxUn d (i + 1)) (lxUn_s hd5 hid) ?_
                  refine lv_istore_n (lv' := [(3, .int (lxUn d (i + 1))), (0, .ref o0), (1, .int (-nI n)), (2, .int (nI n))]) hx hb dL_number_69 rfl hl (by decide) rfl (fun ls hl => ?_)
                  refine lv_goto (tgt := 47) hx hb dL_number_70 (by decide) ?_
                  exact ih47 (i + 1) (upd tx9 (cq.2.2.1.1 + 2 + i) (nI (48 + lxD n d i))) (lxUn d (i + 1))  (by omega) (by omega) (by exact (ftUpd_ne (by omega)).trans h32) (by exact (ftUpd_ne (by omega)).trans h45) (by intro q hq; rcases Nat.lt_succ_iff_lt_or_eq.mp hq with r | r; exact (ftUpd_ne (by omega)).trans (hdg q r); subst r; exact ftUpd_at0) (by intro t ht; exact (ftUpd_ne (by omega)).trans (hag t ht)) (by first | rfl | assumption)  _ _ hP hD hS ls (lv_sub hl [1, 2, 3, 0] rfl)
            exact lp47 _ 0 (upd (upd cq.2.2.1.2.1 cq.2.2.1.1 32) (cq.2.2.1.1 + 1) 45) (nI (10 ^ k))  (Nat.lt_succ_self _) (by omega) (by exact (ftUpd_ne (by omega)).trans ftUpd_at0) (by exact ftUpd_at0) (by intro q hq; exact absurd hq (Nat.not_lt_zero q)) (by intro t ht; exact (ftUpd_ne (by omega)).trans (ftUpd_ne (by omega))) (by rw [lxUn_t (by omega), hd]; rfl) _ _ hP hD hS ls (lv_sub hl [0, 1, 2, 3] rfl)
          · have c36n : 9 < (n / 10 ^ k) := ft_nleN (by omega) (by omega) c36
            refine lv_iload_n hx hb dL_number_39 rfl (lv_at hl 3 rfl) ?_
            refine lv_bipush (v := 10) hx hb dL_number_40 (by decide) ?_
            refine lv_imul hx hb dL_number_42 ?_
            refine ft_top (y := nI ((10 ^ k) * 10)) (ft_mulN (10 ^ k) 10) ?_
            refine lv_istore_n (lv' := [(3, .int (nI ((10 ^ k) * 10))), (0, .ref o0), (1, .int (-nI n)), (2, .int (nI n))]) hx hb dL_number_43 rfl hl (by decide) rfl (fun ls hl => ?_)
            refine lv_goto (tgt := 31) hx hb dL_number_44 (by decide) ?_
            exact ih31 (k + 1) (nI ((10 ^ k) * 10))  (by have := lx_go hn hk4 c36n; omega) (by have := lx_go hn hk4 c36n; omega) (by rw [Nat.pow_succ])  _ _ hP hD hS ls (lv_sub hl [1, 2, 3, 0] rfl)
      exact lp31 _ 0 1  (Nat.lt_succ_self _) (by omega) (by rfl) _ _ hP hD hS ls (lv_sub hl [2, 3, 1, 0] rfl)
set_option maxHeartbeats 4000000 in
set_option maxRecDepth 100000 in
theorem c_L_word (l : Launch) (D : va_G) (cI cS : ClassId) (sz : Nat) (sK sV : Nat → Nat) (o0 : Nat) (Ao : Nat → Nat → Nat) (cq : ftCdT) (L9 : Int64) (W9 : Nat) (f9 : Nat → Int32) (hw : lxWd L9 W9 f9) (ht : cq.2.2.1.1 + W9 ≤ 120) : Met l yL_word wsL_word ({ frames := 3, cells := 0, slots := 0, locals := 64 }) (ftRWS D cI cS sK sV [.ref o0, .long L9] (ftCB9 cI cS o0 Ao (cq.1.2.1 0) cq) sz) (ftXv D (ftCB9 cI cS o0 Ao (cq.1.2.1 0) cq) sz (fun (u : ftCdT) => (u = lxTxt cq (lxTy f9 cq.2.2.1.2.1 cq.2.2.1.1 W9) (cq.2.2.1.1 + W9))) (fun (u : ftCdT) => (ftCB9 cI cS o0 Ao (u.1.2.1 0) u))) 0 0 (va_A (ftCB9 cI cS o0 Ao (cq.1.2.1 0) cq) sz) := by
  refine Met.ofW (cc := cL_word) (maxL := 5) (ret := none) (by decide) rfl ?_
  intro p e s m args below meth c s₁ B hml hv
  obtain ⟨rfl, hsz, hP, hKK, hD0, hSt⟩ := hv
  have hK := hKK.1
  have hx := B.exec
  have hb := B.bytes
  have hr := B.returns
  have hts := atoms_spec (ws := wsL_word) B.pre
  have hown : s.vm.findClass RL = some m.cls := findClass_of_methodNamed B.named
  have hlocks := B.notSynchronized
  subst hsz
  have hD := hD0.self (sz := s.heap.size)
  generalize hAe : va_A (ftCB9 cI cS o0 Ao (cq.1.2.1 0) cq) s.heap.size = A at hD hSt ⊢
  have hA : ∀ q : Nat, s.heap.size ≤ q → A q := fun q h => by rw [← hAe]; exact Or.inr h
  have hS : va_S A s.heap s.heap [] := va_S.rf
  have hD : va_D A (ftCB9 cI cS o0 Ao (cq.1.2.1 0) cq) := hD
  have hP : va_P D vwCl (ftCB9 cI cS o0 Ao (cq.1.2.1 0) cq) s.heap := hP
  have hl := lv_entry ([.ref o0, .long L9]) (n := 5) (Nat.le_of_ble_eq_true rfl)
  rw [lg_entry_eq]
  generalize (lg_sl ([.ref o0, .long L9]) ++ List.replicate (5 - (lg_sl ([.ref o0, .long L9])).length) Slot.unset).toArray = ls at hl ⊢
  have hl : lv_has ls 5 [(0, .ref o0), (1, .long L9)] := hl
  obtain ⟨hw8, hwb, hwf⟩ := hw
  have hP : va_P D vwCl (ftCB9 cI cS o0 Ao ((lxTxt cq (lxTy f9 cq.2.2.1.2.1 cq.2.2.1.1 0) (cq.2.2.1.1 + 0)).1.2.1 0) (lxTxt cq (lxTy f9 cq.2.2.1.2.1 cq.2.2.1.1 0) (cq.2.2.1.1 + 0))) s.heap := (by rw [lxTy_0]; exact hP)
  have hD : va_D A (ftCB9 cI cS o0 Ao ((lxTxt cq (lxTy f9 cq.2.2.1.2.1 cq.2.2.1.1 0) (cq.2.2.1.1 + 0)).1.2.1 0) (lxTxt cq (lxTy f9 cq.2.2.1.2.1 cq.2.2.1.1 0) (cq.2.2.1.1 + 0))) := (by rw [lxTy_0]; exact hD)
  refine lv_bipush (v := 56) hx hb dL_word_0 (by decide) ?_
  refine lv_istore_n (lv' := [(3, .int 56), (0, .ref o0), (1, .long L9)]) hx hb dL_word_2 rfl hl (by decide) rfl (fun ls hl => ?_)
  have lp3 : ∀ (n3 : Nat) (i m9 : Nat) (x3_3 : Int32), 8 - i < n3 → (i ≤ 8) → (m9 = i - (8 - W9)) → x3_3 = lxSh i → ∀ (H : Heap) (locs : List Loc), va_P D vwCl (ftCB9 cI cS o0 Ao ((lxTxt cq (lxTy f9 cq.2.2.1.2.1 cq.2.2.1.1 m9) (cq.2.2.1.1 + m9)).1.2.1 0) (lxTxt cq (lxTy f9 cq.2.2.1.2.1 cq.2.2.1.1 m9) (cq.2.2.1.1 + m9))) H → va_D A (ftCB9 cI cS o0 Ao ((lxTxt cq (lxTy f9 cq.2.2.1.2.1 cq.2.2.1.1 m9) (cq.2.2.1.1 + m9)).1.2.1 0) (lxTxt cq (lxTy f9 cq.2.2.1.2.1 cq.2.2.1.1 m9) (cq.2.2.1.1 + m9))) → va_S A s.heap H locs → ∀ ls : Array Slot, lv_has ls 5 [(0, .ref o0), (1, .long L9), (3, .int x3_3)] → W p l e (headSpec wsL_word { frames := 3, cells := 0, slots := 0, locals := 64 }).room s m ([.ref o0, .long L9] : List Value).toArray below meth c H locs 0 0 (MQ below (ftXv D (ftCB9 cI cS o0 Ao (cq.1.2.1 0) cq) s.heap.size (fun (u : ftCdT) => (u = lxTxt cq (lxTy f9 cq.2.2.1.2.1 cq.2.2.1.1 W9) (cq.2.2.1.1 + W9))) (fun (u : ftCdT) => (ftCB9 cI cS o0 Ao (u.1.2.1 0) u))) ([.ref o0, .long L9] : List Value).toArray s 0 0 A) (F0 m 3 ls []) := by
    intro n3
    induction n3 with
    | zero =>
      intro i m9 x3_3  hm3
      exact absurd hm3 (Nat.not_lt_zero _)
    | succ n3 ih3 =>
      intro i m9 x3_3  hm3 hi hmi ex3_3  H locs hP hD hS ls hl
      subst ex3_3
      refine lv_iload_n hx hb dL_word_3 rfl (lv_at hl 2 rfl) ?_
      refine lv_if_lt (tgt := 35) hx hb dL_word_4 (by decide) (fun c4 => ?_) (fun c4 => ?_)
      · have hi8 : i = 8 := (lxSh_8 i hi).mp c4
        have hmw : m9 = W9 := by omega
        obtain ⟨u9, hu9⟩ : ∃ u9 : ftCdT, u9 = (lxTxt cq (lxTy f9 cq.2.2.1.2.1 cq.2.2.1.1 m9) (cq.2.2.1.1 + m9)) := ⟨_, rfl⟩
        have hw9 : ((ftCB9 cI cS o0 Ao ((lxTxt cq (lxTy f9 cq.2.2.1.2.1 cq.2.2.1.1 m9) (cq.2.2.1.1 + m9)).1.2.1 0) (lxTxt cq (lxTy f9 cq.2.2.1.2.1 cq.2.2.1.1 m9) (cq.2.2.1.1 + m9))) : va_W) = (ftCB9 cI cS o0 Ao (u9.1.2.1 0) u9) := by subst hu9; rfl
        rw [hw9] at hP hD
        have hf9_0 : u9 = lxTxt cq (lxTy f9 cq.2.2.1.2.1 cq.2.2.1.1 W9) (cq.2.2.1.1 + W9) := by rw [hmw] at hu9; exact hu9
        exact W.vret hx hb hr (fun t ht hW => ⟨⟨u9, rfl, hf9_0, by rw [ht]; exact hP, by rw [hAe]; exact hD⟩, by rw [hAe]; exact hS.F ht⟩) hS.2.2 dL_word_35
      · have hi8 : i < 8 := by rcases Nat.lt_or_ge i 8 with q | q; exact q; exact absurd ((lxSh_8 i hi).mpr (by omega)) c4
        rw [lxSh_t hi8] at hl
        obtain ⟨hb1, hb2⟩ := hwb i hi8
        refine lv_lload_n hx hb dL_word_7 rfl (lv_at hl 1 rfl) ?_
        refine lv_iload_n hx hb dL_word_8 rfl (lv_at hl 2 rfl) ?_
        refine lv_lshr (v := L9 >>> ((nI (56 - 8 * i)).toInt64 &&& 63)) hx hb dL_word_9 rfl ?_
        refine lv_ldc2 (v := 255) hx hb hown (hts (.constantLong RL 15 255) (by decide +kernel)) dL_word_10 ?_
        refine lv_land hx hb dL_word_13 ?_
        refine lv_l2i (v := lxB L9 i) hx hb dL_word_14 rfl ?_
        refine lv_istore (lv' := [(4, .int (lxB L9 i)), (0, .ref o0), (1, .long L9), (3, .int (nI (56 - 8 * i)))]) hx hb dL_word_15 hl (by decide) rfl (fun ls hl => ?_)
        refine lv_iload hx hb dL_word_17 (lv_at hl 0 rfl) ?_
        refine lv_if_le (tgt := 29) hx hb dL_word_19 (by decide) (fun c19 => ?_) (fun c19 => ?_)
        · have hlo : i < 8 - W9 := by
            rcases Nat.lt_or_ge i (8 - W9) with q | q
            · exact q
            · have q2 := (hwf (i - (8 - W9)) (by omega)).1
              rw [← hb2 q] at q2
              exact absurd (Int32.le_trans q2 c19) (by decide)
          refine lv_iinc (v := (nI (56 - 8 * i)) + Int32.ofInt (-8)) (lv' := [(3, .int ((nI (56 - 8 * i)) + Int32.ofInt (-8))), (4, .int (lxB L9 i)), (0, .ref o0), (1, .long L9)]) hx hb dL_word_29 hl (k := 3) rfl rfl (by decide) rfl (fun ls hl => ?_)
          refine lv_goto (tgt := 3) hx hb dL_word_32 (by decide) ?_
          exact ih3 (i + 1) m9 ((nI (56 - 8 * i)) + Int32.ofInt (-8))  (by omega) (by omega) (by omega) (by exact lxSh_s i hi8)  _ _ hP hD hS ls (lv_sub hl [2, 3, 0] rfl)
        · have hhi : 8 - W9 ≤ i := by
            rcases Nat.lt_or_ge i (8 - W9) with q | q
            · exact absurd (by rw [hb1 q]; exact Int32.le_refl 0) c19
            · exact q
          have hm9 : i - (8 - W9) = m9 := hmi.symm
          rw [hb2 hhi, hm9] at hl
          refine lv_aload_n hx hb dL_word_22 rfl (lv_at hl 1 rfl) ?_
          refine lv_iload hx hb dL_word_23 (lv_at hl 0 rfl) ?_
          refine ft_callB (X := (ftCB9 cI cS o0 Ao ((lxTxt cq (lxTy f9 cq.2.2.1.2.1 cq.2.2.1.1 m9) (cq.2.2.1.1 + m9)).1.2.1 0) (lxTxt cq (lxTy f9 cq.2.2.1.2.1 cq.2.2.1.1 m9) (cq.2.2.1.1 + m9)))) (Y := []) (X1 := fun (u25 : ftCdT) => (ftCB9 cI cS o0 Ao (u25.1.2.1 0) u25)) (ws1 := fun (u25 : ftCdT) => (ftCB9 cI cS o0 Ao (u25.1.2.1 0) u25)) (va_runV (C := RX10) (As := [.int (f9 m9)]) (rest := []) ⟨hx, hb, hml, hown, hts⟩ (et_type l D cI cS H.size sK sV o0 Ao (lxTxt cq (lxTy f9 cq.2.2.1.2.1 cq.2.2.1.1 m9) (cq.2.2.1.1 + m9)) (f9 m9) (hwf m9 (by omega)) (show cq.2.2.1.1 + m9 < 120 by omega)) (cwV 1 hts gL_word_X10_type rfl rfl rfl (by decide +kernel) ⟨Nat.le_of_ble_eq_true rfl, Nat.le_of_ble_eq_true rfl⟩) (ft_preB (ci := 10) (ft_pmE _) hP hD hKK hSt hS hA rfl rfl) rfl rfl hl.1 rfl (lv_room (Nat.le_of_ble_eq_true rfl)) dL_word_25 ⟨Nat.le_of_ble_eq_true rfl, Nat.le_of_ble_eq_true rfl⟩) hP hD hS hA (ft_pmE _) (fun _ => (ft_pmE _).symm) (fun r25 u25 h25 H locs hP hD hS => ?_)
          have hP : va_P D vwCl (ftCB9 cI cS o0 Ao (u25.1.2.1 0) u25) H := hP
          have hD : va_D A (ftCB9 cI cS o0 Ao (u25.1.2.1 0) u25) := hD
          obtain ⟨hr25, hu25⟩ := h25
          subst hu25
          have hP : va_P D vwCl (ftCB9 cI cS o0 Ao ((lxTxt cq (upd (lxTy f9 cq.2.2.1.2.1 cq.2.2.1.1 m9) (cq.2.2.1.1 + m9) (f9 m9)) (cq.2.2.1.1 + m9 + 1)).1.2.1 0) (lxTxt cq (upd (lxTy f9 cq.2.2.1.2.1 cq.2.2.1.1 m9) (cq.2.2.1.1 + m9) (f9 m9)) (cq.2.2.1.1 + m9 + 1))) H := hP
          have hD : va_D A (ftCB9 cI cS o0 Ao ((lxTxt cq (upd (lxTy f9 cq.2.2.1.2.1 cq.2.2.1.1 m9) (cq.2.2.1.1 + m9) (f9 m9)) (cq.2.2.1.1 + m9 + 1)).1.2.1 0) (lxTxt cq (upd (lxTy f9 cq.2.2.1.2.1 cq.2.2.1.1 m9) (cq.2.2.1.1 + m9) (f9 m9)) (cq.2.2.1.1 + m9 + 1))) := hD
          have hP : va_P D vwCl (ftCB9 cI cS o0 Ao ((lxTxt cq (lxTy f9 cq.2.2.1.2.1 cq.2.2.1.1 (m9 + 1)) (cq.2.2.1.1 + (m9 + 1))).1.2.1 0) (lxTxt cq (lxTy f9 cq.2.2.1.2.1 cq.2.2.1.1 (m9 + 1)) (cq.2.2.1.1 + (m9 + 1)))) H := (by rw [← lxTy_s]; exact hP)
          have hD : va_D A (ftCB9 cI cS o0 Ao ((lxTxt cq (lxTy f9 cq.2.2.1.2.1 cq.2.2.1.1 (m9 + 1)) (cq.2.2.1.1 + (m9 + 1))).1.2.1 0) (lxTxt cq (lxTy f9 cq.2.2.1.2.1 cq.2.2.1.1 (m9 + 1)) (cq.2.2.1.1 + (m9 + 1)))) := (by rw [← lxTy_s]; exact hD)
          refine lv_pop hx hb dL_word_28 rfl ?_
          refine lv_iinc (v := (nI (56 - 8 * i)) + Int32.ofInt (-8)) (lv' := [(3, .int ((nI (56 - 8 * i)) + Int32.ofInt (-8))), (4, .int (f9 m9)), (0, .ref o0), (1, .long L9)]) hx hb dL_word_29 hl (k := 3) rfl rfl (by decide) rfl (fun ls hl => ?_)
          refine lv_goto (tgt := 3) hx hb dL_word_32 (by decide) ?_
          exact ih3 (i + 1) (m9 + 1) ((nI (56 - 8 * i)) + Int32.ofInt (-8))  (by omega) (by omega) (by omega) (by exact lxSh_s i hi8)  _ _ hP hD hS ls (lv_sub hl [2, 3, 0] rfl)
  exact lp3 _ 0 0 56  (Nat.lt_succ_self _) (by omega) (by omega) (by rfl) _ _ hP hD hS ls (lv_sub hl [1, 2, 0] rfl)
