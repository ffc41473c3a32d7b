/-! traces: base, peaks, noise -/
theorem ft_subI {a b : Nat} (ha : a < 2 ^ 31) (hb : b < 2 ^ 31) : (nI a - nI b).toInt = (a : Int) - b := by
  rw [Int32.toInt_sub, nI_toInt ha, nI_toInt hb]
  exact Int.bmod_eq_of_le (by omega) (by omega)
def ftPk (pl hh w d x : Nat) : Nat := if x < pl then 0 else hh - d * (x + 1 - (pl + w))
def ftRaiseG (f : Nat → Int32) (pl hh w d X : Nat) : Nat → Int32 := fun t => if pl ≤ t ∧ t < X then ftMax (nI (ftPk pl hh w d t)) (f t) else f t
theorem ftMax_0 {y : Int32} (h : 0 ≤ y) : ftMax (nI 0) y = y := by
  unfold ftMax
  by_cases q : nI 0 < y
  · rw [if_pos q]
  · rw [if_neg q]
    exact Int32.le_antisymm h (Int32.not_lt.mp q)
theorem ftRaiseG_0 (f : Nat → Int32) (pl hh w d : Nat) : f = ftRaiseG f pl hh w d pl := funext fun t => (if_neg (by omega)).symm
theorem ftRaiseG_s {f : Nat → Int32} {pl hh w d X : Nat} {v : Int32} (h : pl ≤ X) (hv : v = ftMax (nI (ftPk pl hh w d X)) (f X)) : upd (ftRaiseG f pl hh w d X) X v = ftRaiseG f pl hh w d (X + 1) := by
  funext t
  unfold upd ftRaiseG
  by_cases q : t = X
  · subst q; rw [if_pos rfl, if_pos (by omega), hv]
  · rw [if_neg q]
    by_cases r : pl ≤ t ∧ t < X
    · rw [if_pos r, if_pos (by omega)]
    · rw [if_neg r, if_neg (by omega)]
theorem ftRaiseG_e {f : Nat → Int32} {pl hh w d X N : Nat} (hf : ∀ t, t < N → 0 ≤ f t) (hX : X ≤ N ∨ X = pl) (hz : ∀ t, X ≤ t → t < N → pl ≤ t → ftPk pl hh w d t = 0) : ftRaiseG f pl hh w d X = ftRaiseG f pl hh w d N := by
  funext t
  unfold ftRaiseG
  by_cases q : pl ≤ t ∧ t < X
  · by_cases r : t < N
    · rw [if_pos q, if_pos ⟨q.1, r⟩]
    · rw [if_pos q]; omega
  · rw [if_neg q]
    by_cases r : pl ≤ t ∧ t < N
    · rw [if_pos r, hz t (by omega) r.2 r.1, ftMax_0 (hf t r.2)]
    · rw [if_neg r]
theorem ftPk_in {pl hh w d x : Nat} (h1 : pl ≤ x) (h2 : x < pl + w) : ftPk pl hh w d x = hh := by
  unfold ftPk
  rw [if_neg (by omega), show x + 1 - (pl + w) = 0 by omega, Nat.mul_zero, Nat.sub_zero]
theorem ftPk_out {pl hh w d x : Nat} (h1 : pl + w ≤ x) : ftPk pl hh w d x = hh - d * (x - pl - w + 1) := by
  unfold ftPk
  rw [if_neg (by omega), show x + 1 - (pl + w) = x - pl - w + 1 by omega]
theorem ftMax_sub {a b : Nat} {y : Int32} (ha : a < 2 ^ 31) (hb : b < 2 ^ 31) (hy : 0 ≤ y) : ftMax (nI a - nI b) y = ftMax (nI (a - b)) y := by
  rcases Nat.le_total b a with q | q
  · rw [ft_subN q]
  · rw [show a - b = 0 by omega, ftMax_0 hy]
    unfold ftMax
    by_cases r : nI a - nI b < y
    · rw [if_pos r]
    · rw [if_neg r]
      refine Int32.le_antisymm ?_ (Int32.not_lt.mp r) |>.symm |> fun e => e ▸ rfl
      refine Int32.le_trans ?_ hy
      rw [Int32.le_iff_toInt_le, ft_subI ha hb]
      show (a : Int) - b ≤ 0
      omega
theorem ft_le0S {a b : Nat} (ha : a < 2 ^ 31) (hb : b < 2 ^ 31) (h : nI a - nI b ≤ 0) : a ≤ b := by
  rw [Int32.le_iff_toInt_le, ft_subI ha hb] at h
  have h2 : (a : Int) - b ≤ 0 := h
  omega
theorem ft_nI0 (k : Nat) (hk : k < 2 ^ 31) : 0 ≤ nI k := nI_pos' hk
def ftBase (ln : Nat) (kf pf lf : Nat → Int32) (att : Int32) (n : Nat) (w : Int32) (x : Nat) : Int32 := if nI x < nI ln then 50000 - ftFades kf pf lf att n x - ftSpr kf pf lf (nI x) w n else 5000
/-- the first X places of a row anew -/
def ftFill (g f : Nat → Int32) (X : Nat) : Nat → Int32 := fun t => if t < X then g t else f t
theorem ftFill_0 (g f : Nat → Int32) : f = ftFill g f 0 := funext fun t => (if_neg (Nat.not_lt_zero t)).symm
theorem ftFill_s {g f : Nat → Int32} {X : Nat} {v : Int32} (hv : v = g X) : upd (ftFill g f X) X v = ftFill g f (X + 1) := by
  funext t
  unfold upd ftFill
  by_cases q : t = X
  · subst q; rw [if_pos rfl, if_pos (by omega), hv]
  · rw [if_neg q]
    by_cases r : t < X
    · rw [if_pos r, if_pos (by omega)]
    · rw [if_neg r, if_neg (by omega)]
theorem ftFill_at {g f : Nat → Int32} {X t : Nat} (h : t < X) : ftFill g f X t = g t := if_pos h
/-- the raises of the first i reflections -/
def ftPks (PP HH : Nat → Nat) (w d N : Nat) (f : Nat → Int32) : Nat → (Nat → Int32)
  | 0 => f
  | i + 1 => ftRaiseG (ftPks PP HH w d N f i) (PP i) (HH i) w d N
theorem ftMax_pos {x y : Int32} (h : 0 ≤ y) : 0 ≤ ftMax x y := by
  unfold ftMax
  by_cases q : x < y
  · rw [if_pos q]; exact h
  · rw [if_neg q]; exact Int32.le_trans h (Int32.not_lt.mp q)
theorem ftPks_pos {PP HH : Nat → Nat} {w d N : Nat} {f : Nat → Int32} (hf : ∀ t, t < N → 0 ≤ f t) : ∀ i t, t < N → 0 ≤ ftPks PP HH w d N f i t := by
  intro i
  induction i with
  | zero => exact hf
  | succ i ih =>
    intro t ht
    show 0 ≤ ftRaiseG (ftPks PP HH w d N f i) (PP i) (HH i) w d N t
    unfold ftRaiseG
    split
    · exact ftMax_pos (ih t ht)
    · exact ih t ht
/-- the number ahead of the draws of the place x; the noise there -/
def ftNzs (a z : Int32) (pu : Nat) : Nat → Int32
  | 0 => z
  | x + 1 => ftNz a (ftNzs a z pu x) pu
def ftNoise (a z : Int32) (pu : Nat) (x : Nat) : Int32 := ftNx a (ftNzs a z pu x) pu
theorem ftFill_self {g f : Nat → Int32} {X : Nat} (h : ∀ x, x < X → f x = g x) : f = ftFill g f X := by
  funext t
  unfold ftFill
  by_cases q : t < X
  · rw [if_pos q, h t q]
  · rw [if_neg q]
noncomputable def ftIte (P : Prop) (x y : Int32) : Int32 := @ite _ P (Classical.propDecidable P) x y
theorem ftIte_t {P : Prop} {x y : Int32} (h : P) : ftIte P x y = x := by unfold ftIte; exact if_pos h
theorem ftIte_f {P : Prop} {x y : Int32} (h : ¬ P) : ftIte P x y = y := by unfold ftIte; exact if_neg h
/-- a trace's peaks, its samples -/
def ftPeaks (PP HH PG HG : Nat → Nat) (r g w d N : Nat) (fp : Nat → Int32) : Nat → Int32 := ftPks PG HG w d N (ftPks PP HH w d N (ftFill (fun _ => 0) fp N) r) g
def ftSamp (ln : Nat) (kf pf lf : Nat → Int32) (att : Int32) (n : Nat) (sf : Nat → Int32) (pk : Nat → Int32) (pu : Nat) (x : Nat) : Int32 := ftBase ln kf pf lf att n (sf 0) x + pk x + ftNoise (sf 3) (sf 5) pu x
set_option maxHeartbeats 4000000 in
set_option maxRecDepth 100000 in
theorem c_X9_raise (l : Launch) (D : va_G) (cI cS : ClassId) (sz : Nat) (a0 ab ap an as N : Nat) (d1 d2 d3 d4 : Int32) (fp : Nat → Int32) (pl hh w d : Nat) (hN : N ≤ 460) (hpl : pl ≤ 1000) (hhh : 0 < hh) (hh4 : hh ≤ 40000) (hw : w ≤ 20) (hd : d ≤ 5000) (hfp : ∀ t, t < N → 0 ≤ fp t) : Met l yX9_raise wsX9_raise ({ frames := 1, cells := 0, slots := 0, locals := 30 }) (ftRW D cI cS [.ref a0, .int (nI pl), .int (nI hh), .int (nI w), .int (nI d)] [(a0, .inr (9, [.ref ab, .ref ap, .ref an, .ref as, .int (nI N), .int d1, .int d2, .int d3, .int d4])), (ap, .inl (cI, 460, .inl fp))] sz) (ftQv D [(a0, .inr (9, [.ref ab, .ref ap, .ref an, .ref as, .int (nI N), .int d1, .int d2, .int d3, .int d4])), (ap, .inl (cI, 460, .inl fp))] [(a0, .inr (9, [.ref ab, .ref ap, .ref an, .ref as, .int (nI N), .int d1, .int d2, .int d3, .int d4])), (ap, .inl (cI, 460, .inl (ftRaiseG fp pl hh w d N)))] sz) 0 0 (va_A [(a0, .inr (9, [.ref ab, .ref ap, .ref an, .ref as, .int (nI N), .int d1, .int d2, .int d3, .int d4])), (ap, .inl (cI, 460, .inl fp))] sz) := by
  refine Met.ofW (cc := cX9_raise) (maxL := 7) (ret := none) (by decide) rfl ?_
  intro p e s m args below meth c s₁ B hml hv
  obtain ⟨rfl, hsz, hP, hKK, hD0⟩ := hv
  have hK := hKK.1
  have hx := B.exec
  have hb := B.bytes
  have hr := B.returns
  have hts := atoms_spec (ws := wsX9_raise) B.pre
  have hown : s.vm.findClass RX9 = some m.cls := findClass_of_methodNamed B.named
  have hlocks := B.notSynchronized
  subst hsz
  have hD := hD0.self (sz := s.heap.size)
  generalize hAe : va_A [(a0, .inr (9, [.ref ab, .ref ap, .ref an, .ref as, .int (nI N), .int d1, .int d2, .int d3, .int d4])), (ap, .inl (cI, 460, .inl fp))] s.heap.size = A at hD ⊢
  have hA : ∀ q : Nat, s.heap.size ≤ q → A q := fun q h => by rw [← hAe]; exact Or.inr h
  have hS : va_S A s.heap s.heap [] := va_S.rf
  have hD : va_D A [(a0, .inr (9, [.ref ab, .ref ap, .ref an, .ref as, .int (nI N), .int d1, .int d2, .int d3, .int d4])), (ap, .inl (cI, 460, .inl fp))] := hD
  have hP : va_P D vwCl [(a0, .inr (9, [.ref ab, .ref ap, .ref an, .ref as, .int (nI N), .int d1, .int d2, .int d3, .int d4])), (ap, .inl (cI, 460, .inl fp))] s.heap := hP
  have hl := lv_entry ([.ref a0, .int (nI pl), .int (nI hh), .int (nI w), .int (nI d)]) (n := 7) (Nat.le_of_ble_eq_true rfl)
  rw [lg_entry_eq]
  generalize (lg_sl ([.ref a0, .int (nI pl), .int (nI hh), .int (nI w), .int (nI d)]) ++ List.replicate (7 - (lg_sl ([.ref a0, .int (nI pl), .int (nI hh), .int (nI w), .int (nI d)])).length) Slot.unset).toArray = ls at hl ⊢
  have hl : lv_has ls 7 [(0, .ref a0), (1, .int (nI pl)), (2, .int (nI hh)), (3, .int (nI w)), (4, .int (nI d))] := hl
  refine lv_iload_n hx hb dX9_raise_0 rfl (lv_at hl 2 rfl) ?_
  refine lv_istore (lv' := [(5, .int (nI hh)), (0, .ref a0), (1, .int (nI pl)), (2, .int (nI hh)), (3, .int (nI w)), (4, .int (nI d))]) hx hb dX9_raise_1 hl (by decide) rfl (fun ls hl => ?_)
  refine lv_iload_n hx hb dX9_raise_3 rfl (lv_at hl 2 rfl) ?_
  refine lv_istore (lv' := [(6, .int (nI pl)), (5, .int (nI hh)), (0, .ref a0), (1, .int (nI pl)), (2, .int (nI hh)), (3, .int (nI w)), (4, .int (nI d))]) hx hb dX9_raise_4 hl (by decide) rfl (fun ls hl => ?_)
  have lp6 : ∀ (n6 : Nat) (x : Nat) (le : Int32) (x6_5 : Int32) (x6_6 : Int32) (g6_ap : Nat → Int32), 1001 - x < n6 → (pl ≤ x) → (x ≤ N ∨ x = pl) → (¬ 0 < le → ∀ t, x ≤ t → t < N → pl ≤ t → ftPk pl hh w d t = 0) → x6_5 = le → x6_6 = nI x → g6_ap = ftRaiseG fp pl hh w d x → ∀ (H : Heap) (locs : List Loc), va_P D vwCl [(a0, .inr (9, [.ref ab, .ref ap, .ref an, .ref as, .int (nI N), .int d1, .int d2, .int d3, .int d4])), (ap, .inl (cI, 460, .inl g6_ap))] H → va_D A [(a0, .inr (9, [.ref ab, .ref ap, .ref an, .ref as, .int (nI N), .int d1, .int d2, .int d3, .int d4])), (ap, .inl (cI, 460, .inl g6_ap))] → va_S A s.heap H locs → ∀ ls : Array Slot, lv_has ls 7 [(0, .ref a0), (1, .int (nI pl)), (2, .int (nI hh)), (3, .int (nI w)), (4, .int (nI d)), (5, .int x6_5), (6, .int x6_6)] → W p l e (headSpec wsX9_raise { frames := 1, cells := 0, slots := 0, locals := 30 }).room s m ([.ref a0, .int (nI pl), .int (nI hh), .int (nI w), .int (nI d)] : List Value).toArray below meth c H locs 0 0 (MQ below (ftQv D [(a0, .inr (9, [.ref ab, .ref ap, .ref an, .ref as, .int (nI N), .int d1, .int d2, .int d3, .int d4])), (ap, .inl (cI, 460, .inl fp))] [(a0, .inr (9, [.ref ab, .ref ap, .ref an, .ref as, .int (nI N), .int d1, .int d2, .int d3, .int d4])), (ap, .inl (cI, 460, .inl (ftRaiseG fp pl hh w d N)))] s.heap.size) ([.ref a0, .int (nI pl), .int (nI hh), .int (nI w), .int (nI d)] : List Value).toArray s 0 0 A) (F0 m 6 ls []) := by
    intro n6
    induction n6 with
    | zero =>
      intro x le x6_5 x6_6 g6_ap hm6
      exact absurd hm6 (Nat.not_lt_zero _)
    | succ n6 ih6 =>
      intro x le x6_5 x6_6 g6_ap hm6 hpx hxN hz ex6_5 ex6_6 eg6_ap H locs hP hD hS ls hl
      replace ex6_5 := ex6_5.symm; subst ex6_5
      subst ex6_6
      refine lv_iload hx hb dX9_raise_6 (lv_at hl 6 rfl) ?_
      refine lv_aload_n hx hb dX9_raise_8 rfl (lv_at hl 0 rfl) ?_
      refine va_get (D := D) (ci := 9) (v := .int (nI N)) (C := RX9) (T := TX9) (N := 9) hx hb hts (by decide +kernel) hown hK hP 0 rfl rfl 4 (by decide) (hts (.fieldLink RX9 30 "FiberTrace$Trace" "size" "I") (by decide +kernel)) (fun _ h9 => h9) rfl dX9_raise_9 ?_
      refine lv_icmp_ge (tgt := 76) hx hb dX9_raise_12 (by decide) (fun c12 => ?_) (fun c12 => ?_)
      · have c12n : N ≤ x := ft_leN (by omega) (by omega) c12
        have hw9 : ([(a0, .inr (9, [.ref ab, .ref ap, .ref an, .ref as, .int (nI N), .int d1, .int d2, .int d3, .int d4])), (ap, .inl (cI, 460, .inl g6_ap))] : va_W) = [(a0, .inr (9, [.ref ab, .ref ap, .ref an, .ref as, .int (nI N), .int d1, .int d2, .int d3, .int d4])), (ap, .inl (cI, 460, .inl (ftRaiseG fp pl hh w d N)))] := by first | rw [eg6_ap, ftRaiseG_e hfp hxN (fun t h1 h2 h3 => by omega)] | rw [eg6_ap, ftRaiseG_e hfp hxN (hz (Int32.not_lt.mpr c17))]
        rw [hw9] at hP hD
        exact W.vret hx hb hr (fun t ht hW => ⟨⟨(), rfl, trivial, by rw [ht]; exact hP, by rw [hAe]; exact hD⟩, by rw [hAe]; exact hS.F ht⟩) hS.2.2 dX9_raise_76
      · have c12n : x < N := ft_nleN (by omega) (by omega) c12
        refine lv_iload hx hb dX9_raise_15 (lv_at hl 5 rfl) ?_
        refine lv_if_le (tgt := 76) hx hb dX9_raise_17 (by decide) (fun c17 => ?_) (fun c17 => ?_)
        · have hw9 : ([(a0, .inr (9, [.ref ab, .ref ap, .ref an, .ref as, .int (nI N), .int d1, .int d2, .int d3, .int d4])), (ap, .inl (cI, 460, .inl g6_ap))] : va_W) = [(a0, .inr (9, [.ref ab, .ref ap, .ref an, .ref as, .int (nI N), .int d1, .int d2, .int d3, .int d4])), (ap, .inl (cI, 460, .inl (ftRaiseG fp pl hh w d N)))] := by first | rw [eg6_ap, ftRaiseG_e hfp hxN (fun t h1 h2 h3 => by omega)] | rw [eg6_ap, ftRaiseG_e hfp hxN (hz (Int32.not_lt.mpr c17))]
          rw [hw9] at hP hD
          exact W.vret hx hb hr (fun t ht hW => ⟨⟨(), rfl, trivial, by rw [ht]; exact hP, by rw [hAe]; exact hD⟩, by rw [hAe]; exact hS.F ht⟩) hS.2.2 dX9_raise_76
        · refine lv_iload hx hb dX9_raise_20 (lv_at hl 6 rfl) ?_
          refine lv_iload_n hx hb dX9_raise_22 rfl (lv_at hl 1 rfl) ?_
          refine lv_iload_n hx hb dX9_raise_23 rfl (lv_at hl 3 rfl) ?_
          refine lv_iadd hx hb dX9_raise_24 ?_
          refine ft_top (y := nI (pl + w)) (ft_addN pl w) ?_
          refine lv_icmp_ge (tgt := 32) hx hb dX9_raise_25 (by decide) (fun c25 => ?_) (fun c25 => ?_)
          · have c25n : (pl + w) ≤ x := ft_leN (by omega) (by omega) c25
            have hm1 : d * ((x - pl) - w + 1) ≤ 5000 * 461 := Nat.mul_le_mul hd (by omega)
            have hm2 : ∀ t, x + 1 ≤ t → d * ((x - pl) - w + 1) ≤ d * (t + 1 - (pl + w)) := fun t ht => Nat.mul_le_mul_left d (by omega)
            refine lv_iload_n hx hb dX9_raise_32 rfl (lv_at hl 2 rfl) ?_
            refine lv_iload hx hb dX9_raise_33 (lv_at hl 4 rfl) ?_
            refine lv_iload hx hb dX9_raise_35 (lv_at hl 6 rfl) ?_
            refine lv_iload_n hx hb dX9_raise_37 rfl (lv_at hl 1 rfl) ?_
            refine lv_isub hx hb dX9_raise_38 ?_
            refine ft_top (y := nI (x - pl)) (ft_subN (a := x) (b := pl) (by omega)) ?_
            refine lv_iload_n hx hb dX9_raise_39 rfl (lv_at hl 3 rfl) ?_
            refine lv_isub hx hb dX9_raise_40 ?_
            refine ft_top (y := nI ((x - pl) - w)) (ft_subN (a := x - pl) (b := w) (by omega)) ?_
            refine lv_iconst (v := 1) hx hb dX9_raise_41 (by decide) ?_
            refine lv_iadd hx hb dX9_raise_42 ?_
            refine ft_top (y := nI (((x - pl) - w) + 1)) (ft_addN ((x - pl) - w) 1) ?_
            refine lv_imul hx hb dX9_raise_43 ?_
            refine ft_top (y := nI (d * (((x - pl) - w) + 1))) (ft_mulN d (((x - pl) - w) + 1)) ?_
            refine lv_isub hx hb dX9_raise_44 ?_
            refine lv_istore (lv' := [(5, .int ((nI hh) - (nI (d * (((x - pl) - w) + 1))))), (0, .ref a0), (1, .int (nI pl)), (2, .int (nI hh)), (3, .int (nI w)), (4, .int (nI d)), (6, .int (nI x))]) hx hb dX9_raise_45 hl (by decide) rfl (fun ls hl => ?_)
            refine lv_aload_n hx hb dX9_raise_47 rfl (lv_at hl 1 rfl) ?_
            refine va_get (D := D) (ci := 9) (v := .ref ap) (C := RX9) (T := TX9) (N := 9) hx hb hts (by decide +kernel) hown hK hP 0 rfl rfl 1 (by decide) (hts (.fieldLink RX9 15 "FiberTrace$Trace" "peaks" "[I") (by decide +kernel)) (fun _ h9 => h9) rfl dX9_raise_48 ?_
            refine lv_iload hx hb dX9_raise_51 (lv_at hl 6 rfl) ?_
            refine lv_iload hx hb dX9_raise_53 (lv_at hl 0 rfl) ?_
            refine lv_aload_n hx hb dX9_raise_55 rfl (lv_at hl 1 rfl) ?_
            refine va_get (D := D) (ci := 9) (v := .ref ap) (C := RX9) (T := TX9) (N := 9) hx hb hts (by decide +kernel) hown hK hP 0 rfl rfl 1 (by decide) (hts (.fieldLink RX9 15 "FiberTrace$Trace" "peaks" "[I") (by decide +kernel)) (fun _ h9 => h9) rfl dX9_raise_56 ?_
            refine lv_iload hx hb dX9_raise_59 (lv_at hl 6 rfl) ?_
            refine ft_csi (r := ftAt 460 g6_ap (nI x)) (va_runSN (As := [.ref ap, .int (nI x)]) (rest := [.int ((nI hh) - (nI (d * (((x - pl) - w) + 1)))), .int (nI x), .ref ap]) ⟨hx, hb, hml, hown, hts⟩ (c_X10_at l D cI cS ap 460 g6_ap (nI x) (by first | assumption | omega)) ⟨va_cnB 2 hts gX9_raise_X10_at_n33 rfl rfl rfl (hKK.2 _ (List.mem_of_getElem? (i := 16) rfl)) (hts (.initialized RX10) (by decide +kernel)) (by decide +kernel) ⟨Nat.le_of_ble_eq_true rfl, Nat.le_of_ble_eq_true rfl⟩, hts (.static yX10_at) (by decide +kernel), trivial⟩ (ft_preRO hP hKK [1] rfl) rfl rfl hl.1 rfl (lv_room (Nat.le_of_ble_eq_true rfl)) dX9_raise_61 ⟨Nat.le_of_ble_eq_true rfl, Nat.le_of_ble_eq_true rfl⟩) ?_
            refine ft_top (y := g6_ap x) (ftAt_N (by omega) (by omega)) ?_
            refine va_mmax hx hb (hml.trans hl.1.symm) hown (hts (.methodLink RX9 90 Lib.Math.max.name) (by decide +kernel)) (hts (.static Lib.Math.max.name) (by decide +kernel)) (hts (.initialized "java/lang/Math") (by decide +kernel)) (hts (.code Lib.Math.max.name Lib.Math.max.code 2 (some .int)) (by decide +kernel)) (Nat.le_of_ble_eq_true rfl) (Nat.le_of_ble_eq_true rfl) (Nat.le_of_ble_eq_true rfl) (Nat.le_of_ble_eq_true rfl) dX9_raise_64 ?_
            refine ft_top (y := ftMax ((nI hh) - (nI (d * (((x - pl) - w) + 1)))) (g6_ap x)) rfl ?_
            refine ft_cv (wc := [(ap, .inl (cI, 460, .inl g6_ap))]) (wr := [(a0, .inr (9, [.ref ab, .ref ap, .ref an, .ref as, .int (nI N), .int d1, .int d2, .int d3, .int d4]))]) (w1 := [(ap, .inl (cI, 460, .inl (ftPut 460 g6_ap (nI x) (ftMax ((nI hh) - (nI (d * (((x - pl) - w) + 1)))) (g6_ap x)))))]) (ws1 := [(a0, .inr (9, [.ref ab, .ref ap, .ref an, .ref as, .int (nI N), .int d1, .int d2, .int d3, .int d4])), (ap, .inl (cI, 460, .inl (ftPut 460 g6_ap (nI x) (ftMax ((nI hh) - (nI (d * (((x - pl) - w) + 1)))) (g6_ap x)))))]) (va_runSN (As := [.ref ap, .int (nI x), .int (ftMax ((nI hh) - (nI (d * (((x - pl) - w) + 1)))) (g6_ap x))]) (rest := []) ⟨hx, hb, hml, hown, hts⟩ (c_X10_put l D cI cS H.size ap 460 g6_ap (nI x) (ftMax ((nI hh) - (nI (d * (((x - pl) - w) + 1)))) (g6_ap x)) (by first | assumption | omega)) ⟨va_cnB 3 hts gX9_raise_X10_put_n53 rfl rfl rfl (hKK.2 _ (List.mem_of_getElem? (i := 18) rfl)) (hts (.initialized RX10) (by decide +kernel)) (by decide +kernel) ⟨Nat.le_of_ble_eq_true rfl, Nat.le_of_ble_eq_true rfl⟩, hts (.static yX10_put) (by decide +kernel), trivial⟩ (ft_preRW hP hD hKK [1] rfl rfl rfl) rfl rfl hl.1 rfl (lv_room (Nat.le_of_ble_eq_true rfl)) dX9_raise_67 ⟨Nat.le_of_ble_eq_true rfl, Nat.le_of_ble_eq_true rfl⟩) hP hD hS hA [1] [0] [0, 1] rfl rfl (by decide) (by decide) (by decide) rfl rfl (fun H locs hP hD hS => ?_)
            rw [ftPut_N (k := x) (by omega) (by omega)] at hP hD
            have hP : va_P D vwCl [(a0, .inr (9, [.ref ab, .ref ap, .ref an, .ref as, .int (nI N), .int d1, .int d2, .int d3, .int d4])), (ap, .inl (cI, 460, .inl (upd g6_ap x (ftMax ((nI hh) - (nI (d * (((x - pl) - w) + 1)))) (g6_ap x)))))] H := hP
            have hD : va_D A [(a0, .inr (9, [.ref ab, .ref ap, .ref an, .ref as, .int (nI N), .int d1, .int d2, .int d3, .int d4])), (ap, .inl (cI, 460, .inl (upd g6_ap x (ftMax ((nI hh) - (nI (d * (((x - pl) - w) + 1)))) (g6_ap x)))))] := hD
            refine lv_iinc (v := nI (x + 1)) (lv' := [(6, .int (nI (x + 1))), (5, .int ((nI hh) - (nI (d * (((x - pl) - w) + 1))))), (0, .ref a0), (1, .int (nI pl)), (2, .int (nI hh)), (3, .int (nI w)), (4, .int (nI d))]) hx hb dX9_raise_70 hl (k := 6) rfl (ft_inc x) (by decide) rfl (fun ls hl => ?_)
            refine lv_goto (tgt := 6) hx hb dX9_raise_73 (by decide) ?_
            exact ih6 (x + 1) ((nI hh) - (nI (d * (((x - pl) - w) + 1)))) ((nI hh) - (nI (d * (((x - pl) - w) + 1)))) (nI (x + 1)) (upd g6_ap x (ftMax ((nI hh) - (nI (d * (((x - pl) - w) + 1)))) (g6_ap x))) (by omega) (by omega) (by omega) (by first | (intro h t h1 h2 h3; exact absurd (show (0 : Int32) < nI hh by rw [← nI_0]; exact nI_lt hhh (by omega)) h) | (intro h t h1 h2 h3; have h4 := ft_le0S (by omega) (by omega) (Int32.not_lt.mp h); have h5 := hm2 t h1; unfold ftPk; rw [if_neg (by omega)]; omega)) (by first | rfl | assumption) (by first | rfl | assumption) (by rw [eg6_ap]; refine ftRaiseG_s hpx ?_; rw [show ftRaiseG fp pl hh w d x x = fp x from if_neg (by omega)]; first | rw [ftPk_in hpx c25n] | rw [ftPk_out c25n, ftMax_sub (by omega) (by omega) (hfp x c12n)]) _ _ hP hD hS ls (lv_sub hl [2, 3, 4, 5, 6, 1, 0] rfl)
          · have c25n : x < (pl + w) := ft_nleN (by omega) (by omega) c25
            refine lv_iload_n hx hb dX9_raise_28 rfl (lv_at hl 2 rfl) ?_
            refine lv_goto (tgt := 45) hx hb dX9_raise_29 (by decide) ?_
            refine lv_istore (lv' := [(5, .int (nI hh)), (0, .ref a0), (1, .int (nI pl)), (2, .int (nI hh)), (3, .int (nI w)), (4, .int (nI d)), (6, .int (nI x))]) hx hb dX9_raise_45 hl (by decide) rfl (fun ls hl => ?_)
            refine lv_aload_n hx hb dX9_raise_47 rfl (lv_at hl 1 rfl) ?_
            refine va_get (D := D) (ci := 9) (v := .ref ap) (C := RX9) (T := TX9) (N := 9) hx hb hts (by decide +kernel) hown hK hP 0 rfl rfl 1 (by decide) (hts (.fieldLink RX9 15 "FiberTrace$Trace" "peaks" "[I") (by decide +kernel)) (fun _ h9 => h9) rfl dX9_raise_48 ?_
            refine lv_iload hx hb dX9_raise_51 (lv_at hl 6 rfl) ?_
            refine lv_iload hx hb dX9_raise_53 (lv_at hl 0 rfl) ?_
            refine lv_aload_n hx hb dX9_raise_55 rfl (lv_at hl 1 rfl) ?_
            refine va_get (D := D) (ci := 9) (v := .ref ap) (C := RX9) (T := TX9) (N := 9) hx hb hts (by decide +kernel) hown hK hP 0 rfl rfl 1 (by decide) (hts (.fieldLink RX9 15 "FiberTrace$Trace" "peaks" "[I") (by decide +kernel)) (fun _ h9 => h9) rfl dX9_raise_56 ?_
            refine lv_iload hx hb dX9_raise_59 (lv_at hl 6 rfl) ?_
            refine ft_csi (r := ftAt 460 g6_ap (nI x)) (va_runSN (As := [.ref ap, .int (nI x)]) (rest := [.int (nI hh), .int (nI x), .ref ap]) ⟨hx, hb, hml, hown, hts⟩ (c_X10_at l D cI cS ap 460 g6_ap (nI x) (by first | assumption | omega)) ⟨va_cnB 2 hts gX9_raise_X10_at_n33 rfl rfl rfl (hKK.2 _ (List.mem_of_getElem? (i := 16) rfl)) (hts (.initialized RX10) (by decide +kernel)) (by decide +kernel) ⟨Nat.le_of_ble_eq_true rfl, Nat.le_of_ble_eq_true rfl⟩, hts (.static yX10_at) (by decide +kernel), trivial⟩ (ft_preRO hP hKK [1] rfl) rfl rfl hl.1 rfl (lv_room (Nat.le_of_ble_eq_true rfl)) dX9_raise_61 ⟨Nat.le_of_ble_eq_true rfl, Nat.le_of_ble_eq_true rfl⟩) ?_
            refine ft_top (y := g6_ap x) (ftAt_N (by omega) (by omega)) ?_
            refine va_mmax hx hb (hml.trans hl.1.symm) hown (hts (.methodLink RX9 90 Lib.Math.max.name) (by decide +kernel)) (hts (.static Lib.Math.max.name) (by decide +kernel)) (hts (.initialized "java/lang/Math") (by decide +kernel)) (hts (.code Lib.Math.max.name Lib.Math.max.code 2 (some .int)) (by decide +kernel)) (Nat.le_of_ble_eq_true rfl) (Nat.le_of_ble_eq_true rfl) (Nat.le_of_ble_eq_true rfl) (Nat.le_of_ble_eq_true rfl) dX9_raise_64 ?_
            refine ft_top (y := ftMax (nI hh) (g6_ap x)) rfl ?_
            refine ft_cv (wc := [(ap, .inl (cI, 460, .inl g6_ap))]) (wr := [(a0, .inr (9, [.ref ab, .ref ap, .ref an, .ref as, .int (nI N), .int d1, .int d2, .int d3, .int d4]))]) (w1 := [(ap, .inl (cI, 460, .inl (ftPut 460 g6_ap (nI x) (ftMax (nI hh) (g6_ap x)))))]) (ws1 := [(a0, .inr (9, [.ref ab, .ref ap, .ref an, .ref as, .int (nI N), .int d1, .int d2, .int d3, .int d4])), (ap, .inl (cI, 460, .inl (ftPut 460 g6_ap (nI x) (ftMax (nI hh) (g6_ap x)))))]) (va_runSN (As := [.ref ap, .int (nI x), .int (ftMax (nI hh) (g6_ap x))]) (rest := []) ⟨hx, hb, hml, hown, hts⟩ (c_X10_put l D cI cS H.size ap 460 g6_ap (nI x) (ftMax (nI hh) (g6_ap x)) (by first | assumption | omega)) ⟨va_cnB 3 hts gX9_raise_X10_put_n53 rfl rfl rfl (hKK.2 _ (List.mem_of_getElem? (i := 18) rfl)) (hts (.initialized RX10) (by decide +kernel)) (by decide +kernel) ⟨Nat.le_of_ble_eq_true rfl, Nat.le_of_ble_eq_true rfl⟩, hts (.static yX10_put) (by decide +kernel), trivial⟩ (ft_preRW hP hD hKK [1] rfl rfl rfl) rfl rfl hl.1 rfl (lv_room (Nat.le_of_ble_eq_true rfl)) dX9_raise_67 ⟨Nat.le_of_ble_eq_true rfl, Nat.le_of_ble_eq_true rfl⟩) hP hD hS hA [1] [0] [0, 1] rfl rfl (by decide) (by decide) (by decide) rfl rfl (fun H locs hP hD hS => ?_)
            rw [ftPut_N (k := x) (by omega) (by omega)] at hP hD
            have hP : va_P D vwCl [(a0, .inr (9, [.ref ab, .ref ap, .ref an, .ref as, .int (nI N), .int d1, .int d2, .int d3, .int d4])), (ap, .inl (cI, 460, .inl (upd g6_ap x (ftMax (nI hh) (g6_ap x)))))] H := hP
            have hD : va_D A [(a0, .inr (9, [.ref ab, .ref ap, .ref an, .ref as, .int (nI N), .int d1, .int d2, .int d3, .int d4])), (ap, .inl (cI, 460, .inl (upd g6_ap x (ftMax (nI hh) (g6_ap x)))))] := hD
            refine lv_iinc (v := nI (x + 1)) (lv' := [(6, .int (nI (x + 1))), (5, .int (nI hh)), (0, .ref a0), (1, .int (nI pl)), (2, .int (nI hh)), (3, .int (nI w)), (4, .int (nI d))]) hx hb dX9_raise_70 hl (k := 6) rfl (ft_inc x) (by decide) rfl (fun ls hl => ?_)
            refine lv_goto (tgt := 6) hx hb dX9_raise_73 (by decide) ?_
            exact ih6 (x + 1) (nI hh) (nI hh) (nI (x + 1)) (upd g6_ap x (ftMax (nI hh) (g6_ap x))) (by omega) (by omega) (by omega) (by first | (intro h t h1 h2 h3; exact absurd (show (0 : Int32) < nI hh by rw [← nI_0]; exact nI_lt hhh (by omega)) h) | (intro h t h1 h2 h3; have h4 := ft_le0S (by omega) (by omega) (Int32.not_lt.mp h); have h5 := hm2 t h1; unfold ftPk; rw [if_neg (by omega)]; omega)) (by first | rfl | assumption) (by first | rfl | assumption) (by rw [eg6_ap]; refine ftRaiseG_s hpx ?_; rw [show ftRaiseG fp pl hh w d x x = fp x from if_neg (by omega)]; first | rw [ftPk_in hpx c25n] | rw [ftPk_out c25n, ftMax_sub (by omega) (by omega) (hfp x c12n)]) _ _ hP hD hS ls (lv_sub hl [2, 3, 4, 5, 6, 1, 0] rfl)
  exact lp6 _ pl (nI hh) (nI hh) (nI pl) fp (Nat.lt_succ_self _) (by omega) (by omega) (by intro h; exact absurd (nI_lt hhh (by omega)) (by rw [nI_0]; exact h)) (by rfl) (by rfl) (by exact ftRaiseG_0 fp pl hh w d) _ _ hP hD hS ls (lv_sub hl [2, 3, 4, 5, 6, 1, 0] rfl)
set_option maxHeartbeats 4000000 in
set_option maxRecDepth 100000 in
theorem c_X9_makeBase (l : Launch) (D : va_G) (cI cS : ClassId) (sz : Nat) (a0 ab ap an as N : Nat) (d1 d2 d3 d4 : Int32) (fb : Nat → Int32) (b0 ln : Nat) (att en : Int32) (n bk bp bl br : Nat) (kf pf lf : Nat → Int32) (P : Nat → Nat) (w : Int32) (hpp : ftPos pf n P) (hN : N ≤ 460) (hln : ln ≤ 400) : Met l yX9_makeBase wsX9_makeBase ({ frames := 2, cells := 0, slots := 0, locals := 46 }) (ftRW D cI cS [.ref a0, .ref b0, .int w] [(a0, .inr (9, [.ref ab, .ref ap, .ref an, .ref as, .int (nI N), .int d1, .int d2, .int d3, .int d4])), (ab, .inl (cI, 460, .inl fb)), (b0, .inr (4, [.int (nI ln), .int att, .int en, .int (nI n), .ref bk, .ref bp, .ref bl, .ref br])), (bk, .inl (cI, 10, .inl kf)), (bp, .inl (cI, 10, .inl pf)), (bl, .inl (cI, 10, .inl lf))] sz) (ftQv D [(a0, .inr (9, [.ref ab, .ref ap, .ref an, .ref as, .int (nI N), .int d1, .int d2, .int d3, .int d4])), (ab, .inl (cI, 460, .inl fb)), (b0, .inr (4, [.int (nI ln), .int att, .int en, .int (nI n), .ref bk, .ref bp, .ref bl, .ref br])), (bk, .inl (cI, 10, .inl kf)), (bp, .inl (cI, 10, .inl pf)), (bl, .inl (cI, 10, .inl lf))] [(a0, .inr (9, [.ref ab, .ref ap, .ref an, .ref as, .int (nI N), .int d1, .int d2, .int d3, .int d4])), (ab, .inl (cI, 460, .inl (ftFill (ftBase ln kf pf lf att n w) fb N))), (b0, .inr (4, [.int (nI ln), .int att, .int en, .int (nI n), .ref bk, .ref bp, .ref bl, .ref br])), (bk, .inl (cI, 10, .inl kf)), (bp, .inl (cI, 10, .inl pf)), (bl, .inl (cI, 10, .inl lf))] sz) 0 0 (va_A [(a0, .inr (9, [.ref ab, .ref ap, .ref an, .ref as, .int (nI N), .int d1, .int d2, .int d3, .int d4])), (ab, .inl (cI, 460, .inl fb)), (b0, .inr (4, [.int (nI ln), .int att, .int en, .int (nI n), .ref bk, .ref bp, .ref bl, .ref br])), (bk, .inl (cI, 10, .inl kf)), (bp, .inl (cI, 10, .inl pf)), (bl, .inl (cI, 10, .inl lf))] sz) := by
  refine Met.ofW (cc := cX9_makeBase) (maxL := 5) (ret := none) (by decide) rfl ?_
  intro p e s m args below meth c s₁ B hml hv
  obtain ⟨rfl, hsz, hP, hKK, hD0⟩ := hv
  have hK := hKK.1
  have hx := B.exec
  have hb := B.bytes
  have hr := B.returns
  have hts := atoms_spec (ws := wsX9_makeBase) B.pre
  have hown : s.vm.findClass RX9 = some m.cls := findClass_of_methodNamed B.named
  have hlocks := B.notSynchronized
  subst hsz
  have hD := hD0.self (sz := s.heap.size)
  generalize hAe : va_A [(a0, .inr (9, [.ref ab, .ref ap, .ref an, .ref as, .int (nI N), .int d1, .int d2, .int d3, .int d4])), (ab, .inl (cI, 460, .inl fb)), (b0, .inr (4, [.int (nI ln), .int att, .int en, .int (nI n), .ref bk, .ref bp, .ref bl, .ref br])), (bk, .inl (cI, 10, .inl kf)), (bp, .inl (cI, 10, .inl pf)), (bl, .inl (cI, 10, .inl lf))] s.heap.size = A at hD ⊢
  have hA : ∀ q : Nat, s.heap.size ≤ q → A q := fun q h => by rw [← hAe]; exact Or.inr h
  have hS : va_S A s.heap s.heap [] := va_S.rf
  have hD : va_D A [(a0, .inr (9, [.ref ab, .ref ap, .ref an, .ref as, .int (nI N), .int d1, .int d2, .int d3, .int d4])), (ab, .inl (cI, 460, .inl fb)), (b0, .inr (4, [.int (nI ln), .int att, .int en, .int (nI n), .ref bk, .ref bp, .ref bl, .ref br])), (bk, .inl (cI, 10, .inl kf)), (bp, .inl (cI, 10, .inl pf)), (bl, .inl (cI, 10, .inl lf))] := hD
  have hP : va_P D vwCl [(a0, .inr (9, [.ref ab, .ref ap, .ref an, .ref as, .int (nI N), .int d1, .int d2, .int d3, .int d4])), (ab, .inl (cI, 460, .inl fb)), (b0, .inr (4, [.int (nI ln), .int att, .int en, .int (nI n), .ref bk, .ref bp, .ref bl, .ref br])), (bk, .inl (cI, 10, .inl kf)), (bp, .inl (cI, 10, .inl pf)), (bl, .inl (cI, 10, .inl lf))] s.heap := hP
  have hl := lv_entry ([.ref a0, .ref b0, .int w]) (n := 5) (Nat.le_of_ble_eq_true rfl)
  rw [lg_entry_eq]
  generalize (lg_sl ([.ref a0, .ref b0, .int w]) ++ List.replicate (5 - (lg_sl ([.ref a0, .ref b0, .int w])).length) Slot.unset).toArray = ls at hl ⊢
  have hl : lv_has ls 5 [(0, .ref a0), (1, .ref b0), (2, .int w)] := hl
  refine lv_iconst (v := 0) hx hb dX9_makeBase_0 (by decide) ?_
  refine lv_istore_n (lv' := [(3, .int 0), (0, .ref a0), (1, .ref b0), (2, .int w)]) hx hb dX9_makeBase_1 rfl hl (by decide) rfl (fun ls hl => ?_)
  have lp2 : ∀ (n2 : Nat) (x : Nat) (x2_3 : Int32) (g2_ab : Nat → Int32), N - x < n2 → (x ≤ N) → x2_3 = nI x → g2_ab = ftFill (ftBase ln kf pf lf att n w) fb x → ∀ (H : Heap) (locs : List Loc), va_P D vwCl [(a0, .inr (9, [.ref ab, .ref ap, .ref an, .ref as, .int (nI N), .int d1, .int d2, .int d3, .int d4])), (ab, .inl (cI, 460, .inl g2_ab)), (b0, .inr (4, [.int (nI ln), .int att, .int en, .int (nI n), .ref bk, .ref bp, .ref bl, .ref br])), (bk, .inl (cI, 10, .inl kf)), (bp, .inl (cI, 10, .inl pf)), (bl, .inl (cI, 10, .inl lf))] H → va_D A [(a0, .inr (9, [.ref ab, .ref ap, .ref an, .ref as, .int (nI N), .int d1, .int d2, .int d3, .int d4])), (ab, .inl (cI, 460, .inl g2_ab)), (b0, .inr (4, [.int (nI ln), .int att, .int en, .int (nI n), .ref bk, .ref bp, .ref bl, .ref br])), (bk, .inl (cI, 10, .inl kf)), (bp, .inl (cI, 10, .inl pf)), (bl, .inl (cI, 10, .inl lf))] → va_S A s.heap H locs → ∀ ls : Array Slot, lv_has ls 5 [(0, .ref a0), (1, .ref b0), (2, .int w), (3, .int x2_3)] → W p l e (headSpec wsX9_makeBase { frames := 2, cells := 0, slots := 0, locals := 46 }).room s m ([.ref a0, .ref b0, .int w] : List Value).toArray below meth c H locs 0 0 (MQ below (ftQv D [(a0, .inr (9, [.ref ab, .ref ap, .ref an, .ref as, .int (nI N), .int d1, .int d2, .int d3, .int d4])), (ab, .inl (cI, 460, .inl fb)), (b0, .inr (4, [.int (nI ln), .int att, .int en, .int (nI n), .ref bk, .ref bp, .ref bl, .ref br])), (bk, .inl (cI, 10, .inl kf)), (bp, .inl (cI, 10, .inl pf)), (bl, .inl (cI, 10, .inl lf))] [(a0, .inr (9, [.ref ab, .ref ap, .ref an, .ref as, .int (nI N), .int d1, .int d2, .int d3, .int d4])), (ab, .inl (cI, 460, .inl (ftFill (ftBase ln kf pf lf att n w) fb N))), (b0, .inr (4, [.int (nI ln), .int att, .int en, .int (nI n), .ref bk, .ref bp, .ref bl, .ref br])), (bk, .inl (cI, 10, .inl kf)), (bp, .inl (cI, 10, .inl pf)), (bl, .inl (cI, 10, .inl lf))] s.heap.size) ([.ref a0, .ref b0, .int w] : List Value).toArray s 0 0 A) (F0 m 2 ls []) := by
    intro n2
    induction n2 with
    | zero =>
      intro x x2_3 g2_ab hm2
      exact absurd hm2 (Nat.not_lt_zero _)
    | succ n2 ih2 =>
      intro x x2_3 g2_ab hm2 hx0 ex2_3 eg2_ab H locs hP hD hS ls hl
      subst ex2_3
      refine lv_iload_n hx hb dX9_makeBase_2 rfl (lv_at hl 3 rfl) ?_
      refine lv_aload_n hx hb dX9_makeBase_3 rfl (lv_at hl 0 rfl) ?_
      refine va_get (D := D) (ci := 9) (v := .int (nI N)) (C := RX9) (T := TX9) (N := 9) hx hb hts (by decide +kernel) hown hK hP 0 rfl rfl 4 (by decide) (hts (.fieldLink RX9 30 "FiberTrace$Trace" "size" "I") (by decide +kernel)) (fun _ h9 => h9) rfl dX9_makeBase_4 ?_
      refine lv_icmp_ge (tgt := 57) hx hb dX9_makeBase_7 (by decide) (fun c7 => ?_) (fun c7 => ?_)
      · have c7n : N ≤ x := ft_leN (by omega) (by omega) c7
        have hw9 : ([(a0, .inr (9, [.ref ab, .ref ap, .ref an, .ref as, .int (nI N), .int d1, .int d2, .int d3, .int d4])), (ab, .inl (cI, 460, .inl g2_ab)), (b0, .inr (4, [.int (nI ln), .int att, .int en, .int (nI n), .ref bk, .ref bp, .ref bl, .ref br])), (bk, .inl (cI, 10, .inl kf)), (bp, .inl (cI, 10, .inl pf)), (bl, .inl (cI, 10, .inl lf))] : va_W) = [(a0, .inr (9, [.ref ab, .ref ap, .ref an, .ref as, .int (nI N), .int d1, .int d2, .int d3, .int d4])), (ab, .inl (cI, 460, .inl (ftFill (ftBase ln kf pf lf att n w) fb N))), (b0, .inr (4, [.int (nI ln), .int att, .int en, .int (nI n), .ref bk, .ref bp, .ref bl, .ref br])), (bk, .inl (cI, 10, .inl kf)), (bp, .inl (cI, 10, .inl pf)), (bl, .inl (cI, 10, .inl lf))] := by (obtain rfl : x = N := by omega); rw [eg2_ab]
        rw [hw9] at hP hD
        exact W.vret hx hb hr (fun t ht hW => ⟨⟨(), rfl, trivial, by rw [ht]; exact hP, by rw [hAe]; exact hD⟩, by rw [hAe]; exact hS.F ht⟩) hS.2.2 dX9_makeBase_57
      · have c7n : x < N := ft_nleN (by omega) (by omega) c7
        refine lv_ldc (v := 50000) hx hb hown (hts (.constant RX9 57 50000) (by decide +kernel)) dX9_makeBase_10 ?_
        refine lv_aload_n hx hb dX9_makeBase_12 rfl (lv_at hl 1 rfl) ?_
        refine lv_iload_n hx hb dX9_makeBase_13 rfl (lv_at hl 3 rfl) ?_
        refine ft_csi (r := ftFades kf pf lf att n x) (va_runV (C := RX4) (As := [.int (nI x)]) (rest := [.int 50000]) ⟨hx, hb, hml, hown, hts⟩ (c_X4_attenuationUpTo l D cI cS b0 (nI ln) att en n bk bp bl br kf pf lf P x (by first | assumption | omega) (by first | assumption | omega)) (cwV 1 hts gX9_makeBase_X4_attenuationUpTo rfl rfl rfl (by decide +kernel) ⟨Nat.le_of_ble_eq_true rfl, Nat.le_of_ble_eq_true rfl⟩) (ft_preROV (ci := 4) (q0 := 2) hP hKK [2, 3, 4, 5] rfl rfl rfl) rfl rfl hl.1 rfl (lv_room (Nat.le_of_ble_eq_true rfl)) dX9_makeBase_14 ⟨Nat.le_of_ble_eq_true rfl, Nat.le_of_ble_eq_true rfl⟩) ?_
        refine lv_isub hx hb dX9_makeBase_17 ?_
        refine lv_aload_n hx hb dX9_makeBase_18 rfl (lv_at hl 1 rfl) ?_
        refine lv_iload_n hx hb dX9_makeBase_19 rfl (lv_at hl 3 rfl) ?_
        refine lv_iload_n hx hb dX9_makeBase_20 rfl (lv_at hl 2 rfl) ?_
        refine ft_csi (r := ftSpr kf pf lf (nI x) w n) (va_runV (C := RX4) (As := [.int (nI x), .int w]) (rest := [.int (50000 - (ftFades kf pf lf att n x))]) ⟨hx, hb, hml, hown, hts⟩ (c_X4_spreadLossAt l D cI cS b0 (nI ln) att en n bk bp bl br kf pf lf P x w (by first | assumption | omega) (by first | assumption | omega)) (cwV 2 hts gX9_makeBase_X4_spreadLossAt rfl rfl rfl (by decide +kernel) ⟨Nat.le_of_ble_eq_true rfl, Nat.le_of_ble_eq_true rfl⟩) (ft_preROV (ci := 4) (q0 := 2) hP hKK [2, 3, 4, 5] rfl rfl rfl) rfl rfl hl.1 rfl (lv_room (Nat.le_of_ble_eq_true rfl)) dX9_makeBase_21 ⟨Nat.le_of_ble_eq_true rfl, Nat.le_of_ble_eq_true rfl⟩) ?_
        refine lv_isub hx hb dX9_makeBase_24 ?_
        refine lv_istore (lv' := [(4, .int ((50000 - (ftFades kf pf lf att n x)) - (ftSpr kf pf lf (nI x) w n))), (0, .ref a0), (1, .ref b0), (2, .int w), (3, .int (nI x))]) hx hb dX9_makeBase_25 hl (by decide) rfl (fun ls hl => ?_)
        refine lv_aload_n hx hb dX9_makeBase_27 rfl (lv_at hl 1 rfl) ?_
        refine va_get (D := D) (ci := 9) (v := .ref ab) (C := RX9) (T := TX9) (N := 9) hx hb hts (by decide +kernel) hown hK hP 0 rfl rfl 0 (by decide) (hts (.fieldLink RX9 9 "FiberTrace$Trace" "base" "[I") (by decide +kernel)) (fun _ h9 => h9) rfl dX9_makeBase_28 ?_
        refine lv_iload_n hx hb dX9_makeBase_31 rfl (lv_at hl 4 rfl) ?_
        refine lv_iload_n hx hb dX9_makeBase_32 rfl (lv_at hl 4 rfl) ?_
        refine lv_aload_n hx hb dX9_makeBase_33 rfl (lv_at hl 2 rfl) ?_
        refine va_get (D := D) (ci := 4) (v := .int (nI ln)) (C := RX4) (T := TX4) (N := 8) hx hb hts (by decide +kernel) hown hK hP 2 rfl rfl 0 (by decide) (hts (.fieldLink RX9 24 "FiberTrace$Link" "length" "I") (by decide +kernel)) (fun _ h9 => h9) rfl dX9_makeBase_34 ?_
        refine lv_icmp_ge (tgt := 45) hx hb dX9_makeBase_37 (by decide) (fun c37 => ?_) (fun c37 => ?_)
        · have c37n : ln ≤ x := ft_leN (by omega) (by omega) c37
          refine lv_sipush (v := 5000) hx hb dX9_makeBase_45 (by decide) ?_
          refine ft_cv (wc := [(ab, .inl (cI, 460, .inl g2_ab))]) (wr := [(a0, .inr (9, [.ref ab, .ref ap, .ref an, .ref as, .int (nI N), .int d1, .int d2, .int d3, .int d4])), (b0, .inr (4, [.int (nI ln), .int att, .int en, .int (nI n), .ref bk, .ref bp, .ref bl, .ref br])), (bk, .inl (cI, 10, .inl kf)), (bp, .inl (cI, 10, .inl pf)), (bl, .inl (cI, 10, .inl lf))]) (w1 := [(ab, .inl (cI, 460, .inl (ftPut 460 g2_ab (nI x) 5000)))]) (ws1 := [(a0, .inr (9, [.ref ab, .ref ap, .ref an, .ref as, .int (nI N), .int d1, .int d2, .int d3, .int d4])), (ab, .inl (cI, 460, .inl (ftPut 460 g2_ab (nI x) 5000))), (b0, .inr (4, [.int (nI ln), .int att, .int en, .int (nI n), .ref bk, .ref bp, .ref bl, .ref br])), (bk, .inl (cI, 10, .inl kf)), (bp, .inl (cI, 10, .inl pf)), (bl, .inl (cI, 10, .inl lf))]) (va_runSN (As := [.ref ab, .int (nI x), .int 5000]) (rest := []) ⟨hx, hb, hml, hown, hts⟩ (c_X10_put l D cI cS H.size ab 460 g2_ab (nI x) 5000 (by first | assumption | omega)) ⟨va_cnB 3 hts gX9_makeBase_X10_put_n53 rfl rfl rfl (hKK.2 _ (List.mem_of_getElem? (i := 18) rfl)) (hts (.initialized RX10) (by decide +kernel)) (by decide +kernel) ⟨Nat.le_of_ble_eq_true rfl, Nat.le_of_ble_eq_true rfl⟩, hts (.static yX10_put) (by decide +kernel), trivial⟩ (ft_preRW hP hD hKK [1] rfl rfl rfl) rfl rfl hl.1 rfl (lv_room (Nat.le_of_ble_eq_true rfl)) dX9_makeBase_48 ⟨Nat.le_of_ble_eq_true rfl, Nat.le_of_ble_eq_true rfl⟩) hP hD hS hA [1] [0, 2, 3, 4, 5] [0, 5, 1, 2, 3, 4] rfl rfl (by decide) (by decide) (by decide) rfl rfl (fun H locs hP hD hS => ?_)
          rw [ftPut_N (k := x) (by omega) (by omega)] at hP hD
          have hP : va_P D vwCl [(a0, .inr (9, [.ref ab, .ref ap, .ref an, .ref as, .int (nI N), .int d1, .int d2, .int d3, .int d4])), (ab, .inl (cI, 460, .inl (upd g2_ab x 5000))), (b0, .inr (4, [.int (nI ln), .int att, .int en, .int (nI n), .ref bk, .ref bp, .ref bl, .ref br])), (bk, .inl (cI, 10, .inl kf)), (bp, .inl (cI, 10, .inl pf)), (bl, .inl (cI, 10, .inl lf))] H := hP
          have hD : va_D A [(a0, .inr (9, [.ref ab, .ref ap, .ref an, .ref as, .int (nI N), .int d1, .int d2, .int d3, .int d4])), (ab, .inl (cI, 460, .inl (upd g2_ab x 5000))), (b0, .inr (4, [.int (nI ln), .int att, .int en, .int (nI n), .ref bk, .ref bp, .ref bl, .ref br])), (bk, .inl (cI, 10, .inl kf)), (bp, .inl (cI, 10, .inl pf)), (bl, .inl (cI, 10, .inl lf))] := hD
          refine lv_iinc (v := nI (x + 1)) (lv' := [(3, .int (nI (x + 1))), (4, .int ((50000 - (ftFades kf pf lf att n x)) - (ftSpr kf pf lf (nI x) w n))), (0, .ref a0), (1, .ref b0), (2, .int w)]) hx hb dX9_makeBase_51 hl (k := 4) rfl (ft_inc x) (by decide) rfl (fun ls hl => ?_)
          refine lv_goto (tgt := 2) hx hb dX9_makeBase_54 (by decide) ?_
          exact ih2 (x + 1) (nI (x + 1)) (upd g2_ab x 5000) (by omega) (by omega) (by first | rfl | assumption) (by rw [eg2_ab]; refine ftFill_s ?_; first | rw [ftBase, if_pos (Int32.not_le.mp c37)] | rw [ftBase, if_neg (Int32.not_lt.mpr c37)]) _ _ hP hD hS ls (lv_sub hl [2, 3, 4, 0] rfl)
        · have c37n : x < ln := ft_nleN (by omega) (by omega) c37
          refine lv_iload hx hb dX9_makeBase_40 (lv_at hl 0 rfl) ?_
          refine lv_goto (tgt := 48) hx hb dX9_makeBase_42 (by decide) ?_
          refine ft_cv (wc := [(ab, .inl (cI, 460, .inl g2_ab))]) (wr := [(a0, .inr (9, [.ref ab, .ref ap, .ref an, .ref as, .int (nI N), .int d1, .int d2, .int d3, .int d4])), (b0, .inr (4, [.int (nI ln), .int att, .int en, .int (nI n), .ref bk, .ref bp, .ref bl, .ref br])), (bk, .inl (cI, 10, .inl kf)), (bp, .inl (cI, 10, .inl pf)), (bl, .inl (cI, 10, .inl lf))]) (w1 := [(ab, .inl (cI, 460, .inl (ftPut 460 g2_ab (nI x) ((50000 - (ftFades kf pf lf att n x)) - (ftSpr kf pf lf (nI x) w n)))))]) (ws1 := [(a0, .inr (9, [.ref ab, .ref ap, .ref an, .ref as, .int (nI N), .int d1, .int d2, .int d3, .int d4])), (ab, .inl (cI, 460, .inl (ftPut 460 g2_ab (nI x) ((50000 - (ftFades kf pf lf att n x)) - (ftSpr kf pf lf (nI x) w n))))), (b0, .inr (4, [.int (nI ln), .int att, .int en, .int (nI n), .ref bk, .ref bp, .ref bl, .ref br])), (bk, .inl (cI, 10, .inl kf)), (bp, .inl (cI, 10, .inl pf)), (bl, .inl (cI, 10, .inl lf))]) (va_runSN (As := [.ref ab, .int (nI x), .int ((50000 - (ftFades kf pf lf att n x)) - (ftSpr kf pf lf (nI x) w n))]) (rest := []) ⟨hx, hb, hml, hown, hts⟩ (c_X10_put l D cI cS H.size ab 460 g2_ab (nI x) ((50000 - (ftFades kf pf lf att n x)) - (ftSpr kf pf lf (nI x) w n)) (by first | assumption | omega)) ⟨va_cnB 3 hts gX9_makeBase_X10_put_n53 rfl rfl rfl (hKK.2 _ (List.mem_of_getElem? (i := 18) rfl)) (hts (.initialized RX10) (by decide +kernel)) (by decide +kernel) ⟨Nat.le_of_ble_eq_true rfl, Nat.le_of_ble_eq_true rfl⟩, hts (.static yX10_put) (by decide +kernel), trivial⟩ (ft_preRW hP hD hKK [1] rfl rfl rfl) rfl rfl hl.1 rfl (lv_room (Nat.le_of_ble_eq_true rfl)) dX9_makeBase_48 ⟨Nat.le_of_ble_eq_true rfl, Nat.le_of_ble_eq_true rfl⟩) hP hD hS hA [1] [0, 2, 3, 4, 5] [0, 5, 1, 2, 3, 4] rfl rfl (by decide) (by decide) (by decide) rfl rfl (fun H locs hP hD hS => ?_)
          rw [ftPut_N (k := x) (by omega) (by omega)] at hP hD
          have hP : va_P D vwCl [(a0, .inr (9, [.ref ab, .ref ap, .ref an, .ref as, .int (nI N), .int d1, .int d2, .int d3, .int d4])), (ab, .inl (cI, 460, .inl (upd g2_ab x ((50000 - (ftFades kf pf lf att n x)) - (ftSpr kf pf lf (nI x) w n))))), (b0, .inr (4, [.int (nI ln), .int att, .int en, .int (nI n), .ref bk, .ref bp, .ref bl, .ref br])), (bk, .inl (cI, 10, .inl kf)), (bp, .inl (cI, 10, .inl pf)), (bl, .inl (cI, 10, .inl lf))] H := hP
          have hD : va_D A [(a0, .inr (9, [.ref ab, .ref ap, .ref an, .ref as, .int (nI N), .int d1, .int d2, .int d3, .int d4])), (ab, .inl (cI, 460, .inl (upd g2_ab x ((50000 - (ftFades kf pf lf att n x)) - (ftSpr kf pf lf (nI x) w n))))), (b0, .inr (4, [.int (nI ln), .int att, .int en, .int (nI n), .ref bk, .ref bp, .ref bl, .ref br])), (bk, .inl (cI, 10, .inl kf)), (bp, .inl (cI, 10, .inl pf)), (bl, .inl (cI, 10, .inl lf))] := hD
          refine lv_iinc (v := nI (x + 1)) (lv' := [(3, .int (nI (x + 1))), (4, .int ((50000 - (ftFades kf pf lf att n x)) - (ftSpr kf pf lf (nI x) w n))), (0, .ref a0), (1, .ref b0), (2, .int w)]) hx hb dX9_makeBase_51 hl (k := 4) rfl (ft_inc x) (by decide) rfl (fun ls hl => ?_)
          refine lv_goto (tgt := 2) hx hb dX9_makeBase_54 (by decide) ?_
          exact ih2 (x + 1) (nI (x + 1)) (upd g2_ab x ((50000 - (ftFades kf pf lf att n x)) - (ftSpr kf pf lf (nI x) w n))) (by omega) (by omega) (by first | rfl | assumption) (by rw [eg2_ab]; refine ftFill_s ?_; first | rw [ftBase, if_pos (Int32.not_le.mp c37)] | rw [ftBase, if_neg (Int32.not_lt.mpr c37)]) _ _ hP hD hS ls (lv_sub hl [2, 3, 4, 0] rfl)
  exact lp2 _ 0 0 fb (Nat.lt_succ_self _) (by omega) (by rfl) (by exact ftFill_0 _ fb) _ _ hP hD hS ls (lv_sub hl [1, 2, 3, 0] rfl)
set_option maxHeartbeats 4000000 in
set_option maxRecDepth 100000 in
theorem c_X9_makePeaks (l : Launch) (D : va_G) (cI cS : ClassId) (sz : Nat) (a0 ab ap an as N : Nat) (d1 d2 d3 d4 : Int32) (fp : Nat → Int32) (c0 ep eh r ef es eg g : Nat) (pe he f1 f2 f3 : Nat → Int32) (w d : Nat) (PP HH PG HG : Nat → Nat) (hN : N ≤ 460) (hr11 : r ≤ 11) (hg55 : g ≤ 55) (hw : w ≤ 20) (hd : d ≤ 5000) (hrf : ∀ i, i < r → pe i = nI (PP i) ∧ he i = nI (HH i) ∧ PP i ≤ 1000 ∧ 0 < HH i ∧ HH i ≤ 40000) (hgh : ∀ i, i < g → ftGhPl f1 f2 i = nI (PG i) ∧ f3 i = nI (HG i) ∧ PG i ≤ 1000 ∧ 0 < HG i ∧ HG i ≤ 40000) : Met l yX9_makePeaks wsX9_makePeaks ({ frames := 2, cells := 0, slots := 0, locals := 56 }) (ftRW D cI cS [.ref a0, .ref c0, .int (nI w), .int (nI d)] [(a0, .inr (9, [.ref ab, .ref ap, .ref an, .ref as, .int (nI N), .int d1, .int d2, .int d3, .int d4])), (ap, .inl (cI, 460, .inl fp)), (c0, .inr (1, [.ref ep, .ref eh, .int (nI r), .ref ef, .ref es, .ref eg, .int (nI g)])), (ep, .inl (cI, 11, .inl pe)), (eh, .inl (cI, 11, .inl he)), (ef, .inl (cI, 55, .inl f1)), (es, .inl (cI, 55, .inl f2)), (eg, .inl (cI, 55, .inl f3))] sz) (ftQv D [(a0, .inr (9, [.ref ab, .ref ap, .ref an, .ref as, .int (nI N), .int d1, .int d2, .int d3, .int d4])), (ap, .inl (cI, 460, .inl fp)), (c0, .inr (1, [.ref ep, .ref eh, .int (nI r), .ref ef, .ref es, .ref eg, .int (nI g)])), (ep, .inl (cI, 11, .inl pe)), (eh, .inl (cI, 11, .inl he)), (ef, .inl (cI, 55, .inl f1)), (es, .inl (cI, 55, .inl f2)), (eg, .inl (cI, 55, .inl f3))] [(a0, .inr (9, [.ref ab, .ref ap, .ref an, .ref as, .int (nI N), .int d1, .int d2, .int d3, .int d4])), (ap, .inl (cI, 460, .inl (ftPks PG HG w d N (ftPks PP HH w d N (ftFill (fun _ => 0) fp N) r) g))), (c0, .inr (1, [.ref ep, .ref eh, .int (nI r), .ref ef, .ref es, .ref eg, .int (nI g)])), (ep, .inl (cI, 11, .inl pe)), (eh, .inl (cI, 11, .inl he)), (ef, .inl (cI, 55, .inl f1)), (es, .inl (cI, 55, .inl f2)), (eg, .inl (cI, 55, .inl f3))] sz) 0 0 (va_A [(a0, .inr (9, [.ref ab, .ref ap, .ref an, .ref as, .int (nI N), .int d1, .int d2, .int d3, .int d4])), (ap, .inl (cI, 460, .inl fp)), (c0, .inr (1, [.ref ep, .ref eh, .int (nI r), .ref ef, .ref es, .ref eg, .int (nI g)])), (ep, .inl (cI, 11, .inl pe)), (eh, .inl (cI, 11, .inl he)), (ef, .inl (cI, 55, .inl f1)), (es, .inl (cI, 55, .inl f2)), (eg, .inl (cI, 55, .inl f3))] sz) := by
  refine Met.ofW (cc := cX9_makePeaks) (maxL := 5) (ret := none) (by decide) rfl ?_
  intro p e s m args below meth c s₁ B hml hv
  obtain ⟨rfl, hsz, hP, hKK, hD0⟩ := hv
  have hK := hKK.1
  have hx := B.exec
  have hb := B.bytes
  have hr := B.returns
  have hts := atoms_spec (ws := wsX9_makePeaks) B.pre
  have hown : s.vm.findClass RX9 = some m.cls := findClass_of_methodNamed B.named
  have hlocks := B.notSynchronized
  subst hsz
  have hD := hD0.self (sz := s.heap.size)
  generalize hAe : va_A [(a0, .inr (9, [.ref ab, .ref ap, .ref an, .ref as, .int (nI N), .int d1, .int d2, .int d3, .int d4])), (ap, .inl (cI, 460, .inl fp)), (c0, .inr (1, [.ref ep, .ref eh, .int (nI r), .ref ef, .ref es, .ref eg, .int (nI g)])), (ep, .inl (cI, 11, .inl pe)), (eh, .inl (cI, 11, .inl he)), (ef, .inl (cI, 55, .inl f1)), (es, .inl (cI, 55, .inl f2)), (eg, .inl (cI, 55, .inl f3))] s.heap.size = A at hD ⊢
  have hA : ∀ q : Nat, s.heap.size ≤ q → A q := fun q h => by rw [← hAe]; exact Or.inr h
  have hS : va_S A s.heap s.heap [] := va_S.rf
  have hD : va_D A [(a0, .inr (9, [.ref ab, .ref ap, .ref an, .ref as, .int (nI N), .int d1, .int d2, .int d3, .int d4])), (ap, .inl (cI, 460, .inl fp)), (c0, .inr (1, [.ref ep, .ref eh, .int (nI r), .ref ef, .ref es, .ref eg, .int (nI g)])), (ep, .inl (cI, 11, .inl pe)), (eh, .inl (cI, 11, .inl he)), (ef, .inl (cI, 55, .inl f1)), (es, .inl (cI, 55, .inl f2)), (eg, .inl (cI, 55, .inl f3))] := hD
  have hP : va_P D vwCl [(a0, .inr (9, [.ref ab, .ref ap, .ref an, .ref as, .int (nI N), .int d1, .int d2, .int d3, .int d4])), (ap, .inl (cI, 460, .inl fp)), (c0, .inr (1, [.ref ep, .ref eh, .int (nI r), .ref ef, .ref es, .ref eg, .int (nI g)])), (ep, .inl (cI, 11, .inl pe)), (eh, .inl (cI, 11, .inl he)), (ef, .inl (cI, 55, .inl f1)), (es, .inl (cI, 55, .inl f2)), (eg, .inl (cI, 55, .inl f3))] s.heap := hP
  have hl := lv_entry ([.ref a0, .ref c0, .int (nI w), .int (nI d)]) (n := 5) (Nat.le_of_ble_eq_true rfl)
  rw [lg_entry_eq]
  generalize (lg_sl ([.ref a0, .ref c0, .int (nI w), .int (nI d)]) ++ List.replicate (5 - (lg_sl ([.ref a0, .ref c0, .int (nI w), .int (nI d)])).length) Slot.unset).toArray = ls at hl ⊢
  have hl : lv_has ls 5 [(0, .ref a0), (1, .ref c0), (2, .int (nI w)), (3, .int (nI d))] := hl
  have hf0 : ∀ t, t < N → 0 ≤ ftFill (fun _ => 0) fp N t := fun t ht => by rw [ftFill_at ht]; decide
  refine lv_iconst (v := 0) hx hb dX9_makePeaks_0 (by decide) ?_
  refine lv_istore (lv' := [(4, .int 0), (0, .ref a0), (1, .ref c0), (2, .int (nI w)), (3, .int (nI d))]) hx hb dX9_makePeaks_1 hl (by decide) rfl (fun ls hl => ?_)
  have lp3 : ∀ (n3 : Nat) (x : Nat) (x3_4 : Int32) (g3_ap : Nat → Int32), N - x < n3 → (x ≤ N) → x3_4 = nI x → g3_ap = ftFill (fun _ => 0) fp x → ∀ (H : Heap) (locs : List Loc), va_P D vwCl [(a0, .inr (9, [.ref ab, .ref ap, .ref an, .ref as, .int (nI N), .int d1, .int d2, .int d3, .int d4])), (ap, .inl (cI, 460, .inl g3_ap)), (c0, .inr (1, [.ref ep, .ref eh, .int (nI r), .ref ef, .ref es, .ref eg, .int (nI g)])), (ep, .inl (cI, 11, .inl pe)), (eh, .inl (cI, 11, .inl he)), (ef, .inl (cI, 55, .inl f1)), (es, .inl (cI, 55, .inl f2)), (eg, .inl (cI, 55, .inl f3))] H → va_D A [(a0, .inr (9, [.ref ab, .ref ap, .ref an, .ref as, .int (nI N), .int d1, .int d2, .int d3, .int d4])), (ap, .inl (cI, 460, .inl g3_ap)), (c0, .inr (1, [.ref ep, .ref eh, .int (nI r), .ref ef, .ref es, .ref eg, .int (nI g)])), (ep, .inl (cI, 11, .inl pe)), (eh, .inl (cI, 11, .inl he)), (ef, .inl (cI, 55, .inl f1)), (es, .inl (cI, 55, .inl f2)), (eg, .inl (cI, 55, .inl f3))] → va_S A s.heap H locs → ∀ ls : Array Slot, lv_has ls 5 [(0, .ref a0), (1, .ref c0), (2, .int (nI w)), (3, .int (nI d)), (4, .int x3_4)] → W p l e (headSpec wsX9_makePeaks { frames := 2, cells := 0, slots := 0, locals := 56 }).room s m ([.ref a0, .ref c0, .int (nI w), .int (nI d)] : List Value).toArray below meth c H locs 0 0 (MQ below (ftQv D [(a0, .inr (9, [.ref ab, .ref ap, .ref an, .ref as, .int (nI N), .int d1, .int d2, .int d3, .int d4])), (ap, .inl (cI, 460, .inl fp)), (c0, .inr (1, [.ref ep, .ref eh, .int (nI r), .ref ef, .ref es, .ref eg, .int (nI g)])), (ep, .inl (cI, 11, .inl pe)), (eh, .inl (cI, 11, .inl he)), (ef, .inl (cI, 55, .inl f1)), (es, .inl (cI, 55, .inl f2)), (eg, .inl (cI, 55, .inl f3))] [(a0, .inr (9, [.ref ab, .ref ap, .ref an, .ref as, .int (nI N), .int d1, .int d2, .int d3, .int d4])), (ap, .inl (cI, 460, .inl (ftPks PG HG w d N (ftPks PP HH w d N (ftFill (fun _ => 0) fp N) r) g))), (c0, .inr (1, [.ref ep, .ref eh, .int (nI r), .ref ef, .ref es, .ref eg, .int (nI g)])), (ep, .inl (cI, 11, .inl pe)), (eh, .inl (cI, 11, .inl he)), (ef, .inl (cI, 55, .inl f1)), (es, .inl (cI, 55, .inl f2)), (eg, .inl (cI, 55, .inl f3))] s.heap.size) ([.ref a0, .ref c0, .int (nI w), .int (nI d)] : List Value).toArray s 0 0 A) (F0 m 3 ls []) := by
    intro n3
    induction n3 with
    | zero =>
      intro x x3_4 g3_ap hm3
      exact absurd hm3 (Nat.not_lt_zero _)
    | succ n3 ih3 =>
      intro x x3_4 g3_ap hm3 hx0 ex3_4 eg3_ap H locs hP hD hS ls hl
      subst ex3_4
      refine lv_iload hx hb dX9_makePeaks_3 (lv_at hl 4 rfl) ?_
      refine lv_aload_n hx hb dX9_makePeaks_5 rfl (lv_at hl 0 rfl) ?_
      refine va_get (D := D) (ci := 9) (v := .int (nI N)) (C := RX9) (T := TX9) (N := 9) hx hb hts (by decide +kernel) hown hK hP 0 rfl rfl 4 (by decide) (hts (.fieldLink RX9 30 "FiberTrace$Trace" "size" "I") (by decide +kernel)) (fun _ h9 => h9) rfl dX9_makePeaks_6 ?_
      refine lv_icmp_ge (tgt := 28) hx hb dX9_makePeaks_9 (by decide) (fun c9 => ?_) (fun c9 => ?_)
      · have c9n : N ≤ x := ft_leN (by omega) (by omega) c9
        refine lv_iconst (v := 0) hx hb dX9_makePeaks_28 (by decide) ?_
        refine lv_istore (lv' := [(4, .int 0), (0, .ref a0), (1, .ref c0), (2, .int (nI w)), (3, .int (nI d))]) hx hb dX9_makePeaks_29 hl (by decide) rfl (fun ls hl => ?_)
        have lp31 : ∀ (n31 : Nat) (i : Nat) (x31_4 : Int32) (g31_ap : Nat → Int32), r - i < n31 → (i ≤ r) → x31_4 = nI i → g31_ap = ftPks PP HH w d N (ftFill (fun _ => 0) fp N) i → ∀ (H : Heap) (locs : List Loc), va_P D vwCl [(a0, .inr (9, [.ref ab, .ref ap, .ref an, .ref as, .int (nI N), .int d1, .int d2, .int d3, .int d4])), (ap, .inl (cI, 460, .inl g31_ap)), (c0, .inr (1, [.ref ep, .ref eh, .int (nI r), .ref ef, .ref es, .ref eg, .int (nI g)])), (ep, .inl (cI, 11, .inl pe)), (eh, .inl (cI, 11, .inl he)), (ef, .inl (cI, 55, .inl f1)), (es, .inl (cI, 55, .inl f2)), (eg, .inl (cI, 55, .inl f3))] H → va_D A [(a0, .inr (9, [.ref ab, .ref ap, .ref an, .ref as, .int (nI N), .int d1, .int d2, .int d3, .int d4])), (ap, .inl (cI, 460, .inl g31_ap)), (c0, .inr (1, [.ref ep, .ref eh, .int (nI r), .ref ef, .ref es, .ref eg, .int (nI g)])), (ep, .inl (cI, 11, .inl pe)), (eh, .inl (cI, 11, .inl he)), (ef, .inl (cI, 55, .inl f1)), (es, .inl (cI, 55, .inl f2)), (eg, .inl (cI, 55, .inl f3))] → va_S A s.heap H locs → ∀ ls : Array Slot, lv_has ls 5 [(0, .ref a0), (1, .ref c0), (2, .int (nI w)), (3, .int (nI d)), (4, .int x31_4)] → W p l e (headSpec wsX9_makePeaks { frames := 2, cells := 0, slots := 0, locals := 56 }).room s m ([.ref a0, .ref c0, .int (nI w), .int (nI d)] : List Value).toArray below meth c H locs 0 0 (MQ below (ftQv D [(a0, .inr (9, [.ref ab, .ref ap, .ref an, .ref as, .int (nI N), .int d1, .int d2, .int d3, .int d4])), (ap, .inl (cI, 460, .inl fp)), (c0, .inr (1, [.ref ep, .ref eh, .int (nI r), .ref ef, .ref es, .ref eg, .int (nI g)])), (ep, .inl (cI, 11, .inl pe)), (eh, .inl (cI, 11, .inl he)), (ef, .inl (cI, 55, .inl f1)), (es, .inl (cI, 55, .inl f2)), (eg, .inl (cI, 55, .inl f3))] [(a0, .inr (9, [.ref ab, .ref ap, .ref an, .ref as, .int (nI N), .int d1, .int d2, .int d3, .int d4])), (ap, .inl (cI, 460, .inl (ftPks PG HG w d N (ftPks PP HH w d N (ftFill (fun _ => 0) fp N) r) g))), (c0, .inr (1, [.ref ep, .ref eh, .int (nI r), .ref ef, .ref es, .ref eg, .int (nI g)])), (ep, .inl (cI, 11, .inl pe)), (eh, .inl (cI, 11, .inl he)), (ef, .inl (cI, 55, .inl f1)), (es, .inl (cI, 55, .inl f2)), (eg, .inl (cI, 55, .inl f3))] s.heap.size) ([.ref a0, .ref c0, .int (nI w), .int (nI d)] : List Value).toArray s 0 0 A) (F0 m 31 ls []) := by
          intro n31
          induction n31 with
          | zero =>
            intro i x31_4 g31_ap hm31
            exact absurd hm31 (Nat.not_lt_zero _)
          | succ n31 ih31 =>
            intro i x31_4 g31_ap hm31 hir ex31_4 eg31_ap H locs hP hD hS ls hl
            subst ex31_4
            refine lv_iload hx hb dX9_makePeaks_31 (lv_at hl 4 rfl) ?_
            refine lv_aload_n hx hb dX9_makePeaks_33 rfl (lv_at hl 1 rfl) ?_
            refine va_get (D := D) (ci := 1) (v := .int (nI r)) (C := RX1) (T := TX1) (N := 7) hx hb hts (by decide +kernel) hown hK hP 2 rfl rfl 2 (by decide) (hts (.fieldLink RX9 66 "FiberTrace$Echoes" "reflections" "I") (by decide +kernel)) (fun _ h9 => h9) rfl dX9_makePeaks_34 ?_
            refine lv_icmp_ge (tgt := 70) hx hb dX9_makePeaks_37 (by decide) (fun c37 => ?_) (fun c37 => ?_)
            · have c37n : r ≤ i := ft_leN (by omega) (by omega) c37
              refine lv_iconst (v := 0) hx hb dX9_makePeaks_70 (by decide) ?_
              refine lv_istore (lv' := [(4, .int 0), (0, .ref a0), (1, .ref c0), (2, .int (nI w)), (3, .int (nI d))]) hx hb dX9_makePeaks_71 hl (by decide) rfl (fun ls hl => ?_)
              have lp73 : ∀ (n73 : Nat) (k : Nat) (x73_4 : Int32) (g73_ap : Nat → Int32), g - k < n73 → (k ≤ g) → x73_4 = nI k → g73_ap = ftPks PG HG w d N (ftPks PP HH w d N (ftFill (fun _ => 0) fp N) r) k → ∀ (H : Heap) (locs : List Loc), va_P D vwCl [(a0, .inr (9, [.ref ab, .ref ap, .ref an, .ref as, .int (nI N), .int d1, .int d2, .int d3, .int d4])), (ap, .inl (cI, 460, .inl g73_ap)), (c0, .inr (1, [.ref ep, .ref eh, .int (nI r), .ref ef, .ref es, .ref eg, .int (nI g)])), (ep, .inl (cI, 11, .inl pe)), (eh, .inl (cI, 11, .inl he)), (ef, .inl (cI, 55, .inl f1)), (es, .inl (cI, 55, .inl f2)), (eg, .inl (cI, 55, .inl f3))] H → va_D A [(a0, .inr (9, [.ref ab, .ref ap, .ref an, .ref as, .int (nI N), .int d1, .int d2, .int d3, .int d4])), (ap, .inl (cI, 460, .inl g73_ap)), (c0, .inr (1, [.ref ep, .ref eh, .int (nI r), .ref ef, .ref es, .ref eg, .int (nI g)])), (ep, .inl (cI, 11, .inl pe)), (eh, .inl (cI, 11, .inl he)), (ef, .inl (cI, 55, .inl f1)), (es, .inl (cI, 55, .inl f2)), (eg, .inl (cI, 55, .inl f3))] → va_S A s.heap H locs → ∀ ls : Array Slot, lv_has ls 5 [(0, .ref a0), (1, .ref c0), (2, .int (nI w)), (3, .int (nI d)), (4, .int x73_4)] → W p l e (headSpec wsX9_makePeaks { frames := 2, cells := 0, slots := 0, locals := 56 }).room s m ([.ref a0, .ref c0, .int (nI w), .int (nI d)] : List Value).toArray below meth c H locs 0 0 (MQ below (ftQv D [(a0, .inr (9, [.ref ab, .ref ap, .ref an, .ref as, .int (nI N), .int d1, .int d2, .int d3, .int d4])), (ap, .inl (cI, 460, .inl fp)), (c0, .inr (1, [.ref ep, .ref eh, .int (nI r), .ref ef, .ref es, .ref eg, .int (nI g)])), (ep, .inl (cI, 11, .inl pe)), (eh, .inl (cI, 11, .inl he)), (ef, .inl (cI, 55, .inl f1)), (es, .inl (cI, 55, .inl f2)), (eg, .inl (cI, 55, .inl f3))] [(a0, .inr (9, [.ref ab, .ref ap, .ref an, .ref as, .int (nI N), .int d1, .int d2, .int d3, .int d4])), (ap, .inl (cI, 460, .inl (ftPks PG HG w d N (ftPks PP HH w d N (ftFill (fun _ => 0) fp N) r) g))), (c0, .inr (1, [.ref ep, .ref eh, .int (nI r), .ref ef, .ref es, .ref eg, .int (nI g)])), (ep, .inl (cI, 11, .inl pe)), (eh, .inl (cI, 11, .inl he)), (ef, .inl (cI, 55, .inl f1)), (es, .inl (cI, 55, .inl f2)), (eg, .inl (cI, 55, .inl f3))] s.heap.size) ([.ref a0, .ref c0, .int (nI w), .int (nI d)] : List Value).toArray s 0 0 A) (F0 m 73 ls []) := by
                intro n73
                induction n73 with
                | zero =>
                  intro k x73_4 g73_ap hm73
                  exact absurd hm73 (Nat.not_lt_zero _)
                | succ n73 ih73 =>
                  intro k x73_4 g73_ap hm73 hkg ex73_4 eg73_ap H locs hP hD hS ls hl
                  subst ex73_4
                  refine lv_iload hx hb dX9_makePeaks_73 (lv_at hl 4 rfl) ?_
                  refine lv_aload_n hx hb dX9_makePeaks_75 rfl (lv_at hl 1 rfl) ?_
                  refine va_get (D := D) (ci := 1) (v := .int (nI g)) (C := RX1) (T := TX1) (N := 7) hx hb hts (by decide +kernel) hown hK hP 2 rfl rfl 6 (by decide) (hts (.fieldLink RX9 81 "FiberTrace$Echoes" "ghosts" "I") (by decide +kernel)) (fun _ h9 => h9) rfl dX9_makePeaks_76 ?_
                  refine lv_icmp_ge (tgt := 109) hx hb dX9_makePeaks_79 (by decide) (fun c79 => ?_) (fun c79 => ?_)
                  · have c79n : g ≤ k := ft_leN (by omega) (by omega) c79
                    have hw9 : ([(a0, .inr (9, [.ref ab, .ref ap, .ref an, .ref as, .int (nI N), .int d1, .int d2, .int d3, .int d4])), (ap, .inl (cI, 460, .inl g73_ap)), (c0, .inr (1, [.ref ep, .ref eh, .int (nI r), .ref ef, .ref es, .ref eg, .int (nI g)])), (ep, .inl (cI, 11, .inl pe)), (eh, .inl (cI, 11, .inl he)), (ef, .inl (cI, 55, .inl f1)), (es, .inl (cI, 55, .inl f2)), (eg, .inl (cI, 55, .inl f3))] : va_W) = [(a0, .inr (9, [.ref ab, .ref ap, .ref an, .ref as, .int (nI N), .int d1, .int d2, .int d3, .int d4])), (ap, .inl (cI, 460, .inl (ftPks PG HG w d N (ftPks PP HH w d N (ftFill (fun _ => 0) fp N) r) g))), (c0, .inr (1, [.ref ep, .ref eh, .int (nI r), .ref ef, .ref es, .ref eg, .int (nI g)])), (ep, .inl (cI, 11, .inl pe)), (eh, .inl (cI, 11, .inl he)), (ef, .inl (cI, 55, .inl f1)), (es, .inl (cI, 55, .inl f2)), (eg, .inl (cI, 55, .inl f3))] := by (obtain rfl : k = g := by omega); rw [eg73_ap]
                    rw [hw9] at hP hD
                    exact W.vret hx hb hr (fun t ht hW => ⟨⟨(), rfl, trivial, by rw [ht]; exact hP, by rw [hAe]; exact hD⟩, by rw [hAe]; exact hS.F ht⟩) hS.2.2 dX9_makePeaks_109
                  · have c79n : k < g := ft_nleN (by omega) (by omega) c79
                    refine lv_aload_n hx hb dX9_makePeaks_82 rfl (lv_at hl 0 rfl) ?_
                    refine lv_aload_n hx hb dX9_makePeaks_83 rfl (lv_at hl 1 rfl) ?_
                    refine lv_iload hx hb dX9_makePeaks_84 (lv_at hl 4 rfl) ?_
                    refine ft_csi (r := ftGhPl f1 f2 k) (va_runV (C := RX1) (As := [.int (nI k)]) (rest := [.ref a0]) ⟨hx, hb, hml, hown, hts⟩ (c_X1_ghostPlace l D cI cS c0 ep eh ef es eg r g f1 f2 k (by first | assumption | omega)) (cwV 1 hts gX9_makePeaks_X1_ghostPlace rfl rfl rfl (by decide +kernel) ⟨Nat.le_of_ble_eq_true rfl, Nat.le_of_ble_eq_true rfl⟩) (ft_preROV (ci := 1) (q0 := 2) hP hKK [2, 5, 6] rfl rfl rfl) rfl rfl hl.1 rfl (lv_room (Nat.le_of_ble_eq_true rfl)) dX9_makePeaks_86 ⟨Nat.le_of_ble_eq_true rfl, Nat.le_of_ble_eq_true rfl⟩) ?_
                    refine ft_top (y := nI (PG k)) (hgh k (by omega)).1 ?_
                    refine lv_aload_n hx hb dX9_makePeaks_89 rfl (lv_at hl 1 rfl) ?_
                    refine va_get (D := D) (ci := 1) (v := .ref eg) (C := RX1) (T := TX1) (N := 7) hx hb hts (by decide +kernel) hown hK hP 2 rfl rfl 5 (by decide) (hts (.fieldLink RX9 87 "FiberTrace$Echoes" "ghostHeights" "[I") (by decide +kernel)) (fun _ h9 => h9) rfl dX9_makePeaks_90 ?_
                    refine lv_iload hx hb dX9_makePeaks_93 (lv_at hl 4 rfl) ?_
                    refine ft_csi (r := ftAt 55 f3 (nI k)) (va_runSN (As := [.ref eg, .int (nI k)]) (rest := [.int (nI (PG k)), .ref a0]) ⟨hx, hb, hml, hown, hts⟩ (c_X10_at l D cI cS eg 55 f3 (nI k) (by first | assumption | omega)) ⟨va_cnB 2 hts gX9_makePeaks_X10_at_n33 rfl rfl rfl (hKK.2 _ (List.mem_of_getElem? (i := 16) rfl)) (hts (.initialized RX10) (by decide +kernel)) (by decide +kernel) ⟨Nat.le_of_ble_eq_true rfl, Nat.le_of_ble_eq_true rfl⟩, hts (.static yX10_at) (by decide +kernel), trivial⟩ (ft_preRO hP hKK [7] rfl) rfl rfl hl.1 rfl (lv_room (Nat.le_of_ble_eq_true rfl)) dX9_makePeaks_95 ⟨Nat.le_of_ble_eq_true rfl, Nat.le_of_ble_eq_true rfl⟩) ?_
                    refine ft_top (y := f3 k) (ftAt_N (by omega) (by omega)) ?_
                    refine ft_top (y := nI (HG k)) (hgh k (by omega)).2.1 ?_
                    refine lv_iload_n hx hb dX9_makePeaks_98 rfl (lv_at hl 2 rfl) ?_
                    refine lv_iload_n hx hb dX9_makePeaks_99 rfl (lv_at hl 3 rfl) ?_
                    refine ft_cv (wc := [(a0, .inr (9, [.ref ab, .ref ap, .ref an, .ref as, .int (nI N), .int d1, .int d2, .int d3, .int d4])), (ap, .inl (cI, 460, .inl g73_ap))]) (wr := [(c0, .inr (1, [.ref ep, .ref eh, .int (nI r), .ref ef, .ref es, .ref eg, .int (nI g)])), (ep, .inl (cI, 11, .inl pe)), (eh, .inl (cI, 11, .inl he)), (ef, .inl (cI, 55, .inl f1)), (es, .inl (cI, 55, .inl f2)), (eg, .inl (cI, 55, .inl f3))]) (w1 := [(a0, .inr (9, [.ref ab, .ref ap, .ref an, .ref as, .int (nI N), .int d1, .int d2, .int d3, .int d4])), (ap, .inl (cI, 460, .inl (ftRaiseG g73_ap (PG k) (HG k) w d N)))]) (ws1 := [(a0, .inr (9, [.ref ab, .ref ap, .ref an, .ref as, .int (nI N), .int d1, .int d2, .int d3, .int d4])), (ap, .inl (cI, 460, .inl (ftRaiseG g73_ap (PG k) (HG k) w d N))), (c0, .inr (1, [.ref ep, .ref eh, .int (nI r), .ref ef, .ref es, .ref eg, .int (nI g)])), (ep, .inl (cI, 11, .inl pe)), (eh, .inl (cI, 11, .inl he)), (ef, .inl (cI, 55, .inl f1)), (es, .inl (cI, 55, .inl f2)), (eg, .inl (cI, 55, .inl f3))]) (va_runV (C := RX9) (As := [.int (nI (PG k)), .int (nI (HG k)), .int (nI w), .int (nI d)]) (rest := []) ⟨hx, hb, hml, hown, hts⟩ (c_X9_raise l D cI cS H.size a0 ab ap an as N d1 d2 d3 d4 g73_ap (PG k) (HG k) w d hN (hgh k (by omega)).2.2.1 (hgh k (by omega)).2.2.2.1 (hgh k (by omega)).2.2.2.2 hw hd (by rw [eg73_ap]; exact ftPks_pos (ftPks_pos hf0 r) k)) (cwV 4 hts gX9_makePeaks_X9_raise rfl rfl rfl (by decide +kernel) ⟨Nat.le_of_ble_eq_true rfl, Nat.le_of_ble_eq_true rfl⟩) (ft_preRWV (ci := 9) (q0 := 0) hP hD hKK [0, 1] rfl rfl rfl rfl rfl) rfl rfl hl.1 rfl (lv_room (Nat.le_of_ble_eq_true rfl)) dX9_makePeaks_100 ⟨Nat.le_of_ble_eq_true rfl, Nat.le_of_ble_eq_true rfl⟩) hP hD hS hA [0, 1] [2, 3, 4, 5, 6, 7] [6, 7, 0, 1, 2, 3, 4, 5] rfl rfl (by decide) (by decide) (by decide) rfl rfl (fun H locs hP hD hS => ?_)
                    have hP : va_P D vwCl [(a0, .inr (9, [.ref ab, .ref ap, .ref an, .ref as, .int (nI N), .int d1, .int d2, .int d3, .int d4])), (ap, .inl (cI, 460, .inl (ftRaiseG g73_ap (PG k) (HG k) w d N))), (c0, .inr (1, [.ref ep, .ref eh, .int (nI r), .ref ef, .ref es, .ref eg, .int (nI g)])), (ep, .inl (cI, 11, .inl pe)), (eh, .inl (cI, 11, .inl he)), (ef, .inl (cI, 55, .inl f1)), (es, .inl (cI, 55, .inl f2)), (eg, .inl (cI, 55, .inl f3))] H := hP
                    have hD : va_D A [(a0, .inr (9, [.ref ab, .ref ap, .ref an, .ref as, .int (nI N), .int d1, .int d2, .int d3, .int d4])), (ap, .inl (cI, 460, .inl (ftRaiseG g73_ap (PG k) (HG k) w d N))), (c0, .inr (1, [.ref ep, .ref eh, .int (nI r), .ref ef, .ref es, .ref eg, .int (nI g)])), (ep, .inl (cI, 11, .inl pe)), (eh, .inl (cI, 11, .inl he)), (ef, .inl (cI, 55, .inl f1)), (es, .inl (cI, 55, .inl f2)), (eg, .inl (cI, 55, .inl f3))] := hD
                    refine lv_iinc (v := nI (k + 1)) (lv' := [(4, .int (nI (k + 1))), (0, .ref a0), (1, .ref c0), (2, .int (nI w)), (3, .int (nI d))]) hx hb dX9_makePeaks_103 hl (k := 4) rfl (ft_inc k) (by decide) rfl (fun ls hl => ?_)
                    refine lv_goto (tgt := 73) hx hb dX9_makePeaks_106 (by decide) ?_
                    exact ih73 (k + 1) (nI (k + 1)) (ftRaiseG g73_ap (PG k) (HG k) w d N) (by omega) (by omega) (by first | rfl | assumption) (by rw [eg73_ap]; rfl) _ _ hP hD hS ls (lv_sub hl [1, 2, 3, 4, 0] rfl)
              exact lp73 _ 0 0 g31_ap (Nat.lt_succ_self _) (by omega) (by rfl) (by (obtain rfl : i = r := by omega); exact eg31_ap) _ _ hP hD hS ls (lv_sub hl [1, 2, 3, 4, 0] rfl)
            · have c37n : i < r := ft_nleN (by omega) (by omega) c37
              refine lv_aload_n hx hb dX9_makePeaks_40 rfl (lv_at hl 0 rfl) ?_
              refine lv_aload_n hx hb dX9_makePeaks_41 rfl (lv_at hl 1 rfl) ?_
              refine va_get (D := D) (ci := 1) (v := .ref ep) (C := RX1) (T := TX1) (N := 7) hx hb hts (by decide +kernel) hown hK hP 2 rfl rfl 0 (by decide) (hts (.fieldLink RX9 71 "FiberTrace$Echoes" "places" "[I") (by decide +kernel)) (fun _ h9 => h9) rfl dX9_makePeaks_42 ?_
              refine lv_iload hx hb dX9_makePeaks_45 (lv_at hl 4 rfl) ?_
              refine ft_csi (r := ftAt 11 pe (nI i)) (va_runSN (As := [.ref ep, .int (nI i)]) (rest := [.ref a0]) ⟨hx, hb, hml, hown, hts⟩ (c_X10_at l D cI cS ep 11 pe (nI i) (by first | assumption | omega)) ⟨va_cnB 2 hts gX9_makePeaks_X10_at_n33 rfl rfl rfl (hKK.2 _ (List.mem_of_getElem? (i := 16) rfl)) (hts (.initialized RX10) (by decide +kernel)) (by decide +kernel) ⟨Nat.le_of_ble_eq_true rfl, Nat.le_of_ble_eq_true rfl⟩, hts (.static yX10_at) (by decide +kernel), trivial⟩ (ft_preRO hP hKK [3] rfl) rfl rfl hl.1 rfl (lv_room (Nat.le_of_ble_eq_true rfl)) dX9_makePeaks_47 ⟨Nat.le_of_ble_eq_true rfl, Nat.le_of_ble_eq_true rfl⟩) ?_
              refine ft_top (y := pe i) (ftAt_N (by omega) (by omega)) ?_
              refine ft_top (y := nI (PP i)) (hrf i (by omega)).1 ?_
              refine lv_aload_n hx hb dX9_makePeaks_50 rfl (lv_at hl 1 rfl) ?_
              refine va_get (D := D) (ci := 1) (v := .ref eh) (C := RX1) (T := TX1) (N := 7) hx hb hts (by decide +kernel) hown hK hP 2 rfl rfl 1 (by decide) (hts (.fieldLink RX9 74 "FiberTrace$Echoes" "heights" "[I") (by decide +kernel)) (fun _ h9 => h9) rfl dX9_makePeaks_51 ?_
              refine lv_iload hx hb dX9_makePeaks_54 (lv_at hl 4 rfl) ?_
              refine ft_csi (r := ftAt 11 he (nI i)) (va_runSN (As := [.ref eh, .int (nI i)]) (rest := [.int (nI (PP i)), .ref a0]) ⟨hx, hb, hml, hown, hts⟩ (c_X10_at l D cI cS eh 11 he (nI i) (by first | assumption | omega)) ⟨va_cnB 2 hts gX9_makePeaks_X10_at_n33 rfl rfl rfl (hKK.2 _ (List.mem_of_getElem? (i := 16) rfl)) (hts (.initialized RX10) (by decide +kernel)) (by decide +kernel) ⟨Nat.le_of_ble_eq_true rfl, Nat.le_of_ble_eq_true rfl⟩, hts (.static yX10_at) (by decide +kernel), trivial⟩ (ft_preRO hP hKK [4] rfl) rfl rfl hl.1 rfl (lv_room (Nat.le_of_ble_eq_true rfl)) dX9_makePeaks_56 ⟨Nat.le_of_ble_eq_true rfl, Nat.le_of_ble_eq_true rfl⟩) ?_
              refine ft_top (y := he i) (ftAt_N (by omega) (by omega)) ?_
              refine ft_top (y := nI (HH i)) (hrf i (by omega)).2.1 ?_
              refine lv_iload_n hx hb dX9_makePeaks_59 rfl (lv_at hl 2 rfl) ?_
              refine lv_iload_n hx hb dX9_makePeaks_60 rfl (lv_at hl 3 rfl) ?_
              refine ft_cv (wc := [(a0, .inr (9, [.ref ab, .ref ap, .ref an, .ref as, .int (nI N), .int d1, .int d2, .int d3, .int d4])), (ap, .inl (cI, 460, .inl g31_ap))]) (wr := [(c0, .inr (1, [.ref ep, .ref eh, .int (nI r), .ref ef, .ref es, .ref eg, .int (nI g)])), (ep, .inl (cI, 11, .inl pe)), (eh, .inl (cI, 11, .inl he)), (ef, .inl (cI, 55, .inl f1)), (es, .inl (cI, 55, .inl f2)), (eg, .inl (cI, 55, .inl f3))]) (w1 := [(a0, .inr (9, [.ref ab, .ref ap, .ref an, .ref as, .int (nI N), .int d1, .int d2, .int d3, .int d4])), (ap, .inl (cI, 460, .inl (ftRaiseG g31_ap (PP i) (HH i) w d N)))]) (ws1 := [(a0, .inr (9, [.ref ab, .ref ap, .ref an, .ref as, .int (nI N), .int d1, .int d2, .int d3, .int d4])), (ap, .inl (cI, 460, .inl (ftRaiseG g31_ap (PP i) (HH i) w d N))), (c0, .inr (1, [.ref ep, .ref eh, .int (nI r), .ref ef, .ref es, .ref eg, .int (nI g)])), (ep, .inl (cI, 11, .inl pe)), (eh, .inl (cI, 11, .inl he)), (ef, .inl (cI, 55, .inl f1)), (es, .inl (cI, 55, .inl f2)), (eg, .inl (cI, 55, .inl f3))]) (va_runV (C := RX9) (As := [.int (nI (PP i)), .int (nI (HH i)), .int (nI w), .int (nI d)]) (rest := []) ⟨hx, hb, hml, hown, hts⟩ (c_X9_raise l D cI cS H.size a0 ab ap an as N d1 d2 d3 d4 g31_ap (PP i) (HH i) w d hN (hrf i (by omega)).2.2.1 (hrf i (by omega)).2.2.2.1 (hrf i (by omega)).2.2.2.2 hw hd (by rw [eg31_ap]; exact ftPks_pos hf0 i)) (cwV 4 hts gX9_makePeaks_X9_raise rfl rfl rfl (by decide +kernel) ⟨Nat.le_of_ble_eq_true rfl, Nat.le_of_ble_eq_true rfl⟩) (ft_preRWV (ci := 9) (q0 := 0) hP hD hKK [0, 1] rfl rfl rfl rfl rfl) rfl rfl hl.1 rfl (lv_room (Nat.le_of_ble_eq_true rfl)) dX9_makePeaks_61 ⟨Nat.le_of_ble_eq_true rfl, Nat.le_of_ble_eq_true rfl⟩) hP hD hS hA [0, 1] [2, 3, 4, 5, 6, 7] [6, 7, 0, 1, 2, 3, 4, 5] rfl rfl (by decide) (by decide) (by decide) rfl rfl (fun H locs hP hD hS => ?_)
              have hP : va_P D vwCl [(a0, .inr (9, [.ref ab, .ref ap, .ref an, .ref as, .int (nI N), .int d1, .int d2, .int d3, .int d4])), (ap, .inl (cI, 460, .inl (ftRaiseG g31_ap (PP i) (HH i) w d N))), (c0, .inr (1, [.ref ep, .ref eh, .int (nI r), .ref ef, .ref es, .ref eg, .int (nI g)])), (ep, .inl (cI, 11, .inl pe)), (eh, .inl (cI, 11, .inl he)), (ef, .inl (cI, 55, .inl f1)), (es, .inl (cI, 55, .inl f2)), (eg, .inl (cI, 55, .inl f3))] H := hP
              have hD : va_D A [(a0, .inr (9, [.ref ab, .ref ap, .ref an, .ref as, .int (nI N), .int d1, .int d2, .int d3, .int d4])), (ap, .inl (cI, 460, .inl (ftRaiseG g31_ap (PP i) (HH i) w d N))), (c0, .inr (1, [.ref ep, .ref eh, .int (nI r), .ref ef, .ref es, .ref eg, .int (nI g)])), (ep, .inl (cI, 11, .inl pe)), (eh, .inl (cI, 11, .inl he)), (ef, .inl (cI, 55, .inl f1)), (es, .inl (cI, 55, .inl f2)), (eg, .inl (cI, 55, .inl f3))] := hD
              refine lv_iinc (v := nI (i + 1)) (lv' := [(4, .int (nI (i + 1))), (0, .ref a0), (1, .ref c0), (2, .int (nI w)), (3, .int (nI d))]) hx hb dX9_makePeaks_64 hl (k := 4) rfl (ft_inc i) (by decide) rfl (fun ls hl => ?_)
              refine lv_goto (tgt := 31) hx hb dX9_makePeaks_67 (by decide) ?_
              exact ih31 (i + 1) (nI (i + 1)) (ftRaiseG g31_ap (PP i) (HH i) w d N) (by omega) (by omega) (by first | rfl | assumption) (by rw [eg31_ap]; rfl) _ _ hP hD hS ls (lv_sub hl [1, 2, 3, 4, 0] rfl)
        exact lp31 _ 0 0 g3_ap (Nat.lt_succ_self _) (by omega) (by rfl) (by (obtain rfl : x = N := by omega); exact eg3_ap) _ _ hP hD hS ls (lv_sub hl [1, 2, 3, 4, 0] rfl)
      · have c9n : x < N := ft_nleN (by omega) (by omega) c9
        refine lv_aload_n hx hb dX9_makePeaks_12 rfl (lv_at hl 0 rfl) ?_
        refine va_get (D := D) (ci := 9) (v := .ref ap) (C := RX9) (T := TX9) (N := 9) hx hb hts (by decide +kernel) hown hK hP 0 rfl rfl 1 (by decide) (hts (.fieldLink RX9 15 "FiberTrace$Trace" "peaks" "[I") (by decide +kernel)) (fun _ h9 => h9) rfl dX9_makePeaks_13 ?_
        refine lv_iload hx hb dX9_makePeaks_16 (lv_at hl 4 rfl) ?_
        refine lv_iconst (v := 0) hx hb dX9_makePeaks_18 (by decide) ?_
        refine ft_cv (wc := [(ap, .inl (cI, 460, .inl g3_ap))]) (wr := [(a0, .inr (9, [.ref ab, .ref ap, .ref an, .ref as, .int (nI N), .int d1, .int d2, .int d3, .int d4])), (c0, .inr (1, [.ref ep, .ref eh, .int (nI r), .ref ef, .ref es, .ref eg, .int (nI g)])), (ep, .inl (cI, 11, .inl pe)), (eh, .inl (cI, 11, .inl he)), (ef, .inl (cI, 55, .inl f1)), (es, .inl (cI, 55, .inl f2)), (eg, .inl (cI, 55, .inl f3))]) (w1 := [(ap, .inl (cI, 460, .inl (ftPut 460 g3_ap (nI x) 0)))]) (ws1 := [(a0, .inr (9, [.ref ab, .ref ap, .ref an, .ref as, .int (nI N), .int d1, .int d2, .int d3, .int d4])), (ap, .inl (cI, 460, .inl (ftPut 460 g3_ap (nI x) 0))), (c0, .inr (1, [.ref ep, .ref eh, .int (nI r), .ref ef, .ref es, .ref eg, .int (nI g)])), (ep, .inl (cI, 11, .inl pe)), (eh, .inl (cI, 11, .inl he)), (ef, .inl (cI, 55, .inl f1)), (es, .inl (cI, 55, .inl f2)), (eg, .inl (cI, 55, .inl f3))]) (va_runSN (As := [.ref ap, .int (nI x), .int 0]) (rest := []) ⟨hx, hb, hml, hown, hts⟩ (c_X10_put l D cI cS H.size ap 460 g3_ap (nI x) 0 (by first | assumption | omega)) ⟨va_cnB 3 hts gX9_makePeaks_X10_put_n53 rfl rfl rfl (hKK.2 _ (List.mem_of_getElem? (i := 18) rfl)) (hts (.initialized RX10) (by decide +kernel)) (by decide +kernel) ⟨Nat.le_of_ble_eq_true rfl, Nat.le_of_ble_eq_true rfl⟩, hts (.static yX10_put) (by decide +kernel), trivial⟩ (ft_preRW hP hD hKK [1] rfl rfl rfl) rfl rfl hl.1 rfl (lv_room (Nat.le_of_ble_eq_true rfl)) dX9_makePeaks_19 ⟨Nat.le_of_ble_eq_true rfl, Nat.le_of_ble_eq_true rfl⟩) hP hD hS hA [1] [0, 2, 3, 4, 5, 6, 7] [0, 7, 1, 2, 3, 4, 5, 6] rfl rfl (by decide) (by decide) (by decide) rfl rfl (fun H locs hP hD hS => ?_)
        rw [ftPut_N (k := x) (by omega) (by omega)] at hP hD
        have hP : va_P D vwCl [(a0, .inr (9, [.ref ab, .ref ap, .ref an, .ref as, .int (nI N), .int d1, .int d2, .int d3, .int d4])), (ap, .inl (cI, 460, .inl (upd g3_ap x 0))), (c0, .inr (1, [.ref ep, .ref eh, .int (nI r), .ref ef, .ref es, .ref eg, .int (nI g)])), (ep, .inl (cI, 11, .inl pe)), (eh, .inl (cI, 11, .inl he)), (ef, .inl (cI, 55, .inl f1)), (es, .inl (cI, 55, .inl f2)), (eg, .inl (cI, 55, .inl f3))] H := hP
        have hD : va_D A [(a0, .inr (9, [.ref ab, .ref ap, .ref an, .ref as, .int (nI N), .int d1, .int d2, .int d3, .int d4])), (ap, .inl (cI, 460, .inl (upd g3_ap x 0))), (c0, .inr (1, [.ref ep, .ref eh, .int (nI r), .ref ef, .ref es, .ref eg, .int (nI g)])), (ep, .inl (cI, 11, .inl pe)), (eh, .inl (cI, 11, .inl he)), (ef, .inl (cI, 55, .inl f1)), (es, .inl (cI, 55, .inl f2)), (eg, .inl (cI, 55, .inl f3))] := hD
        refine lv_iinc (v := nI (x + 1)) (lv' := [(4, .int (nI (x + 1))), (0, .ref a0), (1, .ref c0), (2, .int (nI w)), (3, .int (nI d))]) hx hb dX9_makePeaks_22 hl (k := 4) rfl (ft_inc x) (by decide) rfl (fun ls hl => ?_)
        refine lv_goto (tgt := 3) hx hb dX9_makePeaks_25 (by decide) ?_
        exact ih3 (x + 1) (nI (x + 1)) (upd g3_ap x 0) (by omega) (by omega) (by first | rfl | assumption) (by rw [eg3_ap]; exact ftFill_s rfl) _ _ hP hD hS ls (lv_sub hl [1, 2, 3, 4, 0] rfl)
  exact lp3 _ 0 0 fp (Nat.lt_succ_self _) (by omega) (by rfl) (by exact ftFill_0 _ fp) _ _ hP hD hS ls (lv_sub hl [1, 2, 3, 4, 0] rfl)
set_option maxHeartbeats 4000000 in
set_option maxRecDepth 100000 in
theorem c_X9_isDrawnFor (l : Launch) (D : va_G) (cI cS : ClassId) (a0 ab ap an as N : Nat) (d1 d2 d3 d4 : Int32) (b0 : Nat) (sf : Nat → Int32)  : Met l yX9_isDrawnFor wsX9_isDrawnFor ({ frames := 1, cells := 0, slots := 0, locals := 21 }) (ftRO D cI cS [.ref a0, .ref b0] [(a0, .inr (9, [.ref ab, .ref ap, .ref an, .ref as, .int (nI N), .int d1, .int d2, .int d3, .int d4])), (b0, .inl (cI, 11, .inl sf))]) (vp_Si (fun o9 => o9 = ftB (d1 = nI N ∧ d2 = sf 3 ∧ d3 = sf 4 ∧ d4 = sf 5))) 0 0 (fun _ => False) := by
  refine Met.ofW (cc := cX9_isDrawnFor) (maxL := 2) (ret := (some .boolean)) (by decide) rfl ?_
  intro p e s m args below meth c s₁ B hml hv
  obtain ⟨rfl, hP, hKK⟩ := hv
  have hK := hKK.1
  have hx := B.exec
  have hb := B.bytes
  have hr := B.returns
  have hts := atoms_spec (ws := wsX9_isDrawnFor) B.pre
  have hown : s.vm.findClass RX9 = some m.cls := findClass_of_methodNamed B.named
  have hlocks := B.notSynchronized
  have hP : va_P D vwCl [(a0, .inr (9, [.ref ab, .ref ap, .ref an, .ref as, .int (nI N), .int d1, .int d2, .int d3, .int d4])), (b0, .inl (cI, 11, .inl sf))] s.heap := hP
  have hl := lv_entry ([.ref a0, .ref b0]) (n := 2) (Nat.le_of_ble_eq_true rfl)
  rw [lg_entry_eq]
  generalize (lg_sl ([.ref a0, .ref b0]) ++ List.replicate (2 - (lg_sl ([.ref a0, .ref b0])).length) Slot.unset).toArray = ls at hl ⊢
  have hl : lv_has ls 2 [(0, .ref a0), (1, .ref b0)] := hl
  refine lv_aload_n hx hb dX9_isDrawnFor_0 rfl (lv_at hl 0 rfl) ?_
  refine va_get (D := D) (ci := 9) (v := .int d1) (C := RX9) (T := TX9) (N := 9) hx hb hts (by decide +kernel) hown hK hP 0 rfl rfl 5 (by decide) (hts (.fieldLink RX9 95 "FiberTrace$Trace" "drawnSize" "I") (by decide +kernel)) (fun _ h9 => h9) rfl dX9_isDrawnFor_1 ?_
  refine lv_aload_n hx hb dX9_isDrawnFor_4 rfl (lv_at hl 0 rfl) ?_
  refine va_get (D := D) (ci := 9) (v := .int (nI N)) (C := RX9) (T := TX9) (N := 9) hx hb hts (by decide +kernel) hown hK hP 0 rfl rfl 4 (by decide) (hts (.fieldLink RX9 30 "FiberTrace$Trace" "size" "I") (by decide +kernel)) (fun _ h9 => h9) rfl dX9_isDrawnFor_5 ?_
  refine lv_icmp_ne (tgt := 51) hx hb dX9_isDrawnFor_8 (by decide) (fun c8 => ?_) (fun c8 => ?_)
  · refine lv_iconst (v := 0) hx hb dX9_isDrawnFor_51 (by decide) ?_
    exact W.zret (v := 0) hx hb hr (by rfl) (fun t ht hW => ⟨0, rfl, (by show (0 : Int32) = ftB (d1 = nI N ∧ d2 = sf 3 ∧ d3 = sf 4 ∧ d4 = sf 5); first | exact (ftB_t ⟨c8, c20, c32, c44⟩).symm | exact (ftB_f (fun q => c44 q.2.2.2)).symm | exact (ftB_f (fun q => c32 q.2.2.1)).symm | exact (ftB_f (fun q => c20 q.2.1)).symm | exact (ftB_f (fun q => c8 q.1)).symm), ht⟩) (fun _ h9 => absurd h9 List.not_mem_nil) dX9_isDrawnFor_52
  · refine lv_aload_n hx hb dX9_isDrawnFor_11 rfl (lv_at hl 0 rfl) ?_
    refine va_get (D := D) (ci := 9) (v := .int d2) (C := RX9) (T := TX9) (N := 9) hx hb hts (by decide +kernel) hown hK hP 0 rfl rfl 6 (by decide) (hts (.fieldLink RX9 98 "FiberTrace$Trace" "drawnHeight" "I") (by decide +kernel)) (fun _ h9 => h9) rfl dX9_isDrawnFor_12 ?_
    refine lv_aload_n hx hb dX9_isDrawnFor_15 rfl (lv_at hl 1 rfl) ?_
    refine lv_iconst (v := 3) hx hb dX9_isDrawnFor_16 (by decide) ?_
    refine ft_csi (r := ftAt 11 sf 3) (va_runSN (As := [.ref b0, .int 3]) (rest := [.int d2]) ⟨hx, hb, hml, hown, hts⟩ (c_X10_at l D cI cS b0 11 sf 3 (by first | assumption | omega)) ⟨va_cnB 2 hts gX9_isDrawnFor_X10_at_n33 rfl rfl rfl (hKK.2 _ (List.mem_of_getElem? (i := 16) rfl)) (hts (.initialized RX10) (by decide +kernel)) (by decide +kernel) ⟨Nat.le_of_ble_eq_true rfl, Nat.le_of_ble_eq_true rfl⟩, hts (.static yX10_at) (by decide +kernel), trivial⟩ (ft_preRO hP hKK [1] rfl) rfl rfl hl.1 rfl (lv_room (Nat.le_of_ble_eq_true rfl)) dX9_isDrawnFor_17 ⟨Nat.le_of_ble_eq_true rfl, Nat.le_of_ble_eq_true rfl⟩) ?_
    refine ft_top (y := sf 3) (ftAt_N (k := 3) (by omega) (by omega)) ?_
    refine lv_icmp_ne (tgt := 51) hx hb dX9_isDrawnFor_20 (by decide) (fun c20 => ?_) (fun c20 => ?_)
    · refine lv_iconst (v := 0) hx hb dX9_isDrawnFor_51 (by decide) ?_
      exact W.zret (v := 0) hx hb hr (by rfl) (fun t ht hW => ⟨0, rfl, (by show (0 : Int32) = ftB (d1 = nI N ∧ d2 = sf 3 ∧ d3 = sf 4 ∧ d4 = sf 5); first | exact (ftB_t ⟨c8, c20, c32, c44⟩).symm | exact (ftB_f (fun q => c44 q.2.2.2)).symm | exact (ftB_f (fun q => c32 q.2.2.1)).symm | exact (ftB_f (fun q => c20 q.2.1)).symm | exact (ftB_f (fun q => c8 q.1)).symm), ht⟩) (fun _ h9 => absurd h9 List.not_mem_nil) dX9_isDrawnFor_52
    · refine lv_aload_n hx hb dX9_isDrawnFor_23 rfl (lv_at hl 0 rfl) ?_
      refine va_get (D := D) (ci := 9) (v := .int d3) (C := RX9) (T := TX9) (N := 9) hx hb hts (by decide +kernel) hown hK hP 0 rfl rfl 7 (by decide) (hts (.fieldLink RX9 101 "FiberTrace$Trace" "drawnPulses" "I") (by decide +kernel)) (fun _ h9 => h9) rfl dX9_isDrawnFor_24 ?_
      refine lv_aload_n hx hb dX9_isDrawnFor_27 rfl (lv_at hl 1 rfl) ?_
      refine lv_iconst (v := 4) hx hb dX9_isDrawnFor_28 (by decide) ?_
      refine ft_csi (r := ftAt 11 sf 4) (va_runSN (As := [.ref b0, .int 4]) (rest := [.int d3]) ⟨hx, hb, hml, hown, hts⟩ (c_X10_at l D cI cS b0 11 sf 4 (by first | assumption | omega)) ⟨va_cnB 2 hts gX9_isDrawnFor_X10_at_n33 rfl rfl rfl (hKK.2 _ (List.mem_of_getElem? (i := 16) rfl)) (hts (.initialized RX10) (by decide +kernel)) (by decide +kernel) ⟨Nat.le_of_ble_eq_true rfl, Nat.le_of_ble_eq_true rfl⟩, hts (.static yX10_at) (by decide +kernel), trivial⟩ (ft_preRO hP hKK [1] rfl) rfl rfl hl.1 rfl (lv_room (Nat.le_of_ble_eq_true rfl)) dX9_isDrawnFor_29 ⟨Nat.le_of_ble_eq_true rfl, Nat.le_of_ble_eq_true rfl⟩) ?_
      refine ft_top (y := sf 4) (ftAt_N (k := 4) (by omega) (by omega)) ?_
      refine lv_icmp_ne (tgt := 51) hx hb dX9_isDrawnFor_32 (by decide) (fun c32 => ?_) (fun c32 => ?_)
      · refine lv_iconst (v := 0) hx hb dX9_isDrawnFor_51 (by decide) ?_
        exact W.zret (v := 0) hx hb hr (by rfl) (fun t ht hW => ⟨0, rfl, (by show (0 : Int32) = ftB (d1 = nI N ∧ d2 = sf 3 ∧ d3 = sf 4 ∧ d4 = sf 5); first | exact (ftB_t ⟨c8, c20, c32, c44⟩).symm | exact (ftB_f (fun q => c44 q.2.2.2)).symm | exact (ftB_f (fun q => c32 q.2.2.1)).symm | exact (ftB_f (fun q => c20 q.2.1)).symm | exact (ftB_f (fun q => c8 q.1)).symm), ht⟩) (fun _ h9 => absurd h9 List.not_mem_nil) dX9_isDrawnFor_52
      · refine lv_aload_n hx hb dX9_isDrawnFor_35 rfl (lv_at hl 0 rfl) ?_
        refine va_get (D := D) (ci := 9) (v := .int d4) (C := RX9) (T := TX9) (N := 9) hx hb hts (by decide +kernel) hown hK hP 0 rfl rfl 8 (by decide) (hts (.fieldLink RX9 104 "FiberTrace$Trace" "drawnSeed" "I") (by decide +kernel)) (fun _ h9 => h9) rfl dX9_isDrawnFor_36 ?_
        refine lv_aload_n hx hb dX9_isDrawnFor_39 rfl (lv_at hl 1 rfl) ?_
        refine lv_iconst (v := 5) hx hb dX9_isDrawnFor_40 (by decide) ?_
        refine ft_csi (r := ftAt 11 sf 5) (va_runSN (As := [.ref b0, .int 5]) (rest := [.int d4]) ⟨hx, hb, hml, hown, hts⟩ (c_X10_at l D cI cS b0 11 sf 5 (by first | assumption | omega)) ⟨va_cnB 2 hts gX9_isDrawnFor_X10_at_n33 rfl rfl rfl (hKK.2 _ (List.mem_of_getElem? (i := 16) rfl)) (hts (.initialized RX10) (by decide +kernel)) (by decide +kernel) ⟨Nat.le_of_ble_eq_true rfl, Nat.le_of_ble_eq_true rfl⟩, hts (.static yX10_at) (by decide +kernel), trivial⟩ (ft_preRO hP hKK [1] rfl) rfl rfl hl.1 rfl (lv_room (Nat.le_of_ble_eq_true rfl)) dX9_isDrawnFor_41 ⟨Nat.le_of_ble_eq_true rfl, Nat.le_of_ble_eq_true rfl⟩) ?_
        refine ft_top (y := sf 5) (ftAt_N (k := 5) (by omega) (by omega)) ?_
        refine lv_icmp_ne (tgt := 51) hx hb dX9_isDrawnFor_44 (by decide) (fun c44 => ?_) (fun c44 => ?_)
        · refine lv_iconst (v := 0) hx hb dX9_isDrawnFor_51 (by decide) ?_
          exact W.zret (v := 0) hx hb hr (by rfl) (fun t ht hW => ⟨0, rfl, (by show (0 : Int32) = ftB (d1 = nI N ∧ d2 = sf 3 ∧ d3 = sf 4 ∧ d4 = sf 5); first | exact (ftB_t ⟨c8, c20, c32, c44⟩).symm | exact (ftB_f (fun q => c44 q.2.2.2)).symm | exact (ftB_f (fun q => c32 q.2.2.1)).symm | exact (ftB_f (fun q => c20 q.2.1)).symm | exact (ftB_f (fun q => c8 q.1)).symm), ht⟩) (fun _ h9 => absurd h9 List.not_mem_nil) dX9_isDrawnFor_52
        · refine lv_iconst (v := 1) hx hb dX9_isDrawnFor_47 (by decide) ?_
          refine lv_goto (tgt := 52) hx hb dX9_isDrawnFor_48 (by decide) ?_
          exact W.zret (v := 1) hx hb hr (by rfl) (fun t ht hW => ⟨1, rfl, (by show (1 : Int32) = ftB (d1 = nI N ∧ d2 = sf 3 ∧ d3 = sf 4 ∧ d4 = sf 5); first | exact (ftB_t ⟨c8, c20, c32, c44⟩).symm | exact (ftB_f (fun q => c44 q.2.2.2)).symm | exact (ftB_f (fun q => c32 q.2.2.1)).symm | exact (ftB_f (fun q => c20 q.2.1)).symm | exact (ftB_f (fun q => c8 q.1)).symm), ht⟩) (fun _ h9 => absurd h9 List.not_mem_nil) dX9_isDrawnFor_52
set_option maxHeartbeats 4000000 in
set_option maxRecDepth 100000 in
theorem c_X9_draw (l : Launch) (D : va_G) (cI cS : ClassId) (sz : Nat) (a0 ab ap an as N : Nat) (d1 d2 d3 d4 : Int32) (fn : Nat → Int32) (b0 : Nat) (sf : Nat → Int32) (n0 : Nat) (z a : Int32) (pu : Nat) (hN : N ≤ 460) (hpu : sf 4 = nI pu) (hpu2 : pu < 2 ^ 31) : Met l yX9_draw wsX9_draw ({ frames := 2, cells := 0, slots := 0, locals := 45 }) (ftRW D cI cS [.ref a0, .ref b0, .ref n0] [(a0, .inr (9, [.ref ab, .ref ap, .ref an, .ref as, .int (nI N), .int d1, .int d2, .int d3, .int d4])), (an, .inl (cI, 460, .inl fn)), (b0, .inl (cI, 11, .inl sf)), (n0, .inr (6, [.int z, .int a]))] sz) (ftQv D [(a0, .inr (9, [.ref ab, .ref ap, .ref an, .ref as, .int (nI N), .int d1, .int d2, .int d3, .int d4])), (an, .inl (cI, 460, .inl fn)), (b0, .inl (cI, 11, .inl sf)), (n0, .inr (6, [.int z, .int a]))] [(a0, .inr (9, [.ref ab, .ref ap, .ref an, .ref as, .int (nI N), .int (nI N), .int (sf 3), .int (sf 4), .int (sf 5)])), (an, .inl (cI, 460, .inl (ftFill (ftNoise (sf 3) (sf 5) pu) fn N))), (b0, .inl (cI, 11, .inl sf)), (n0, .inr (6, [.int (ftNzs (sf 3) (sf 5) pu N), .int (sf 3)]))] sz) 0 0 (va_A [(a0, .inr (9, [.ref ab, .ref ap, .ref an, .ref as, .int (nI N), .int d1, .int d2, .int d3, .int d4])), (an, .inl (cI, 460, .inl fn)), (b0, .inl (cI, 11, .inl sf)), (n0, .inr (6, [.int z, .int a]))] sz) := by
  refine Met.ofW (cc := cX9_draw) (maxL := 4) (ret := none) (by decide) rfl ?_
  intro p e s m args below meth c s₁ B hml hv
  obtain ⟨rfl, hsz, hP, hKK, hD0⟩ := hv
  have hK := hKK.1
  have hx := B.exec
  have hb := B.bytes
  have hr := B.returns
  have hts := atoms_spec (ws := wsX9_draw) B.pre
  have hown : s.vm.findClass RX9 = some m.cls := findClass_of_methodNamed B.named
  have hlocks := B.notSynchronized
  subst hsz
  have hD := hD0.self (sz := s.heap.size)
  generalize hAe : va_A [(a0, .inr (9, [.ref ab, .ref ap, .ref an, .ref as, .int (nI N), .int d1, .int d2, .int d3, .int d4])), (an, .inl (cI, 460, .inl fn)), (b0, .inl (cI, 11, .inl sf)), (n0, .inr (6, [.int z, .int a]))] s.heap.size = A at hD ⊢
  have hA : ∀ q : Nat, s.heap.size ≤ q → A q := fun q h => by rw [← hAe]; exact Or.inr h
  have hS : va_S A s.heap s.heap [] := va_S.rf
  have hD : va_D A [(a0, .inr (9, [.ref ab, .ref ap, .ref an, .ref as, .int (nI N), .int d1, .int d2, .int d3, .int d4])), (an, .inl (cI, 460, .inl fn)), (b0, .inl (cI, 11, .inl sf)), (n0, .inr (6, [.int z, .int a]))] := hD
  have hP : va_P D vwCl [(a0, .inr (9, [.ref ab, .ref ap, .ref an, .ref as, .int (nI N), .int d1, .int d2, .int d3, .int d4])), (an, .inl (cI, 460, .inl fn)), (b0, .inl (cI, 11, .inl sf)), (n0, .inr (6, [.int z, .int a]))] s.heap := hP
  have hl := lv_entry ([.ref a0, .ref b0, .ref n0]) (n := 4) (Nat.le_of_ble_eq_true rfl)
  rw [lg_entry_eq]
  generalize (lg_sl ([.ref a0, .ref b0, .ref n0]) ++ List.replicate (4 - (lg_sl ([.ref a0, .ref b0, .ref n0])).length) Slot.unset).toArray = ls at hl ⊢
  have hl : lv_has ls 4 [(0, .ref a0), (1, .ref b0), (2, .ref n0)] := hl
  refine lv_aload_n hx hb dX9_draw_0 rfl (lv_at hl 0 rfl) ?_
  refine lv_aload_n hx hb dX9_draw_1 rfl (lv_at hl 0 rfl) ?_
  refine va_get (D := D) (ci := 9) (v := .int (nI N)) (C := RX9) (T := TX9) (N := 9) hx hb hts (by decide +kernel) hown hK hP 0 rfl rfl 4 (by decide) (hts (.fieldLink RX9 30 "FiberTrace$Trace" "size" "I") (by decide +kernel)) (fun _ h9 => h9) rfl dX9_draw_2 ?_
  refine va_put (D := D) (ci := 9) (v := .int (nI N)) (ty := .int) (C := RX9) (T := TX9) (N := 9) hx hb hts (by decide +kernel) tyX9 tyX9_ok nmX9 hown hK hP hD hS 0 rfl rfl 5 (by decide) (hts (.fieldLink RX9 95 "FiberTrace$Trace" "drawnSize" "I") (by decide +kernel)) (fun _ h9 => h9) rfl (by decide +kernel) rfl rfl (Nat.le_of_ble_eq_true rfl) dX9_draw_5 (fun H locs hP hD hS => ?_)
  have hP : va_P D vwCl [(a0, .inr (9, [.ref ab, .ref ap, .ref an, .ref as, .int (nI N), .int (nI N), .int d2, .int d3, .int d4])), (an, .inl (cI, 460, .inl fn)), (b0, .inl (cI, 11, .inl sf)), (n0, .inr (6, [.int z, .int a]))] H := hP
  have hD : va_D A [(a0, .inr (9, [.ref ab, .ref ap, .ref an, .ref as, .int (nI N), .int (nI N), .int d2, .int d3, .int d4])), (an, .inl (cI, 460, .inl fn)), (b0, .inl (cI, 11, .inl sf)), (n0, .inr (6, [.int z, .int a]))] := hD
  refine lv_aload_n hx hb dX9_draw_8 rfl (lv_at hl 0 rfl) ?_
  refine lv_aload_n hx hb dX9_draw_9 rfl (lv_at hl 1 rfl) ?_
  refine lv_iconst (v := 3) hx hb dX9_draw_10 (by decide) ?_
  refine ft_csi (r := ftAt 11 sf 3) (va_runSN (As := [.ref b0, .int 3]) (rest := [.ref a0]) ⟨hx, hb, hml, hown, hts⟩ (c_X10_at l D cI cS b0 11 sf 3 (by first | assumption | omega)) ⟨va_cnB 2 hts gX9_draw_X10_at_n33 rfl rfl rfl (hKK.2 _ (List.mem_of_getElem? (i := 16) rfl)) (hts (.initialized RX10) (by decide +kernel)) (by decide +kernel) ⟨Nat.le_of_ble_eq_true rfl, Nat.le_of_ble_eq_true rfl⟩, hts (.static yX10_at) (by decide +kernel), trivial⟩ (ft_preRO hP hKK [2] rfl) rfl rfl hl.1 rfl (lv_room (Nat.le_of_ble_eq_true rfl)) dX9_draw_11 ⟨Nat.le_of_ble_eq_true rfl, Nat.le_of_ble_eq_true rfl⟩) ?_
  refine ft_top (y := sf 3) (ftAt_N (k := 3) (by omega) (by omega)) ?_
  refine va_put (D := D) (ci := 9) (v := .int (sf 3)) (ty := .int) (C := RX9) (T := TX9) (N := 9) hx hb hts (by decide +kernel) tyX9 tyX9_ok nmX9 hown hK hP hD hS 0 rfl rfl 6 (by decide) (hts (.fieldLink RX9 98 "FiberTrace$Trace" "drawnHeight" "I") (by decide +kernel)) (fun _ h9 => h9) rfl (by decide +kernel) rfl rfl (Nat.le_of_ble_eq_true rfl) dX9_draw_14 (fun H locs hP hD hS => ?_)
  have hP : va_P D vwCl [(a0, .inr (9, [.ref ab, .ref ap, .ref an, .ref as, .int (nI N), .int (nI N), .int (sf 3), .int d3, .int d4])), (an, .inl (cI, 460, .inl fn)), (b0, .inl (cI, 11, .inl sf)), (n0, .inr (6, [.int z, .int a]))] H := hP
  have hD : va_D A [(a0, .inr (9, [.ref ab, .ref ap, .ref an, .ref as, .int (nI N), .int (nI N), .int (sf 3), .int d3, .int d4])), (an, .inl (cI, 460, .inl fn)), (b0, .inl (cI, 11, .inl sf)), (n0, .inr (6, [.int z, .int a]))] := hD
  refine lv_aload_n hx hb dX9_draw_17 rfl (lv_at hl 0 rfl) ?_
  refine lv_aload_n hx hb dX9_draw_18 rfl (lv_at hl 1 rfl) ?_
  refine lv_iconst (v := 4) hx hb dX9_draw_19 (by decide) ?_
  refine ft_csi (r := ftAt 11 sf 4) (va_runSN (As := [.ref b0, .int 4]) (rest := [.ref a0]) ⟨hx, hb, hml, hown, hts⟩ (c_X10_at l D cI cS b0 11 sf 4 (by first | assumption | omega)) ⟨va_cnB 2 hts gX9_draw_X10_at_n33 rfl rfl rfl (hKK.2 _ (List.mem_of_getElem? (i := 16) rfl)) (hts (.initialized RX10) (by decide +kernel)) (by decide +kernel) ⟨Nat.le_of_ble_eq_true rfl, Nat.le_of_ble_eq_true rfl⟩, hts (.static yX10_at) (by decide +kernel), trivial⟩ (ft_preRO hP hKK [2] rfl) rfl rfl hl.1 rfl (lv_room (Nat.le_of_ble_eq_true rfl)) dX9_draw_20 ⟨Nat.le_of_ble_eq_true rfl, Nat.le_of_ble_eq_true rfl⟩) ?_
  refine ft_top (y := sf 4) (ftAt_N (k := 4) (by omega) (by omega)) ?_
  refine va_put (D := D) (ci := 9) (v := .int (sf 4)) (ty := .int) (C := RX9) (T := TX9) (N := 9) hx hb hts (by decide +kernel) tyX9 tyX9_ok nmX9 hown hK hP hD hS 0 rfl rfl 7 (by decide) (hts (.fieldLink RX9 101 "FiberTrace$Trace" "drawnPulses" "I") (by decide +kernel)) (fun _ h9 => h9) rfl (by decide +kernel) rfl rfl (Nat.le_of_ble_eq_true rfl) dX9_draw_23 (fun H locs hP hD hS => ?_)
  have hP : va_P D vwCl [(a0, .inr (9, [.ref ab, .ref ap, .ref an, .ref as, .int (nI N), .int (nI N), .int (sf 3), .int (sf 4), .int d4])), (an, .inl (cI, 460, .inl fn)), (b0, .inl (cI, 11, .inl sf)), (n0, .inr (6, [.int z, .int a]))] H := hP
  have hD : va_D A [(a0, .inr (9, [.ref ab, .ref ap, .ref an, .ref as, .int (nI N), .int (nI N), .int (sf 3), .int (sf 4), .int d4])), (an, .inl (cI, 460, .inl fn)), (b0, .inl (cI, 11, .inl sf)), (n0, .inr (6, [.int z, .int a]))] := hD
  refine lv_aload_n hx hb dX9_draw_26 rfl (lv_at hl 0 rfl) ?_
  refine lv_aload_n hx hb dX9_draw_27 rfl (lv_at hl 1 rfl) ?_
  refine lv_iconst (v := 5) hx hb dX9_draw_28 (by decide) ?_
  refine ft_csi (r := ftAt 11 sf 5) (va_runSN (As := [.ref b0, .int 5]) (rest := [.ref a0]) ⟨hx, hb, hml, hown, hts⟩ (c_X10_at l D cI cS b0 11 sf 5 (by first | assumption | omega)) ⟨va_cnB 2 hts gX9_draw_X10_at_n33 rfl rfl rfl (hKK.2 _ (List.mem_of_getElem? (i := 16) rfl)) (hts (.initialized RX10) (by decide +kernel)) (by decide +kernel) ⟨Nat.le_of_ble_eq_true rfl, Nat.le_of_ble_eq_true rfl⟩, hts (.static yX10_at) (by decide +kernel), trivial⟩ (ft_preRO hP hKK [2] rfl) rfl rfl hl.1 rfl (lv_room (Nat.le_of_ble_eq_true rfl)) dX9_draw_29 ⟨Nat.le_of_ble_eq_true rfl, Nat.le_of_ble_eq_true rfl⟩) ?_
  refine ft_top (y := sf 5) (ftAt_N (k := 5) (by omega) (by omega)) ?_
  refine va_put (D := D) (ci := 9) (v := .int (sf 5)) (ty := .int) (C := RX9) (T := TX9) (N := 9) hx hb hts (by decide +kernel) tyX9 tyX9_ok nmX9 hown hK hP hD hS 0 rfl rfl 8 (by decide) (hts (.fieldLink RX9 104 "FiberTrace$Trace" "drawnSeed" "I") (by decide +kernel)) (fun _ h9 => h9) rfl (by decide +kernel) rfl rfl (Nat.le_of_ble_eq_true rfl) dX9_draw_32 (fun H locs hP hD hS => ?_)
  have hP : va_P D vwCl [(a0, .inr (9, [.ref ab, .ref ap, .ref an, .ref as, .int (nI N), .int (nI N), .int (sf 3), .int (sf 4), .int (sf 5)])), (an, .inl (cI, 460, .inl fn)), (b0, .inl (cI, 11, .inl sf)), (n0, .inr (6, [.int z, .int a]))] H := hP
  have hD : va_D A [(a0, .inr (9, [.ref ab, .ref ap, .ref an, .ref as, .int (nI N), .int (nI N), .int (sf 3), .int (sf 4), .int (sf 5)])), (an, .inl (cI, 460, .inl fn)), (b0, .inl (cI, 11, .inl sf)), (n0, .inr (6, [.int z, .int a]))] := hD
  refine lv_aload_n hx hb dX9_draw_35 rfl (lv_at hl 2 rfl) ?_
  refine lv_aload_n hx hb dX9_draw_36 rfl (lv_at hl 1 rfl) ?_
  refine ft_cv (wc := [(n0, .inr (6, [.int z, .int a])), (b0, .inl (cI, 11, .inl sf))]) (wr := [(a0, .inr (9, [.ref ab, .ref ap, .ref an, .ref as, .int (nI N), .int (nI N), .int (sf 3), .int (sf 4), .int (sf 5)])), (an, .inl (cI, 460, .inl fn))]) (w1 := [(n0, .inr (6, [.int (sf 5), .int (sf 3)])), (b0, .inl (cI, 11, .inl sf))]) (ws1 := [(a0, .inr (9, [.ref ab, .ref ap, .ref an, .ref as, .int (nI N), .int (nI N), .int (sf 3), .int (sf 4), .int (sf 5)])), (an, .inl (cI, 460, .inl fn)), (b0, .inl (cI, 11, .inl sf)), (n0, .inr (6, [.int (sf 5), .int (sf 3)]))]) (va_runV (C := RX6) (As := [.ref b0]) (rest := []) ⟨hx, hb, hml, hown, hts⟩ (c_X6_begin l D cI cS H.size n0 z a b0 sf) (cwV 1 hts gX9_draw_X6_begin rfl rfl rfl (by decide +kernel) ⟨Nat.le_of_ble_eq_true rfl, Nat.le_of_ble_eq_true rfl⟩) (ft_preRWV (ci := 6) (q0 := 3) hP hD hKK [3, 2] rfl rfl rfl rfl rfl) rfl rfl hl.1 rfl (lv_room (Nat.le_of_ble_eq_true rfl)) dX9_draw_37 ⟨Nat.le_of_ble_eq_true rfl, Nat.le_of_ble_eq_true rfl⟩) hP hD hS hA [3, 2] [0, 1] [0, 1, 3, 2] rfl rfl (by decide) (by decide) (by decide) rfl rfl (fun H locs hP hD hS => ?_)
  have hP : va_P D vwCl [(a0, .inr (9, [.ref ab, .ref ap, .ref an, .ref as, .int (nI N), .int (nI N), .int (sf 3), .int (sf 4), .int (sf 5)])), (an, .inl (cI, 460, .inl fn)), (b0, .inl (cI, 11, .inl sf)), (n0, .inr (6, [.int (sf 5), .int (sf 3)]))] H := hP
  have hD : va_D A [(a0, .inr (9, [.ref ab, .ref ap, .ref an, .ref as, .int (nI N), .int (nI N), .int (sf 3), .int (sf 4), .int (sf 5)])), (an, .inl (cI, 460, .inl fn)), (b0, .inl (cI, 11, .inl sf)), (n0, .inr (6, [.int (sf 5), .int (sf 3)]))] := hD
  refine lv_iconst (v := 0) hx hb dX9_draw_40 (by decide) ?_
  refine lv_istore_n (lv' := [(3, .int 0), (0, .ref a0), (1, .ref b0), (2, .ref n0)]) hx hb dX9_draw_41 rfl hl (by decide) rfl (fun ls hl => ?_)
  have lp42 : ∀ (n42 : Nat) (x : Nat) (x42_3 : Int32) (g42_n0_0 : Int32) (g42_an : Nat → Int32), N - x < n42 → (x ≤ N) → x42_3 = nI x → g42_n0_0 = ftNzs (sf 3) (sf 5) pu x → g42_an = ftFill (ftNoise (sf 3) (sf 5) pu) fn x → ∀ (H : Heap) (locs : List Loc), va_P D vwCl [(a0, .inr (9, [.ref ab, .ref ap, .ref an, .ref as, .int (nI N), .int (nI N), .int (sf 3), .int (sf 4), .int (sf 5)])), (an, .inl (cI, 460, .inl g42_an)), (b0, .inl (cI, 11, .inl sf)), (n0, .inr (6, [.int g42_n0_0, .int (sf 3)]))] H → va_D A [(a0, .inr (9, [.ref ab, .ref ap, .ref an, .ref as, .int (nI N), .int (nI N), .int (sf 3), .int (sf 4), .int (sf 5)])), (an, .inl (cI, 460, .inl g42_an)), (b0, .inl (cI, 11, .inl sf)), (n0, .inr (6, [.int g42_n0_0, .int (sf 3)]))] → va_S A s.heap H locs → ∀ ls : Array Slot, lv_has ls 4 [(0, .ref a0), (1, .ref b0), (2, .ref n0), (3, .int x42_3)] → W p l e (headSpec wsX9_draw { frames := 2, cells := 0, slots := 0, locals := 45 }).room s m ([.ref a0, .ref b0, .ref n0] : List Value).toArray below meth c H locs 0 0 (MQ below (ftQv D [(a0, .inr (9, [.ref ab, .ref ap, .ref an, .ref as, .int (nI N), .int d1, .int d2, .int d3, .int d4])), (an, .inl (cI, 460, .inl fn)), (b0, .inl (cI, 11, .inl sf)), (n0, .inr (6, [.int z, .int a]))] [(a0, .inr (9, [.ref ab, .ref ap, .ref an, .ref as, .int (nI N), .int (nI N), .int (sf 3), .int (sf 4), .int (sf 5)])), (an, .inl (cI, 460, .inl (ftFill (ftNoise (sf 3) (sf 5) pu) fn N))), (b0, .inl (cI, 11, .inl sf)), (n0, .inr (6, [.int (ftNzs (sf 3) (sf 5) pu N), .int (sf 3)]))] s.heap.size) ([.ref a0, .ref b0, .ref n0] : List Value).toArray s 0 0 A) (F0 m 42 ls []) := by
    intro n42
    induction n42 with
    | zero =>
      intro x x42_3 g42_n0_0 g42_an hm42
      exact absurd hm42 (Nat.not_lt_zero _)
    | succ n42 ih42 =>
      intro x x42_3 g42_n0_0 g42_an hm42 hx0 ex42_3 eg42_n0_0 eg42_an H locs hP hD hS ls hl
      subst ex42_3
      refine lv_iload_n hx hb dX9_draw_42 rfl (lv_at hl 3 rfl) ?_
      refine lv_aload_n hx hb dX9_draw_43 rfl (lv_at hl 0 rfl) ?_
      refine va_get (D := D) (ci := 9) (v := .int (nI N)) (C := RX9) (T := TX9) (N := 9) hx hb hts (by decide +kernel) hown hK hP 0 rfl rfl 4 (by decide) (hts (.fieldLink RX9 30 "FiberTrace$Trace" "size" "I") (by decide +kernel)) (fun _ h9 => h9) rfl dX9_draw_44 ?_
      refine lv_icmp_ge (tgt := 72) hx hb dX9_draw_47 (by decide) (fun c47 => ?_) (fun c47 => ?_)
      · have c47n : N ≤ x := ft_leN (by omega) (by omega) c47
        have hw9 : ([(a0, .inr (9, [.ref ab, .ref ap, .ref an, .ref as, .int (nI N), .int (nI N), .int (sf 3), .int (sf 4), .int (sf 5)])), (an, .inl (cI, 460, .inl g42_an)), (b0, .inl (cI, 11, .inl sf)), (n0, .inr (6, [.int g42_n0_0, .int (sf 3)]))] : va_W) = [(a0, .inr (9, [.ref ab, .ref ap, .ref an, .ref as, .int (nI N), .int (nI N), .int (sf 3), .int (sf 4), .int (sf 5)])), (an, .inl (cI, 460, .inl (ftFill (ftNoise (sf 3) (sf 5) pu) fn N))), (b0, .inl (cI, 11, .inl sf)), (n0, .inr (6, [.int (ftNzs (sf 3) (sf 5) pu N), .int (sf 3)]))] := by (obtain rfl : x = N := by omega); rw [eg42_an, eg42_n0_0]
        rw [hw9] at hP hD
        exact W.vret hx hb hr (fun t ht hW => ⟨⟨(), rfl, trivial, by rw [ht]; exact hP, by rw [hAe]; exact hD⟩, by rw [hAe]; exact hS.F ht⟩) hS.2.2 dX9_draw_72
      · have c47n : x < N := ft_nleN (by omega) (by omega) c47
        refine lv_aload_n hx hb dX9_draw_50 rfl (lv_at hl 0 rfl) ?_
        refine va_get (D := D) (ci := 9) (v := .ref an) (C := RX9) (T := TX9) (N := 9) hx hb hts (by decide +kernel) hown hK hP 0 rfl rfl 2 (by decide) (hts (.fieldLink RX9 18 "FiberTrace$Trace" "noise" "[I") (by decide +kernel)) (fun _ h9 => h9) rfl dX9_draw_51 ?_
        refine lv_iload_n hx hb dX9_draw_54 rfl (lv_at hl 3 rfl) ?_
        refine lv_aload_n hx hb dX9_draw_55 rfl (lv_at hl 2 rfl) ?_
        refine lv_aload_n hx hb dX9_draw_56 rfl (lv_at hl 0 rfl) ?_
        refine va_get (D := D) (ci := 9) (v := .int (sf 4)) (C := RX9) (T := TX9) (N := 9) hx hb hts (by decide +kernel) hown hK hP 0 rfl rfl 7 (by decide) (hts (.fieldLink RX9 101 "FiberTrace$Trace" "drawnPulses" "I") (by decide +kernel)) (fun _ h9 => h9) rfl dX9_draw_57 ?_
        refine ft_top (y := nI pu) hpu ?_
        refine ft_ci (r := ftNx (sf 3) g42_n0_0 pu) (wc := [(n0, .inr (6, [.int g42_n0_0, .int (sf 3)]))]) (wr := [(a0, .inr (9, [.ref ab, .ref ap, .ref an, .ref as, .int (nI N), .int (nI N), .int (sf 3), .int (sf 4), .int (sf 5)])), (an, .inl (cI, 460, .inl g42_an)), (b0, .inl (cI, 11, .inl sf))]) (w1 := [(n0, .inr (6, [.int (ftNz (sf 3) g42_n0_0 pu), .int (sf 3)]))]) (ws1 := [(a0, .inr (9, [.ref ab, .ref ap, .ref an, .ref as, .int (nI N), .int (nI N), .int (sf 3), .int (sf 4), .int (sf 5)])), (an, .inl (cI, 460, .inl g42_an)), (b0, .inl (cI, 11, .inl sf)), (n0, .inr (6, [.int (ftNz (sf 3) g42_n0_0 pu), .int (sf 3)]))]) (va_runV (C := RX6) (As := [.int (nI pu)]) (rest := [.int (nI x), .ref an]) ⟨hx, hb, hml, hown, hts⟩ (c_X6_next l D cI cS H.size n0 g42_n0_0 (sf 3) pu (by first | assumption | omega)) (cwV 1 hts gX9_draw_X6_next rfl rfl rfl (by decide +kernel) ⟨Nat.le_of_ble_eq_true rfl, Nat.le_of_ble_eq_true rfl⟩) (ft_preRWV (ci := 6) (q0 := 3) hP hD hKK [3] rfl rfl rfl rfl rfl) rfl rfl hl.1 rfl (lv_room (Nat.le_of_ble_eq_true rfl)) dX9_draw_60 ⟨Nat.le_of_ble_eq_true rfl, Nat.le_of_ble_eq_true rfl⟩) hP hD hS hA [3] [0, 1, 2] [0, 1, 2, 3] rfl rfl (by decide) (by decide) (by decide) rfl rfl (fun H locs hP hD hS => ?_)
        have hP : va_P D vwCl [(a0, .inr (9, [.ref ab, .ref ap, .ref an, .ref as, .int (nI N), .int (nI N), .int (sf 3), .int (sf 4), .int (sf 5)])), (an, .inl (cI, 460, .inl g42_an)), (b0, .inl (cI, 11, .inl sf)), (n0, .inr (6, [.int (ftNz (sf 3) g42_n0_0 pu), .int (sf 3)]))] H := hP
        have hD : va_D A [(a0, .inr (9, [.ref ab, .ref ap, .ref an, .ref as, .int (nI N), .int (nI N), .int (sf 3), .int (sf 4), .int (sf 5)])), (an, .inl (cI, 460, .inl g42_an)), (b0, .inl (cI, 11, .inl sf)), (n0, .inr (6, [.int (ftNz (sf 3) g42_n0_0 pu), .int (sf 3)]))] := hD
        refine ft_cv (wc := [(an, .inl (cI, 460, .inl g42_an))]) (wr := [(a0, .inr (9, [.ref ab, .ref ap, .ref an, .ref as, .int (nI N), .int (nI N), .int (sf 3), .int (sf 4), .int (sf 5)])), (b0, .inl (cI, 11, .inl sf)), (n0, .inr (6, [.int (ftNz (sf 3) g42_n0_0 pu), .int (sf 3)]))]) (w1 := [(an, .inl (cI, 460, .inl (ftPut 460 g42_an (nI x) (ftNx (sf 3) g42_n0_0 pu))))]) (ws1 := [(a0, .inr (9, [.ref ab, .ref ap, .ref an, .ref as, .int (nI N), .int (nI N), .int (sf 3), .int (sf 4), .int (sf 5)])), (an, .inl (cI, 460, .inl (ftPut 460 g42_an (nI x) (ftNx (sf 3) g42_n0_0 pu)))), (b0, .inl (cI, 11, .inl sf)), (n0, .inr (6, [.int (ftNz (sf 3) g42_n0_0 pu), .int (sf 3)]))]) (va_runSN (As := [.ref an, .int (nI x), .int (ftNx (sf 3) g42_n0_0 pu)]) (rest := []) ⟨hx, hb, hml, hown, hts⟩ (c_X10_put l D cI cS H.size an 460 g42_an (nI x) (ftNx (sf 3) g42_n0_0 pu) (by first | assumption | omega)) ⟨va_cnB 3 hts gX9_draw_X10_put_n53 rfl rfl rfl (hKK.2 _ (List.mem_of_getElem? (i := 18) rfl)) (hts (.initialized RX10) (by decide +kernel)) (by decide +kernel) ⟨Nat.le_of_ble_eq_true rfl, Nat.le_of_ble_eq_true rfl⟩, hts (.static yX10_put) (by decide +kernel), trivial⟩ (ft_preRW hP hD hKK [1] rfl rfl rfl) rfl rfl hl.1 rfl (lv_room (Nat.le_of_ble_eq_true rfl)) dX9_draw_63 ⟨Nat.le_of_ble_eq_true rfl, Nat.le_of_ble_eq_true rfl⟩) hP hD hS hA [1] [0, 2, 3] [0, 3, 1, 2] rfl rfl (by decide) (by decide) (by decide) rfl rfl (fun H locs hP hD hS => ?_)
        rw [ftPut_N (k := x) (by omega) (by omega)] at hP hD
        have hP : va_P D vwCl [(a0, .inr (9, [.ref ab, .ref ap, .ref an, .ref as, .int (nI N), .int (nI N), .int (sf 3), .int (sf 4), .int (sf 5)])), (an, .inl (cI, 460, .inl (upd g42_an x (ftNx (sf 3) g42_n0_0 pu)))), (b0, .inl (cI, 11, .inl sf)), (n0, .inr (6, [.int (ftNz (sf 3) g42_n0_0 pu), .int (sf 3)]))] H := hP
        have hD : va_D A [(a0, .inr (9, [.ref ab, .ref ap, .ref an, .ref as, .int (nI N), .int (nI N), .int (sf 3), .int (sf 4), .int (sf 5)])), (an, .inl (cI, 460, .inl (upd g42_an x (ftNx (sf 3) g42_n0_0 pu)))), (b0, .inl (cI, 11, .inl sf)), (n0, .inr (6, [.int (ftNz (sf 3) g42_n0_0 pu), .int (sf 3)]))] := hD
        refine lv_iinc (v := nI (x + 1)) (lv' := [(3, .int (nI (x + 1))), (0, .ref a0), (1, .ref b0), (2, .ref n0)]) hx hb dX9_draw_66 hl (k := 3) rfl (ft_inc x) (by decide) rfl (fun ls hl => ?_)
        refine lv_goto (tgt := 42) hx hb dX9_draw_69 (by decide) ?_
        exact ih42 (x + 1) (nI (x + 1)) (ftNz (sf 3) g42_n0_0 pu) (upd g42_an x (ftNx (sf 3) g42_n0_0 pu)) (by omega) (by omega) (by first | rfl | assumption) (by rw [eg42_n0_0]; rfl) (by rw [eg42_an]; refine ftFill_s ?_; rw [eg42_n0_0]; rfl) _ _ hP hD hS ls (lv_sub hl [1, 2, 3, 0] rfl)
  exact lp42 _ 0 0 (sf 5) fn (Nat.lt_succ_self _) (by omega) (by rfl) (by rfl) (by exact ftFill_0 _ fn) _ _ hP hD hS ls (lv_sub hl [1, 2, 3, 0] rfl)
