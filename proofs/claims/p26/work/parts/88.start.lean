/-! what the Statement gives at the start: classes, arrays, nest mates, texts, tables -/
theorem ft_nestIn : ∀ w ∈ ftNest, w ∈ lw_tbl := by decide +kernel
def ftTm9 (i : Nat) : Term := .string RX5 (ftNi.getD i 0)
abbrev ftGv : List Cond := flatC (Jvm.Cond.and given_1 narrow_1)
theorem ft_gv1 : ∀ i, i < 6 → Cond.exactly (ftTm9 i) "java/lang/String" ∈ ftGv := by decide +kernel
theorem ft_gv2 : ∀ i, i < 6 → Cond.eq (.field (ftTm9 i) "java/lang/String" "coder" "B") (.int 0) ∈ ftGv := by decide +kernel
theorem ft_gv3 : ∀ i, i < 6 → Cond.arrayOf (.field (ftTm9 i) "java/lang/String" "value" "[B") .byte ∈ ftGv := by decide +kernel
theorem ft_gv4 : ∀ i, i < 6 → Cond.eq (.length (.field (ftTm9 i) "java/lang/String" "value" "[B")) (.int (Int32.ofNat (ftLe.getD i 0))) ∈ ftGv := by decide +kernel
theorem ft_gv5 : ∀ i, i < 6 → ∀ j, j < ftLe.getD i 0 → Cond.eq (.elem (.field (ftTm9 i) "java/lang/String" "value" "[B") (.int (Int32.ofNat j))) (.int ((ftBy.getD i []).getD j 0)) ∈ ftGv := by decide +kernel
theorem ft_gv6 : ∀ i, i < 6 → ∀ j, j < 6 → i ≠ j → Cond.not (Cond.eq (ftTm9 i) (ftTm9 j)) ∈ ftGv ∨ Cond.not (Cond.eq (ftTm9 j) (ftTm9 i)) ∈ ftGv := by decide +kernel
theorem ft_gv7 : ∀ i, i < 6 → Cond.stringRef RX5 (ftNi.getD i 0) (ftNt.getD i "") ∈ lw_tbl := by decide +kernel
abbrev ftTs9 (k : Nat) : Term := .static "FiberTrace" (ftTn9.getD k "") "[I"
theorem ft_gv8 : ∀ k, k < 3 → Cond.arrayOf (ftTs9 k) .int ∈ ftGv ∧ Cond.eq (.length (ftTs9 k)) (.int (Int32.ofNat 11)) ∈ ftGv ∧ Cond.laysStatic "FiberTrace" (ftTn9.getD k "") "[I" ∈ lw_tbl ∧ ∀ j, j < 11 → Cond.eq (.elem (ftTs9 k) (.int (Int32.ofNat j))) (.int (ftTb k j)) ∈ ftGv := by decide +kernel
theorem ft_gv9 : Cond.eq (.static "java/lang/String" "COMPACT_STRINGS" "Z") (.int 1) ∈ ftGv ∧ Cond.isRef (.static "jdk/internal/util/Preconditions" "SIOOBE_FORMATTER" "Ljava/util/function/BiFunction;") ∈ ftGv := by decide +kernel
theorem ft_gva : Cond.laysStatic "java/lang/String" "COMPACT_STRINGS" "Z" ∈ lw_tbl ∧ Cond.initialized "java/lang/String" ∈ lw_tbl ∧ Cond.laysStatic "jdk/internal/util/Preconditions" "SIOOBE_FORMATTER" "Ljava/util/function/BiFunction;" ∈ lw_tbl ∧ Cond.initialized "jdk/internal/util/Preconditions" ∈ lw_tbl ∧ Cond.initialized "FiberTrace" ∈ lw_tbl ∧ Cond.fieldLinkNest RX8 22 "FiberTrace" "FIRST_VALUES" "[I" "FiberTrace" ∈ lw_tbl ∧ Cond.arrayOver (.object RX8) ∈ lw_tbl ∧ Cond.arrayClass .int ∈ lw_tbl := by decide +kernel
theorem ft_classes {s : State} {args : Array Value} (hts : ∀ w ∈ lw_tbl, w.before args s = true) : ∃ (dC : Nat → ClassId) (dI : Nat → Nat → Nat), ∀ (k : Nat) (q : vw_C), vwCl[k]? = some q → u_Kn s q.1 q.2.1 q.2.2 (dC k) (dI k) := by
  obtain ⟨c0, i0, h0⟩ := u_known (C := RX0) (T := TX0) (N := 4) (n := 4) hts inX0 (hts (.instantiable RX0 4) (by decide +kernel))
  obtain ⟨c1, i1, h1⟩ := u_known (C := RX1) (T := TX1) (N := 7) (n := 7) hts inX1 (hts (.instantiable RX1 7) (by decide +kernel))
  obtain ⟨c2, i2, h2⟩ := u_known (C := RX2) (T := TX2) (N := 3) (n := 3) hts inX2 (hts (.instantiable RX2 3) (by decide +kernel))
  obtain ⟨c3, i3, h3⟩ := u_known (C := RX3) (T := TX3) (N := 2) (n := 2) hts inX3 (hts (.instantiable RX3 2) (by decide +kernel))
  obtain ⟨c4, i4, h4⟩ := u_known (C := RX4) (T := TX4) (N := 8) (n := 8) hts inX4 (hts (.instantiable RX4 8) (by decide +kernel))
  obtain ⟨c5, i5, h5⟩ := u_known (C := RX5) (T := TX5) (N := 9) (n := 9) hts inX5 (hts (.instantiable RX5 9) (by decide +kernel))
  obtain ⟨c6, i6, h6⟩ := u_known (C := RX6) (T := TX6) (N := 2) (n := 2) hts inX6 (hts (.instantiable RX6 2) (by decide +kernel))
  obtain ⟨c7, i7, h7⟩ := u_known (C := RX7) (T := TX7) (N := 10) (n := 10) hts inX7 (hts (.instantiable RX7 10) (by decide +kernel))
  obtain ⟨c8, i8, h8⟩ := u_known (C := RX8) (T := TX8) (N := 3) (n := 3) hts inX8 (hts (.instantiable RX8 3) (by decide +kernel))
  obtain ⟨c9, i9, h9⟩ := u_known (C := RX9) (T := TX9) (N := 9) (n := 9) hts inX9 (hts (.instantiable RX9 9) (by decide +kernel))
  obtain ⟨c10, i10, h10⟩ := u_known (C := RX10) (T := TX10) (N := 11) (n := 11) hts inX10 (hts (.instantiable RX10 11) (by decide +kernel))
  obtain ⟨c11, i11, h11⟩ := u_known (C := RX11) (T := TX11) (N := 33) (n := 33) hts inX11 (hts (.instantiable RX11 33) (by decide +kernel))
  refine ⟨fun k => match k with | 0 => c0 | 1 => c1 | 2 => c2 | 3 => c3 | 4 => c4 | 5 => c5 | 6 => c6 | 7 => c7 | 8 => c8 | 9 => c9 | 10 => c10 | _ => c11, fun k => match k with | 0 => i0 | 1 => i1 | 2 => i2 | 3 => i3 | 4 => i4 | 5 => i5 | 6 => i6 | 7 => i7 | 8 => i8 | 9 => i9 | 10 => i10 | _ => i11, ?_⟩
  intro k q hq
  match k, hq with
  | 0, hq => cases hq; exact h0
  | 1, hq => cases hq; exact h1
  | 2, hq => cases hq; exact h2
  | 3, hq => cases hq; exact h3
  | 4, hq => cases hq; exact h4
  | 5, hq => cases hq; exact h5
  | 6, hq => cases hq; exact h6
  | 7, hq => cases hq; exact h7
  | 8, hq => cases hq; exact h8
  | 9, hq => cases hq; exact h9
  | 10, hq => cases hq; exact h10
  | 11, hq => cases hq; exact h11
  | k + 12, hq => cases hq
theorem ft_start {s : State} {args : Array Value} (hts : ∀ w ∈ lw_tbl, w.before args s = true) (hgv : (Jvm.Cond.and given_1 narrow_1).before args s = true) : ∃ (D : va_G) (cI cS : ClassId) (sK sV : Nat → Nat), ftK D cI cS s ∧ ftSt sK sV (fun q => s.heap.size ≤ q) s s.heap ∧ ftAO s := by
  have hs : ∀ w ∈ ftGv, w.before args s = true := flat_of_before _ hgv
  have hA : ∀ a : Nat, a < s.heap.size → ¬ s.heap.size ≤ a := fun a h => Nat.not_le.mpr h
  obtain ⟨dC, dI, hcl⟩ := ft_classes hts
  obtain ⟨g1, g2, g3, g4, g5, g8, g6, g7⟩ := ft_gva
  have hAO : va_AO RX8 s := va_AO.of (hts _ g6)
  obtain ⟨cI, kI, comp, q1, q2, q3⟩ := Cond.arrayClass_spec (hts _ g7)
  obtain ⟨comp2, cS, kS, r1, r2, r3, r4, r5⟩ := Cond.arrayOver_spec hAO
  have hKI : ArrOfT s cI .int ∧ va_RA s cI .int := ⟨fun n z => ⟨(fun k h => by cases h), kI, q2, comp, q3⟩, q1⟩
  have hKS : ArrOfT s cS (.object "FiberTrace$State") ∧ va_RA s cS (.object "FiberTrace$State") := ⟨fun n z => ⟨(fun k h => by cases h), kS, r3, comp2, r4⟩, kS, comp2, r3, r4, r1, r5⟩
  obtain ⟨adK, adV, hStr, hev⟩ := vk_Sof (A := fun q => s.heap.size ≤ q) (N := 6) (tm := ftTm9) (len := ftLe) (byt := ftBy) (fun i hi => by
      match i, hi with
      | 0, _ => decide
      | 1, _ => decide
      | 2, _ => decide
      | 3, _ => decide
      | 4, _ => decide
      | 5, _ => decide
      | i + 6, h => exact absurd h (by omega)) (fun i hi => hs _ (ft_gv1 i hi)) (fun i hi => hs _ (ft_gv2 i hi)) (fun i hi => hs _ (ft_gv3 i hi)) (fun i hi => hs _ (ft_gv4 i hi)) (fun i hi j hj => hs _ (ft_gv5 i hi j hj)) (fun i j hi hj hij => (ft_gv6 i hi j hj hij).imp (hs _) (hs _)) hA
  have hT : ∀ k, ∃ t : Nat, k < 3 → (ftTs9 k).eval args s none [] s = some (.ref t) ∧ va_T .int t 11 (fun j => .int (ftTb k j)) (fun q => s.heap.size ≤ q) s s.heap := by
    intro k
    by_cases hk : k < 3
    · obtain ⟨e1, e2, -, e4⟩ := ft_gv8 k hk
      obtain ⟨t, ht, hT⟩ := va_Tof (f := fun j => .int (ftTb k j)) (A := fun q => s.heap.size ≤ q) (by decide) (hs _ e1) (va_eqt (hs _ e2)) (fun j hj => va_eqt (hs _ (e4 j hj))) hA
      exact ⟨t, fun _ => ⟨ht, hT⟩⟩
    · exact ⟨0, fun h => absurd h hk⟩
  obtain ⟨tt, htt⟩ := Classical.axiomOfChoice hT
  have e0 : ∀ i, i < 6 → (if i < 6 then adV i else tt (i - 6)) = adV i := fun i hi => if_pos hi
  have e6 : ∀ k, (if 6 + k < 6 then adV (6 + k) else tt (6 + k - 6)) = tt k := fun k => by rw [if_neg (by omega), show 6 + k - 6 = k by omega]
  refine ⟨(dC, dI), cI, cS, adK, fun i => if i < 6 then adV i else tt (i - 6), ⟨⟨hcl, fun k q hq => ?_⟩, fun w hw => va_tabs (ftNest_on w hw) rfl (hts w (ft_nestIn w hw))⟩, ⟨⟨fun i hi => ?_, hStr.2⟩, va_Zof (hts _ g1) (hts _ g2) (va_eqt (hs _ ft_gv9.1)) hA, va_Zqof (hts _ g3) (hts _ g4) (hs _ ft_gv9.2) hA, fun i hi => vk_R.of (hts _ (ft_gv7 i hi)) (hev i hi), fun k hk => ?_, fun k hk => ?_⟩, hAO, va_Nw.of rfl (hts _ g8)⟩
  · match k, hq with
    | 0, hq => cases hq; exact hKI
    | 1, hq => cases hq; exact hKS
    | k + 2, hq => cases hq
  · show va_O "java/lang/String" (adK i) _ s s.heap ∧ va_OF "java/lang/String" "coder" "B" (.int 0) (adK i) _ s s.heap ∧ va_OF "java/lang/String" "value" "[B" (.ref (if i < 6 then adV i else tt (i - 6))) (adK i) _ s s.heap ∧ va_T .byte (if i < 6 then adV i else tt (i - 6)) _ _ _ s s.heap
    rw [e0 i hi]
    exact hStr.1 i hi
  · show va_T .int (if 6 + k < 6 then adV (6 + k) else tt (6 + k - 6)) 11 _ _ s s.heap
    rw [e6 k]
    exact (htt k hk).2
  · show va_Z "FiberTrace" (ftTn9.getD k "") "[I" (.ref (if 6 + k < 6 then adV (6 + k) else tt (6 + k - 6))) _ s s.heap
    rw [e6 k]
    exact va_Zref (hts _ (ft_gv8 k hk).2.2.1) (hts _ g5) (htt k hk).1 hA
