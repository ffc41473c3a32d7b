/-! the start -/
def ftS0 : ftSd := (fun _ => 0, fun k => match k with | 0 => 200 | 1 => 10 | 2 => 12000 | _ => 0, fun k => match k with | 4 => va_cpy (ftTb 2) (fun _ => 0) 0 0 11 | _ => fun _ => 0, fun k _ => match k with | 0 => 200 | 1 => 10 | _ => 12000, fun _ _ => 0, fun k _ => match k with | 4 => va_cpy (ftTb 2) (fun _ => 0) 0 0 11 | _ => fun _ => 0)
def ftC0 : ftCdT := (ftS0, (fun _ => 0, fun _ => 0, fun _ _ => 0, fun _ _ => 0), (0, fun _ => 0, (0, fun k => match k with | 4 => 200 | 5 => 10 | 6 => 12000 | _ => 0, fun _ _ => 0)), fun _ _ => 0)
def ftW0 : Nat → Int32 := upd (upd (upd (upd (upd (upd (upd (upd (upd (upd (upd (upd (upd (upd (fun _ => 0) 0 200) 1 10) 2 12000) 44 (ftFirst 0)) 45 (ftFirst 1)) 46 (ftFirst 2)) 47 (ftFirst 3)) 48 (ftFirst 4)) 49 (ftFirst 5)) 50 (ftFirst 6)) 51 (ftFirst 7)) 52 (ftFirst 8)) 53 (ftFirst 9)) 54 (ftFirst 10)
abbrev ftZr : Nat → Int32 := fun _ => 0
def ftJ0 : ftRD := (fun _ => 0, fun _ _ => 0)
theorem ftC0_par : ¬ ftCPar ftC0.2.2.1.2.1 ftC0.2.2.1.1 = none := by
  show ¬ ftPar (fun _ => 0) 0 1 0 0 _ = none
  rw [ftPar, if_neg (Nat.lt_irrefl 0)]
  exact Option.some_ne_none _
theorem ftW0_wf : ftWf ftW0 := by
  refine ⟨⟨by decide +kernel, by decide +kernel, by decide +kernel, by decide +kernel, fun k hk => ?_, fun a b _ hk => ?_⟩, by decide +kernel, by decide +kernel, fun i hi => ?_⟩
  · exact absurd (show k < 0 from hk) (Nat.not_lt_zero k)
  · exact absurd (show b < 0 from hk) (Nat.not_lt_zero b)
  · exact absurd (show i < 0 from hi) (Nat.not_lt_zero i)
theorem ftC0_cr : ftCR 0 ftC0 ftW0 (ftC0.1.1 3) := by
  refine ⟨ftW0_wf, ⟨by decide +kernel, by decide +kernel, by decide +kernel, by decide +kernel, by decide +kernel, fun k hk => absurd (show k < 0 from hk) (Nat.not_lt_zero k)⟩, ?_, ⟨Or.inl (by decide +kernel), fun h => absurd (by decide +kernel) h, ?_⟩, Nat.le_refl 0, by decide +kernel, fun i hi => absurd (show i < 0 from hi) (Nat.not_lt_zero i), fun i hi => absurd (show i < 0 from hi) (Nat.not_lt_zero i), by decide +kernel, rfl, by decide +kernel, by decide +kernel⟩
  · show ∀ j, j < 11 → (va_cpy (ftTb 2) (fun _ => 0) 0 0 11) j = ftW0 (44 + j)
    decide +kernel
  · intro N pu hN hpu h1 h2 x hx
    have h1 : (0 : Int32) = nI N := h1
    have hN0 : N = 0 := ft_eq0N (by omega) h1.symm
    omega
theorem ftR2_0 : ftR2 0 ftC0 ftW0 ftZr := by
  obtain ⟨h1, h2, h3, h4, h5, h6, h7, h8, h9, h10, h11, h12⟩ := ftC0_cr
  exact ⟨⟨h1, h2, h3, h6, fun i hi => absurd (show i < 0 from hi) (Nat.not_lt_zero i)⟩, h4, h5, h9, h11, h12, fun m hm => absurd (show m < 0 from hm) (Nat.not_lt_zero m), fun a b _ hb => absurd (show b < 0 from hb) (Nat.not_lt_zero b), fun a ha => absurd (show a < 0 from ha) (Nat.not_lt_zero a)⟩
