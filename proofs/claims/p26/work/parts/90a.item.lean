/-! items typed piece by piece -/
def lxUp (f : Nat → Nat) (K x : Nat) : Nat → Nat := fun i => if i = K then x else f i
theorem lxUp_at (f : Nat → Nat) (K x : Nat) : lxUp f K x K = x := if_pos rfl
theorem lxUp_ne {f : Nat → Nat} {K x i : Nat} (h : i ≠ K) : lxUp f K x i = f i := if_neg h
theorem lxP_cong {p : Nat} {s d s' d' : Nat → Nat} : ∀ k, (∀ i, i < k → s' i = s i ∧ d' i = d i) → lxP p s' d' k = lxP p s d k := by
  intro k
  induction k with
  | zero => intro _; rfl
  | succ k ih =>
    intro h
    show lxP p s' d' k + s' k + d' k = lxP p s d k + s k + d k
    rw [ih (fun i hi => h i (by omega)), (h k (by omega)).1, (h k (by omega)).2]
/-- m signs f typed at n -/
def lxTy (f tx : Nat → Int32) (n m : Nat) : Nat → Int32 := fun t => if n ≤ t ∧ t < n + m then f (t - n) else tx t
theorem lxTy_0 (f tx : Nat → Int32) (n : Nat) : lxTy f tx n 0 = tx := funext fun t => if_neg (by omega)
theorem lxTy_s {f tx : Nat → Int32} {n m : Nat} : upd (lxTy f tx n m) (n + m) (f m) = lxTy f tx n (m + 1) := by
  funext t
  unfold upd lxTy
  by_cases c : t = n + m
  · subst c
    rw [if_pos rfl, if_pos ⟨by omega, by omega⟩]
    congr 1
    omega
  · rw [if_neg c]
    by_cases q : n ≤ t ∧ t < n + m
    · rw [if_pos q, if_pos ⟨q.1, by omega⟩]
    · rw [if_neg q, if_neg (fun r => q ⟨r.1, by omega⟩)]
theorem lxTy_lo {f tx : Nat → Int32} {n m t : Nat} (h : t < n) : lxTy f tx n m t = tx t := if_neg (by omega)
def lxWf (j : Nat) : Nat → Int32 := fun t => ftLt (nI (100 * j + t))
theorem lxI_w (tx : Nat → Int32) (p j : Nat) (s d n : Nat → Nat) : lxI (lxTy (lxWf j) tx p (ftWs j)) p j 0 s d n := by
  refine ⟨fun t ht => ?_, fun i hi => absurd hi (Nat.not_lt_zero i)⟩
  unfold lxTy
  rw [if_pos ⟨by omega, by omega⟩, show p + t - p = t by omega]
  rfl
theorem lxI_s {tx ty : Nat → Int32} {p j K q s1 d1 n1 : Nat} {s d n : Nat → Nat} (h : lxI tx p j K s d n) (hp : lxP (p + ftWs j) s d K = q) (hN : lxN ty q s1 d1 n1) (ha : ∀ t, t < q → ty t = tx t) : lxI ty p j (K + 1) (lxUp s K s1) (lxUp d K d1) (lxUp n K n1) ∧ lxP (p + ftWs j) (lxUp s K s1) (lxUp d K d1) (K + 1) = q + s1 + d1 := by
  have hc : ∀ i, i ≤ K → lxP (p + ftWs j) (lxUp s K s1) (lxUp d K d1) i = lxP (p + ftWs j) s d i := fun i hi => lxP_cong i (fun t ht => ⟨lxUp_ne (by omega), lxUp_ne (by omega)⟩)
  have hm := lxI_mono h (fun t ht => ha t (by rw [← hp]; exact ht))
  refine ⟨⟨hm.1, fun i hi => ?_⟩, ?_⟩
  · rw [hc i (by omega)]
    rcases Nat.lt_or_ge i K with r | r
    · rw [lxUp_ne (by omega), lxUp_ne (by omega), lxUp_ne (by omega)]
      exact hm.2 i r
    · have e : i = K := by omega
      subst e
      rw [lxUp_at, lxUp_at, lxUp_at, hp]
      exact hN
  · show lxP (p + ftWs j) (lxUp s K s1) (lxUp d K d1) K + lxUp s K s1 K + lxUp d K d1 K = q + s1 + d1
    rw [hc K (Nat.le_refl K), hp, lxUp_at, lxUp_at]
/-- the bytes of a word in a long -/
def lxB (L : Int64) (i : Nat) : Int32 := ((L >>> ((nI (56 - 8 * i)).toInt64 &&& 63)) &&& 255).toInt32
def lxWd (L : Int64) (W : Nat) (f : Nat → Int32) : Prop := W ≤ 8 ∧ (∀ i, i < 8 → (i < 8 - W → lxB L i = 0) ∧ (8 - W ≤ i → lxB L i = f (i - (8 - W)))) ∧ ∀ m, m < W → 32 ≤ f m ∧ f m ≤ 126
theorem lxWd_0 : lxWd 119182899770472 6 (lxWf 0) := ⟨by decide, by decide +kernel, by decide +kernel⟩
theorem lxWd_2 : lxWd 6647396 3 (lxWf 2) := ⟨by decide, by decide +kernel, by decide +kernel⟩
theorem lxWd_3 : lxWd 126926692377445 6 (lxWf 3) := ⟨by decide, by decide +kernel, by decide +kernel⟩
theorem lxWd_4 : lxWd 7165066952596223087 8 (lxWf 4) := ⟨by decide, by decide +kernel, by decide +kernel⟩
theorem lxWd_5 : lxWd 109299962373989 6 (lxWf 5) := ⟨by decide, by decide +kernel, by decide +kernel⟩
def lxSh (i : Nat) : Int32 := if i < 8 then nI (56 - 8 * i) else -8
theorem lxSh_t {i : Nat} (h : i < 8) : lxSh i = nI (56 - 8 * i) := if_pos h
theorem lxSh_s : ∀ i, i < 8 → nI (56 - 8 * i) + Int32.ofInt (-8) = lxSh (i + 1) := by decide +kernel
theorem lxSh_8 : ∀ i, i ≤ 8 → (lxSh i < 0 ↔ i = 8) := by decide +kernel
/-- the place of the digit that is typed next -/
def lxUn (d i : Nat) : Int32 := if i < d then nI (10 ^ (d - 1 - i)) else 0
theorem lxUn_t {d i : Nat} (h : i < d) : lxUn d i = nI (10 ^ (d - 1 - i)) := if_pos h
theorem lxUn_f {d i : Nat} (h : ¬ i < d) : lxUn d i = 0 := if_neg h
theorem lx_p10 {k : Nat} (h : k ≤ 4) : 0 < 10 ^ k ∧ 10 ^ k ≤ 10000 := ⟨Nat.pow_pos (by omega), Nat.le_trans (Nat.pow_le_pow_right (by omega) h) (by decide)⟩
theorem lxUn_le {d i : Nat} (hd : d ≤ 5) : lxUn d i ≤ 0 ↔ ¬ i < d := by
  by_cases h : i < d
  · rw [lxUn_t h]
    have := lx_p10 (k := d - 1 - i) (by omega)
    exact ⟨fun q => absurd q (nI_nle this.1 (by omega)), fun q => absurd h q⟩
  · rw [lxUn_f h]
    exact ⟨fun _ => h, fun _ => Int32.le_refl 0⟩
theorem lxUn_s {d i : Nat} (hd : d ≤ 5) (h : i < d) : nI (10 ^ (d - 1 - i)) / 10 = lxUn d (i + 1) := by
  have h1 := lx_p10 (k := d - 1 - i) (by omega)
  show nI (10 ^ (d - 1 - i)) / nI 10 = _
  rw [pk_div (by omega) (by omega) (by omega)]
  by_cases q : i + 1 < d
  · rw [lxUn_t q, show d - 1 - i = (d - 1 - (i + 1)) + 1 by omega, Nat.pow_succ, Nat.mul_div_cancel _ (by omega)]
  · rw [lxUn_f q, show d - 1 - i = 0 by omega]
    rfl
/-- how many digits -/
theorem lx_exit {n k : Nat} (h : n / 10 ^ k ≤ 9) : n < 10 ^ (k + 1) := by
  have hp : 0 < 10 ^ k := Nat.pow_pos (by omega)
  rw [Nat.pow_succ]
  have := Nat.div_add_mod n (10 ^ k)
  have hm := Nat.mod_lt n hp
  have : 10 ^ k * (n / 10 ^ k) ≤ 10 ^ k * 9 := Nat.mul_le_mul_left _ h
  omega
theorem lx_go {n k : Nat} (hn : n < 100000) (hk : k ≤ 4) (h : 9 < n / 10 ^ k) : k < 4 := by
  rcases Nat.lt_or_ge k 4 with q | q
  · exact q
  · have e : k = 4 := by omega
    subst e
    have : n / 10 ^ 4 < 10 := Nat.div_lt_of_lt_mul (by omega)
    omega
theorem lxV_1 (n : Nat) : lxV 1 n = nI n := by
  unfold lxV
  rw [if_neg (by omega), Int32.one_mul]
theorem lxV_2 (n : Nat) : lxV 2 n = -nI n := by
  unfold lxV
  rw [if_pos rfl, Int32.neg_mul, Int32.one_mul]
theorem lx_neg {n : Nat} (h0 : 0 < n) (h : n < 2 ^ 31) : -nI n < 0 := by
  rw [Int32.lt_iff_toInt_lt, Int32.toInt_neg, nI_toInt h, show (0 : Int32).toInt = 0 by decide, Int.bmod_def]
  split <;> omega
