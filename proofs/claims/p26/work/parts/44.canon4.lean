/-! texts: what a text says asks for no more of the row laid before than its parts -/
noncomputable def ftCh {α : Type} (C : Prop) (a b : α) : α := @ite α C (Classical.propDecidable C) a b
theorem ftCh_t {α : Type} {C : Prop} {a b : α} (h : C) : ftCh C a b = a := if_pos h
theorem ftCh_f {α : Type} {C : Prop} {a b : α} (h : ¬ C) : ftCh C a b = b := if_neg h
def ftMeq (m k : Nat → Int32) : Prop := ftMok m ∧ ∀ t, t < 4 + 4 * ftCN m → m t = k t
theorem ftMok_n {m : Nat → Int32} (h : ftMok m) : m 3 = nI (ftCN m) ∧ ftCN m ≤ 10 := by
  obtain ⟨n, h1, h2⟩ := h
  unfold ftCN
  rw [h2, nI_clamp (by omega)]
  exact ⟨rfl, h1⟩
theorem ftMeq_n {m k : Nat → Int32} (h : ftMeq m k) : ftCN m = ftCN k := by unfold ftCN; rw [h.2 3 (by omega)]
theorem ftAl_cong {wd : Int32} {m k : Nat → Int32} {h : Nat} {x : Int32} (e : ftMeq m k) (q : ftAl wd m h x) : ftAl wd k h x := by
  refine ⟨fun a => ⟨(q.1 a).1, by rw [← e.2 3 (by omega)]; exact (q.1 a).2⟩, fun a => ⟨fun r => (q.2 a).1 ?_, by rw [← e.2 3 (by omega)]; exact (q.2 a).2⟩⟩
  obtain ⟨t, h1, h2⟩ := r
  have h1 : t < ftCN k := h1
  rw [← ftMeq_n e] at h1
  exact ⟨t, h1, by rw [e.2 _ (by omega)]; exact h2⟩
theorem ftMeq_sym {m k : Nat → Int32} (h : ftMeq m k) : ftMeq k m := by
  refine ⟨?_, fun t ht => (h.2 t (by rw [ftMeq_n h]; exact ht)).symm⟩
  obtain ⟨n, h1, h2⟩ := h.1
  exact ⟨n, h1, by rw [← h.2 3 (by omega)]; exact h2⟩
theorem ftItOk_1 {tx : Nat → Int32} {tn : Nat} {m k : Nat → Int32} {h p : Nat} (e : ftMeq m k) (q : ftItOk tx tn m h p) : ftItOk tx tn k h p := by
  obtain ⟨a, b, c, d, f⟩ := q
  exact ⟨a, b, fun i hi => by rw [← e.2 0 (by omega)]; exact c i hi, ftAl_cong e d, f⟩
theorem ftPosW_cong {m k : Nat → Int32} {x : Int32} : ∀ n, (∀ t, t < 4 + 4 * n → m t = k t) → ftPosW m x n = ftPosW k x n := by
  intro n
  induction n with
  | zero => intro _; rfl
  | succ n ih =>
    intro h
    rw [ftPosW, ftPosW, h _ (by omega), ih (fun t ht => h t (by omega))]
theorem ftComes_at {w : Nat → Int32} {k t : Nat} {kd x lo re : Int32} (h : t < 4 + 4 * k ∨ 4 + 4 * k + 4 ≤ t) : ftComes w k kd x lo re t = w t := by
  unfold ftComes
  rw [ftUpd_ne (by omega), ftUpd_ne (by omega), ftUpd_ne (by omega), ftUpd_ne (by omega)]
theorem ftComes_in {w u : Nat → Int32} {k t : Nat} {kd x lo re : Int32} (h : 4 + 4 * k ≤ t ∧ t < 4 + 4 * k + 4) : ftComes w k kd x lo re t = ftComes u k kd x lo re t := by
  unfold ftComes upd
  by_cases a : t = 4 + 4 * k + 3
  · rw [if_pos a, if_pos a]
  · rw [if_neg a, if_neg a]
    by_cases b : t = 4 + 4 * k + 2
    · rw [if_pos b, if_pos b]
    · rw [if_neg b, if_neg b]
      by_cases c : t = 4 + 4 * k + 1
      · rw [if_pos c, if_pos c]
      · rw [if_neg c, if_neg c]
        have d : t = 4 + 4 * k + 0 := by omega
        rw [if_pos d, if_pos d]
theorem ftAdd_cong {m k : Nat → Int32} {n : Nat} {kd x lo re : Int32} (h : ∀ t, t < 4 + 4 * n → m t = k t) : ∀ t, t < 4 + 4 * (n + 1) → ftAdd m n kd x lo re t = ftAdd k n kd x lo re t := by
  intro t ht
  have ep := ftPosW_cong (x := x) n h
  have hle := ftPosW_le k x n
  unfold ftAdd
  rw [ep]
  generalize ftPosW k x n = j at hle
  by_cases a : t = 3
  · subst a; rw [ftUpd_at0, ftUpd_at0]
  · rw [ftUpd_ne a, ftUpd_ne a]
    by_cases b : 4 + 4 * j ≤ t ∧ t < 4 + 4 * j + 4
    · exact ftComes_in b
    · rw [ftComes_at (by omega), ftComes_at (by omega)]
      unfold ftShP
      by_cases c : 4 + 4 * j + 4 ≤ t ∧ t < 4 + 4 * n + 4
      · rw [if_pos c, if_pos c]; exact h _ (by omega)
      · rw [if_neg c, if_neg c]; exact h _ (by omega)
theorem ftIw_3 {tx : Nat → Int32} {tn : Nat} {m : Nat → Int32} {h p : Nat} (q : ftItOk tx tn m h p) (h3 : ftIw tx tn p < 3) : (ftIw tx tn p).toNatClampNeg < 3 ∧ ftIw tx tn p = nI (ftIw tx tn p).toNatClampNeg := by
  have h0 := Int32.not_lt.mp q.1
  exact ⟨ftI_lt (N := 3) h0 h3 (by omega), (ftI_nat h0).1⟩
theorem ftItM_cong {tx : Nat → Int32} {tn : Nat} {m k : Nat → Int32} {h p : Nat} (e : ftMeq m k) (q : ftItOk tx tn m h p) : ftMeq (ftItM tx tn m p) (ftItM tx tn k p) := by
  refine ⟨ftItM_ok e.1 q, ?_⟩
  have hn := ftMok_n e.1
  have hk := ftMeq_n e
  unfold ftItM
  rcases Classical.em (ftIw tx tn p < 3) with c | c
  · rw [if_pos c, if_pos c]
    have h3 := (ftIw_3 q c).1
    have ec : ftCN (upd m (ftIw tx tn p).toNatClampNeg (ftIv tx tn p 0)) = ftCN m := by unfold ftCN; rw [ftUpd_ne (by omega)]
    rw [ec]
    intro t ht
    by_cases z : t = (ftIw tx tn p).toNatClampNeg
    · rw [z, ftUpd_at0, ftUpd_at0]
    · rw [ftUpd_ne z, ftUpd_ne z]; exact e.2 t ht
  · rw [if_neg c, if_neg c]
    have en : (m 3).toNatClampNeg = ftCN m := rfl
    have ek : (k 3).toNatClampNeg = ftCN m := hk.symm
    rw [en, ek]
    have hlt : ftCN m < 10 := by
      have := (q.2.2.2.1.2 c).2
      rcases Nat.lt_or_ge (ftCN m) 10 with r | r
      · exact r
      · exact absurd (by rw [hn.1, show ftCN m = 10 by omega]; rfl) this
    have ec : ftCN (ftAdd m (ftCN m) (ftIw tx tn p - 3) (ftIv tx tn p 0) (ftIv tx tn p 1) (if ftIw tx tn p = 4 then ftIv tx tn p 2 else 0)) = ftCN m + 1 := by
      show (ftAdd _ _ _ _ _ _ 3).toNatClampNeg = _
      rw [ftAdd_3, nI_clamp (by omega)]
    rw [ec]
    exact ftAdd_cong e.2
theorem ftPar_cong {tx : Nat → Int32} {tn : Nat} : ∀ (f p h : Nat) (m k : Nat → Int32), ftMeq m k → (ftPar tx tn f p h m = none ∧ ftPar tx tn f p h k = none) ∨ ∃ a b, ftPar tx tn f p h m = some a ∧ ftPar tx tn f p h k = some b ∧ ftMeq a b := by
  intro f
  induction f with
  | zero => intro p h m k e; exact Or.inr ⟨m, k, rfl, rfl, e⟩
  | succ f ih =>
    intro p h m k e
    by_cases c : p < tn
    · have um : ftPar tx tn (f + 1) p h m = ftCh (ftItOk tx tn m h p) (ftPar tx tn f (ftItP tx tn p) (ftItH tx tn h p) (ftItM tx tn m p)) none := by rw [ftPar, if_pos c]; rfl
      have uk : ftPar tx tn (f + 1) p h k = ftCh (ftItOk tx tn k h p) (ftPar tx tn f (ftItP tx tn p) (ftItH tx tn h p) (ftItM tx tn k p)) none := by rw [ftPar, if_pos c]; rfl
      rw [um, uk]
      rcases Classical.em (ftItOk tx tn m h p) with q | q
      · rw [ftCh_t q, ftCh_t (ftItOk_1 e q)]
        exact ih _ _ _ _ (ftItM_cong e q)
      · rw [ftCh_f q, ftCh_f (fun r => q (ftItOk_1 (ftMeq_sym e) r))]
        exact Or.inl ⟨rfl, rfl⟩
    · rw [ftPar, if_neg c, ftPar, if_neg c]
      exact Or.inr ⟨m, k, rfl, rfl, e⟩
theorem ftMd0_eq (m k : Nat → Int32) : ftMeq (ftMd0 m) (ftMd0 k) := by
  have e3 : ftMd0 m 3 = nI 0 := rfl
  have en : ftCN (ftMd0 m) = 0 := by unfold ftCN; rw [e3, nI_clamp (by omega)]
  refine ⟨⟨0, by omega, e3⟩, fun t ht => ?_⟩
  rw [en] at ht
  match t, ht with
  | 0, _ => rfl
  | 1, _ => rfl
  | 2, _ => rfl
  | 3, _ => rfl
noncomputable def ftCPar (tx : Nat → Int32) (tn : Nat) : Option (Nat → Int32) := ftPars tx tn (fun _ => 0)
noncomputable def ftCPm (tx : Nat → Int32) (tn : Nat) : Nat → Int32 := (ftCPar tx tn).getD (fun _ => 0)
theorem ftPars_c (tx : Nat → Int32) (tn : Nat) (md : Nat → Int32) : (ftPars tx tn md = none ↔ ftCPar tx tn = none) ∧ ∀ a, ftPars tx tn md = some a → ftCPar tx tn = some (ftCPm tx tn) ∧ ftMeq a (ftCPm tx tn) := by
  rcases ftPar_cong (tx := tx) (tn := tn) (tn - 0 + 1) 0 0 _ _ (ftMd0_eq md (fun _ => 0)) with ⟨h1, h2⟩ | ⟨a, b, h1, h2, h3⟩
  · have h1 : ftPars tx tn md = none := h1
    have h2 : ftCPar tx tn = none := h2
    exact ⟨⟨fun _ => h2, fun _ => h1⟩, fun a h => by rw [h1] at h; cases h⟩
  · have h1 : ftPars tx tn md = some a := h1
    have h2 : ftCPar tx tn = some b := h2
    refine ⟨⟨fun h => (by rw [h1] at h; cases h), fun h => (by rw [h2] at h; cases h)⟩, fun c h => ?_⟩
    rw [h1] at h
    cases h
    have hm : ftCPm tx tn = b := by unfold ftCPm; rw [h2]; rfl
    rw [hm]
    exact ⟨h2, h3⟩
def ftLayW (w m : Nat → Int32) : Nat → Int32 := fun t => if t < 44 then (if t < 4 + 4 * ftCN m then m t else 0) else w t
theorem ftLayW_cong {w m k : Nat → Int32} (h : ftMeq m k) : ftLayW w m = ftLayW w k := by
  funext t
  unfold ftLayW
  rw [← ftMeq_n h]
  by_cases a : t < 44
  · rw [if_pos a, if_pos a]
    by_cases b : t < 4 + 4 * ftCN m
    · rw [if_pos b, if_pos b, h.2 t b]
    · rw [if_neg b, if_neg b]
  · rw [if_neg a, if_neg a]
/-! what the changes make of a row -/
def ftAdV (w : Nat → Int32) (k x lo re : Int32) : Prop := ((0 ≤ k ∧ k ≤ 2) ∧ (1 ≤ x ∧ x ≤ w 0 - 1) ∧ ((k = 1 ∧ 1 ≤ re ∧ re ≤ 20000) ∨ (¬ k = 1 ∧ re = 0))) ∧ ((if k = 0 then -500 else 0) ≤ lo ∧ lo ≤ (if k = 2 then 50 else 5000))
def ftAdC (w : Nat → Int32) (k x lo re : Int32) : Prop := ftAdV w k x lo re ∧ ftPa w x (ftCN w) < 0 ∧ ¬ w 3 = 10
noncomputable def ftAdA (w : Nat → Int32) (k x lo re : Int32) : Int32 := ftIte (ftAdV w k x lo re) (ftIte (ftPa w x (ftCN w) < 0) (ftIte (w 3 = 10) (-1000003) (nI (ftPosW w x (ftCN w)))) (-1000002)) (-1000001)
def ftShD (u : Nat → Int32) (k j : Nat) : Nat → Int32 := fun t => if 4 + 4 * k ≤ t ∧ t < j then u (t + 4) else u t
theorem ftShD_0 (u : Nat → Int32) (k : Nat) : u = ftShD u k (4 + 4 * k) := funext fun t => (if_neg (by omega)).symm
theorem ftShD_s {u : Nat → Int32} {k j : Nat} (h : 4 + 4 * k ≤ j) : upd (ftShD u k j) j (ftShD u k j (j + 4)) = ftShD u k (j + 1) := by
  have e : ftShD u k j (j + 4) = u (j + 4) := if_neg (by omega)
  rw [e]
  funext t
  unfold upd ftShD
  by_cases q : t = j
  · subst q; rw [if_pos rfl, if_pos (by omega)]
  · rw [if_neg q]
    by_cases r : 4 + 4 * k ≤ t ∧ t < j
    · rw [if_pos r, if_pos (by omega)]
    · rw [if_neg r, if_neg (by omega)]
def ftDel (w : Nat → Int32) (k : Nat) : Nat → Int32 := ftShD (upd w 3 (nI (ftCN w - 1))) k (4 + 4 * (ftCN w - 1))
def ftRmC (w : Nat → Int32) (x : Int32) : Prop := 0 ≤ x ∧ x ≤ w 3 - 1
def ftSetC (x v : Int32) : Prop := (0 ≤ x ∧ x ≤ 10) ∧ ftLeast x ≤ v ∧ v ≤ ftMost x
/-- traces kept: the oldest of three gone, the present one behind -/
def ftShK (f : Nat → Int32) (j : Nat) : Nat → Int32 := fun t => if 59 ≤ t ∧ t < j then f (t + 460) else f t
theorem ftShK_0 (f : Nat → Int32) : f = ftShK f 59 := funext fun t => (if_neg (by omega)).symm
theorem ftShK_s {f : Nat → Int32} {j : Nat} (h : 59 ≤ j) : upd (ftShK f j) j (ftShK f j (j + 460)) = ftShK f (j + 1) := by
  have e : ftShK f j (j + 460) = f (j + 460) := if_neg (by omega)
  rw [e]
  funext t
  unfold upd ftShK
  by_cases q : t = j
  · subst q; rw [if_pos rfl, if_pos (by omega)]
  · rw [if_neg q]
    by_cases r : 59 ≤ t ∧ t < j
    · rw [if_pos r, if_pos (by omega)]
    · rw [if_neg r, if_neg (by omega)]
def ftKs (w : Nat → Int32) : Nat → Int32 := if ftCK w = 3 then upd (ftShK (upd (upd w 56 (w 57)) 57 (w 58)) 979) 55 2 else w
def ftKk (w : Nat → Int32) : Nat := if ftCK w = 3 then 2 else ftCK w
def ftKeep (w : Nat → Int32) : Nat → Int32 := upd (upd (ftSeg (ftCV w) (ftKs w) (59 + 460 * ftKk w) (ftCL w + 60)) (56 + ftKk w) (nI (ftCL w + 60))) 55 (nI (ftKk w + 1))
theorem ftSeg_cong {g k f : Nat → Int32} {o X : Nat} (h : ∀ x, x < X → g x = k x) : ftSeg g f o X = ftSeg k f o X := by
  funext t
  unfold ftSeg
  by_cases q : o ≤ t ∧ t < o + X
  · rw [if_pos q, if_pos q, h _ (by omega)]
  · rw [if_neg q, if_neg q]
theorem ftSeg_lo {g f : Nat → Int32} {o X t : Nat} (h : t < o) : ftSeg g f o X t = f t := if_neg (by omega)
theorem ftKs_lo {w : Nat → Int32} {t : Nat} (h : t < 55) : ftKs w t = w t := by
  unfold ftKs
  by_cases q : ftCK w = 3
  · rw [if_pos q, ftUpd_ne (by omega)]
    unfold ftShK
    rw [if_neg (by omega), ftUpd_ne (by omega), ftUpd_ne (by omega)]
  · rw [if_neg q]
