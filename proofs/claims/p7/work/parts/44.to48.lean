section
/-! texts: what a text says asks for no more of the row laid before than its parts -/
noncomputable def ftCh {α : Type} (C : Prop) (a b : α) : α := @ite α C (Classical.propDecidable C) a b
theorem ftCh_t {α : Type} {C : Prop} {a b : α} (h : C) : ftCh C a b = a := if_pos h
theorem ftCh_f {α : Type} {C : Prop} {a b : α} (h : ¬ C) : ftCh C a b = b := if_neg h
def ftMeq (m k : Nat → Int32) : Prop := ftMok m ∧ ∀ t, t < 4 + 4 * ftCN m → m t = k t
theorem ftMok_n {m : Nat → Int32} (h : ftMok m) : m 3 = nI (ftCN m) ∧ ftCN m ≤ 10 := by
  obtain ⟨n, h1, h2⟩ := h
  unfold ftCN
  rw [h2, nI_clamp (by omega)]
  exact ⟨rfl, h1⟩
theorem ftMeq_n {m k : Nat → Int32} (h : ftMeq m k) : ftCN m = ftCN k := by unfold ftCN; rw [h.2 3 (by omega)]
theorem ftAl_cong {wd : Int32} {m k : Nat → Int32} {h : Nat} {x : Int32} (e : ftMeq m k) (q : ftAl wd m h x) : ftAl wd k h x := by
  refine ⟨fun a => ⟨(q.1 a).1, by rw [← e.2 3 (by omega)]; exact (q.1 a).2⟩, fun a => ⟨fun r => (q.2 a).1 ?_, by rw [← e.2 3 (by omega)]; exact (q.2 a).2⟩⟩
  obtain ⟨t, h1, h2⟩ := r
  have h1 : t < ftCN k := h1
  rw [← ftMeq_n e] at h1
  exact ⟨t, h1, by rw [e.2 _ (by omega)]; exact h2⟩
theorem ftMeq_sym {m k : Nat → Int32} (h : ftMeq m k) : ftMeq k m := by
  refine ⟨?_, fun t ht => (h.2 t (by rw [ftMeq_n h]; exact ht)).symm⟩
  obtain ⟨n, h1, h2⟩ := h.1
  exact ⟨n, h1, by rw [← h.2 3 (by omega)]; exact h2⟩
theorem ftItOk_1 {tx : Nat → Int32} {tn : Nat} {m k : Nat → Int32} {h p : Nat} (e : ftMeq m k) (q : ftItOk tx tn m h p) : ftItOk tx tn k h p := by
  obtain ⟨a, b, c, d, f⟩ := q
  exact ⟨a, b, fun i hi => by rw [← e.2 0 (by omega)]; exact c i hi, ftAl_cong e d, f⟩
theorem ftPosW_cong {m k : Nat → Int32} {x : Int32} : ∀ n, (∀ t, t < 4 + 4 * n → m t = k t) → ftPosW m x n = ftPosW k x n := by
  intro n
  induction n with
  | zero => intro _; rfl
  | succ n ih =>
    intro h
    rw [ftPosW, ftPosW, h _ (by omega), ih (fun t ht => h t (by omega))]
theorem ftComes_at {w : Nat → Int32} {k t : Nat} {kd x lo re : Int32} (h : t < 4 + 4 * k ∨ 4 + 4 * k + 4 ≤ t) : ftComes w k kd x lo re t = w t := by
  unfold ftComes
  rw [ftUpd_ne (by omega), ftUpd_ne (by omega), ftUpd_ne (by omega), ftUpd_ne (by omega)]
theorem ftComes_in {w u : Nat → Int32} {k t : Nat} {kd x lo re : Int32} (h : 4 + 4 * k ≤ t ∧ t < 4 + 4 * k + 4) : ftComes w k kd x lo re t = ftComes u k kd x lo re t := by
  unfold ftComes upd
  by_cases a : t = 4 + 4 * k + 3
  · rw [if_pos a, if_pos a]
  · rw [if_neg a, if_neg a]
    by_cases b : t = 4 + 4 * k + 2
    · rw [if_pos b, if_pos b]
    · rw [if_neg b, if_neg b]
      by_cases c : t = 4 + 4 * k + 1
      · rw [if_pos c, if_pos c]
      · rw [if_neg c, if_neg c]
        have d : t = 4 + 4 * k + 0 := by omega
        rw [if_pos d, if_pos d]
theorem ftAdd_cong {m k : Nat → Int32} {n : Nat} {kd x lo re : Int32} (h : ∀ t, t < 4 + 4 * n → m t = k t) : ∀ t, t < 4 + 4 * (n + 1) → ftAdd m n kd x lo re t = ftAdd k n kd x lo re t := by
  intro t ht
  have ep := ftPosW_cong (x := x) n h
  have hle := ftPosW_le k x n
  unfold ftAdd
  rw [ep]
  generalize ftPosW k x n = j at hle
  by_cases a : t = 3
  · subst a; rw [ftUpd_at0, ftUpd_at0]
  · rw [ftUpd_ne a, ftUpd_ne a]
    by_cases b : 4 + 4 * j ≤ t ∧ t < 4 + 4 * j + 4
    · exact ftComes_in b
    · rw [ftComes_at (by omega), ftComes_at (by omega)]
      unfold ftShP
      by_cases c : 4 + 4 * j + 4 ≤ t ∧ t < 4 + 4 * n + 4
      · rw [if_pos c, if_pos c]; exact h _ (by omega)
      · rw [if_neg c, if_neg c]; exact h _ (by omega)
theorem ftIw_3 {tx : Nat → Int32} {tn : Nat} {m : Nat → Int32} {h p : Nat} (q : ftItOk tx tn m h p) (h3 : ftIw tx tn p < 3) : (ftIw tx tn p).toNatClampNeg < 3 ∧ ftIw tx tn p = nI (ftIw tx tn p).toNatClampNeg := by
  have h0 := Int32.not_lt.mp q.1
  exact ⟨ftI_lt (N := 3) h0 h3 (by omega), (ftI_nat h0).1⟩
theorem ftItM_cong {tx : Nat → Int32} {tn : Nat} {m k : Nat → Int32} {h p : Nat} (e : ftMeq m k) (q : ftItOk tx tn m h p) : ftMeq (ftItM tx tn m p) (ftItM tx tn k p) := by
  refine ⟨ftItM_ok e.1 q, ?_⟩
  have hn := ftMok_n e.1
  have hk := ftMeq_n e
  unfold ftItM
  rcases Classical.em (ftIw tx tn p < 3) with c | c
  · rw [if_pos c, if_pos c]
    have h3 := (ftIw_3 q c).1
    have ec : ftCN (upd m (ftIw tx tn p).toNatClampNeg (ftIv tx tn p 0)) = ftCN m := by unfold ftCN; rw [ftUpd_ne (by omega)]
    rw [ec]
    intro t ht
    by_cases z : t = (ftIw tx tn p).toNatClampNeg
    · rw [z, ftUpd_at0, ftUpd_at0]
    · rw [ftUpd_ne z, ftUpd_ne z]; exact e.2 t ht
  · rw [if_neg c, if_neg c]
    have en : (m 3).toNatClampNeg = ftCN m := rfl
    have ek : (k 3).toNatClampNeg = ftCN m := hk.symm
    rw [en, ek]
    have hlt : ftCN m < 10 := by
      have := (q.2.2.2.1.2 c).2
      rcases Nat.lt_or_ge (ftCN m) 10 with r | r
      · exact r
      · exact absurd (by rw [hn.1, show ftCN m = 10 by omega]; rfl) this
    have ec : ftCN (ftAdd m (ftCN m) (ftIw tx tn p - 3) (ftIv tx tn p 0) (ftIv tx tn p 1) (if ftIw tx tn p = 4 then ftIv tx tn p 2 else 0)) = ftCN m + 1 := by
      show (ftAdd _ _ _ _ _ _ 3).toNatClampNeg = _
      rw [ftAdd_3, nI_clamp (by omega)]
    rw [ec]
    exact ftAdd_cong e.2
theorem ftPar_cong {tx : Nat → Int32} {tn : Nat} : ∀ (f p h : Nat) (m k : Nat → Int32), ftMeq m k → (ftPar tx tn f p h m = none ∧ ftPar tx tn f p h k = none) ∨ ∃ a b, ftPar tx tn f p h m = some a ∧ ftPar tx tn f p h k = some b ∧ ftMeq a b := by
  intro f
  induction f with
  | zero => intro p h m k e; exact Or.inr ⟨m, k, rfl, rfl, e⟩
  | succ f ih =>
    intro p h m k e
    by_cases c : p < tn
    · have um : ftPar tx tn (f + 1) p h m = ftCh (ftItOk tx tn m h p) (ftPar tx tn f (ftItP tx tn p) (ftItH tx tn h p) (ftItM tx tn m p)) none := by rw [ftPar, if_pos c]; rfl
      have uk : ftPar tx tn (f + 1) p h k = ftCh (ftItOk tx tn k h p) (ftPar tx tn f (ftItP tx tn p) (ftItH tx tn h p) (ftItM tx tn k p)) none := by rw [ftPar, if_pos c]; rfl
      rw [um, uk]
      rcases Classical.em (ftItOk tx tn m h p) with q | q
      · rw [ftCh_t q, ftCh_t (ftItOk_1 e q)]
        exact ih _ _ _ _ (ftItM_cong e q)
      · rw [ftCh_f q, ftCh_f (fun r => q (ftItOk_1 (ftMeq_sym e) r))]
        exact Or.inl ⟨rfl, rfl⟩
    · rw [ftPar, if_neg c, ftPar, if_neg c]
      exact Or.inr ⟨m, k, rfl, rfl, e⟩
theorem ftMd0_eq (m k : Nat → Int32) : ftMeq (ftMd0 m) (ftMd0 k) := by
  have e3 : ftMd0 m 3 = nI 0 := rfl
  have en : ftCN (ftMd0 m) = 0 := by unfold ftCN; rw [e3, nI_clamp (by omega)]
  refine ⟨⟨0, by omega, e3⟩, fun t ht => ?_⟩
  rw [en] at ht
  match t, ht with
  | 0, _ => rfl
  | 1, _ => rfl
  | 2, _ => rfl
  | 3, _ => rfl
noncomputable def ftCPar (tx : Nat → Int32) (tn : Nat) : Option (Nat → Int32) := ftPars tx tn (fun _ => 0)
noncomputable def ftCPm (tx : Nat → Int32) (tn : Nat) : Nat → Int32 := (ftCPar tx tn).getD (fun _ => 0)
theorem ftPars_c (tx : Nat → Int32) (tn : Nat) (md : Nat → Int32) : (ftPars tx tn md = none ↔ ftCPar tx tn = none) ∧ ∀ a, ftPars tx tn md = some a → ftCPar tx tn = some (ftCPm tx tn) ∧ ftMeq a (ftCPm tx tn) := by
  rcases ftPar_cong (tx := tx) (tn := tn) (tn - 0 + 1) 0 0 _ _ (ftMd0_eq md (fun _ => 0)) with ⟨h1, h2⟩ | ⟨a, b, h1, h2, h3⟩
  · have h1 : ftPars tx tn md = none := h1
    have h2 : ftCPar tx tn = none := h2
    exact ⟨⟨fun _ => h2, fun _ => h1⟩, fun a h => by rw [h1] at h; cases h⟩
  · have h1 : ftPars tx tn md = some a := h1
    have h2 : ftCPar tx tn = some b := h2
    refine ⟨⟨fun h => (by rw [h1] at h; cases h), fun h => (by rw [h2] at h; cases h)⟩, fun c h => ?_⟩
    rw [h1] at h
    cases h
    have hm : ftCPm tx tn = b := by unfold ftCPm; rw [h2]; rfl
    rw [hm]
    exact ⟨h2, h3⟩
def ftLayW (w m : Nat → Int32) : Nat → Int32 := fun t => if t < 44 then (if t < 4 + 4 * ftCN m then m t else 0) else w t
theorem ftLayW_cong {w m k : Nat → Int32} (h : ftMeq m k) : ftLayW w m = ftLayW w k := by
  funext t
  unfold ftLayW
  rw [← ftMeq_n h]
  by_cases a : t < 44
  · rw [if_pos a, if_pos a]
    by_cases b : t < 4 + 4 * ftCN m
    · rw [if_pos b, if_pos b, h.2 t b]
    · rw [if_neg b, if_neg b]
  · rw [if_neg a, if_neg a]
/-! what the changes make of a row -/
def ftAdV (w : Nat → Int32) (k x lo re : Int32) : Prop := ((0 ≤ k ∧ k ≤ 2) ∧ (1 ≤ x ∧ x ≤ w 0 - 1) ∧ ((k = 1 ∧ 1 ≤ re ∧ re ≤ 20000) ∨ (¬ k = 1 ∧ re = 0))) ∧ ((if k = 0 then -500 else 0) ≤ lo ∧ lo ≤ (if k = 2 then 50 else 5000))
def ftAdC (w : Nat → Int32) (k x lo re : Int32) : Prop := ftAdV w k x lo re ∧ ftPa w x (ftCN w) < 0 ∧ ¬ w 3 = 10
noncomputable def ftAdA (w : Nat → Int32) (k x lo re : Int32) : Int32 := ftIte (ftAdV w k x lo re) (ftIte (ftPa w x (ftCN w) < 0) (ftIte (w 3 = 10) (-1000003) (nI (ftPosW w x (ftCN w)))) (-1000002)) (-1000001)
def ftShD (u : Nat → Int32) (k j : Nat) : Nat → Int32 := fun t => if 4 + 4 * k ≤ t ∧ t < j then u (t + 4) else u t
theorem ftShD_0 (u : Nat → Int32) (k : Nat) : u = ftShD u k (4 + 4 * k) := funext fun t => (if_neg (by omega)).symm
theorem ftShD_s {u : Nat → Int32} {k j : Nat} (h : 4 + 4 * k ≤ j) : upd (ftShD u k j) j (ftShD u k j (j + 4)) = ftShD u k (j + 1) := by
  have e : ftShD u k j (j + 4) = u (j + 4) := if_neg (by omega)
  rw [e]
  funext t
  unfold upd ftShD
  by_cases q : t = j
  · subst q; rw [if_pos rfl, if_pos (by omega)]
  · rw [if_neg q]
    by_cases r : 4 + 4 * k ≤ t ∧ t < j
    · rw [if_pos r, if_pos (by omega)]
    · rw [if_neg r, if_neg (by omega)]
def ftDel (w : Nat → Int32) (k : Nat) : Nat → Int32 := ftShD (upd w 3 (nI (ftCN w - 1))) k (4 + 4 * (ftCN w - 1))
def ftRmC (w : Nat → Int32) (x : Int32) : Prop := 0 ≤ x ∧ x ≤ w 3 - 1
def ftSetC (x v : Int32) : Prop := (0 ≤ x ∧ x ≤ 10) ∧ ftLeast x ≤ v ∧ v ≤ ftMost x
/-- traces kept: the oldest of three gone, the present one behind -/
def ftShK (f : Nat → Int32) (j : Nat) : Nat → Int32 := fun t => if 59 ≤ t ∧ t < j then f (t + 460) else f t
theorem ftShK_0 (f : Nat → Int32) : f = ftShK f 59 := funext fun t => (if_neg (by omega)).symm
theorem ftShK_s {f : Nat → Int32} {j : Nat} (h : 59 ≤ j) : upd (ftShK f j) j (ftShK f j (j + 460)) = ftShK f (j + 1) := by
  have e : ftShK f j (j + 460) = f (j + 460) := if_neg (by omega)
  rw [e]
  funext t
  unfold upd ftShK
  by_cases q : t = j
  · subst q; rw [if_pos rfl, if_pos (by omega)]
  · rw [if_neg q]
    by_cases r : 59 ≤ t ∧ t < j
    · rw [if_pos r, if_pos (by omega)]
    · rw [if_neg r, if_neg (by omega)]
def ftKs (w : Nat → Int32) : Nat → Int32 := if ftCK w = 3 then upd (ftShK (upd (upd w 56 (w 57)) 57 (w 58)) 979) 55 2 else w
def ftKk (w : Nat → Int32) : Nat := if ftCK w = 3 then 2 else ftCK w
def ftKeep (w : Nat → Int32) : Nat → Int32 := upd (upd (ftSeg (ftCV w) (ftKs w) (59 + 460 * ftKk w) (ftCL w + 60)) (56 + ftKk w) (nI (ftCL w + 60))) 55 (nI (ftKk w + 1))
theorem ftSeg_cong {g k f : Nat → Int32} {o X : Nat} (h : ∀ x, x < X → g x = k x) : ftSeg g f o X = ftSeg k f o X := by
  funext t
  unfold ftSeg
  by_cases q : o ≤ t ∧ t < o + X
  · rw [if_pos q, if_pos q, h _ (by omega)]
  · rw [if_neg q, if_neg q]
theorem ftSeg_lo {g f : Nat → Int32} {o X t : Nat} (h : t < o) : ftSeg g f o X t = f t := if_neg (by omega)
theorem ftKs_lo {w : Nat → Int32} {t : Nat} (h : t < 55) : ftKs w t = w t := by
  unfold ftKs
  by_cases q : ftCK w = 3
  · rw [if_pos q, ftUpd_ne (by omega)]
    unfold ftShK
    rw [if_neg (by omega), ftUpd_ne (by omega), ftUpd_ne (by omega)]
  · rw [if_neg q]
end
section
set_option maxHeartbeats 4000000 in
set_option maxRecDepth 100000 in
theorem c_X11_addPart (l : Launch) (D : va_G) (cI cS : ClassId) (sz : Nat) (m0 p0 p1 p3 p5 p10 p12 p13 p14 p16 p17 p19 p20 p21 p22 p25 p26 p27 p28 p29 p30 p31 p32 : Nat) (i4 i6 i7 i8 i9 i11 i15 i18 i23 i24 : Int32) (w z : Nat → Int32) (hm : Nat) (kq pq lq rq : Int32) (hwf : ftWf w) (hhm : hm ≤ 5) : Met l yX11_addPart wsX11_addPart ({ frames := 2, cells := 0, slots := 0, locals := 45 }) (ftRW D cI cS [.ref m0, .int kq, .int pq, .int lq, .int rq] [(m0, .inr (11, [.ref p0, .ref p1, .int (nI hm), .ref p3, .int i4, .ref p5, .int i6, .int i7, .int i8, .int i9, .ref p10, .int i11, .ref p12, .ref p13, .ref p14, .int i15, .ref p16, .ref p17, .int i18, .ref p19, .ref p20, .ref p21, .ref p22, .int i23, .int i24, .ref p25, .ref p26, .ref p27, .ref p28, .ref p29, .ref p30, .ref p31, .ref p32])), (p0, .inl (cI, 1439, .inl w)), (p1, .inl (cI, 7195, .inl z))] sz) (ftQi D (ftAdA w kq pq lq rq) [(m0, .inr (11, [.ref p0, .ref p1, .int (nI hm), .ref p3, .int i4, .ref p5, .int i6, .int i7, .int i8, .int i9, .ref p10, .int i11, .ref p12, .ref p13, .ref p14, .int i15, .ref p16, .ref p17, .int i18, .ref p19, .ref p20, .ref p21, .ref p22, .int i23, .int i24, .ref p25, .ref p26, .ref p27, .ref p28, .ref p29, .ref p30, .ref p31, .ref p32])), (p0, .inl (cI, 1439, .inl w)), (p1, .inl (cI, 7195, .inl z))] [(m0, .inr (11, [.ref p0, .ref p1, .int (nI (ftCh (ftAdC w kq pq lq rq) (min (hm + 1) 5) hm)), .ref p3, .int i4, .ref p5, .int i6, .int i7, .int i8, .int i9, .ref p10, .int i11, .ref p12, .ref p13, .ref p14, .int i15, .ref p16, .ref p17, .int i18, .ref p19, .ref p20, .ref p21, .ref p22, .int i23, .int i24, .ref p25, .ref p26, .ref p27, .ref p28, .ref p29, .ref p30, .ref p31, .ref p32])), (p0, .inl (cI, 1439, .inl (ftCh (ftAdC w kq pq lq rq) (ftAdd w (ftCN w) kq pq lq rq) w))), (p1, .inl (cI, 7195, .inl (ftCh (ftAdC w kq pq lq rq) (ftPush w z hm) z)))] sz) 0 0 (va_A [(m0, .inr (11, [.ref p0, .ref p1, .int (nI hm), .ref p3, .int i4, .ref p5, .int i6, .int i7, .int i8, .int i9, .ref p10, .int i11, .ref p12, .ref p13, .ref p14, .int i15, .ref p16, .ref p17, .int i18, .ref p19, .ref p20, .ref p21, .ref p22, .int i23, .int i24, .ref p25, .ref p26, .ref p27, .ref p28, .ref p29, .ref p30, .ref p31, .ref p32])), (p0, .inl (cI, 1439, .inl w)), (p1, .inl (cI, 7195, .inl z))] sz) := by
  refine Met.ofW (cc := cX11_addPart) (maxL := 6) (ret := (some .int)) (by decide) rfl ?_
  intro p e s m args below meth c s₁ B hml hv
  obtain ⟨rfl, hsz, hP, hKK, hD0⟩ := hv
  have hK := hKK.1
  have hx := B.exec
  have hb := B.bytes
  have hr := B.returns
  have hts := atoms_spec (ws := wsX11_addPart) B.pre
  have hown : s.vm.findClass RX11 = some m.cls := findClass_of_methodNamed B.named
  have hlocks := B.notSynchronized
  subst hsz
  have hD := hD0.self (sz := s.heap.size)
  generalize hAe : va_A [(m0, .inr (11, [.ref p0, .ref p1, .int (nI hm), .ref p3, .int i4, .ref p5, .int i6, .int i7, .int i8, .int i9, .ref p10, .int i11, .ref p12, .ref p13, .ref p14, .int i15, .ref p16, .ref p17, .int i18, .ref p19, .ref p20, .ref p21, .ref p22, .int i23, .int i24, .ref p25, .ref p26, .ref p27, .ref p28, .ref p29, .ref p30, .ref p31, .ref p32])), (p0, .inl (cI, 1439, .inl w)), (p1, .inl (cI, 7195, .inl z))] s.heap.size = A at hD ⊢
  have hA : ∀ q : Nat, s.heap.size ≤ q → A q := fun q h => by rw [← hAe]; exact Or.inr h
  have hS : va_S A s.heap s.heap [] := va_S.rf
  have hD : va_D A [(m0, .inr (11, [.ref p0, .ref p1, .int (nI hm), .ref p3, .int i4, .ref p5, .int i6, .int i7, .int i8, .int i9, .ref p10, .int i11, .ref p12, .ref p13, .ref p14, .int i15, .ref p16, .ref p17, .int i18, .ref p19, .ref p20, .ref p21, .ref p22, .int i23, .int i24, .ref p25, .ref p26, .ref p27, .ref p28, .ref p29, .ref p30, .ref p31, .ref p32])), (p0, .inl (cI, 1439, .inl w)), (p1, .inl (cI, 7195, .inl z))] := hD
  have hP : va_P D vwCl [(m0, .inr (11, [.ref p0, .ref p1, .int (nI hm), .ref p3, .int i4, .ref p5, .int i6, .int i7, .int i8, .int i9, .ref p10, .int i11, .ref p12, .ref p13, .ref p14, .int i15, .ref p16, .ref p17, .int i18, .ref p19, .ref p20, .ref p21, .ref p22, .int i23, .int i24, .ref p25, .ref p26, .ref p27, .ref p28, .ref p29, .ref p30, .ref p31, .ref p32])), (p0, .inl (cI, 1439, .inl w)), (p1, .inl (cI, 7195, .inl z))] s.heap := hP
  have hl := lv_entry ([.ref m0, .int kq, .int pq, .int lq, .int rq]) (n := 6) (Nat.le_of_ble_eq_true rfl)
  rw [lg_entry_eq]
  generalize (lg_sl ([.ref m0, .int kq, .int pq, .int lq, .int rq]) ++ List.replicate (6 - (lg_sl ([.ref m0, .int kq, .int pq, .int lq, .int rq])).length) Slot.unset).toArray = ls at hl ⊢
  have hl : lv_has ls 6 [(0, .ref m0), (1, .int kq), (2, .int pq), (3, .int lq), (4, .int rq)] := hl
  have hw3 := ftWf_3 hwf
  have hn := ftWf_n hwf
  have hw0 := ftWf_0 hwf
  have hln := ftWf_ln hwf
  have hlg := ftWf_lg hwf
  refine lv_iload_n hx hb dX11_addPart_0 rfl (lv_at hl 1 rfl) ?_
  refine lv_i2l (v := kq.toInt64) hx hb dX11_addPart_1 rfl ?_
  refine lv_lconst (v := 0) hx hb dX11_addPart_2 (by decide) ?_
  refine lv_ldc2 (v := 2) hx hb hown (hts (.constantLong RX11 167 2) (by decide +kernel)) dX11_addPart_3 ?_
  refine ft_csi (r := ftB (0 ≤ kq.toInt64 ∧ kq.toInt64 ≤ 2)) (va_runS (As := [.long kq.toInt64, .long 0, .long 2]) (rest := []) ⟨hx, hb, hml, hown, hts⟩ (c_X11_in l D cI cS kq.toInt64 0 2) (va_cwS 3 hts gX11_addPart_X11_in rfl rfl rfl (by decide +kernel) ⟨Nat.le_of_ble_eq_true rfl, Nat.le_of_ble_eq_true rfl⟩) (ft_preRO hP hKK [] rfl) rfl rfl hl.1 rfl (lv_room (Nat.le_of_ble_eq_true rfl)) dX11_addPart_6 ⟨Nat.le_of_ble_eq_true rfl, Nat.le_of_ble_eq_true rfl⟩) ?_
  refine ft_top (y := ftB (0 ≤ kq ∧ kq ≤ 2)) (ft_in64 (by decide) (by decide)) ?_
  refine lv_if_eq (tgt := 60) hx hb dX11_addPart_9 (by decide) (fun c9 => ?_) (fun c9 => ?_)
  · replace c9 := ftB_eq c9
    have hno : ¬ ftAdV w kq pq lq rq := fun q => c9 q.1.1
    refine lv_iconst (v := 0) hx hb dX11_addPart_60 (by decide) ?_
    refine lv_istore (lv' := [(5, .int 0), (0, .ref m0), (1, .int kq), (2, .int pq), (3, .int lq), (4, .int rq)]) hx hb dX11_addPart_61 hl (by decide) rfl (fun ls hl => ?_)
    refine lv_iload hx hb dX11_addPart_63 (lv_at hl 0 rfl) ?_
    refine lv_if_eq (tgt := 101) hx hb dX11_addPart_65 (by decide) (fun c65 => ?_) (fun c65 => ?_)
    · have hC : ¬ ftAdC w kq pq lq rq := fun q => hno q.1
      refine lv_ldc (v := (-1000001)) hx hb hown (hts (.constant RX11 95 (-1000001)) (by decide +kernel)) dX11_addPart_101 ?_
      have hw9 : ([(m0, .inr (11, [.ref p0, .ref p1, .int (nI hm), .ref p3, .int i4, .ref p5, .int i6, .int i7, .int i8, .int i9, .ref p10, .int i11, .ref p12, .ref p13, .ref p14, .int i15, .ref p16, .ref p17, .int i18, .ref p19, .ref p20, .ref p21, .ref p22, .int i23, .int i24, .ref p25, .ref p26, .ref p27, .ref p28, .ref p29, .ref p30, .ref p31, .ref p32])), (p0, .inl (cI, 1439, .inl w)), (p1, .inl (cI, 7195, .inl z))] : va_W) = [(m0, .inr (11, [.ref p0, .ref p1, .int (nI (ftCh (ftAdC w kq pq lq rq) (min (hm + 1) 5) hm)), .ref p3, .int i4, .ref p5, .int i6, .int i7, .int i8, .int i9, .ref p10, .int i11, .ref p12, .ref p13, .ref p14, .int i15, .ref p16, .ref p17, .int i18, .ref p19, .ref p20, .ref p21, .ref p22, .int i23, .int i24, .ref p25, .ref p26, .ref p27, .ref p28, .ref p29, .ref p30, .ref p31, .ref p32])), (p0, .inl (cI, 1439, .inl (ftCh (ftAdC w kq pq lq rq) (ftAdd w (ftCN w) kq pq lq rq) w))), (p1, .inl (cI, 7195, .inl (ftCh (ftAdC w kq pq lq rq) (ftPush w z hm) z)))] := by rw [ftCh_f hC, ftCh_f hC, ftCh_f hC]
      rw [hw9] at hP hD
      exact W.iret (v := (-1000001)) hx hb hr (fun t ht hW => ⟨⟨(-1000001), (), rfl, (by show ((-1000001) : Int32) = ftAdA w kq pq lq rq; rw [ftAdA, ftIte_f hno]), by rw [ht]; exact hP, by rw [hAe]; exact hD⟩, by rw [hAe]; exact hS.F ht⟩) hS.2.2 dX11_addPart_103
    · exact absurd rfl c65
  · replace c9 := ftB_ne c9
    refine lv_iload_n hx hb dX11_addPart_12 rfl (lv_at hl 2 rfl) ?_
    refine lv_i2l (v := pq.toInt64) hx hb dX11_addPart_13 rfl ?_
    refine lv_lconst (v := 1) hx hb dX11_addPart_14 (by decide) ?_
    refine lv_aload_n hx hb dX11_addPart_15 rfl (lv_at hl 0 rfl) ?_
    refine va_get (D := D) (ci := 11) (v := .ref p0) (C := RX11) (T := TX11) (N := 33) hx hb hts (by decide +kernel) hown hK hP 0 rfl rfl 0 (by decide) (hts (.fieldLink RX11 7 "FiberTraceModel" "now" "[I") (by decide +kernel)) (fun _ h9 => h9) rfl dX11_addPart_16 ?_
    refine lv_iconst (v := 0) hx hb dX11_addPart_19 (by decide) ?_
    refine va_iald hx hb hK hP 1 0 rfl rfl (vp_in_nI (n := 0) (by omega) (by omega)) dX11_addPart_20 ?_
    refine ft_top (y := w 0) rfl ?_
    refine lv_iconst (v := 1) hx hb dX11_addPart_21 (by decide) ?_
    refine lv_isub hx hb dX11_addPart_22 ?_
    refine lv_i2l (v := ((w 0) - 1).toInt64) hx hb dX11_addPart_23 rfl ?_
    refine ft_csi (r := ftB (1 ≤ pq.toInt64 ∧ pq.toInt64 ≤ (((w 0) - 1).toInt64))) (va_runS (As := [.long pq.toInt64, .long 1, .long (((w 0) - 1).toInt64)]) (rest := []) ⟨hx, hb, hml, hown, hts⟩ (c_X11_in l D cI cS pq.toInt64 1 (((w 0) - 1).toInt64)) (va_cwS 3 hts gX11_addPart_X11_in rfl rfl rfl (by decide +kernel) ⟨Nat.le_of_ble_eq_true rfl, Nat.le_of_ble_eq_true rfl⟩) (ft_preRO hP hKK [] rfl) rfl rfl hl.1 rfl (lv_room (Nat.le_of_ble_eq_true rfl)) dX11_addPart_24 ⟨Nat.le_of_ble_eq_true rfl, Nat.le_of_ble_eq_true rfl⟩) ?_
    refine ft_top (y := ftB (1 ≤ pq ∧ pq ≤ ((w 0) - 1))) (ft_in64 (by decide) (Int32.toInt_toInt64 _)) ?_
    refine lv_if_eq (tgt := 60) hx hb dX11_addPart_27 (by decide) (fun c27 => ?_) (fun c27 => ?_)
    · replace c27 := ftB_eq c27
      have hno : ¬ ftAdV w kq pq lq rq := fun q => c27 q.1.2.1
      refine lv_iconst (v := 0) hx hb dX11_addPart_60 (by decide) ?_
      refine lv_istore (lv' := [(5, .int 0), (0, .ref m0), (1, .int kq), (2, .int pq), (3, .int lq), (4, .int rq)]) hx hb dX11_addPart_61 hl (by decide) rfl (fun ls hl => ?_)
      refine lv_iload hx hb dX11_addPart_63 (lv_at hl 0 rfl) ?_
      refine lv_if_eq (tgt := 101) hx hb dX11_addPart_65 (by decide) (fun c65 => ?_) (fun c65 => ?_)
      · have hC : ¬ ftAdC w kq pq lq rq := fun q => hno q.1
        refine lv_ldc (v := (-1000001)) hx hb hown (hts (.constant RX11 95 (-1000001)) (by decide +kernel)) dX11_addPart_101 ?_
        have hw9 : ([(m0, .inr (11, [.ref p0, .ref p1, .int (nI hm), .ref p3, .int i4, .ref p5, .int i6, .int i7, .int i8, .int i9, .ref p10, .int i11, .ref p12, .ref p13, .ref p14, .int i15, .ref p16, .ref p17, .int i18, .ref p19, .ref p20, .ref p21, .ref p22, .int i23, .int i24, .ref p25, .ref p26, .ref p27, .ref p28, .ref p29, .ref p30, .ref p31, .ref p32])), (p0, .inl (cI, 1439, .inl w)), (p1, .inl (cI, 7195, .inl z))] : va_W) = [(m0, .inr (11, [.ref p0, .ref p1, .int (nI (ftCh (ftAdC w kq pq lq rq) (min (hm + 1) 5) hm)), .ref p3, .int i4, .ref p5, .int i6, .int i7, .int i8, .int i9, .ref p10, .int i11, .ref p12, .ref p13, .ref p14, .int i15, .ref p16, .ref p17, .int i18, .ref p19, .ref p20, .ref p21, .ref p22, .int i23, .int i24, .ref p25, .ref p26, .ref p27, .ref p28, .ref p29, .ref p30, .ref p31, .ref p32])), (p0, .inl (cI, 1439, .inl (ftCh (ftAdC w kq pq lq rq) (ftAdd w (ftCN w) kq pq lq rq) w))), (p1, .inl (cI, 7195, .inl (ftCh (ftAdC w kq pq lq rq) (ftPush w z hm) z)))] := by rw [ftCh_f hC, ftCh_f hC, ftCh_f hC]
        rw [hw9] at hP hD
        exact W.iret (v := (-1000001)) hx hb hr (fun t ht hW => ⟨⟨(-1000001), (), rfl, (by show ((-1000001) : Int32) = ftAdA w kq pq lq rq; rw [ftAdA, ftIte_f hno]), by rw [ht]; exact hP, by rw [hAe]; exact hD⟩, by rw [hAe]; exact hS.F ht⟩) hS.2.2 dX11_addPart_103
      · exact absurd rfl c65
    · replace c27 := ftB_ne c27
      refine lv_iload_n hx hb dX11_addPart_30 rfl (lv_at hl 1 rfl) ?_
      refine lv_iconst (v := 1) hx hb dX11_addPart_31 (by decide) ?_
      refine lv_icmp_ne (tgt := 51) hx hb dX11_addPart_32 (by decide) (fun c32 => ?_) (fun c32 => ?_)
      · refine lv_iload hx hb dX11_addPart_51 (lv_at hl 4 rfl) ?_
        refine lv_if_ne (tgt := 60) hx hb dX11_addPart_53 (by decide) (fun c53 => ?_) (fun c53 => ?_)
        · have hno : ¬ ftAdV w kq pq lq rq := fun q => q.1.2.2.elim (fun r => c32 r.1) (fun r => c53 r.2)
          refine lv_iconst (v := 0) hx hb dX11_addPart_60 (by decide) ?_
          refine lv_istore (lv' := [(5, .int 0), (0, .ref m0), (1, .int kq), (2, .int pq), (3, .int lq), (4, .int rq)]) hx hb dX11_addPart_61 hl (by decide) rfl (fun ls hl => ?_)
          refine lv_iload hx hb dX11_addPart_63 (lv_at hl 0 rfl) ?_
          refine lv_if_eq (tgt := 101) hx hb dX11_addPart_65 (by decide) (fun c65 => ?_) (fun c65 => ?_)
          · have hC : ¬ ftAdC w kq pq lq rq := fun q => hno q.1
            refine lv_ldc (v := (-1000001)) hx hb hown (hts (.constant RX11 95 (-1000001)) (by decide +kernel)) dX11_addPart_101 ?_
            have hw9 : ([(m0, .inr (11, [.ref p0, .ref p1, .int (nI hm), .ref p3, .int i4, .ref p5, .int i6, .int i7, .int i8, .int i9, .ref p10, .int i11, .ref p12, .ref p13, .ref p14, .int i15, .ref p16, .ref p17, .int i18, .ref p19, .ref p20, .ref p21, .ref p22, .int i23, .int i24, .ref p25, .ref p26, .ref p27, .ref p28, .ref p29, .ref p30, .ref p31, .ref p32])), (p0, .inl (cI, 1439, .inl w)), (p1, .inl (cI, 7195, .inl z))] : va_W) = [(m0, .inr (11, [.ref p0, .ref p1, .int (nI (ftCh (ftAdC w kq pq lq rq) (min (hm + 1) 5) hm)), .ref p3, .int i4, .ref p5, .int i6, .int i7, .int i8, .int i9, .ref p10, .int i11, .ref p12, .ref p13, .ref p14, .int i15, .ref p16, .ref p17, .int i18, .ref p19, .ref p20, .ref p21, .ref p22, .int i23, .int i24, .ref p25, .ref p26, .ref p27, .ref p28, .ref p29, .ref p30, .ref p31, .ref p32])), (p0, .inl (cI, 1439, .inl (ftCh (ftAdC w kq pq lq rq) (ftAdd w (ftCN w) kq pq lq rq) w))), (p1, .inl (cI, 7195, .inl (ftCh (ftAdC w kq pq lq rq) (ftPush w z hm) z)))] := by rw [ftCh_f hC, ftCh_f hC, ftCh_f hC]
            rw [hw9] at hP hD
            exact W.iret (v := (-1000001)) hx hb hr (fun t ht hW => ⟨⟨(-1000001), (), rfl, (by show ((-1000001) : Int32) = ftAdA w kq pq lq rq; rw [ftAdA, ftIte_f hno]), by rw [ht]; exact hP, by rw [hAe]; exact hD⟩, by rw [hAe]; exact hS.F ht⟩) hS.2.2 dX11_addPart_103
          · exact absurd rfl c65
        · have hre : (kq = 1 ∧ 1 ≤ rq ∧ rq ≤ 20000) ∨ (¬ kq = 1 ∧ rq = 0) := Or.inr ⟨c32, c53⟩
          refine lv_iconst (v := 1) hx hb dX11_addPart_56 (by decide) ?_
          refine lv_goto (tgt := 61) hx hb dX11_addPart_57 (by decide) ?_
          refine lv_istore (lv' := [(5, .int 1), (0, .ref m0), (1, .int kq), (2, .int pq), (3, .int lq), (4, .int rq)]) hx hb dX11_addPart_61 hl (by decide) rfl (fun ls hl => ?_)
          refine lv_iload hx hb dX11_addPart_63 (lv_at hl 0 rfl) ?_
          refine lv_if_eq (tgt := 101) hx hb dX11_addPart_65 (by decide) (fun c65 => ?_) (fun c65 => ?_)
          · exact absurd c65 (by decide)
          · refine lv_iload_n hx hb dX11_addPart_68 rfl (lv_at hl 4 rfl) ?_
            refine lv_i2l (v := lq.toInt64) hx hb dX11_addPart_69 rfl ?_
            refine lv_iload_n hx hb dX11_addPart_70 rfl (lv_at hl 2 rfl) ?_
            refine lv_if_ne (tgt := 80) hx hb dX11_addPart_71 (by decide) (fun c71 => ?_) (fun c71 => ?_)
            · have h71 : (if kq = 0 then (-500 : Int32) else 0) = 0 := if_neg c71
              refine lv_lconst (v := 0) hx hb dX11_addPart_80 (by decide) ?_
              refine lv_iload_n hx hb dX11_addPart_81 rfl (lv_at hl 2 rfl) ?_
              refine lv_iconst (v := 2) hx hb dX11_addPart_82 (by decide) ?_
              refine lv_icmp_ne (tgt := 92) hx hb dX11_addPart_83 (by decide) (fun c83 => ?_) (fun c83 => ?_)
              · have h83 : (if kq = 2 then (50 : Int32) else 5000) = 5000 := if_neg c83
                refine lv_ldc2 (v := 5000) hx hb hown (hts (.constantLong RX11 130 5000) (by decide +kernel)) dX11_addPart_92 ?_
                refine ft_csi (r := ftB (0 ≤ lq.toInt64 ∧ lq.toInt64 ≤ 5000)) (va_runS (As := [.long lq.toInt64, .long 0, .long 5000]) (rest := []) ⟨hx, hb, hml, hown, hts⟩ (c_X11_in l D cI cS lq.toInt64 0 5000) (va_cwS 3 hts gX11_addPart_X11_in rfl rfl rfl (by decide +kernel) ⟨Nat.le_of_ble_eq_true rfl, Nat.le_of_ble_eq_true rfl⟩) (ft_preRO hP hKK [] rfl) rfl rfl hl.1 rfl (lv_room (Nat.le_of_ble_eq_true rfl)) dX11_addPart_95 ⟨Nat.le_of_ble_eq_true rfl, Nat.le_of_ble_eq_true rfl⟩) ?_
                refine ft_top (y := ftB (0 ≤ lq ∧ lq ≤ 5000)) (ft_in64 (by decide) (by decide)) ?_
                refine lv_if_ne (tgt := 104) hx hb dX11_addPart_98 (by decide) (fun c98 => ?_) (fun c98 => ?_)
                · replace c98 := ftB_ne c98
                  have hV : ftAdV w kq pq lq rq := ⟨⟨c9, c27, hre⟩, by rw [h71, h83]; exact c98⟩
                  refine lv_aload_n hx hb dX11_addPart_104 rfl (lv_at hl 1 rfl) ?_
                  refine lv_iload_n hx hb dX11_addPart_105 rfl (lv_at hl 3 rfl) ?_
                  refine ft_csi (r := ftPa w pq (ftCN w)) (va_runV (C := RX11) (As := [.int pq]) (rest := []) ⟨hx, hb, hml, hown, hts⟩ (c_X11_partAt l D cI cS m0 p0 p1 p3 p5 p10 p12 p13 p14 p16 p17 p19 p20 p21 p22 p25 p26 p27 p28 p29 p30 p31 p32 (nI hm) i4 i6 i7 i8 i9 i11 i15 i18 i23 i24 w pq (ftCN w) hw3 hn) (cwV 1 hts gX11_addPart_X11_partAt rfl rfl rfl (by decide +kernel) ⟨Nat.le_of_ble_eq_true rfl, Nat.le_of_ble_eq_true rfl⟩) (ft_preROV (ci := 11) (q0 := 0) hP hKK [0, 1] rfl rfl rfl) rfl rfl hl.1 rfl (lv_room (Nat.le_of_ble_eq_true rfl)) dX11_addPart_106 ⟨Nat.le_of_ble_eq_true rfl, Nat.le_of_ble_eq_true rfl⟩) ?_
                  refine lv_if_lt (tgt := 115) hx hb dX11_addPart_109 (by decide) (fun c109 => ?_) (fun c109 => ?_)
                  · refine lv_aload_n hx hb dX11_addPart_115 rfl (lv_at hl 1 rfl) ?_
                    refine va_get (D := D) (ci := 11) (v := .ref p0) (C := RX11) (T := TX11) (N := 33) hx hb hts (by decide +kernel) hown hK hP 0 rfl rfl 0 (by decide) (hts (.fieldLink RX11 7 "FiberTraceModel" "now" "[I") (by decide +kernel)) (fun _ h9 => h9) rfl dX11_addPart_116 ?_
                    refine lv_iconst (v := 3) hx hb dX11_addPart_119 (by decide) ?_
                    refine va_iald hx hb hK hP 1 0 rfl rfl (vp_in_nI (n := 3) (by omega) (by omega)) dX11_addPart_120 ?_
                    refine ft_top (y := w 3) rfl ?_
                    refine lv_bipush (v := 10) hx hb dX11_addPart_121 (by decide) ?_
                    refine lv_icmp_ne (tgt := 129) hx hb dX11_addPart_123 (by decide) (fun c123 => ?_) (fun c123 => ?_)
                    · have hC : ftAdC w kq pq lq rq := ⟨hV, c109, c123⟩
                      have hn10 : ftCN w ≠ 10 := fun r => c123 (by rw [hw3, r]; rfl)
                      refine lv_aload_n hx hb dX11_addPart_129 rfl (lv_at hl 1 rfl) ?_
                      refine ft_cv (wc := [(m0, .inr (11, [.ref p0, .ref p1, .int (nI hm), .ref p3, .int i4, .ref p5, .int i6, .int i7, .int i8, .int i9, .ref p10, .int i11, .ref p12, .ref p13, .ref p14, .int i15, .ref p16, .ref p17, .int i18, .ref p19, .ref p20, .ref p21, .ref p22, .int i23, .int i24, .ref p25, .ref p26, .ref p27, .ref p28, .ref p29, .ref p30, .ref p31, .ref p32])), (p0, .inl (cI, 1439, .inl w)), (p1, .inl (cI, 7195, .inl z))]) (wr := []) (w1 := [(m0, .inr (11, [.ref p0, .ref p1, .int (nI (min (hm + 1) 5)), .ref p3, .int i4, .ref p5, .int i6, .int i7, .int i8, .int i9, .ref p10, .int i11, .ref p12, .ref p13, .ref p14, .int i15, .ref p16, .ref p17, .int i18, .ref p19, .ref p20, .ref p21, .ref p22, .int i23, .int i24, .ref p25, .ref p26, .ref p27, .ref p28, .ref p29, .ref p30, .ref p31, .ref p32])), (p0, .inl (cI, 1439, .inl w)), (p1, .inl (cI, 7195, .inl (ftPush w z hm)))]) (ws1 := [(m0, .inr (11, [.ref p0, .ref p1, .int (nI (min (hm + 1) 5)), .ref p3, .int i4, .ref p5, .int i6, .int i7, .int i8, .int i9, .ref p10, .int i11, .ref p12, .ref p13, .ref p14, .int i15, .ref p16, .ref p17, .int i18, .ref p19, .ref p20, .ref p21, .ref p22, .int i23, .int i24, .ref p25, .ref p26, .ref p27, .ref p28, .ref p29, .ref p30, .ref p31, .ref p32])), (p0, .inl (cI, 1439, .inl w)), (p1, .inl (cI, 7195, .inl (ftPush w z hm)))]) (va_runV (C := RX11) (As := []) (rest := []) ⟨hx, hb, hml, hown, hts⟩ (c_X11_change l D cI cS s.heap.size m0 p0 p1 p3 p5 p10 p12 p13 p14 p16 p17 p19 p20 p21 p22 p25 p26 p27 p28 p29 p30 p31 p32 i4 i6 i7 i8 i9 i11 i15 i18 i23 i24 w z hm hhm) (cwV 0 hts gX11_addPart_X11_change rfl rfl rfl (by decide +kernel) ⟨Nat.le_of_ble_eq_true rfl, Nat.le_of_ble_eq_true rfl⟩) (ft_preRWV (ci := 11) (q0 := 0) hP hD hKK [0, 1, 2] rfl rfl rfl rfl rfl) rfl rfl hl.1 rfl (lv_room (Nat.le_of_ble_eq_true rfl)) dX11_addPart_130 ⟨Nat.le_of_ble_eq_true rfl, Nat.le_of_ble_eq_true rfl⟩) hP hD hS hA [0, 1, 2] [] [0, 1, 2] rfl rfl (by decide) (by decide) (by decide) rfl rfl (fun H locs hP hD hS => ?_)
                      have hP : va_P D vwCl [(m0, .inr (11, [.ref p0, .ref p1, .int (nI (min (hm + 1) 5)), .ref p3, .int i4, .ref p5, .int i6, .int i7, .int i8, .int i9, .ref p10, .int i11, .ref p12, .ref p13, .ref p14, .int i15, .ref p16, .ref p17, .int i18, .ref p19, .ref p20, .ref p21, .ref p22, .int i23, .int i24, .ref p25, .ref p26, .ref p27, .ref p28, .ref p29, .ref p30, .ref p31, .ref p32])), (p0, .inl (cI, 1439, .inl w)), (p1, .inl (cI, 7195, .inl (ftPush w z hm)))] H := hP
                      have hD : va_D A [(m0, .inr (11, [.ref p0, .ref p1, .int (nI (min (hm + 1) 5)), .ref p3, .int i4, .ref p5, .int i6, .int i7, .int i8, .int i9, .ref p10, .int i11, .ref p12, .ref p13, .ref p14, .int i15, .ref p16, .ref p17, .int i18, .ref p19, .ref p20, .ref p21, .ref p22, .int i23, .int i24, .ref p25, .ref p26, .ref p27, .ref p28, .ref p29, .ref p30, .ref p31, .ref p32])), (p0, .inl (cI, 1439, .inl w)), (p1, .inl (cI, 7195, .inl (ftPush w z hm)))] := hD
                      refine lv_aload_n hx hb dX11_addPart_133 rfl (lv_at hl 1 rfl) ?_
                      refine va_get (D := D) (ci := 11) (v := .ref p0) (C := RX11) (T := TX11) (N := 33) hx hb hts (by decide +kernel) hown hK hP 0 rfl rfl 0 (by decide) (hts (.fieldLink RX11 7 "FiberTraceModel" "now" "[I") (by decide +kernel)) (fun _ h9 => h9) rfl dX11_addPart_134 ?_
                      refine lv_iload_n hx hb dX11_addPart_137 rfl (lv_at hl 2 rfl) ?_
                      refine lv_iload_n hx hb dX11_addPart_138 rfl (lv_at hl 3 rfl) ?_
                      refine lv_iload_n hx hb dX11_addPart_139 rfl (lv_at hl 4 rfl) ?_
                      refine lv_iload hx hb dX11_addPart_140 (lv_at hl 5 rfl) ?_
                      refine ft_ci (r := nI (ftPosW w pq (ftCN w))) (wc := [(p0, .inl (cI, 1439, .inl w))]) (wr := [(m0, .inr (11, [.ref p0, .ref p1, .int (nI (min (hm + 1) 5)), .ref p3, .int i4, .ref p5, .int i6, .int i7, .int i8, .int i9, .ref p10, .int i11, .ref p12, .ref p13, .ref p14, .int i15, .ref p16, .ref p17, .int i18, .ref p19, .ref p20, .ref p21, .ref p22, .int i23, .int i24, .ref p25, .ref p26, .ref p27, .ref p28, .ref p29, .ref p30, .ref p31, .ref p32])), (p1, .inl (cI, 7195, .inl (ftPush w z hm)))]) (w1 := [(p0, .inl (cI, 1439, .inl (ftAdd w (ftCN w) kq pq lq rq)))]) (ws1 := [(m0, .inr (11, [.ref p0, .ref p1, .int (nI (min (hm + 1) 5)), .ref p3, .int i4, .ref p5, .int i6, .int i7, .int i8, .int i9, .ref p10, .int i11, .ref p12, .ref p13, .ref p14, .int i15, .ref p16, .ref p17, .int i18, .ref p19, .ref p20, .ref p21, .ref p22, .int i23, .int i24, .ref p25, .ref p26, .ref p27, .ref p28, .ref p29, .ref p30, .ref p31, .ref p32])), (p0, .inl (cI, 1439, .inl (ftAdd w (ftCN w) kq pq lq rq))), (p1, .inl (cI, 7195, .inl (ftPush w z hm)))]) (va_runS (As := [.ref p0, .int kq, .int pq, .int lq, .int rq]) (rest := []) ⟨hx, hb, hml, hown, hts⟩ (c_X11_comes l D cI cS H.size p0 1439 w (ftCN w) kq pq lq rq hw3 (by omega) (by omega) (by omega)) (va_cwS 5 hts gX11_addPart_X11_comes rfl rfl rfl (by decide +kernel) ⟨Nat.le_of_ble_eq_true rfl, Nat.le_of_ble_eq_true rfl⟩) (ft_preRW hP hD hKK [1] rfl rfl rfl) rfl rfl hl.1 rfl (lv_room (Nat.le_of_ble_eq_true rfl)) dX11_addPart_142 ⟨Nat.le_of_ble_eq_true rfl, Nat.le_of_ble_eq_true rfl⟩) hP hD hS hA [1] [0, 2] [0, 2, 1] rfl rfl (by decide) (by decide) (by decide) rfl rfl (fun H locs hP hD hS => ?_)
                      have hP : va_P D vwCl [(m0, .inr (11, [.ref p0, .ref p1, .int (nI (min (hm + 1) 5)), .ref p3, .int i4, .ref p5, .int i6, .int i7, .int i8, .int i9, .ref p10, .int i11, .ref p12, .ref p13, .ref p14, .int i15, .ref p16, .ref p17, .int i18, .ref p19, .ref p20, .ref p21, .ref p22, .int i23, .int i24, .ref p25, .ref p26, .ref p27, .ref p28, .ref p29, .ref p30, .ref p31, .ref p32])), (p0, .inl (cI, 1439, .inl (ftAdd w (ftCN w) kq pq lq rq))), (p1, .inl (cI, 7195, .inl (ftPush w z hm)))] H := hP
                      have hD : va_D A [(m0, .inr (11, [.ref p0, .ref p1, .int (nI (min (hm + 1) 5)), .ref p3, .int i4, .ref p5, .int i6, .int i7, .int i8, .int i9, .ref p10, .int i11, .ref p12, .ref p13, .ref p14, .int i15, .ref p16, .ref p17, .int i18, .ref p19, .ref p20, .ref p21, .ref p22, .int i23, .int i24, .ref p25, .ref p26, .ref p27, .ref p28, .ref p29, .ref p30, .ref p31, .ref p32])), (p0, .inl (cI, 1439, .inl (ftAdd w (ftCN w) kq pq lq rq))), (p1, .inl (cI, 7195, .inl (ftPush w z hm)))] := hD
                      have hw9 : ([(m0, .inr (11, [.ref p0, .ref p1, .int (nI (min (hm + 1) 5)), .ref p3, .int i4, .ref p5, .int i6, .int i7, .int i8, .int i9, .ref p10, .int i11, .ref p12, .ref p13, .ref p14, .int i15, .ref p16, .ref p17, .int i18, .ref p19, .ref p20, .ref p21, .ref p22, .int i23, .int i24, .ref p25, .ref p26, .ref p27, .ref p28, .ref p29, .ref p30, .ref p31, .ref p32])), (p0, .inl (cI, 1439, .inl (ftAdd w (ftCN w) kq pq lq rq))), (p1, .inl (cI, 7195, .inl (ftPush w z hm)))] : va_W) = [(m0, .inr (11, [.ref p0, .ref p1, .int (nI (ftCh (ftAdC w kq pq lq rq) (min (hm + 1) 5) hm)), .ref p3, .int i4, .ref p5, .int i6, .int i7, .int i8, .int i9, .ref p10, .int i11, .ref p12, .ref p13, .ref p14, .int i15, .ref p16, .ref p17, .int i18, .ref p19, .ref p20, .ref p21, .ref p22, .int i23, .int i24, .ref p25, .ref p26, .ref p27, .ref p28, .ref p29, .ref p30, .ref p31, .ref p32])), (p0, .inl (cI, 1439, .inl (ftCh (ftAdC w kq pq lq rq) (ftAdd w (ftCN w) kq pq lq rq) w))), (p1, .inl (cI, 7195, .inl (ftCh (ftAdC w kq pq lq rq) (ftPush w z hm) z)))] := by rw [ftCh_t hC, ftCh_t hC, ftCh_t hC]
                      rw [hw9] at hP hD
                      exact W.iret (v := nI (ftPosW w pq (ftCN w))) hx hb hr (fun t ht hW => ⟨⟨nI (ftPosW w pq (ftCN w)), (), rfl, (by show (nI (ftPosW w pq (ftCN w)) : Int32) = ftAdA w kq pq lq rq; rw [ftAdA, ftIte_t hV, ftIte_t c109, ftIte_f c123]), by rw [ht]; exact hP, by rw [hAe]; exact hD⟩, by rw [hAe]; exact hS.F ht⟩) hS.2.2 dX11_addPart_145
                    · have hC : ¬ ftAdC w kq pq lq rq := fun q => q.2.2 c123
                      refine lv_ldc (v := (-1000003)) hx hb hown (hts (.constant RX11 99 (-1000003)) (by decide +kernel)) dX11_addPart_126 ?_
                      have hw9 : ([(m0, .inr (11, [.ref p0, .ref p1, .int (nI hm), .ref p3, .int i4, .ref p5, .int i6, .int i7, .int i8, .int i9, .ref p10, .int i11, .ref p12, .ref p13, .ref p14, .int i15, .ref p16, .ref p17, .int i18, .ref p19, .ref p20, .ref p21, .ref p22, .int i23, .int i24, .ref p25, .ref p26, .ref p27, .ref p28, .ref p29, .ref p30, .ref p31, .ref p32])), (p0, .inl (cI, 1439, .inl w)), (p1, .inl (cI, 7195, .inl z))] : va_W) = [(m0, .inr (11, [.ref p0, .ref p1, .int (nI (ftCh (ftAdC w kq pq lq rq) (min (hm + 1) 5) hm)), .ref p3, .int i4, .ref p5, .int i6, .int i7, .int i8, .int i9, .ref p10, .int i11, .ref p12, .ref p13, .ref p14, .int i15, .ref p16, .ref p17, .int i18, .ref p19, .ref p20, .ref p21, .ref p22, .int i23, .int i24, .ref p25, .ref p26, .ref p27, .ref p28, .ref p29, .ref p30, .ref p31, .ref p32])), (p0, .inl (cI, 1439, .inl (ftCh (ftAdC w kq pq lq rq) (ftAdd w (ftCN w) kq pq lq rq) w))), (p1, .inl (cI, 7195, .inl (ftCh (ftAdC w kq pq lq rq) (ftPush w z hm) z)))] := by rw [ftCh_f hC, ftCh_f hC, ftCh_f hC]
                      rw [hw9] at hP hD
                      exact W.iret (v := (-1000003)) hx hb hr (fun t ht hW => ⟨⟨(-1000003), (), rfl, (by show ((-1000003) : Int32) = ftAdA w kq pq lq rq; rw [ftAdA, ftIte_t hV, ftIte_t c109, ftIte_t c123]), by rw [ht]; exact hP, by rw [hAe]; exact hD⟩, by rw [hAe]; exact hS.F ht⟩) hS.2.2 dX11_addPart_128
                  · have hC : ¬ ftAdC w kq pq lq rq := fun q => c109 q.2.1
                    refine lv_ldc (v := (-1000002)) hx hb hown (hts (.constant RX11 86 (-1000002)) (by decide +kernel)) dX11_addPart_112 ?_
                    have hw9 : ([(m0, .inr (11, [.ref p0, .ref p1, .int (nI hm), .ref p3, .int i4, .ref p5, .int i6, .int i7, .int i8, .int i9, .ref p10, .int i11, .ref p12, .ref p13, .ref p14, .int i15, .ref p16, .ref p17, .int i18, .ref p19, .ref p20, .ref p21, .ref p22, .int i23, .int i24, .ref p25, .ref p26, .ref p27, .ref p28, .ref p29, .ref p30, .ref p31, .ref p32])), (p0, .inl (cI, 1439, .inl w)), (p1, .inl (cI, 7195, .inl z))] : va_W) = [(m0, .inr (11, [.ref p0, .ref p1, .int (nI (ftCh (ftAdC w kq pq lq rq) (min (hm + 1) 5) hm)), .ref p3, .int i4, .ref p5, .int i6, .int i7, .int i8, .int i9, .ref p10, .int i11, .ref p12, .ref p13, .ref p14, .int i15, .ref p16, .ref p17, .int i18, .ref p19, .ref p20, .ref p21, .ref p22, .int i23, .int i24, .ref p25, .ref p26, .ref p27, .ref p28, .ref p29, .ref p30, .ref p31, .ref p32])), (p0, .inl (cI, 1439, .inl (ftCh (ftAdC w kq pq lq rq) (ftAdd w (ftCN w) kq pq lq rq) w))), (p1, .inl (cI, 7195, .inl (ftCh (ftAdC w kq pq lq rq) (ftPush w z hm) z)))] := by rw [ftCh_f hC, ftCh_f hC, ftCh_f hC]
                    rw [hw9] at hP hD
                    exact W.iret (v := (-1000002)) hx hb hr (fun t ht hW => ⟨⟨(-1000002), (), rfl, (by show ((-1000002) : Int32) = ftAdA w kq pq lq rq; rw [ftAdA, ftIte_t hV, ftIte_f c109]), by rw [ht]; exact hP, by rw [hAe]; exact hD⟩, by rw [hAe]; exact hS.F ht⟩) hS.2.2 dX11_addPart_114
                · replace c98 := ftB_eq c98
                  have hno : ¬ ftAdV w kq pq lq rq := by
                    intro q
                    have q2 := q.2
                    rw [h71, h83] at q2
                    exact c98 q2
                  have hC : ¬ ftAdC w kq pq lq rq := fun q => hno q.1
                  refine lv_ldc (v := (-1000001)) hx hb hown (hts (.constant RX11 95 (-1000001)) (by decide +kernel)) dX11_addPart_101 ?_
                  have hw9 : ([(m0, .inr (11, [.ref p0, .ref p1, .int (nI hm), .ref p3, .int i4, .ref p5, .int i6, .int i7, .int i8, .int i9, .ref p10, .int i11, .ref p12, .ref p13, .ref p14, .int i15, .ref p16, .ref p17, .int i18, .ref p19, .ref p20, .ref p21, .ref p22, .int i23, .int i24, .ref p25, .ref p26, .ref p27, .ref p28, .ref p29, .ref p30, .ref p31, .ref p32])), (p0, .inl (cI, 1439, .inl w)), (p1, .inl (cI, 7195, .inl z))] : va_W) = [(m0, .inr (11, [.ref p0, .ref p1, .int (nI (ftCh (ftAdC w kq pq lq rq) (min (hm + 1) 5) hm)), .ref p3, .int i4, .ref p5, .int i6, .int i7, .int i8, .int i9, .ref p10, .int i11, .ref p12, .ref p13, .ref p14, .int i15, .ref p16, .ref p17, .int i18, .ref p19, .ref p20, .ref p21, .ref p22, .int i23, .int i24, .ref p25, .ref p26, .ref p27, .ref p28, .ref p29, .ref p30, .ref p31, .ref p32])), (p0, .inl (cI, 1439, .inl (ftCh (ftAdC w kq pq lq rq) (ftAdd w (ftCN w) kq pq lq rq) w))), (p1, .inl (cI, 7195, .inl (ftCh (ftAdC w kq pq lq rq) (ftPush w z hm) z)))] := by rw [ftCh_f hC, ftCh_f hC, ftCh_f hC]
                  rw [hw9] at hP hD
                  exact W.iret (v := (-1000001)) hx hb hr (fun t ht hW => ⟨⟨(-1000001), (), rfl, (by show ((-1000001) : Int32) = ftAdA w kq pq lq rq; rw [ftAdA, ftIte_f hno]), by rw [ht]; exact hP, by rw [hAe]; exact hD⟩, by rw [hAe]; exact hS.F ht⟩) hS.2.2 dX11_addPart_103
              · have h83 : (if kq = 2 then (50 : Int32) else 5000) = 50 := if_pos c83
                refine lv_ldc2 (v := 50) hx hb hown (hts (.constantLong RX11 122 50) (by decide +kernel)) dX11_addPart_86 ?_
                refine lv_goto (tgt := 95) hx hb dX11_addPart_89 (by decide) ?_
                refine ft_csi (r := ftB (0 ≤ lq.toInt64 ∧ lq.toInt64 ≤ 50)) (va_runS (As := [.long lq.toInt64, .long 0, .long 50]) (rest := []) ⟨hx, hb, hml, hown, hts⟩ (c_X11_in l D cI cS lq.toInt64 0 50) (va_cwS 3 hts gX11_addPart_X11_in rfl rfl rfl (by decide +kernel) ⟨Nat.le_of_ble_eq_true rfl, Nat.le_of_ble_eq_true rfl⟩) (ft_preRO hP hKK [] rfl) rfl rfl hl.1 rfl (lv_room (Nat.le_of_ble_eq_true rfl)) dX11_addPart_95 ⟨Nat.le_of_ble_eq_true rfl, Nat.le_of_ble_eq_true rfl⟩) ?_
                refine ft_top (y := ftB (0 ≤ lq ∧ lq ≤ 50)) (ft_in64 (by decide) (by decide)) ?_
                refine lv_if_ne (tgt := 104) hx hb dX11_addPart_98 (by decide) (fun c98 => ?_) (fun c98 => ?_)
                · replace c98 := ftB_ne c98
                  have hV : ftAdV w kq pq lq rq := ⟨⟨c9, c27, hre⟩, by rw [h71, h83]; exact c98⟩
                  refine lv_aload_n hx hb dX11_addPart_104 rfl (lv_at hl 1 rfl) ?_
                  refine lv_iload_n hx hb dX11_addPart_105 rfl (lv_at hl 3 rfl) ?_
                  refine ft_csi (r := ftPa w pq (ftCN w)) (va_runV (C := RX11) (As := [.int pq]) (rest := []) ⟨hx, hb, hml, hown, hts⟩ (c_X11_partAt l D cI cS m0 p0 p1 p3 p5 p10 p12 p13 p14 p16 p17 p19 p20 p21 p22 p25 p26 p27 p28 p29 p30 p31 p32 (nI hm) i4 i6 i7 i8 i9 i11 i15 i18 i23 i24 w pq (ftCN w) hw3 hn) (cwV 1 hts gX11_addPart_X11_partAt rfl rfl rfl (by decide +kernel) ⟨Nat.le_of_ble_eq_true rfl, Nat.le_of_ble_eq_true rfl⟩) (ft_preROV (ci := 11) (q0 := 0) hP hKK [0, 1] rfl rfl rfl) rfl rfl hl.1 rfl (lv_room (Nat.le_of_ble_eq_true rfl)) dX11_addPart_106 ⟨Nat.le_of_ble_eq_true rfl, Nat.le_of_ble_eq_true rfl⟩) ?_
                  refine lv_if_lt (tgt := 115) hx hb dX11_addPart_109 (by decide) (fun c109 => ?_) (fun c109 => ?_)
                  · refine lv_aload_n hx hb dX11_addPart_115 rfl (lv_at hl 1 rfl) ?_
                    refine va_get (D := D) (ci := 11) (v := .ref p0) (C := RX11) (T := TX11) (N := 33) hx hb hts (by decide +kernel) hown hK hP 0 rfl rfl 0 (by decide) (hts (.fieldLink RX11 7 "FiberTraceModel" "now" "[I") (by decide +kernel)) (fun _ h9 => h9) rfl dX11_addPart_116 ?_
                    refine lv_iconst (v := 3) hx hb dX11_addPart_119 (by decide) ?_
                    refine va_iald hx hb hK hP 1 0 rfl rfl (vp_in_nI (n := 3) (by omega) (by omega)) dX11_addPart_120 ?_
                    refine ft_top (y := w 3) rfl ?_
                    refine lv_bipush (v := 10) hx hb dX11_addPart_121 (by decide) ?_
                    refine lv_icmp_ne (tgt := 129) hx hb dX11_addPart_123 (by decide) (fun c123 => ?_) (fun c123 => ?_)
                    · have hC : ftAdC w kq pq lq rq := ⟨hV, c109, c123⟩
                      have hn10 : ftCN w ≠ 10 := fun r => c123 (by rw [hw3, r]; rfl)
                      refine lv_aload_n hx hb dX11_addPart_129 rfl (lv_at hl 1 rfl) ?_
                      refine ft_cv (wc := [(m0, .inr (11, [.ref p0, .ref p1, .int (nI hm), .ref p3, .int i4, .ref p5, .int i6, .int i7, .int i8, .int i9, .ref p10, .int i11, .ref p12, .ref p13, .ref p14, .int i15, .ref p16, .ref p17, .int i18, .ref p19, .ref p20, .ref p21, .ref p22, .int i23, .int i24, .ref p25, .ref p26, .ref p27, .ref p28, .ref p29, .ref p30, .ref p31, .ref p32])), (p0, .inl (cI, 1439, .inl w)), (p1, .inl (cI, 7195, .inl z))]) (wr := []) (w1 := [(m0, .inr (11, [.ref p0, .ref p1, .int (nI (min (hm + 1) 5)), .ref p3, .int i4, .ref p5, .int i6, .int i7, .int i8, .int i9, .ref p10, .int i11, .ref p12, .ref p13, .ref p14, .int i15, .ref p16, .ref p17, .int i18, .ref p19, .ref p20, .ref p21, .ref p22, .int i23, .int i24, .ref p25, .ref p26, .ref p27, .ref p28, .ref p29, .ref p30, .ref p31, .ref p32])), (p0, .inl (cI, 1439, .inl w)), (p1, .inl (cI, 7195, .inl (ftPush w z hm)))]) (ws1 := [(m0, .inr (11, [.ref p0, .ref p1, .int (nI (min (hm + 1) 5)), .ref p3, .int i4, .ref p5, .int i6, .int i7, .int i8, .int i9, .ref p10, .int i11, .ref p12, .ref p13, .ref p14, .int i15, .ref p16, .ref p17, .int i18, .ref p19, .ref p20, .ref p21, .ref p22, .int i23, .int i24, .ref p25, .ref p26, .ref p27, .ref p28, .ref p29, .ref p30, .ref p31, .ref p32])), (p0, .inl (cI, 1439, .inl w)), (p1, .inl (cI, 7195, .inl (ftPush w z hm)))]) (va_runV (C := RX11) (As := []) (rest := []) ⟨hx, hb, hml, hown, hts⟩ (c_X11_change l D cI cS s.heap.size m0 p0 p1 p3 p5 p10 p12 p13 p14 p16 p17 p19 p20 p21 p22 p25 p26 p27 p28 p29 p30 p31 p32 i4 i6 i7 i8 i9 i11 i15 i18 i23 i24 w z hm hhm) (cwV 0 hts gX11_addPart_X11_change rfl rfl rfl (by decide +kernel) ⟨Nat.le_of_ble_eq_true rfl, Nat.le_of_ble_eq_true rfl⟩) (ft_preRWV (ci := 11) (q0 := 0) hP hD hKK [0, 1, 2] rfl rfl rfl rfl rfl) rfl rfl hl.1 rfl (lv_room (Nat.le_of_ble_eq_true rfl)) dX11_addPart_130 ⟨Nat.le_of_ble_eq_true rfl, Nat.le_of_ble_eq_true rfl⟩) hP hD hS hA [0, 1, 2] [] [0, 1, 2] rfl rfl (by decide) (by decide) (by decide) rfl rfl (fun H locs hP hD hS => ?_)
                      have hP : va_P D vwCl [(m0, .inr (11, [.ref p0, .ref p1, .int (nI (min (hm + 1) 5)), .ref p3, .int i4, .ref p5, .int i6, .int i7, .int i8, .int i9, .ref p10, .int i11, .ref p12, .ref p13, .ref p14, .int i15, .ref p16, .ref p17, .int i18, .ref p19, .ref p20, .ref p21, .ref p22, .int i23, .int i24, .ref p25, .ref p26, .ref p27, .ref p28, .ref p29, .ref p30, .ref p31, .ref p32])), (p0, .inl (cI, 1439, .inl w)), (p1, .inl (cI, 7195, .inl (ftPush w z hm)))] H := hP
                      have hD : va_D A [(m0, .inr (11, [.ref p0, .ref p1, .int (nI (min (hm + 1) 5)), .ref p3, .int i4, .ref p5, .int i6, .int i7, .int i8, .int i9, .ref p10, .int i11, .ref p12, .ref p13, .ref p14, .int i15, .ref p16, .ref p17, .int i18, .ref p19, .ref p20, .ref p21, .ref p22, .int i23, .int i24, .ref p25, .ref p26, .ref p27, .ref p28, .ref p29, .ref p30, .ref p31, .ref p32])), (p0, .inl (cI, 1439, .inl w)), (p1, .inl (cI, 7195, .inl (ftPush w z hm)))] := hD
                      refine lv_aload_n hx hb dX11_addPart_133 rfl (lv_at hl 1 rfl) ?_
                      refine va_get (D := D) (ci := 11) (v := .ref p0) (C := RX11) (T := TX11) (N := 33) hx hb hts (by decide +kernel) hown hK hP 0 rfl rfl 0 (by decide) (hts (.fieldLink RX11 7 "FiberTraceModel" "now" "[I") (by decide +kernel)) (fun _ h9 => h9) rfl dX11_addPart_134 ?_
                      refine lv_iload_n hx hb dX11_addPart_137 rfl (lv_at hl 2 rfl) ?_
                      refine lv_iload_n hx hb dX11_addPart_138 rfl (lv_at hl 3 rfl) ?_
                      refine lv_iload_n hx hb dX11_addPart_139 rfl (lv_at hl 4 rfl) ?_
                      refine lv_iload hx hb dX11_addPart_140 (lv_at hl 5 rfl) ?_
                      refine ft_ci (r := nI (ftPosW w pq (ftCN w))) (wc := [(p0, .inl (cI, 1439, .inl w))]) (wr := [(m0, .inr (11, [.ref p0, .ref p1, .int (nI (min (hm + 1) 5)), .ref p3, .int i4, .ref p5, .int i6, .int i7, .int i8, .int i9, .ref p10, .int i11, .ref p12, .ref p13, .ref p14, .int i15, .ref p16, .ref p17, .int i18, .ref p19, .ref p20, .ref p21, .ref p22, .int i23, .int i24, .ref p25, .ref p26, .ref p27, .ref p28, .ref p29, .ref p30, .ref p31, .ref p32])), (p1, .inl (cI, 7195, .inl (ftPush w z hm)))]) (w1 := [(p0, .inl (cI, 1439, .inl (ftAdd w (ftCN w) kq pq lq rq)))]) (ws1 := [(m0, .inr (11, [.ref p0, .ref p1, .int (nI (min (hm + 1) 5)), .ref p3, .int i4, .ref p5, .int i6, .int i7, .int i8, .int i9, .ref p10, .int i11, .ref p12, .ref p13, .ref p14, .int i15, .ref p16, .ref p17, .int i18, .ref p19, .ref p20, .ref p21, .ref p22, .int i23, .int i24, .ref p25, .ref p26, .ref p27, .ref p28, .ref p29, .ref p30, .ref p31, .ref p32])), (p0, .inl (cI, 1439, .inl (ftAdd w (ftCN w) kq pq lq rq))), (p1, .inl (cI, 7195, .inl (ftPush w z hm)))]) (va_runS (As := [.ref p0, .int kq, .int pq, .int lq, .int rq]) (rest := []) ⟨hx, hb, hml, hown, hts⟩ (c_X11_comes l D cI cS H.size p0 1439 w (ftCN w) kq pq lq rq hw3 (by omega) (by omega) (by omega)) (va_cwS 5 hts gX11_addPart_X11_comes rfl rfl rfl (by decide +kernel) ⟨Nat.le_of_ble_eq_true rfl, Nat.le_of_ble_eq_true rfl⟩) (ft_preRW hP hD hKK [1] rfl rfl rfl) rfl rfl hl.1 rfl (lv_room (Nat.le_of_ble_eq_true rfl)) dX11_addPart_142 ⟨Nat.le_of_ble_eq_true rfl, Nat.le_of_ble_eq_true rfl⟩) hP hD hS hA [1] [0, 2] [0, 2, 1] rfl rfl (by decide) (by decide) (by decide) rfl rfl (fun H locs hP hD hS => ?_)
                      have hP : va_P D vwCl [(m0, .inr (11, [.ref p0, .ref p1, .int (nI (min (hm + 1) 5)), .ref p3, .int i4, .ref p5, .int i6, .int i7, .int i8, .int i9, .ref p10, .int i11, .ref p12, .ref p13, .ref p14, .int i15, .ref p16, .ref p17, .int i18, .ref p19, .ref p20, .ref p21, .ref p22, .int i23, .int i24, .ref p25, .ref p26, .ref p27, .ref p28, .ref p29, .ref p30, .ref p31, .ref p32])), (p0, .inl (cI, 1439, .inl (ftAdd w (ftCN w) kq pq lq rq))), (p1, .inl (cI, 7195, .inl (ftPush w z hm)))] H := hP
                      have hD : va_D A [(m0, .inr (11, [.ref p0, .ref p1, .int (nI (min (hm + 1) 5)), .ref p3, .int i4, .ref p5, .int i6, .int i7, .int i8, .int i9, .ref p10, .int i11, .ref p12, .ref p13, .ref p14, .int i15, .ref p16, .ref p17, .int i18, .ref p19, .ref p20, .ref p21, .ref p22, .int i23, .int i24, .ref p25, .ref p26, .ref p27, .ref p28, .ref p29, .ref p30, .ref p31, .ref p32])), (p0, .inl (cI, 1439, .inl (ftAdd w (ftCN w) kq pq lq rq))), (p1, .inl (cI, 7195, .inl (ftPush w z hm)))] := hD
                      have hw9 : ([(m0, .inr (11, [.ref p0, .ref p1, .int (nI (min (hm + 1) 5)), .ref p3, .int i4, .ref p5, .int i6, .int i7, .int i8, .int i9, .ref p10, .int i11, .ref p12, .ref p13, .ref p14, .int i15, .ref p16, .ref p17, .int i18, .ref p19, .ref p20, .ref p21, .ref p22, .int i23, .int i24, .ref p25, .ref p26, .ref p27, .ref p28, .ref p29, .ref p30, .ref p31, .ref p32])), (p0, .inl (cI, 1439, .inl (ftAdd w (ftCN w) kq pq lq rq))), (p1, .inl (cI, 7195, .inl (ftPush w z hm)))] : va_W) = [(m0, .inr (11, [.ref p0, .ref p1, .int (nI (ftCh (ftAdC w kq pq lq rq) (min (hm + 1) 5) hm)), .ref p3, .int i4, .ref p5, .int i6, .int i7, .int i8, .int i9, .ref p10, .int i11, .ref p12, .ref p13, .ref p14, .int i15, .ref p16, .ref p17, .int i18, .ref p19, .ref p20, .ref p21, .ref p22, .int i23, .int i24, .ref p25, .ref p26, .ref p27, .ref p28, .ref p29, .ref p30, .ref p31, .ref p32])), (p0, .inl (cI, 1439, .inl (ftCh (ftAdC w kq pq lq rq) (ftAdd w (ftCN w) kq pq lq rq) w))), (p1, .inl (cI, 7195, .inl (ftCh (ftAdC w kq pq lq rq) (ftPush w z hm) z)))] := by rw [ftCh_t hC, ftCh_t hC, ftCh_t hC]
                      rw [hw9] at hP hD
                      exact W.iret (v := nI (ftPosW w pq (ftCN w))) hx hb hr (fun t ht hW => ⟨⟨nI (ftPosW w pq (ftCN w)), (), rfl, (by show (nI (ftPosW w pq (ftCN w)) : Int32) = ftAdA w kq pq lq rq; rw [ftAdA, ftIte_t hV, ftIte_t c109, ftIte_f c123]), by rw [ht]; exact hP, by rw [hAe]; exact hD⟩, by rw [hAe]; exact hS.F ht⟩) hS.2.2 dX11_addPart_145
                    · have hC : ¬ ftAdC w kq pq lq rq := fun q => q.2.2 c123
                      refine lv_ldc (v := (-1000003)) hx hb hown (hts (.constant RX11 99 (-1000003)) (by decide +kernel)) dX11_addPart_126 ?_
                      have hw9 : ([(m0, .inr (11, [.ref p0, .ref p1, .int (nI hm), .ref p3, .int i4, .ref p5, .int i6, .int i7, .int i8, .int i9, .ref p10, .int i11, .ref p12, .ref p13, .ref p14, .int i15, .ref p16, .ref p17, .int i18, .ref p19, .ref p20, .ref p21, .ref p22, .int i23, .int i24, .ref p25, .ref p26, .ref p27, .ref p28, .ref p29, .ref p30, .ref p31, .ref p32])), (p0, .inl (cI, 1439, .inl w)), (p1, .inl (cI, 7195, .inl z))] : va_W) = [(m0, .inr (11, [.ref p0, .ref p1, .int (nI (ftCh (ftAdC w kq pq lq rq) (min (hm + 1) 5) hm)), .ref p3, .int i4, .ref p5, .int i6, .int i7, .int i8, .int i9, .ref p10, .int i11, .ref p12, .ref p13, .ref p14, .int i15, .ref p16, .ref p17, .int i18, .ref p19, .ref p20, .ref p21, .ref p22, .int i23, .int i24, .ref p25, .ref p26, .ref p27, .ref p28, .ref p29, .ref p30, .ref p31, .ref p32])), (p0, .inl (cI, 1439, .inl (ftCh (ftAdC w kq pq lq rq) (ftAdd w (ftCN w) kq pq lq rq) w))), (p1, .inl (cI, 7195, .inl (ftCh (ftAdC w kq pq lq rq) (ftPush w z hm) z)))] := by rw [ftCh_f hC, ftCh_f hC, ftCh_f hC]
                      rw [hw9] at hP hD
                      exact W.iret (v := (-1000003)) hx hb hr (fun t ht hW => ⟨⟨(-1000003), (), rfl, (by show ((-1000003) : Int32) = ftAdA w kq pq lq rq; rw [ftAdA, ftIte_t hV, ftIte_t c109, ftIte_t c123]), by rw [ht]; exact hP, by rw [hAe]; exact hD⟩, by rw [hAe]; exact hS.F ht⟩) hS.2.2 dX11_addPart_128
                  · have hC : ¬ ftAdC w kq pq lq rq := fun q => c109 q.2.1
                    refine lv_ldc (v := (-1000002)) hx hb hown (hts (.constant RX11 86 (-1000002)) (by decide +kernel)) dX11_addPart_112 ?_
                    have hw9 : ([(m0, .inr (11, [.ref p0, .ref p1, .int (nI hm), .ref p3, .int i4, .ref p5, .int i6, .int i7, .int i8, .int i9, .ref p10, .int i11, .ref p12, .ref p13, .ref p14, .int i15, .ref p16, .ref p17, .int i18, .ref p19, .ref p20, .ref p21, .ref p22, .int i23, .int i24, .ref p25, .ref p26, .ref p27, .ref p28, .ref p29, .ref p30, .ref p31, .ref p32])), (p0, .inl (cI, 1439, .inl w)), (p1, .inl (cI, 7195, .inl z))] : va_W) = [(m0, .inr (11, [.ref p0, .ref p1, .int (nI (ftCh (ftAdC w kq pq lq rq) (min (hm + 1) 5) hm)), .ref p3, .int i4, .ref p5, .int i6, .int i7, .int i8, .int i9, .ref p10, .int i11, .ref p12, .ref p13, .ref p14, .int i15, .ref p16, .ref p17, .int i18, .ref p19, .ref p20, .ref p21, .ref p22, .int i23, .int i24, .ref p25, .ref p26, .ref p27, .ref p28, .ref p29, .ref p30, .ref p31, .ref p32])), (p0, .inl (cI, 1439, .inl (ftCh (ftAdC w kq pq lq rq) (ftAdd w (ftCN w) kq pq lq rq) w))), (p1, .inl (cI, 7195, .inl (ftCh (ftAdC w kq pq lq rq) (ftPush w z hm) z)))] := by rw [ftCh_f hC, ftCh_f hC, ftCh_f hC]
                    rw [hw9] at hP hD
                    exact W.iret (v := (-1000002)) hx hb hr (fun t ht hW => ⟨⟨(-1000002), (), rfl, (by show ((-1000002) : Int32) = ftAdA w kq pq lq rq; rw [ftAdA, ftIte_t hV, ftIte_f c109]), by rw [ht]; exact hP, by rw [hAe]; exact hD⟩, by rw [hAe]; exact hS.F ht⟩) hS.2.2 dX11_addPart_114
                · replace c98 := ftB_eq c98
                  have hno : ¬ ftAdV w kq pq lq rq := by
                    intro q
                    have q2 := q.2
                    rw [h71, h83] at q2
                    exact c98 q2
                  have hC : ¬ ftAdC w kq pq lq rq := fun q => hno q.1
                  refine lv_ldc (v := (-1000001)) hx hb hown (hts (.constant RX11 95 (-1000001)) (by decide +kernel)) dX11_addPart_101 ?_
                  have hw9 : ([(m0, .inr (11, [.ref p0, .ref p1, .int (nI hm), .ref p3, .int i4, .ref p5, .int i6, .int i7, .int i8, .int i9, .ref p10, .int i11, .ref p12, .ref p13, .ref p14, .int i15, .ref p16, .ref p17, .int i18, .ref p19, .ref p20, .ref p21, .ref p22, .int i23, .int i24, .ref p25, .ref p26, .ref p27, .ref p28, .ref p29, .ref p30, .ref p31, .ref p32])), (p0, .inl (cI, 1439, .inl w)), (p1, .inl (cI, 7195, .inl z))] : va_W) = [(m0, .inr (11, [.ref p0, .ref p1, .int (nI (ftCh (ftAdC w kq pq lq rq) (min (hm + 1) 5) hm)), .ref p3, .int i4, .ref p5, .int i6, .int i7, .int i8, .int i9, .ref p10, .int i11, .ref p12, .ref p13, .ref p14, .int i15, .ref p16, .ref p17, .int i18, .ref p19, .ref p20, .ref p21, .ref p22, .int i23, .int i24, .ref p25, .ref p26, .ref p27, .ref p28, .ref p29, .ref p30, .ref p31, .ref p32])), (p0, .inl (cI, 1439, .inl (ftCh (ftAdC w kq pq lq rq) (ftAdd w (ftCN w) kq pq lq rq) w))), (p1, .inl (cI, 7195, .inl (ftCh (ftAdC w kq pq lq rq) (ftPush w z hm) z)))] := by rw [ftCh_f hC, ftCh_f hC, ftCh_f hC]
                  rw [hw9] at hP hD
                  exact W.iret (v := (-1000001)) hx hb hr (fun t ht hW => ⟨⟨(-1000001), (), rfl, (by show ((-1000001) : Int32) = ftAdA w kq pq lq rq; rw [ftAdA, ftIte_f hno]), by rw [ht]; exact hP, by rw [hAe]; exact hD⟩, by rw [hAe]; exact hS.F ht⟩) hS.2.2 dX11_addPart_103
            · have h71 : (if kq = 0 then (-500 : Int32) else 0) = -500 := if_pos c71
              refine lv_ldc2 (v := (-500)) hx hb hown (hts (.constantLong RX11 128 (-500)) (by decide +kernel)) dX11_addPart_74 ?_
              refine lv_goto (tgt := 81) hx hb dX11_addPart_77 (by decide) ?_
              refine lv_iload_n hx hb dX11_addPart_81 rfl (lv_at hl 2 rfl) ?_
              refine lv_iconst (v := 2) hx hb dX11_addPart_82 (by decide) ?_
              refine lv_icmp_ne (tgt := 92) hx hb dX11_addPart_83 (by decide) (fun c83 => ?_) (fun c83 => ?_)
              · have h83 : (if kq = 2 then (50 : Int32) else 5000) = 5000 := if_neg c83
                refine lv_ldc2 (v := 5000) hx hb hown (hts (.constantLong RX11 130 5000) (by decide +kernel)) dX11_addPart_92 ?_
                refine ft_csi (r := ftB ((-500) ≤ lq.toInt64 ∧ lq.toInt64 ≤ 5000)) (va_runS (As := [.long lq.toInt64, .long (-500), .long 5000]) (rest := []) ⟨hx, hb, hml, hown, hts⟩ (c_X11_in l D cI cS lq.toInt64 (-500) 5000) (va_cwS 3 hts gX11_addPart_X11_in rfl rfl rfl (by decide +kernel) ⟨Nat.le_of_ble_eq_true rfl, Nat.le_of_ble_eq_true rfl⟩) (ft_preRO hP hKK [] rfl) rfl rfl hl.1 rfl (lv_room (Nat.le_of_ble_eq_true rfl)) dX11_addPart_95 ⟨Nat.le_of_ble_eq_true rfl, Nat.le_of_ble_eq_true rfl⟩) ?_
                refine ft_top (y := ftB ((-500) ≤ lq ∧ lq ≤ 5000)) (ft_in64 (by decide) (by decide)) ?_
                refine lv_if_ne (tgt := 104) hx hb dX11_addPart_98 (by decide) (fun c98 => ?_) (fun c98 => ?_)
                · replace c98 := ftB_ne c98
                  have hV : ftAdV w kq pq lq rq := ⟨⟨c9, c27, hre⟩, by rw [h71, h83]; exact c98⟩
                  refine lv_aload_n hx hb dX11_addPart_104 rfl (lv_at hl 1 rfl) ?_
                  refine lv_iload_n hx hb dX11_addPart_105 rfl (lv_at hl 3 rfl) ?_
                  refine ft_csi (r := ftPa w pq (ftCN w)) (va_runV (C := RX11) (As := [.int pq]) (rest := []) ⟨hx, hb, hml, hown, hts⟩ (c_X11_partAt l D cI cS m0 p0 p1 p3 p5 p10 p12 p13 p14 p16 p17 p19 p20 p21 p22 p25 p26 p27 p28 p29 p30 p31 p32 (nI hm) i4 i6 i7 i8 i9 i11 i15 i18 i23 i24 w pq (ftCN w) hw3 hn) (cwV 1 hts gX11_addPart_X11_partAt rfl rfl rfl (by decide +kernel) ⟨Nat.le_of_ble_eq_true rfl, Nat.le_of_ble_eq_true rfl⟩) (ft_preROV (ci := 11) (q0 := 0) hP hKK [0, 1] rfl rfl rfl) rfl rfl hl.1 rfl (lv_room (Nat.le_of_ble_eq_true rfl)) dX11_addPart_106 ⟨Nat.le_of_ble_eq_true rfl, Nat.le_of_ble_eq_true rfl⟩) ?_
                  refine lv_if_lt (tgt := 115) hx hb dX11_addPart_109 (by decide) (fun c109 => ?_) (fun c109 => ?_)
                  · refine lv_aload_n hx hb dX11_addPart_115 rfl (lv_at hl 1 rfl) ?_
                    refine va_get (D := D) (ci := 11) (v := .ref p0) (C := RX11) (T := TX11) (N := 33) hx hb hts (by decide +kernel) hown hK hP 0 rfl rfl 0 (by decide) (hts (.fieldLink RX11 7 "FiberTraceModel" "now" "[I") (by decide +kernel)) (fun _ h9 => h9) rfl dX11_addPart_116 ?_
                    refine lv_iconst (v := 3) hx hb dX11_addPart_119 (by decide) ?_
                    refine va_iald hx hb hK hP 1 0 rfl rfl (vp_in_nI (n := 3) (by omega) (by omega)) dX11_addPart_120 ?_
                    refine ft_top (y := w 3) rfl ?_
                    refine lv_bipush (v := 10) hx hb dX11_addPart_121 (by decide) ?_
                    refine lv_icmp_ne (tgt := 129) hx hb dX11_addPart_123 (by decide) (fun c123 => ?_) (fun c123 => ?_)
                    · have hC : ftAdC w kq pq lq rq := ⟨hV, c109, c123⟩
                      have hn10 : ftCN w ≠ 10 := fun r => c123 (by rw [hw3, r]; rfl)
                      refine lv_aload_n hx hb dX11_addPart_129 rfl (lv_at hl 1 rfl) ?_
                      refine ft_cv (wc := [(m0, .inr (11, [.ref p0, .ref p1, .int (nI hm), .ref p3, .int i4, .ref p5, .int i6, .int i7, .int i8, .int i9, .ref p10, .int i11, .ref p12, .ref p13, .ref p14, .int i15, .ref p16, .ref p17, .int i18, .ref p19, .ref p20, .ref p21, .ref p22, .int i23, .int i24, .ref p25, .ref p26, .ref p27, .ref p28, .ref p29, .ref p30, .ref p31, .ref p32])), (p0, .inl (cI, 1439, .inl w)), (p1, .inl (cI, 7195, .inl z))]) (wr := []) (w1 := [(m0, .inr (11, [.ref p0, .ref p1, .int (nI (min (hm + 1) 5)), .ref p3, .int i4, .ref p5, .int i6, .int i7, .int i8, .int i9, .ref p10, .int i11, .ref p12, .ref p13, .ref p14, .int i15, .ref p16, .ref p17, .int i18, .ref p19, .ref p20, .ref p21, .ref p22, .int i23, .int i24, .ref p25, .ref p26, .ref p27, .ref p28, .ref p29, .ref p30, .ref p31, .ref p32])), (p0, .inl (cI, 1439, .inl w)), (p1, .inl (cI, 7195, .inl (ftPush w z hm)))]) (ws1 := [(m0, .inr (11, [.ref p0, .ref p1, .int (nI (min (hm + 1) 5)), .ref p3, .int i4, .ref p5, .int i6, .int i7, .int i8, .int i9, .ref p10, .int i11, .ref p12, .ref p13, .ref p14, .int i15, .ref p16, .ref p17, .int i18, .ref p19, .ref p20, .ref p21, .ref p22, .int i23, .int i24, .ref p25, .ref p26, .ref p27, .ref p28, .ref p29, .ref p30, .ref p31, .ref p32])), (p0, .inl (cI, 1439, .inl w)), (p1, .inl (cI, 7195, .inl (ftPush w z hm)))]) (va_runV (C := RX11) (As := []) (rest := []) ⟨hx, hb, hml, hown, hts⟩ (c_X11_change l D cI cS s.heap.size m0 p0 p1 p3 p5 p10 p12 p13 p14 p16 p17 p19 p20 p21 p22 p25 p26 p27 p28 p29 p30 p31 p32 i4 i6 i7 i8 i9 i11 i15 i18 i23 i24 w z hm hhm) (cwV 0 hts gX11_addPart_X11_change rfl rfl rfl (by decide +kernel) ⟨Nat.le_of_ble_eq_true rfl, Nat.le_of_ble_eq_true rfl⟩) (ft_preRWV (ci := 11) (q0 := 0) hP hD hKK [0, 1, 2] rfl rfl rfl rfl rfl) rfl rfl hl.1 rfl (lv_room (Nat.le_of_ble_eq_true rfl)) dX11_addPart_130 ⟨Nat.le_of_ble_eq_true rfl, Nat.le_of_ble_eq_true rfl⟩) hP hD hS hA [0, 1, 2] [] [0, 1, 2] rfl rfl (by decide) (by decide) (by decide) rfl rfl (fun H locs hP hD hS => ?_)
                      have hP : va_P D vwCl [(m0, .inr (11, [.ref p0, .ref p1, .int (nI (min (hm + 1) 5)), .ref p3, .int i4, .ref p5, .int i6, .int i7, .int i8, .int i9, .ref p10, .int i11, .ref p12, .ref p13, .ref p14, .int i15, .ref p16, .ref p17, .int i18, .ref p19, .ref p20, .ref p21, .ref p22, .int i23, .int i24, .ref p25, .ref p26, .ref p27, .ref p28, .ref p29, .ref p30, .ref p31, .ref p32])), (p0, .inl (cI, 1439, .inl w)), (p1, .inl (cI, 7195, .inl (ftPush w z hm)))] H := hP
                      have hD : va_D A [(m0, .inr (11, [.ref p0, .ref p1, .int (nI (min (hm + 1) 5)), .ref p3, .int i4, .ref p5, .int i6, .int i7, .int i8, .int i9, .ref p10, .int i11, .ref p12, .ref p13, .ref p14, .int i15, .ref p16, .ref p17, .int i18, .ref p19, .ref p20, .ref p21, .ref p22, .int i23, .int i24, .ref p25, .ref p26, .ref p27, .ref p28, .ref p29, .ref p30, .ref p31, .ref p32])), (p0, .inl (cI, 1439, .inl w)), (p1, .inl (cI, 7195, .inl (ftPush w z hm)))] := hD
                      refine lv_aload_n hx hb dX11_addPart_133 rfl (lv_at hl 1 rfl) ?_
                      refine va_get (D := D) (ci := 11) (v := .ref p0) (C := RX11) (T := TX11) (N := 33) hx hb hts (by decide +kernel) hown hK hP 0 rfl rfl 0 (by decide) (hts (.fieldLink RX11 7 "FiberTraceModel" "now" "[I") (by decide +kernel)) (fun _ h9 => h9) rfl dX11_addPart_134 ?_
                      refine lv_iload_n hx hb dX11_addPart_137 rfl (lv_at hl 2 rfl) ?_
                      refine lv_iload_n hx hb dX11_addPart_138 rfl (lv_at hl 3 rfl) ?_
                      refine lv_iload_n hx hb dX11_addPart_139 rfl (lv_at hl 4 rfl) ?_
                      refine lv_iload hx hb dX11_addPart_140 (lv_at hl 5 rfl) ?_
                      refine ft_ci (r := nI (ftPosW w pq (ftCN w))) (wc := [(p0, .inl (cI, 1439, .inl w))]) (wr := [(m0, .inr (11, [.ref p0, .ref p1, .int (nI (min (hm + 1) 5)), .ref p3, .int i4, .ref p5, .int i6, .int i7, .int i8, .int i9, .ref p10, .int i11, .ref p12, .ref p13, .ref p14, .int i15, .ref p16, .ref p17, .int i18, .ref p19, .ref p20, .ref p21, .ref p22, .int i23, .int i24, .ref p25, .ref p26, .ref p27, .ref p28, .ref p29, .ref p30, .ref p31, .ref p32])), (p1, .inl (cI, 7195, .inl (ftPush w z hm)))]) (w1 := [(p0, .inl (cI, 1439, .inl (ftAdd w (ftCN w) kq pq lq rq)))]) (ws1 := [(m0, .inr (11, [.ref p0, .ref p1, .int (nI (min (hm + 1) 5)), .ref p3, .int i4, .ref p5, .int i6, .int i7, .int i8, .int i9, .ref p10, .int i11, .ref p12, .ref p13, .ref p14, .int i15, .ref p16, .ref p17, .int i18, .ref p19, .ref p20, .ref p21, .ref p22, .int i23, .int i24, .ref p25, .ref p26, .ref p27, .ref p28, .ref p29, .ref p30, .ref p31, .ref p32])), (p0, .inl (cI, 1439, .inl (ftAdd w (ftCN w) kq pq lq rq))), (p1, .inl (cI, 7195, .inl (ftPush w z hm)))]) (va_runS (As := [.ref p0, .int kq, .int pq, .int lq, .int rq]) (rest := []) ⟨hx, hb, hml, hown, hts⟩ (c_X11_comes l D cI cS H.size p0 1439 w (ftCN w) kq pq lq rq hw3 (by omega) (by omega) (by omega)) (va_cwS 5 hts gX11_addPart_X11_comes rfl rfl rfl (by decide +kernel) ⟨Nat.le_of_ble_eq_true rfl, Nat.le_of_ble_eq_true rfl⟩) (ft_preRW hP hD hKK [1] rfl rfl rfl) rfl rfl hl.1 rfl (lv_room (Nat.le_of_ble_eq_true rfl)) dX11_addPart_142 ⟨Nat.le_of_ble_eq_true rfl, Nat.le_of_ble_eq_true rfl⟩) hP hD hS hA [1] [0, 2] [0, 2, 1] rfl rfl (by decide) (by decide) (by decide) rfl rfl (fun H locs hP hD hS => ?_)
                      have hP : va_P D vwCl [(m0, .inr (11, [.ref p0, .ref p1, .int (nI (min (hm + 1) 5)), .ref p3, .int i4, .ref p5, .int i6, .int i7, .int i8, .int i9, .ref p10, .int i11, .ref p12, .ref p13, .ref p14, .int i15, .ref p16, .ref p17, .int i18, .ref p19, .ref p20, .ref p21, .ref p22, .int i23, .int i24, .ref p25, .ref p26, .ref p27, .ref p28, .ref p29, .ref p30, .ref p31, .ref p32])), (p0, .inl (cI, 1439, .inl (ftAdd w (ftCN w) kq pq lq rq))), (p1, .inl (cI, 7195, .inl (ftPush w z hm)))] H := hP
                      have hD : va_D A [(m0, .inr (11, [.ref p0, .ref p1, .int (nI (min (hm + 1) 5)), .ref p3, .int i4, .ref p5, .int i6, .int i7, .int i8, .int i9, .ref p10, .int i11, .ref p12, .ref p13, .ref p14, .int i15, .ref p16, .ref p17, .int i18, .ref p19, .ref p20, .ref p21, .ref p22, .int i23, .int i24, .ref p25, .ref p26, .ref p27, .ref p28, .ref p29, .ref p30, .ref p31, .ref p32])), (p0, .inl (cI, 1439, .inl (ftAdd w (ftCN w) kq pq lq rq))), (p1, .inl (cI, 7195, .inl (ftPush w z hm)))] := hD
                      have hw9 : ([(m0, .inr (11, [.ref p0, .ref p1, .int (nI (min (hm + 1) 5)), .ref p3, .int i4, .ref p5, .int i6, .int i7, .int i8, .int i9, .ref p10, .int i11, .ref p12, .ref p13, .ref p14, .int i15, .ref p16, .ref p17, .int i18, .ref p19, .ref p20, .ref p21, .ref p22, .int i23, .int i24, .ref p25, .ref p26, .ref p27, .ref p28, .ref p29, .ref p30, .ref p31, .ref p32])), (p0, .inl (cI, 1439, .inl (ftAdd w (ftCN w) kq pq lq rq))), (p1, .inl (cI, 7195, .inl (ftPush w z hm)))] : va_W) = [(m0, .inr (11, [.ref p0, .ref p1, .int (nI (ftCh (ftAdC w kq pq lq rq) (min (hm + 1) 5) hm)), .ref p3, .int i4, .ref p5, .int i6, .int i7, .int i8, .int i9, .ref p10, .int i11, .ref p12, .ref p13, .ref p14, .int i15, .ref p16, .ref p17, .int i18, .ref p19, .ref p20, .ref p21, .ref p22, .int i23, .int i24, .ref p25, .ref p26, .ref p27, .ref p28, .ref p29, .ref p30, .ref p31, .ref p32])), (p0, .inl (cI, 1439, .inl (ftCh (ftAdC w kq pq lq rq) (ftAdd w (ftCN w) kq pq lq rq) w))), (p1, .inl (cI, 7195, .inl (ftCh (ftAdC w kq pq lq rq) (ftPush w z hm) z)))] := by rw [ftCh_t hC, ftCh_t hC, ftCh_t hC]
                      rw [hw9] at hP hD
                      exact W.iret (v := nI (ftPosW w pq (ftCN w))) hx hb hr (fun t ht hW => ⟨⟨nI (ftPosW w pq (ftCN w)), (), rfl, (by show (nI (ftPosW w pq (ftCN w)) : Int32) = ftAdA w kq pq lq rq; rw [ftAdA, ftIte_t hV, ftIte_t c109, ftIte_f c123]), by rw [ht]; exact hP, by rw [hAe]; exact hD⟩, by rw [hAe]; exact hS.F ht⟩) hS.2.2 dX11_addPart_145
                    · have hC : ¬ ftAdC w kq pq lq rq := fun q => q.2.2 c123
                      refine lv_ldc (v := (-1000003)) hx hb hown (hts (.constant RX11 99 (-1000003)) (by decide +kernel)) dX11_addPart_126 ?_
                      have hw9 : ([(m0, .inr (11, [.ref p0, .ref p1, .int (nI hm), .ref p3, .int i4, .ref p5, .int i6, .int i7, .int i8, .int i9, .ref p10, .int i11, .ref p12, .ref p13, .ref p14, .int i15, .ref p16, .ref p17, .int i18, .ref p19, .ref p20, .ref p21, .ref p22, .int i23, .int i24, .ref p25, .ref p26, .ref p27, .ref p28, .ref p29, .ref p30, .ref p31, .ref p32])), (p0, .inl (cI, 1439, .inl w)), (p1, .inl (cI, 7195, .inl z))] : va_W) = [(m0, .inr (11, [.ref p0, .ref p1, .int (nI (ftCh (ftAdC w kq pq lq rq) (min (hm + 1) 5) hm)), .ref p3, .int i4, .ref p5, .int i6, .int i7, .int i8, .int i9, .ref p10, .int i11, .ref p12, .ref p13, .ref p14, .int i15, .ref p16, .ref p17, .int i18, .ref p19, .ref p20, .ref p21, .ref p22, .int i23, .int i24, .ref p25, .ref p26, .ref p27, .ref p28, .ref p29, .ref p30, .ref p31, .ref p32])), (p0, .inl (cI, 1439, .inl (ftCh (ftAdC w kq pq lq rq) (ftAdd w (ftCN w) kq pq lq rq) w))), (p1, .inl (cI, 7195, .inl (ftCh (ftAdC w kq pq lq rq) (ftPush w z hm) z)))] := by rw [ftCh_f hC, ftCh_f hC, ftCh_f hC]
                      rw [hw9] at hP hD
                      exact W.iret (v := (-1000003)) hx hb hr (fun t ht hW => ⟨⟨(-1000003), (), rfl, (by show ((-1000003) : Int32) = ftAdA w kq pq lq rq; rw [ftAdA, ftIte_t hV, ftIte_t c109, ftIte_t c123]), by rw [ht]; exact hP, by rw [hAe]; exact hD⟩, by rw [hAe]; exact hS.F ht⟩) hS.2.2 dX11_addPart_128
                  · have hC : ¬ ftAdC w kq pq lq rq := fun q => c109 q.2.1
                    refine lv_ldc (v := (-1000002)) hx hb hown (hts (.constant RX11 86 (-1000002)) (by decide +kernel)) dX11_addPart_112 ?_
                    have hw9 : ([(m0, .inr (11, [.ref p0, .ref p1, .int (nI hm), .ref p3, .int i4, .ref p5, .int i6, .int i7, .int i8, .int i9, .ref p10, .int i11, .ref p12, .ref p13, .ref p14, .int i15, .ref p16, .ref p17, .int i18, .ref p19, .ref p20, .ref p21, .ref p22, .int i23, .int i24, .ref p25, .ref p26, .ref p27, .ref p28, .ref p29, .ref p30, .ref p31, .ref p32])), (p0, .inl (cI, 1439, .inl w)), (p1, .inl (cI, 7195, .inl z))] : va_W) = [(m0, .inr (11, [.ref p0, .ref p1, .int (nI (ftCh (ftAdC w kq pq lq rq) (min (hm + 1) 5) hm)), .ref p3, .int i4, .ref p5, .int i6, .int i7, .int i8, .int i9, .ref p10, .int i11, .ref p12, .ref p13, .ref p14, .int i15, .ref p16, .ref p17, .int i18, .ref p19, .ref p20, .ref p21, .ref p22, .int i23, .int i24, .ref p25, .ref p26, .ref p27, .ref p28, .ref p29, .ref p30, .ref p31, .ref p32])), (p0, .inl (cI, 1439, .inl (ftCh (ftAdC w kq pq lq rq) (ftAdd w (ftCN w) kq pq lq rq) w))), (p1, .inl (cI, 7195, .inl (ftCh (ftAdC w kq pq lq rq) (ftPush w z hm) z)))] := by rw [ftCh_f hC, ftCh_f hC, ftCh_f hC]
                    rw [hw9] at hP hD
                    exact W.iret (v := (-1000002)) hx hb hr (fun t ht hW => ⟨⟨(-1000002), (), rfl, (by show ((-1000002) : Int32) = ftAdA w kq pq lq rq; rw [ftAdA, ftIte_t hV, ftIte_f c109]), by rw [ht]; exact hP, by rw [hAe]; exact hD⟩, by rw [hAe]; exact hS.F ht⟩) hS.2.2 dX11_addPart_114
                · replace c98 := ftB_eq c98
                  have hno : ¬ ftAdV w kq pq lq rq := by
                    intro q
                    have q2 := q.2
                    rw [h71, h83] at q2
                    exact c98 q2
                  have hC : ¬ ftAdC w kq pq lq rq := fun q => hno q.1
                  refine lv_ldc (v := (-1000001)) hx hb hown (hts (.constant RX11 95 (-1000001)) (by decide +kernel)) dX11_addPart_101 ?_
                  have hw9 : ([(m0, .inr (11, [.ref p0, .ref p1, .int (nI hm), .ref p3, .int i4, .ref p5, .int i6, .int i7, .int i8, .int i9, .ref p10, .int i11, .ref p12, .ref p13, .ref p14, .int i15, .ref p16, .ref p17, .int i18, .ref p19, .ref p20, .ref p21, .ref p22, .int i23, .int i24, .ref p25, .ref p26, .ref p27, .ref p28, .ref p29, .ref p30, .ref p31, .ref p32])), (p0, .inl (cI, 1439, .inl w)), (p1, .inl (cI, 7195, .inl z))] : va_W) = [(m0, .inr (11, [.ref p0, .ref p1, .int (nI (ftCh (ftAdC w kq pq lq rq) (min (hm + 1) 5) hm)), .ref p3, .int i4, .ref p5, .int i6, .int i7, .int i8, .int i9, .ref p10, .int i11, .ref p12, .ref p13, .ref p14, .int i15, .ref p16, .ref p17, .int i18, .ref p19, .ref p20, .ref p21, .ref p22, .int i23, .int i24, .ref p25, .ref p26, .ref p27, .ref p28, .ref p29, .ref p30, .ref p31, .ref p32])), (p0, .inl (cI, 1439, .inl (ftCh (ftAdC w kq pq lq rq) (ftAdd w (ftCN w) kq pq lq rq) w))), (p1, .inl (cI, 7195, .inl (ftCh (ftAdC w kq pq lq rq) (ftPush w z hm) z)))] := by rw [ftCh_f hC, ftCh_f hC, ftCh_f hC]
                  rw [hw9] at hP hD
                  exact W.iret (v := (-1000001)) hx hb hr (fun t ht hW => ⟨⟨(-1000001), (), rfl, (by show ((-1000001) : Int32) = ftAdA w kq pq lq rq; rw [ftAdA, ftIte_f hno]), by rw [ht]; exact hP, by rw [hAe]; exact hD⟩, by rw [hAe]; exact hS.F ht⟩) hS.2.2 dX11_addPart_103
              · exact absurd (c71.symm.trans c83) (by decide)
      · refine lv_iload hx hb dX11_addPart_35 (lv_at hl 4 rfl) ?_
        refine lv_i2l (v := rq.toInt64) hx hb dX11_addPart_37 rfl ?_
        refine lv_lconst (v := 1) hx hb dX11_addPart_38 (by decide) ?_
        refine lv_ldc2 (v := 20000) hx hb hown (hts (.constantLong RX11 126 20000) (by decide +kernel)) dX11_addPart_39 ?_
        refine ft_csi (r := ftB (1 ≤ rq.toInt64 ∧ rq.toInt64 ≤ 20000)) (va_runS (As := [.long rq.toInt64, .long 1, .long 20000]) (rest := []) ⟨hx, hb, hml, hown, hts⟩ (c_X11_in l D cI cS rq.toInt64 1 20000) (va_cwS 3 hts gX11_addPart_X11_in rfl rfl rfl (by decide +kernel) ⟨Nat.le_of_ble_eq_true rfl, Nat.le_of_ble_eq_true rfl⟩) (ft_preRO hP hKK [] rfl) rfl rfl hl.1 rfl (lv_room (Nat.le_of_ble_eq_true rfl)) dX11_addPart_42 ⟨Nat.le_of_ble_eq_true rfl, Nat.le_of_ble_eq_true rfl⟩) ?_
        refine ft_top (y := ftB (1 ≤ rq ∧ rq ≤ 20000)) (ft_in64 (by decide) (by decide)) ?_
        refine lv_if_eq (tgt := 60) hx hb dX11_addPart_45 (by decide) (fun c45 => ?_) (fun c45 => ?_)
        · replace c45 := ftB_eq c45
          have hno : ¬ ftAdV w kq pq lq rq := fun q => q.1.2.2.elim (fun r => c45 r.2) (fun r => r.1 c32)
          refine lv_iconst (v := 0) hx hb dX11_addPart_60 (by decide) ?_
          refine lv_istore (lv' := [(5, .int 0), (0, .ref m0), (1, .int kq), (2, .int pq), (3, .int lq), (4, .int rq)]) hx hb dX11_addPart_61 hl (by decide) rfl (fun ls hl => ?_)
          refine lv_iload hx hb dX11_addPart_63 (lv_at hl 0 rfl) ?_
          refine lv_if_eq (tgt := 101) hx hb dX11_addPart_65 (by decide) (fun c65 => ?_) (fun c65 => ?_)
          · have hC : ¬ ftAdC w kq pq lq rq := fun q => hno q.1
            refine lv_ldc (v := (-1000001)) hx hb hown (hts (.constant RX11 95 (-1000001)) (by decide +kernel)) dX11_addPart_101 ?_
            have hw9 : ([(m0, .inr (11, [.ref p0, .ref p1, .int (nI hm), .ref p3, .int i4, .ref p5, .int i6, .int i7, .int i8, .int i9, .ref p10, .int i11, .ref p12, .ref p13, .ref p14, .int i15, .ref p16, .ref p17, .int i18, .ref p19, .ref p20, .ref p21, .ref p22, .int i23, .int i24, .ref p25, .ref p26, .ref p27, .ref p28, .ref p29, .ref p30, .ref p31, .ref p32])), (p0, .inl (cI, 1439, .inl w)), (p1, .inl (cI, 7195, .inl z))] : va_W) = [(m0, .inr (11, [.ref p0, .ref p1, .int (nI (ftCh (ftAdC w kq pq lq rq) (min (hm + 1) 5) hm)), .ref p3, .int i4, .ref p5, .int i6, .int i7, .int i8, .int i9, .ref p10, .int i11, .ref p12, .ref p13, .ref p14, .int i15, .ref p16, .ref p17, .int i18, .ref p19, .ref p20, .ref p21, .ref p22, .int i23, .int i24, .ref p25, .ref p26, .ref p27, .ref p28, .ref p29, .ref p30, .ref p31, .ref p32])), (p0, .inl (cI, 1439, .inl (ftCh (ftAdC w kq pq lq rq) (ftAdd w (ftCN w) kq pq lq rq) w))), (p1, .inl (cI, 7195, .inl (ftCh (ftAdC w kq pq lq rq) (ftPush w z hm) z)))] := by rw [ftCh_f hC, ftCh_f hC, ftCh_f hC]
            rw [hw9] at hP hD
            exact W.iret (v := (-1000001)) hx hb hr (fun t ht hW => ⟨⟨(-1000001), (), rfl, (by show ((-1000001) : Int32) = ftAdA w kq pq lq rq; rw [ftAdA, ftIte_f hno]), by rw [ht]; exact hP, by rw [hAe]; exact hD⟩, by rw [hAe]; exact hS.F ht⟩) hS.2.2 dX11_addPart_103
          · exact absurd rfl c65
        · replace c45 := ftB_ne c45
          have hre : (kq = 1 ∧ 1 ≤ rq ∧ rq ≤ 20000) ∨ (¬ kq = 1 ∧ rq = 0) := Or.inl ⟨c32, c45⟩
          refine lv_goto (tgt := 56) hx hb dX11_addPart_48 (by decide) ?_
          refine lv_iconst (v := 1) hx hb dX11_addPart_56 (by decide) ?_
          refine lv_goto (tgt := 61) hx hb dX11_addPart_57 (by decide) ?_
          refine lv_istore (lv' := [(5, .int 1), (0, .ref m0), (1, .int kq), (2, .int pq), (3, .int lq), (4, .int rq)]) hx hb dX11_addPart_61 hl (by decide) rfl (fun ls hl => ?_)
          refine lv_iload hx hb dX11_addPart_63 (lv_at hl 0 rfl) ?_
          refine lv_if_eq (tgt := 101) hx hb dX11_addPart_65 (by decide) (fun c65 => ?_) (fun c65 => ?_)
          · exact absurd c65 (by decide)
          · refine lv_iload_n hx hb dX11_addPart_68 rfl (lv_at hl 4 rfl) ?_
            refine lv_i2l (v := lq.toInt64) hx hb dX11_addPart_69 rfl ?_
            refine lv_iload_n hx hb dX11_addPart_70 rfl (lv_at hl 2 rfl) ?_
            refine lv_if_ne (tgt := 80) hx hb dX11_addPart_71 (by decide) (fun c71 => ?_) (fun c71 => ?_)
            · have h71 : (if kq = 0 then (-500 : Int32) else 0) = 0 := if_neg c71
              refine lv_lconst (v := 0) hx hb dX11_addPart_80 (by decide) ?_
              refine lv_iload_n hx hb dX11_addPart_81 rfl (lv_at hl 2 rfl) ?_
              refine lv_iconst (v := 2) hx hb dX11_addPart_82 (by decide) ?_
              refine lv_icmp_ne (tgt := 92) hx hb dX11_addPart_83 (by decide) (fun c83 => ?_) (fun c83 => ?_)
              · have h83 : (if kq = 2 then (50 : Int32) else 5000) = 5000 := if_neg c83
                refine lv_ldc2 (v := 5000) hx hb hown (hts (.constantLong RX11 130 5000) (by decide +kernel)) dX11_addPart_92 ?_
                refine ft_csi (r := ftB (0 ≤ lq.toInt64 ∧ lq.toInt64 ≤ 5000)) (va_runS (As := [.long lq.toInt64, .long 0, .long 5000]) (rest := []) ⟨hx, hb, hml, hown, hts⟩ (c_X11_in l D cI cS lq.toInt64 0 5000) (va_cwS 3 hts gX11_addPart_X11_in rfl rfl rfl (by decide +kernel) ⟨Nat.le_of_ble_eq_true rfl, Nat.le_of_ble_eq_true rfl⟩) (ft_preRO hP hKK [] rfl) rfl rfl hl.1 rfl (lv_room (Nat.le_of_ble_eq_true rfl)) dX11_addPart_95 ⟨Nat.le_of_ble_eq_true rfl, Nat.le_of_ble_eq_true rfl⟩) ?_
                refine ft_top (y := ftB (0 ≤ lq ∧ lq ≤ 5000)) (ft_in64 (by decide) (by decide)) ?_
                refine lv_if_ne (tgt := 104) hx hb dX11_addPart_98 (by decide) (fun c98 => ?_) (fun c98 => ?_)
                · replace c98 := ftB_ne c98
                  have hV : ftAdV w kq pq lq rq := ⟨⟨c9, c27, hre⟩, by rw [h71, h83]; exact c98⟩
                  refine lv_aload_n hx hb dX11_addPart_104 rfl (lv_at hl 1 rfl) ?_
                  refine lv_iload_n hx hb dX11_addPart_105 rfl (lv_at hl 3 rfl) ?_
                  refine ft_csi (r := ftPa w pq (ftCN w)) (va_runV (C := RX11) (As := [.int pq]) (rest := []) ⟨hx, hb, hml, hown, hts⟩ (c_X11_partAt l D cI cS m0 p0 p1 p3 p5 p10 p12 p13 p14 p16 p17 p19 p20 p21 p22 p25 p26 p27 p28 p29 p30 p31 p32 (nI hm) i4 i6 i7 i8 i9 i11 i15 i18 i23 i24 w pq (ftCN w) hw3 hn) (cwV 1 hts gX11_addPart_X11_partAt rfl rfl rfl (by decide +kernel) ⟨Nat.le_of_ble_eq_true rfl, Nat.le_of_ble_eq_true rfl⟩) (ft_preROV (ci := 11) (q0 := 0) hP hKK [0, 1] rfl rfl rfl) rfl rfl hl.1 rfl (lv_room (Nat.le_of_ble_eq_true rfl)) dX11_addPart_106 ⟨Nat.le_of_ble_eq_true rfl, Nat.le_of_ble_eq_true rfl⟩) ?_
                  refine lv_if_lt (tgt := 115) hx hb dX11_addPart_109 (by decide) (fun c109 => ?_) (fun c109 => ?_)
                  · refine lv_aload_n hx hb dX11_addPart_115 rfl (lv_at hl 1 rfl) ?_
                    refine va_get (D := D) (ci := 11) (v := .ref p0) (C := RX11) (T := TX11) (N := 33) hx hb hts (by decide +kernel) hown hK hP 0 rfl rfl 0 (by decide) (hts (.fieldLink RX11 7 "FiberTraceModel" "now" "[I") (by decide +kernel)) (fun _ h9 => h9) rfl dX11_addPart_116 ?_
                    refine lv_iconst (v := 3) hx hb dX11_addPart_119 (by decide) ?_
                    refine va_iald hx hb hK hP 1 0 rfl rfl (vp_in_nI (n := 3) (by omega) (by omega)) dX11_addPart_120 ?_
                    refine ft_top (y := w 3) rfl ?_
                    refine lv_bipush (v := 10) hx hb dX11_addPart_121 (by decide) ?_
                    refine lv_icmp_ne (tgt := 129) hx hb dX11_addPart_123 (by decide) (fun c123 => ?_) (fun c123 => ?_)
                    · have hC : ftAdC w kq pq lq rq := ⟨hV, c109, c123⟩
                      have hn10 : ftCN w ≠ 10 := fun r => c123 (by rw [hw3, r]; rfl)
                      refine lv_aload_n hx hb dX11_addPart_129 rfl (lv_at hl 1 rfl) ?_
                      refine ft_cv (wc := [(m0, .inr (11, [.ref p0, .ref p1, .int (nI hm), .ref p3, .int i4, .ref p5, .int i6, .int i7, .int i8, .int i9, .ref p10, .int i11, .ref p12, .ref p13, .ref p14, .int i15, .ref p16, .ref p17, .int i18, .ref p19, .ref p20, .ref p21, .ref p22, .int i23, .int i24, .ref p25, .ref p26, .ref p27, .ref p28, .ref p29, .ref p30, .ref p31, .ref p32])), (p0, .inl (cI, 1439, .inl w)), (p1, .inl (cI, 7195, .inl z))]) (wr := []) (w1 := [(m0, .inr (11, [.ref p0, .ref p1, .int (nI (min (hm + 1) 5)), .ref p3, .int i4, .ref p5, .int i6, .int i7, .int i8, .int i9, .ref p10, .int i11, .ref p12, .ref p13, .ref p14, .int i15, .ref p16, .ref p17, .int i18, .ref p19, .ref p20, .ref p21, .ref p22, .int i23, .int i24, .ref p25, .ref p26, .ref p27, .ref p28, .ref p29, .ref p30, .ref p31, .ref p32])), (p0, .inl (cI, 1439, .inl w)), (p1, .inl (cI, 7195, .inl (ftPush w z hm)))]) (ws1 := [(m0, .inr (11, [.ref p0, .ref p1, .int (nI (min (hm + 1) 5)), .ref p3, .int i4, .ref p5, .int i6, .int i7, .int i8, .int i9, .ref p10, .int i11, .ref p12, .ref p13, .ref p14, .int i15, .ref p16, .ref p17, .int i18, .ref p19, .ref p20, .ref p21, .ref p22, .int i23, .int i24, .ref p25, .ref p26, .ref p27, .ref p28, .ref p29, .ref p30, .ref p31, .ref p32])), (p0, .inl (cI, 1439, .inl w)), (p1, .inl (cI, 7195, .inl (ftPush w z hm)))]) (va_runV (C := RX11) (As := []) (rest := []) ⟨hx, hb, hml, hown, hts⟩ (c_X11_change l D cI cS s.heap.size m0 p0 p1 p3 p5 p10 p12 p13 p14 p16 p17 p19 p20 p21 p22 p25 p26 p27 p28 p29 p30 p31 p32 i4 i6 i7 i8 i9 i11 i15 i18 i23 i24 w z hm hhm) (cwV 0 hts gX11_addPart_X11_change rfl rfl rfl (by decide +kernel) ⟨Nat.le_of_ble_eq_true rfl, Nat.le_of_ble_eq_true rfl⟩) (ft_preRWV (ci := 11) (q0 := 0) hP hD hKK [0, 1, 2] rfl rfl rfl rfl rfl) rfl rfl hl.1 rfl (lv_room (Nat.le_of_ble_eq_true rfl)) dX11_addPart_130 ⟨Nat.le_of_ble_eq_true rfl, Nat.le_of_ble_eq_true rfl⟩) hP hD hS hA [0, 1, 2] [] [0, 1, 2] rfl rfl (by decide) (by decide) (by decide) rfl rfl (fun H locs hP hD hS => ?_)
                      have hP : va_P D vwCl [(m0, .inr (11, [.ref p0, .ref p1, .int (nI (min (hm + 1) 5)), .ref p3, .int i4, .ref p5, .int i6, .int i7, .int i8, .int i9, .ref p10, .int i11, .ref p12, .ref p13, .ref p14, .int i15, .ref p16, .ref p17, .int i18, .ref p19, .ref p20, .ref p21, .ref p22, .int i23, .int i24, .ref p25, .ref p26, .ref p27, .ref p28, .ref p29, .ref p30, .ref p31, .ref p32])), (p0, .inl (cI, 1439, .inl w)), (p1, .inl (cI, 7195, .inl (ftPush w z hm)))] H := hP
                      have hD : va_D A [(m0, .inr (11, [.ref p0, .ref p1, .int (nI (min (hm + 1) 5)), .ref p3, .int i4, .ref p5, .int i6, .int i7, .int i8, .int i9, .ref p10, .int i11, .ref p12, .ref p13, .ref p14, .int i15, .ref p16, .ref p17, .int i18, .ref p19, .ref p20, .ref p21, .ref p22, .int i23, .int i24, .ref p25, .ref p26, .ref p27, .ref p28, .ref p29, .ref p30, .ref p31, .ref p32])), (p0, .inl (cI, 1439, .inl w)), (p1, .inl (cI, 7195, .inl (ftPush w z hm)))] := hD
                      refine lv_aload_n hx hb dX11_addPart_133 rfl (lv_at hl 1 rfl) ?_
                      refine va_get (D := D) (ci := 11) (v := .ref p0) (C := RX11) (T := TX11) (N := 33) hx hb hts (by decide +kernel) hown hK hP 0 rfl rfl 0 (by decide) (hts (.fieldLink RX11 7 "FiberTraceModel" "now" "[I") (by decide +kernel)) (fun _ h9 => h9) rfl dX11_addPart_134 ?_
                      refine lv_iload_n hx hb dX11_addPart_137 rfl (lv_at hl 2 rfl) ?_
                      refine lv_iload_n hx hb dX11_addPart_138 rfl (lv_at hl 3 rfl) ?_
                      refine lv_iload_n hx hb dX11_addPart_139 rfl (lv_at hl 4 rfl) ?_
                      refine lv_iload hx hb dX11_addPart_140 (lv_at hl 5 rfl) ?_
                      refine ft_ci (r := nI (ftPosW w pq (ftCN w))) (wc := [(p0, .inl (cI, 1439, .inl w))]) (wr := [(m0, .inr (11, [.ref p0, .ref p1, .int (nI (min (hm + 1) 5)), .ref p3, .int i4, .ref p5, .int i6, .int i7, .int i8, .int i9, .ref p10, .int i11, .ref p12, .ref p13, .ref p14, .int i15, .ref p16, .ref p17, .int i18, .ref p19, .ref p20, .ref p21, .ref p22, .int i23, .int i24, .ref p25, .ref p26, .ref p27, .ref p28, .ref p29, .ref p30, .ref p31, .ref p32])), (p1, .inl (cI, 7195, .inl (ftPush w z hm)))]) (w1 := [(p0, .inl (cI, 1439, .inl (ftAdd w (ftCN w) kq pq lq rq)))]) (ws1 := [(m0, .inr (11, [.ref p0, .ref p1, .int (nI (min (hm + 1) 5)), .ref p3, .int i4, .ref p5, .int i6, .int i7, .int i8, .int i9, .ref p10, .int i11, .ref p12, .ref p13, .ref p14, .int i15, .ref p16, .ref p17, .int i18, .ref p19, .ref p20, .ref p21, .ref p22, .int i23, .int i24, .ref p25, .ref p26, .ref p27, .ref p28, .ref p29, .ref p30, .ref p31, .ref p32])), (p0, .inl (cI, 1439, .inl (ftAdd w (ftCN w) kq pq lq rq))), (p1, .inl (cI, 7195, .inl (ftPush w z hm)))]) (va_runS (As := [.ref p0, .int kq, .int pq, .int lq, .int rq]) (rest := []) ⟨hx, hb, hml, hown, hts⟩ (c_X11_comes l D cI cS H.size p0 1439 w (ftCN w) kq pq lq rq hw3 (by omega) (by omega) (by omega)) (va_cwS 5 hts gX11_addPart_X11_comes rfl rfl rfl (by decide +kernel) ⟨Nat.le_of_ble_eq_true rfl, Nat.le_of_ble_eq_true rfl⟩) (ft_preRW hP hD hKK [1] rfl rfl rfl) rfl rfl hl.1 rfl (lv_room (Nat.le_of_ble_eq_true rfl)) dX11_addPart_142 ⟨Nat.le_of_ble_eq_true rfl, Nat.le_of_ble_eq_true rfl⟩) hP hD hS hA [1] [0, 2] [0, 2, 1] rfl rfl (by decide) (by decide) (by decide) rfl rfl (fun H locs hP hD hS => ?_)
                      have hP : va_P D vwCl [(m0, .inr (11, [.ref p0, .ref p1, .int (nI (min (hm + 1) 5)), .ref p3, .int i4, .ref p5, .int i6, .int i7, .int i8, .int i9, .ref p10, .int i11, .ref p12, .ref p13, .ref p14, .int i15, .ref p16, .ref p17, .int i18, .ref p19, .ref p20, .ref p21, .ref p22, .int i23, .int i24, .ref p25, .ref p26, .ref p27, .ref p28, .ref p29, .ref p30, .ref p31, .ref p32])), (p0, .inl (cI, 1439, .inl (ftAdd w (ftCN w) kq pq lq rq))), (p1, .inl (cI, 7195, .inl (ftPush w z hm)))] H := hP
                      have hD : va_D A [(m0, .inr (11, [.ref p0, .ref p1, .int (nI (min (hm + 1) 5)), .ref p3, .int i4, .ref p5, .int i6, .int i7, .int i8, .int i9, .ref p10, .int i11, .ref p12, .ref p13, .ref p14, .int i15, .ref p16, .ref p17, .int i18, .ref p19, .ref p20, .ref p21, .ref p22, .int i23, .int i24, .ref p25, .ref p26, .ref p27, .ref p28, .ref p29, .ref p30, .ref p31, .ref p32])), (p0, .inl (cI, 1439, .inl (ftAdd w (ftCN w) kq pq lq rq))), (p1, .inl (cI, 7195, .inl (ftPush w z hm)))] := hD
                      have hw9 : ([(m0, .inr (11, [.ref p0, .ref p1, .int (nI (min (hm + 1) 5)), .ref p3, .int i4, .ref p5, .int i6, .int i7, .int i8, .int i9, .ref p10, .int i11, .ref p12, .ref p13, .ref p14, .int i15, .ref p16, .ref p17, .int i18, .ref p19, .ref p20, .ref p21, .ref p22, .int i23, .int i24, .ref p25, .ref p26, .ref p27, .ref p28, .ref p29, .ref p30, .ref p31, .ref p32])), (p0, .inl (cI, 1439, .inl (ftAdd w (ftCN w) kq pq lq rq))), (p1, .inl (cI, 7195, .inl (ftPush w z hm)))] : va_W) = [(m0, .inr (11, [.ref p0, .ref p1, .int (nI (ftCh (ftAdC w kq pq lq rq) (min (hm + 1) 5) hm)), .ref p3, .int i4, .ref p5, .int i6, .int i7, .int i8, .int i9, .ref p10, .int i11, .ref p12, .ref p13, .ref p14, .int i15, .ref p16, .ref p17, .int i18, .ref p19, .ref p20, .ref p21, .ref p22, .int i23, .int i24, .ref p25, .ref p26, .ref p27, .ref p28, .ref p29, .ref p30, .ref p31, .ref p32])), (p0, .inl (cI, 1439, .inl (ftCh (ftAdC w kq pq lq rq) (ftAdd w (ftCN w) kq pq lq rq) w))), (p1, .inl (cI, 7195, .inl (ftCh (ftAdC w kq pq lq rq) (ftPush w z hm) z)))] := by rw [ftCh_t hC, ftCh_t hC, ftCh_t hC]
                      rw [hw9] at hP hD
                      exact W.iret (v := nI (ftPosW w pq (ftCN w))) hx hb hr (fun t ht hW => ⟨⟨nI (ftPosW w pq (ftCN w)), (), rfl, (by show (nI (ftPosW w pq (ftCN w)) : Int32) = ftAdA w kq pq lq rq; rw [ftAdA, ftIte_t hV, ftIte_t c109, ftIte_f c123]), by rw [ht]; exact hP, by rw [hAe]; exact hD⟩, by rw [hAe]; exact hS.F ht⟩) hS.2.2 dX11_addPart_145
                    · have hC : ¬ ftAdC w kq pq lq rq := fun q => q.2.2 c123
                      refine lv_ldc (v := (-1000003)) hx hb hown (hts (.constant RX11 99 (-1000003)) (by decide +kernel)) dX11_addPart_126 ?_
                      have hw9 : ([(m0, .inr (11, [.ref p0, .ref p1, .int (nI hm), .ref p3, .int i4, .ref p5, .int i6, .int i7, .int i8, .int i9, .ref p10, .int i11, .ref p12, .ref p13, .ref p14, .int i15, .ref p16, .ref p17, .int i18, .ref p19, .ref p20, .ref p21, .ref p22, .int i23, .int i24, .ref p25, .ref p26, .ref p27, .ref p28, .ref p29, .ref p30, .ref p31, .ref p32])), (p0, .inl (cI, 1439, .inl w)), (p1, .inl (cI, 7195, .inl z))] : va_W) = [(m0, .inr (11, [.ref p0, .ref p1, .int (nI (ftCh (ftAdC w kq pq lq rq) (min (hm + 1) 5) hm)), .ref p3, .int i4, .ref p5, .int i6, .int i7, .int i8, .int i9, .ref p10, .int i11, .ref p12, .ref p13, .ref p14, .int i15, .ref p16, .ref p17, .int i18, .ref p19, .ref p20, .ref p21, .ref p22, .int i23, .int i24, .ref p25, .ref p26, .ref p27, .ref p28, .ref p29, .ref p30, .ref p31, .ref p32])), (p0, .inl (cI, 1439, .inl (ftCh (ftAdC w kq pq lq rq) (ftAdd w (ftCN w) kq pq lq rq) w))), (p1, .inl (cI, 7195, .inl (ftCh (ftAdC w kq pq lq rq) (ftPush w z hm) z)))] := by rw [ftCh_f hC, ftCh_f hC, ftCh_f hC]
                      rw [hw9] at hP hD
                      exact W.iret (v := (-1000003)) hx hb hr (fun t ht hW => ⟨⟨(-1000003), (), rfl, (by show ((-1000003) : Int32) = ftAdA w kq pq lq rq; rw [ftAdA, ftIte_t hV, ftIte_t c109, ftIte_t c123]), by rw [ht]; exact hP, by rw [hAe]; exact hD⟩, by rw [hAe]; exact hS.F ht⟩) hS.2.2 dX11_addPart_128
                  · have hC : ¬ ftAdC w kq pq lq rq := fun q => c109 q.2.1
                    refine lv_ldc (v := (-1000002)) hx hb hown (hts (.constant RX11 86 (-1000002)) (by decide +kernel)) dX11_addPart_112 ?_
                    have hw9 : ([(m0, .inr (11, [.ref p0, .ref p1, .int (nI hm), .ref p3, .int i4, .ref p5, .int i6, .int i7, .int i8, .int i9, .ref p10, .int i11, .ref p12, .ref p13, .ref p14, .int i15, .ref p16, .ref p17, .int i18, .ref p19, .ref p20, .ref p21, .ref p22, .int i23, .int i24, .ref p25, .ref p26, .ref p27, .ref p28, .ref p29, .ref p30, .ref p31, .ref p32])), (p0, .inl (cI, 1439, .inl w)), (p1, .inl (cI, 7195, .inl z))] : va_W) = [(m0, .inr (11, [.ref p0, .ref p1, .int (nI (ftCh (ftAdC w kq pq lq rq) (min (hm + 1) 5) hm)), .ref p3, .int i4, .ref p5, .int i6, .int i7, .int i8, .int i9, .ref p10, .int i11, .ref p12, .ref p13, .ref p14, .int i15, .ref p16, .ref p17, .int i18, .ref p19, .ref p20, .ref p21, .ref p22, .int i23, .int i24, .ref p25, .ref p26, .ref p27, .ref p28, .ref p29, .ref p30, .ref p31, .ref p32])), (p0, .inl (cI, 1439, .inl (ftCh (ftAdC w kq pq lq rq) (ftAdd w (ftCN w) kq pq lq rq) w))), (p1, .inl (cI, 7195, .inl (ftCh (ftAdC w kq pq lq rq) (ftPush w z hm) z)))] := by rw [ftCh_f hC, ftCh_f hC, ftCh_f hC]
                    rw [hw9] at hP hD
                    exact W.iret (v := (-1000002)) hx hb hr (fun t ht hW => ⟨⟨(-1000002), (), rfl, (by show ((-1000002) : Int32) = ftAdA w kq pq lq rq; rw [ftAdA, ftIte_t hV, ftIte_f c109]), by rw [ht]; exact hP, by rw [hAe]; exact hD⟩, by rw [hAe]; exact hS.F ht⟩) hS.2.2 dX11_addPart_114
                · replace c98 := ftB_eq c98
                  have hno : ¬ ftAdV w kq pq lq rq := by
                    intro q
                    have q2 := q.2
                    rw [h71, h83] at q2
                    exact c98 q2
                  have hC : ¬ ftAdC w kq pq lq rq := fun q => hno q.1
                  refine lv_ldc (v := (-1000001)) hx hb hown (hts (.constant RX11 95 (-1000001)) (by decide +kernel)) dX11_addPart_101 ?_
                  have hw9 : ([(m0, .inr (11, [.ref p0, .ref p1, .int (nI hm), .ref p3, .int i4, .ref p5, .int i6, .int i7, .int i8, .int i9, .ref p10, .int i11, .ref p12, .ref p13, .ref p14, .int i15, .ref p16, .ref p17, .int i18, .ref p19, .ref p20, .ref p21, .ref p22, .int i23, .int i24, .ref p25, .ref p26, .ref p27, .ref p28, .ref p29, .ref p30, .ref p31, .ref p32])), (p0, .inl (cI, 1439, .inl w)), (p1, .inl (cI, 7195, .inl z))] : va_W) = [(m0, .inr (11, [.ref p0, .ref p1, .int (nI (ftCh (ftAdC w kq pq lq rq) (min (hm + 1) 5) hm)), .ref p3, .int i4, .ref p5, .int i6, .int i7, .int i8, .int i9, .ref p10, .int i11, .ref p12, .ref p13, .ref p14, .int i15, .ref p16, .ref p17, .int i18, .ref p19, .ref p20, .ref p21, .ref p22, .int i23, .int i24, .ref p25, .ref p26, .ref p27, .ref p28, .ref p29, .ref p30, .ref p31, .ref p32])), (p0, .inl (cI, 1439, .inl (ftCh (ftAdC w kq pq lq rq) (ftAdd w (ftCN w) kq pq lq rq) w))), (p1, .inl (cI, 7195, .inl (ftCh (ftAdC w kq pq lq rq) (ftPush w z hm) z)))] := by rw [ftCh_f hC, ftCh_f hC, ftCh_f hC]
                  rw [hw9] at hP hD
                  exact W.iret (v := (-1000001)) hx hb hr (fun t ht hW => ⟨⟨(-1000001), (), rfl, (by show ((-1000001) : Int32) = ftAdA w kq pq lq rq; rw [ftAdA, ftIte_f hno]), by rw [ht]; exact hP, by rw [hAe]; exact hD⟩, by rw [hAe]; exact hS.F ht⟩) hS.2.2 dX11_addPart_103
              · exact absurd (c32.symm.trans c83) (by decide)
            · exact absurd (c32.symm.trans c71) (by decide)
set_option maxHeartbeats 4000000 in
set_option maxRecDepth 100000 in
theorem c_X11_removePart (l : Launch) (D : va_G) (cI cS : ClassId) (sz : Nat) (m0 p0 p1 p3 p5 p10 p12 p13 p14 p16 p17 p19 p20 p21 p22 p25 p26 p27 p28 p29 p30 p31 p32 : Nat) (i4 i6 i7 i8 i9 i11 i15 i18 i23 i24 : Int32) (w z : Nat → Int32) (hm : Nat) (xq0 : Int32) (hwf : ftWf w) (hhm : hm ≤ 5) : Met l yX11_removePart wsX11_removePart ({ frames := 2, cells := 0, slots := 0, locals := 46 }) (ftRW D cI cS [.ref m0, .int xq0] [(m0, .inr (11, [.ref p0, .ref p1, .int (nI hm), .ref p3, .int i4, .ref p5, .int i6, .int i7, .int i8, .int i9, .ref p10, .int i11, .ref p12, .ref p13, .ref p14, .int i15, .ref p16, .ref p17, .int i18, .ref p19, .ref p20, .ref p21, .ref p22, .int i23, .int i24, .ref p25, .ref p26, .ref p27, .ref p28, .ref p29, .ref p30, .ref p31, .ref p32])), (p0, .inl (cI, 1439, .inl w)), (p1, .inl (cI, 7195, .inl z))] sz) (ftQi D (ftIte (ftRmC w xq0) (nI (ftCN w - 1)) (-1000001)) [(m0, .inr (11, [.ref p0, .ref p1, .int (nI hm), .ref p3, .int i4, .ref p5, .int i6, .int i7, .int i8, .int i9, .ref p10, .int i11, .ref p12, .ref p13, .ref p14, .int i15, .ref p16, .ref p17, .int i18, .ref p19, .ref p20, .ref p21, .ref p22, .int i23, .int i24, .ref p25, .ref p26, .ref p27, .ref p28, .ref p29, .ref p30, .ref p31, .ref p32])), (p0, .inl (cI, 1439, .inl w)), (p1, .inl (cI, 7195, .inl z))] [(m0, .inr (11, [.ref p0, .ref p1, .int (nI (ftCh (ftRmC w xq0) (min (hm + 1) 5) hm)), .ref p3, .int i4, .ref p5, .int i6, .int i7, .int i8, .int i9, .ref p10, .int i11, .ref p12, .ref p13, .ref p14, .int i15, .ref p16, .ref p17, .int i18, .ref p19, .ref p20, .ref p21, .ref p22, .int i23, .int i24, .ref p25, .ref p26, .ref p27, .ref p28, .ref p29, .ref p30, .ref p31, .ref p32])), (p0, .inl (cI, 1439, .inl (ftCh (ftRmC w xq0) (ftDel w xq0.toNatClampNeg) w))), (p1, .inl (cI, 7195, .inl (ftCh (ftRmC w xq0) (ftPush w z hm) z)))] sz) 0 0 (va_A [(m0, .inr (11, [.ref p0, .ref p1, .int (nI hm), .ref p3, .int i4, .ref p5, .int i6, .int i7, .int i8, .int i9, .ref p10, .int i11, .ref p12, .ref p13, .ref p14, .int i15, .ref p16, .ref p17, .int i18, .ref p19, .ref p20, .ref p21, .ref p22, .int i23, .int i24, .ref p25, .ref p26, .ref p27, .ref p28, .ref p29, .ref p30, .ref p31, .ref p32])), (p0, .inl (cI, 1439, .inl w)), (p1, .inl (cI, 7195, .inl z))] sz) := by
  refine Met.ofW (cc := cX11_removePart) (maxL := 3) (ret := (some .int)) (by decide) rfl ?_
  intro p e s m args below meth c s₁ B hml hv
  obtain ⟨rfl, hsz, hP, hKK, hD0⟩ := hv
  have hK := hKK.1
  have hx := B.exec
  have hb := B.bytes
  have hr := B.returns
  have hts := atoms_spec (ws := wsX11_removePart) B.pre
  have hown : s.vm.findClass RX11 = some m.cls := findClass_of_methodNamed B.named
  have hlocks := B.notSynchronized
  subst hsz
  have hD := hD0.self (sz := s.heap.size)
  generalize hAe : va_A [(m0, .inr (11, [.ref p0, .ref p1, .int (nI hm), .ref p3, .int i4, .ref p5, .int i6, .int i7, .int i8, .int i9, .ref p10, .int i11, .ref p12, .ref p13, .ref p14, .int i15, .ref p16, .ref p17, .int i18, .ref p19, .ref p20, .ref p21, .ref p22, .int i23, .int i24, .ref p25, .ref p26, .ref p27, .ref p28, .ref p29, .ref p30, .ref p31, .ref p32])), (p0, .inl (cI, 1439, .inl w)), (p1, .inl (cI, 7195, .inl z))] s.heap.size = A at hD ⊢
  have hA : ∀ q : Nat, s.heap.size ≤ q → A q := fun q h => by rw [← hAe]; exact Or.inr h
  have hS : va_S A s.heap s.heap [] := va_S.rf
  have hD : va_D A [(m0, .inr (11, [.ref p0, .ref p1, .int (nI hm), .ref p3, .int i4, .ref p5, .int i6, .int i7, .int i8, .int i9, .ref p10, .int i11, .ref p12, .ref p13, .ref p14, .int i15, .ref p16, .ref p17, .int i18, .ref p19, .ref p20, .ref p21, .ref p22, .int i23, .int i24, .ref p25, .ref p26, .ref p27, .ref p28, .ref p29, .ref p30, .ref p31, .ref p32])), (p0, .inl (cI, 1439, .inl w)), (p1, .inl (cI, 7195, .inl z))] := hD
  have hP : va_P D vwCl [(m0, .inr (11, [.ref p0, .ref p1, .int (nI hm), .ref p3, .int i4, .ref p5, .int i6, .int i7, .int i8, .int i9, .ref p10, .int i11, .ref p12, .ref p13, .ref p14, .int i15, .ref p16, .ref p17, .int i18, .ref p19, .ref p20, .ref p21, .ref p22, .int i23, .int i24, .ref p25, .ref p26, .ref p27, .ref p28, .ref p29, .ref p30, .ref p31, .ref p32])), (p0, .inl (cI, 1439, .inl w)), (p1, .inl (cI, 7195, .inl z))] s.heap := hP
  have hl := lv_entry ([.ref m0, .int xq0]) (n := 3) (Nat.le_of_ble_eq_true rfl)
  rw [lg_entry_eq]
  generalize (lg_sl ([.ref m0, .int xq0]) ++ List.replicate (3 - (lg_sl ([.ref m0, .int xq0])).length) Slot.unset).toArray = ls at hl ⊢
  have hl : lv_has ls 3 [(0, .ref m0), (1, .int xq0)] := hl
  have hw3 := ftWf_3 hwf
  have hn := ftWf_n hwf
  have hw0 := ftWf_0 hwf
  have hln := ftWf_ln hwf
  have hlg := ftWf_lg hwf
  refine lv_aload_n hx hb dX11_removePart_0 rfl (lv_at hl 0 rfl) ?_
  refine lv_iload_n hx hb dX11_removePart_1 rfl (lv_at hl 1 rfl) ?_
  refine ft_csi (r := ftB (0 ≤ xq0 ∧ xq0 ≤ w 3 - 1)) (va_runV (C := RX11) (As := [.int xq0]) (rest := []) ⟨hx, hb, hml, hown, hts⟩ (c_X11_isPart l D cI cS m0 p0 p1 p3 p5 p10 p12 p13 p14 p16 p17 p19 p20 p21 p22 p25 p26 p27 p28 p29 p30 p31 p32 (nI hm) i4 i6 i7 i8 i9 i11 i15 i18 i23 i24 w xq0) (cwV 1 hts gX11_removePart_X11_isPart rfl rfl rfl (by decide +kernel) ⟨Nat.le_of_ble_eq_true rfl, Nat.le_of_ble_eq_true rfl⟩) (ft_preROV (ci := 11) (q0 := 0) hP hKK [0, 1] rfl rfl rfl) rfl rfl hl.1 rfl (lv_room (Nat.le_of_ble_eq_true rfl)) dX11_removePart_2 ⟨Nat.le_of_ble_eq_true rfl, Nat.le_of_ble_eq_true rfl⟩) ?_
  refine lv_if_ne (tgt := 11) hx hb dX11_removePart_5 (by decide) (fun c5 => ?_) (fun c5 => ?_)
  · replace c5 := ftB_ne c5
    have hC : ftRmC w xq0 := c5
    obtain ⟨hk9, hxk⟩ := ft_btw (K := ftCN w) (by omega) c5.1 (by rw [← hw3]; exact c5.2)
    obtain ⟨k9, hk8⟩ : ∃ k, xq0.toNatClampNeg = k := ⟨_, rfl⟩
    rw [hk8] at hk9 hxk
    rw [hxk] at hl
    refine lv_aload_n hx hb dX11_removePart_11 rfl (lv_at hl 0 rfl) ?_
    refine ft_cv (wc := [(m0, .inr (11, [.ref p0, .ref p1, .int (nI hm), .ref p3, .int i4, .ref p5, .int i6, .int i7, .int i8, .int i9, .ref p10, .int i11, .ref p12, .ref p13, .ref p14, .int i15, .ref p16, .ref p17, .int i18, .ref p19, .ref p20, .ref p21, .ref p22, .int i23, .int i24, .ref p25, .ref p26, .ref p27, .ref p28, .ref p29, .ref p30, .ref p31, .ref p32])), (p0, .inl (cI, 1439, .inl w)), (p1, .inl (cI, 7195, .inl z))]) (wr := []) (w1 := [(m0, .inr (11, [.ref p0, .ref p1, .int (nI (min (hm + 1) 5)), .ref p3, .int i4, .ref p5, .int i6, .int i7, .int i8, .int i9, .ref p10, .int i11, .ref p12, .ref p13, .ref p14, .int i15, .ref p16, .ref p17, .int i18, .ref p19, .ref p20, .ref p21, .ref p22, .int i23, .int i24, .ref p25, .ref p26, .ref p27, .ref p28, .ref p29, .ref p30, .ref p31, .ref p32])), (p0, .inl (cI, 1439, .inl w)), (p1, .inl (cI, 7195, .inl (ftPush w z hm)))]) (ws1 := [(m0, .inr (11, [.ref p0, .ref p1, .int (nI (min (hm + 1) 5)), .ref p3, .int i4, .ref p5, .int i6, .int i7, .int i8, .int i9, .ref p10, .int i11, .ref p12, .ref p13, .ref p14, .int i15, .ref p16, .ref p17, .int i18, .ref p19, .ref p20, .ref p21, .ref p22, .int i23, .int i24, .ref p25, .ref p26, .ref p27, .ref p28, .ref p29, .ref p30, .ref p31, .ref p32])), (p0, .inl (cI, 1439, .inl w)), (p1, .inl (cI, 7195, .inl (ftPush w z hm)))]) (va_runV (C := RX11) (As := []) (rest := []) ⟨hx, hb, hml, hown, hts⟩ (c_X11_change l D cI cS s.heap.size m0 p0 p1 p3 p5 p10 p12 p13 p14 p16 p17 p19 p20 p21 p22 p25 p26 p27 p28 p29 p30 p31 p32 i4 i6 i7 i8 i9 i11 i15 i18 i23 i24 w z hm hhm) (cwV 0 hts gX11_removePart_X11_change rfl rfl rfl (by decide +kernel) ⟨Nat.le_of_ble_eq_true rfl, Nat.le_of_ble_eq_true rfl⟩) (ft_preRWV (ci := 11) (q0 := 0) hP hD hKK [0, 1, 2] rfl rfl rfl rfl rfl) rfl rfl hl.1 rfl (lv_room (Nat.le_of_ble_eq_true rfl)) dX11_removePart_12 ⟨Nat.le_of_ble_eq_true rfl, Nat.le_of_ble_eq_true rfl⟩) hP hD hS hA [0, 1, 2] [] [0, 1, 2] rfl rfl (by decide) (by decide) (by decide) rfl rfl (fun H locs hP hD hS => ?_)
    have hP : va_P D vwCl [(m0, .inr (11, [.ref p0, .ref p1, .int (nI (min (hm + 1) 5)), .ref p3, .int i4, .ref p5, .int i6, .int i7, .int i8, .int i9, .ref p10, .int i11, .ref p12, .ref p13, .ref p14, .int i15, .ref p16, .ref p17, .int i18, .ref p19, .ref p20, .ref p21, .ref p22, .int i23, .int i24, .ref p25, .ref p26, .ref p27, .ref p28, .ref p29, .ref p30, .ref p31, .ref p32])), (p0, .inl (cI, 1439, .inl w)), (p1, .inl (cI, 7195, .inl (ftPush w z hm)))] H := hP
    have hD : va_D A [(m0, .inr (11, [.ref p0, .ref p1, .int (nI (min (hm + 1) 5)), .ref p3, .int i4, .ref p5, .int i6, .int i7, .int i8, .int i9, .ref p10, .int i11, .ref p12, .ref p13, .ref p14, .int i15, .ref p16, .ref p17, .int i18, .ref p19, .ref p20, .ref p21, .ref p22, .int i23, .int i24, .ref p25, .ref p26, .ref p27, .ref p28, .ref p29, .ref p30, .ref p31, .ref p32])), (p0, .inl (cI, 1439, .inl w)), (p1, .inl (cI, 7195, .inl (ftPush w z hm)))] := hD
    refine lv_aload_n hx hb dX11_removePart_15 rfl (lv_at hl 0 rfl) ?_
    refine va_get (D := D) (ci := 11) (v := .ref p0) (C := RX11) (T := TX11) (N := 33) hx hb hts (by decide +kernel) hown hK hP 0 rfl rfl 0 (by decide) (hts (.fieldLink RX11 7 "FiberTraceModel" "now" "[I") (by decide +kernel)) (fun _ h9 => h9) rfl dX11_removePart_16 ?_
    refine lv_iconst (v := 3) hx hb dX11_removePart_19 (by decide) ?_
    refine lv_dup2_11 hx hb dX11_removePart_20 rfl rfl ?_
    refine va_iald hx hb hK hP 1 0 rfl rfl (vp_in_nI (n := 3) (by omega) (by omega)) dX11_removePart_21 ?_
    refine ft_top (y := w 3) rfl ?_
    refine ft_top (y := nI (ftCN w)) hw3 ?_
    refine lv_iconst (v := 1) hx hb dX11_removePart_22 (by decide) ?_
    refine lv_isub hx hb dX11_removePart_23 ?_
    refine ft_top (y := nI ((ftCN w) - 1)) (ft_subN (a := ftCN w) (b := 1) (by omega)) ?_
    refine va_iast hx hb hK hP hD hS 1 0 rfl rfl (vp_in_nI (n := 3) (by omega) (by omega)) dX11_removePart_24 (fun H locs hP hD hS => ?_)
    have hP : va_P D vwCl [(m0, .inr (11, [.ref p0, .ref p1, .int (nI (min (hm + 1) 5)), .ref p3, .int i4, .ref p5, .int i6, .int i7, .int i8, .int i9, .ref p10, .int i11, .ref p12, .ref p13, .ref p14, .int i15, .ref p16, .ref p17, .int i18, .ref p19, .ref p20, .ref p21, .ref p22, .int i23, .int i24, .ref p25, .ref p26, .ref p27, .ref p28, .ref p29, .ref p30, .ref p31, .ref p32])), (p0, .inl (cI, 1439, .inl (upd w 3 (nI ((ftCN w) - 1))))), (p1, .inl (cI, 7195, .inl (ftPush w z hm)))] H := hP
    have hD : va_D A [(m0, .inr (11, [.ref p0, .ref p1, .int (nI (min (hm + 1) 5)), .ref p3, .int i4, .ref p5, .int i6, .int i7, .int i8, .int i9, .ref p10, .int i11, .ref p12, .ref p13, .ref p14, .int i15, .ref p16, .ref p17, .int i18, .ref p19, .ref p20, .ref p21, .ref p22, .int i23, .int i24, .ref p25, .ref p26, .ref p27, .ref p28, .ref p29, .ref p30, .ref p31, .ref p32])), (p0, .inl (cI, 1439, .inl (upd w 3 (nI ((ftCN w) - 1))))), (p1, .inl (cI, 7195, .inl (ftPush w z hm)))] := hD
    refine lv_iconst (v := 4) hx hb dX11_removePart_25 (by decide) ?_
    refine lv_iconst (v := 4) hx hb dX11_removePart_26 (by decide) ?_
    refine lv_iload_n hx hb dX11_removePart_27 rfl (lv_at hl 1 rfl) ?_
    refine lv_imul hx hb dX11_removePart_28 ?_
    refine ft_top (y := nI (4 * k9)) (ft_mulN 4 k9) ?_
    refine lv_iadd hx hb dX11_removePart_29 ?_
    refine ft_top (y := nI (4 + (4 * k9))) (ft_addN 4 (4 * k9)) ?_
    refine lv_istore_n (lv' := [(2, .int (nI (4 + (4 * k9)))), (0, .ref m0), (1, .int (nI k9))]) hx hb dX11_removePart_30 rfl hl (by decide) rfl (fun ls hl => ?_)
    have lp31 : ∀ (n31 : Nat) (j : Nat) (x31_2 : Int32) (g31_p0 : Nat → Int32), 4 + 4 * (ftCN w - 1) - j < n31 → (4 + 4 * k9 ≤ j) → (j ≤ 4 + 4 * (ftCN w - 1)) → x31_2 = nI j → g31_p0 = ftShD (upd w 3 (nI (ftCN w - 1))) k9 j → ∀ (H : Heap) (locs : List Loc), va_P D vwCl [(m0, .inr (11, [.ref p0, .ref p1, .int (nI (min (hm + 1) 5)), .ref p3, .int i4, .ref p5, .int i6, .int i7, .int i8, .int i9, .ref p10, .int i11, .ref p12, .ref p13, .ref p14, .int i15, .ref p16, .ref p17, .int i18, .ref p19, .ref p20, .ref p21, .ref p22, .int i23, .int i24, .ref p25, .ref p26, .ref p27, .ref p28, .ref p29, .ref p30, .ref p31, .ref p32])), (p0, .inl (cI, 1439, .inl g31_p0)), (p1, .inl (cI, 7195, .inl (ftPush w z hm)))] H → va_D A [(m0, .inr (11, [.ref p0, .ref p1, .int (nI (min (hm + 1) 5)), .ref p3, .int i4, .ref p5, .int i6, .int i7, .int i8, .int i9, .ref p10, .int i11, .ref p12, .ref p13, .ref p14, .int i15, .ref p16, .ref p17, .int i18, .ref p19, .ref p20, .ref p21, .ref p22, .int i23, .int i24, .ref p25, .ref p26, .ref p27, .ref p28, .ref p29, .ref p30, .ref p31, .ref p32])), (p0, .inl (cI, 1439, .inl g31_p0)), (p1, .inl (cI, 7195, .inl (ftPush w z hm)))] → va_S A s.heap H locs → ∀ ls : Array Slot, lv_has ls 3 [(0, .ref m0), (1, .int (nI k9)), (2, .int x31_2)] → W p l e (headSpec wsX11_removePart { frames := 2, cells := 0, slots := 0, locals := 46 }).room s m ([.ref m0, .int xq0] : List Value).toArray below meth c H locs 0 0 (MQ below (ftQi D (ftIte (ftRmC w xq0) (nI (ftCN w - 1)) (-1000001)) [(m0, .inr (11, [.ref p0, .ref p1, .int (nI hm), .ref p3, .int i4, .ref p5, .int i6, .int i7, .int i8, .int i9, .ref p10, .int i11, .ref p12, .ref p13, .ref p14, .int i15, .ref p16, .ref p17, .int i18, .ref p19, .ref p20, .ref p21, .ref p22, .int i23, .int i24, .ref p25, .ref p26, .ref p27, .ref p28, .ref p29, .ref p30, .ref p31, .ref p32])), (p0, .inl (cI, 1439, .inl w)), (p1, .inl (cI, 7195, .inl z))] [(m0, .inr (11, [.ref p0, .ref p1, .int (nI (ftCh (ftRmC w xq0) (min (hm + 1) 5) hm)), .ref p3, .int i4, .ref p5, .int i6, .int i7, .int i8, .int i9, .ref p10, .int i11, .ref p12, .ref p13, .ref p14, .int i15, .ref p16, .ref p17, .int i18, .ref p19, .ref p20, .ref p21, .ref p22, .int i23, .int i24, .ref p25, .ref p26, .ref p27, .ref p28, .ref p29, .ref p30, .ref p31, .ref p32])), (p0, .inl (cI, 1439, .inl (ftCh (ftRmC w xq0) (ftDel w xq0.toNatClampNeg) w))), (p1, .inl (cI, 7195, .inl (ftCh (ftRmC w xq0) (ftPush w z hm) z)))] s.heap.size) ([.ref m0, .int xq0] : List Value).toArray s 0 0 A) (F0 m 31 ls []) := by
      intro n31
      induction n31 with
      | zero =>
        intro j x31_2 g31_p0 hm31
        exact absurd hm31 (Nat.not_lt_zero _)
      | succ n31 ih31 =>
        intro j x31_2 g31_p0 hm31 hj1 hj2 ex31_2 eg31_p0 H locs hP hD hS ls hl
        subst ex31_2
        refine lv_iload_n hx hb dX11_removePart_31 rfl (lv_at hl 2 rfl) ?_
        refine lv_iconst (v := 4) hx hb dX11_removePart_32 (by decide) ?_
        refine lv_iconst (v := 4) hx hb dX11_removePart_33 (by decide) ?_
        refine lv_aload_n hx hb dX11_removePart_34 rfl (lv_at hl 0 rfl) ?_
        refine va_get (D := D) (ci := 11) (v := .ref p0) (C := RX11) (T := TX11) (N := 33) hx hb hts (by decide +kernel) hown hK hP 0 rfl rfl 0 (by decide) (hts (.fieldLink RX11 7 "FiberTraceModel" "now" "[I") (by decide +kernel)) (fun _ h9 => h9) rfl dX11_removePart_35 ?_
        refine lv_iconst (v := 3) hx hb dX11_removePart_38 (by decide) ?_
        refine va_iald hx hb hK hP 1 0 rfl rfl (vp_in_nI (n := 3) (by omega) (by omega)) dX11_removePart_39 ?_
        refine ft_top (y := g31_p0 3) rfl ?_
        refine ft_top (y := nI (ftCN w - 1)) (by rw [eg31_p0]; exact if_neg (by omega)) ?_
        refine lv_imul hx hb dX11_removePart_40 ?_
        refine ft_top (y := nI (4 * (ftCN w - 1))) (ft_mulN 4 (ftCN w - 1)) ?_
        refine lv_iadd hx hb dX11_removePart_41 ?_
        refine ft_top (y := nI (4 + (4 * (ftCN w - 1)))) (ft_addN 4 (4 * (ftCN w - 1))) ?_
        refine lv_icmp_ge (tgt := 65) hx hb dX11_removePart_42 (by decide) (fun c42 => ?_) (fun c42 => ?_)
        · have c42n : (4 + (4 * (ftCN w - 1))) ≤ j := ft_leN (by omega) (by omega) c42
          refine lv_aload_n hx hb dX11_removePart_65 rfl (lv_at hl 0 rfl) ?_
          refine va_get (D := D) (ci := 11) (v := .ref p0) (C := RX11) (T := TX11) (N := 33) hx hb hts (by decide +kernel) hown hK hP 0 rfl rfl 0 (by decide) (hts (.fieldLink RX11 7 "FiberTraceModel" "now" "[I") (by decide +kernel)) (fun _ h9 => h9) rfl dX11_removePart_66 ?_
          refine lv_iconst (v := 3) hx hb dX11_removePart_69 (by decide) ?_
          refine va_iald hx hb hK hP 1 0 rfl rfl (vp_in_nI (n := 3) (by omega) (by omega)) dX11_removePart_70 ?_
          refine ft_top (y := g31_p0 3) rfl ?_
          refine ft_top (y := nI (ftCN w - 1)) (by rw [eg31_p0]; exact if_neg (by omega)) ?_
          have hw9 : ([(m0, .inr (11, [.ref p0, .ref p1, .int (nI (min (hm + 1) 5)), .ref p3, .int i4, .ref p5, .int i6, .int i7, .int i8, .int i9, .ref p10, .int i11, .ref p12, .ref p13, .ref p14, .int i15, .ref p16, .ref p17, .int i18, .ref p19, .ref p20, .ref p21, .ref p22, .int i23, .int i24, .ref p25, .ref p26, .ref p27, .ref p28, .ref p29, .ref p30, .ref p31, .ref p32])), (p0, .inl (cI, 1439, .inl g31_p0)), (p1, .inl (cI, 7195, .inl (ftPush w z hm)))] : va_W) = [(m0, .inr (11, [.ref p0, .ref p1, .int (nI (ftCh (ftRmC w xq0) (min (hm + 1) 5) hm)), .ref p3, .int i4, .ref p5, .int i6, .int i7, .int i8, .int i9, .ref p10, .int i11, .ref p12, .ref p13, .ref p14, .int i15, .ref p16, .ref p17, .int i18, .ref p19, .ref p20, .ref p21, .ref p22, .int i23, .int i24, .ref p25, .ref p26, .ref p27, .ref p28, .ref p29, .ref p30, .ref p31, .ref p32])), (p0, .inl (cI, 1439, .inl (ftCh (ftRmC w xq0) (ftDel w xq0.toNatClampNeg) w))), (p1, .inl (cI, 7195, .inl (ftCh (ftRmC w xq0) (ftPush w z hm) z)))] := by rw [ftCh_t hC, ftCh_t hC, ftCh_t hC]; rw [eg31_p0, hk8, ftDel, show j = 4 + 4 * (ftCN w - 1) by omega]
          rw [hw9] at hP hD
          exact W.iret (v := nI (ftCN w - 1)) hx hb hr (fun t ht hW => ⟨⟨nI (ftCN w - 1), (), rfl, (by show (nI (ftCN w - 1) : Int32) = ftIte (ftRmC w xq0) (nI (ftCN w - 1)) (-1000001); exact (ftIte_t hC).symm), by rw [ht]; exact hP, by rw [hAe]; exact hD⟩, by rw [hAe]; exact hS.F ht⟩) hS.2.2 dX11_removePart_71
        · have c42n : j < (4 + (4 * (ftCN w - 1))) := ft_nleN (by omega) (by omega) c42
          refine lv_aload_n hx hb dX11_removePart_45 rfl (lv_at hl 0 rfl) ?_
          refine va_get (D := D) (ci := 11) (v := .ref p0) (C := RX11) (T := TX11) (N := 33) hx hb hts (by decide +kernel) hown hK hP 0 rfl rfl 0 (by decide) (hts (.fieldLink RX11 7 "FiberTraceModel" "now" "[I") (by decide +kernel)) (fun _ h9 => h9) rfl dX11_removePart_46 ?_
          refine lv_iload_n hx hb dX11_removePart_49 rfl (lv_at hl 2 rfl) ?_
          refine lv_aload_n hx hb dX11_removePart_50 rfl (lv_at hl 0 rfl) ?_
          refine va_get (D := D) (ci := 11) (v := .ref p0) (C := RX11) (T := TX11) (N := 33) hx hb hts (by decide +kernel) hown hK hP 0 rfl rfl 0 (by decide) (hts (.fieldLink RX11 7 "FiberTraceModel" "now" "[I") (by decide +kernel)) (fun _ h9 => h9) rfl dX11_removePart_51 ?_
          refine lv_iload_n hx hb dX11_removePart_54 rfl (lv_at hl 2 rfl) ?_
          refine lv_iconst (v := 4) hx hb dX11_removePart_55 (by decide) ?_
          refine lv_iadd hx hb dX11_removePart_56 ?_
          refine ft_top (y := nI (j + 4)) (ft_addN j 4) ?_
          refine va_iald hx hb hK hP 1 0 rfl rfl (vp_in_nI (by omega) (by omega)) dX11_removePart_57 ?_
          refine ft_top (y := g31_p0 (j + 4)) (ft_clampN (by omega)) ?_
          refine va_iast hx hb hK hP hD hS 1 0 rfl rfl (vp_in_nI (by omega) (by omega)) dX11_removePart_58 (fun H locs hP hD hS => ?_)
          rw [nI_clamp (show j < 2 ^ 31 by omega)] at hP hD
          have hP : va_P D vwCl [(m0, .inr (11, [.ref p0, .ref p1, .int (nI (min (hm + 1) 5)), .ref p3, .int i4, .ref p5, .int i6, .int i7, .int i8, .int i9, .ref p10, .int i11, .ref p12, .ref p13, .ref p14, .int i15, .ref p16, .ref p17, .int i18, .ref p19, .ref p20, .ref p21, .ref p22, .int i23, .int i24, .ref p25, .ref p26, .ref p27, .ref p28, .ref p29, .ref p30, .ref p31, .ref p32])), (p0, .inl (cI, 1439, .inl (upd g31_p0 j (g31_p0 (j + 4))))), (p1, .inl (cI, 7195, .inl (ftPush w z hm)))] H := hP
          have hD : va_D A [(m0, .inr (11, [.ref p0, .ref p1, .int (nI (min (hm + 1) 5)), .ref p3, .int i4, .ref p5, .int i6, .int i7, .int i8, .int i9, .ref p10, .int i11, .ref p12, .ref p13, .ref p14, .int i15, .ref p16, .ref p17, .int i18, .ref p19, .ref p20, .ref p21, .ref p22, .int i23, .int i24, .ref p25, .ref p26, .ref p27, .ref p28, .ref p29, .ref p30, .ref p31, .ref p32])), (p0, .inl (cI, 1439, .inl (upd g31_p0 j (g31_p0 (j + 4))))), (p1, .inl (cI, 7195, .inl (ftPush w z hm)))] := hD
          refine lv_iinc (v := nI (j + 1)) (lv' := [(2, .int (nI (j + 1))), (0, .ref m0), (1, .int (nI k9))]) hx hb dX11_removePart_59 hl (k := 2) rfl (ft_inc j) (by decide) rfl (fun ls hl => ?_)
          refine lv_goto (tgt := 31) hx hb dX11_removePart_62 (by decide) ?_
          exact ih31 (j + 1) (nI (j + 1)) (upd g31_p0 j (g31_p0 (j + 4))) (by omega) (by omega) (by omega) (by first | rfl | assumption) (by rw [eg31_p0]; exact ftShD_s hj1) _ _ hP hD hS ls (lv_sub hl [1, 2, 0] rfl)
    exact lp31 _ (4 + 4 * k9) (nI (4 + (4 * k9))) (upd w 3 (nI ((ftCN w) - 1))) (Nat.lt_succ_self _) (by omega) (by omega) (by rfl) (by exact ftShD_0 _ _) _ _ hP hD hS ls (lv_sub hl [1, 2, 0] rfl)
  · replace c5 := ftB_eq c5
    have hC : ¬ ftRmC w xq0 := c5
    refine lv_ldc (v := (-1000001)) hx hb hown (hts (.constant RX11 95 (-1000001)) (by decide +kernel)) dX11_removePart_8 ?_
    have hw9 : ([(m0, .inr (11, [.ref p0, .ref p1, .int (nI hm), .ref p3, .int i4, .ref p5, .int i6, .int i7, .int i8, .int i9, .ref p10, .int i11, .ref p12, .ref p13, .ref p14, .int i15, .ref p16, .ref p17, .int i18, .ref p19, .ref p20, .ref p21, .ref p22, .int i23, .int i24, .ref p25, .ref p26, .ref p27, .ref p28, .ref p29, .ref p30, .ref p31, .ref p32])), (p0, .inl (cI, 1439, .inl w)), (p1, .inl (cI, 7195, .inl z))] : va_W) = [(m0, .inr (11, [.ref p0, .ref p1, .int (nI (ftCh (ftRmC w xq0) (min (hm + 1) 5) hm)), .ref p3, .int i4, .ref p5, .int i6, .int i7, .int i8, .int i9, .ref p10, .int i11, .ref p12, .ref p13, .ref p14, .int i15, .ref p16, .ref p17, .int i18, .ref p19, .ref p20, .ref p21, .ref p22, .int i23, .int i24, .ref p25, .ref p26, .ref p27, .ref p28, .ref p29, .ref p30, .ref p31, .ref p32])), (p0, .inl (cI, 1439, .inl (ftCh (ftRmC w xq0) (ftDel w xq0.toNatClampNeg) w))), (p1, .inl (cI, 7195, .inl (ftCh (ftRmC w xq0) (ftPush w z hm) z)))] := by rw [ftCh_f hC, ftCh_f hC, ftCh_f hC]
    rw [hw9] at hP hD
    exact W.iret (v := (-1000001)) hx hb hr (fun t ht hW => ⟨⟨(-1000001), (), rfl, (by show ((-1000001) : Int32) = ftIte (ftRmC w xq0) (nI (ftCN w - 1)) (-1000001); exact (ftIte_f hC).symm), by rw [ht]; exact hP, by rw [hAe]; exact hD⟩, by rw [hAe]; exact hS.F ht⟩) hS.2.2 dX11_removePart_10
set_option maxHeartbeats 4000000 in
set_option maxRecDepth 100000 in
theorem c_X11_set (l : Launch) (D : va_G) (cI cS : ClassId) (sz : Nat) (m0 p0 p1 p3 p5 p10 p12 p13 p14 p16 p17 p19 p20 p21 p22 p25 p26 p27 p28 p29 p30 p31 p32 : Nat) (i4 i6 i7 i8 i9 i11 i15 i18 i23 i24 : Int32) (w z : Nat → Int32) (hm : Nat) (xq0 xq1 : Int32) (hwf : ftWf w) (hhm : hm ≤ 5) : Met l yX11_set wsX11_set ({ frames := 1, cells := 0, slots := 0, locals := 25 }) (ftRW D cI cS [.ref m0, .int xq0, .int xq1] [(m0, .inr (11, [.ref p0, .ref p1, .int (nI hm), .ref p3, .int i4, .ref p5, .int i6, .int i7, .int i8, .int i9, .ref p10, .int i11, .ref p12, .ref p13, .ref p14, .int i15, .ref p16, .ref p17, .int i18, .ref p19, .ref p20, .ref p21, .ref p22, .int i23, .int i24, .ref p25, .ref p26, .ref p27, .ref p28, .ref p29, .ref p30, .ref p31, .ref p32])), (p0, .inl (cI, 1439, .inl w)), (p1, .inl (cI, 7195, .inl z))] sz) (ftQi D (ftIte (ftSetC xq0 xq1) (w (44 + xq0.toNatClampNeg)) (-1000001)) [(m0, .inr (11, [.ref p0, .ref p1, .int (nI hm), .ref p3, .int i4, .ref p5, .int i6, .int i7, .int i8, .int i9, .ref p10, .int i11, .ref p12, .ref p13, .ref p14, .int i15, .ref p16, .ref p17, .int i18, .ref p19, .ref p20, .ref p21, .ref p22, .int i23, .int i24, .ref p25, .ref p26, .ref p27, .ref p28, .ref p29, .ref p30, .ref p31, .ref p32])), (p0, .inl (cI, 1439, .inl w)), (p1, .inl (cI, 7195, .inl z))] [(m0, .inr (11, [.ref p0, .ref p1, .int (nI (ftCh (ftSetC xq0 xq1) (min (hm + 1) 5) hm)), .ref p3, .int i4, .ref p5, .int i6, .int i7, .int i8, .int i9, .ref p10, .int i11, .ref p12, .ref p13, .ref p14, .int i15, .ref p16, .ref p17, .int i18, .ref p19, .ref p20, .ref p21, .ref p22, .int i23, .int i24, .ref p25, .ref p26, .ref p27, .ref p28, .ref p29, .ref p30, .ref p31, .ref p32])), (p0, .inl (cI, 1439, .inl (ftCh (ftSetC xq0 xq1) (upd w (44 + xq0.toNatClampNeg) xq1) w))), (p1, .inl (cI, 7195, .inl (ftCh (ftSetC xq0 xq1) (ftPush w z hm) z)))] sz) 0 0 (va_A [(m0, .inr (11, [.ref p0, .ref p1, .int (nI hm), .ref p3, .int i4, .ref p5, .int i6, .int i7, .int i8, .int i9, .ref p10, .int i11, .ref p12, .ref p13, .ref p14, .int i15, .ref p16, .ref p17, .int i18, .ref p19, .ref p20, .ref p21, .ref p22, .int i23, .int i24, .ref p25, .ref p26, .ref p27, .ref p28, .ref p29, .ref p30, .ref p31, .ref p32])), (p0, .inl (cI, 1439, .inl w)), (p1, .inl (cI, 7195, .inl z))] sz) := by
  refine Met.ofW (cc := cX11_set) (maxL := 4) (ret := (some .int)) (by decide) rfl ?_
  intro p e s m args below meth c s₁ B hml hv
  obtain ⟨rfl, hsz, hP, hKK, hD0⟩ := hv
  have hK := hKK.1
  have hx := B.exec
  have hb := B.bytes
  have hr := B.returns
  have hts := atoms_spec (ws := wsX11_set) B.pre
  have hown : s.vm.findClass RX11 = some m.cls := findClass_of_methodNamed B.named
  have hlocks := B.notSynchronized
  subst hsz
  have hD := hD0.self (sz := s.heap.size)
  generalize hAe : va_A [(m0, .inr (11, [.ref p0, .ref p1, .int (nI hm), .ref p3, .int i4, .ref p5, .int i6, .int i7, .int i8, .int i9, .ref p10, .int i11, .ref p12, .ref p13, .ref p14, .int i15, .ref p16, .ref p17, .int i18, .ref p19, .ref p20, .ref p21, .ref p22, .int i23, .int i24, .ref p25, .ref p26, .ref p27, .ref p28, .ref p29, .ref p30, .ref p31, .ref p32])), (p0, .inl (cI, 1439, .inl w)), (p1, .inl (cI, 7195, .inl z))] s.heap.size = A at hD ⊢
  have hA : ∀ q : Nat, s.heap.size ≤ q → A q := fun q h => by rw [← hAe]; exact Or.inr h
  have hS : va_S A s.heap s.heap [] := va_S.rf
  have hD : va_D A [(m0, .inr (11, [.ref p0, .ref p1, .int (nI hm), .ref p3, .int i4, .ref p5, .int i6, .int i7, .int i8, .int i9, .ref p10, .int i11, .ref p12, .ref p13, .ref p14, .int i15, .ref p16, .ref p17, .int i18, .ref p19, .ref p20, .ref p21, .ref p22, .int i23, .int i24, .ref p25, .ref p26, .ref p27, .ref p28, .ref p29, .ref p30, .ref p31, .ref p32])), (p0, .inl (cI, 1439, .inl w)), (p1, .inl (cI, 7195, .inl z))] := hD
  have hP : va_P D vwCl [(m0, .inr (11, [.ref p0, .ref p1, .int (nI hm), .ref p3, .int i4, .ref p5, .int i6, .int i7, .int i8, .int i9, .ref p10, .int i11, .ref p12, .ref p13, .ref p14, .int i15, .ref p16, .ref p17, .int i18, .ref p19, .ref p20, .ref p21, .ref p22, .int i23, .int i24, .ref p25, .ref p26, .ref p27, .ref p28, .ref p29, .ref p30, .ref p31, .ref p32])), (p0, .inl (cI, 1439, .inl w)), (p1, .inl (cI, 7195, .inl z))] s.heap := hP
  have hl := lv_entry ([.ref m0, .int xq0, .int xq1]) (n := 4) (Nat.le_of_ble_eq_true rfl)
  rw [lg_entry_eq]
  generalize (lg_sl ([.ref m0, .int xq0, .int xq1]) ++ List.replicate (4 - (lg_sl ([.ref m0, .int xq0, .int xq1])).length) Slot.unset).toArray = ls at hl ⊢
  have hl : lv_has ls 4 [(0, .ref m0), (1, .int xq0), (2, .int xq1)] := hl
  refine lv_iload_n hx hb dX11_set_0 rfl (lv_at hl 1 rfl) ?_
  refine lv_i2l (v := xq0.toInt64) hx hb dX11_set_1 rfl ?_
  refine lv_lconst (v := 0) hx hb dX11_set_2 (by decide) ?_
  refine lv_ldc2 (v := 10) hx hb hown (hts (.constantLong RX11 186 10) (by decide +kernel)) dX11_set_3 ?_
  refine ft_csi (r := ftB (0 ≤ xq0.toInt64 ∧ xq0.toInt64 ≤ 10)) (va_runS (As := [.long xq0.toInt64, .long 0, .long 10]) (rest := []) ⟨hx, hb, hml, hown, hts⟩ (c_X11_in l D cI cS xq0.toInt64 0 10) (va_cwS 3 hts gX11_set_X11_in rfl rfl rfl (by decide +kernel) ⟨Nat.le_of_ble_eq_true rfl, Nat.le_of_ble_eq_true rfl⟩) (ft_preRO hP hKK [] rfl) rfl rfl hl.1 rfl (lv_room (Nat.le_of_ble_eq_true rfl)) dX11_set_6 ⟨Nat.le_of_ble_eq_true rfl, Nat.le_of_ble_eq_true rfl⟩) ?_
  refine ft_top (y := ftB (0 ≤ xq0 ∧ xq0 ≤ 10)) (ft_in64 (by decide) (by decide)) ?_
  refine lv_if_eq (tgt := 30) hx hb dX11_set_9 (by decide) (fun c9 => ?_) (fun c9 => ?_)
  · replace c9 := ftB_eq c9
    have hC : ¬ ftSetC xq0 xq1 := fun q => c9 q.1
    refine lv_ldc (v := (-1000001)) hx hb hown (hts (.constant RX11 95 (-1000001)) (by decide +kernel)) dX11_set_30 ?_
    have hw9 : ([(m0, .inr (11, [.ref p0, .ref p1, .int (nI hm), .ref p3, .int i4, .ref p5, .int i6, .int i7, .int i8, .int i9, .ref p10, .int i11, .ref p12, .ref p13, .ref p14, .int i15, .ref p16, .ref p17, .int i18, .ref p19, .ref p20, .ref p21, .ref p22, .int i23, .int i24, .ref p25, .ref p26, .ref p27, .ref p28, .ref p29, .ref p30, .ref p31, .ref p32])), (p0, .inl (cI, 1439, .inl w)), (p1, .inl (cI, 7195, .inl z))] : va_W) = [(m0, .inr (11, [.ref p0, .ref p1, .int (nI (ftCh (ftSetC xq0 xq1) (min (hm + 1) 5) hm)), .ref p3, .int i4, .ref p5, .int i6, .int i7, .int i8, .int i9, .ref p10, .int i11, .ref p12, .ref p13, .ref p14, .int i15, .ref p16, .ref p17, .int i18, .ref p19, .ref p20, .ref p21, .ref p22, .int i23, .int i24, .ref p25, .ref p26, .ref p27, .ref p28, .ref p29, .ref p30, .ref p31, .ref p32])), (p0, .inl (cI, 1439, .inl (ftCh (ftSetC xq0 xq1) (upd w (44 + xq0.toNatClampNeg) xq1) w))), (p1, .inl (cI, 7195, .inl (ftCh (ftSetC xq0 xq1) (ftPush w z hm) z)))] := by rw [ftCh_f hC, ftCh_f hC, ftCh_f hC]
    rw [hw9] at hP hD
    exact W.iret (v := (-1000001)) hx hb hr (fun t ht hW => ⟨⟨(-1000001), (), rfl, (by show ((-1000001) : Int32) = ftIte (ftSetC xq0 xq1) (w (44 + xq0.toNatClampNeg)) (-1000001); exact (ftIte_f hC).symm), by rw [ht]; exact hP, by rw [hAe]; exact hD⟩, by rw [hAe]; exact hS.F ht⟩) hS.2.2 dX11_set_32
  · replace c9 := ftB_ne c9
    refine lv_iload_n hx hb dX11_set_12 rfl (lv_at hl 2 rfl) ?_
    refine lv_i2l (v := xq1.toInt64) hx hb dX11_set_13 rfl ?_
    refine lv_iload_n hx hb dX11_set_14 rfl (lv_at hl 1 rfl) ?_
    refine ft_csi (r := ftLeast xq0) (va_runS (As := [.int xq0]) (rest := [.long xq1.toInt64]) ⟨hx, hb, hml, hown, hts⟩ (c_X11_leastOf l D cI cS xq0) (va_cwS 1 hts gX11_set_X11_leastOf rfl rfl rfl (by decide +kernel) ⟨Nat.le_of_ble_eq_true rfl, Nat.le_of_ble_eq_true rfl⟩) (ft_preRO hP hKK [] rfl) rfl rfl hl.1 rfl (lv_room (Nat.le_of_ble_eq_true rfl)) dX11_set_15 ⟨Nat.le_of_ble_eq_true rfl, Nat.le_of_ble_eq_true rfl⟩) ?_
    refine lv_i2l (v := (ftLeast xq0).toInt64) hx hb dX11_set_18 rfl ?_
    refine lv_iload_n hx hb dX11_set_19 rfl (lv_at hl 1 rfl) ?_
    refine ft_csi (r := ftMost xq0) (va_runS (As := [.int xq0]) (rest := [.long ((ftLeast xq0).toInt64), .long xq1.toInt64]) ⟨hx, hb, hml, hown, hts⟩ (c_X11_mostOf l D cI cS xq0) (va_cwS 1 hts gX11_set_X11_mostOf rfl rfl rfl (by decide +kernel) ⟨Nat.le_of_ble_eq_true rfl, Nat.le_of_ble_eq_true rfl⟩) (ft_preRO hP hKK [] rfl) rfl rfl hl.1 rfl (lv_room (Nat.le_of_ble_eq_true rfl)) dX11_set_20 ⟨Nat.le_of_ble_eq_true rfl, Nat.le_of_ble_eq_true rfl⟩) ?_
    refine lv_i2l (v := (ftMost xq0).toInt64) hx hb dX11_set_23 rfl ?_
    refine ft_csi (r := ftB (((ftLeast xq0).toInt64) ≤ xq1.toInt64 ∧ xq1.toInt64 ≤ ((ftMost xq0).toInt64))) (va_runS (As := [.long xq1.toInt64, .long ((ftLeast xq0).toInt64), .long ((ftMost xq0).toInt64)]) (rest := []) ⟨hx, hb, hml, hown, hts⟩ (c_X11_in l D cI cS xq1.toInt64 ((ftLeast xq0).toInt64) ((ftMost xq0).toInt64)) (va_cwS 3 hts gX11_set_X11_in rfl rfl rfl (by decide +kernel) ⟨Nat.le_of_ble_eq_true rfl, Nat.le_of_ble_eq_true rfl⟩) (ft_preRO hP hKK [] rfl) rfl rfl hl.1 rfl (lv_room (Nat.le_of_ble_eq_true rfl)) dX11_set_24 ⟨Nat.le_of_ble_eq_true rfl, Nat.le_of_ble_eq_true rfl⟩) ?_
    refine ft_top (y := ftB ((ftLeast xq0) ≤ xq1 ∧ xq1 ≤ (ftMost xq0))) (ft_in64 (Int32.toInt_toInt64 _) (Int32.toInt_toInt64 _)) ?_
    refine lv_if_ne (tgt := 33) hx hb dX11_set_27 (by decide) (fun c27 => ?_) (fun c27 => ?_)
    · replace c27 := ftB_ne c27
      have hC : ftSetC xq0 xq1 := ⟨c9, c27⟩
      obtain ⟨hk9, hxk⟩ := ft_btw2 (K := 10) (by omega) c9.1 c9.2
      obtain ⟨k9, hk8⟩ : ∃ k, xq0.toNatClampNeg = k := ⟨_, rfl⟩
      rw [hk8] at hk9 hxk
      rw [hxk] at hl
      refine lv_aload_n hx hb dX11_set_33 rfl (lv_at hl 0 rfl) ?_
      refine ft_cv (wc := [(m0, .inr (11, [.ref p0, .ref p1, .int (nI hm), .ref p3, .int i4, .ref p5, .int i6, .int i7, .int i8, .int i9, .ref p10, .int i11, .ref p12, .ref p13, .ref p14, .int i15, .ref p16, .ref p17, .int i18, .ref p19, .ref p20, .ref p21, .ref p22, .int i23, .int i24, .ref p25, .ref p26, .ref p27, .ref p28, .ref p29, .ref p30, .ref p31, .ref p32])), (p0, .inl (cI, 1439, .inl w)), (p1, .inl (cI, 7195, .inl z))]) (wr := []) (w1 := [(m0, .inr (11, [.ref p0, .ref p1, .int (nI (min (hm + 1) 5)), .ref p3, .int i4, .ref p5, .int i6, .int i7, .int i8, .int i9, .ref p10, .int i11, .ref p12, .ref p13, .ref p14, .int i15, .ref p16, .ref p17, .int i18, .ref p19, .ref p20, .ref p21, .ref p22, .int i23, .int i24, .ref p25, .ref p26, .ref p27, .ref p28, .ref p29, .ref p30, .ref p31, .ref p32])), (p0, .inl (cI, 1439, .inl w)), (p1, .inl (cI, 7195, .inl (ftPush w z hm)))]) (ws1 := [(m0, .inr (11, [.ref p0, .ref p1, .int (nI (min (hm + 1) 5)), .ref p3, .int i4, .ref p5, .int i6, .int i7, .int i8, .int i9, .ref p10, .int i11, .ref p12, .ref p13, .ref p14, .int i15, .ref p16, .ref p17, .int i18, .ref p19, .ref p20, .ref p21, .ref p22, .int i23, .int i24, .ref p25, .ref p26, .ref p27, .ref p28, .ref p29, .ref p30, .ref p31, .ref p32])), (p0, .inl (cI, 1439, .inl w)), (p1, .inl (cI, 7195, .inl (ftPush w z hm)))]) (va_runV (C := RX11) (As := []) (rest := []) ⟨hx, hb, hml, hown, hts⟩ (c_X11_change l D cI cS s.heap.size m0 p0 p1 p3 p5 p10 p12 p13 p14 p16 p17 p19 p20 p21 p22 p25 p26 p27 p28 p29 p30 p31 p32 i4 i6 i7 i8 i9 i11 i15 i18 i23 i24 w z hm hhm) (cwV 0 hts gX11_set_X11_change rfl rfl rfl (by decide +kernel) ⟨Nat.le_of_ble_eq_true rfl, Nat.le_of_ble_eq_true rfl⟩) (ft_preRWV (ci := 11) (q0 := 0) hP hD hKK [0, 1, 2] rfl rfl rfl rfl rfl) rfl rfl hl.1 rfl (lv_room (Nat.le_of_ble_eq_true rfl)) dX11_set_34 ⟨Nat.le_of_ble_eq_true rfl, Nat.le_of_ble_eq_true rfl⟩) hP hD hS hA [0, 1, 2] [] [0, 1, 2] rfl rfl (by decide) (by decide) (by decide) rfl rfl (fun H locs hP hD hS => ?_)
      have hP : va_P D vwCl [(m0, .inr (11, [.ref p0, .ref p1, .int (nI (min (hm + 1) 5)), .ref p3, .int i4, .ref p5, .int i6, .int i7, .int i8, .int i9, .ref p10, .int i11, .ref p12, .ref p13, .ref p14, .int i15, .ref p16, .ref p17, .int i18, .ref p19, .ref p20, .ref p21, .ref p22, .int i23, .int i24, .ref p25, .ref p26, .ref p27, .ref p28, .ref p29, .ref p30, .ref p31, .ref p32])), (p0, .inl (cI, 1439, .inl w)), (p1, .inl (cI, 7195, .inl (ftPush w z hm)))] H := hP
      have hD : va_D A [(m0, .inr (11, [.ref p0, .ref p1, .int (nI (min (hm + 1) 5)), .ref p3, .int i4, .ref p5, .int i6, .int i7, .int i8, .int i9, .ref p10, .int i11, .ref p12, .ref p13, .ref p14, .int i15, .ref p16, .ref p17, .int i18, .ref p19, .ref p20, .ref p21, .ref p22, .int i23, .int i24, .ref p25, .ref p26, .ref p27, .ref p28, .ref p29, .ref p30, .ref p31, .ref p32])), (p0, .inl (cI, 1439, .inl w)), (p1, .inl (cI, 7195, .inl (ftPush w z hm)))] := hD
      refine lv_aload_n hx hb dX11_set_37 rfl (lv_at hl 0 rfl) ?_
      refine lv_iload_n hx hb dX11_set_38 rfl (lv_at hl 1 rfl) ?_
      refine ft_csi (r := w (44 + k9)) (va_runV (C := RX11) (As := [.int (nI k9)]) (rest := []) ⟨hx, hb, hml, hown, hts⟩ (c_X11_setting l D cI cS m0 p0 p1 p3 p5 p10 p12 p13 p14 p16 p17 p19 p20 p21 p22 p25 p26 p27 p28 p29 p30 p31 p32 (nI (min (hm + 1) 5)) i4 i6 i7 i8 i9 i11 i15 i18 i23 i24 w k9 (by omega)) (cwV 1 hts gX11_set_X11_setting rfl rfl rfl (by decide +kernel) ⟨Nat.le_of_ble_eq_true rfl, Nat.le_of_ble_eq_true rfl⟩) (ft_preROV (ci := 11) (q0 := 0) hP hKK [0, 1] rfl rfl rfl) rfl rfl hl.1 rfl (lv_room (Nat.le_of_ble_eq_true rfl)) dX11_set_39 ⟨Nat.le_of_ble_eq_true rfl, Nat.le_of_ble_eq_true rfl⟩) ?_
      refine lv_istore_n (lv' := [(3, .int (w (44 + k9))), (0, .ref m0), (1, .int (nI k9)), (2, .int xq1)]) hx hb dX11_set_42 rfl hl (by decide) rfl (fun ls hl => ?_)
      refine lv_aload_n hx hb dX11_set_43 rfl (lv_at hl 1 rfl) ?_
      refine va_get (D := D) (ci := 11) (v := .ref p0) (C := RX11) (T := TX11) (N := 33) hx hb hts (by decide +kernel) hown hK hP 0 rfl rfl 0 (by decide) (hts (.fieldLink RX11 7 "FiberTraceModel" "now" "[I") (by decide +kernel)) (fun _ h9 => h9) rfl dX11_set_44 ?_
      refine lv_bipush (v := 44) hx hb dX11_set_47 (by decide) ?_
      refine lv_iload_n hx hb dX11_set_49 rfl (lv_at hl 2 rfl) ?_
      refine lv_iadd hx hb dX11_set_50 ?_
      refine ft_top (y := nI (44 + k9)) (ft_addN 44 k9) ?_
      refine lv_iload_n hx hb dX11_set_51 rfl (lv_at hl 3 rfl) ?_
      refine va_iast hx hb hK hP hD hS 1 0 rfl rfl (vp_in_nI (by omega) (by omega)) dX11_set_52 (fun H locs hP hD hS => ?_)
      rw [nI_clamp (show 44 + k9 < 2 ^ 31 by omega)] at hP hD
      have hP : va_P D vwCl [(m0, .inr (11, [.ref p0, .ref p1, .int (nI (min (hm + 1) 5)), .ref p3, .int i4, .ref p5, .int i6, .int i7, .int i8, .int i9, .ref p10, .int i11, .ref p12, .ref p13, .ref p14, .int i15, .ref p16, .ref p17, .int i18, .ref p19, .ref p20, .ref p21, .ref p22, .int i23, .int i24, .ref p25, .ref p26, .ref p27, .ref p28, .ref p29, .ref p30, .ref p31, .ref p32])), (p0, .inl (cI, 1439, .inl (upd w (44 + k9) xq1))), (p1, .inl (cI, 7195, .inl (ftPush w z hm)))] H := hP
      have hD : va_D A [(m0, .inr (11, [.ref p0, .ref p1, .int (nI (min (hm + 1) 5)), .ref p3, .int i4, .ref p5, .int i6, .int i7, .int i8, .int i9, .ref p10, .int i11, .ref p12, .ref p13, .ref p14, .int i15, .ref p16, .ref p17, .int i18, .ref p19, .ref p20, .ref p21, .ref p22, .int i23, .int i24, .ref p25, .ref p26, .ref p27, .ref p28, .ref p29, .ref p30, .ref p31, .ref p32])), (p0, .inl (cI, 1439, .inl (upd w (44 + k9) xq1))), (p1, .inl (cI, 7195, .inl (ftPush w z hm)))] := hD
      refine lv_iload_n hx hb dX11_set_53 rfl (lv_at hl 0 rfl) ?_
      have hw9 : ([(m0, .inr (11, [.ref p0, .ref p1, .int (nI (min (hm + 1) 5)), .ref p3, .int i4, .ref p5, .int i6, .int i7, .int i8, .int i9, .ref p10, .int i11, .ref p12, .ref p13, .ref p14, .int i15, .ref p16, .ref p17, .int i18, .ref p19, .ref p20, .ref p21, .ref p22, .int i23, .int i24, .ref p25, .ref p26, .ref p27, .ref p28, .ref p29, .ref p30, .ref p31, .ref p32])), (p0, .inl (cI, 1439, .inl (upd w (44 + k9) xq1))), (p1, .inl (cI, 7195, .inl (ftPush w z hm)))] : va_W) = [(m0, .inr (11, [.ref p0, .ref p1, .int (nI (ftCh (ftSetC xq0 xq1) (min (hm + 1) 5) hm)), .ref p3, .int i4, .ref p5, .int i6, .int i7, .int i8, .int i9, .ref p10, .int i11, .ref p12, .ref p13, .ref p14, .int i15, .ref p16, .ref p17, .int i18, .ref p19, .ref p20, .ref p21, .ref p22, .int i23, .int i24, .ref p25, .ref p26, .ref p27, .ref p28, .ref p29, .ref p30, .ref p31, .ref p32])), (p0, .inl (cI, 1439, .inl (ftCh (ftSetC xq0 xq1) (upd w (44 + xq0.toNatClampNeg) xq1) w))), (p1, .inl (cI, 7195, .inl (ftCh (ftSetC xq0 xq1) (ftPush w z hm) z)))] := by rw [ftCh_t hC, ftCh_t hC, ftCh_t hC]; rw [hk8]
      rw [hw9] at hP hD
      exact W.iret (v := w (44 + k9)) hx hb hr (fun t ht hW => ⟨⟨w (44 + k9), (), rfl, (by show (w (44 + k9) : Int32) = ftIte (ftSetC xq0 xq1) (w (44 + xq0.toNatClampNeg)) (-1000001); rw [ftIte_t hC, hk8]), by rw [ht]; exact hP, by rw [hAe]; exact hD⟩, by rw [hAe]; exact hS.F ht⟩) hS.2.2 dX11_set_54
    · replace c27 := ftB_eq c27
      have hC : ¬ ftSetC xq0 xq1 := fun q => c27 q.2
      refine lv_ldc (v := (-1000001)) hx hb hown (hts (.constant RX11 95 (-1000001)) (by decide +kernel)) dX11_set_30 ?_
      have hw9 : ([(m0, .inr (11, [.ref p0, .ref p1, .int (nI hm), .ref p3, .int i4, .ref p5, .int i6, .int i7, .int i8, .int i9, .ref p10, .int i11, .ref p12, .ref p13, .ref p14, .int i15, .ref p16, .ref p17, .int i18, .ref p19, .ref p20, .ref p21, .ref p22, .int i23, .int i24, .ref p25, .ref p26, .ref p27, .ref p28, .ref p29, .ref p30, .ref p31, .ref p32])), (p0, .inl (cI, 1439, .inl w)), (p1, .inl (cI, 7195, .inl z))] : va_W) = [(m0, .inr (11, [.ref p0, .ref p1, .int (nI (ftCh (ftSetC xq0 xq1) (min (hm + 1) 5) hm)), .ref p3, .int i4, .ref p5, .int i6, .int i7, .int i8, .int i9, .ref p10, .int i11, .ref p12, .ref p13, .ref p14, .int i15, .ref p16, .ref p17, .int i18, .ref p19, .ref p20, .ref p21, .ref p22, .int i23, .int i24, .ref p25, .ref p26, .ref p27, .ref p28, .ref p29, .ref p30, .ref p31, .ref p32])), (p0, .inl (cI, 1439, .inl (ftCh (ftSetC xq0 xq1) (upd w (44 + xq0.toNatClampNeg) xq1) w))), (p1, .inl (cI, 7195, .inl (ftCh (ftSetC xq0 xq1) (ftPush w z hm) z)))] := by rw [ftCh_f hC, ftCh_f hC, ftCh_f hC]
      rw [hw9] at hP hD
      exact W.iret (v := (-1000001)) hx hb hr (fun t ht hW => ⟨⟨(-1000001), (), rfl, (by show ((-1000001) : Int32) = ftIte (ftSetC xq0 xq1) (w (44 + xq0.toNatClampNeg)) (-1000001); exact (ftIte_f hC).symm), by rw [ht]; exact hP, by rw [hAe]; exact hD⟩, by rw [hAe]; exact hS.F ht⟩) hS.2.2 dX11_set_32
set_option maxHeartbeats 4000000 in
set_option maxRecDepth 100000 in
theorem c_X11_lay (l : Launch) (D : va_G) (cI cS : ClassId) (sz : Nat) (m0 p0 p1 p3 p5 p10 p12 p13 p14 p16 p17 p19 p20 p21 p22 p25 p26 p27 p28 p29 p30 p31 p32 : Nat) (i6 i7 i8 i9 i11 i15 i18 i23 i24 : Int32) (w z tx md fg : Nat → Int32) (hm tn : Nat) (hhm : hm ≤ 5) (htn : tn ≤ 120) : Met l yX11_lay wsX11_lay ({ frames := 4, cells := 0, slots := 0, locals := 94 }) (ftRW D cI cS [.ref m0] [(m0, .inr (11, [.ref p0, .ref p1, .int (nI hm), .ref p3, .int (nI tn), .ref p5, .int i6, .int i7, .int i8, .int i9, .ref p10, .int i11, .ref p12, .ref p13, .ref p14, .int i15, .ref p16, .ref p17, .int i18, .ref p19, .ref p20, .ref p21, .ref p22, .int i23, .int i24, .ref p25, .ref p26, .ref p27, .ref p28, .ref p29, .ref p30, .ref p31, .ref p32])), (p0, .inl (cI, 1439, .inl w)), (p1, .inl (cI, 7195, .inl z)), (p3, .inl (cI, 120, .inl tx)), (p5, .inl (cI, 44, .inl md)), (p10, .inl (cI, 3, .inl fg))] sz) (ftXi D [(m0, .inr (11, [.ref p0, .ref p1, .int (nI hm), .ref p3, .int (nI tn), .ref p5, .int i6, .int i7, .int i8, .int i9, .ref p10, .int i11, .ref p12, .ref p13, .ref p14, .int i15, .ref p16, .ref p17, .int i18, .ref p19, .ref p20, .ref p21, .ref p22, .int i23, .int i24, .ref p25, .ref p26, .ref p27, .ref p28, .ref p29, .ref p30, .ref p31, .ref p32])), (p0, .inl (cI, 1439, .inl w)), (p1, .inl (cI, 7195, .inl z)), (p3, .inl (cI, 120, .inl tx)), (p5, .inl (cI, 44, .inl md)), (p10, .inl (cI, 3, .inl fg))] sz (fun (o9 : Int32) (u : (Nat → Int32) × (Nat → Nat → Int32)) => o9 = ftIte (¬ ftCPar tx tn = none) (nI (ftCN (ftCPm tx tn))) (-1000002) ∧ True) (fun (u : (Nat → Int32) × (Nat → Nat → Int32)) => [(m0, .inr (11, [.ref p0, .ref p1, .int (nI (ftCh (¬ ftCPar tx tn = none) (min (hm + 1) 5) hm)), .ref p3, .int (nI tn), .ref p5, .int (u.1 6), .int (u.1 7), .int (u.1 8), .int (u.1 9), .ref p10, .int (u.1 11), .ref p12, .ref p13, .ref p14, .int i15, .ref p16, .ref p17, .int i18, .ref p19, .ref p20, .ref p21, .ref p22, .int i23, .int i24, .ref p25, .ref p26, .ref p27, .ref p28, .ref p29, .ref p30, .ref p31, .ref p32])), (p0, .inl (cI, 1439, .inl (ftCh (¬ ftCPar tx tn = none) (ftLayW w (ftCPm tx tn)) w))), (p1, .inl (cI, 7195, .inl (ftCh (¬ ftCPar tx tn = none) (ftPush w z hm) z))), (p3, .inl (cI, 120, .inl tx)), (p5, .inl (cI, 44, .inl (u.2 5))), (p10, .inl (cI, 3, .inl (u.2 10)))])) 0 0 (va_A [(m0, .inr (11, [.ref p0, .ref p1, .int (nI hm), .ref p3, .int (nI tn), .ref p5, .int i6, .int i7, .int i8, .int i9, .ref p10, .int i11, .ref p12, .ref p13, .ref p14, .int i15, .ref p16, .ref p17, .int i18, .ref p19, .ref p20, .ref p21, .ref p22, .int i23, .int i24, .ref p25, .ref p26, .ref p27, .ref p28, .ref p29, .ref p30, .ref p31, .ref p32])), (p0, .inl (cI, 1439, .inl w)), (p1, .inl (cI, 7195, .inl z)), (p3, .inl (cI, 120, .inl tx)), (p5, .inl (cI, 44, .inl md)), (p10, .inl (cI, 3, .inl fg))] sz) := by
  refine Met.ofW (cc := cX11_lay) (maxL := 2) (ret := (some .int)) (by decide) rfl ?_
  intro p e s m args below meth c s₁ B hml hv
  obtain ⟨rfl, hsz, hP, hKK, hD0⟩ := hv
  have hK := hKK.1
  have hx := B.exec
  have hb := B.bytes
  have hr := B.returns
  have hts := atoms_spec (ws := wsX11_lay) B.pre
  have hown : s.vm.findClass RX11 = some m.cls := findClass_of_methodNamed B.named
  have hlocks := B.notSynchronized
  subst hsz
  have hD := hD0.self (sz := s.heap.size)
  generalize hAe : va_A [(m0, .inr (11, [.ref p0, .ref p1, .int (nI hm), .ref p3, .int (nI tn), .ref p5, .int i6, .int i7, .int i8, .int i9, .ref p10, .int i11, .ref p12, .ref p13, .ref p14, .int i15, .ref p16, .ref p17, .int i18, .ref p19, .ref p20, .ref p21, .ref p22, .int i23, .int i24, .ref p25, .ref p26, .ref p27, .ref p28, .ref p29, .ref p30, .ref p31, .ref p32])), (p0, .inl (cI, 1439, .inl w)), (p1, .inl (cI, 7195, .inl z)), (p3, .inl (cI, 120, .inl tx)), (p5, .inl (cI, 44, .inl md)), (p10, .inl (cI, 3, .inl fg))] s.heap.size = A at hD ⊢
  have hA : ∀ q : Nat, s.heap.size ≤ q → A q := fun q h => by rw [← hAe]; exact Or.inr h
  have hS : va_S A s.heap s.heap [] := va_S.rf
  have hD : va_D A [(m0, .inr (11, [.ref p0, .ref p1, .int (nI hm), .ref p3, .int (nI tn), .ref p5, .int i6, .int i7, .int i8, .int i9, .ref p10, .int i11, .ref p12, .ref p13, .ref p14, .int i15, .ref p16, .ref p17, .int i18, .ref p19, .ref p20, .ref p21, .ref p22, .int i23, .int i24, .ref p25, .ref p26, .ref p27, .ref p28, .ref p29, .ref p30, .ref p31, .ref p32])), (p0, .inl (cI, 1439, .inl w)), (p1, .inl (cI, 7195, .inl z)), (p3, .inl (cI, 120, .inl tx)), (p5, .inl (cI, 44, .inl md)), (p10, .inl (cI, 3, .inl fg))] := hD
  have hP : va_P D vwCl [(m0, .inr (11, [.ref p0, .ref p1, .int (nI hm), .ref p3, .int (nI tn), .ref p5, .int i6, .int i7, .int i8, .int i9, .ref p10, .int i11, .ref p12, .ref p13, .ref p14, .int i15, .ref p16, .ref p17, .int i18, .ref p19, .ref p20, .ref p21, .ref p22, .int i23, .int i24, .ref p25, .ref p26, .ref p27, .ref p28, .ref p29, .ref p30, .ref p31, .ref p32])), (p0, .inl (cI, 1439, .inl w)), (p1, .inl (cI, 7195, .inl z)), (p3, .inl (cI, 120, .inl tx)), (p5, .inl (cI, 44, .inl md)), (p10, .inl (cI, 3, .inl fg))] s.heap := hP
  have hl := lv_entry ([.ref m0]) (n := 2) (Nat.le_of_ble_eq_true rfl)
  rw [lg_entry_eq]
  generalize (lg_sl ([.ref m0]) ++ List.replicate (2 - (lg_sl ([.ref m0])).length) Slot.unset).toArray = ls at hl ⊢
  have hl : lv_has ls 2 [(0, .ref m0)] := hl
  refine lv_aload_n hx hb dX11_lay_0 rfl (lv_at hl 0 rfl) ?_
  refine ft_cxi (S := (Nat → Int32) × (Nat → Nat → Int32)) (wc := [(m0, .inr (11, [.ref p0, .ref p1, .int (nI hm), .ref p3, .int (nI tn), .ref p5, .int i6, .int i7, .int i8, .int i9, .ref p10, .int i11, .ref p12, .ref p13, .ref p14, .int i15, .ref p16, .ref p17, .int i18, .ref p19, .ref p20, .ref p21, .ref p22, .int i23, .int i24, .ref p25, .ref p26, .ref p27, .ref p28, .ref p29, .ref p30, .ref p31, .ref p32])), (p3, .inl (cI, 120, .inl tx)), (p5, .inl (cI, 44, .inl md)), (p10, .inl (cI, 3, .inl fg))]) (wr := [(p0, .inl (cI, 1439, .inl w)), (p1, .inl (cI, 7195, .inl z))]) (w1 := (fun (u1 : (Nat → Int32) × (Nat → Nat → Int32)) => [(m0, .inr (11, [.ref p0, .ref p1, .int (nI hm), .ref p3, .int (nI tn), .ref p5, .int (u1.1 0), .int (u1.1 1), .int (u1.1 2), .int (u1.1 3), .ref p10, .int (u1.1 4), .ref p12, .ref p13, .ref p14, .int i15, .ref p16, .ref p17, .int i18, .ref p19, .ref p20, .ref p21, .ref p22, .int i23, .int i24, .ref p25, .ref p26, .ref p27, .ref p28, .ref p29, .ref p30, .ref p31, .ref p32])), (p3, .inl (cI, 120, .inl tx)), (p5, .inl (cI, 44, .inl (u1.2 1))), (p10, .inl (cI, 3, .inl (u1.2 0)))])) (ws1 := (fun (u1 : (Nat → Int32) × (Nat → Nat → Int32)) => [(m0, .inr (11, [.ref p0, .ref p1, .int (nI hm), .ref p3, .int (nI tn), .ref p5, .int (u1.1 0), .int (u1.1 1), .int (u1.1 2), .int (u1.1 3), .ref p10, .int (u1.1 4), .ref p12, .ref p13, .ref p14, .int i15, .ref p16, .ref p17, .int i18, .ref p19, .ref p20, .ref p21, .ref p22, .int i23, .int i24, .ref p25, .ref p26, .ref p27, .ref p28, .ref p29, .ref p30, .ref p31, .ref p32])), (p0, .inl (cI, 1439, .inl w)), (p1, .inl (cI, 7195, .inl z)), (p3, .inl (cI, 120, .inl tx)), (p5, .inl (cI, 44, .inl (u1.2 1))), (p10, .inl (cI, 3, .inl (u1.2 0)))])) (va_runV (C := RX11) (As := []) (rest := []) ⟨hx, hb, hml, hown, hts⟩ (c_X11_hasFault l D cI cS s.heap.size m0 p0 p1 p3 p5 p10 p12 p13 p14 p16 p17 p19 p20 p21 p22 p25 p26 p27 p28 p29 p30 p31 p32 (nI hm) i6 i7 i8 i9 i11 i15 i18 i23 i24 tx md fg tn htn) (cwV 0 hts gX11_lay_X11_hasFault rfl rfl rfl (by decide +kernel) ⟨Nat.le_of_ble_eq_true rfl, Nat.le_of_ble_eq_true rfl⟩) (ft_preRWV (ci := 11) (q0 := 0) hP hD hKK [0, 3, 4, 5] rfl rfl rfl rfl rfl) rfl rfl hl.1 rfl (lv_room (Nat.le_of_ble_eq_true rfl)) dX11_lay_1 ⟨Nat.le_of_ble_eq_true rfl, Nat.le_of_ble_eq_true rfl⟩) hP hD hS hA [0, 3, 4, 5] [1, 2] [2, 0, 1, 3, 4, 5] rfl rfl (by decide) (by decide) (by decide) (fun _ => rfl) (fun _ => rfl) (fun o1 u1 hu1 H locs hP hD hS => ?_)
  obtain ⟨ho1, hu1⟩ := hu1
  have hpa1 := hu1
  have hP : va_P D vwCl [(m0, .inr (11, [.ref p0, .ref p1, .int (nI hm), .ref p3, .int (nI tn), .ref p5, .int (u1.1 0), .int (u1.1 1), .int (u1.1 2), .int (u1.1 3), .ref p10, .int (u1.1 4), .ref p12, .ref p13, .ref p14, .int i15, .ref p16, .ref p17, .int i18, .ref p19, .ref p20, .ref p21, .ref p22, .int i23, .int i24, .ref p25, .ref p26, .ref p27, .ref p28, .ref p29, .ref p30, .ref p31, .ref p32])), (p0, .inl (cI, 1439, .inl w)), (p1, .inl (cI, 7195, .inl z)), (p3, .inl (cI, 120, .inl tx)), (p5, .inl (cI, 44, .inl (u1.2 1))), (p10, .inl (cI, 3, .inl (u1.2 0)))] H := hP
  have hD : va_D A [(m0, .inr (11, [.ref p0, .ref p1, .int (nI hm), .ref p3, .int (nI tn), .ref p5, .int (u1.1 0), .int (u1.1 1), .int (u1.1 2), .int (u1.1 3), .ref p10, .int (u1.1 4), .ref p12, .ref p13, .ref p14, .int i15, .ref p16, .ref p17, .int i18, .ref p19, .ref p20, .ref p21, .ref p22, .int i23, .int i24, .ref p25, .ref p26, .ref p27, .ref p28, .ref p29, .ref p30, .ref p31, .ref p32])), (p0, .inl (cI, 1439, .inl w)), (p1, .inl (cI, 7195, .inl z)), (p3, .inl (cI, 120, .inl tx)), (p5, .inl (cI, 44, .inl (u1.2 1))), (p10, .inl (cI, 3, .inl (u1.2 0)))] := hD
  subst ho1
  refine lv_if_eq (tgt := 10) hx hb dX11_lay_4 (by decide) (fun c4 => ?_) (fun c4 => ?_)
  · replace c4 := ftB_eq c4
    obtain ⟨md9, hmd9⟩ : ∃ a, ftPars tx tn md = some a := by
      cases hq : ftPars tx tn md with
      | none => exact absurd hq c4
      | some a => exact ⟨a, rfl⟩
    obtain ⟨hcp, hmq⟩ := (ftPars_c tx tn md).2 md9 hmd9
    have hC : ¬ ftCPar tx tn = none := fun q => by rw [hcp] at q; cases q
    have hu1 : u1.2 1 = md9 := hpa1 md9 hmd9
    obtain ⟨hm3, hm10⟩ := ftMok_n hmq.1
    have hcn : ftCN md9 = ftCN (ftCPm tx tn) := ftMeq_n hmq
    rw [hu1] at hP hD
    refine lv_aload_n hx hb dX11_lay_10 rfl (lv_at hl 0 rfl) ?_
    refine ft_cv (wc := [(m0, .inr (11, [.ref p0, .ref p1, .int (nI hm), .ref p3, .int (nI tn), .ref p5, .int (u1.1 0), .int (u1.1 1), .int (u1.1 2), .int (u1.1 3), .ref p10, .int (u1.1 4), .ref p12, .ref p13, .ref p14, .int i15, .ref p16, .ref p17, .int i18, .ref p19, .ref p20, .ref p21, .ref p22, .int i23, .int i24, .ref p25, .ref p26, .ref p27, .ref p28, .ref p29, .ref p30, .ref p31, .ref p32])), (p0, .inl (cI, 1439, .inl w)), (p1, .inl (cI, 7195, .inl z))]) (wr := [(p3, .inl (cI, 120, .inl tx)), (p5, .inl (cI, 44, .inl md9)), (p10, .inl (cI, 3, .inl (u1.2 0)))]) (w1 := [(m0, .inr (11, [.ref p0, .ref p1, .int (nI (min (hm + 1) 5)), .ref p3, .int (nI tn), .ref p5, .int (u1.1 0), .int (u1.1 1), .int (u1.1 2), .int (u1.1 3), .ref p10, .int (u1.1 4), .ref p12, .ref p13, .ref p14, .int i15, .ref p16, .ref p17, .int i18, .ref p19, .ref p20, .ref p21, .ref p22, .int i23, .int i24, .ref p25, .ref p26, .ref p27, .ref p28, .ref p29, .ref p30, .ref p31, .ref p32])), (p0, .inl (cI, 1439, .inl w)), (p1, .inl (cI, 7195, .inl (ftPush w z hm)))]) (ws1 := [(m0, .inr (11, [.ref p0, .ref p1, .int (nI (min (hm + 1) 5)), .ref p3, .int (nI tn), .ref p5, .int (u1.1 0), .int (u1.1 1), .int (u1.1 2), .int (u1.1 3), .ref p10, .int (u1.1 4), .ref p12, .ref p13, .ref p14, .int i15, .ref p16, .ref p17, .int i18, .ref p19, .ref p20, .ref p21, .ref p22, .int i23, .int i24, .ref p25, .ref p26, .ref p27, .ref p28, .ref p29, .ref p30, .ref p31, .ref p32])), (p0, .inl (cI, 1439, .inl w)), (p1, .inl (cI, 7195, .inl (ftPush w z hm))), (p3, .inl (cI, 120, .inl tx)), (p5, .inl (cI, 44, .inl md9)), (p10, .inl (cI, 3, .inl (u1.2 0)))]) (va_runV (C := RX11) (As := []) (rest := []) ⟨hx, hb, hml, hown, hts⟩ (c_X11_change l D cI cS H.size m0 p0 p1 p3 p5 p10 p12 p13 p14 p16 p17 p19 p20 p21 p22 p25 p26 p27 p28 p29 p30 p31 p32 (nI tn) (u1.1 0) (u1.1 1) (u1.1 2) (u1.1 3) (u1.1 4) i15 i18 i23 i24 w z hm hhm) (cwV 0 hts gX11_lay_X11_change rfl rfl rfl (by decide +kernel) ⟨Nat.le_of_ble_eq_true rfl, Nat.le_of_ble_eq_true rfl⟩) (ft_preRWV (ci := 11) (q0 := 0) hP hD hKK [0, 1, 2] rfl rfl rfl rfl rfl) rfl rfl hl.1 rfl (lv_room (Nat.le_of_ble_eq_true rfl)) dX11_lay_11 ⟨Nat.le_of_ble_eq_true rfl, Nat.le_of_ble_eq_true rfl⟩) hP hD hS hA [0, 1, 2] [3, 4, 5] [3, 4, 5, 0, 1, 2] rfl rfl (by decide) (by decide) (by decide) rfl rfl (fun H locs hP hD hS => ?_)
    have hP : va_P D vwCl [(m0, .inr (11, [.ref p0, .ref p1, .int (nI (min (hm + 1) 5)), .ref p3, .int (nI tn), .ref p5, .int (u1.1 0), .int (u1.1 1), .int (u1.1 2), .int (u1.1 3), .ref p10, .int (u1.1 4), .ref p12, .ref p13, .ref p14, .int i15, .ref p16, .ref p17, .int i18, .ref p19, .ref p20, .ref p21, .ref p22, .int i23, .int i24, .ref p25, .ref p26, .ref p27, .ref p28, .ref p29, .ref p30, .ref p31, .ref p32])), (p0, .inl (cI, 1439, .inl w)), (p1, .inl (cI, 7195, .inl (ftPush w z hm))), (p3, .inl (cI, 120, .inl tx)), (p5, .inl (cI, 44, .inl md9)), (p10, .inl (cI, 3, .inl (u1.2 0)))] H := hP
    have hD : va_D A [(m0, .inr (11, [.ref p0, .ref p1, .int (nI (min (hm + 1) 5)), .ref p3, .int (nI tn), .ref p5, .int (u1.1 0), .int (u1.1 1), .int (u1.1 2), .int (u1.1 3), .ref p10, .int (u1.1 4), .ref p12, .ref p13, .ref p14, .int i15, .ref p16, .ref p17, .int i18, .ref p19, .ref p20, .ref p21, .ref p22, .int i23, .int i24, .ref p25, .ref p26, .ref p27, .ref p28, .ref p29, .ref p30, .ref p31, .ref p32])), (p0, .inl (cI, 1439, .inl w)), (p1, .inl (cI, 7195, .inl (ftPush w z hm))), (p3, .inl (cI, 120, .inl tx)), (p5, .inl (cI, 44, .inl md9)), (p10, .inl (cI, 3, .inl (u1.2 0)))] := hD
    refine lv_iconst (v := 0) hx hb dX11_lay_14 (by decide) ?_
    refine lv_istore_n (lv' := [(1, .int 0), (0, .ref m0)]) hx hb dX11_lay_15 rfl hl (by decide) rfl (fun ls hl => ?_)
    have lp16 : ∀ (n16 : Nat) (t : Nat) (x16_1 : Int32) (g16_p0 : Nat → Int32), 44 - t < n16 → (t ≤ 44) → x16_1 = nI t → g16_p0 = ftFill (fun x => if x < 4 + 4 * ftCN md9 then md9 x else 0) w t → ∀ (H : Heap) (locs : List Loc), va_P D vwCl [(m0, .inr (11, [.ref p0, .ref p1, .int (nI (min (hm + 1) 5)), .ref p3, .int (nI tn), .ref p5, .int (u1.1 0), .int (u1.1 1), .int (u1.1 2), .int (u1.1 3), .ref p10, .int (u1.1 4), .ref p12, .ref p13, .ref p14, .int i15, .ref p16, .ref p17, .int i18, .ref p19, .ref p20, .ref p21, .ref p22, .int i23, .int i24, .ref p25, .ref p26, .ref p27, .ref p28, .ref p29, .ref p30, .ref p31, .ref p32])), (p0, .inl (cI, 1439, .inl g16_p0)), (p1, .inl (cI, 7195, .inl (ftPush w z hm))), (p3, .inl (cI, 120, .inl tx)), (p5, .inl (cI, 44, .inl md9)), (p10, .inl (cI, 3, .inl (u1.2 0)))] H → va_D A [(m0, .inr (11, [.ref p0, .ref p1, .int (nI (min (hm + 1) 5)), .ref p3, .int (nI tn), .ref p5, .int (u1.1 0), .int (u1.1 1), .int (u1.1 2), .int (u1.1 3), .ref p10, .int (u1.1 4), .ref p12, .ref p13, .ref p14, .int i15, .ref p16, .ref p17, .int i18, .ref p19, .ref p20, .ref p21, .ref p22, .int i23, .int i24, .ref p25, .ref p26, .ref p27, .ref p28, .ref p29, .ref p30, .ref p31, .ref p32])), (p0, .inl (cI, 1439, .inl g16_p0)), (p1, .inl (cI, 7195, .inl (ftPush w z hm))), (p3, .inl (cI, 120, .inl tx)), (p5, .inl (cI, 44, .inl md9)), (p10, .inl (cI, 3, .inl (u1.2 0)))] → va_S A s.heap H locs → ∀ ls : Array Slot, lv_has ls 2 [(0, .ref m0), (1, .int x16_1)] → W p l e (headSpec wsX11_lay { frames := 4, cells := 0, slots := 0, locals := 94 }).room s m ([.ref m0] : List Value).toArray below meth c H locs 0 0 (MQ below (ftXi D [(m0, .inr (11, [.ref p0, .ref p1, .int (nI hm), .ref p3, .int (nI tn), .ref p5, .int i6, .int i7, .int i8, .int i9, .ref p10, .int i11, .ref p12, .ref p13, .ref p14, .int i15, .ref p16, .ref p17, .int i18, .ref p19, .ref p20, .ref p21, .ref p22, .int i23, .int i24, .ref p25, .ref p26, .ref p27, .ref p28, .ref p29, .ref p30, .ref p31, .ref p32])), (p0, .inl (cI, 1439, .inl w)), (p1, .inl (cI, 7195, .inl z)), (p3, .inl (cI, 120, .inl tx)), (p5, .inl (cI, 44, .inl md)), (p10, .inl (cI, 3, .inl fg))] s.heap.size (fun (o9 : Int32) (u : (Nat → Int32) × (Nat → Nat → Int32)) => o9 = ftIte (¬ ftCPar tx tn = none) (nI (ftCN (ftCPm tx tn))) (-1000002) ∧ True) (fun (u : (Nat → Int32) × (Nat → Nat → Int32)) => [(m0, .inr (11, [.ref p0, .ref p1, .int (nI (ftCh (¬ ftCPar tx tn = none) (min (hm + 1) 5) hm)), .ref p3, .int (nI tn), .ref p5, .int (u.1 6), .int (u.1 7), .int (u.1 8), .int (u.1 9), .ref p10, .int (u.1 11), .ref p12, .ref p13, .ref p14, .int i15, .ref p16, .ref p17, .int i18, .ref p19, .ref p20, .ref p21, .ref p22, .int i23, .int i24, .ref p25, .ref p26, .ref p27, .ref p28, .ref p29, .ref p30, .ref p31, .ref p32])), (p0, .inl (cI, 1439, .inl (ftCh (¬ ftCPar tx tn = none) (ftLayW w (ftCPm tx tn)) w))), (p1, .inl (cI, 7195, .inl (ftCh (¬ ftCPar tx tn = none) (ftPush w z hm) z))), (p3, .inl (cI, 120, .inl tx)), (p5, .inl (cI, 44, .inl (u.2 5))), (p10, .inl (cI, 3, .inl (u.2 10)))])) ([.ref m0] : List Value).toArray s 0 0 A) (F0 m 16 ls []) := by
      intro n16
      induction n16 with
      | zero =>
        intro t x16_1 g16_p0 hm16
        exact absurd hm16 (Nat.not_lt_zero _)
      | succ n16 ih16 =>
        intro t x16_1 g16_p0 hm16 ht44 ex16_1 eg16_p0 H locs hP hD hS ls hl
        subst ex16_1
        refine lv_iload_n hx hb dX11_lay_16 rfl (lv_at hl 1 rfl) ?_
        refine lv_bipush (v := 44) hx hb dX11_lay_17 (by decide) ?_
        refine lv_icmp_ge (tgt := 58) hx hb dX11_lay_19 (by decide) (fun c19 => ?_) (fun c19 => ?_)
        · have c19n : 44 ≤ t := ft_leN (by omega) (by omega) c19
          refine lv_aload_n hx hb dX11_lay_58 rfl (lv_at hl 0 rfl) ?_
          refine va_get (D := D) (ci := 11) (v := .ref p0) (C := RX11) (T := TX11) (N := 33) hx hb hts (by decide +kernel) hown hK hP 0 rfl rfl 0 (by decide) (hts (.fieldLink RX11 7 "FiberTraceModel" "now" "[I") (by decide +kernel)) (fun _ h9 => h9) rfl dX11_lay_59 ?_
          refine lv_iconst (v := 3) hx hb dX11_lay_62 (by decide) ?_
          refine va_iald hx hb hK hP 1 0 rfl rfl (vp_in_nI (n := 3) (by omega) (by omega)) dX11_lay_63 ?_
          refine ft_top (y := g16_p0 3) rfl ?_
          refine ft_top (y := nI (ftCN md9)) (by rw [eg16_p0, show t = 44 by omega, ftFill_at (by omega), if_pos (by omega)]; exact hm3) ?_
          obtain ⟨u9, hu9⟩ : ∃ u9 : (Nat → Int32) × (Nat → Nat → Int32), u9 = ((fun k => match k with | 6 => (u1.1 0) | 7 => (u1.1 1) | 8 => (u1.1 2) | 9 => (u1.1 3) | _ => (u1.1 4)), (fun k => match k with | 5 => md9 | _ => (u1.2 0))) := ⟨_, rfl⟩
          have hw9 : ([(m0, .inr (11, [.ref p0, .ref p1, .int (nI (min (hm + 1) 5)), .ref p3, .int (nI tn), .ref p5, .int (u1.1 0), .int (u1.1 1), .int (u1.1 2), .int (u1.1 3), .ref p10, .int (u1.1 4), .ref p12, .ref p13, .ref p14, .int i15, .ref p16, .ref p17, .int i18, .ref p19, .ref p20, .ref p21, .ref p22, .int i23, .int i24, .ref p25, .ref p26, .ref p27, .ref p28, .ref p29, .ref p30, .ref p31, .ref p32])), (p0, .inl (cI, 1439, .inl g16_p0)), (p1, .inl (cI, 7195, .inl (ftPush w z hm))), (p3, .inl (cI, 120, .inl tx)), (p5, .inl (cI, 44, .inl md9)), (p10, .inl (cI, 3, .inl (u1.2 0)))] : va_W) = [(m0, .inr (11, [.ref p0, .ref p1, .int (nI (ftCh (¬ ftCPar tx tn = none) (min (hm + 1) 5) hm)), .ref p3, .int (nI tn), .ref p5, .int (u9.1 6), .int (u9.1 7), .int (u9.1 8), .int (u9.1 9), .ref p10, .int (u9.1 11), .ref p12, .ref p13, .ref p14, .int i15, .ref p16, .ref p17, .int i18, .ref p19, .ref p20, .ref p21, .ref p22, .int i23, .int i24, .ref p25, .ref p26, .ref p27, .ref p28, .ref p29, .ref p30, .ref p31, .ref p32])), (p0, .inl (cI, 1439, .inl (ftCh (¬ ftCPar tx tn = none) (ftLayW w (ftCPm tx tn)) w))), (p1, .inl (cI, 7195, .inl (ftCh (¬ ftCPar tx tn = none) (ftPush w z hm) z))), (p3, .inl (cI, 120, .inl tx)), (p5, .inl (cI, 44, .inl (u9.2 5))), (p10, .inl (cI, 3, .inl (u9.2 10)))] := by rw [ftCh_t hC, ftCh_t hC, ftCh_t hC, hu9, ← ftLayW_cong hmq, eg16_p0, show t = 44 by omega]; rfl
          rw [hw9] at hP hD
          have hr9 : (nI (ftCN md9) : Int32) = ftIte (¬ ftCPar tx tn = none) (nI (ftCN (ftCPm tx tn))) (-1000002) := by rw [ftIte_t hC, hcn]
          exact W.iret (v := nI (ftCN md9)) hx hb hr (fun t ht hW => ⟨⟨nI (ftCN md9), u9, rfl, ⟨hr9, trivial⟩, by rw [ht]; exact hP, by rw [hAe]; exact hD⟩, by rw [hAe]; exact hS.F ht⟩) hS.2.2 dX11_lay_64
        · have c19n : t < 44 := ft_nleN (by omega) (by omega) c19
          refine lv_aload_n hx hb dX11_lay_22 rfl (lv_at hl 0 rfl) ?_
          refine va_get (D := D) (ci := 11) (v := .ref p0) (C := RX11) (T := TX11) (N := 33) hx hb hts (by decide +kernel) hown hK hP 0 rfl rfl 0 (by decide) (hts (.fieldLink RX11 7 "FiberTraceModel" "now" "[I") (by decide +kernel)) (fun _ h9 => h9) rfl dX11_lay_23 ?_
          refine lv_iload_n hx hb dX11_lay_26 rfl (lv_at hl 1 rfl) ?_
          refine lv_iload_n hx hb dX11_lay_27 rfl (lv_at hl 1 rfl) ?_
          refine lv_iconst (v := 4) hx hb dX11_lay_28 (by decide) ?_
          refine lv_iconst (v := 4) hx hb dX11_lay_29 (by decide) ?_
          refine lv_aload_n hx hb dX11_lay_30 rfl (lv_at hl 0 rfl) ?_
          refine va_get (D := D) (ci := 11) (v := .ref p5) (C := RX11) (T := TX11) (N := 33) hx hb hts (by decide +kernel) hown hK hP 0 rfl rfl 5 (by decide) (hts (.fieldLink RX11 19 "FiberTraceModel" "made" "[I") (by decide +kernel)) (fun _ h9 => h9) rfl dX11_lay_31 ?_
          refine lv_iconst (v := 3) hx hb dX11_lay_34 (by decide) ?_
          refine va_iald hx hb hK hP 4 0 rfl rfl (vp_in_nI (n := 3) (by omega) (by omega)) dX11_lay_35 ?_
          refine ft_top (y := md9 3) rfl ?_
          refine ft_top (y := nI (ftCN md9)) hm3 ?_
          refine lv_imul hx hb dX11_lay_36 ?_
          refine ft_top (y := nI (4 * (ftCN md9))) (ft_mulN 4 (ftCN md9)) ?_
          refine lv_iadd hx hb dX11_lay_37 ?_
          refine ft_top (y := nI (4 + (4 * (ftCN md9)))) (ft_addN 4 (4 * (ftCN md9))) ?_
          refine lv_icmp_ge (tgt := 50) hx hb dX11_lay_38 (by decide) (fun c38 => ?_) (fun c38 => ?_)
          · have c38n : (4 + (4 * (ftCN md9))) ≤ t := ft_leN (by omega) (by omega) c38
            refine lv_iconst (v := 0) hx hb dX11_lay_50 (by decide) ?_
            refine va_iast hx hb hK hP hD hS 1 0 rfl rfl (vp_in_nI (by omega) (by omega)) dX11_lay_51 (fun H locs hP hD hS => ?_)
            rw [nI_clamp (show t < 2 ^ 31 by omega)] at hP hD
            have hP : va_P D vwCl [(m0, .inr (11, [.ref p0, .ref p1, .int (nI (min (hm + 1) 5)), .ref p3, .int (nI tn), .ref p5, .int (u1.1 0), .int (u1.1 1), .int (u1.1 2), .int (u1.1 3), .ref p10, .int (u1.1 4), .ref p12, .ref p13, .ref p14, .int i15, .ref p16, .ref p17, .int i18, .ref p19, .ref p20, .ref p21, .ref p22, .int i23, .int i24, .ref p25, .ref p26, .ref p27, .ref p28, .ref p29, .ref p30, .ref p31, .ref p32])), (p0, .inl (cI, 1439, .inl (upd g16_p0 t 0))), (p1, .inl (cI, 7195, .inl (ftPush w z hm))), (p3, .inl (cI, 120, .inl tx)), (p5, .inl (cI, 44, .inl md9)), (p10, .inl (cI, 3, .inl (u1.2 0)))] H := hP
            have hD : va_D A [(m0, .inr (11, [.ref p0, .ref p1, .int (nI (min (hm + 1) 5)), .ref p3, .int (nI tn), .ref p5, .int (u1.1 0), .int (u1.1 1), .int (u1.1 2), .int (u1.1 3), .ref p10, .int (u1.1 4), .ref p12, .ref p13, .ref p14, .int i15, .ref p16, .ref p17, .int i18, .ref p19, .ref p20, .ref p21, .ref p22, .int i23, .int i24, .ref p25, .ref p26, .ref p27, .ref p28, .ref p29, .ref p30, .ref p31, .ref p32])), (p0, .inl (cI, 1439, .inl (upd g16_p0 t 0))), (p1, .inl (cI, 7195, .inl (ftPush w z hm))), (p3, .inl (cI, 120, .inl tx)), (p5, .inl (cI, 44, .inl md9)), (p10, .inl (cI, 3, .inl (u1.2 0)))] := hD
            refine lv_iinc (v := nI (t + 1)) (lv' := [(1, .int (nI (t + 1))), (0, .ref m0)]) hx hb dX11_lay_52 hl (k := 1) rfl (ft_inc t) (by decide) rfl (fun ls hl => ?_)
            refine lv_goto (tgt := 16) hx hb dX11_lay_55 (by decide) ?_
            exact ih16 (t + 1) (nI (t + 1)) (upd g16_p0 t 0) (by omega) (by omega) (by first | rfl | assumption) (by rw [eg16_p0]; refine ftFill_s ?_; first | (rw [if_pos c38n]; done) | (rw [if_neg (by omega)]; done)) _ _ hP hD hS ls (lv_sub hl [1, 0] rfl)
          · have c38n : t < (4 + (4 * (ftCN md9))) := ft_nleN (by omega) (by omega) c38
            refine lv_aload_n hx hb dX11_lay_41 rfl (lv_at hl 0 rfl) ?_
            refine va_get (D := D) (ci := 11) (v := .ref p5) (C := RX11) (T := TX11) (N := 33) hx hb hts (by decide +kernel) hown hK hP 0 rfl rfl 5 (by decide) (hts (.fieldLink RX11 19 "FiberTraceModel" "made" "[I") (by decide +kernel)) (fun _ h9 => h9) rfl dX11_lay_42 ?_
            refine lv_iload_n hx hb dX11_lay_45 rfl (lv_at hl 1 rfl) ?_
            refine va_iald hx hb hK hP 4 0 rfl rfl (vp_in_nI (by omega) (by omega)) dX11_lay_46 ?_
            refine ft_top (y := md9 t) (ft_clampN (by omega)) ?_
            refine lv_goto (tgt := 51) hx hb dX11_lay_47 (by decide) ?_
            refine va_iast hx hb hK hP hD hS 1 0 rfl rfl (vp_in_nI (by omega) (by omega)) dX11_lay_51 (fun H locs hP hD hS => ?_)
            rw [nI_clamp (show t < 2 ^ 31 by omega)] at hP hD
            have hP : va_P D vwCl [(m0, .inr (11, [.ref p0, .ref p1, .int (nI (min (hm + 1) 5)), .ref p3, .int (nI tn), .ref p5, .int (u1.1 0), .int (u1.1 1), .int (u1.1 2), .int (u1.1 3), .ref p10, .int (u1.1 4), .ref p12, .ref p13, .ref p14, .int i15, .ref p16, .ref p17, .int i18, .ref p19, .ref p20, .ref p21, .ref p22, .int i23, .int i24, .ref p25, .ref p26, .ref p27, .ref p28, .ref p29, .ref p30, .ref p31, .ref p32])), (p0, .inl (cI, 1439, .inl (upd g16_p0 t (md9 t)))), (p1, .inl (cI, 7195, .inl (ftPush w z hm))), (p3, .inl (cI, 120, .inl tx)), (p5, .inl (cI, 44, .inl md9)), (p10, .inl (cI, 3, .inl (u1.2 0)))] H := hP
            have hD : va_D A [(m0, .inr (11, [.ref p0, .ref p1, .int (nI (min (hm + 1) 5)), .ref p3, .int (nI tn), .ref p5, .int (u1.1 0), .int (u1.1 1), .int (u1.1 2), .int (u1.1 3), .ref p10, .int (u1.1 4), .ref p12, .ref p13, .ref p14, .int i15, .ref p16, .ref p17, .int i18, .ref p19, .ref p20, .ref p21, .ref p22, .int i23, .int i24, .ref p25, .ref p26, .ref p27, .ref p28, .ref p29, .ref p30, .ref p31, .ref p32])), (p0, .inl (cI, 1439, .inl (upd g16_p0 t (md9 t)))), (p1, .inl (cI, 7195, .inl (ftPush w z hm))), (p3, .inl (cI, 120, .inl tx)), (p5, .inl (cI, 44, .inl md9)), (p10, .inl (cI, 3, .inl (u1.2 0)))] := hD
            refine lv_iinc (v := nI (t + 1)) (lv' := [(1, .int (nI (t + 1))), (0, .ref m0)]) hx hb dX11_lay_52 hl (k := 1) rfl (ft_inc t) (by decide) rfl (fun ls hl => ?_)
            refine lv_goto (tgt := 16) hx hb dX11_lay_55 (by decide) ?_
            exact ih16 (t + 1) (nI (t + 1)) (upd g16_p0 t (md9 t)) (by omega) (by omega) (by first | rfl | assumption) (by rw [eg16_p0]; refine ftFill_s ?_; first | (rw [if_pos c38n]; done) | (rw [if_neg (by omega)]; done)) _ _ hP hD hS ls (lv_sub hl [1, 0] rfl)
    exact lp16 _ 0 0 w (Nat.lt_succ_self _) (by omega) (by rfl) (by exact ftFill_0 _ w) _ _ hP hD hS ls (lv_sub hl [1, 0] rfl)
  · replace c4 := ftB_ne c4
    have hC : ¬ (¬ ftCPar tx tn = none) := fun q => q ((ftPars_c tx tn md).1.mp c4)
    refine lv_ldc (v := (-1000002)) hx hb hown (hts (.constant RX11 86 (-1000002)) (by decide +kernel)) dX11_lay_7 ?_
    obtain ⟨u9, hu9⟩ : ∃ u9 : (Nat → Int32) × (Nat → Nat → Int32), u9 = ((fun k => match k with | 6 => (u1.1 0) | 7 => (u1.1 1) | 8 => (u1.1 2) | 9 => (u1.1 3) | _ => (u1.1 4)), (fun k => match k with | 5 => (u1.2 1) | _ => (u1.2 0))) := ⟨_, rfl⟩
    have hw9 : ([(m0, .inr (11, [.ref p0, .ref p1, .int (nI hm), .ref p3, .int (nI tn), .ref p5, .int (u1.1 0), .int (u1.1 1), .int (u1.1 2), .int (u1.1 3), .ref p10, .int (u1.1 4), .ref p12, .ref p13, .ref p14, .int i15, .ref p16, .ref p17, .int i18, .ref p19, .ref p20, .ref p21, .ref p22, .int i23, .int i24, .ref p25, .ref p26, .ref p27, .ref p28, .ref p29, .ref p30, .ref p31, .ref p32])), (p0, .inl (cI, 1439, .inl w)), (p1, .inl (cI, 7195, .inl z)), (p3, .inl (cI, 120, .inl tx)), (p5, .inl (cI, 44, .inl (u1.2 1))), (p10, .inl (cI, 3, .inl (u1.2 0)))] : va_W) = [(m0, .inr (11, [.ref p0, .ref p1, .int (nI (ftCh (¬ ftCPar tx tn = none) (min (hm + 1) 5) hm)), .ref p3, .int (nI tn), .ref p5, .int (u9.1 6), .int (u9.1 7), .int (u9.1 8), .int (u9.1 9), .ref p10, .int (u9.1 11), .ref p12, .ref p13, .ref p14, .int i15, .ref p16, .ref p17, .int i18, .ref p19, .ref p20, .ref p21, .ref p22, .int i23, .int i24, .ref p25, .ref p26, .ref p27, .ref p28, .ref p29, .ref p30, .ref p31, .ref p32])), (p0, .inl (cI, 1439, .inl (ftCh (¬ ftCPar tx tn = none) (ftLayW w (ftCPm tx tn)) w))), (p1, .inl (cI, 7195, .inl (ftCh (¬ ftCPar tx tn = none) (ftPush w z hm) z))), (p3, .inl (cI, 120, .inl tx)), (p5, .inl (cI, 44, .inl (u9.2 5))), (p10, .inl (cI, 3, .inl (u9.2 10)))] := by rw [ftCh_f hC, ftCh_f hC, ftCh_f hC, hu9]; rfl
    rw [hw9] at hP hD
    have hr9 : ((-1000002) : Int32) = ftIte (¬ ftCPar tx tn = none) (nI (ftCN (ftCPm tx tn))) (-1000002) := by exact (ftIte_f hC).symm
    exact W.iret (v := (-1000002)) hx hb hr (fun t ht hW => ⟨⟨(-1000002), u9, rfl, ⟨hr9, trivial⟩, by rw [ht]; exact hP, by rw [hAe]; exact hD⟩, by rw [hAe]; exact hS.F ht⟩) hS.2.2 dX11_lay_9
set_option maxHeartbeats 4000000 in
set_option maxRecDepth 100000 in
theorem c_X11_fault (l : Launch) (D : va_G) (cI cS : ClassId) (sz : Nat) (m0 p0 p1 p3 p5 p10 p12 p13 p14 p16 p17 p19 p20 p21 p22 p25 p26 p27 p28 p29 p30 p31 p32 : Nat) (i2 i6 i7 i8 i9 i11 i15 i18 i23 i24 : Int32) (tx md fg : Nat → Int32) (tn : Nat) (xq0 : Int32) (htn : tn ≤ 120) : Met l yX11_fault wsX11_fault ({ frames := 4, cells := 0, slots := 0, locals := 94 }) (ftRW D cI cS [.ref m0, .int xq0] [(m0, .inr (11, [.ref p0, .ref p1, .int i2, .ref p3, .int (nI tn), .ref p5, .int i6, .int i7, .int i8, .int i9, .ref p10, .int i11, .ref p12, .ref p13, .ref p14, .int i15, .ref p16, .ref p17, .int i18, .ref p19, .ref p20, .ref p21, .ref p22, .int i23, .int i24, .ref p25, .ref p26, .ref p27, .ref p28, .ref p29, .ref p30, .ref p31, .ref p32])), (p3, .inl (cI, 120, .inl tx)), (p5, .inl (cI, 44, .inl md)), (p10, .inl (cI, 3, .inl fg))] sz) (ftXi D [(m0, .inr (11, [.ref p0, .ref p1, .int i2, .ref p3, .int (nI tn), .ref p5, .int i6, .int i7, .int i8, .int i9, .ref p10, .int i11, .ref p12, .ref p13, .ref p14, .int i15, .ref p16, .ref p17, .int i18, .ref p19, .ref p20, .ref p21, .ref p22, .int i23, .int i24, .ref p25, .ref p26, .ref p27, .ref p28, .ref p29, .ref p30, .ref p31, .ref p32])), (p3, .inl (cI, 120, .inl tx)), (p5, .inl (cI, 44, .inl md)), (p10, .inl (cI, 3, .inl fg))] sz (fun (o9 : Int32) (u : (Nat → Int32) × (Nat → Nat → Int32)) => o9 = u.1 50 ∧ (¬ (0 ≤ xq0 ∧ xq0 ≤ 2) → u.1 50 = -1000001) ∧ ((0 ≤ xq0 ∧ xq0 ≤ 2) → ¬ ftCPar tx tn = none → u.1 50 = -1000004)) (fun (u : (Nat → Int32) × (Nat → Nat → Int32)) => [(m0, .inr (11, [.ref p0, .ref p1, .int i2, .ref p3, .int (nI tn), .ref p5, .int (u.1 6), .int (u.1 7), .int (u.1 8), .int (u.1 9), .ref p10, .int (u.1 11), .ref p12, .ref p13, .ref p14, .int i15, .ref p16, .ref p17, .int i18, .ref p19, .ref p20, .ref p21, .ref p22, .int i23, .int i24, .ref p25, .ref p26, .ref p27, .ref p28, .ref p29, .ref p30, .ref p31, .ref p32])), (p3, .inl (cI, 120, .inl tx)), (p5, .inl (cI, 44, .inl (u.2 5))), (p10, .inl (cI, 3, .inl (u.2 10)))])) 0 0 (va_A [(m0, .inr (11, [.ref p0, .ref p1, .int i2, .ref p3, .int (nI tn), .ref p5, .int i6, .int i7, .int i8, .int i9, .ref p10, .int i11, .ref p12, .ref p13, .ref p14, .int i15, .ref p16, .ref p17, .int i18, .ref p19, .ref p20, .ref p21, .ref p22, .int i23, .int i24, .ref p25, .ref p26, .ref p27, .ref p28, .ref p29, .ref p30, .ref p31, .ref p32])), (p3, .inl (cI, 120, .inl tx)), (p5, .inl (cI, 44, .inl md)), (p10, .inl (cI, 3, .inl fg))] sz) := by
  refine Met.ofW (cc := cX11_fault) (maxL := 2) (ret := (some .int)) (by decide) rfl ?_
  intro p e s m args below meth c s₁ B hml hv
  obtain ⟨rfl, hsz, hP, hKK, hD0⟩ := hv
  have hK := hKK.1
  have hx := B.exec
  have hb := B.bytes
  have hr := B.returns
  have hts := atoms_spec (ws := wsX11_fault) B.pre
  have hown : s.vm.findClass RX11 = some m.cls := findClass_of_methodNamed B.named
  have hlocks := B.notSynchronized
  subst hsz
  have hD := hD0.self (sz := s.heap.size)
  generalize hAe : va_A [(m0, .inr (11, [.ref p0, .ref p1, .int i2, .ref p3, .int (nI tn), .ref p5, .int i6, .int i7, .int i8, .int i9, .ref p10, .int i11, .ref p12, .ref p13, .ref p14, .int i15, .ref p16, .ref p17, .int i18, .ref p19, .ref p20, .ref p21, .ref p22, .int i23, .int i24, .ref p25, .ref p26, .ref p27, .ref p28, .ref p29, .ref p30, .ref p31, .ref p32])), (p3, .inl (cI, 120, .inl tx)), (p5, .inl (cI, 44, .inl md)), (p10, .inl (cI, 3, .inl fg))] s.heap.size = A at hD ⊢
  have hA : ∀ q : Nat, s.heap.size ≤ q → A q := fun q h => by rw [← hAe]; exact Or.inr h
  have hS : va_S A s.heap s.heap [] := va_S.rf
  have hD : va_D A [(m0, .inr (11, [.ref p0, .ref p1, .int i2, .ref p3, .int (nI tn), .ref p5, .int i6, .int i7, .int i8, .int i9, .ref p10, .int i11, .ref p12, .ref p13, .ref p14, .int i15, .ref p16, .ref p17, .int i18, .ref p19, .ref p20, .ref p21, .ref p22, .int i23, .int i24, .ref p25, .ref p26, .ref p27, .ref p28, .ref p29, .ref p30, .ref p31, .ref p32])), (p3, .inl (cI, 120, .inl tx)), (p5, .inl (cI, 44, .inl md)), (p10, .inl (cI, 3, .inl fg))] := hD
  have hP : va_P D vwCl [(m0, .inr (11, [.ref p0, .ref p1, .int i2, .ref p3, .int (nI tn), .ref p5, .int i6, .int i7, .int i8, .int i9, .ref p10, .int i11, .ref p12, .ref p13, .ref p14, .int i15, .ref p16, .ref p17, .int i18, .ref p19, .ref p20, .ref p21, .ref p22, .int i23, .int i24, .ref p25, .ref p26, .ref p27, .ref p28, .ref p29, .ref p30, .ref p31, .ref p32])), (p3, .inl (cI, 120, .inl tx)), (p5, .inl (cI, 44, .inl md)), (p10, .inl (cI, 3, .inl fg))] s.heap := hP
  have hl := lv_entry ([.ref m0, .int xq0]) (n := 2) (Nat.le_of_ble_eq_true rfl)
  rw [lg_entry_eq]
  generalize (lg_sl ([.ref m0, .int xq0]) ++ List.replicate (2 - (lg_sl ([.ref m0, .int xq0])).length) Slot.unset).toArray = ls at hl ⊢
  have hl : lv_has ls 2 [(0, .ref m0), (1, .int xq0)] := hl
  refine lv_iload_n hx hb dX11_fault_0 rfl (lv_at hl 1 rfl) ?_
  refine lv_i2l (v := xq0.toInt64) hx hb dX11_fault_1 rfl ?_
  refine lv_lconst (v := 0) hx hb dX11_fault_2 (by decide) ?_
  refine lv_ldc2 (v := 2) hx hb hown (hts (.constantLong RX11 167 2) (by decide +kernel)) dX11_fault_3 ?_
  refine ft_csi (r := ftB (0 ≤ xq0.toInt64 ∧ xq0.toInt64 ≤ 2)) (va_runS (As := [.long xq0.toInt64, .long 0, .long 2]) (rest := []) ⟨hx, hb, hml, hown, hts⟩ (c_X11_in l D cI cS xq0.toInt64 0 2) (va_cwS 3 hts gX11_fault_X11_in rfl rfl rfl (by decide +kernel) ⟨Nat.le_of_ble_eq_true rfl, Nat.le_of_ble_eq_true rfl⟩) (ft_preRO hP hKK [] rfl) rfl rfl hl.1 rfl (lv_room (Nat.le_of_ble_eq_true rfl)) dX11_fault_6 ⟨Nat.le_of_ble_eq_true rfl, Nat.le_of_ble_eq_true rfl⟩) ?_
  refine ft_top (y := ftB (0 ≤ xq0 ∧ xq0 ≤ 2)) (ft_in64 (by decide) (by decide)) ?_
  refine lv_if_ne (tgt := 15) hx hb dX11_fault_9 (by decide) (fun c9 => ?_) (fun c9 => ?_)
  · replace c9 := ftB_ne c9
    refine lv_aload_n hx hb dX11_fault_15 rfl (lv_at hl 0 rfl) ?_
    refine ft_cxi (S := (Nat → Int32) × (Nat → Nat → Int32)) (wc := [(m0, .inr (11, [.ref p0, .ref p1, .int i2, .ref p3, .int (nI tn), .ref p5, .int i6, .int i7, .int i8, .int i9, .ref p10, .int i11, .ref p12, .ref p13, .ref p14, .int i15, .ref p16, .ref p17, .int i18, .ref p19, .ref p20, .ref p21, .ref p22, .int i23, .int i24, .ref p25, .ref p26, .ref p27, .ref p28, .ref p29, .ref p30, .ref p31, .ref p32])), (p3, .inl (cI, 120, .inl tx)), (p5, .inl (cI, 44, .inl md)), (p10, .inl (cI, 3, .inl fg))]) (wr := []) (w1 := (fun (u16 : (Nat → Int32) × (Nat → Nat → Int32)) => [(m0, .inr (11, [.ref p0, .ref p1, .int i2, .ref p3, .int (nI tn), .ref p5, .int (u16.1 0), .int (u16.1 1), .int (u16.1 2), .int (u16.1 3), .ref p10, .int (u16.1 4), .ref p12, .ref p13, .ref p14, .int i15, .ref p16, .ref p17, .int i18, .ref p19, .ref p20, .ref p21, .ref p22, .int i23, .int i24, .ref p25, .ref p26, .ref p27, .ref p28, .ref p29, .ref p30, .ref p31, .ref p32])), (p3, .inl (cI, 120, .inl tx)), (p5, .inl (cI, 44, .inl (u16.2 1))), (p10, .inl (cI, 3, .inl (u16.2 0)))])) (ws1 := (fun (u16 : (Nat → Int32) × (Nat → Nat → Int32)) => [(m0, .inr (11, [.ref p0, .ref p1, .int i2, .ref p3, .int (nI tn), .ref p5, .int (u16.1 0), .int (u16.1 1), .int (u16.1 2), .int (u16.1 3), .ref p10, .int (u16.1 4), .ref p12, .ref p13, .ref p14, .int i15, .ref p16, .ref p17, .int i18, .ref p19, .ref p20, .ref p21, .ref p22, .int i23, .int i24, .ref p25, .ref p26, .ref p27, .ref p28, .ref p29, .ref p30, .ref p31, .ref p32])), (p3, .inl (cI, 120, .inl tx)), (p5, .inl (cI, 44, .inl (u16.2 1))), (p10, .inl (cI, 3, .inl (u16.2 0)))])) (va_runV (C := RX11) (As := []) (rest := []) ⟨hx, hb, hml, hown, hts⟩ (c_X11_hasFault l D cI cS s.heap.size m0 p0 p1 p3 p5 p10 p12 p13 p14 p16 p17 p19 p20 p21 p22 p25 p26 p27 p28 p29 p30 p31 p32 i2 i6 i7 i8 i9 i11 i15 i18 i23 i24 tx md fg tn htn) (cwV 0 hts gX11_fault_X11_hasFault rfl rfl rfl (by decide +kernel) ⟨Nat.le_of_ble_eq_true rfl, Nat.le_of_ble_eq_true rfl⟩) (ft_preRWV (ci := 11) (q0 := 0) hP hD hKK [0, 1, 2, 3] rfl rfl rfl rfl rfl) rfl rfl hl.1 rfl (lv_room (Nat.le_of_ble_eq_true rfl)) dX11_fault_16 ⟨Nat.le_of_ble_eq_true rfl, Nat.le_of_ble_eq_true rfl⟩) hP hD hS hA [0, 1, 2, 3] [] [0, 1, 2, 3] rfl rfl (by decide) (by decide) (by decide) (fun _ => rfl) (fun _ => rfl) (fun o16 u16 hu16 H locs hP hD hS => ?_)
    obtain ⟨ho16, hu16⟩ := hu16
    have hpa16 := hu16
    have hP : va_P D vwCl [(m0, .inr (11, [.ref p0, .ref p1, .int i2, .ref p3, .int (nI tn), .ref p5, .int (u16.1 0), .int (u16.1 1), .int (u16.1 2), .int (u16.1 3), .ref p10, .int (u16.1 4), .ref p12, .ref p13, .ref p14, .int i15, .ref p16, .ref p17, .int i18, .ref p19, .ref p20, .ref p21, .ref p22, .int i23, .int i24, .ref p25, .ref p26, .ref p27, .ref p28, .ref p29, .ref p30, .ref p31, .ref p32])), (p3, .inl (cI, 120, .inl tx)), (p5, .inl (cI, 44, .inl (u16.2 1))), (p10, .inl (cI, 3, .inl (u16.2 0)))] H := hP
    have hD : va_D A [(m0, .inr (11, [.ref p0, .ref p1, .int i2, .ref p3, .int (nI tn), .ref p5, .int (u16.1 0), .int (u16.1 1), .int (u16.1 2), .int (u16.1 3), .ref p10, .int (u16.1 4), .ref p12, .ref p13, .ref p14, .int i15, .ref p16, .ref p17, .int i18, .ref p19, .ref p20, .ref p21, .ref p22, .int i23, .int i24, .ref p25, .ref p26, .ref p27, .ref p28, .ref p29, .ref p30, .ref p31, .ref p32])), (p3, .inl (cI, 120, .inl tx)), (p5, .inl (cI, 44, .inl (u16.2 1))), (p10, .inl (cI, 3, .inl (u16.2 0)))] := hD
    subst ho16
    refine lv_if_ne (tgt := 27) hx hb dX11_fault_19 (by decide) (fun c19 => ?_) (fun c19 => ?_)
    · replace c19 := ftB_ne c19
      have hbad : ftCPar tx tn = none := (ftPars_c tx tn md).1.mp c19
      refine lv_iload_n hx hb dX11_fault_27 rfl (lv_at hl 1 rfl) ?_
      refine lv_if_ne (tgt := 38) hx hb dX11_fault_28 (by decide) (fun c28 => ?_) (fun c28 => ?_)
      · refine lv_iload_n hx hb dX11_fault_38 rfl (lv_at hl 1 rfl) ?_
        refine lv_iconst (v := 1) hx hb dX11_fault_39 (by decide) ?_
        refine lv_icmp_ne (tgt := 50) hx hb dX11_fault_40 (by decide) (fun c40 => ?_) (fun c40 => ?_)
        · refine lv_aload_n hx hb dX11_fault_50 rfl (lv_at hl 0 rfl) ?_
          refine va_get (D := D) (ci := 11) (v := .int (u16.1 3)) (C := RX11) (T := TX11) (N := 33) hx hb hts (by decide +kernel) hown hK hP 0 rfl rfl 9 (by decide) (hts (.fieldLink RX11 139 "FiberTraceModel" "which" "I") (by decide +kernel)) (fun _ h9 => h9) rfl dX11_fault_51 ?_
          obtain ⟨u9, hu9⟩ : ∃ u9 : (Nat → Int32) × (Nat → Nat → Int32), u9 = ((fun k => match k with | 50 => (u16.1 3) | 6 => (u16.1 0) | 7 => (u16.1 1) | 8 => (u16.1 2) | 9 => (u16.1 3) | _ => (u16.1 4)), (fun k => match k with | 5 => (u16.2 1) | _ => (u16.2 0))) := ⟨_, rfl⟩
          have hw9 : ([(m0, .inr (11, [.ref p0, .ref p1, .int i2, .ref p3, .int (nI tn), .ref p5, .int (u16.1 0), .int (u16.1 1), .int (u16.1 2), .int (u16.1 3), .ref p10, .int (u16.1 4), .ref p12, .ref p13, .ref p14, .int i15, .ref p16, .ref p17, .int i18, .ref p19, .ref p20, .ref p21, .ref p22, .int i23, .int i24, .ref p25, .ref p26, .ref p27, .ref p28, .ref p29, .ref p30, .ref p31, .ref p32])), (p3, .inl (cI, 120, .inl tx)), (p5, .inl (cI, 44, .inl (u16.2 1))), (p10, .inl (cI, 3, .inl (u16.2 0)))] : va_W) = [(m0, .inr (11, [.ref p0, .ref p1, .int i2, .ref p3, .int (nI tn), .ref p5, .int (u9.1 6), .int (u9.1 7), .int (u9.1 8), .int (u9.1 9), .ref p10, .int (u9.1 11), .ref p12, .ref p13, .ref p14, .int i15, .ref p16, .ref p17, .int i18, .ref p19, .ref p20, .ref p21, .ref p22, .int i23, .int i24, .ref p25, .ref p26, .ref p27, .ref p28, .ref p29, .ref p30, .ref p31, .ref p32])), (p3, .inl (cI, 120, .inl tx)), (p5, .inl (cI, 44, .inl (u9.2 5))), (p10, .inl (cI, 3, .inl (u9.2 10)))] := by subst hu9; rfl
          rw [hw9] at hP hD
          have hf9_0 : ¬ (0 ≤ xq0 ∧ xq0 ≤ 2) → u9.1 50 = -1000001 := by rw [hu9]; intro q; first | exact absurd c9 q | rfl
          have hf9_1 : (0 ≤ xq0 ∧ xq0 ≤ 2) → ¬ ftCPar tx tn = none → u9.1 50 = -1000004 := by rw [hu9]; intro q r; first | exact absurd q c9 | exact absurd hbad r | rfl
          have hr9 : (u16.1 3 : Int32) = u9.1 50 := by subst hu9; rfl
          exact W.iret (v := u16.1 3) hx hb hr (fun t ht hW => ⟨⟨u16.1 3, u9, rfl, ⟨hr9, ⟨hf9_0, hf9_1⟩⟩, by rw [ht]; exact hP, by rw [hAe]; exact hD⟩, by rw [hAe]; exact hS.F ht⟩) hS.2.2 dX11_fault_54
        · refine lv_aload_n hx hb dX11_fault_43 rfl (lv_at hl 0 rfl) ?_
          refine va_get (D := D) (ci := 11) (v := .int (u16.1 2)) (C := RX11) (T := TX11) (N := 33) hx hb hts (by decide +kernel) hown hK hP 0 rfl rfl 8 (by decide) (hts (.fieldLink RX11 136 "FiberTraceModel" "why" "I") (by decide +kernel)) (fun _ h9 => h9) rfl dX11_fault_44 ?_
          refine lv_goto (tgt := 54) hx hb dX11_fault_47 (by decide) ?_
          obtain ⟨u9, hu9⟩ : ∃ u9 : (Nat → Int32) × (Nat → Nat → Int32), u9 = ((fun k => match k with | 50 => (u16.1 2) | 6 => (u16.1 0) | 7 => (u16.1 1) | 8 => (u16.1 2) | 9 => (u16.1 3) | _ => (u16.1 4)), (fun k => match k with | 5 => (u16.2 1) | _ => (u16.2 0))) := ⟨_, rfl⟩
          have hw9 : ([(m0, .inr (11, [.ref p0, .ref p1, .int i2, .ref p3, .int (nI tn), .ref p5, .int (u16.1 0), .int (u16.1 1), .int (u16.1 2), .int (u16.1 3), .ref p10, .int (u16.1 4), .ref p12, .ref p13, .ref p14, .int i15, .ref p16, .ref p17, .int i18, .ref p19, .ref p20, .ref p21, .ref p22, .int i23, .int i24, .ref p25, .ref p26, .ref p27, .ref p28, .ref p29, .ref p30, .ref p31, .ref p32])), (p3, .inl (cI, 120, .inl tx)), (p5, .inl (cI, 44, .inl (u16.2 1))), (p10, .inl (cI, 3, .inl (u16.2 0)))] : va_W) = [(m0, .inr (11, [.ref p0, .ref p1, .int i2, .ref p3, .int (nI tn), .ref p5, .int (u9.1 6), .int (u9.1 7), .int (u9.1 8), .int (u9.1 9), .ref p10, .int (u9.1 11), .ref p12, .ref p13, .ref p14, .int i15, .ref p16, .ref p17, .int i18, .ref p19, .ref p20, .ref p21, .ref p22, .int i23, .int i24, .ref p25, .ref p26, .ref p27, .ref p28, .ref p29, .ref p30, .ref p31, .ref p32])), (p3, .inl (cI, 120, .inl tx)), (p5, .inl (cI, 44, .inl (u9.2 5))), (p10, .inl (cI, 3, .inl (u9.2 10)))] := by subst hu9; rfl
          rw [hw9] at hP hD
          have hf9_0 : ¬ (0 ≤ xq0 ∧ xq0 ≤ 2) → u9.1 50 = -1000001 := by rw [hu9]; intro q; first | exact absurd c9 q | rfl
          have hf9_1 : (0 ≤ xq0 ∧ xq0 ≤ 2) → ¬ ftCPar tx tn = none → u9.1 50 = -1000004 := by rw [hu9]; intro q r; first | exact absurd q c9 | exact absurd hbad r | rfl
          have hr9 : (u16.1 2 : Int32) = u9.1 50 := by subst hu9; rfl
          exact W.iret (v := u16.1 2) hx hb hr (fun t ht hW => ⟨⟨u16.1 2, u9, rfl, ⟨hr9, ⟨hf9_0, hf9_1⟩⟩, by rw [ht]; exact hP, by rw [hAe]; exact hD⟩, by rw [hAe]; exact hS.F ht⟩) hS.2.2 dX11_fault_54
      · refine lv_aload_n hx hb dX11_fault_31 rfl (lv_at hl 0 rfl) ?_
        refine va_get (D := D) (ci := 11) (v := .int (u16.1 1)) (C := RX11) (T := TX11) (N := 33) hx hb hts (by decide +kernel) hown hK hP 0 rfl rfl 7 (by decide) (hts (.fieldLink RX11 161 "FiberTraceModel" "begun" "I") (by decide +kernel)) (fun _ h9 => h9) rfl dX11_fault_32 ?_
        refine lv_goto (tgt := 54) hx hb dX11_fault_35 (by decide) ?_
        obtain ⟨u9, hu9⟩ : ∃ u9 : (Nat → Int32) × (Nat → Nat → Int32), u9 = ((fun k => match k with | 50 => (u16.1 1) | 6 => (u16.1 0) | 7 => (u16.1 1) | 8 => (u16.1 2) | 9 => (u16.1 3) | _ => (u16.1 4)), (fun k => match k with | 5 => (u16.2 1) | _ => (u16.2 0))) := ⟨_, rfl⟩
        have hw9 : ([(m0, .inr (11, [.ref p0, .ref p1, .int i2, .ref p3, .int (nI tn), .ref p5, .int (u16.1 0), .int (u16.1 1), .int (u16.1 2), .int (u16.1 3), .ref p10, .int (u16.1 4), .ref p12, .ref p13, .ref p14, .int i15, .ref p16, .ref p17, .int i18, .ref p19, .ref p20, .ref p21, .ref p22, .int i23, .int i24, .ref p25, .ref p26, .ref p27, .ref p28, .ref p29, .ref p30, .ref p31, .ref p32])), (p3, .inl (cI, 120, .inl tx)), (p5, .inl (cI, 44, .inl (u16.2 1))), (p10, .inl (cI, 3, .inl (u16.2 0)))] : va_W) = [(m0, .inr (11, [.ref p0, .ref p1, .int i2, .ref p3, .int (nI tn), .ref p5, .int (u9.1 6), .int (u9.1 7), .int (u9.1 8), .int (u9.1 9), .ref p10, .int (u9.1 11), .ref p12, .ref p13, .ref p14, .int i15, .ref p16, .ref p17, .int i18, .ref p19, .ref p20, .ref p21, .ref p22, .int i23, .int i24, .ref p25, .ref p26, .ref p27, .ref p28, .ref p29, .ref p30, .ref p31, .ref p32])), (p3, .inl (cI, 120, .inl tx)), (p5, .inl (cI, 44, .inl (u9.2 5))), (p10, .inl (cI, 3, .inl (u9.2 10)))] := by subst hu9; rfl
        rw [hw9] at hP hD
        have hf9_0 : ¬ (0 ≤ xq0 ∧ xq0 ≤ 2) → u9.1 50 = -1000001 := by rw [hu9]; intro q; first | exact absurd c9 q | rfl
        have hf9_1 : (0 ≤ xq0 ∧ xq0 ≤ 2) → ¬ ftCPar tx tn = none → u9.1 50 = -1000004 := by rw [hu9]; intro q r; first | exact absurd q c9 | exact absurd hbad r | rfl
        have hr9 : (u16.1 1 : Int32) = u9.1 50 := by subst hu9; rfl
        exact W.iret (v := u16.1 1) hx hb hr (fun t ht hW => ⟨⟨u16.1 1, u9, rfl, ⟨hr9, ⟨hf9_0, hf9_1⟩⟩, by rw [ht]; exact hP, by rw [hAe]; exact hD⟩, by rw [hAe]; exact hS.F ht⟩) hS.2.2 dX11_fault_54
    · replace c19 := ftB_eq c19
      refine lv_ldc (v := (-1000004)) hx hb hown (hts (.constant RX11 173 (-1000004)) (by decide +kernel)) dX11_fault_22 ?_
      refine lv_goto (tgt := 54) hx hb dX11_fault_24 (by decide) ?_
      obtain ⟨u9, hu9⟩ : ∃ u9 : (Nat → Int32) × (Nat → Nat → Int32), u9 = ((fun k => match k with | 50 => (-1000004) | 6 => (u16.1 0) | 7 => (u16.1 1) | 8 => (u16.1 2) | 9 => (u16.1 3) | _ => (u16.1 4)), (fun k => match k with | 5 => (u16.2 1) | _ => (u16.2 0))) := ⟨_, rfl⟩
      have hw9 : ([(m0, .inr (11, [.ref p0, .ref p1, .int i2, .ref p3, .int (nI tn), .ref p5, .int (u16.1 0), .int (u16.1 1), .int (u16.1 2), .int (u16.1 3), .ref p10, .int (u16.1 4), .ref p12, .ref p13, .ref p14, .int i15, .ref p16, .ref p17, .int i18, .ref p19, .ref p20, .ref p21, .ref p22, .int i23, .int i24, .ref p25, .ref p26, .ref p27, .ref p28, .ref p29, .ref p30, .ref p31, .ref p32])), (p3, .inl (cI, 120, .inl tx)), (p5, .inl (cI, 44, .inl (u16.2 1))), (p10, .inl (cI, 3, .inl (u16.2 0)))] : va_W) = [(m0, .inr (11, [.ref p0, .ref p1, .int i2, .ref p3, .int (nI tn), .ref p5, .int (u9.1 6), .int (u9.1 7), .int (u9.1 8), .int (u9.1 9), .ref p10, .int (u9.1 11), .ref p12, .ref p13, .ref p14, .int i15, .ref p16, .ref p17, .int i18, .ref p19, .ref p20, .ref p21, .ref p22, .int i23, .int i24, .ref p25, .ref p26, .ref p27, .ref p28, .ref p29, .ref p30, .ref p31, .ref p32])), (p3, .inl (cI, 120, .inl tx)), (p5, .inl (cI, 44, .inl (u9.2 5))), (p10, .inl (cI, 3, .inl (u9.2 10)))] := by subst hu9; rfl
      rw [hw9] at hP hD
      have hf9_0 : ¬ (0 ≤ xq0 ∧ xq0 ≤ 2) → u9.1 50 = -1000001 := by rw [hu9]; intro q; first | exact absurd c9 q | rfl
      have hf9_1 : (0 ≤ xq0 ∧ xq0 ≤ 2) → ¬ ftCPar tx tn = none → u9.1 50 = -1000004 := by rw [hu9]; intro q r; first | exact absurd q c9 | exact absurd hbad r | rfl
      have hr9 : ((-1000004) : Int32) = u9.1 50 := by subst hu9; rfl
      exact W.iret (v := (-1000004)) hx hb hr (fun t ht hW => ⟨⟨(-1000004), u9, rfl, ⟨hr9, ⟨hf9_0, hf9_1⟩⟩, by rw [ht]; exact hP, by rw [hAe]; exact hD⟩, by rw [hAe]; exact hS.F ht⟩) hS.2.2 dX11_fault_54
  · replace c9 := ftB_eq c9
    refine lv_ldc (v := (-1000001)) hx hb hown (hts (.constant RX11 95 (-1000001)) (by decide +kernel)) dX11_fault_12 ?_
    obtain ⟨u9, hu9⟩ : ∃ u9 : (Nat → Int32) × (Nat → Nat → Int32), u9 = ((fun k => match k with | 50 => (-1000001) | 6 => i6 | 7 => i7 | 8 => i8 | 9 => i9 | _ => i11), (fun k => match k with | 5 => md | _ => fg)) := ⟨_, rfl⟩
    have hw9 : ([(m0, .inr (11, [.ref p0, .ref p1, .int i2, .ref p3, .int (nI tn), .ref p5, .int i6, .int i7, .int i8, .int i9, .ref p10, .int i11, .ref p12, .ref p13, .ref p14, .int i15, .ref p16, .ref p17, .int i18, .ref p19, .ref p20, .ref p21, .ref p22, .int i23, .int i24, .ref p25, .ref p26, .ref p27, .ref p28, .ref p29, .ref p30, .ref p31, .ref p32])), (p3, .inl (cI, 120, .inl tx)), (p5, .inl (cI, 44, .inl md)), (p10, .inl (cI, 3, .inl fg))] : va_W) = [(m0, .inr (11, [.ref p0, .ref p1, .int i2, .ref p3, .int (nI tn), .ref p5, .int (u9.1 6), .int (u9.1 7), .int (u9.1 8), .int (u9.1 9), .ref p10, .int (u9.1 11), .ref p12, .ref p13, .ref p14, .int i15, .ref p16, .ref p17, .int i18, .ref p19, .ref p20, .ref p21, .ref p22, .int i23, .int i24, .ref p25, .ref p26, .ref p27, .ref p28, .ref p29, .ref p30, .ref p31, .ref p32])), (p3, .inl (cI, 120, .inl tx)), (p5, .inl (cI, 44, .inl (u9.2 5))), (p10, .inl (cI, 3, .inl (u9.2 10)))] := by subst hu9; rfl
    rw [hw9] at hP hD
    have hf9_0 : ¬ (0 ≤ xq0 ∧ xq0 ≤ 2) → u9.1 50 = -1000001 := by rw [hu9]; intro q; first | exact absurd c9 q | rfl
    have hf9_1 : (0 ≤ xq0 ∧ xq0 ≤ 2) → ¬ ftCPar tx tn = none → u9.1 50 = -1000004 := by rw [hu9]; intro q r; first | exact absurd q c9 | exact absurd hbad r | rfl
    have hr9 : ((-1000001) : Int32) = u9.1 50 := by subst hu9; rfl
    exact W.iret (v := (-1000001)) hx hb hr (fun t ht hW => ⟨⟨(-1000001), u9, rfl, ⟨hr9, ⟨hf9_0, hf9_1⟩⟩, by rw [ht]; exact hP, by rw [hAe]; exact hD⟩, by rw [hAe]; exact hS.F ht⟩) hS.2.2 dX11_fault_14
set_option maxHeartbeats 4000000 in
set_option maxRecDepth 100000 in
theorem c_X11_keep (l : Launch) (D : va_G) (cI cS : ClassId) (sz : Nat) (m0 p0 p1 p3 p5 p10 p12 p13 p14 p16 p17 p19 p20 p21 p22 p25 p26 p27 p28 p29 p30 p31 p32 : Nat) (i4 i6 i7 i8 i9 i11 i15 i18 i23 i24 : Int32) (w fb fp fn fa fh ga gh g1 g2 z : Nat → Int32) (hm : Nat) (hwf : ftWf w) (hhm : hm ≤ 5) : Met l yX11_keep wsX11_keep ({ frames := 3, cells := 0, slots := 0, locals := 72 }) (ftRW D cI cS [.ref m0] [(m0, .inr (11, [.ref p0, .ref p1, .int (nI hm), .ref p3, .int i4, .ref p5, .int i6, .int i7, .int i8, .int i9, .ref p10, .int i11, .ref p12, .ref p13, .ref p14, .int i15, .ref p16, .ref p17, .int i18, .ref p19, .ref p20, .ref p21, .ref p22, .int i23, .int i24, .ref p25, .ref p26, .ref p27, .ref p28, .ref p29, .ref p30, .ref p31, .ref p32])), (p0, .inl (cI, 1439, .inl w)), (p12, .inl (cI, 460, .inl fb)), (p13, .inl (cI, 460, .inl fp)), (p14, .inl (cI, 460, .inl fn)), (p16, .inl (cI, 11, .inl fa)), (p17, .inl (cI, 11, .inl fh)), (p19, .inl (cI, 55, .inl ga)), (p20, .inl (cI, 55, .inl gh)), (p21, .inl (cI, 55, .inl g1)), (p22, .inl (cI, 55, .inl g2)), (p1, .inl (cI, 7195, .inl z))] sz) (ftXi D [(m0, .inr (11, [.ref p0, .ref p1, .int (nI hm), .ref p3, .int i4, .ref p5, .int i6, .int i7, .int i8, .int i9, .ref p10, .int i11, .ref p12, .ref p13, .ref p14, .int i15, .ref p16, .ref p17, .int i18, .ref p19, .ref p20, .ref p21, .ref p22, .int i23, .int i24, .ref p25, .ref p26, .ref p27, .ref p28, .ref p29, .ref p30, .ref p31, .ref p32])), (p0, .inl (cI, 1439, .inl w)), (p12, .inl (cI, 460, .inl fb)), (p13, .inl (cI, 460, .inl fp)), (p14, .inl (cI, 460, .inl fn)), (p16, .inl (cI, 11, .inl fa)), (p17, .inl (cI, 11, .inl fh)), (p19, .inl (cI, 55, .inl ga)), (p20, .inl (cI, 55, .inl gh)), (p21, .inl (cI, 55, .inl g1)), (p22, .inl (cI, 55, .inl g2)), (p1, .inl (cI, 7195, .inl z))] sz (fun (o9 : Int32) (u : (Nat → Int32) × (Nat → Nat → Int32)) => o9 = nI (ftKk w + 1) ∧ True) (fun (u : (Nat → Int32) × (Nat → Nat → Int32)) => [(m0, .inr (11, [.ref p0, .ref p1, .int (nI (min (hm + 1) 5)), .ref p3, .int i4, .ref p5, .int i6, .int i7, .int i8, .int i9, .ref p10, .int i11, .ref p12, .ref p13, .ref p14, .int (u.1 15), .ref p16, .ref p17, .int (u.1 18), .ref p19, .ref p20, .ref p21, .ref p22, .int i23, .int i24, .ref p25, .ref p26, .ref p27, .ref p28, .ref p29, .ref p30, .ref p31, .ref p32])), (p0, .inl (cI, 1439, .inl (ftKeep w))), (p12, .inl (cI, 460, .inl (u.2 12))), (p13, .inl (cI, 460, .inl (u.2 13))), (p14, .inl (cI, 460, .inl (u.2 14))), (p16, .inl (cI, 11, .inl (u.2 16))), (p17, .inl (cI, 11, .inl (u.2 17))), (p19, .inl (cI, 55, .inl (u.2 19))), (p20, .inl (cI, 55, .inl (u.2 20))), (p21, .inl (cI, 55, .inl (u.2 21))), (p22, .inl (cI, 55, .inl (u.2 22))), (p1, .inl (cI, 7195, .inl (ftPush w z hm)))])) 0 0 (va_A [(m0, .inr (11, [.ref p0, .ref p1, .int (nI hm), .ref p3, .int i4, .ref p5, .int i6, .int i7, .int i8, .int i9, .ref p10, .int i11, .ref p12, .ref p13, .ref p14, .int i15, .ref p16, .ref p17, .int i18, .ref p19, .ref p20, .ref p21, .ref p22, .int i23, .int i24, .ref p25, .ref p26, .ref p27, .ref p28, .ref p29, .ref p30, .ref p31, .ref p32])), (p0, .inl (cI, 1439, .inl w)), (p12, .inl (cI, 460, .inl fb)), (p13, .inl (cI, 460, .inl fp)), (p14, .inl (cI, 460, .inl fn)), (p16, .inl (cI, 11, .inl fa)), (p17, .inl (cI, 11, .inl fh)), (p19, .inl (cI, 55, .inl ga)), (p20, .inl (cI, 55, .inl gh)), (p21, .inl (cI, 55, .inl g1)), (p22, .inl (cI, 55, .inl g2)), (p1, .inl (cI, 7195, .inl z))] sz) := by
  refine Met.ofW (cc := cX11_keep) (maxL := 3) (ret := (some .int)) (by decide) rfl ?_
  intro p e s m args below meth c s₁ B hml hv
  obtain ⟨rfl, hsz, hP, hKK, hD0⟩ := hv
  have hK := hKK.1
  have hx := B.exec
  have hb := B.bytes
  have hr := B.returns
  have hts := atoms_spec (ws := wsX11_keep) B.pre
  have hown : s.vm.findClass RX11 = some m.cls := findClass_of_methodNamed B.named
  have hlocks := B.notSynchronized
  subst hsz
  have hD := hD0.self (sz := s.heap.size)
  generalize hAe : va_A [(m0, .inr (11, [.ref p0, .ref p1, .int (nI hm), .ref p3, .int i4, .ref p5, .int i6, .int i7, .int i8, .int i9, .ref p10, .int i11, .ref p12, .ref p13, .ref p14, .int i15, .ref p16, .ref p17, .int i18, .ref p19, .ref p20, .ref p21, .ref p22, .int i23, .int i24, .ref p25, .ref p26, .ref p27, .ref p28, .ref p29, .ref p30, .ref p31, .ref p32])), (p0, .inl (cI, 1439, .inl w)), (p12, .inl (cI, 460, .inl fb)), (p13, .inl (cI, 460, .inl fp)), (p14, .inl (cI, 460, .inl fn)), (p16, .inl (cI, 11, .inl fa)), (p17, .inl (cI, 11, .inl fh)), (p19, .inl (cI, 55, .inl ga)), (p20, .inl (cI, 55, .inl gh)), (p21, .inl (cI, 55, .inl g1)), (p22, .inl (cI, 55, .inl g2)), (p1, .inl (cI, 7195, .inl z))] s.heap.size = A at hD ⊢
  have hA : ∀ q : Nat, s.heap.size ≤ q → A q := fun q h => by rw [← hAe]; exact Or.inr h
  have hS : va_S A s.heap s.heap [] := va_S.rf
  have hD : va_D A [(m0, .inr (11, [.ref p0, .ref p1, .int (nI hm), .ref p3, .int i4, .ref p5, .int i6, .int i7, .int i8, .int i9, .ref p10, .int i11, .ref p12, .ref p13, .ref p14, .int i15, .ref p16, .ref p17, .int i18, .ref p19, .ref p20, .ref p21, .ref p22, .int i23, .int i24, .ref p25, .ref p26, .ref p27, .ref p28, .ref p29, .ref p30, .ref p31, .ref p32])), (p0, .inl (cI, 1439, .inl w)), (p12, .inl (cI, 460, .inl fb)), (p13, .inl (cI, 460, .inl fp)), (p14, .inl (cI, 460, .inl fn)), (p16, .inl (cI, 11, .inl fa)), (p17, .inl (cI, 11, .inl fh)), (p19, .inl (cI, 55, .inl ga)), (p20, .inl (cI, 55, .inl gh)), (p21, .inl (cI, 55, .inl g1)), (p22, .inl (cI, 55, .inl g2)), (p1, .inl (cI, 7195, .inl z))] := hD
  have hP : va_P D vwCl [(m0, .inr (11, [.ref p0, .ref p1, .int (nI hm), .ref p3, .int i4, .ref p5, .int i6, .int i7, .int i8, .int i9, .ref p10, .int i11, .ref p12, .ref p13, .ref p14, .int i15, .ref p16, .ref p17, .int i18, .ref p19, .ref p20, .ref p21, .ref p22, .int i23, .int i24, .ref p25, .ref p26, .ref p27, .ref p28, .ref p29, .ref p30, .ref p31, .ref p32])), (p0, .inl (cI, 1439, .inl w)), (p12, .inl (cI, 460, .inl fb)), (p13, .inl (cI, 460, .inl fp)), (p14, .inl (cI, 460, .inl fn)), (p16, .inl (cI, 11, .inl fa)), (p17, .inl (cI, 11, .inl fh)), (p19, .inl (cI, 55, .inl ga)), (p20, .inl (cI, 55, .inl gh)), (p21, .inl (cI, 55, .inl g1)), (p22, .inl (cI, 55, .inl g2)), (p1, .inl (cI, 7195, .inl z))] s.heap := hP
  have hl := lv_entry ([.ref m0]) (n := 3) (Nat.le_of_ble_eq_true rfl)
  rw [lg_entry_eq]
  generalize (lg_sl ([.ref m0]) ++ List.replicate (3 - (lg_sl ([.ref m0])).length) Slot.unset).toArray = ls at hl ⊢
  have hl : lv_has ls 3 [(0, .ref m0)] := hl
  have hw3 := ftWf_3 hwf
  have hn := ftWf_n hwf
  have hw0 := ftWf_0 hwf
  have hln := ftWf_ln hwf
  have hlg := ftWf_lg hwf
  have hkp := ftWf_kp hwf
  have h55 := ftWf_55 hwf
  refine lv_aload_n hx hb dX11_keep_0 rfl (lv_at hl 0 rfl) ?_
  refine ft_cv (wc := [(m0, .inr (11, [.ref p0, .ref p1, .int (nI hm), .ref p3, .int i4, .ref p5, .int i6, .int i7, .int i8, .int i9, .ref p10, .int i11, .ref p12, .ref p13, .ref p14, .int i15, .ref p16, .ref p17, .int i18, .ref p19, .ref p20, .ref p21, .ref p22, .int i23, .int i24, .ref p25, .ref p26, .ref p27, .ref p28, .ref p29, .ref p30, .ref p31, .ref p32])), (p0, .inl (cI, 1439, .inl w)), (p1, .inl (cI, 7195, .inl z))]) (wr := [(p12, .inl (cI, 460, .inl fb)), (p13, .inl (cI, 460, .inl fp)), (p14, .inl (cI, 460, .inl fn)), (p16, .inl (cI, 11, .inl fa)), (p17, .inl (cI, 11, .inl fh)), (p19, .inl (cI, 55, .inl ga)), (p20, .inl (cI, 55, .inl gh)), (p21, .inl (cI, 55, .inl g1)), (p22, .inl (cI, 55, .inl g2))]) (w1 := [(m0, .inr (11, [.ref p0, .ref p1, .int (nI (min (hm + 1) 5)), .ref p3, .int i4, .ref p5, .int i6, .int i7, .int i8, .int i9, .ref p10, .int i11, .ref p12, .ref p13, .ref p14, .int i15, .ref p16, .ref p17, .int i18, .ref p19, .ref p20, .ref p21, .ref p22, .int i23, .int i24, .ref p25, .ref p26, .ref p27, .ref p28, .ref p29, .ref p30, .ref p31, .ref p32])), (p0, .inl (cI, 1439, .inl w)), (p1, .inl (cI, 7195, .inl (ftPush w z hm)))]) (ws1 := [(m0, .inr (11, [.ref p0, .ref p1, .int (nI (min (hm + 1) 5)), .ref p3, .int i4, .ref p5, .int i6, .int i7, .int i8, .int i9, .ref p10, .int i11, .ref p12, .ref p13, .ref p14, .int i15, .ref p16, .ref p17, .int i18, .ref p19, .ref p20, .ref p21, .ref p22, .int i23, .int i24, .ref p25, .ref p26, .ref p27, .ref p28, .ref p29, .ref p30, .ref p31, .ref p32])), (p0, .inl (cI, 1439, .inl w)), (p12, .inl (cI, 460, .inl fb)), (p13, .inl (cI, 460, .inl fp)), (p14, .inl (cI, 460, .inl fn)), (p16, .inl (cI, 11, .inl fa)), (p17, .inl (cI, 11, .inl fh)), (p19, .inl (cI, 55, .inl ga)), (p20, .inl (cI, 55, .inl gh)), (p21, .inl (cI, 55, .inl g1)), (p22, .inl (cI, 55, .inl g2)), (p1, .inl (cI, 7195, .inl (ftPush w z hm)))]) (va_runV (C := RX11) (As := []) (rest := []) ⟨hx, hb, hml, hown, hts⟩ (c_X11_change l D cI cS s.heap.size m0 p0 p1 p3 p5 p10 p12 p13 p14 p16 p17 p19 p20 p21 p22 p25 p26 p27 p28 p29 p30 p31 p32 i4 i6 i7 i8 i9 i11 i15 i18 i23 i24 w z hm hhm) (cwV 0 hts gX11_keep_X11_change rfl rfl rfl (by decide +kernel) ⟨Nat.le_of_ble_eq_true rfl, Nat.le_of_ble_eq_true rfl⟩) (ft_preRWV (ci := 11) (q0 := 0) hP hD hKK [0, 1, 11] rfl rfl rfl rfl rfl) rfl rfl hl.1 rfl (lv_room (Nat.le_of_ble_eq_true rfl)) dX11_keep_1 ⟨Nat.le_of_ble_eq_true rfl, Nat.le_of_ble_eq_true rfl⟩) hP hD hS hA [0, 1, 11] [2, 3, 4, 5, 6, 7, 8, 9, 10] [9, 10, 0, 1, 2, 3, 4, 5, 6, 7, 8, 11] rfl rfl (by decide) (by decide) (by decide) rfl rfl (fun H locs hP hD hS => ?_)
  have hP : va_P D vwCl [(m0, .inr (11, [.ref p0, .ref p1, .int (nI (min (hm + 1) 5)), .ref p3, .int i4, .ref p5, .int i6, .int i7, .int i8, .int i9, .ref p10, .int i11, .ref p12, .ref p13, .ref p14, .int i15, .ref p16, .ref p17, .int i18, .ref p19, .ref p20, .ref p21, .ref p22, .int i23, .int i24, .ref p25, .ref p26, .ref p27, .ref p28, .ref p29, .ref p30, .ref p31, .ref p32])), (p0, .inl (cI, 1439, .inl w)), (p12, .inl (cI, 460, .inl fb)), (p13, .inl (cI, 460, .inl fp)), (p14, .inl (cI, 460, .inl fn)), (p16, .inl (cI, 11, .inl fa)), (p17, .inl (cI, 11, .inl fh)), (p19, .inl (cI, 55, .inl ga)), (p20, .inl (cI, 55, .inl gh)), (p21, .inl (cI, 55, .inl g1)), (p22, .inl (cI, 55, .inl g2)), (p1, .inl (cI, 7195, .inl (ftPush w z hm)))] H := hP
  have hD : va_D A [(m0, .inr (11, [.ref p0, .ref p1, .int (nI (min (hm + 1) 5)), .ref p3, .int i4, .ref p5, .int i6, .int i7, .int i8, .int i9, .ref p10, .int i11, .ref p12, .ref p13, .ref p14, .int i15, .ref p16, .ref p17, .int i18, .ref p19, .ref p20, .ref p21, .ref p22, .int i23, .int i24, .ref p25, .ref p26, .ref p27, .ref p28, .ref p29, .ref p30, .ref p31, .ref p32])), (p0, .inl (cI, 1439, .inl w)), (p12, .inl (cI, 460, .inl fb)), (p13, .inl (cI, 460, .inl fp)), (p14, .inl (cI, 460, .inl fn)), (p16, .inl (cI, 11, .inl fa)), (p17, .inl (cI, 11, .inl fh)), (p19, .inl (cI, 55, .inl ga)), (p20, .inl (cI, 55, .inl gh)), (p21, .inl (cI, 55, .inl g1)), (p22, .inl (cI, 55, .inl g2)), (p1, .inl (cI, 7195, .inl (ftPush w z hm)))] := hD
  refine lv_aload_n hx hb dX11_keep_4 rfl (lv_at hl 0 rfl) ?_
  refine ft_cxv (S := Nat → Nat → Int32) (wc := [(m0, .inr (11, [.ref p0, .ref p1, .int (nI (min (hm + 1) 5)), .ref p3, .int i4, .ref p5, .int i6, .int i7, .int i8, .int i9, .ref p10, .int i11, .ref p12, .ref p13, .ref p14, .int i15, .ref p16, .ref p17, .int i18, .ref p19, .ref p20, .ref p21, .ref p22, .int i23, .int i24, .ref p25, .ref p26, .ref p27, .ref p28, .ref p29, .ref p30, .ref p31, .ref p32])), (p0, .inl (cI, 1439, .inl w)), (p12, .inl (cI, 460, .inl fb)), (p13, .inl (cI, 460, .inl fp)), (p14, .inl (cI, 460, .inl fn)), (p16, .inl (cI, 11, .inl fa)), (p17, .inl (cI, 11, .inl fh)), (p19, .inl (cI, 55, .inl ga)), (p20, .inl (cI, 55, .inl gh)), (p21, .inl (cI, 55, .inl g1)), (p22, .inl (cI, 55, .inl g2))]) (wr := [(p1, .inl (cI, 7195, .inl (ftPush w z hm)))]) (w1 := (fun (u5 : Nat → Nat → Int32) => [(m0, .inr (11, [.ref p0, .ref p1, .int (nI (min (hm + 1) 5)), .ref p3, .int i4, .ref p5, .int i6, .int i7, .int i8, .int i9, .ref p10, .int i11, .ref p12, .ref p13, .ref p14, .int (nI (ftCF w).1), .ref p16, .ref p17, .int (nI (ftCG w).1), .ref p19, .ref p20, .ref p21, .ref p22, .int i23, .int i24, .ref p25, .ref p26, .ref p27, .ref p28, .ref p29, .ref p30, .ref p31, .ref p32])), (p0, .inl (cI, 1439, .inl w)), (p12, .inl (cI, 460, .inl (u5 12))), (p13, .inl (cI, 460, .inl (u5 13))), (p14, .inl (cI, 460, .inl (u5 14))), (p16, .inl (cI, 11, .inl (u5 16))), (p17, .inl (cI, 11, .inl (u5 17))), (p19, .inl (cI, 55, .inl (u5 19))), (p20, .inl (cI, 55, .inl (u5 20))), (p21, .inl (cI, 55, .inl (u5 21))), (p22, .inl (cI, 55, .inl (u5 22)))])) (ws1 := (fun (u5 : Nat → Nat → Int32) => [(m0, .inr (11, [.ref p0, .ref p1, .int (nI (min (hm + 1) 5)), .ref p3, .int i4, .ref p5, .int i6, .int i7, .int i8, .int i9, .ref p10, .int i11, .ref p12, .ref p13, .ref p14, .int (nI (ftCF w).1), .ref p16, .ref p17, .int (nI (ftCG w).1), .ref p19, .ref p20, .ref p21, .ref p22, .int i23, .int i24, .ref p25, .ref p26, .ref p27, .ref p28, .ref p29, .ref p30, .ref p31, .ref p32])), (p0, .inl (cI, 1439, .inl w)), (p12, .inl (cI, 460, .inl (u5 12))), (p13, .inl (cI, 460, .inl (u5 13))), (p14, .inl (cI, 460, .inl (u5 14))), (p16, .inl (cI, 11, .inl (u5 16))), (p17, .inl (cI, 11, .inl (u5 17))), (p19, .inl (cI, 55, .inl (u5 19))), (p20, .inl (cI, 55, .inl (u5 20))), (p21, .inl (cI, 55, .inl (u5 21))), (p22, .inl (cI, 55, .inl (u5 22))), (p1, .inl (cI, 7195, .inl (ftPush w z hm)))])) (va_runV (C := RX11) (As := []) (rest := []) ⟨hx, hb, hml, hown, hts⟩ (c_X11_layTracex l D cI cS H.size m0 p0 p1 p3 p5 p10 p12 p13 p14 p16 p17 p19 p20 p21 p22 p25 p26 p27 p28 p29 p30 p31 p32 (nI (min (hm + 1) 5)) i4 i6 i7 i8 i9 i11 i15 i18 i23 i24 w fb fp fn fa fh ga gh g1 g2 (by first | assumption | omega)) (cwV 0 hts gX11_keep_X11_layTrace rfl rfl rfl (by decide +kernel) ⟨Nat.le_of_ble_eq_true rfl, Nat.le_of_ble_eq_true rfl⟩) (ft_preRWV (ci := 11) (q0 := 0) hP hD hKK [0, 1, 2, 3, 4, 5, 6, 7, 8, 9, 10] rfl rfl rfl rfl rfl) rfl rfl hl.1 rfl (lv_room (Nat.le_of_ble_eq_true rfl)) dX11_keep_5 ⟨Nat.le_of_ble_eq_true rfl, Nat.le_of_ble_eq_true rfl⟩) hP hD hS hA [0, 1, 2, 3, 4, 5, 6, 7, 8, 9, 10] [11] [1, 2, 3, 4, 5, 6, 7, 8, 9, 10, 11, 0] rfl rfl (by decide) (by decide) (by decide) (fun _ => rfl) (fun _ => rfl) (fun u5 hu5 H locs hP hD hS => ?_)
  obtain ⟨hb5, hg5⟩ := hu5
  have hP : va_P D vwCl [(m0, .inr (11, [.ref p0, .ref p1, .int (nI (min (hm + 1) 5)), .ref p3, .int i4, .ref p5, .int i6, .int i7, .int i8, .int i9, .ref p10, .int i11, .ref p12, .ref p13, .ref p14, .int (nI (ftCF w).1), .ref p16, .ref p17, .int (nI (ftCG w).1), .ref p19, .ref p20, .ref p21, .ref p22, .int i23, .int i24, .ref p25, .ref p26, .ref p27, .ref p28, .ref p29, .ref p30, .ref p31, .ref p32])), (p0, .inl (cI, 1439, .inl w)), (p12, .inl (cI, 460, .inl (u5 12))), (p13, .inl (cI, 460, .inl (u5 13))), (p14, .inl (cI, 460, .inl (u5 14))), (p16, .inl (cI, 11, .inl (u5 16))), (p17, .inl (cI, 11, .inl (u5 17))), (p19, .inl (cI, 55, .inl (u5 19))), (p20, .inl (cI, 55, .inl (u5 20))), (p21, .inl (cI, 55, .inl (u5 21))), (p22, .inl (cI, 55, .inl (u5 22))), (p1, .inl (cI, 7195, .inl (ftPush w z hm)))] H := hP
  have hD : va_D A [(m0, .inr (11, [.ref p0, .ref p1, .int (nI (min (hm + 1) 5)), .ref p3, .int i4, .ref p5, .int i6, .int i7, .int i8, .int i9, .ref p10, .int i11, .ref p12, .ref p13, .ref p14, .int (nI (ftCF w).1), .ref p16, .ref p17, .int (nI (ftCG w).1), .ref p19, .ref p20, .ref p21, .ref p22, .int i23, .int i24, .ref p25, .ref p26, .ref p27, .ref p28, .ref p29, .ref p30, .ref p31, .ref p32])), (p0, .inl (cI, 1439, .inl w)), (p12, .inl (cI, 460, .inl (u5 12))), (p13, .inl (cI, 460, .inl (u5 13))), (p14, .inl (cI, 460, .inl (u5 14))), (p16, .inl (cI, 11, .inl (u5 16))), (p17, .inl (cI, 11, .inl (u5 17))), (p19, .inl (cI, 55, .inl (u5 19))), (p20, .inl (cI, 55, .inl (u5 20))), (p21, .inl (cI, 55, .inl (u5 21))), (p22, .inl (cI, 55, .inl (u5 22))), (p1, .inl (cI, 7195, .inl (ftPush w z hm)))] := hD
  refine lv_aload_n hx hb dX11_keep_8 rfl (lv_at hl 0 rfl) ?_
  refine va_get (D := D) (ci := 11) (v := .ref p0) (C := RX11) (T := TX11) (N := 33) hx hb hts (by decide +kernel) hown hK hP 0 rfl rfl 0 (by decide) (hts (.fieldLink RX11 7 "FiberTraceModel" "now" "[I") (by decide +kernel)) (fun _ h9 => h9) rfl dX11_keep_9 ?_
  refine lv_bipush (v := 55) hx hb dX11_keep_12 (by decide) ?_
  refine va_iald hx hb hK hP 1 0 rfl rfl (vp_in_nI (n := 55) (by omega) (by omega)) dX11_keep_14 ?_
  refine ft_top (y := w 55) rfl ?_
  refine lv_iconst (v := 3) hx hb dX11_keep_15 (by decide) ?_
  refine lv_icmp_ne (tgt := 87) hx hb dX11_keep_16 (by decide) (fun c16 => ?_) (fun c16 => ?_)
  · have hck : ftCK w ≠ 3 := fun r => c16 (by rw [h55, r]; rfl)
    have hks : ftKs w = w := if_neg hck
    have hkk : ftKk w = ftCK w := if_neg hck
    have hks55 : ftKs w 55 = nI (ftKk w) := by rw [hks, hkk]; exact h55
    have hkk3 : ftKk w ≤ 2 := by omega
    have hk0 : ∀ (f : Nat → Int32) (X : Nat), ftSeg f (ftKs w) (59 + 460 * ftKk w) X 0 = nI (ftCL w) := fun f X => by rw [ftSeg_lo (by omega), ftKs_lo (by omega)]; exact hw0
    refine lv_bipush (v := 59) hx hb dX11_keep_87 (by decide) ?_
    refine lv_sipush (v := 460) hx hb dX11_keep_89 (by decide) ?_
    refine lv_aload_n hx hb dX11_keep_92 rfl (lv_at hl 0 rfl) ?_
    refine va_get (D := D) (ci := 11) (v := .ref p0) (C := RX11) (T := TX11) (N := 33) hx hb hts (by decide +kernel) hown hK hP 0 rfl rfl 0 (by decide) (hts (.fieldLink RX11 7 "FiberTraceModel" "now" "[I") (by decide +kernel)) (fun _ h9 => h9) rfl dX11_keep_93 ?_
    refine lv_bipush (v := 55) hx hb dX11_keep_96 (by decide) ?_
    refine va_iald hx hb hK hP 1 0 rfl rfl (vp_in_nI (n := 55) (by omega) (by omega)) dX11_keep_98 ?_
    refine ft_top (y := w 55) rfl ?_
    refine ft_top (y := nI (ftKk w)) (by rw [hkk]; first | exact h55 | rfl) ?_
    refine lv_imul hx hb dX11_keep_99 ?_
    refine ft_top (y := nI (460 * (ftKk w))) (ft_mulN 460 (ftKk w)) ?_
    refine lv_iadd hx hb dX11_keep_100 ?_
    refine ft_top (y := nI (59 + (460 * (ftKk w)))) (ft_addN 59 (460 * (ftKk w))) ?_
    refine lv_istore_n (lv' := [(1, .int (nI (59 + (460 * (ftKk w))))), (0, .ref m0)]) hx hb dX11_keep_101 rfl hl (by decide) rfl (fun ls hl => ?_)
    refine lv_iconst (v := 0) hx hb dX11_keep_102 (by decide) ?_
    refine lv_istore_n (lv' := [(2, .int 0), (1, .int (nI (59 + (460 * (ftKk w))))), (0, .ref m0)]) hx hb dX11_keep_103 rfl hl (by decide) rfl (fun ls hl => ?_)
    have lp104 : ∀ (n104 : Nat) (x : Nat) (x104_2 : Int32) (g104_p0 : Nat → Int32), ftCL w + 60 - x < n104 → (x ≤ ftCL w + 60) → x104_2 = nI x → g104_p0 = ftSeg (ftCV w) (ftKs w) (59 + 460 * ftKk w) x → ∀ (H : Heap) (locs : List Loc), va_P D vwCl [(m0, .inr (11, [.ref p0, .ref p1, .int (nI (min (hm + 1) 5)), .ref p3, .int i4, .ref p5, .int i6, .int i7, .int i8, .int i9, .ref p10, .int i11, .ref p12, .ref p13, .ref p14, .int (nI (ftCF w).1), .ref p16, .ref p17, .int (nI (ftCG w).1), .ref p19, .ref p20, .ref p21, .ref p22, .int i23, .int i24, .ref p25, .ref p26, .ref p27, .ref p28, .ref p29, .ref p30, .ref p31, .ref p32])), (p0, .inl (cI, 1439, .inl g104_p0)), (p12, .inl (cI, 460, .inl (u5 12))), (p13, .inl (cI, 460, .inl (u5 13))), (p14, .inl (cI, 460, .inl (u5 14))), (p16, .inl (cI, 11, .inl (u5 16))), (p17, .inl (cI, 11, .inl (u5 17))), (p19, .inl (cI, 55, .inl (u5 19))), (p20, .inl (cI, 55, .inl (u5 20))), (p21, .inl (cI, 55, .inl (u5 21))), (p22, .inl (cI, 55, .inl (u5 22))), (p1, .inl (cI, 7195, .inl (ftPush w z hm)))] H → va_D A [(m0, .inr (11, [.ref p0, .ref p1, .int (nI (min (hm + 1) 5)), .ref p3, .int i4, .ref p5, .int i6, .int i7, .int i8, .int i9, .ref p10, .int i11, .ref p12, .ref p13, .ref p14, .int (nI (ftCF w).1), .ref p16, .ref p17, .int (nI (ftCG w).1), .ref p19, .ref p20, .ref p21, .ref p22, .int i23, .int i24, .ref p25, .ref p26, .ref p27, .ref p28, .ref p29, .ref p30, .ref p31, .ref p32])), (p0, .inl (cI, 1439, .inl g104_p0)), (p12, .inl (cI, 460, .inl (u5 12))), (p13, .inl (cI, 460, .inl (u5 13))), (p14, .inl (cI, 460, .inl (u5 14))), (p16, .inl (cI, 11, .inl (u5 16))), (p17, .inl (cI, 11, .inl (u5 17))), (p19, .inl (cI, 55, .inl (u5 19))), (p20, .inl (cI, 55, .inl (u5 20))), (p21, .inl (cI, 55, .inl (u5 21))), (p22, .inl (cI, 55, .inl (u5 22))), (p1, .inl (cI, 7195, .inl (ftPush w z hm)))] → va_S A s.heap H locs → ∀ ls : Array Slot, lv_has ls 3 [(0, .ref m0), (1, .int (nI (59 + (460 * (ftKk w))))), (2, .int x104_2)] → W p l e (headSpec wsX11_keep { frames := 3, cells := 0, slots := 0, locals := 72 }).room s m ([.ref m0] : List Value).toArray below meth c H locs 0 0 (MQ below (ftXi D [(m0, .inr (11, [.ref p0, .ref p1, .int (nI hm), .ref p3, .int i4, .ref p5, .int i6, .int i7, .int i8, .int i9, .ref p10, .int i11, .ref p12, .ref p13, .ref p14, .int i15, .ref p16, .ref p17, .int i18, .ref p19, .ref p20, .ref p21, .ref p22, .int i23, .int i24, .ref p25, .ref p26, .ref p27, .ref p28, .ref p29, .ref p30, .ref p31, .ref p32])), (p0, .inl (cI, 1439, .inl w)), (p12, .inl (cI, 460, .inl fb)), (p13, .inl (cI, 460, .inl fp)), (p14, .inl (cI, 460, .inl fn)), (p16, .inl (cI, 11, .inl fa)), (p17, .inl (cI, 11, .inl fh)), (p19, .inl (cI, 55, .inl ga)), (p20, .inl (cI, 55, .inl gh)), (p21, .inl (cI, 55, .inl g1)), (p22, .inl (cI, 55, .inl g2)), (p1, .inl (cI, 7195, .inl z))] s.heap.size (fun (o9 : Int32) (u : (Nat → Int32) × (Nat → Nat → Int32)) => o9 = nI (ftKk w + 1) ∧ True) (fun (u : (Nat → Int32) × (Nat → Nat → Int32)) => [(m0, .inr (11, [.ref p0, .ref p1, .int (nI (min (hm + 1) 5)), .ref p3, .int i4, .ref p5, .int i6, .int i7, .int i8, .int i9, .ref p10, .int i11, .ref p12, .ref p13, .ref p14, .int (u.1 15), .ref p16, .ref p17, .int (u.1 18), .ref p19, .ref p20, .ref p21, .ref p22, .int i23, .int i24, .ref p25, .ref p26, .ref p27, .ref p28, .ref p29, .ref p30, .ref p31, .ref p32])), (p0, .inl (cI, 1439, .inl (ftKeep w))), (p12, .inl (cI, 460, .inl (u.2 12))), (p13, .inl (cI, 460, .inl (u.2 13))), (p14, .inl (cI, 460, .inl (u.2 14))), (p16, .inl (cI, 11, .inl (u.2 16))), (p17, .inl (cI, 11, .inl (u.2 17))), (p19, .inl (cI, 55, .inl (u.2 19))), (p20, .inl (cI, 55, .inl (u.2 20))), (p21, .inl (cI, 55, .inl (u.2 21))), (p22, .inl (cI, 55, .inl (u.2 22))), (p1, .inl (cI, 7195, .inl (ftPush w z hm)))])) ([.ref m0] : List Value).toArray s 0 0 A) (F0 m 104 ls []) := by
      intro n104
      induction n104 with
      | zero =>
        intro x x104_2 g104_p0 hm104
        exact absurd hm104 (Nat.not_lt_zero _)
      | succ n104 ih104 =>
        intro x x104_2 g104_p0 hm104 hxN ex104_2 eg104_p0 H locs hP hD hS ls hl
        subst ex104_2
        refine lv_iload_n hx hb dX11_keep_104 rfl (lv_at hl 2 rfl) ?_
        refine lv_aload_n hx hb dX11_keep_105 rfl (lv_at hl 0 rfl) ?_
        refine ft_csi (r := nI ((ftCL w) + 60)) (va_runV (C := RX11) (As := []) (rest := [.int (nI x)]) ⟨hx, hb, hml, hown, hts⟩ (c_X11_samples l D cI cS m0 p0 p1 p3 p5 p10 p12 p13 p14 p16 p17 p19 p20 p21 p22 p25 p26 p27 p28 p29 p30 p31 p32 (nI (min (hm + 1) 5)) i4 i6 i7 i8 i9 i11 (nI (ftCF w).1) (nI (ftCG w).1) i23 i24 g104_p0 (ftCL w) (by rw [eg104_p0]; exact hk0 _ _)) (cwV 0 hts gX11_keep_X11_samples rfl rfl rfl (by decide +kernel) ⟨Nat.le_of_ble_eq_true rfl, Nat.le_of_ble_eq_true rfl⟩) (ft_preROV (ci := 11) (q0 := 0) hP hKK [0, 1] rfl rfl rfl) rfl rfl hl.1 rfl (lv_room (Nat.le_of_ble_eq_true rfl)) dX11_keep_106 ⟨Nat.le_of_ble_eq_true rfl, Nat.le_of_ble_eq_true rfl⟩) ?_
        refine lv_icmp_ge (tgt := 131) hx hb dX11_keep_109 (by decide) (fun c109 => ?_) (fun c109 => ?_)
        · have c109n : ((ftCL w) + 60) ≤ x := ft_leN (by omega) (by omega) c109
          refine lv_aload_n hx hb dX11_keep_131 rfl (lv_at hl 0 rfl) ?_
          refine va_get (D := D) (ci := 11) (v := .ref p0) (C := RX11) (T := TX11) (N := 33) hx hb hts (by decide +kernel) hown hK hP 0 rfl rfl 0 (by decide) (hts (.fieldLink RX11 7 "FiberTraceModel" "now" "[I") (by decide +kernel)) (fun _ h9 => h9) rfl dX11_keep_132 ?_
          refine lv_bipush (v := 56) hx hb dX11_keep_135 (by decide) ?_
          refine lv_aload_n hx hb dX11_keep_137 rfl (lv_at hl 0 rfl) ?_
          refine va_get (D := D) (ci := 11) (v := .ref p0) (C := RX11) (T := TX11) (N := 33) hx hb hts (by decide +kernel) hown hK hP 0 rfl rfl 0 (by decide) (hts (.fieldLink RX11 7 "FiberTraceModel" "now" "[I") (by decide +kernel)) (fun _ h9 => h9) rfl dX11_keep_138 ?_
          refine lv_bipush (v := 55) hx hb dX11_keep_141 (by decide) ?_
          refine va_iald hx hb hK hP 1 0 rfl rfl (vp_in_nI (n := 55) (by omega) (by omega)) dX11_keep_143 ?_
          refine ft_top (y := g104_p0 55) rfl ?_
          refine ft_top (y := nI (ftKk w)) (by rw [eg104_p0, ftSeg_lo (by omega)]; exact hks55) ?_
          refine lv_iadd hx hb dX11_keep_144 ?_
          refine ft_top (y := nI (56 + (ftKk w))) (ft_addN 56 (ftKk w)) ?_
          refine lv_aload_n hx hb dX11_keep_145 rfl (lv_at hl 0 rfl) ?_
          refine ft_csi (r := nI ((ftCL w) + 60)) (va_runV (C := RX11) (As := []) (rest := [.int (nI (56 + (ftKk w))), .ref p0]) ⟨hx, hb, hml, hown, hts⟩ (c_X11_samples l D cI cS m0 p0 p1 p3 p5 p10 p12 p13 p14 p16 p17 p19 p20 p21 p22 p25 p26 p27 p28 p29 p30 p31 p32 (nI (min (hm + 1) 5)) i4 i6 i7 i8 i9 i11 (nI (ftCF w).1) (nI (ftCG w).1) i23 i24 g104_p0 (ftCL w) (by rw [eg104_p0]; exact hk0 _ _)) (cwV 0 hts gX11_keep_X11_samples rfl rfl rfl (by decide +kernel) ⟨Nat.le_of_ble_eq_true rfl, Nat.le_of_ble_eq_true rfl⟩) (ft_preROV (ci := 11) (q0 := 0) hP hKK [0, 1] rfl rfl rfl) rfl rfl hl.1 rfl (lv_room (Nat.le_of_ble_eq_true rfl)) dX11_keep_146 ⟨Nat.le_of_ble_eq_true rfl, Nat.le_of_ble_eq_true rfl⟩) ?_
          refine va_iast hx hb hK hP hD hS 1 0 rfl rfl (vp_in_nI (by omega) (by omega)) dX11_keep_149 (fun H locs hP hD hS => ?_)
          rw [nI_clamp (show 56 + (ftKk w) < 2 ^ 31 by omega)] at hP hD
          have hP : va_P D vwCl [(m0, .inr (11, [.ref p0, .ref p1, .int (nI (min (hm + 1) 5)), .ref p3, .int i4, .ref p5, .int i6, .int i7, .int i8, .int i9, .ref p10, .int i11, .ref p12, .ref p13, .ref p14, .int (nI (ftCF w).1), .ref p16, .ref p17, .int (nI (ftCG w).1), .ref p19, .ref p20, .ref p21, .ref p22, .int i23, .int i24, .ref p25, .ref p26, .ref p27, .ref p28, .ref p29, .ref p30, .ref p31, .ref p32])), (p0, .inl (cI, 1439, .inl (upd g104_p0 (56 + (ftKk w)) (nI ((ftCL w) + 60))))), (p12, .inl (cI, 460, .inl (u5 12))), (p13, .inl (cI, 460, .inl (u5 13))), (p14, .inl (cI, 460, .inl (u5 14))), (p16, .inl (cI, 11, .inl (u5 16))), (p17, .inl (cI, 11, .inl (u5 17))), (p19, .inl (cI, 55, .inl (u5 19))), (p20, .inl (cI, 55, .inl (u5 20))), (p21, .inl (cI, 55, .inl (u5 21))), (p22, .inl (cI, 55, .inl (u5 22))), (p1, .inl (cI, 7195, .inl (ftPush w z hm)))] H := hP
          have hD : va_D A [(m0, .inr (11, [.ref p0, .ref p1, .int (nI (min (hm + 1) 5)), .ref p3, .int i4, .ref p5, .int i6, .int i7, .int i8, .int i9, .ref p10, .int i11, .ref p12, .ref p13, .ref p14, .int (nI (ftCF w).1), .ref p16, .ref p17, .int (nI (ftCG w).1), .ref p19, .ref p20, .ref p21, .ref p22, .int i23, .int i24, .ref p25, .ref p26, .ref p27, .ref p28, .ref p29, .ref p30, .ref p31, .ref p32])), (p0, .inl (cI, 1439, .inl (upd g104_p0 (56 + (ftKk w)) (nI ((ftCL w) + 60))))), (p12, .inl (cI, 460, .inl (u5 12))), (p13, .inl (cI, 460, .inl (u5 13))), (p14, .inl (cI, 460, .inl (u5 14))), (p16, .inl (cI, 11, .inl (u5 16))), (p17, .inl (cI, 11, .inl (u5 17))), (p19, .inl (cI, 55, .inl (u5 19))), (p20, .inl (cI, 55, .inl (u5 20))), (p21, .inl (cI, 55, .inl (u5 21))), (p22, .inl (cI, 55, .inl (u5 22))), (p1, .inl (cI, 7195, .inl (ftPush w z hm)))] := hD
          refine lv_aload_n hx hb dX11_keep_150 rfl (lv_at hl 0 rfl) ?_
          refine va_get (D := D) (ci := 11) (v := .ref p0) (C := RX11) (T := TX11) (N := 33) hx hb hts (by decide +kernel) hown hK hP 0 rfl rfl 0 (by decide) (hts (.fieldLink RX11 7 "FiberTraceModel" "now" "[I") (by decide +kernel)) (fun _ h9 => h9) rfl dX11_keep_151 ?_
          refine lv_bipush (v := 55) hx hb dX11_keep_154 (by decide) ?_
          refine lv_dup2_11 hx hb dX11_keep_156 rfl rfl ?_
          refine va_iald hx hb hK hP 1 0 rfl rfl (vp_in_nI (n := 55) (by omega) (by omega)) dX11_keep_157 ?_
          refine ft_top (y := (upd g104_p0 (56 + (ftKk w)) (nI ((ftCL w) + 60))) 55) rfl ?_
          refine ft_top (y := nI (ftKk w)) (by rw [ftUpd_ne (by omega), eg104_p0, ftSeg_lo (by omega)]; exact hks55) ?_
          refine lv_iconst (v := 1) hx hb dX11_keep_158 (by decide) ?_
          refine lv_iadd hx hb dX11_keep_159 ?_
          refine ft_top (y := nI ((ftKk w) + 1)) (ft_addN (ftKk w) 1) ?_
          refine va_iast hx hb hK hP hD hS 1 0 rfl rfl (vp_in_nI (n := 55) (by omega) (by omega)) dX11_keep_160 (fun H locs hP hD hS => ?_)
          have hP : va_P D vwCl [(m0, .inr (11, [.ref p0, .ref p1, .int (nI (min (hm + 1) 5)), .ref p3, .int i4, .ref p5, .int i6, .int i7, .int i8, .int i9, .ref p10, .int i11, .ref p12, .ref p13, .ref p14, .int (nI (ftCF w).1), .ref p16, .ref p17, .int (nI (ftCG w).1), .ref p19, .ref p20, .ref p21, .ref p22, .int i23, .int i24, .ref p25, .ref p26, .ref p27, .ref p28, .ref p29, .ref p30, .ref p31, .ref p32])), (p0, .inl (cI, 1439, .inl (upd (upd g104_p0 (56 + (ftKk w)) (nI ((ftCL w) + 60))) 55 (nI ((ftKk w) + 1))))), (p12, .inl (cI, 460, .inl (u5 12))), (p13, .inl (cI, 460, .inl (u5 13))), (p14, .inl (cI, 460, .inl (u5 14))), (p16, .inl (cI, 11, .inl (u5 16))), (p17, .inl (cI, 11, .inl (u5 17))), (p19, .inl (cI, 55, .inl (u5 19))), (p20, .inl (cI, 55, .inl (u5 20))), (p21, .inl (cI, 55, .inl (u5 21))), (p22, .inl (cI, 55, .inl (u5 22))), (p1, .inl (cI, 7195, .inl (ftPush w z hm)))] H := hP
          have hD : va_D A [(m0, .inr (11, [.ref p0, .ref p1, .int (nI (min (hm + 1) 5)), .ref p3, .int i4, .ref p5, .int i6, .int i7, .int i8, .int i9, .ref p10, .int i11, .ref p12, .ref p13, .ref p14, .int (nI (ftCF w).1), .ref p16, .ref p17, .int (nI (ftCG w).1), .ref p19, .ref p20, .ref p21, .ref p22, .int i23, .int i24, .ref p25, .ref p26, .ref p27, .ref p28, .ref p29, .ref p30, .ref p31, .ref p32])), (p0, .inl (cI, 1439, .inl (upd (upd g104_p0 (56 + (ftKk w)) (nI ((ftCL w) + 60))) 55 (nI ((ftKk w) + 1))))), (p12, .inl (cI, 460, .inl (u5 12))), (p13, .inl (cI, 460, .inl (u5 13))), (p14, .inl (cI, 460, .inl (u5 14))), (p16, .inl (cI, 11, .inl (u5 16))), (p17, .inl (cI, 11, .inl (u5 17))), (p19, .inl (cI, 55, .inl (u5 19))), (p20, .inl (cI, 55, .inl (u5 20))), (p21, .inl (cI, 55, .inl (u5 21))), (p22, .inl (cI, 55, .inl (u5 22))), (p1, .inl (cI, 7195, .inl (ftPush w z hm)))] := hD
          refine lv_aload_n hx hb dX11_keep_161 rfl (lv_at hl 0 rfl) ?_
          refine va_get (D := D) (ci := 11) (v := .ref p0) (C := RX11) (T := TX11) (N := 33) hx hb hts (by decide +kernel) hown hK hP 0 rfl rfl 0 (by decide) (hts (.fieldLink RX11 7 "FiberTraceModel" "now" "[I") (by decide +kernel)) (fun _ h9 => h9) rfl dX11_keep_162 ?_
          refine lv_bipush (v := 55) hx hb dX11_keep_165 (by decide) ?_
          refine va_iald hx hb hK hP 1 0 rfl rfl (vp_in_nI (n := 55) (by omega) (by omega)) dX11_keep_167 ?_
          refine ft_top (y := (upd (upd g104_p0 (56 + (ftKk w)) (nI ((ftCL w) + 60))) 55 (nI ((ftKk w) + 1))) 55) rfl ?_
          refine ft_top (y := nI ((ftKk w) + 1)) (ftUpd1 _ _ _) ?_
          obtain ⟨u9, hu9⟩ : ∃ u9 : (Nat → Int32) × (Nat → Nat → Int32), u9 = ((fun k => match k with | 15 => (nI (ftCF w).1) | _ => (nI (ftCG w).1)), (fun k => match k with | 12 => (u5 12) | 13 => (u5 13) | 14 => (u5 14) | 16 => (u5 16) | 17 => (u5 17) | 19 => (u5 19) | 20 => (u5 20) | 21 => (u5 21) | _ => (u5 22))) := ⟨_, rfl⟩
          have hw9 : ([(m0, .inr (11, [.ref p0, .ref p1, .int (nI (min (hm + 1) 5)), .ref p3, .int i4, .ref p5, .int i6, .int i7, .int i8, .int i9, .ref p10, .int i11, .ref p12, .ref p13, .ref p14, .int (nI (ftCF w).1), .ref p16, .ref p17, .int (nI (ftCG w).1), .ref p19, .ref p20, .ref p21, .ref p22, .int i23, .int i24, .ref p25, .ref p26, .ref p27, .ref p28, .ref p29, .ref p30, .ref p31, .ref p32])), (p0, .inl (cI, 1439, .inl (upd (upd g104_p0 (56 + (ftKk w)) (nI ((ftCL w) + 60))) 55 (nI ((ftKk w) + 1))))), (p12, .inl (cI, 460, .inl (u5 12))), (p13, .inl (cI, 460, .inl (u5 13))), (p14, .inl (cI, 460, .inl (u5 14))), (p16, .inl (cI, 11, .inl (u5 16))), (p17, .inl (cI, 11, .inl (u5 17))), (p19, .inl (cI, 55, .inl (u5 19))), (p20, .inl (cI, 55, .inl (u5 20))), (p21, .inl (cI, 55, .inl (u5 21))), (p22, .inl (cI, 55, .inl (u5 22))), (p1, .inl (cI, 7195, .inl (ftPush w z hm)))] : va_W) = [(m0, .inr (11, [.ref p0, .ref p1, .int (nI (min (hm + 1) 5)), .ref p3, .int i4, .ref p5, .int i6, .int i7, .int i8, .int i9, .ref p10, .int i11, .ref p12, .ref p13, .ref p14, .int (u9.1 15), .ref p16, .ref p17, .int (u9.1 18), .ref p19, .ref p20, .ref p21, .ref p22, .int i23, .int i24, .ref p25, .ref p26, .ref p27, .ref p28, .ref p29, .ref p30, .ref p31, .ref p32])), (p0, .inl (cI, 1439, .inl (ftKeep w))), (p12, .inl (cI, 460, .inl (u9.2 12))), (p13, .inl (cI, 460, .inl (u9.2 13))), (p14, .inl (cI, 460, .inl (u9.2 14))), (p16, .inl (cI, 11, .inl (u9.2 16))), (p17, .inl (cI, 11, .inl (u9.2 17))), (p19, .inl (cI, 55, .inl (u9.2 19))), (p20, .inl (cI, 55, .inl (u9.2 20))), (p21, .inl (cI, 55, .inl (u9.2 21))), (p22, .inl (cI, 55, .inl (u9.2 22))), (p1, .inl (cI, 7195, .inl (ftPush w z hm)))] := by rw [hu9, eg104_p0, show x = ftCL w + 60 by omega]; rfl
          rw [hw9] at hP hD
          have hr9 : (nI ((ftKk w) + 1) : Int32) = nI (ftKk w + 1) := by exact rfl
          exact W.iret (v := nI ((ftKk w) + 1)) hx hb hr (fun t ht hW => ⟨⟨nI ((ftKk w) + 1), u9, rfl, ⟨hr9, trivial⟩, by rw [ht]; exact hP, by rw [hAe]; exact hD⟩, by rw [hAe]; exact hS.F ht⟩) hS.2.2 dX11_keep_168
        · have c109n : x < ((ftCL w) + 60) := ft_nleN (by omega) (by omega) c109
          refine lv_aload_n hx hb dX11_keep_112 rfl (lv_at hl 0 rfl) ?_
          refine va_get (D := D) (ci := 11) (v := .ref p0) (C := RX11) (T := TX11) (N := 33) hx hb hts (by decide +kernel) hown hK hP 0 rfl rfl 0 (by decide) (hts (.fieldLink RX11 7 "FiberTraceModel" "now" "[I") (by decide +kernel)) (fun _ h9 => h9) rfl dX11_keep_113 ?_
          refine lv_iload_n hx hb dX11_keep_116 rfl (lv_at hl 1 rfl) ?_
          refine lv_iload_n hx hb dX11_keep_117 rfl (lv_at hl 2 rfl) ?_
          refine lv_iadd hx hb dX11_keep_118 ?_
          refine ft_top (y := nI ((59 + (460 * (ftKk w))) + x)) (ft_addN (59 + (460 * (ftKk w))) x) ?_
          refine lv_aload_n hx hb dX11_keep_119 rfl (lv_at hl 0 rfl) ?_
          refine lv_iload_n hx hb dX11_keep_120 rfl (lv_at hl 2 rfl) ?_
          refine ft_csi (r := (u5 12) x + (u5 13) x + (u5 14) x) (va_runV (C := RX11) (As := [.int (nI x)]) (rest := [.int (nI ((59 + (460 * (ftKk w))) + x)), .ref p0]) ⟨hx, hb, hml, hown, hts⟩ (c_X11_v l D cI cS m0 p0 p1 p3 p5 p10 p12 p13 p14 p16 p17 p19 p20 p21 p22 p25 p26 p27 p28 p29 p30 p31 p32 (nI (min (hm + 1) 5)) i4 i6 i7 i8 i9 i11 (nI (ftCF w).1) (nI (ftCG w).1) i23 i24 (u5 12) (u5 13) (u5 14) x (by first | assumption | omega)) (cwV 1 hts gX11_keep_X11_v rfl rfl rfl (by decide +kernel) ⟨Nat.le_of_ble_eq_true rfl, Nat.le_of_ble_eq_true rfl⟩) (ft_preROV (ci := 11) (q0 := 0) hP hKK [0, 2, 3, 4] rfl rfl rfl) rfl rfl hl.1 rfl (lv_room (Nat.le_of_ble_eq_true rfl)) dX11_keep_121 ⟨Nat.le_of_ble_eq_true rfl, Nat.le_of_ble_eq_true rfl⟩) ?_
          refine ft_top (y := ftCV w x) (by rw [(hb5 x (by omega)).1, (hb5 x (by omega)).2.1, (hb5 x (by omega)).2.2]; rfl) ?_
          refine va_iast hx hb hK hP hD hS 1 0 rfl rfl (vp_in_nI (by omega) (by omega)) dX11_keep_124 (fun H locs hP hD hS => ?_)
          rw [nI_clamp (show (59 + (460 * (ftKk w))) + x < 2 ^ 31 by omega)] at hP hD
          have hP : va_P D vwCl [(m0, .inr (11, [.ref p0, .ref p1, .int (nI (min (hm + 1) 5)), .ref p3, .int i4, .ref p5, .int i6, .int i7, .int i8, .int i9, .ref p10, .int i11, .ref p12, .ref p13, .ref p14, .int (nI (ftCF w).1), .ref p16, .ref p17, .int (nI (ftCG w).1), .ref p19, .ref p20, .ref p21, .ref p22, .int i23, .int i24, .ref p25, .ref p26, .ref p27, .ref p28, .ref p29, .ref p30, .ref p31, .ref p32])), (p0, .inl (cI, 1439, .inl (upd g104_p0 ((59 + (460 * (ftKk w))) + x) (ftCV w x)))), (p12, .inl (cI, 460, .inl (u5 12))), (p13, .inl (cI, 460, .inl (u5 13))), (p14, .inl (cI, 460, .inl (u5 14))), (p16, .inl (cI, 11, .inl (u5 16))), (p17, .inl (cI, 11, .inl (u5 17))), (p19, .inl (cI, 55, .inl (u5 19))), (p20, .inl (cI, 55, .inl (u5 20))), (p21, .inl (cI, 55, .inl (u5 21))), (p22, .inl (cI, 55, .inl (u5 22))), (p1, .inl (cI, 7195, .inl (ftPush w z hm)))] H := hP
          have hD : va_D A [(m0, .inr (11, [.ref p0, .ref p1, .int (nI (min (hm + 1) 5)), .ref p3, .int i4, .ref p5, .int i6, .int i7, .int i8, .int i9, .ref p10, .int i11, .ref p12, .ref p13, .ref p14, .int (nI (ftCF w).1), .ref p16, .ref p17, .int (nI (ftCG w).1), .ref p19, .ref p20, .ref p21, .ref p22, .int i23, .int i24, .ref p25, .ref p26, .ref p27, .ref p28, .ref p29, .ref p30, .ref p31, .ref p32])), (p0, .inl (cI, 1439, .inl (upd g104_p0 ((59 + (460 * (ftKk w))) + x) (ftCV w x)))), (p12, .inl (cI, 460, .inl (u5 12))), (p13, .inl (cI, 460, .inl (u5 13))), (p14, .inl (cI, 460, .inl (u5 14))), (p16, .inl (cI, 11, .inl (u5 16))), (p17, .inl (cI, 11, .inl (u5 17))), (p19, .inl (cI, 55, .inl (u5 19))), (p20, .inl (cI, 55, .inl (u5 20))), (p21, .inl (cI, 55, .inl (u5 21))), (p22, .inl (cI, 55, .inl (u5 22))), (p1, .inl (cI, 7195, .inl (ftPush w z hm)))] := hD
          refine lv_iinc (v := nI (x + 1)) (lv' := [(2, .int (nI (x + 1))), (0, .ref m0), (1, .int (nI (59 + (460 * (ftKk w)))))]) hx hb dX11_keep_125 hl (k := 2) rfl (ft_inc x) (by decide) rfl (fun ls hl => ?_)
          refine lv_goto (tgt := 104) hx hb dX11_keep_128 (by decide) ?_
          exact ih104 (x + 1) (nI (x + 1)) (upd g104_p0 ((59 + (460 * (ftKk w))) + x) (ftCV w x)) (by omega) (by omega) (by first | rfl | assumption) (by rw [eg104_p0]; exact ftSeg_s) _ _ hP hD hS ls (lv_sub hl [1, 2, 0] rfl)
    exact lp104 _ 0 0 w (Nat.lt_succ_self _) (by omega) (by rfl) (by first | (rw [hks]; exact ftSeg_0 _ _ _) | (rw [ftKs, if_pos hck, eg50_p0, show j = 979 by omega]; exact ftSeg_0 _ _ _)) _ _ hP hD hS ls (lv_sub hl [2, 1, 0] rfl)
  · have hck : ftCK w = 3 := ft_eqN (by omega) (by omega) (by rw [← h55]; exact c16)
    have hkk : ftKk w = 2 := if_pos hck
    have hks55 : ftKs w 55 = nI (ftKk w) := by rw [hkk, ftKs, if_pos hck]; rfl
    refine lv_aload_n hx hb dX11_keep_19 rfl (lv_at hl 0 rfl) ?_
    refine va_get (D := D) (ci := 11) (v := .ref p0) (C := RX11) (T := TX11) (N := 33) hx hb hts (by decide +kernel) hown hK hP 0 rfl rfl 0 (by decide) (hts (.fieldLink RX11 7 "FiberTraceModel" "now" "[I") (by decide +kernel)) (fun _ h9 => h9) rfl dX11_keep_20 ?_
    refine lv_bipush (v := 56) hx hb dX11_keep_23 (by decide) ?_
    refine lv_aload_n hx hb dX11_keep_25 rfl (lv_at hl 0 rfl) ?_
    refine va_get (D := D) (ci := 11) (v := .ref p0) (C := RX11) (T := TX11) (N := 33) hx hb hts (by decide +kernel) hown hK hP 0 rfl rfl 0 (by decide) (hts (.fieldLink RX11 7 "FiberTraceModel" "now" "[I") (by decide +kernel)) (fun _ h9 => h9) rfl dX11_keep_26 ?_
    refine lv_bipush (v := 57) hx hb dX11_keep_29 (by decide) ?_
    refine va_iald hx hb hK hP 1 0 rfl rfl (vp_in_nI (n := 57) (by omega) (by omega)) dX11_keep_31 ?_
    refine ft_top (y := w 57) rfl ?_
    refine va_iast hx hb hK hP hD hS 1 0 rfl rfl (vp_in_nI (n := 56) (by omega) (by omega)) dX11_keep_32 (fun H locs hP hD hS => ?_)
    have hP : va_P D vwCl [(m0, .inr (11, [.ref p0, .ref p1, .int (nI (min (hm + 1) 5)), .ref p3, .int i4, .ref p5, .int i6, .int i7, .int i8, .int i9, .ref p10, .int i11, .ref p12, .ref p13, .ref p14, .int (nI (ftCF w).1), .ref p16, .ref p17, .int (nI (ftCG w).1), .ref p19, .ref p20, .ref p21, .ref p22, .int i23, .int i24, .ref p25, .ref p26, .ref p27, .ref p28, .ref p29, .ref p30, .ref p31, .ref p32])), (p0, .inl (cI, 1439, .inl (upd w 56 (w 57)))), (p12, .inl (cI, 460, .inl (u5 12))), (p13, .inl (cI, 460, .inl (u5 13))), (p14, .inl (cI, 460, .inl (u5 14))), (p16, .inl (cI, 11, .inl (u5 16))), (p17, .inl (cI, 11, .inl (u5 17))), (p19, .inl (cI, 55, .inl (u5 19))), (p20, .inl (cI, 55, .inl (u5 20))), (p21, .inl (cI, 55, .inl (u5 21))), (p22, .inl (cI, 55, .inl (u5 22))), (p1, .inl (cI, 7195, .inl (ftPush w z hm)))] H := hP
    have hD : va_D A [(m0, .inr (11, [.ref p0, .ref p1, .int (nI (min (hm + 1) 5)), .ref p3, .int i4, .ref p5, .int i6, .int i7, .int i8, .int i9, .ref p10, .int i11, .ref p12, .ref p13, .ref p14, .int (nI (ftCF w).1), .ref p16, .ref p17, .int (nI (ftCG w).1), .ref p19, .ref p20, .ref p21, .ref p22, .int i23, .int i24, .ref p25, .ref p26, .ref p27, .ref p28, .ref p29, .ref p30, .ref p31, .ref p32])), (p0, .inl (cI, 1439, .inl (upd w 56 (w 57)))), (p12, .inl (cI, 460, .inl (u5 12))), (p13, .inl (cI, 460, .inl (u5 13))), (p14, .inl (cI, 460, .inl (u5 14))), (p16, .inl (cI, 11, .inl (u5 16))), (p17, .inl (cI, 11, .inl (u5 17))), (p19, .inl (cI, 55, .inl (u5 19))), (p20, .inl (cI, 55, .inl (u5 20))), (p21, .inl (cI, 55, .inl (u5 21))), (p22, .inl (cI, 55, .inl (u5 22))), (p1, .inl (cI, 7195, .inl (ftPush w z hm)))] := hD
    refine lv_aload_n hx hb dX11_keep_33 rfl (lv_at hl 0 rfl) ?_
    refine va_get (D := D) (ci := 11) (v := .ref p0) (C := RX11) (T := TX11) (N := 33) hx hb hts (by decide +kernel) hown hK hP 0 rfl rfl 0 (by decide) (hts (.fieldLink RX11 7 "FiberTraceModel" "now" "[I") (by decide +kernel)) (fun _ h9 => h9) rfl dX11_keep_34 ?_
    refine lv_bipush (v := 57) hx hb dX11_keep_37 (by decide) ?_
    refine lv_aload_n hx hb dX11_keep_39 rfl (lv_at hl 0 rfl) ?_
    refine va_get (D := D) (ci := 11) (v := .ref p0) (C := RX11) (T := TX11) (N := 33) hx hb hts (by decide +kernel) hown hK hP 0 rfl rfl 0 (by decide) (hts (.fieldLink RX11 7 "FiberTraceModel" "now" "[I") (by decide +kernel)) (fun _ h9 => h9) rfl dX11_keep_40 ?_
    refine lv_bipush (v := 58) hx hb dX11_keep_43 (by decide) ?_
    refine va_iald hx hb hK hP 1 0 rfl rfl (vp_in_nI (n := 58) (by omega) (by omega)) dX11_keep_45 ?_
    refine ft_top (y := (upd w 56 (w 57)) 58) rfl ?_
    refine ft_top (y := w 58) (ftUpd_ne (by omega)) ?_
    refine va_iast hx hb hK hP hD hS 1 0 rfl rfl (vp_in_nI (n := 57) (by omega) (by omega)) dX11_keep_46 (fun H locs hP hD hS => ?_)
    have hP : va_P D vwCl [(m0, .inr (11, [.ref p0, .ref p1, .int (nI (min (hm + 1) 5)), .ref p3, .int i4, .ref p5, .int i6, .int i7, .int i8, .int i9, .ref p10, .int i11, .ref p12, .ref p13, .ref p14, .int (nI (ftCF w).1), .ref p16, .ref p17, .int (nI (ftCG w).1), .ref p19, .ref p20, .ref p21, .ref p22, .int i23, .int i24, .ref p25, .ref p26, .ref p27, .ref p28, .ref p29, .ref p30, .ref p31, .ref p32])), (p0, .inl (cI, 1439, .inl (upd (upd w 56 (w 57)) 57 (w 58)))), (p12, .inl (cI, 460, .inl (u5 12))), (p13, .inl (cI, 460, .inl (u5 13))), (p14, .inl (cI, 460, .inl (u5 14))), (p16, .inl (cI, 11, .inl (u5 16))), (p17, .inl (cI, 11, .inl (u5 17))), (p19, .inl (cI, 55, .inl (u5 19))), (p20, .inl (cI, 55, .inl (u5 20))), (p21, .inl (cI, 55, .inl (u5 21))), (p22, .inl (cI, 55, .inl (u5 22))), (p1, .inl (cI, 7195, .inl (ftPush w z hm)))] H := hP
    have hD : va_D A [(m0, .inr (11, [.ref p0, .ref p1, .int (nI (min (hm + 1) 5)), .ref p3, .int i4, .ref p5, .int i6, .int i7, .int i8, .int i9, .ref p10, .int i11, .ref p12, .ref p13, .ref p14, .int (nI (ftCF w).1), .ref p16, .ref p17, .int (nI (ftCG w).1), .ref p19, .ref p20, .ref p21, .ref p22, .int i23, .int i24, .ref p25, .ref p26, .ref p27, .ref p28, .ref p29, .ref p30, .ref p31, .ref p32])), (p0, .inl (cI, 1439, .inl (upd (upd w 56 (w 57)) 57 (w 58)))), (p12, .inl (cI, 460, .inl (u5 12))), (p13, .inl (cI, 460, .inl (u5 13))), (p14, .inl (cI, 460, .inl (u5 14))), (p16, .inl (cI, 11, .inl (u5 16))), (p17, .inl (cI, 11, .inl (u5 17))), (p19, .inl (cI, 55, .inl (u5 19))), (p20, .inl (cI, 55, .inl (u5 20))), (p21, .inl (cI, 55, .inl (u5 21))), (p22, .inl (cI, 55, .inl (u5 22))), (p1, .inl (cI, 7195, .inl (ftPush w z hm)))] := hD
    refine lv_bipush (v := 59) hx hb dX11_keep_47 (by decide) ?_
    refine lv_istore_n (lv' := [(1, .int 59), (0, .ref m0)]) hx hb dX11_keep_49 rfl hl (by decide) rfl (fun ls hl => ?_)
    have lp50 : ∀ (n50 : Nat) (j : Nat) (x50_1 : Int32) (g50_p0 : Nat → Int32), 979 - j < n50 → (59 ≤ j) → (j ≤ 979) → x50_1 = nI j → g50_p0 = ftShK (upd (upd w 56 (w 57)) 57 (w 58)) j → ∀ (H : Heap) (locs : List Loc), va_P D vwCl [(m0, .inr (11, [.ref p0, .ref p1, .int (nI (min (hm + 1) 5)), .ref p3, .int i4, .ref p5, .int i6, .int i7, .int i8, .int i9, .ref p10, .int i11, .ref p12, .ref p13, .ref p14, .int (nI (ftCF w).1), .ref p16, .ref p17, .int (nI (ftCG w).1), .ref p19, .ref p20, .ref p21, .ref p22, .int i23, .int i24, .ref p25, .ref p26, .ref p27, .ref p28, .ref p29, .ref p30, .ref p31, .ref p32])), (p0, .inl (cI, 1439, .inl g50_p0)), (p12, .inl (cI, 460, .inl (u5 12))), (p13, .inl (cI, 460, .inl (u5 13))), (p14, .inl (cI, 460, .inl (u5 14))), (p16, .inl (cI, 11, .inl (u5 16))), (p17, .inl (cI, 11, .inl (u5 17))), (p19, .inl (cI, 55, .inl (u5 19))), (p20, .inl (cI, 55, .inl (u5 20))), (p21, .inl (cI, 55, .inl (u5 21))), (p22, .inl (cI, 55, .inl (u5 22))), (p1, .inl (cI, 7195, .inl (ftPush w z hm)))] H → va_D A [(m0, .inr (11, [.ref p0, .ref p1, .int (nI (min (hm + 1) 5)), .ref p3, .int i4, .ref p5, .int i6, .int i7, .int i8, .int i9, .ref p10, .int i11, .ref p12, .ref p13, .ref p14, .int (nI (ftCF w).1), .ref p16, .ref p17, .int (nI (ftCG w).1), .ref p19, .ref p20, .ref p21, .ref p22, .int i23, .int i24, .ref p25, .ref p26, .ref p27, .ref p28, .ref p29, .ref p30, .ref p31, .ref p32])), (p0, .inl (cI, 1439, .inl g50_p0)), (p12, .inl (cI, 460, .inl (u5 12))), (p13, .inl (cI, 460, .inl (u5 13))), (p14, .inl (cI, 460, .inl (u5 14))), (p16, .inl (cI, 11, .inl (u5 16))), (p17, .inl (cI, 11, .inl (u5 17))), (p19, .inl (cI, 55, .inl (u5 19))), (p20, .inl (cI, 55, .inl (u5 20))), (p21, .inl (cI, 55, .inl (u5 21))), (p22, .inl (cI, 55, .inl (u5 22))), (p1, .inl (cI, 7195, .inl (ftPush w z hm)))] → va_S A s.heap H locs → ∀ ls : Array Slot, lv_has ls 3 [(0, .ref m0), (1, .int x50_1)] → W p l e (headSpec wsX11_keep { frames := 3, cells := 0, slots := 0, locals := 72 }).room s m ([.ref m0] : List Value).toArray below meth c H locs 0 0 (MQ below (ftXi D [(m0, .inr (11, [.ref p0, .ref p1, .int (nI hm), .ref p3, .int i4, .ref p5, .int i6, .int i7, .int i8, .int i9, .ref p10, .int i11, .ref p12, .ref p13, .ref p14, .int i15, .ref p16, .ref p17, .int i18, .ref p19, .ref p20, .ref p21, .ref p22, .int i23, .int i24, .ref p25, .ref p26, .ref p27, .ref p28, .ref p29, .ref p30, .ref p31, .ref p32])), (p0, .inl (cI, 1439, .inl w)), (p12, .inl (cI, 460, .inl fb)), (p13, .inl (cI, 460, .inl fp)), (p14, .inl (cI, 460, .inl fn)), (p16, .inl (cI, 11, .inl fa)), (p17, .inl (cI, 11, .inl fh)), (p19, .inl (cI, 55, .inl ga)), (p20, .inl (cI, 55, .inl gh)), (p21, .inl (cI, 55, .inl g1)), (p22, .inl (cI, 55, .inl g2)), (p1, .inl (cI, 7195, .inl z))] s.heap.size (fun (o9 : Int32) (u : (Nat → Int32) × (Nat → Nat → Int32)) => o9 = nI (ftKk w + 1) ∧ True) (fun (u : (Nat → Int32) × (Nat → Nat → Int32)) => [(m0, .inr (11, [.ref p0, .ref p1, .int (nI (min (hm + 1) 5)), .ref p3, .int i4, .ref p5, .int i6, .int i7, .int i8, .int i9, .ref p10, .int i11, .ref p12, .ref p13, .ref p14, .int (u.1 15), .ref p16, .ref p17, .int (u.1 18), .ref p19, .ref p20, .ref p21, .ref p22, .int i23, .int i24, .ref p25, .ref p26, .ref p27, .ref p28, .ref p29, .ref p30, .ref p31, .ref p32])), (p0, .inl (cI, 1439, .inl (ftKeep w))), (p12, .inl (cI, 460, .inl (u.2 12))), (p13, .inl (cI, 460, .inl (u.2 13))), (p14, .inl (cI, 460, .inl (u.2 14))), (p16, .inl (cI, 11, .inl (u.2 16))), (p17, .inl (cI, 11, .inl (u.2 17))), (p19, .inl (cI, 55, .inl (u.2 19))), (p20, .inl (cI, 55, .inl (u.2 20))), (p21, .inl (cI, 55, .inl (u.2 21))), (p22, .inl (cI, 55, .inl (u.2 22))), (p1, .inl (cI, 7195, .inl (ftPush w z hm)))])) ([.ref m0] : List Value).toArray s 0 0 A) (F0 m 50 ls []) := by
      intro n50
      induction n50 with
      | zero =>
        intro j x50_1 g50_p0 hm50
        exact absurd hm50 (Nat.not_lt_zero _)
      | succ n50 ih50 =>
        intro j x50_1 g50_p0 hm50 hj1 hj2 ex50_1 eg50_p0 H locs hP hD hS ls hl
        subst ex50_1
        refine lv_iload_n hx hb dX11_keep_50 rfl (lv_at hl 1 rfl) ?_
        refine lv_sipush (v := 979) hx hb dX11_keep_51 (by decide) ?_
        refine lv_icmp_ge (tgt := 79) hx hb dX11_keep_54 (by decide) (fun c54 => ?_) (fun c54 => ?_)
        · have c54n : 979 ≤ j := ft_leN (by omega) (by omega) c54
          refine lv_aload_n hx hb dX11_keep_79 rfl (lv_at hl 0 rfl) ?_
          refine va_get (D := D) (ci := 11) (v := .ref p0) (C := RX11) (T := TX11) (N := 33) hx hb hts (by decide +kernel) hown hK hP 0 rfl rfl 0 (by decide) (hts (.fieldLink RX11 7 "FiberTraceModel" "now" "[I") (by decide +kernel)) (fun _ h9 => h9) rfl dX11_keep_80 ?_
          refine lv_bipush (v := 55) hx hb dX11_keep_83 (by decide) ?_
          refine lv_iconst (v := 2) hx hb dX11_keep_85 (by decide) ?_
          refine va_iast hx hb hK hP hD hS 1 0 rfl rfl (vp_in_nI (n := 55) (by omega) (by omega)) dX11_keep_86 (fun H locs hP hD hS => ?_)
          have hP : va_P D vwCl [(m0, .inr (11, [.ref p0, .ref p1, .int (nI (min (hm + 1) 5)), .ref p3, .int i4, .ref p5, .int i6, .int i7, .int i8, .int i9, .ref p10, .int i11, .ref p12, .ref p13, .ref p14, .int (nI (ftCF w).1), .ref p16, .ref p17, .int (nI (ftCG w).1), .ref p19, .ref p20, .ref p21, .ref p22, .int i23, .int i24, .ref p25, .ref p26, .ref p27, .ref p28, .ref p29, .ref p30, .ref p31, .ref p32])), (p0, .inl (cI, 1439, .inl (upd g50_p0 55 2))), (p12, .inl (cI, 460, .inl (u5 12))), (p13, .inl (cI, 460, .inl (u5 13))), (p14, .inl (cI, 460, .inl (u5 14))), (p16, .inl (cI, 11, .inl (u5 16))), (p17, .inl (cI, 11, .inl (u5 17))), (p19, .inl (cI, 55, .inl (u5 19))), (p20, .inl (cI, 55, .inl (u5 20))), (p21, .inl (cI, 55, .inl (u5 21))), (p22, .inl (cI, 55, .inl (u5 22))), (p1, .inl (cI, 7195, .inl (ftPush w z hm)))] H := hP
          have hD : va_D A [(m0, .inr (11, [.ref p0, .ref p1, .int (nI (min (hm + 1) 5)), .ref p3, .int i4, .ref p5, .int i6, .int i7, .int i8, .int i9, .ref p10, .int i11, .ref p12, .ref p13, .ref p14, .int (nI (ftCF w).1), .ref p16, .ref p17, .int (nI (ftCG w).1), .ref p19, .ref p20, .ref p21, .ref p22, .int i23, .int i24, .ref p25, .ref p26, .ref p27, .ref p28, .ref p29, .ref p30, .ref p31, .ref p32])), (p0, .inl (cI, 1439, .inl (upd g50_p0 55 2))), (p12, .inl (cI, 460, .inl (u5 12))), (p13, .inl (cI, 460, .inl (u5 13))), (p14, .inl (cI, 460, .inl (u5 14))), (p16, .inl (cI, 11, .inl (u5 16))), (p17, .inl (cI, 11, .inl (u5 17))), (p19, .inl (cI, 55, .inl (u5 19))), (p20, .inl (cI, 55, .inl (u5 20))), (p21, .inl (cI, 55, .inl (u5 21))), (p22, .inl (cI, 55, .inl (u5 22))), (p1, .inl (cI, 7195, .inl (ftPush w z hm)))] := hD
          have hkk3 : ftKk w ≤ 2 := by omega
          have hk0 : ∀ (f : Nat → Int32) (X : Nat), ftSeg f (ftKs w) (59 + 460 * ftKk w) X 0 = nI (ftCL w) := fun f X => by rw [ftSeg_lo (by omega), ftKs_lo (by omega)]; exact hw0
          refine lv_bipush (v := 59) hx hb dX11_keep_87 (by decide) ?_
          refine lv_sipush (v := 460) hx hb dX11_keep_89 (by decide) ?_
          refine lv_aload_n hx hb dX11_keep_92 rfl (lv_at hl 0 rfl) ?_
          refine va_get (D := D) (ci := 11) (v := .ref p0) (C := RX11) (T := TX11) (N := 33) hx hb hts (by decide +kernel) hown hK hP 0 rfl rfl 0 (by decide) (hts (.fieldLink RX11 7 "FiberTraceModel" "now" "[I") (by decide +kernel)) (fun _ h9 => h9) rfl dX11_keep_93 ?_
          refine lv_bipush (v := 55) hx hb dX11_keep_96 (by decide) ?_
          refine va_iald hx hb hK hP 1 0 rfl rfl (vp_in_nI (n := 55) (by omega) (by omega)) dX11_keep_98 ?_
          refine ft_top (y := (upd g50_p0 55 2) 55) rfl ?_
          refine ft_top (y := 2) (ftUpd1 _ _ _) ?_
          refine ft_top (y := nI (ftKk w)) (by rw [hkk]; first | exact h55 | rfl) ?_
          refine lv_imul hx hb dX11_keep_99 ?_
          refine ft_top (y := nI (460 * (ftKk w))) (ft_mulN 460 (ftKk w)) ?_
          refine lv_iadd hx hb dX11_keep_100 ?_
          refine ft_top (y := nI (59 + (460 * (ftKk w)))) (ft_addN 59 (460 * (ftKk w))) ?_
          refine lv_istore_n (lv' := [(1, .int (nI (59 + (460 * (ftKk w))))), (0, .ref m0)]) hx hb dX11_keep_101 rfl hl (by decide) rfl (fun ls hl => ?_)
          refine lv_iconst (v := 0) hx hb dX11_keep_102 (by decide) ?_
          refine lv_istore_n (lv' := [(2, .int 0), (1, .int (nI (59 + (460 * (ftKk w))))), (0, .ref m0)]) hx hb dX11_keep_103 rfl hl (by decide) rfl (fun ls hl => ?_)
          have lp104 : ∀ (n104 : Nat) (x : Nat) (x104_2 : Int32) (g104_p0 : Nat → Int32), ftCL w + 60 - x < n104 → (x ≤ ftCL w + 60) → x104_2 = nI x → g104_p0 = ftSeg (ftCV w) (ftKs w) (59 + 460 * ftKk w) x → ∀ (H : Heap) (locs : List Loc), va_P D vwCl [(m0, .inr (11, [.ref p0, .ref p1, .int (nI (min (hm + 1) 5)), .ref p3, .int i4, .ref p5, .int i6, .int i7, .int i8, .int i9, .ref p10, .int i11, .ref p12, .ref p13, .ref p14, .int (nI (ftCF w).1), .ref p16, .ref p17, .int (nI (ftCG w).1), .ref p19, .ref p20, .ref p21, .ref p22, .int i23, .int i24, .ref p25, .ref p26, .ref p27, .ref p28, .ref p29, .ref p30, .ref p31, .ref p32])), (p0, .inl (cI, 1439, .inl g104_p0)), (p12, .inl (cI, 460, .inl (u5 12))), (p13, .inl (cI, 460, .inl (u5 13))), (p14, .inl (cI, 460, .inl (u5 14))), (p16, .inl (cI, 11, .inl (u5 16))), (p17, .inl (cI, 11, .inl (u5 17))), (p19, .inl (cI, 55, .inl (u5 19))), (p20, .inl (cI, 55, .inl (u5 20))), (p21, .inl (cI, 55, .inl (u5 21))), (p22, .inl (cI, 55, .inl (u5 22))), (p1, .inl (cI, 7195, .inl (ftPush w z hm)))] H → va_D A [(m0, .inr (11, [.ref p0, .ref p1, .int (nI (min (hm + 1) 5)), .ref p3, .int i4, .ref p5, .int i6, .int i7, .int i8, .int i9, .ref p10, .int i11, .ref p12, .ref p13, .ref p14, .int (nI (ftCF w).1), .ref p16, .ref p17, .int (nI (ftCG w).1), .ref p19, .ref p20, .ref p21, .ref p22, .int i23, .int i24, .ref p25, .ref p26, .ref p27, .ref p28, .ref p29, .ref p30, .ref p31, .ref p32])), (p0, .inl (cI, 1439, .inl g104_p0)), (p12, .inl (cI, 460, .inl (u5 12))), (p13, .inl (cI, 460, .inl (u5 13))), (p14, .inl (cI, 460, .inl (u5 14))), (p16, .inl (cI, 11, .inl (u5 16))), (p17, .inl (cI, 11, .inl (u5 17))), (p19, .inl (cI, 55, .inl (u5 19))), (p20, .inl (cI, 55, .inl (u5 20))), (p21, .inl (cI, 55, .inl (u5 21))), (p22, .inl (cI, 55, .inl (u5 22))), (p1, .inl (cI, 7195, .inl (ftPush w z hm)))] → va_S A s.heap H locs → ∀ ls : Array Slot, lv_has ls 3 [(0, .ref m0), (1, .int (nI (59 + (460 * (ftKk w))))), (2, .int x104_2)] → W p l e (headSpec wsX11_keep { frames := 3, cells := 0, slots := 0, locals := 72 }).room s m ([.ref m0] : List Value).toArray below meth c H locs 0 0 (MQ below (ftXi D [(m0, .inr (11, [.ref p0, .ref p1, .int (nI hm), .ref p3, .int i4, .ref p5, .int i6, .int i7, .int i8, .int i9, .ref p10, .int i11, .ref p12, .ref p13, .ref p14, .int i15, .ref p16, .ref p17, .int i18, .ref p19, .ref p20, .ref p21, .ref p22, .int i23, .int i24, .ref p25, .ref p26, .ref p27, .ref p28, .ref p29, .ref p30, .ref p31, .ref p32])), (p0, .inl (cI, 1439, .inl w)), (p12, .inl (cI, 460, .inl fb)), (p13, .inl (cI, 460, .inl fp)), (p14, .inl (cI, 460, .inl fn)), (p16, .inl (cI, 11, .inl fa)), (p17, .inl (cI, 11, .inl fh)), (p19, .inl (cI, 55, .inl ga)), (p20, .inl (cI, 55, .inl gh)), (p21, .inl (cI, 55, .inl g1)), (p22, .inl (cI, 55, .inl g2)), (p1, .inl (cI, 7195, .inl z))] s.heap.size (fun (o9 : Int32) (u : (Nat → Int32) × (Nat → Nat → Int32)) => o9 = nI (ftKk w + 1) ∧ True) (fun (u : (Nat → Int32) × (Nat → Nat → Int32)) => [(m0, .inr (11, [.ref p0, .ref p1, .int (nI (min (hm + 1) 5)), .ref p3, .int i4, .ref p5, .int i6, .int i7, .int i8, .int i9, .ref p10, .int i11, .ref p12, .ref p13, .ref p14, .int (u.1 15), .ref p16, .ref p17, .int (u.1 18), .ref p19, .ref p20, .ref p21, .ref p22, .int i23, .int i24, .ref p25, .ref p26, .ref p27, .ref p28, .ref p29, .ref p30, .ref p31, .ref p32])), (p0, .inl (cI, 1439, .inl (ftKeep w))), (p12, .inl (cI, 460, .inl (u.2 12))), (p13, .inl (cI, 460, .inl (u.2 13))), (p14, .inl (cI, 460, .inl (u.2 14))), (p16, .inl (cI, 11, .inl (u.2 16))), (p17, .inl (cI, 11, .inl (u.2 17))), (p19, .inl (cI, 55, .inl (u.2 19))), (p20, .inl (cI, 55, .inl (u.2 20))), (p21, .inl (cI, 55, .inl (u.2 21))), (p22, .inl (cI, 55, .inl (u.2 22))), (p1, .inl (cI, 7195, .inl (ftPush w z hm)))])) ([.ref m0] : List Value).toArray s 0 0 A) (F0 m 104 ls []) := by
            intro n104
            induction n104 with
            | zero =>
              intro x x104_2 g104_p0 hm104
              exact absurd hm104 (Nat.not_lt_zero _)
            | succ n104 ih104 =>
              intro x x104_2 g104_p0 hm104 hxN ex104_2 eg104_p0 H locs hP hD hS ls hl
              subst ex104_2
              refine lv_iload_n hx hb dX11_keep_104 rfl (lv_at hl 2 rfl) ?_
              refine lv_aload_n hx hb dX11_keep_105 rfl (lv_at hl 0 rfl) ?_
              refine ft_csi (r := nI ((ftCL w) + 60)) (va_runV (C := RX11) (As := []) (rest := [.int (nI x)]) ⟨hx, hb, hml, hown, hts⟩ (c_X11_samples l D cI cS m0 p0 p1 p3 p5 p10 p12 p13 p14 p16 p17 p19 p20 p21 p22 p25 p26 p27 p28 p29 p30 p31 p32 (nI (min (hm + 1) 5)) i4 i6 i7 i8 i9 i11 (nI (ftCF w).1) (nI (ftCG w).1) i23 i24 g104_p0 (ftCL w) (by rw [eg104_p0]; exact hk0 _ _)) (cwV 0 hts gX11_keep_X11_samples rfl rfl rfl (by decide +kernel) ⟨Nat.le_of_ble_eq_true rfl, Nat.le_of_ble_eq_true rfl⟩) (ft_preROV (ci := 11) (q0 := 0) hP hKK [0, 1] rfl rfl rfl) rfl rfl hl.1 rfl (lv_room (Nat.le_of_ble_eq_true rfl)) dX11_keep_106 ⟨Nat.le_of_ble_eq_true rfl, Nat.le_of_ble_eq_true rfl⟩) ?_
              refine lv_icmp_ge (tgt := 131) hx hb dX11_keep_109 (by decide) (fun c109 => ?_) (fun c109 => ?_)
              · have c109n : ((ftCL w) + 60) ≤ x := ft_leN (by omega) (by omega) c109
                refine lv_aload_n hx hb dX11_keep_131 rfl (lv_at hl 0 rfl) ?_
                refine va_get (D := D) (ci := 11) (v := .ref p0) (C := RX11) (T := TX11) (N := 33) hx hb hts (by decide +kernel) hown hK hP 0 rfl rfl 0 (by decide) (hts (.fieldLink RX11 7 "FiberTraceModel" "now" "[I") (by decide +kernel)) (fun _ h9 => h9) rfl dX11_keep_132 ?_
                refine lv_bipush (v := 56) hx hb dX11_keep_135 (by decide) ?_
                refine lv_aload_n hx hb dX11_keep_137 rfl (lv_at hl 0 rfl) ?_
                refine va_get (D := D) (ci := 11) (v := .ref p0) (C := RX11) (T := TX11) (N := 33) hx hb hts (by decide +kernel) hown hK hP 0 rfl rfl 0 (by decide) (hts (.fieldLink RX11 7 "FiberTraceModel" "now" "[I") (by decide +kernel)) (fun _ h9 => h9) rfl dX11_keep_138 ?_
                refine lv_bipush (v := 55) hx hb dX11_keep_141 (by decide) ?_
                refine va_iald hx hb hK hP 1 0 rfl rfl (vp_in_nI (n := 55) (by omega) (by omega)) dX11_keep_143 ?_
                refine ft_top (y := g104_p0 55) rfl ?_
                refine ft_top (y := nI (ftKk w)) (by rw [eg104_p0, ftSeg_lo (by omega)]; exact hks55) ?_
                refine lv_iadd hx hb dX11_keep_144 ?_
                refine ft_top (y := nI (56 + (ftKk w))) (ft_addN 56 (ftKk w)) ?_
                refine lv_aload_n hx hb dX11_keep_145 rfl (lv_at hl 0 rfl) ?_
                refine ft_csi (r := nI ((ftCL w) + 60)) (va_runV (C := RX11) (As := []) (rest := [.int (nI (56 + (ftKk w))), .ref p0]) ⟨hx, hb, hml, hown, hts⟩ (c_X11_samples l D cI cS m0 p0 p1 p3 p5 p10 p12 p13 p14 p16 p17 p19 p20 p21 p22 p25 p26 p27 p28 p29 p30 p31 p32 (nI (min (hm + 1) 5)) i4 i6 i7 i8 i9 i11 (nI (ftCF w).1) (nI (ftCG w).1) i23 i24 g104_p0 (ftCL w) (by rw [eg104_p0]; exact hk0 _ _)) (cwV 0 hts gX11_keep_X11_samples rfl rfl rfl (by decide +kernel) ⟨Nat.le_of_ble_eq_true rfl, Nat.le_of_ble_eq_true rfl⟩) (ft_preROV (ci := 11) (q0 := 0) hP hKK [0, 1] rfl rfl rfl) rfl rfl hl.1 rfl (lv_room (Nat.le_of_ble_eq_true rfl)) dX11_keep_146 ⟨Nat.le_of_ble_eq_true rfl, Nat.le_of_ble_eq_true rfl⟩) ?_
                refine va_iast hx hb hK hP hD hS 1 0 rfl rfl (vp_in_nI (by omega) (by omega)) dX11_keep_149 (fun H locs hP hD hS => ?_)
                rw [nI_clamp (show 56 + (ftKk w) < 2 ^ 31 by omega)] at hP hD
                have hP : va_P D vwCl [(m0, .inr (11, [.ref p0, .ref p1, .int (nI (min (hm + 1) 5)), .ref p3, .int i4, .ref p5, .int i6, .int i7, .int i8, .int i9, .ref p10, .int i11, .ref p12, .ref p13, .ref p14, .int (nI (ftCF w).1), .ref p16, .ref p17, .int (nI (ftCG w).1), .ref p19, .ref p20, .ref p21, .ref p22, .int i23, .int i24, .ref p25, .ref p26, .ref p27, .ref p28, .ref p29, .ref p30, .ref p31, .ref p32])), (p0, .inl (cI, 1439, .inl (upd g104_p0 (56 + (ftKk w)) (nI ((ftCL w) + 60))))), (p12, .inl (cI, 460, .inl (u5 12))), (p13, .inl (cI, 460, .inl (u5 13))), (p14, .inl (cI, 460, .inl (u5 14))), (p16, .inl (cI, 11, .inl (u5 16))), (p17, .inl (cI, 11, .inl (u5 17))), (p19, .inl (cI, 55, .inl (u5 19))), (p20, .inl (cI, 55, .inl (u5 20))), (p21, .inl (cI, 55, .inl (u5 21))), (p22, .inl (cI, 55, .inl (u5 22))), (p1, .inl (cI, 7195, .inl (ftPush w z hm)))] H := hP
                have hD : va_D A [(m0, .inr (11, [.ref p0, .ref p1, .int (nI (min (hm + 1) 5)), .ref p3, .int i4, .ref p5, .int i6, .int i7, .int i8, .int i9, .ref p10, .int i11, .ref p12, .ref p13, .ref p14, .int (nI (ftCF w).1), .ref p16, .ref p17, .int (nI (ftCG w).1), .ref p19, .ref p20, .ref p21, .ref p22, .int i23, .int i24, .ref p25, .ref p26, .ref p27, .ref p28, .ref p29, .ref p30, .ref p31, .ref p32])), (p0, .inl (cI, 1439, .inl (upd g104_p0 (56 + (ftKk w)) (nI ((ftCL w) + 60))))), (p12, .inl (cI, 460, .inl (u5 12))), (p13, .inl (cI, 460, .inl (u5 13))), (p14, .inl (cI, 460, .inl (u5 14))), (p16, .inl (cI, 11, .inl (u5 16))), (p17, .inl (cI, 11, .inl (u5 17))), (p19, .inl (cI, 55, .inl (u5 19))), (p20, .inl (cI, 55, .inl (u5 20))), (p21, .inl (cI, 55, .inl (u5 21))), (p22, .inl (cI, 55, .inl (u5 22))), (p1, .inl (cI, 7195, .inl (ftPush w z hm)))] := hD
                refine lv_aload_n hx hb dX11_keep_150 rfl (lv_at hl 0 rfl) ?_
                refine va_get (D := D) (ci := 11) (v := .ref p0) (C := RX11) (T := TX11) (N := 33) hx hb hts (by decide +kernel) hown hK hP 0 rfl rfl 0 (by decide) (hts (.fieldLink RX11 7 "FiberTraceModel" "now" "[I") (by decide +kernel)) (fun _ h9 => h9) rfl dX11_keep_151 ?_
                refine lv_bipush (v := 55) hx hb dX11_keep_154 (by decide) ?_
                refine lv_dup2_11 hx hb dX11_keep_156 rfl rfl ?_
                refine va_iald hx hb hK hP 1 0 rfl rfl (vp_in_nI (n := 55) (by omega) (by omega)) dX11_keep_157 ?_
                refine ft_top (y := (upd g104_p0 (56 + (ftKk w)) (nI ((ftCL w) + 60))) 55) rfl ?_
                refine ft_top (y := nI (ftKk w)) (by rw [ftUpd_ne (by omega), eg104_p0, ftSeg_lo (by omega)]; exact hks55) ?_
                refine lv_iconst (v := 1) hx hb dX11_keep_158 (by decide) ?_
                refine lv_iadd hx hb dX11_keep_159 ?_
                refine ft_top (y := nI ((ftKk w) + 1)) (ft_addN (ftKk w) 1) ?_
                refine va_iast hx hb hK hP hD hS 1 0 rfl rfl (vp_in_nI (n := 55) (by omega) (by omega)) dX11_keep_160 (fun H locs hP hD hS => ?_)
                have hP : va_P D vwCl [(m0, .inr (11, [.ref p0, .ref p1, .int (nI (min (hm + 1) 5)), .ref p3, .int i4, .ref p5, .int i6, .int i7, .int i8, .int i9, .ref p10, .int i11, .ref p12, .ref p13, .ref p14, .int (nI (ftCF w).1), .ref p16, .ref p17, .int (nI (ftCG w).1), .ref p19, .ref p20, .ref p21, .ref p22, .int i23, .int i24, .ref p25, .ref p26, .ref p27, .ref p28, .ref p29, .ref p30, .ref p31, .ref p32])), (p0, .inl (cI, 1439, .inl (upd (upd g104_p0 (56 + (ftKk w)) (nI ((ftCL w) + 60))) 55 (nI ((ftKk w) + 1))))), (p12, .inl (cI, 460, .inl (u5 12))), (p13, .inl (cI, 460, .inl (u5 13))), (p14, .inl (cI, 460, .inl (u5 14))), (p16, .inl (cI, 11, .inl (u5 16))), (p17, .inl (cI, 11, .inl (u5 17))), (p19, .inl (cI, 55, .inl (u5 19))), (p20, .inl (cI, 55, .inl (u5 20))), (p21, .inl (cI, 55, .inl (u5 21))), (p22, .inl (cI, 55, .inl (u5 22))), (p1, .inl (cI, 7195, .inl (ftPush w z hm)))] H := hP
                have hD : va_D A [(m0, .inr (11, [.ref p0, .ref p1, .int (nI (min (hm + 1) 5)), .ref p3, .int i4, .ref p5, .int i6, .int i7, .int i8, .int i9, .ref p10, .int i11, .ref p12, .ref p13, .ref p14, .int (nI (ftCF w).1), .ref p16, .ref p17, .int (nI (ftCG w).1), .ref p19, .ref p20, .ref p21, .ref p22, .int i23, .int i24, .ref p25, .ref p26, .ref p27, .ref p28, .ref p29, .ref p30, .ref p31, .ref p32])), (p0, .inl (cI, 1439, .inl (upd (upd g104_p0 (56 + (ftKk w)) (nI ((ftCL w) + 60))) 55 (nI ((ftKk w) + 1))))), (p12, .inl (cI, 460, .inl (u5 12))), (p13, .inl (cI, 460, .inl (u5 13))), (p14, .inl (cI, 460, .inl (u5 14))), (p16, .inl (cI, 11, .inl (u5 16))), (p17, .inl (cI, 11, .inl (u5 17))), (p19, .inl (cI, 55, .inl (u5 19))), (p20, .inl (cI, 55, .inl (u5 20))), (p21, .inl (cI, 55, .inl (u5 21))), (p22, .inl (cI, 55, .inl (u5 22))), (p1, .inl (cI, 7195, .inl (ftPush w z hm)))] := hD
                refine lv_aload_n hx hb dX11_keep_161 rfl (lv_at hl 0 rfl) ?_
                refine va_get (D := D) (ci := 11) (v := .ref p0) (C := RX11) (T := TX11) (N := 33) hx hb hts (by decide +kernel) hown hK hP 0 rfl rfl 0 (by decide) (hts (.fieldLink RX11 7 "FiberTraceModel" "now" "[I") (by decide +kernel)) (fun _ h9 => h9) rfl dX11_keep_162 ?_
                refine lv_bipush (v := 55) hx hb dX11_keep_165 (by decide) ?_
                refine va_iald hx hb hK hP 1 0 rfl rfl (vp_in_nI (n := 55) (by omega) (by omega)) dX11_keep_167 ?_
                refine ft_top (y := (upd (upd g104_p0 (56 + (ftKk w)) (nI ((ftCL w) + 60))) 55 (nI ((ftKk w) + 1))) 55) rfl ?_
                refine ft_top (y := nI ((ftKk w) + 1)) (ftUpd1 _ _ _) ?_
                obtain ⟨u9, hu9⟩ : ∃ u9 : (Nat → Int32) × (Nat → Nat → Int32), u9 = ((fun k => match k with | 15 => (nI (ftCF w).1) | _ => (nI (ftCG w).1)), (fun k => match k with | 12 => (u5 12) | 13 => (u5 13) | 14 => (u5 14) | 16 => (u5 16) | 17 => (u5 17) | 19 => (u5 19) | 20 => (u5 20) | 21 => (u5 21) | _ => (u5 22))) := ⟨_, rfl⟩
                have hw9 : ([(m0, .inr (11, [.ref p0, .ref p1, .int (nI (min (hm + 1) 5)), .ref p3, .int i4, .ref p5, .int i6, .int i7, .int i8, .int i9, .ref p10, .int i11, .ref p12, .ref p13, .ref p14, .int (nI (ftCF w).1), .ref p16, .ref p17, .int (nI (ftCG w).1), .ref p19, .ref p20, .ref p21, .ref p22, .int i23, .int i24, .ref p25, .ref p26, .ref p27, .ref p28, .ref p29, .ref p30, .ref p31, .ref p32])), (p0, .inl (cI, 1439, .inl (upd (upd g104_p0 (56 + (ftKk w)) (nI ((ftCL w) + 60))) 55 (nI ((ftKk w) + 1))))), (p12, .inl (cI, 460, .inl (u5 12))), (p13, .inl (cI, 460, .inl (u5 13))), (p14, .inl (cI, 460, .inl (u5 14))), (p16, .inl (cI, 11, .inl (u5 16))), (p17, .inl (cI, 11, .inl (u5 17))), (p19, .inl (cI, 55, .inl (u5 19))), (p20, .inl (cI, 55, .inl (u5 20))), (p21, .inl (cI, 55, .inl (u5 21))), (p22, .inl (cI, 55, .inl (u5 22))), (p1, .inl (cI, 7195, .inl (ftPush w z hm)))] : va_W) = [(m0, .inr (11, [.ref p0, .ref p1, .int (nI (min (hm + 1) 5)), .ref p3, .int i4, .ref p5, .int i6, .int i7, .int i8, .int i9, .ref p10, .int i11, .ref p12, .ref p13, .ref p14, .int (u9.1 15), .ref p16, .ref p17, .int (u9.1 18), .ref p19, .ref p20, .ref p21, .ref p22, .int i23, .int i24, .ref p25, .ref p26, .ref p27, .ref p28, .ref p29, .ref p30, .ref p31, .ref p32])), (p0, .inl (cI, 1439, .inl (ftKeep w))), (p12, .inl (cI, 460, .inl (u9.2 12))), (p13, .inl (cI, 460, .inl (u9.2 13))), (p14, .inl (cI, 460, .inl (u9.2 14))), (p16, .inl (cI, 11, .inl (u9.2 16))), (p17, .inl (cI, 11, .inl (u9.2 17))), (p19, .inl (cI, 55, .inl (u9.2 19))), (p20, .inl (cI, 55, .inl (u9.2 20))), (p21, .inl (cI, 55, .inl (u9.2 21))), (p22, .inl (cI, 55, .inl (u9.2 22))), (p1, .inl (cI, 7195, .inl (ftPush w z hm)))] := by rw [hu9, eg104_p0, show x = ftCL w + 60 by omega]; rfl
                rw [hw9] at hP hD
                have hr9 : (nI ((ftKk w) + 1) : Int32) = nI (ftKk w + 1) := by exact rfl
                exact W.iret (v := nI ((ftKk w) + 1)) hx hb hr (fun t ht hW => ⟨⟨nI ((ftKk w) + 1), u9, rfl, ⟨hr9, trivial⟩, by rw [ht]; exact hP, by rw [hAe]; exact hD⟩, by rw [hAe]; exact hS.F ht⟩) hS.2.2 dX11_keep_168
              · have c109n : x < ((ftCL w) + 60) := ft_nleN (by omega) (by omega) c109
                refine lv_aload_n hx hb dX11_keep_112 rfl (lv_at hl 0 rfl) ?_
                refine va_get (D := D) (ci := 11) (v := .ref p0) (C := RX11) (T := TX11) (N := 33) hx hb hts (by decide +kernel) hown hK hP 0 rfl rfl 0 (by decide) (hts (.fieldLink RX11 7 "FiberTraceModel" "now" "[I") (by decide +kernel)) (fun _ h9 => h9) rfl dX11_keep_113 ?_
                refine lv_iload_n hx hb dX11_keep_116 rfl (lv_at hl 1 rfl) ?_
                refine lv_iload_n hx hb dX11_keep_117 rfl (lv_at hl 2 rfl) ?_
                refine lv_iadd hx hb dX11_keep_118 ?_
                refine ft_top (y := nI ((59 + (460 * (ftKk w))) + x)) (ft_addN (59 + (460 * (ftKk w))) x) ?_
                refine lv_aload_n hx hb dX11_keep_119 rfl (lv_at hl 0 rfl) ?_
                refine lv_iload_n hx hb dX11_keep_120 rfl (lv_at hl 2 rfl) ?_
                refine ft_csi (r := (u5 12) x + (u5 13) x + (u5 14) x) (va_runV (C := RX11) (As := [.int (nI x)]) (rest := [.int (nI ((59 + (460 * (ftKk w))) + x)), .ref p0]) ⟨hx, hb, hml, hown, hts⟩ (c_X11_v l D cI cS m0 p0 p1 p3 p5 p10 p12 p13 p14 p16 p17 p19 p20 p21 p22 p25 p26 p27 p28 p29 p30 p31 p32 (nI (min (hm + 1) 5)) i4 i6 i7 i8 i9 i11 (nI (ftCF w).1) (nI (ftCG w).1) i23 i24 (u5 12) (u5 13) (u5 14) x (by first | assumption | omega)) (cwV 1 hts gX11_keep_X11_v rfl rfl rfl (by decide +kernel) ⟨Nat.le_of_ble_eq_true rfl, Nat.le_of_ble_eq_true rfl⟩) (ft_preROV (ci := 11) (q0 := 0) hP hKK [0, 2, 3, 4] rfl rfl rfl) rfl rfl hl.1 rfl (lv_room (Nat.le_of_ble_eq_true rfl)) dX11_keep_121 ⟨Nat.le_of_ble_eq_true rfl, Nat.le_of_ble_eq_true rfl⟩) ?_
                refine ft_top (y := ftCV w x) (by rw [(hb5 x (by omega)).1, (hb5 x (by omega)).2.1, (hb5 x (by omega)).2.2]; rfl) ?_
                refine va_iast hx hb hK hP hD hS 1 0 rfl rfl (vp_in_nI (by omega) (by omega)) dX11_keep_124 (fun H locs hP hD hS => ?_)
                rw [nI_clamp (show (59 + (460 * (ftKk w))) + x < 2 ^ 31 by omega)] at hP hD
                have hP : va_P D vwCl [(m0, .inr (11, [.ref p0, .ref p1, .int (nI (min (hm + 1) 5)), .ref p3, .int i4, .ref p5, .int i6, .int i7, .int i8, .int i9, .ref p10, .int i11, .ref p12, .ref p13, .ref p14, .int (nI (ftCF w).1), .ref p16, .ref p17, .int (nI (ftCG w).1), .ref p19, .ref p20, .ref p21, .ref p22, .int i23, .int i24, .ref p25, .ref p26, .ref p27, .ref p28, .ref p29, .ref p30, .ref p31, .ref p32])), (p0, .inl (cI, 1439, .inl (upd g104_p0 ((59 + (460 * (ftKk w))) + x) (ftCV w x)))), (p12, .inl (cI, 460, .inl (u5 12))), (p13, .inl (cI, 460, .inl (u5 13))), (p14, .inl (cI, 460, .inl (u5 14))), (p16, .inl (cI, 11, .inl (u5 16))), (p17, .inl (cI, 11, .inl (u5 17))), (p19, .inl (cI, 55, .inl (u5 19))), (p20, .inl (cI, 55, .inl (u5 20))), (p21, .inl (cI, 55, .inl (u5 21))), (p22, .inl (cI, 55, .inl (u5 22))), (p1, .inl (cI, 7195, .inl (ftPush w z hm)))] H := hP
                have hD : va_D A [(m0, .inr (11, [.ref p0, .ref p1, .int (nI (min (hm + 1) 5)), .ref p3, .int i4, .ref p5, .int i6, .int i7, .int i8, .int i9, .ref p10, .int i11, .ref p12, .ref p13, .ref p14, .int (nI (ftCF w).1), .ref p16, .ref p17, .int (nI (ftCG w).1), .ref p19, .ref p20, .ref p21, .ref p22, .int i23, .int i24, .ref p25, .ref p26, .ref p27, .ref p28, .ref p29, .ref p30, .ref p31, .ref p32])), (p0, .inl (cI, 1439, .inl (upd g104_p0 ((59 + (460 * (ftKk w))) + x) (ftCV w x)))), (p12, .inl (cI, 460, .inl (u5 12))), (p13, .inl (cI, 460, .inl (u5 13))), (p14, .inl (cI, 460, .inl (u5 14))), (p16, .inl (cI, 11, .inl (u5 16))), (p17, .inl (cI, 11, .inl (u5 17))), (p19, .inl (cI, 55, .inl (u5 19))), (p20, .inl (cI, 55, .inl (u5 20))), (p21, .inl (cI, 55, .inl (u5 21))), (p22, .inl (cI, 55, .inl (u5 22))), (p1, .inl (cI, 7195, .inl (ftPush w z hm)))] := hD
                refine lv_iinc (v := nI (x + 1)) (lv' := [(2, .int (nI (x + 1))), (0, .ref m0), (1, .int (nI (59 + (460 * (ftKk w)))))]) hx hb dX11_keep_125 hl (k := 2) rfl (ft_inc x) (by decide) rfl (fun ls hl => ?_)
                refine lv_goto (tgt := 104) hx hb dX11_keep_128 (by decide) ?_
                exact ih104 (x + 1) (nI (x + 1)) (upd g104_p0 ((59 + (460 * (ftKk w))) + x) (ftCV w x)) (by omega) (by omega) (by first | rfl | assumption) (by rw [eg104_p0]; exact ftSeg_s) _ _ hP hD hS ls (lv_sub hl [1, 2, 0] rfl)
          exact lp104 _ 0 0 (upd g50_p0 55 2) (Nat.lt_succ_self _) (by omega) (by rfl) (by first | (rw [hks]; exact ftSeg_0 _ _ _) | (rw [ftKs, if_pos hck, eg50_p0, show j = 979 by omega]; exact ftSeg_0 _ _ _)) _ _ hP hD hS ls (lv_sub hl [2, 1, 0] rfl)
        · have c54n : j < 979 := ft_nleN (by omega) (by omega) c54
          refine lv_aload_n hx hb dX11_keep_57 rfl (lv_at hl 0 rfl) ?_
          refine va_get (D := D) (ci := 11) (v := .ref p0) (C := RX11) (T := TX11) (N := 33) hx hb hts (by decide +kernel) hown hK hP 0 rfl rfl 0 (by decide) (hts (.fieldLink RX11 7 "FiberTraceModel" "now" "[I") (by decide +kernel)) (fun _ h9 => h9) rfl dX11_keep_58 ?_
          refine lv_iload_n hx hb dX11_keep_61 rfl (lv_at hl 1 rfl) ?_
          refine lv_aload_n hx hb dX11_keep_62 rfl (lv_at hl 0 rfl) ?_
          refine va_get (D := D) (ci := 11) (v := .ref p0) (C := RX11) (T := TX11) (N := 33) hx hb hts (by decide +kernel) hown hK hP 0 rfl rfl 0 (by decide) (hts (.fieldLink RX11 7 "FiberTraceModel" "now" "[I") (by decide +kernel)) (fun _ h9 => h9) rfl dX11_keep_63 ?_
          refine lv_iload_n hx hb dX11_keep_66 rfl (lv_at hl 1 rfl) ?_
          refine lv_sipush (v := 460) hx hb dX11_keep_67 (by decide) ?_
          refine lv_iadd hx hb dX11_keep_70 ?_
          refine ft_top (y := nI (j + 460)) (ft_addN j 460) ?_
          refine va_iald hx hb hK hP 1 0 rfl rfl (vp_in_nI (by omega) (by omega)) dX11_keep_71 ?_
          refine ft_top (y := g50_p0 (j + 460)) (ft_clampN (by omega)) ?_
          refine va_iast hx hb hK hP hD hS 1 0 rfl rfl (vp_in_nI (by omega) (by omega)) dX11_keep_72 (fun H locs hP hD hS => ?_)
          rw [nI_clamp (show j < 2 ^ 31 by omega)] at hP hD
          have hP : va_P D vwCl [(m0, .inr (11, [.ref p0, .ref p1, .int (nI (min (hm + 1) 5)), .ref p3, .int i4, .ref p5, .int i6, .int i7, .int i8, .int i9, .ref p10, .int i11, .ref p12, .ref p13, .ref p14, .int (nI (ftCF w).1), .ref p16, .ref p17, .int (nI (ftCG w).1), .ref p19, .ref p20, .ref p21, .ref p22, .int i23, .int i24, .ref p25, .ref p26, .ref p27, .ref p28, .ref p29, .ref p30, .ref p31, .ref p32])), (p0, .inl (cI, 1439, .inl (upd g50_p0 j (g50_p0 (j + 460))))), (p12, .inl (cI, 460, .inl (u5 12))), (p13, .inl (cI, 460, .inl (u5 13))), (p14, .inl (cI, 460, .inl (u5 14))), (p16, .inl (cI, 11, .inl (u5 16))), (p17, .inl (cI, 11, .inl (u5 17))), (p19, .inl (cI, 55, .inl (u5 19))), (p20, .inl (cI, 55, .inl (u5 20))), (p21, .inl (cI, 55, .inl (u5 21))), (p22, .inl (cI, 55, .inl (u5 22))), (p1, .inl (cI, 7195, .inl (ftPush w z hm)))] H := hP
          have hD : va_D A [(m0, .inr (11, [.ref p0, .ref p1, .int (nI (min (hm + 1) 5)), .ref p3, .int i4, .ref p5, .int i6, .int i7, .int i8, .int i9, .ref p10, .int i11, .ref p12, .ref p13, .ref p14, .int (nI (ftCF w).1), .ref p16, .ref p17, .int (nI (ftCG w).1), .ref p19, .ref p20, .ref p21, .ref p22, .int i23, .int i24, .ref p25, .ref p26, .ref p27, .ref p28, .ref p29, .ref p30, .ref p31, .ref p32])), (p0, .inl (cI, 1439, .inl (upd g50_p0 j (g50_p0 (j + 460))))), (p12, .inl (cI, 460, .inl (u5 12))), (p13, .inl (cI, 460, .inl (u5 13))), (p14, .inl (cI, 460, .inl (u5 14))), (p16, .inl (cI, 11, .inl (u5 16))), (p17, .inl (cI, 11, .inl (u5 17))), (p19, .inl (cI, 55, .inl (u5 19))), (p20, .inl (cI, 55, .inl (u5 20))), (p21, .inl (cI, 55, .inl (u5 21))), (p22, .inl (cI, 55, .inl (u5 22))), (p1, .inl (cI, 7195, .inl (ftPush w z hm)))] := hD
          refine lv_iinc (v := nI (j + 1)) (lv' := [(1, .int (nI (j + 1))), (0, .ref m0)]) hx hb dX11_keep_73 hl (k := 1) rfl (ft_inc j) (by decide) rfl (fun ls hl => ?_)
          refine lv_goto (tgt := 50) hx hb dX11_keep_76 (by decide) ?_
          exact ih50 (j + 1) (nI (j + 1)) (upd g50_p0 j (g50_p0 (j + 460))) (by omega) (by omega) (by omega) (by first | rfl | assumption) (by rw [eg50_p0]; exact ftShK_s hj1) _ _ hP hD hS ls (lv_sub hl [1, 0] rfl)
    exact lp50 _ 59 59 (upd (upd w 56 (w 57)) 57 (w 58)) (Nat.lt_succ_self _) (by omega) (by omega) (by rfl) (by exact ftShK_0 _) _ _ hP hD hS ls (lv_sub hl [1, 0] rfl)
end
section
/-! what lies outside the worlds: texts, tables of the class -/
def ftLe : List Nat := [6, 11, 3, 6, 9, 6]
def ftBy : List (List Int32) := [[108, 101, 110, 103, 116, 104], [97, 116, 116, 101, 110, 117, 97, 116, 105, 111, 110], [101, 110, 100], [115, 112, 108, 105, 99, 101], [99, 111, 110, 110, 101, 99, 116, 111, 114], [99, 104, 97, 110, 103, 101]]
def ftNi : List Nat := [97, 98, 100, 102, 104, 106]
def ftNt : List String := ["length", "attenuation", "end", "splice", "connector", "change"]
def ftTbs : List (List Int32) := [[1, 100, 0, 0, 1, 0, 10, 5, 0, 0, 0], [20, 5000, 40000, 400, 32, 65535, 5000, 2000, 40000, 20, 2000], [5, 1500, 9000, 0, 4, 1, 600, 60, 8000, 3, 150]]
def ftTb (k : Nat) : Nat → Int32 := fun j => (ftTbs.getD k []).getD j 0
def ftTn9 : List String := ["LEAST_VALUES", "GREATEST_VALUES", "FIRST_VALUES"]
def ftSt (sK sV : Nat → Nat) (A : Nat → Prop) (U : State) (H : Heap) : Prop :=
  vk_S 6 ftLe ftBy sK sV A U H ∧ va_Z "java/lang/String" "COMPACT_STRINGS" "Z" (.int 1) A U H ∧ va_Zq "jdk/internal/util/Preconditions" "SIOOBE_FORMATTER" "Ljava/util/function/BiFunction;" A U H ∧ (∀ i, i < 6 → vk_R RX5 (ftNi.getD i 0) (ftNt.getD i "") (sK i) U) ∧ (∀ k, k < 3 → va_T .int (sV (6 + k)) 11 (fun j => .int (ftTb k j)) A U H) ∧ ∀ k, k < 3 → va_Z "FiberTrace" (ftTn9.getD k "") "[I" (.ref (sV (6 + k))) A U H
theorem ftSt.go {sK sV : Nat → Nat} {A B : Nat → Prop} {s U : State} {H : Heap} {locs : List Loc} (h : ftSt sK sV A s s.heap) (hS : va_S A s.heap H locs) (hB : ∀ q, B q → A q) (hU : U.heap = H) (hW : s.WarmedH U.vm) : ftSt sK sV B U U.heap := by
  obtain ⟨h1, h2, h3, h4, h5, h6⟩ := h
  rw [hU]
  exact ⟨vk_S.moved hW.alike ((h1.kept hS.2.1).narrow hB), va_Z.moved hW.alike ((h2.kept hS.2.1).narrow hB), va_Zq.moved hW.alike ((h3.kept hS.2.1).narrow hB), fun i hi => vk_R.warm hW (h4 i hi), fun k hk => va_T.moved hW.alike (((h5 k hk).kept hS.2.1).narrow hB), fun k hk => va_Z.moved hW.alike (((h6 k hk).kept hS.2.1).narrow hB)⟩
theorem ftSt.call {sK sV : Nat → Nat} {A : Nat → Prop} {U : State} {g : JFrame} {mk : MethodId} {a : Array Value} (h : ftSt sK sV A U U.heap) : ftSt sK sV A (U.calling g mk a) (U.calling g mk a).heap := by
  obtain ⟨h1, h2, h3, h4, h5, h6⟩ := h
  have al : U.vm.Alike (U.calling g mk a).vm := Vm.Alike.refl U.vm
  exact ⟨vk_S.moved al h1, va_Z.moved al h2, va_Zq.moved al h3, fun i hi => vk_R.same (u := U) rfl (h4 i hi), fun k hk => va_T.moved al (h5 k hk), fun k hk => va_Z.moved al (h6 k hk)⟩
abbrev ftROS (D : va_G) (cI cS : ClassId) (sK sV : Nat → Nat) (av : List Value) (ws : va_W) : Array Value → State → Prop := va_Pc av (fun U => va_P D vwCl ws U.heap ∧ ftK D cI cS U ∧ ftSt sK sV (fun _ => False) U U.heap)
abbrev ftRWS (D : va_G) (cI cS : ClassId) (sK sV : Nat → Nat) (av : List Value) (ws : va_W) (sz : Nat) : Array Value → State → Prop := va_Pc av (fun U => U.heap.size = sz ∧ va_P D vwCl ws U.heap ∧ ftK D cI cS U ∧ va_D (fun _ => True) ws ∧ ftSt sK sV (va_A ws sz) U U.heap)
theorem ft_blindROS {D : va_G} {cI cS : ClassId} {sK sV : Nat → Nat} {av : List Value} {ws : va_W} : FrameBlind (ftROS D cI cS sK sV av ws) := fun a U g mk q => ⟨q.1, q.2.1, q.2.2.1.call, q.2.2.2.call⟩
theorem ft_blindRWS {D : va_G} {cI cS : ClassId} {sK sV : Nat → Nat} {av : List Value} {ws : va_W} {sz : Nat} : FrameBlind (ftRWS D cI cS sK sV av ws sz) := fun a U g mk q => ⟨q.1, q.2.1, q.2.2.1, q.2.2.2.1.call, q.2.2.2.2.1, q.2.2.2.2.2.call⟩
/-- the end of one that writes nothing and answers nothing -/
def ftSv : Array Value → State → Outcome → State → Prop := fun _ st oc t => oc = .returned none ∧ t.heap = st.heap
theorem ft_csv {p : Program} {l : Launch} {e : Env} {R : Room} {s : State} {m : MethodId} {args : Array Value} {below : List Frame} {meth : Method} {c : Code} {H : Heap} {locs : List Loc} {cells slots : Nat} {Q : State → Prop} {a : Array Value} {st0 rest : List Value} {pc : Nat} {ls : Array Slot} (hr : va_Run p l e R s m args below meth c H locs cells slots 0 0 (F0 m pc ls st0) rest (ftSv a) (fun _ => False))
    (kk : W p l e R s m args below meth c H locs cells slots Q (F0 m (pc + 3) ls rest)) : W p l e R s m args below meth c H locs cells slots Q (F0 m pc ls st0) := by
  intro T hT X
  obtain ⟨v, st₀, t, T', L, h0, X', hL, e1, -, ⟨hv, hh⟩, st⟩ := hr T hT X
  cases hv
  obtain ⟨t2, a1, b1⟩ := kk T' (by rw [e1, hh, h0]) (Stand.forget X' (fun q h => (hL q h).elim))
  exact ⟨t2, st t2 a1, b1⟩
section FTST
variable {D : va_G} {cI cS : ClassId} {sK sV : Nat → Nat} {As : List Value} {ws wc : va_W} {s : State} {H : Heap} {A : Nat → Prop} {locs : List Loc}
theorem ft_preROS (hP : va_P D vwCl ws H) (hK : ftK D cI cS s) (hSt : ftSt sK sV A s s.heap) (hS : va_S A s.heap H locs) (is : List Nat) (hs : is.filterMap (fun i => ws[i]?) = wc) : PreS s H (ftROS D cI cS sK sV As wc) As :=
  ⟨ft_blindROS, fun U hU hW => ⟨rfl, by rw [hU]; exact hP.sub is hs, hK.warm hW, hSt.go hS (fun _ h => h.elim) hU hW⟩⟩
theorem ft_preROVS {a q0 ci : Nat} {q : vw_C} {fs : List Value} (hP : va_P D vwCl ws H) (hK : ftK D cI cS s) (hSt : ftSt sK sV A s s.heap) (hS : va_S A s.heap H locs) (is : List Nat) (hs : is.filterMap (fun i => ws[i]?) = wc) (hc : vwCl[ci]? = some q) (he : ws[q0]? = some (a, .inr (ci, fs))) : PreV s H q.1 a (ftROS D cI cS sK sV (.ref a :: As) wc) As :=
  ⟨ft_blindROS, va_recv hK.1 hP hc he, fun U hU hW => ⟨rfl, by rw [hU]; exact hP.sub is hs, hK.warm hW, hSt.go hS (fun _ h => h.elim) hU hW⟩⟩
theorem ft_preJ {a : Nat} {C : String} (hP : va_P D vwCl ws H) (hK : ftK D cI cS s) (hSt : ftSt sK sV A s s.heap) (hS : va_S A s.heap H locs) (hr : ∃ cell : Cell, H[a]? = some cell ∧ cell.vm.isStatics = false ∧ s.vm.findClass C = some cell.cls) (is : List Nat) (hs : is.filterMap (fun i => ws[i]?) = wc) : PreV s H C a (ftROS D cI cS sK sV (.ref a :: As) wc) As :=
  ⟨ft_blindROS, hr, fun U hU hW => ⟨rfl, by rw [hU]; exact hP.sub is hs, hK.warm hW, hSt.go hS (fun _ h => h.elim) hU hW⟩⟩
theorem ft_preRWS (hP : va_P D vwCl ws H) (hD : va_D A ws) (hK : ftK D cI cS s) (hSt : ftSt sK sV A s s.heap) (hS : va_S A s.heap H locs) (hA : ∀ q, s.heap.size ≤ q → A q) (is : List Nat) (hs : is.filterMap (fun i => ws[i]?) = wc) (hn : va_nd is = true) (hm : is.map (fun i => ws[i]?) = wc.map some) : PreS s H (ftRWS D cI cS sK sV As wc H.size) As :=
  ⟨ft_blindRWS, fun U hU hW => ⟨rfl, by rw [hU], by rw [hU]; exact hP.sub is hs, hK.warm hW, (hD.sub is hn hm).weaken (fun _ _ _ _ => trivial), hSt.go hS (va_free hD hS hA is hm) hU hW⟩⟩
theorem ft_preRWVS {a q0 ci : Nat} {q : vw_C} {fs : List Value} (hP : va_P D vwCl ws H) (hD : va_D A ws) (hK : ftK D cI cS s) (hSt : ftSt sK sV A s s.heap) (hS : va_S A s.heap H locs) (hA : ∀ q, s.heap.size ≤ q → A q) (is : List Nat) (hs : is.filterMap (fun i => ws[i]?) = wc) (hn : va_nd is = true) (hm : is.map (fun i => ws[i]?) = wc.map some) (hc : vwCl[ci]? = some q) (he : ws[q0]? = some (a, .inr (ci, fs))) : PreV s H q.1 a (ftRWS D cI cS sK sV (.ref a :: As) wc H.size) As :=
  ⟨ft_blindRWS, va_recv hK.1 hP hc he, fun U hU hW => ⟨rfl, by rw [hU], by rw [hU]; exact hP.sub is hs, hK.warm hW, (hD.sub is hn hm).weaken (fun _ _ _ _ => trivial), hSt.go hS (va_free hD hS hA is hm) hU hW⟩⟩
end FTST
/-- a text's letters are those of the reference's words -/
theorem ftBy_lt : ∀ j, j < 6 → ∀ t, t < ftLe.getD j 0 → (ftBy.getD j []).getD t 0 &&& 255 = ftLt (nI (100 * j + t)) ∧ (((ftBy.getD j []).getD t 0 &&& 255).toUInt32 % 65536).toInt32 = (ftBy.getD j []).getD t 0 &&& 255 ∧ narrow .char (.int ((ftBy.getD j []).getD t 0 &&& 255)) = .int ((ftBy.getD j []).getD t 0 &&& 255) := by decide +kernel
theorem ftLe_ws : ∀ j, j < 6 → ftLe.getD j 0 = ftWs j := by decide +kernel
theorem ftTb_le : ∀ k, k < 11 → ftTb 0 k = ftLeast (nI k) ∧ ftTb 1 k = ftMost (nI k) ∧ ftTb 2 k = ftFirst (nI k) := by decide +kernel
set_option maxHeartbeats 4000000 in
set_option maxRecDepth 100000 in
theorem c_J0_coder_7d493 (l : Launch) (D : va_G) (cI cS : ClassId) (sK sV : Nat → Nat) (j : Nat) (hj : j < 6) : Met l yJ0_coder_7d493 wsJ0_coder_7d493 ({ frames := 0, cells := 0, slots := 0, locals := 0 }) (ftROS D cI cS sK sV [.ref (sK j)] []) (vp_Si (fun o9 => o9 = 0)) 0 0 (fun _ => False) := by
  refine ft_ofWF (cc := cJ0_coder_7d493) (maxL := 1) (ret := (some .byte)) (by decide +kernel) rfl ?_
  intro p e s m args below meth c s₁ B hml hv
  obtain ⟨rfl, hP, hKK, hSt⟩ := hv
  have hS : va_S (fun _ => False) s.heap s.heap [] := va_S.rf
  have hK := hKK.1
  have hx := B.exec
  have hb := B.bytes
  have hr := B.returns
  have hts := atoms_spec (ws := wsJ0_coder_7d493) B.pre
  have hown : s.vm.findClass RJ0 = some m.cls := findClass_of_methodNamed B.named
  have hlocks := B.notSynchronized
  have hP : va_P D vwCl [] s.heap := hP
  have hl := lv_entry ([.ref (sK j)]) (n := 1) (Nat.le_of_ble_eq_true rfl)
  rw [lg_entry_eq]
  generalize (lg_sl ([.ref (sK j)]) ++ List.replicate (1 - (lg_sl ([.ref (sK j)])).length) Slot.unset).toArray = ls at hl ⊢
  have hl : lv_has ls 1 [(0, .ref (sK j))] := hl
  refine va_gets hx hb hSt.2.1 hS hown (hts (.fieldLink RJ0 38 "java/lang/String" "COMPACT_STRINGS" "Z") (by decide +kernel)) (fun _ h9 => h9) dJ0_coder_7d493_0 ?_
  refine lv_if_eq (tgt := 13) hx hb dJ0_coder_7d493_3 (by decide) (fun c3 => ?_) (fun c3 => ?_)
  · exact absurd c3 (by decide)
  · refine lv_aload_n hx hb dJ0_coder_7d493_6 rfl (lv_at hl 0 rfl) ?_
    refine vk_getf hx hb (hSt.1.1 j hj).2.1 hS hown (hts (.fieldLink RJ0 15 "java/lang/String" "coder" "B") (by decide +kernel)) (fun _ h9 => h9) dJ0_coder_7d493_7 ?_
    refine lv_goto (tgt := 14) hx hb dJ0_coder_7d493_10 (by decide) ?_
    exact W.zret (v := 0) hx hb hr (by rfl) (fun t ht hW => ⟨0, rfl, rfl, ht⟩) (fun _ h9 => absurd h9 List.not_mem_nil) dJ0_coder_7d493_14
set_option maxHeartbeats 4000000 in
set_option maxRecDepth 100000 in
theorem c_J0_length_8abf5 (l : Launch) (D : va_G) (cI cS : ClassId) (sK sV : Nat → Nat) (j : Nat) (hj : j < 6) : Met l yJ0_length_8abf5 wsJ0_length_8abf5 ({ frames := 1, cells := 0, slots := 0, locals := 20 }) (ftROS D cI cS sK sV [.ref (sK j)] []) (vp_Si (fun o9 => o9 = nI (ftWs j))) 0 0 (fun _ => False) := by
  refine ft_ofWF (cc := cJ0_length_8abf5) (maxL := 1) (ret := (some .int)) (by decide +kernel) rfl ?_
  intro p e s m args below meth c s₁ B hml hv
  obtain ⟨rfl, hP, hKK, hSt⟩ := hv
  have hS : va_S (fun _ => False) s.heap s.heap [] := va_S.rf
  have hK := hKK.1
  have hx := B.exec
  have hb := B.bytes
  have hr := B.returns
  have hts := atoms_spec (ws := wsJ0_length_8abf5) B.pre
  have hown : s.vm.findClass RJ0 = some m.cls := findClass_of_methodNamed B.named
  have hlocks := B.notSynchronized
  have hP : va_P D vwCl [] s.heap := hP
  have hl := lv_entry ([.ref (sK j)]) (n := 1) (Nat.le_of_ble_eq_true rfl)
  rw [lg_entry_eq]
  generalize (lg_sl ([.ref (sK j)]) ++ List.replicate (1 - (lg_sl ([.ref (sK j)])).length) Slot.unset).toArray = ls at hl ⊢
  have hl : lv_has ls 1 [(0, .ref (sK j))] := hl
  refine lv_aload_n hx hb dJ0_length_8abf5_0 rfl (lv_at hl 0 rfl) ?_
  refine vk_getf hx hb (hSt.1.1 j hj).2.2.1 hS hown (hts (.fieldLink RJ0 9 "java/lang/String" "value" "[B") (by decide +kernel)) (fun _ h9 => h9) dJ0_length_8abf5_1 ?_
  refine va_tlen (v := nI (ftWs j)) hx hb (hSt.1.1 j hj).2.2.2 hS (congrArg Int32.ofNat (ftLe_ws j hj)) dJ0_length_8abf5_4 ?_
  refine lv_aload_n hx hb dJ0_length_8abf5_5 rfl (lv_at hl 0 rfl) ?_
  refine ft_csi (r := 0) (va_runV (C := RJ0) (As := []) (rest := [.int (nI (ftWs j))]) ⟨hx, hb, hml, hown, hts⟩ (c_J0_coder_7d493 l D cI cS sK sV j (by first | assumption | omega)) (cwV 0 hts gJ0_length_8abf5_J0_coder_7d493 rfl rfl rfl (by decide +kernel) ⟨Nat.le_of_ble_eq_true rfl, Nat.le_of_ble_eq_true rfl⟩) (ft_preJ (a := sK j) hP hKK hSt hS (vk_recv hSt.1 (by omega) hS) [] rfl) rfl rfl hl.1 rfl (lv_room (Nat.le_of_ble_eq_true rfl)) dJ0_length_8abf5_6 ⟨Nat.le_of_ble_eq_true rfl, Nat.le_of_ble_eq_true rfl⟩) ?_
  refine lv_ishr hx hb dJ0_length_8abf5_9 ?_
  refine ft_top (y := nI (ftWs j)) (sc_shr0 (Nat.lt_of_le_of_lt (ftWs_le j) (by omega))) ?_
  exact W.iret (v := nI (ftWs j)) hx hb hr (fun t ht hW => ⟨nI (ftWs j), rfl, rfl, ht⟩) (fun _ h9 => absurd h9 List.not_mem_nil) dJ0_length_8abf5_10
set_option maxHeartbeats 4000000 in
set_option maxRecDepth 100000 in
theorem c_J0_isLatin1_aae02 (l : Launch) (D : va_G) (cI cS : ClassId) (sK sV : Nat → Nat) (j : Nat) (hj : j < 6) : Met l yJ0_isLatin1_aae02 wsJ0_isLatin1_aae02 ({ frames := 0, cells := 0, slots := 0, locals := 0 }) (ftROS D cI cS sK sV [.ref (sK j)] []) (vp_Si (fun o9 => o9 = 1)) 0 0 (fun _ => False) := by
  refine ft_ofWF (cc := cJ0_isLatin1_aae02) (maxL := 1) (ret := (some .boolean)) (by decide +kernel) rfl ?_
  intro p e s m args below meth c s₁ B hml hv
  obtain ⟨rfl, hP, hKK, hSt⟩ := hv
  have hS : va_S (fun _ => False) s.heap s.heap [] := va_S.rf
  have hK := hKK.1
  have hx := B.exec
  have hb := B.bytes
  have hr := B.returns
  have hts := atoms_spec (ws := wsJ0_isLatin1_aae02) B.pre
  have hown : s.vm.findClass RJ0 = some m.cls := findClass_of_methodNamed B.named
  have hlocks := B.notSynchronized
  have hP : va_P D vwCl [] s.heap := hP
  have hl := lv_entry ([.ref (sK j)]) (n := 1) (Nat.le_of_ble_eq_true rfl)
  rw [lg_entry_eq]
  generalize (lg_sl ([.ref (sK j)]) ++ List.replicate (1 - (lg_sl ([.ref (sK j)])).length) Slot.unset).toArray = ls at hl ⊢
  have hl : lv_has ls 1 [(0, .ref (sK j))] := hl
  refine va_gets hx hb hSt.2.1 hS hown (hts (.fieldLink RJ0 38 "java/lang/String" "COMPACT_STRINGS" "Z") (by decide +kernel)) (fun _ h9 => h9) dJ0_isLatin1_aae02_0 ?_
  refine lv_if_eq (tgt := 17) hx hb dJ0_isLatin1_aae02_3 (by decide) (fun c3 => ?_) (fun c3 => ?_)
  · exact absurd c3 (by decide)
  · refine lv_aload_n hx hb dJ0_isLatin1_aae02_6 rfl (lv_at hl 0 rfl) ?_
    refine vk_getf hx hb (hSt.1.1 j hj).2.1 hS hown (hts (.fieldLink RJ0 15 "java/lang/String" "coder" "B") (by decide +kernel)) (fun _ h9 => h9) dJ0_isLatin1_aae02_7 ?_
    refine lv_if_ne (tgt := 17) hx hb dJ0_isLatin1_aae02_10 (by decide) (fun c10 => ?_) (fun c10 => ?_)
    · exact absurd rfl c10
    · refine lv_iconst (v := 1) hx hb dJ0_isLatin1_aae02_13 (by decide) ?_
      refine lv_goto (tgt := 18) hx hb dJ0_isLatin1_aae02_14 (by decide) ?_
      exact W.zret (v := 1) hx hb hr (by rfl) (fun t ht hW => ⟨1, rfl, rfl, ht⟩) (fun _ h9 => absurd h9 List.not_mem_nil) dJ0_isLatin1_aae02_18
set_option maxHeartbeats 4000000 in
set_option maxRecDepth 100000 in
theorem c_J3_checkIndex_8e157n (l : Launch) (D : va_G) (cI cS : ClassId) (i n : Nat) (hin : i < n) (hn : n < 1000) : Met l yJ3_checkIndex_8e157 wsJ3_checkIndex_8e157 ({ frames := 1, cells := 0, slots := 0, locals := 30 }) (ftRO D cI cS [.int (nI i), .int (nI n), .null] []) (vp_Si (fun o9 => o9 = nI i)) 0 0 (fun _ => False) := by
  refine ft_ofWF (cc := cJ3_checkIndex_8e157) (maxL := 3) (ret := (some .int)) (by decide +kernel) rfl ?_
  intro p e s m args below meth c s₁ B hml hv
  obtain ⟨rfl, hP, hKK⟩ := hv
  have hK := hKK.1
  have hx := B.exec
  have hb := B.bytes
  have hr := B.returns
  have hts := atoms_spec (ws := wsJ3_checkIndex_8e157) B.pre
  have hown : s.vm.findClass RJ3 = some m.cls := findClass_of_methodNamed B.named
  have hlocks := B.notSynchronized
  have hP : va_P D vwCl [] s.heap := hP
  have hl := lv_entry ([.int (nI i), .int (nI n), .null]) (n := 3) (Nat.le_of_ble_eq_true rfl)
  rw [lg_entry_eq]
  generalize (lg_sl ([.int (nI i), .int (nI n), .null]) ++ List.replicate (3 - (lg_sl ([.int (nI i), .int (nI n), .null])).length) Slot.unset).toArray = ls at hl ⊢
  have hl : lv_has ls 3 [(0, .int (nI i)), (1, .int (nI n)), (2, .null)] := hl
  refine lv_iload_n hx hb dJ3_checkIndex_8e157_0 rfl (lv_at hl 0 rfl) ?_
  refine lv_if_lt (tgt := 9) hx hb dJ3_checkIndex_8e157_1 (by decide) (fun c1 => ?_) (fun c1 => ?_)
  · exact absurd c1 (nI_pos (by omega))
  · refine lv_iload_n hx hb dJ3_checkIndex_8e157_4 rfl (lv_at hl 0 rfl) ?_
    refine lv_iload_n hx hb dJ3_checkIndex_8e157_5 rfl (lv_at hl 1 rfl) ?_
    refine lv_icmp_lt (tgt := 16) hx hb dJ3_checkIndex_8e157_6 (by decide) (fun c6 => ?_) (fun c6 => ?_)
    · have c6n : i < n := ft_ltN (by omega) (by omega) c6
      refine lv_iload_n hx hb dJ3_checkIndex_8e157_16 rfl (lv_at hl 0 rfl) ?_
      exact W.iret (v := nI i) hx hb hr (fun t ht hW => ⟨nI i, rfl, rfl, ht⟩) (fun _ h9 => absurd h9 List.not_mem_nil) dJ3_checkIndex_8e157_17
    · have c6n : n ≤ i := ft_nltN (by omega) (by omega) c6
      exact absurd c6n (by omega)
set_option maxHeartbeats 4000000 in
set_option maxRecDepth 100000 in
theorem c_J3_checkIndex_8e157r (l : Launch) (D : va_G) (cI cS : ClassId) (i n t9 : Nat) (hin : i < n) (hn : n < 1000) : Met l yJ3_checkIndex_8e157 wsJ3_checkIndex_8e157 ({ frames := 1, cells := 0, slots := 0, locals := 30 }) (ftRO D cI cS [.int (nI i), .int (nI n), .ref t9] []) (vp_Si (fun o9 => o9 = nI i)) 0 0 (fun _ => False) := by
  refine ft_ofWF (cc := cJ3_checkIndex_8e157) (maxL := 3) (ret := (some .int)) (by decide +kernel) rfl ?_
  intro p e s m args below meth c s₁ B hml hv
  obtain ⟨rfl, hP, hKK⟩ := hv
  have hK := hKK.1
  have hx := B.exec
  have hb := B.bytes
  have hr := B.returns
  have hts := atoms_spec (ws := wsJ3_checkIndex_8e157) B.pre
  have hown : s.vm.findClass RJ3 = some m.cls := findClass_of_methodNamed B.named
  have hlocks := B.notSynchronized
  have hP : va_P D vwCl [] s.heap := hP
  have hl := lv_entry ([.int (nI i), .int (nI n), .ref t9]) (n := 3) (Nat.le_of_ble_eq_true rfl)
  rw [lg_entry_eq]
  generalize (lg_sl ([.int (nI i), .int (nI n), .ref t9]) ++ List.replicate (3 - (lg_sl ([.int (nI i), .int (nI n), .ref t9])).length) Slot.unset).toArray = ls at hl ⊢
  have hl : lv_has ls 3 [(0, .int (nI i)), (1, .int (nI n)), (2, .ref t9)] := hl
  refine lv_iload_n hx hb dJ3_checkIndex_8e157_0 rfl (lv_at hl 0 rfl) ?_
  refine lv_if_lt (tgt := 9) hx hb dJ3_checkIndex_8e157_1 (by decide) (fun c1 => ?_) (fun c1 => ?_)
  · exact absurd c1 (nI_pos (by omega))
  · refine lv_iload_n hx hb dJ3_checkIndex_8e157_4 rfl (lv_at hl 0 rfl) ?_
    refine lv_iload_n hx hb dJ3_checkIndex_8e157_5 rfl (lv_at hl 1 rfl) ?_
    refine lv_icmp_lt (tgt := 16) hx hb dJ3_checkIndex_8e157_6 (by decide) (fun c6 => ?_) (fun c6 => ?_)
    · have c6n : i < n := ft_ltN (by omega) (by omega) c6
      refine lv_iload_n hx hb dJ3_checkIndex_8e157_16 rfl (lv_at hl 0 rfl) ?_
      exact W.iret (v := nI i) hx hb hr (fun t ht hW => ⟨nI i, rfl, rfl, ht⟩) (fun _ h9 => absurd h9 List.not_mem_nil) dJ3_checkIndex_8e157_17
    · have c6n : n ≤ i := ft_nltN (by omega) (by omega) c6
      exact absurd c6n (by omega)
set_option maxHeartbeats 4000000 in
set_option maxRecDepth 100000 in
theorem c_J0_checkIndex_df160 (l : Launch) (D : va_G) (cI cS : ClassId) (sK sV : Nat → Nat) (i n : Nat) (hin : i < n) (hn : n < 1000) : Met l yJ0_checkIndex_df160 wsJ0_checkIndex_df160 ({ frames := 2, cells := 0, slots := 0, locals := 52 }) (ftROS D cI cS sK sV [.int (nI i), .int (nI n)] []) (ftSv) 0 0 (fun _ => False) := by
  refine ft_ofWF (cc := cJ0_checkIndex_df160) (maxL := 2) (ret := none) (by decide +kernel) rfl ?_
  intro p e s m args below meth c s₁ B hml hv
  obtain ⟨rfl, hP, hKK, hSt⟩ := hv
  have hS : va_S (fun _ => False) s.heap s.heap [] := va_S.rf
  have hK := hKK.1
  have hx := B.exec
  have hb := B.bytes
  have hr := B.returns
  have hts := atoms_spec (ws := wsJ0_checkIndex_df160) B.pre
  have hown : s.vm.findClass RJ0 = some m.cls := findClass_of_methodNamed B.named
  have hlocks := B.notSynchronized
  have hP : va_P D vwCl [] s.heap := hP
  have hl := lv_entry ([.int (nI i), .int (nI n)]) (n := 2) (Nat.le_of_ble_eq_true rfl)
  rw [lg_entry_eq]
  generalize (lg_sl ([.int (nI i), .int (nI n)]) ++ List.replicate (2 - (lg_sl ([.int (nI i), .int (nI n)])).length) Slot.unset).toArray = ls at hl ⊢
  have hl : lv_has ls 2 [(0, .int (nI i)), (1, .int (nI n))] := hl
  refine lv_iload_n hx hb dJ0_checkIndex_df160_0 rfl (lv_at hl 0 rfl) ?_
  refine lv_iload_n hx hb dJ0_checkIndex_df160_1 rfl (lv_at hl 1 rfl) ?_
  rcases hSt.2.2.1 with hz9 | ⟨t9, hz9⟩
  · refine va_gets hx hb hz9 hS hown (hts (.fieldLink RJ0 1053 "jdk/internal/util/Preconditions" "SIOOBE_FORMATTER" "Ljava/util/function/BiFunction;") (by decide +kernel)) (fun _ h9 => h9) dJ0_checkIndex_df160_2 ?_
    refine ft_csi (r := nI i) (va_runS (As := [.int (nI i), .int (nI n), .null]) (rest := []) ⟨hx, hb, hml, hown, hts⟩ (c_J3_checkIndex_8e157n l D cI cS i n (by first | assumption | omega) (by first | assumption | omega)) (va_cwS 3 hts gJ0_checkIndex_df160_J3_checkIndex_8e157 rfl rfl rfl (by decide +kernel) ⟨Nat.le_of_ble_eq_true rfl, Nat.le_of_ble_eq_true rfl⟩) (ft_preRO hP hKK [] rfl) rfl rfl hl.1 rfl (lv_room (Nat.le_of_ble_eq_true rfl)) dJ0_checkIndex_df160_5 ⟨Nat.le_of_ble_eq_true rfl, Nat.le_of_ble_eq_true rfl⟩) ?_
    refine lv_pop hx hb dJ0_checkIndex_df160_8 rfl ?_
    exact W.vret hx hb hr (fun t ht hW => ⟨rfl, ht⟩) (fun _ h9 => absurd h9 List.not_mem_nil) dJ0_checkIndex_df160_9
  · refine va_gets hx hb hz9 hS hown (hts (.fieldLink RJ0 1053 "jdk/internal/util/Preconditions" "SIOOBE_FORMATTER" "Ljava/util/function/BiFunction;") (by decide +kernel)) (fun _ h9 => h9) dJ0_checkIndex_df160_2 ?_
    refine ft_csi (r := nI i) (va_runS (As := [.int (nI i), .int (nI n), .ref t9]) (rest := []) ⟨hx, hb, hml, hown, hts⟩ (c_J3_checkIndex_8e157r l D cI cS i n t9 (by first | assumption | omega) (by first | assumption | omega)) (va_cwS 3 hts gJ0_checkIndex_df160_J3_checkIndex_8e157 rfl rfl rfl (by decide +kernel) ⟨Nat.le_of_ble_eq_true rfl, Nat.le_of_ble_eq_true rfl⟩) (ft_preRO hP hKK [] rfl) rfl rfl hl.1 rfl (lv_room (Nat.le_of_ble_eq_true rfl)) dJ0_checkIndex_df160_5 ⟨Nat.le_of_ble_eq_true rfl, Nat.le_of_ble_eq_true rfl⟩) ?_
    refine lv_pop hx hb dJ0_checkIndex_df160_8 rfl ?_
    exact W.vret hx hb hr (fun t ht hW => ⟨rfl, ht⟩) (fun _ h9 => absurd h9 List.not_mem_nil) dJ0_checkIndex_df160_9
set_option maxHeartbeats 4000000 in
set_option maxRecDepth 100000 in
theorem c_J1_charAt_3b067 (l : Launch) (D : va_G) (cI cS : ClassId) (sK sV : Nat → Nat) (j tq : Nat) (hj : j < 6) (htq : tq < ftWs j) : Met l yJ1_charAt_3b067 wsJ1_charAt_3b067 ({ frames := 3, cells := 0, slots := 0, locals := 73 }) (ftROS D cI cS sK sV [.ref (sV j), .int (nI tq)] []) (vp_Si (fun o9 => o9 = ftLt (nI (100 * j + tq)))) 0 0 (fun _ => False) := by
  refine ft_ofWF (cc := cJ1_charAt_3b067) (maxL := 2) (ret := (some .char)) (by decide +kernel) rfl ?_
  intro p e s m args below meth c s₁ B hml hv
  obtain ⟨rfl, hP, hKK, hSt⟩ := hv
  have hS : va_S (fun _ => False) s.heap s.heap [] := va_S.rf
  have hK := hKK.1
  have hx := B.exec
  have hb := B.bytes
  have hr := B.returns
  have hts := atoms_spec (ws := wsJ1_charAt_3b067) B.pre
  have hown : s.vm.findClass RJ1 = some m.cls := findClass_of_methodNamed B.named
  have hlocks := B.notSynchronized
  have hP : va_P D vwCl [] s.heap := hP
  have hl := lv_entry ([.ref (sV j), .int (nI tq)]) (n := 2) (Nat.le_of_ble_eq_true rfl)
  rw [lg_entry_eq]
  generalize (lg_sl ([.ref (sV j), .int (nI tq)]) ++ List.replicate (2 - (lg_sl ([.ref (sV j), .int (nI tq)])).length) Slot.unset).toArray = ls at hl ⊢
  have hl : lv_has ls 2 [(0, .ref (sV j)), (1, .int (nI tq))] := hl
  have hw11 := ftWs_le j
  have ht8 : tq < ftLe.getD j 0 := by rw [ftLe_ws j hj]; exact htq
  refine lv_iload_n hx hb dJ1_charAt_3b067_0 rfl (lv_at hl 1 rfl) ?_
  refine lv_aload_n hx hb dJ1_charAt_3b067_1 rfl (lv_at hl 0 rfl) ?_
  refine va_tlen (v := nI (ftWs j)) hx hb (hSt.1.1 j hj).2.2.2 hS (congrArg Int32.ofNat (ftLe_ws j hj)) dJ1_charAt_3b067_2 ?_
  refine ft_csv (va_runS (As := [.int (nI tq), .int (nI (ftWs j))]) (rest := []) ⟨hx, hb, hml, hown, hts⟩ (c_J0_checkIndex_df160 l D cI cS sK sV tq (ftWs j) (by first | assumption | omega) (by first | assumption | omega)) (va_cwS 2 hts gJ1_charAt_3b067_J0_checkIndex_df160 rfl rfl rfl (by decide +kernel) ⟨Nat.le_of_ble_eq_true rfl, Nat.le_of_ble_eq_true rfl⟩) (ft_preROS hP hKK hSt hS [] rfl) rfl rfl hl.1 rfl (lv_room (Nat.le_of_ble_eq_true rfl)) dJ1_charAt_3b067_3 ⟨Nat.le_of_ble_eq_true rfl, Nat.le_of_ble_eq_true rfl⟩) ?_
  refine lv_aload_n hx hb dJ1_charAt_3b067_6 rfl (lv_at hl 0 rfl) ?_
  refine lv_iload_n hx hb dJ1_charAt_3b067_7 rfl (lv_at hl 1 rfl) ?_
  refine va_tb hx hb (hSt.1.1 j hj).2.2.2 hS (by rw [ftLe_ws j hj]; exact vp_in_nI htq (by omega)) (v := .int ((ftBy.getD j []).getD tq 0)) (by rw [nI_clamp (by omega)]) dJ1_charAt_3b067_8 ?_
  refine lv_sipush (v := 255) hx hb dJ1_charAt_3b067_9 (by decide) ?_
  refine lv_iand hx hb dJ1_charAt_3b067_12 ?_
  refine lv_i2c (v := ((ftBy.getD j []).getD tq 0) &&& 255) hx hb dJ1_charAt_3b067_13 (ftBy_lt j hj tq ht8).2.1 ?_
  exact W.zret (v := ((ftBy.getD j []).getD tq 0) &&& 255) hx hb hr (by exact (ftBy_lt j hj tq ht8).2.2) (fun t ht hW => ⟨((ftBy.getD j []).getD tq 0) &&& 255, rfl, (by show (((ftBy.getD j []).getD tq 0) &&& 255 : Int32) = ftLt (nI (100 * j + tq)); exact (ftBy_lt j hj tq ht8).1), ht⟩) (fun _ h9 => absurd h9 List.not_mem_nil) dJ1_charAt_3b067_14
set_option maxHeartbeats 4000000 in
set_option maxRecDepth 100000 in
theorem c_J0_charAt_5068e (l : Launch) (D : va_G) (cI cS : ClassId) (sK sV : Nat → Nat) (j tq : Nat) (hj : j < 6) (htq : tq < ftWs j) : Met l yJ0_charAt_5068e wsJ0_charAt_5068e ({ frames := 4, cells := 0, slots := 0, locals := 94 }) (ftROS D cI cS sK sV [.ref (sK j), .int (nI tq)] []) (vp_Si (fun o9 => o9 = ftLt (nI (100 * j + tq)))) 0 0 (fun _ => False) := by
  refine ft_ofWF (cc := cJ0_charAt_5068e) (maxL := 2) (ret := (some .char)) (by decide +kernel) rfl ?_
  intro p e s m args below meth c s₁ B hml hv
  obtain ⟨rfl, hP, hKK, hSt⟩ := hv
  have hS : va_S (fun _ => False) s.heap s.heap [] := va_S.rf
  have hK := hKK.1
  have hx := B.exec
  have hb := B.bytes
  have hr := B.returns
  have hts := atoms_spec (ws := wsJ0_charAt_5068e) B.pre
  have hown : s.vm.findClass RJ0 = some m.cls := findClass_of_methodNamed B.named
  have hlocks := B.notSynchronized
  have hP : va_P D vwCl [] s.heap := hP
  have hl := lv_entry ([.ref (sK j), .int (nI tq)]) (n := 2) (Nat.le_of_ble_eq_true rfl)
  rw [lg_entry_eq]
  generalize (lg_sl ([.ref (sK j), .int (nI tq)]) ++ List.replicate (2 - (lg_sl ([.ref (sK j), .int (nI tq)])).length) Slot.unset).toArray = ls at hl ⊢
  have hl : lv_has ls 2 [(0, .ref (sK j)), (1, .int (nI tq))] := hl
  refine lv_aload_n hx hb dJ0_charAt_5068e_0 rfl (lv_at hl 0 rfl) ?_
  refine ft_csi (r := 1) (va_runV (C := RJ0) (As := []) (rest := []) ⟨hx, hb, hml, hown, hts⟩ (c_J0_isLatin1_aae02 l D cI cS sK sV j (by first | assumption | omega)) (cwV 0 hts gJ0_charAt_5068e_J0_isLatin1_aae02 rfl rfl rfl (by decide +kernel) ⟨Nat.le_of_ble_eq_true rfl, Nat.le_of_ble_eq_true rfl⟩) (ft_preJ (a := sK j) hP hKK hSt hS (vk_recv hSt.1 (by omega) hS) [] rfl) rfl rfl hl.1 rfl (lv_room (Nat.le_of_ble_eq_true rfl)) dJ0_charAt_5068e_1 ⟨Nat.le_of_ble_eq_true rfl, Nat.le_of_ble_eq_true rfl⟩) ?_
  refine lv_if_eq (tgt := 16) hx hb dJ0_charAt_5068e_4 (by decide) (fun c4 => ?_) (fun c4 => ?_)
  · exact absurd c4 (by decide)
  · refine lv_aload_n hx hb dJ0_charAt_5068e_7 rfl (lv_at hl 0 rfl) ?_
    refine vk_getf hx hb (hSt.1.1 j hj).2.2.1 hS hown (hts (.fieldLink RJ0 9 "java/lang/String" "value" "[B") (by decide +kernel)) (fun _ h9 => h9) dJ0_charAt_5068e_8 ?_
    refine lv_iload_n hx hb dJ0_charAt_5068e_11 rfl (lv_at hl 1 rfl) ?_
    refine ft_csi (r := ftLt (nI (100 * j + tq))) (va_runS (As := [.ref (sV j), .int (nI tq)]) (rest := []) ⟨hx, hb, hml, hown, hts⟩ (c_J1_charAt_3b067 l D cI cS sK sV j tq (by first | assumption | omega) (by first | assumption | omega)) (va_cwS 2 hts gJ0_charAt_5068e_J1_charAt_3b067 rfl rfl rfl (by decide +kernel) ⟨Nat.le_of_ble_eq_true rfl, Nat.le_of_ble_eq_true rfl⟩) (ft_preROS hP hKK hSt hS [] rfl) rfl rfl hl.1 rfl (lv_room (Nat.le_of_ble_eq_true rfl)) dJ0_charAt_5068e_12 ⟨Nat.le_of_ble_eq_true rfl, Nat.le_of_ble_eq_true rfl⟩) ?_
    exact W.zret (v := ftLt (nI (100 * j + tq))) hx hb hr (by rw [← (ftBy_lt j hj tq (by rw [ftLe_ws j hj]; exact htq)).1]; exact (ftBy_lt j hj tq (by rw [ftLe_ws j hj]; exact htq)).2.2) (fun t ht hW => ⟨ftLt (nI (100 * j + tq)), rfl, rfl, ht⟩) (fun _ h9 => absurd h9 List.not_mem_nil) dJ0_charAt_5068e_15
set_option maxHeartbeats 4000000 in
set_option maxRecDepth 100000 in
theorem c_X10_att (l : Launch) (D : va_G) (cI cS : ClassId) (sK sV : Nat → Nat) (k : Nat) (i : Int32) (hk : k < 3) : Met l yX10_at wsX10_at ({ frames := 0, cells := 0, slots := 0, locals := 0 }) (ftROS D cI cS sK sV [.ref (sV (6 + k)), .int i] []) (vp_Si (fun o9 => o9 = ftAt 11 (ftTb k) i)) 0 0 (fun _ => False) := by
  refine Met.ofW (cc := cX10_at) (maxL := 2) (ret := (some .int)) (by decide) rfl ?_
  intro p e s m args below meth c s₁ B hml hv
  obtain ⟨rfl, hP, hKK, hSt⟩ := hv
  have hS : va_S (fun _ => False) s.heap s.heap [] := va_S.rf
  have hK := hKK.1
  have hx := B.exec
  have hb := B.bytes
  have hr := B.returns
  have hts := atoms_spec (ws := wsX10_at) B.pre
  have hown : s.vm.findClass RX10 = some m.cls := findClass_of_methodNamed B.named
  have hlocks := B.notSynchronized
  have hP : va_P D vwCl [] s.heap := hP
  have hl := lv_entry ([.ref (sV (6 + k)), .int i]) (n := 2) (Nat.le_of_ble_eq_true rfl)
  rw [lg_entry_eq]
  generalize (lg_sl ([.ref (sV (6 + k)), .int i]) ++ List.replicate (2 - (lg_sl ([.ref (sV (6 + k)), .int i])).length) Slot.unset).toArray = ls at hl ⊢
  have hl : lv_has ls 2 [(0, .ref (sV (6 + k))), (1, .int i)] := hl
  refine lv_aload_n hx hb dX10_at_0 rfl (lv_at hl 0 rfl) ?_
  refine lv_ifnull hx hb dX10_at_1 ?_
  refine lv_iload_n hx hb dX10_at_4 rfl (lv_at hl 1 rfl) ?_
  refine lv_if_lt (tgt := 20) hx hb dX10_at_5 (by decide) (fun c5 => ?_) (fun c5 => ?_)
  · refine lv_iconst (v := 0) hx hb dX10_at_20 (by decide) ?_
    exact W.iret (v := 0) hx hb hr (fun t ht hW => ⟨0, rfl, (by show (0 : Int32) = ftAt 11 (ftTb k) i; first | exact (ftAt_in (ft_in (by omega) c5 c11)).symm | exact (ftAt_out (ft_out (by omega) c5 c11)).symm | exact (ftAt_out (fun q => q (Or.inl c5))).symm), ht⟩) (fun _ h9 => absurd h9 List.not_mem_nil) dX10_at_21
  · refine lv_iload_n hx hb dX10_at_8 rfl (lv_at hl 1 rfl) ?_
    refine lv_aload_n hx hb dX10_at_9 rfl (lv_at hl 0 rfl) ?_
    refine va_tlen (v := nI 11) hx hb (hSt.2.2.2.2.1 k hk) hS rfl dX10_at_10 ?_
    refine lv_icmp_ge (tgt := 20) hx hb dX10_at_11 (by decide) (fun c11 => ?_) (fun c11 => ?_)
    · refine lv_iconst (v := 0) hx hb dX10_at_20 (by decide) ?_
      exact W.iret (v := 0) hx hb hr (fun t ht hW => ⟨0, rfl, (by show (0 : Int32) = ftAt 11 (ftTb k) i; first | exact (ftAt_in (ft_in (by omega) c5 c11)).symm | exact (ftAt_out (ft_out (by omega) c5 c11)).symm | exact (ftAt_out (fun q => q (Or.inl c5))).symm), ht⟩) (fun _ h9 => absurd h9 List.not_mem_nil) dX10_at_21
    · refine lv_aload_n hx hb dX10_at_14 rfl (lv_at hl 0 rfl) ?_
      refine lv_iload_n hx hb dX10_at_15 rfl (lv_at hl 1 rfl) ?_
      refine va_ti hx hb (hSt.2.2.2.2.1 k hk) hS (ft_in (by omega) c5 c11) (v := .int (ftTb k i.toNatClampNeg)) rfl dX10_at_16 ?_
      refine lv_goto (tgt := 21) hx hb dX10_at_17 (by decide) ?_
      exact W.iret (v := ftTb k i.toNatClampNeg) hx hb hr (fun t ht hW => ⟨ftTb k i.toNatClampNeg, rfl, (by show (ftTb k i.toNatClampNeg : Int32) = ftAt 11 (ftTb k) i; first | exact (ftAt_in (ft_in (by omega) c5 c11)).symm | exact (ftAt_out (ft_out (by omega) c5 c11)).symm | exact (ftAt_out (fun q => q (Or.inl c5))).symm), ht⟩) (fun _ h9 => absurd h9 List.not_mem_nil) dX10_at_21
end
section
/-! a part more in a row, in rows of their own -/
section FTADD
variable {w : Nat → Int32} {n k i : Nat} {kd x lo re : Int32}
theorem ftAdd_x (h : i < 4) (hk : k ≠ ftPosW w x n) : ftAdd w n kd x lo re (4 + 4 * k + i) = ftShP w n (ftPosW w x n) (4 + 4 * k + i) := by
  unfold ftAdd
  rw [ftUpd_ne (by omega), ftComes_at (by omega)]
theorem ftAdd_lo (h : i < 4) (hk : k < ftPosW w x n) : ftAdd w n kd x lo re (4 + 4 * k + i) = w (4 + 4 * k + i) := by
  rw [ftAdd_x h (by omega), ftShP_low (by omega)]
theorem ftAdd_hi (h : i < 4) (hk : ftPosW w x n < k) (hn : k ≤ n) : ftAdd w n kd x lo re (4 + 4 * k + i) = w (4 + 4 * (k - 1) + i) := by
  rw [ftAdd_x h (by omega)]
  unfold ftShP
  rw [if_pos (by omega)]
  congr 1
  omega
theorem ftAdd_at0 : ftAdd w n kd x lo re (4 + 4 * ftPosW w x n + 0) = kd := by
  unfold ftAdd ftComes
  rw [ftUpd_ne (by omega), ftUpd_ne (by omega), ftUpd_ne (by omega), ftUpd_ne (by omega), ftUpd_at0]
theorem ftAdd_at1 : ftAdd w n kd x lo re (4 + 4 * ftPosW w x n + 1) = x := by
  unfold ftAdd ftComes
  rw [ftUpd_ne (by omega), ftUpd_ne (by omega), ftUpd_ne (by omega), ftUpd_at0]
theorem ftAdd_at2 : ftAdd w n kd x lo re (4 + 4 * ftPosW w x n + 2) = lo := by
  unfold ftAdd ftComes
  rw [ftUpd_ne (by omega), ftUpd_ne (by omega), ftUpd_at0]
theorem ftAdd_at3 : ftAdd w n kd x lo re (4 + 4 * ftPosW w x n + 3) = re := by
  unfold ftAdd ftComes
  rw [ftUpd_ne (by omega), ftUpd_at0]
theorem ftAdd_l {t : Nat} (h : t < 3) : ftAdd w n kd x lo re t = w t := by
  unfold ftAdd
  rw [ftUpd_ne (by omega), ftComes_at (by omega), ftShP_low (by omega)]
theorem ftAdd_b {t : Nat} (h : 44 ≤ t) (hn : n < 10) : ftAdd w n kd x lo re t = w t := by
  have hp := ftPosW_le w x n
  unfold ftAdd
  rw [ftUpd_ne (by omega), ftComes_at (by omega)]
  unfold ftShP
  rw [if_neg (by omega)]
end FTADD
/-- where a part comes: places below it, places above it -/
theorem ftPosW_hi {w : Nat → Int32} {x : Int32} : ∀ n t, ftPosW w x n ≤ t → t < n → x < w (4 + 4 * t + 1) := by
  intro n
  induction n with
  | zero => intro t _ h; exact absurd h (Nat.not_lt_zero t)
  | succ n ih =>
    intro t h1 h2
    rw [ftPosW] at h1
    by_cases c : x < w (4 + 4 * n + 1)
    · rw [if_pos c] at h1
      by_cases z : t = n
      · subst z; exact c
      · exact ih t h1 (by omega)
    · rw [if_neg c] at h1; omega
theorem ftPosW_lo {w : Nat → Int32} {x : Int32} : ∀ n, (∀ a b, a < b → b < n → w (4 + 4 * a + 1) < w (4 + 4 * b + 1)) → (∀ t, t < n → w (4 + 4 * t + 1) ≠ x) → ∀ t, t < ftPosW w x n → w (4 + 4 * t + 1) < x := by
  intro n
  induction n with
  | zero => intro _ _ t h; exact absurd h (Nat.not_lt_zero t)
  | succ n ih =>
    intro ha hne t ht
    rw [ftPosW] at ht
    by_cases c : x < w (4 + 4 * n + 1)
    · rw [if_pos c] at ht
      exact ih (fun a b h1 h2 => ha a b h1 (by omega)) (fun t h => hne t (by omega)) t ht
    · rw [if_neg c] at ht
      have hn : w (4 + 4 * n + 1) < x := by
        rcases Int32.lt_or_eq_of_le (Int32.not_lt.mp c) with q | q
        · exact q
        · exact absurd q (hne n (by omega))
      by_cases z : t = n
      · subst z; exact hn
      · exact Int32.lt_of_lt_of_le (ha t n (by omega) (by omega)) (Int32.le_of_lt hn)
theorem ftIdx_pos {w pf : Nat → Int32} {x : Int32} {n : Nat} (hp : ∀ t, t < n → w (4 + 4 * t + 1) = pf t) (ha : ∀ a b, a < b → b < n → w (4 + 4 * a + 1) < w (4 + 4 * b + 1)) (hne : ∀ t, t < n → w (4 + 4 * t + 1) ≠ x) : ftIdx pf x n = ftPosW w x n := by
  have hle := ftPosW_le w x n
  refine ftIdx_of hle (fun t ht => ?_) (fun h => ?_)
  · rw [← hp t (by omega)]; exact ftPosW_lo n ha hne t ht
  · rw [← hp _ h]
    exact Int32.not_lt.mpr (Int32.le_of_lt (ftPosW_hi n _ (Nat.le_refl _) h))
def ftNew (k x lo re : Int32) : Prop := (k = 0 ∧ -500 ≤ lo ∧ lo ≤ 5000 ∧ re = 0) ∨ (k = 1 ∧ 0 ≤ lo ∧ lo ≤ 5000 ∧ 1 ≤ re ∧ re ≤ 20000) ∨ (k = 2 ∧ 0 ≤ lo ∧ lo ≤ 50 ∧ re = 0)
theorem ftAdd_cn {w : Nat → Int32} {n : Nat} {kd x lo re : Int32} (hn : n < 10) : ftCN (ftAdd w n kd x lo re) = n + 1 := by
  show (ftAdd _ _ _ _ _ _ 3).toNatClampNeg = _
  rw [ftAdd_3, nI_clamp (by omega)]
theorem ftAdd_lf {w : Nat → Int32} {kd x lo re : Int32} (h : ftLf w) (hn : ftCN w < 10) (hx1 : 1 ≤ x) (hx2 : x < w 0) (hne : ∀ t, t < ftCN w → w (4 + 4 * t + 1) ≠ x) (hv : ftNew kd x lo re) : ftLf (ftAdd w (ftCN w) kd x lo re) := by
  obtain ⟨a1, a2, a3, a4, a5, a6⟩ := id h
  have hc := ftAdd_cn (w := w) (kd := kd) (x := x) (lo := lo) (re := re) hn
  have hle := ftPosW_le w x (ftCN w)
  have hlo := ftPosW_lo (ftCN w) a6 hne
  have hhi := ftPosW_hi (w := w) (x := x) (ftCN w)
  refine ⟨?_, by rw [ftAdd_l (by omega)]; exact a2, by rw [ftAdd_l (by omega)]; exact a3, by rw [ftAdd_l (by omega)]; exact a4, ?_, ?_⟩
  · rw [ftAdd_3]
    exact ⟨nI_pos' (by omega), nI_le (b := 10) (by omega) (by omega)⟩
  · intro k hk
    rw [hc] at hk
    rw [ftAdd_l (show 0 < 3 by omega)]
    unfold ftPartOk
    rcases Nat.lt_trichotomy k (ftPosW w x (ftCN w)) with q | q | q
    · rw [ftAdd_lo (by omega) q, ftAdd_lo (by omega) q, ftAdd_lo (by omega) q, ftAdd_lo (by omega) q]
      exact a5 k (by omega)
    · rw [q, ftAdd_at0, ftAdd_at1, ftAdd_at2, ftAdd_at3]
      exact ⟨hv, hx1, hx2⟩
    · rw [ftAdd_hi (by omega) q (by omega), ftAdd_hi (by omega) q (by omega), ftAdd_hi (by omega) q (by omega), ftAdd_hi (by omega) q (by omega)]
      exact a5 (k - 1) (by omega)
  · intro a b hab hb
    rw [hc] at hb
    rcases Nat.lt_trichotomy a (ftPosW w x (ftCN w)) with q | q | q
    · rw [ftAdd_lo (by omega) q]
      rcases Nat.lt_trichotomy b (ftPosW w x (ftCN w)) with r | r | r
      · rw [ftAdd_lo (by omega) r]; exact a6 a b hab (by omega)
      · rw [r, ftAdd_at1]; exact hlo a q
      · rw [ftAdd_hi (by omega) r (by omega)]
        by_cases z : a = b - 1
        · omega
        · exact a6 a (b - 1) (by omega) (by omega)
    · rw [q, ftAdd_at1, ftAdd_hi (by omega) (by omega) (by omega)]
      exact hhi (b - 1) (by omega) (by omega)
    · rw [ftAdd_hi (by omega) q (by omega), ftAdd_hi (by omega) (by omega) (by omega)]
      exact a6 (a - 1) (b - 1) (by omega) (by omega)
theorem ftLf_mok {w : Nat → Int32} (h : ftLf w) : ftMok w := ⟨ftCN w, ftLf_n h, ftLf_3 h⟩
theorem ft_lt3 {j : Nat} (hj : j < 6) : nI j < 3 ↔ j < 3 := ⟨fun h => ft_ltN (b := 3) (by omega) (by omega) h, fun h => nI_lt (b := 3) h (by omega)⟩
theorem ftRt_new : ∀ j, 3 ≤ j → j < 6 → ∀ {tx : Nat → Int32} {tn p : Nat} {m : Nat → Int32}, (∀ i, i < ftNs (nI j) → ftRt (nI j) i (ftIv tx tn p i) (m 0)) → (1 ≤ ftIv tx tn p 0 ∧ ftIv tx tn p 0 ≤ m 0 - 1) ∧ ftNew (nI j - 3) (ftIv tx tn p 0) (ftIv tx tn p 1) (if nI j = 4 then ftIv tx tn p 2 else 0) := by
  intro j h3 h6 tx tn p m h
  match j, h3, h6 with
  | 3, _, _ =>
    have q0 := h 0 (by decide)
    have q1 := h 1 (by decide)
    have e : ∀ v ln, ftRt (nI 3) 0 v ln = (1 ≤ v ∧ v ≤ ln - 1) := fun v ln => rfl
    have e1 : ∀ v ln, ftRt (nI 3) 1 v ln = (-500 ≤ v ∧ v ≤ 5000) := fun v ln => rfl
    rw [e] at q0
    rw [e1] at q1
    exact ⟨q0, Or.inl ⟨rfl, q1.1, q1.2, rfl⟩⟩
  | 4, _, _ =>
    have q0 := h 0 (by decide)
    have q1 := h 1 (by decide)
    have q2 := h 2 (by decide)
    have e : ∀ v ln, ftRt (nI 4) 0 v ln = (1 ≤ v ∧ v ≤ ln - 1) := fun v ln => rfl
    have e1 : ∀ v ln, ftRt (nI 4) 1 v ln = (0 ≤ v ∧ v ≤ 5000) := fun v ln => rfl
    have e2 : ∀ v ln, ftRt (nI 4) 2 v ln = (1 ≤ v ∧ v ≤ 20000) := fun v ln => rfl
    rw [e] at q0
    rw [e1] at q1
    rw [e2] at q2
    exact ⟨q0, Or.inr (Or.inl ⟨rfl, q1.1, q1.2, q2.1, q2.2⟩)⟩
  | 5, _, _ =>
    have q0 := h 0 (by decide)
    have q1 := h 1 (by decide)
    have e : ∀ v ln, ftRt (nI 5) 0 v ln = (1 ≤ v ∧ v ≤ ln - 1) := fun v ln => rfl
    have e1 : ∀ v ln, ftRt (nI 5) 1 v ln = (0 ≤ v ∧ v ≤ 50) := fun v ln => rfl
    rw [e] at q0
    rw [e1] at q1
    exact ⟨q0, Or.inr (Or.inr ⟨rfl, q1.1, q1.2, rfl⟩)⟩
theorem ft_ltm1 {x y : Int32} (hy : 50 ≤ y) (hx : 1 ≤ x) (h : x ≤ y - 1) : x < y := by
  obtain ⟨ey, ly⟩ := ftI_nat (ftI_ge0 (N := 50) hy (by omega))
  obtain ⟨ex, lx⟩ := ftI_nat (ftI_ge0 (N := 1) hx (by omega))
  have h50 := ftI_ge (N := 50) (ftI_ge0 (N := 50) hy (by omega)) hy (by omega)
  rw [ex, ey] at h ⊢
  rw [show nI y.toNatClampNeg - 1 = nI (y.toNatClampNeg - 1) from ft_subN (b := 1) (by omega)] at h
  have := ft_leN lx (by omega) h
  exact nI_lt (by omega) ly
theorem ftItM_lf {tx : Nat → Int32} {tn : Nat} {m : Nat → Int32} {h p : Nat} (hm : ftLf m) (q : ftItOk tx tn m h p) : ftLf (ftItM tx tn m p) := by
  obtain ⟨b1, b2, b3, b4, -⟩ := id q
  obtain ⟨j, hj, hW⟩ : ∃ j, j < 6 ∧ ftIw tx tn p = nI j := by
    rcases ftWd_c tx p (ftRun tx tn p) 6 with r | ⟨j, r1, r2, -⟩
    · exact absurd (show ftIw tx tn p < 0 by unfold ftIw; rw [r]; decide) b1
    · exact ⟨j, r1, r2⟩
  obtain ⟨a1, a2, a3, a4, a5, a6⟩ := id hm
  unfold ftItM
  rw [hW] at b2 b3 b4 ⊢
  rcases Nat.lt_or_ge j 3 with c | c
  · rw [if_pos ((ft_lt3 hj).mpr c), nI_clamp (by omega)]
    have h0 := (b4.1 ((ft_lt3 hj).mpr c)).2
    have hn0 : ftCN m = 0 := by
      have e := ftLf_3 hm
      rw [e] at h0
      exact ft_le0 (by have := ftLf_n hm; omega) h0
    have hr := b3 0 (by rw [ftNs_1 ((ft_lt3 hj).mpr c)]; omega)
    have e3 : ∀ v, upd m j v 3 = m 3 := fun v => ftUpd_ne (by omega)
    have ec : ∀ v, ftCN (upd m j v) = 0 := fun v => by unfold ftCN; rw [e3]; exact hn0
    match j, c with
    | 0, _ =>
      have hr : 50 ≤ ftIv tx tn p 0 ∧ ftIv tx tn p 0 ≤ 400 := hr
      exact ⟨by rw [e3]; exact a1, hr, a3, a4, fun k hk => by rw [ec] at hk; omega, fun a b _ hb => by rw [ec] at hb; omega⟩
    | 1, _ =>
      have hr : 0 ≤ ftIv tx tn p 0 ∧ ftIv tx tn p 0 ≤ 50 := hr
      exact ⟨by rw [e3]; exact a1, a2, hr, a4, fun k hk => by rw [ec] at hk; omega, fun a b _ hb => by rw [ec] at hb; omega⟩
    | 2, _ =>
      have hr : 0 ≤ ftIv tx tn p 0 ∧ ftIv tx tn p 0 ≤ 20000 := hr
      exact ⟨by rw [e3]; exact a1, a2, a3, hr, fun k hk => by rw [ec] at hk; omega, fun a b _ hb => by rw [ec] at hb; omega⟩
  · have hnl : ¬ nI j < 3 := fun r => absurd ((ft_lt3 hj).mp r) (by omega)
    rw [if_neg hnl]
    obtain ⟨d1, d2⟩ := b4.2 hnl
    obtain ⟨e1, e2⟩ := ftRt_new j c hj b3
    have en : (m 3).toNatClampNeg = ftCN m := rfl
    rw [en]
    have hn := ftLf_n hm
    have hlt : ftCN m < 10 := by
      rcases Nat.lt_or_ge (ftCN m) 10 with r | r
      · exact r
      · exact absurd (by rw [ftLf_3 hm, show ftCN m = 10 by omega]; rfl) d2
    exact ftAdd_lf hm hlt e1.1 (ft_ltm1 a2.1 e1.1 e1.2) (fun t ht r => d1 ⟨t, ht, r⟩) e2
theorem ftPar_lf {tx : Nat → Int32} {tn : Nat} : ∀ (f p h : Nat) (m a : Nat → Int32), ftLf m → ftPar tx tn f p h m = some a → ftLf a := by
  intro f
  induction f with
  | zero => intro p h m a hm e; cases e; exact hm
  | succ f ih =>
    intro p h m a hm e
    by_cases c : p < tn
    · have um : ftPar tx tn (f + 1) p h m = ftCh (ftItOk tx tn m h p) (ftPar tx tn f (ftItP tx tn p) (ftItH tx tn h p) (ftItM tx tn m p)) none := by rw [ftPar, if_pos c]; rfl
      rw [um] at e
      rcases Classical.em (ftItOk tx tn m h p) with q | q
      · rw [ftCh_t q] at e
        exact ih _ _ _ _ (ftItM_lf hm q) e
      · rw [ftCh_f q] at e; cases e
    · rw [ftPar, if_neg c] at e
      cases e; exact hm
theorem ftMd0_lf (m : Nat → Int32) : ftLf (ftMd0 m) := by
  have e0 : ftMd0 m 0 = 200 := rfl
  have e1 : ftMd0 m 1 = 10 := rfl
  have e2 : ftMd0 m 2 = 12000 := rfl
  have e3 : ftMd0 m 3 = 0 := rfl
  have en : ftCN (ftMd0 m) = 0 := by unfold ftCN; rw [e3]; rfl
  refine ⟨by rw [e3]; decide, by rw [e0]; decide, by rw [e1]; decide, by rw [e2]; decide, fun k hk => ?_, fun a b _ hb => ?_⟩
  · rw [en] at hk; omega
  · rw [en] at hb; omega
theorem ftCPm_lf {tx : Nat → Int32} {tn : Nat} (h : ¬ ftCPar tx tn = none) : ftLf (ftCPm tx tn) := by
  unfold ftCPm
  cases hq : ftCPar tx tn with
  | none => exact absurd hq h
  | some a => exact ftPar_lf _ _ _ _ _ (ftMd0_lf _) hq
/-! words: the class's is the reference's where an item is possible -/
def ftLet (x : Int32) : Prop := (97 ≤ x ∧ x ≤ 122) ∨ (65 ≤ x ∧ x ≤ 90)
def ftC (tx : Nat → Int32) (tn i : Nat) : Int32 := if i < tn then tx i else 0
theorem ftC_in {tx : Nat → Int32} {tn i : Nat} (h : i < tn) : ftC tx tn i = tx i := if_pos h
theorem ftC_out {tx : Nat → Int32} {tn i : Nat} (h : tn ≤ i) : ftC tx tn i = 0 := if_neg (by omega)
def ftCW9 (tx : Nat → Int32) (tn p j : Nat) : Prop := (∀ t, t < ftWs j → ftC tx tn (p + t) = ftLt (nI (100 * j + t))) ∧ ¬ ftLet (ftC tx tn (p + ftWs j))
theorem ftLt_low : ∀ j, j < 6 → ∀ t, t < ftWs j → 97 ≤ ftLt (nI (100 * j + t)) ∧ ftLt (nI (100 * j + t)) ≤ 122 := by decide +kernel
theorem ftLt_diff : ∀ i, i < 6 → ∀ j, j < 6 → i ≠ j → ftWs i = ftWs j → ∃ t, t < ftWs i ∧ ftLt (nI (100 * i + t)) ≠ ftLt (nI (100 * j + t)) := by decide +kernel
theorem ftWP_one {tx : Nat → Int32} {p d i j : Nat} (hi : i < 6) (hj : j < 6) (h1 : ftWP tx p d i (ftWs i)) (h2 : ftWP tx p d j (ftWs j)) : i = j := by
  rcases Nat.eq_or_lt_of_le (Nat.le_refl i) with _ | _
  · by_cases q : i = j
    · exact q
    · obtain ⟨t, t1, t2⟩ := ftLt_diff i hi j hj q (h1.1.symm.trans h2.1)
      exact absurd ((h1.2 t t1).symm.trans (h2.2 t (by rw [← h2.1, h1.1]; exact t1))) t2
  · omega
theorem ftWd_of {tx : Nat → Int32} {p d j : Nat} (hj : j < 6) (h : ftWP tx p d j (ftWs j)) : ∀ m, m ≤ 6 → j < m → ftWd tx p d m = nI j := by
  intro m
  induction m with
  | zero => intro _ q; omega
  | succ m ih =>
    intro hm q
    by_cases r : j = m
    · subst r; exact ftWd_t h
    · rw [ftWd_f (fun s => r (ftWP_one hj (by omega) h s))]
      exact ih (by omega) (by omega)
/-- the class finds the word j: so does the reference -/
theorem ftCW_run {tx : Nat → Int32} {tn p j : Nat} (hj : j < 6) (h : ftCW9 tx tn p j) : ftRun tx tn p = ftWs j ∧ ftIw tx tn p = nI j ∧ p + ftWs j ≤ tn := by
  have hws := ftWs_le j
  have hin : ∀ t, t < ftWs j → p + t < tn ∧ tx (p + t) = ftLt (nI (100 * j + t)) := by
    intro t ht
    have e := h.1 t ht
    rcases Nat.lt_or_ge (p + t) tn with q | q
    · rw [ftC_in q] at e; exact ⟨q, e⟩
    · rw [ftC_out q] at e
      have := (ftLt_low j hj t ht).1
      rw [← e] at this
      exact absurd this (by decide)
  have hrun : ftRun tx tn p = ftWs j := by
    refine ftIni_of (by omega) (fun t ht => ?_) (fun _ q => ?_)
    · obtain ⟨q1, q2⟩ := hin t ht
      rw [q2]
      exact ⟨q1, ftLt_low j hj t ht⟩
    · exact h.2 (by rw [ftC_in q.1]; exact Or.inl q.2)
  refine ⟨hrun, ?_, ?_⟩
  · unfold ftIw
    rw [hrun]
    exact ftWd_of hj ⟨rfl, fun t ht => (hin t ht).2⟩ 6 (by omega) hj
  · rcases Nat.eq_zero_or_pos (ftWs j) with z | z
    · have : ∀ j, j < 6 → 0 < ftWs j := by decide
      have := this j hj
      omega
    · have := (hin (ftWs j - 1) (by omega)).1
      omega
/-- an item is possible: the class finds its word -/
theorem ftIt_cw {tx : Nat → Int32} {tn p h : Nat} {m : Nat → Int32} (q : ftItOk tx tn m h p) : ∃ j, j < 6 ∧ ftIw tx tn p = nI j ∧ ftCW9 tx tn p j := by
  obtain ⟨b1, b2, -⟩ := q
  rcases ftWd_c tx p (ftRun tx tn p) 6 with r | ⟨j, r1, r2, r3⟩
  · exact absurd (show ftIw tx tn p < 0 by unfold ftIw; rw [r]; decide) b1
  · have hW : ftIw tx tn p = nI j := r2
    refine ⟨j, r1, hW, fun t ht => ?_, ?_⟩
    · have h9 := (ftIni_yes (fun t => p + t < tn ∧ 97 ≤ tx (p + t) ∧ tx (p + t) ≤ 122) 120 t (by
        have : t < ftRun tx tn p := by rw [r3.1]; exact ht
        exact this)).1
      rw [ftC_in h9]; exact r3.2 t ht
    · have h0 := (b2 0 (ftNs_ge _)).1
      have e : ftIp tx tn p 0 = p + ftWs j := by show p + ftRun tx tn p = _; rw [r3.1]
      rw [e] at h0
      rw [ftC_in h0.1, h0.2]
      intro z
      rcases z with z | z
      · exact absurd z.1 (by decide)
      · exact absurd z.1 (by decide)
end
section
/-! the class's texts -/
theorem ftSp_c {tx : Nat → Int32} {tn p : Nat} : ftSp tx tn p ↔ ftC tx tn p = 32 := by
  constructor
  · rintro ⟨h, e⟩; rw [ftC_in h]; exact e
  · intro e
    rcases Nat.lt_or_ge p tn with q | q
    · rw [ftC_in q] at e; exact ⟨q, e⟩
    · rw [ftC_out q] at e; exact absurd e (by decide)
theorem ftNg_c {tx : Nat → Int32} {tn p : Nat} : ftNg tx tn p ↔ ftC tx tn (p + 1) = 45 := by
  constructor
  · rintro ⟨h, e⟩; rw [ftC_in h]; exact e
  · intro e
    rcases Nat.lt_or_ge (p + 1) tn with q | q
    · rw [ftC_in q] at e; exact ⟨q, e⟩
    · rw [ftC_out q] at e; exact absurd e (by decide)
theorem ftDp_c {tx : Nat → Int32} {tn q t : Nat} : ftDp tx tn q t ↔ 48 ≤ ftC tx tn (q + t) ∧ ftC tx tn (q + t) ≤ 57 := by
  constructor
  · rintro ⟨h, e⟩; rw [ftC_in h]; exact e
  · intro e
    rcases Nat.lt_or_ge (q + t) tn with r | r
    · rw [ftC_in r] at e; exact ⟨r, e⟩
    · rw [ftC_out r] at e; exact absurd e.1 (by decide)
theorem ft_neg1 (v : Int32) : -v = (-1) * v := by rw [Int32.neg_mul, Int32.one_mul]
noncomputable def ftNfs (tx : Nat → Int32) (tn q : Nat) (nf : Nat → Int32) : Nat → (Nat → Int32)
  | 0 => nf
  | i + 1 => ftNf tx tn (ftNP tx tn q i) i (ftNfs tx tn q nf i)
theorem ftNP_le {tx : Nat → Int32} {tn q : Nat} (h : q ≤ tn) (i : Nat) : ftNP tx tn q i ≤ tn := by
  induction i with
  | zero => exact h
  | succ i ih => exact ftNe_le ih
noncomputable def ftNm (tx : Nat → Int32) (tn q wn : Nat) : Nat := ftIni (fun i => ftNok tx tn (ftNP tx tn q i)) wn
theorem ftNfs_at {tx : Nat → Int32} {tn q : Nat} {nf : Nat → Int32} : ∀ m, (∀ t, t < m → ftNok tx tn (ftNP tx tn q t)) → ∀ i, i < m → ftNfs tx tn q nf m i = ftNv tx tn (ftNP tx tn q i) := by
  intro m
  induction m with
  | zero => intro _ i h; exact absurd h (Nat.not_lt_zero i)
  | succ m ih =>
    intro h i hi
    have e := ftNf_t (fg := ftNfs tx tn q nf m) (i := m) (h m (by omega)).1
    show ftNf tx tn (ftNP tx tn q m) m (ftNfs tx tn q nf m) i = _
    rw [e]
    by_cases z : i = m
    · subst z; exact ftUpd_at0
    · rw [ftUpd_ne z]; exact ih (fun t ht => h t (by omega)) i (by omega)
theorem ftLoss_j (ln : Int32) : ∀ j, 3 ≤ j → j < 6 → ∀ v, ftLossFits (nI j - 3) v ↔ ftRt (nI j) 1 v ln := by
  intro j h3 h6 v
  match j, h3, h6 with
  | 3, _, _ =>
    rw [show ftRt (nI 3) 1 v ln = (-500 ≤ v ∧ v ≤ 5000) from rfl, show nI 3 - 3 = 0 by decide]
    simp [ftLossFits]
  | 4, _, _ =>
    rw [show ftRt (nI 4) 1 v ln = (0 ≤ v ∧ v ≤ 5000) from rfl, show nI 4 - 3 = 1 by decide]
    simp [ftLossFits]
  | 5, _, _ =>
    rw [show ftRt (nI 5) 1 v ln = (0 ≤ v ∧ v ≤ 50) from rfl, show nI 5 - 3 = 2 by decide]
    simp [ftLossFits]
theorem ftRefl_j (ln v : Int32) : ftReflFits (nI 4 - 3) v ↔ ftRt (nI 4) 2 v ln := by
  rw [show ftRt (nI 4) 2 v ln = (1 ≤ v ∧ v ≤ 20000) from rfl, show nI 4 - 3 = 1 by decide]
  simp [ftReflFits]
/-- a link of the class is a row's -/
def ftLR (m : Nat → Int32) (len att en : Int32) (n : Nat) (kf pf lf rf : Nat → Int32) : Prop := m 0 = len ∧ m 1 = att ∧ m 2 = en ∧ m 3 = nI n ∧ n ≤ 10 ∧ ∀ k, k < n → m (4 + 4 * k + 0) = kf k ∧ m (4 + 4 * k + 1) = pf k ∧ m (4 + 4 * k + 2) = lf k ∧ m (4 + 4 * k + 3) = rf k
def ftTd (td : Nat → Int32) (h : Nat) : Prop := ∀ j, j < 3 → td j = nI (h / 2 ^ j % 2)
theorem ftLR_n {m : Nat → Int32} {len att en : Int32} {n : Nat} {kf pf lf rf : Nat → Int32} (h : ftLR m len att en n kf pf lf rf) : ftCN m = n := by
  unfold ftCN
  rw [h.2.2.2.1, nI_clamp (by have := h.2.2.2.2.1; omega)]
theorem ftIns_add {m f : Nat → Int32} {n i : Nat} {kd x lo re v : Int32} (hi : i < 4) (hf : ∀ k, k < n → m (4 + 4 * k + i) = f k) (hv : ftAdd m n kd x lo re (4 + 4 * ftPosW m x n + i) = v) : ∀ k, k < n + 1 → ftAdd m n kd x lo re (4 + 4 * k + i) = ftIns f n (ftPosW m x n) v k := by
  have hle := ftPosW_le m x n
  refine ftIns_by hle ?_ ?_ ?_
  · rw [hv, ftIns_at]
  · intro t ht
    rw [ftAdd_lo hi ht, ftIns_dn ht]; exact hf t (by omega)
  · intro t h1 h2
    rw [ftAdd_hi hi h1 h2, ftIns_up h1 h2]; exact hf (t - 1) (by omega)
theorem ftLR_add {m : Nat → Int32} {len att en kd x lo re : Int32} {n : Nat} {kf pf lf rf : Nat → Int32} (h : ftLR m len att en n kf pf lf rf) (hn : n < 10) (ha : ∀ a b, a < b → b < n → m (4 + 4 * a + 1) < m (4 + 4 * b + 1)) (hne : ∀ t, t < n → m (4 + 4 * t + 1) ≠ x) : ftLR (ftAdd m n kd x lo re) len att en (n + 1) (ftIns kf n (ftIdx pf x n) kd) (ftIns pf n (ftIdx pf x n) x) (ftIns lf n (ftIdx pf x n) lo) (ftIns rf n (ftIdx pf x n) re) := by
  obtain ⟨a1, a2, a3, a4, a5, a6⟩ := h
  rw [ftIdx_pos (fun t ht => (a6 t ht).2.1) ha hne]
  refine ⟨by rw [ftAdd_l (by omega)]; exact a1, by rw [ftAdd_l (by omega)]; exact a2, by rw [ftAdd_l (by omega)]; exact a3, ftAdd_3 _ _ _ _ _ _, by omega, fun k hk => ?_⟩
  exact ⟨ftIns_add (by omega) (fun k hk => (a6 k hk).1) ftAdd_at0 k hk, ftIns_add (by omega) (fun k hk => (a6 k hk).2.1) ftAdd_at1 k hk, ftIns_add (by omega) (fun k hk => (a6 k hk).2.2.1) ftAdd_at2 k hk, ftIns_add (by omega) (fun k hk => (a6 k hk).2.2.2) ftAdd_at3 k hk⟩
theorem ftTd_or : ∀ h, h < 64 → ∀ j, j < 6 → ∀ i, i < 3 → (h ||| 2 ^ j) / 2 ^ i % 2 = if i = j then 1 else h / 2 ^ i % 2 := by decide +kernel
set_option maxHeartbeats 4000000 in
set_option maxRecDepth 100000 in
theorem c_X5_append (l : Launch) (D : va_G) (cI cS : ClassId) (sz : Nat) (a0 ag am ad b0 : Nat) (tn : Nat) (v1 v2 v3 : Int32) (v4 : Int32) (tx : Nat → Int32) (x : Int32) (htn : tn < 120) : Met l yX5_append wsX5_append ({ frames := 1, cells := 0, slots := 0, locals := 22 }) (ftRW D cI cS [.ref a0, .int x] [(a0, .inr (5, [.ref ag, .ref am, .ref ad, .ref b0, .int (nI tn), .int v1, .int v2, .int v3, .int v4])), (ag, .inl (cI, 120, .inl tx))] sz) (ftQi D (nI (tn + 1)) [(a0, .inr (5, [.ref ag, .ref am, .ref ad, .ref b0, .int (nI tn), .int v1, .int v2, .int v3, .int v4])), (ag, .inl (cI, 120, .inl tx))] [(a0, .inr (5, [.ref ag, .ref am, .ref ad, .ref b0, .int (nI (tn + 1)), .int v1, .int v2, .int v3, .int v4])), (ag, .inl (cI, 120, .inl (upd tx tn x)))] sz) 0 0 (va_A [(a0, .inr (5, [.ref ag, .ref am, .ref ad, .ref b0, .int (nI tn), .int v1, .int v2, .int v3, .int v4])), (ag, .inl (cI, 120, .inl tx))] sz) := by
  refine Met.ofW (cc := cX5_append) (maxL := 2) (ret := (some .int)) (by decide) rfl ?_
  intro p e s m args below meth c s₁ B hml hv
  obtain ⟨rfl, hsz, hP, hKK, hD0⟩ := hv
  have hK := hKK.1
  have hx := B.exec
  have hb := B.bytes
  have hr := B.returns
  have hts := atoms_spec (ws := wsX5_append) B.pre
  have hown : s.vm.findClass RX5 = some m.cls := findClass_of_methodNamed B.named
  have hlocks := B.notSynchronized
  subst hsz
  have hD := hD0.self (sz := s.heap.size)
  generalize hAe : va_A [(a0, .inr (5, [.ref ag, .ref am, .ref ad, .ref b0, .int (nI tn), .int v1, .int v2, .int v3, .int v4])), (ag, .inl (cI, 120, .inl tx))] s.heap.size = A at hD ⊢
  have hA : ∀ q : Nat, s.heap.size ≤ q → A q := fun q h => by rw [← hAe]; exact Or.inr h
  have hS : va_S A s.heap s.heap [] := va_S.rf
  have hD : va_D A [(a0, .inr (5, [.ref ag, .ref am, .ref ad, .ref b0, .int (nI tn), .int v1, .int v2, .int v3, .int v4])), (ag, .inl (cI, 120, .inl tx))] := hD
  have hP : va_P D vwCl [(a0, .inr (5, [.ref ag, .ref am, .ref ad, .ref b0, .int (nI tn), .int v1, .int v2, .int v3, .int v4])), (ag, .inl (cI, 120, .inl tx))] s.heap := hP
  have hl := lv_entry ([.ref a0, .int x]) (n := 2) (Nat.le_of_ble_eq_true rfl)
  rw [lg_entry_eq]
  generalize (lg_sl ([.ref a0, .int x]) ++ List.replicate (2 - (lg_sl ([.ref a0, .int x])).length) Slot.unset).toArray = ls at hl ⊢
  have hl : lv_has ls 2 [(0, .ref a0), (1, .int x)] := hl
  refine lv_aload_n hx hb dX5_append_0 rfl (lv_at hl 0 rfl) ?_
  refine va_get (D := D) (ci := 5) (v := .ref ag) (C := RX5) (T := TX5) (N := 9) hx hb hts (by decide +kernel) hown hK hP 0 rfl rfl 0 (by decide) (hts (.fieldLink RX5 9 "FiberTrace$LinkText" "signs" "[I") (by decide +kernel)) (fun _ h9 => h9) rfl dX5_append_1 ?_
  refine lv_aload_n hx hb dX5_append_4 rfl (lv_at hl 0 rfl) ?_
  refine va_get (D := D) (ci := 5) (v := .int (nI tn)) (C := RX5) (T := TX5) (N := 9) hx hb hts (by decide +kernel) hown hK hP 0 rfl rfl 4 (by decide) (hts (.fieldLink RX5 28 "FiberTrace$LinkText" "size" "I") (by decide +kernel)) (fun _ h9 => h9) rfl dX5_append_5 ?_
  refine lv_iload_n hx hb dX5_append_8 rfl (lv_at hl 1 rfl) ?_
  refine ft_cv (wc := [(ag, .inl (cI, 120, .inl tx))]) (wr := [(a0, .inr (5, [.ref ag, .ref am, .ref ad, .ref b0, .int (nI tn), .int v1, .int v2, .int v3, .int v4]))]) (w1 := [(ag, .inl (cI, 120, .inl (ftPut 120 tx (nI tn) x)))]) (ws1 := [(a0, .inr (5, [.ref ag, .ref am, .ref ad, .ref b0, .int (nI tn), .int v1, .int v2, .int v3, .int v4])), (ag, .inl (cI, 120, .inl (ftPut 120 tx (nI tn) x)))]) (va_runSN (As := [.ref ag, .int (nI tn), .int x]) (rest := []) ⟨hx, hb, hml, hown, hts⟩ (c_X10_put l D cI cS s.heap.size ag 120 tx (nI tn) x (by first | assumption | omega)) ⟨va_cnB 3 hts gX5_append_X10_put_n32 rfl rfl rfl (hKK.2 _ (List.mem_of_getElem? (i := 7) rfl)) (hts (.initialized RX10) (by decide +kernel)) (by decide +kernel) ⟨Nat.le_of_ble_eq_true rfl, Nat.le_of_ble_eq_true rfl⟩, hts (.static yX10_put) (by decide +kernel), trivial⟩ (ft_preRW hP hD hKK [1] rfl rfl rfl) rfl rfl hl.1 rfl (lv_room (Nat.le_of_ble_eq_true rfl)) dX5_append_9 ⟨Nat.le_of_ble_eq_true rfl, Nat.le_of_ble_eq_true rfl⟩) hP hD hS hA [1] [0] [0, 1] rfl rfl (by decide) (by decide) (by decide) rfl rfl (fun H locs hP hD hS => ?_)
  rw [ftPut_N (k := tn) (by omega) (by omega)] at hP hD
  have hP : va_P D vwCl [(a0, .inr (5, [.ref ag, .ref am, .ref ad, .ref b0, .int (nI tn), .int v1, .int v2, .int v3, .int v4])), (ag, .inl (cI, 120, .inl (upd tx tn x)))] H := hP
  have hD : va_D A [(a0, .inr (5, [.ref ag, .ref am, .ref ad, .ref b0, .int (nI tn), .int v1, .int v2, .int v3, .int v4])), (ag, .inl (cI, 120, .inl (upd tx tn x)))] := hD
  refine lv_aload_n hx hb dX5_append_12 rfl (lv_at hl 0 rfl) ?_
  refine lv_dup hx hb dX5_append_13 rfl ?_
  refine va_get (D := D) (ci := 5) (v := .int (nI tn)) (C := RX5) (T := TX5) (N := 9) hx hb hts (by decide +kernel) hown hK hP 0 rfl rfl 4 (by decide) (hts (.fieldLink RX5 28 "FiberTrace$LinkText" "size" "I") (by decide +kernel)) (fun _ h9 => h9) rfl dX5_append_14 ?_
  refine lv_iconst (v := 1) hx hb dX5_append_17 (by decide) ?_
  refine lv_iadd hx hb dX5_append_18 ?_
  refine ft_top (y := nI (tn + 1)) (ft_addN tn 1) ?_
  refine va_put (D := D) (ci := 5) (v := .int (nI (tn + 1))) (ty := .int) (C := RX5) (T := TX5) (N := 9) hx hb hts (by decide +kernel) tyX5 tyX5_ok nmX5 hown hK hP hD hS 0 rfl rfl 4 (by decide) (hts (.fieldLink RX5 28 "FiberTrace$LinkText" "size" "I") (by decide +kernel)) (fun _ h9 => h9) rfl (by decide +kernel) rfl rfl (Nat.le_of_ble_eq_true rfl) dX5_append_19 (fun H locs hP hD hS => ?_)
  have hP : va_P D vwCl [(a0, .inr (5, [.ref ag, .ref am, .ref ad, .ref b0, .int (nI (tn + 1)), .int v1, .int v2, .int v3, .int v4])), (ag, .inl (cI, 120, .inl (upd tx tn x)))] H := hP
  have hD : va_D A [(a0, .inr (5, [.ref ag, .ref am, .ref ad, .ref b0, .int (nI (tn + 1)), .int v1, .int v2, .int v3, .int v4])), (ag, .inl (cI, 120, .inl (upd tx tn x)))] := hD
  refine lv_aload_n hx hb dX5_append_22 rfl (lv_at hl 0 rfl) ?_
  refine va_get (D := D) (ci := 5) (v := .int (nI (tn + 1))) (C := RX5) (T := TX5) (N := 9) hx hb hts (by decide +kernel) hown hK hP 0 rfl rfl 4 (by decide) (hts (.fieldLink RX5 28 "FiberTrace$LinkText" "size" "I") (by decide +kernel)) (fun _ h9 => h9) rfl dX5_append_23 ?_
  have hw9 : ([(a0, .inr (5, [.ref ag, .ref am, .ref ad, .ref b0, .int (nI (tn + 1)), .int v1, .int v2, .int v3, .int v4])), (ag, .inl (cI, 120, .inl (upd tx tn x)))] : va_W) = [(a0, .inr (5, [.ref ag, .ref am, .ref ad, .ref b0, .int (nI (tn + 1)), .int v1, .int v2, .int v3, .int v4])), (ag, .inl (cI, 120, .inl (upd tx tn x)))] := rfl
  rw [hw9] at hP hD
  exact W.iret (v := nI (tn + 1)) hx hb hr (fun t ht hW => ⟨⟨nI (tn + 1), (), rfl, rfl, by rw [ht]; exact hP, by rw [hAe]; exact hD⟩, by rw [hAe]; exact hS.F ht⟩) hS.2.2 dX5_append_26
set_option maxHeartbeats 4000000 in
set_option maxRecDepth 100000 in
theorem c_X5_empty (l : Launch) (D : va_G) (cI cS : ClassId) (sz : Nat) (a0 ag am ad b0 : Nat) (tn : Nat) (v1 v2 v3 : Int32) (v4 : Int32)  : Met l yX5_empty wsX5_empty ({ frames := 0, cells := 0, slots := 0, locals := 0 }) (ftRW D cI cS [.ref a0] [(a0, .inr (5, [.ref ag, .ref am, .ref ad, .ref b0, .int (nI tn), .int v1, .int v2, .int v3, .int v4]))] sz) (ftQi D (nI tn) [(a0, .inr (5, [.ref ag, .ref am, .ref ad, .ref b0, .int (nI tn), .int v1, .int v2, .int v3, .int v4]))] [(a0, .inr (5, [.ref ag, .ref am, .ref ad, .ref b0, .int 0, .int v1, .int v2, .int v3, .int v4]))] sz) 0 0 (va_A [(a0, .inr (5, [.ref ag, .ref am, .ref ad, .ref b0, .int (nI tn), .int v1, .int v2, .int v3, .int v4]))] sz) := by
  refine Met.ofW (cc := cX5_empty) (maxL := 2) (ret := (some .int)) (by decide) rfl ?_
  intro p e s m args below meth c s₁ B hml hv
  obtain ⟨rfl, hsz, hP, hKK, hD0⟩ := hv
  have hK := hKK.1
  have hx := B.exec
  have hb := B.bytes
  have hr := B.returns
  have hts := atoms_spec (ws := wsX5_empty) B.pre
  have hown : s.vm.findClass RX5 = some m.cls := findClass_of_methodNamed B.named
  have hlocks := B.notSynchronized
  subst hsz
  have hD := hD0.self (sz := s.heap.size)
  generalize hAe : va_A [(a0, .inr (5, [.ref ag, .ref am, .ref ad, .ref b0, .int (nI tn), .int v1, .int v2, .int v3, .int v4]))] s.heap.size = A at hD ⊢
  have hA : ∀ q : Nat, s.heap.size ≤ q → A q := fun q h => by rw [← hAe]; exact Or.inr h
  have hS : va_S A s.heap s.heap [] := va_S.rf
  have hD : va_D A [(a0, .inr (5, [.ref ag, .ref am, .ref ad, .ref b0, .int (nI tn), .int v1, .int v2, .int v3, .int v4]))] := hD
  have hP : va_P D vwCl [(a0, .inr (5, [.ref ag, .ref am, .ref ad, .ref b0, .int (nI tn), .int v1, .int v2, .int v3, .int v4]))] s.heap := hP
  have hl := lv_entry ([.ref a0]) (n := 2) (Nat.le_of_ble_eq_true rfl)
  rw [lg_entry_eq]
  generalize (lg_sl ([.ref a0]) ++ List.replicate (2 - (lg_sl ([.ref a0])).length) Slot.unset).toArray = ls at hl ⊢
  have hl : lv_has ls 2 [(0, .ref a0)] := hl
  refine lv_aload_n hx hb dX5_empty_0 rfl (lv_at hl 0 rfl) ?_
  refine va_get (D := D) (ci := 5) (v := .int (nI tn)) (C := RX5) (T := TX5) (N := 9) hx hb hts (by decide +kernel) hown hK hP 0 rfl rfl 4 (by decide) (hts (.fieldLink RX5 28 "FiberTrace$LinkText" "size" "I") (by decide +kernel)) (fun _ h9 => h9) rfl dX5_empty_1 ?_
  refine lv_istore_n (lv' := [(1, .int (nI tn)), (0, .ref a0)]) hx hb dX5_empty_4 rfl hl (by decide) rfl (fun ls hl => ?_)
  refine lv_aload_n hx hb dX5_empty_5 rfl (lv_at hl 1 rfl) ?_
  refine lv_iconst (v := 0) hx hb dX5_empty_6 (by decide) ?_
  refine va_put (D := D) (ci := 5) (v := .int 0) (ty := .int) (C := RX5) (T := TX5) (N := 9) hx hb hts (by decide +kernel) tyX5 tyX5_ok nmX5 hown hK hP hD hS 0 rfl rfl 4 (by decide) (hts (.fieldLink RX5 28 "FiberTrace$LinkText" "size" "I") (by decide +kernel)) (fun _ h9 => h9) rfl (by decide +kernel) rfl rfl (Nat.le_of_ble_eq_true rfl) dX5_empty_7 (fun H locs hP hD hS => ?_)
  have hP : va_P D vwCl [(a0, .inr (5, [.ref ag, .ref am, .ref ad, .ref b0, .int 0, .int v1, .int v2, .int v3, .int v4]))] H := hP
  have hD : va_D A [(a0, .inr (5, [.ref ag, .ref am, .ref ad, .ref b0, .int 0, .int v1, .int v2, .int v3, .int v4]))] := hD
  refine lv_iload_n hx hb dX5_empty_10 rfl (lv_at hl 0 rfl) ?_
  have hw9 : ([(a0, .inr (5, [.ref ag, .ref am, .ref ad, .ref b0, .int 0, .int v1, .int v2, .int v3, .int v4]))] : va_W) = [(a0, .inr (5, [.ref ag, .ref am, .ref ad, .ref b0, .int 0, .int v1, .int v2, .int v3, .int v4]))] := rfl
  rw [hw9] at hP hD
  exact W.iret (v := nI tn) hx hb hr (fun t ht hW => ⟨⟨nI tn, (), rfl, rfl, by rw [ht]; exact hP, by rw [hAe]; exact hD⟩, by rw [hAe]; exact hS.F ht⟩) hS.2.2 dX5_empty_11
set_option maxHeartbeats 4000000 in
set_option maxRecDepth 100000 in
theorem c_X5_signAt (l : Launch) (D : va_G) (cI cS : ClassId) (a0 ag am ad b0 : Nat) (tn : Nat) (v1 v2 v3 : Int32) (v4 : Int32) (tx : Nat → Int32) (i : Nat) (htn : tn ≤ 120) (hi : i < 1000) : Met l yX5_signAt wsX5_signAt ({ frames := 1, cells := 0, slots := 0, locals := 21 }) (ftRO D cI cS [.ref a0, .int (nI i)] [(a0, .inr (5, [.ref ag, .ref am, .ref ad, .ref b0, .int (nI tn), .int v1, .int v2, .int v3, .int v4])), (ag, .inl (cI, 120, .inl tx))]) (vp_Si (fun o9 => o9 = ftC tx tn i)) 0 0 (fun _ => False) := by
  refine Met.ofW (cc := cX5_signAt) (maxL := 2) (ret := (some .int)) (by decide) rfl ?_
  intro p e s m args below meth c s₁ B hml hv
  obtain ⟨rfl, hP, hKK⟩ := hv
  have hK := hKK.1
  have hx := B.exec
  have hb := B.bytes
  have hr := B.returns
  have hts := atoms_spec (ws := wsX5_signAt) B.pre
  have hown : s.vm.findClass RX5 = some m.cls := findClass_of_methodNamed B.named
  have hlocks := B.notSynchronized
  have hP : va_P D vwCl [(a0, .inr (5, [.ref ag, .ref am, .ref ad, .ref b0, .int (nI tn), .int v1, .int v2, .int v3, .int v4])), (ag, .inl (cI, 120, .inl tx))] s.heap := hP
  have hl := lv_entry ([.ref a0, .int (nI i)]) (n := 2) (Nat.le_of_ble_eq_true rfl)
  rw [lg_entry_eq]
  generalize (lg_sl ([.ref a0, .int (nI i)]) ++ List.replicate (2 - (lg_sl ([.ref a0, .int (nI i)])).length) Slot.unset).toArray = ls at hl ⊢
  have hl : lv_has ls 2 [(0, .ref a0), (1, .int (nI i))] := hl
  refine lv_iload_n hx hb dX5_signAt_0 rfl (lv_at hl 1 rfl) ?_
  refine lv_aload_n hx hb dX5_signAt_1 rfl (lv_at hl 0 rfl) ?_
  refine va_get (D := D) (ci := 5) (v := .int (nI tn)) (C := RX5) (T := TX5) (N := 9) hx hb hts (by decide +kernel) hown hK hP 0 rfl rfl 4 (by decide) (hts (.fieldLink RX5 28 "FiberTrace$LinkText" "size" "I") (by decide +kernel)) (fun _ h9 => h9) rfl dX5_signAt_2 ?_
  refine lv_icmp_ge (tgt := 19) hx hb dX5_signAt_5 (by decide) (fun c5 => ?_) (fun c5 => ?_)
  · have c5n : tn ≤ i := ft_leN (by omega) (by omega) c5
    have hv9 : ftC tx tn i = 0 := ftC_out c5n
    refine lv_iconst (v := 0) hx hb dX5_signAt_19 (by decide) ?_
    exact W.iret (v := 0) hx hb hr (fun t ht hW => ⟨0, rfl, (by show (0 : Int32) = ftC tx tn i; exact hv9.symm), ht⟩) (fun _ h9 => absurd h9 List.not_mem_nil) dX5_signAt_20
  · have c5n : i < tn := ft_nleN (by omega) (by omega) c5
    have hv9 : ftC tx tn i = tx i := ftC_in c5n
    refine lv_aload_n hx hb dX5_signAt_8 rfl (lv_at hl 0 rfl) ?_
    refine va_get (D := D) (ci := 5) (v := .ref ag) (C := RX5) (T := TX5) (N := 9) hx hb hts (by decide +kernel) hown hK hP 0 rfl rfl 0 (by decide) (hts (.fieldLink RX5 9 "FiberTrace$LinkText" "signs" "[I") (by decide +kernel)) (fun _ h9 => h9) rfl dX5_signAt_9 ?_
    refine lv_iload_n hx hb dX5_signAt_12 rfl (lv_at hl 1 rfl) ?_
    refine ft_csi (r := ftAt 120 tx (nI i)) (va_runSN (As := [.ref ag, .int (nI i)]) (rest := []) ⟨hx, hb, hml, hown, hts⟩ (c_X10_at l D cI cS ag 120 tx (nI i) (by first | assumption | omega)) ⟨va_cnB 2 hts gX5_signAt_X10_at_n93 rfl rfl rfl (hKK.2 _ (List.mem_of_getElem? (i := 8) rfl)) (hts (.initialized RX10) (by decide +kernel)) (by decide +kernel) ⟨Nat.le_of_ble_eq_true rfl, Nat.le_of_ble_eq_true rfl⟩, hts (.static yX10_at) (by decide +kernel), trivial⟩ (ft_preRO hP hKK [1] rfl) rfl rfl hl.1 rfl (lv_room (Nat.le_of_ble_eq_true rfl)) dX5_signAt_13 ⟨Nat.le_of_ble_eq_true rfl, Nat.le_of_ble_eq_true rfl⟩) ?_
    refine ft_top (y := tx i) (ftAt_N (by omega) (by omega)) ?_
    refine lv_goto (tgt := 20) hx hb dX5_signAt_16 (by decide) ?_
    exact W.iret (v := tx i) hx hb hr (fun t ht hW => ⟨tx i, rfl, (by show (tx i : Int32) = ftC tx tn i; exact hv9.symm), ht⟩) (fun _ h9 => absurd h9 List.not_mem_nil) dX5_signAt_20
set_option maxHeartbeats 4000000 in
set_option maxRecDepth 100000 in
theorem c_X5_nameOf (l : Launch) (D : va_G) (cI cS : ClassId) (sK sV : Nat → Nat) (j : Nat) (hj : j < 6) : Met l yX5_nameOf wsX5_nameOf ({ frames := 0, cells := 0, slots := 0, locals := 0 }) (ftROS D cI cS sK sV [.int (nI j)] []) (ftSr (sK j)) 0 0 (fun _ => False) := by
  refine Met.ofW (cc := cX5_nameOf) (maxL := 1) (ret := (some (.object "java/lang/String"))) (by decide) rfl ?_
  intro p e s m args below meth c s₁ B hml hv
  obtain ⟨rfl, hP, hKK, hSt⟩ := hv
  have hS : va_S (fun _ => False) s.heap s.heap [] := va_S.rf
  have hK := hKK.1
  have hx := B.exec
  have hb := B.bytes
  have hr := B.returns
  have hts := atoms_spec (ws := wsX5_nameOf) B.pre
  have hown : s.vm.findClass RX5 = some m.cls := findClass_of_methodNamed B.named
  have hlocks := B.notSynchronized
  have hP : va_P D vwCl [] s.heap := hP
  have hl := lv_entry ([.int (nI j)]) (n := 1) (Nat.le_of_ble_eq_true rfl)
  rw [lg_entry_eq]
  generalize (lg_sl ([.int (nI j)]) ++ List.replicate (1 - (lg_sl ([.int (nI j)])).length) Slot.unset).toArray = ls at hl ⊢
  have hl : lv_has ls 1 [(0, .int (nI j))] := hl
  refine lv_iload_n hx hb dX5_nameOf_0 rfl (lv_at hl 0 rfl) ?_
  by_cases c1_0 : (nI j) = 0
  · refine lv_tableIn (off := 35) (tgt := 36) hx hb dX5_nameOf_1 (by rw [c1_0]; decide) (by rw [c1_0]; decide) (by rw [c1_0]; decide) (by decide) ?_
    refine va_ldcS hx hb hown (hSt.2.2.2.1 0 (by omega)) dX5_nameOf_36 ?_
    exact W.aret (v := .ref (sK 0)) hx hb hr (Or.inl ⟨_, rfl⟩) (Or.inr ⟨_, rfl⟩) (fun t ht hW => ⟨(by rw [show j = 0 from ft_eqN (by omega) (by omega) c1_0]), ht⟩) (fun _ h9 => absurd h9 List.not_mem_nil) dX5_nameOf_38
  by_cases c1_1 : (nI j) = 1
  · refine lv_tableIn (off := 38) (tgt := 39) hx hb dX5_nameOf_1 (by rw [c1_1]; decide) (by rw [c1_1]; decide) (by rw [c1_1]; decide) (by decide) ?_
    refine va_ldcS hx hb hown (hSt.2.2.2.1 1 (by omega)) dX5_nameOf_39 ?_
    exact W.aret (v := .ref (sK 1)) hx hb hr (Or.inl ⟨_, rfl⟩) (Or.inr ⟨_, rfl⟩) (fun t ht hW => ⟨(by rw [show j = 1 from ft_eqN (by omega) (by omega) c1_1]), ht⟩) (fun _ h9 => absurd h9 List.not_mem_nil) dX5_nameOf_41
  by_cases c1_2 : (nI j) = 2
  · refine lv_tableIn (off := 41) (tgt := 42) hx hb dX5_nameOf_1 (by rw [c1_2]; decide) (by rw [c1_2]; decide) (by rw [c1_2]; decide) (by decide) ?_
    refine va_ldcS hx hb hown (hSt.2.2.2.1 2 (by omega)) dX5_nameOf_42 ?_
    exact W.aret (v := .ref (sK 2)) hx hb hr (Or.inl ⟨_, rfl⟩) (Or.inr ⟨_, rfl⟩) (fun t ht hW => ⟨(by rw [show j = 2 from ft_eqN (by omega) (by omega) c1_2]), ht⟩) (fun _ h9 => absurd h9 List.not_mem_nil) dX5_nameOf_44
  by_cases c1_3 : (nI j) = 3
  · refine lv_tableIn (off := 44) (tgt := 45) hx hb dX5_nameOf_1 (by rw [c1_3]; decide) (by rw [c1_3]; decide) (by rw [c1_3]; decide) (by decide) ?_
    refine va_ldcS hx hb hown (hSt.2.2.2.1 3 (by omega)) dX5_nameOf_45 ?_
    exact W.aret (v := .ref (sK 3)) hx hb hr (Or.inl ⟨_, rfl⟩) (Or.inr ⟨_, rfl⟩) (fun t ht hW => ⟨(by rw [show j = 3 from ft_eqN (by omega) (by omega) c1_3]), ht⟩) (fun _ h9 => absurd h9 List.not_mem_nil) dX5_nameOf_47
  by_cases c1_4 : (nI j) = 4
  · refine lv_tableIn (off := 47) (tgt := 48) hx hb dX5_nameOf_1 (by rw [c1_4]; decide) (by rw [c1_4]; decide) (by rw [c1_4]; decide) (by decide) ?_
    refine va_ldcS hx hb hown (hSt.2.2.2.1 4 (by omega)) dX5_nameOf_48 ?_
    exact W.aret (v := .ref (sK 4)) hx hb hr (Or.inl ⟨_, rfl⟩) (Or.inr ⟨_, rfl⟩) (fun t ht hW => ⟨(by rw [show j = 4 from ft_eqN (by omega) (by omega) c1_4]), ht⟩) (fun _ h9 => absurd h9 List.not_mem_nil) dX5_nameOf_50
  have c1_0i := lv_neT (a := 0) c1_0 (by decide)
  have c1_1i := lv_neT (a := 1) c1_1 (by decide)
  have c1_2i := lv_neT (a := 2) c1_2 (by decide)
  have c1_3i := lv_neT (a := 3) c1_3 (by decide)
  have c1_4i := lv_neT (a := 4) c1_4 (by decide)
  refine lv_tableOut (tgt := 51) hx hb dX5_nameOf_1 (by omega) (by decide) ?_
  have h5 : j = 5 := by
    have q0 : j ≠ 0 := fun q => c1_0 (by rw [q]; rfl)
    have q1 : j ≠ 1 := fun q => c1_1 (by rw [q]; rfl)
    have q2 : j ≠ 2 := fun q => c1_2 (by rw [q]; rfl)
    have q3 : j ≠ 3 := fun q => c1_3 (by rw [q]; rfl)
    have q4 : j ≠ 4 := fun q => c1_4 (by rw [q]; rfl)
    omega
  refine va_ldcS hx hb hown (hSt.2.2.2.1 5 (by omega)) dX5_nameOf_51 ?_
  exact W.aret (v := .ref (sK 5)) hx hb hr (Or.inl ⟨_, rfl⟩) (Or.inr ⟨_, rfl⟩) (fun t ht hW => ⟨(by rw [h5]), ht⟩) (fun _ h9 => absurd h9 List.not_mem_nil) dX5_nameOf_53
set_option maxHeartbeats 4000000 in
set_option maxRecDepth 100000 in
theorem c_X5_numbersOf (l : Launch) (D : va_G) (cI cS : ClassId) (x : Int32)  : Met l yX5_numbersOf wsX5_numbersOf ({ frames := 0, cells := 0, slots := 0, locals := 0 }) (ftRO D cI cS [.int x] []) (vp_Si (fun o9 => o9 = nI (ftNs x))) 0 0 (fun _ => False) := by
  refine Met.ofW (cc := cX5_numbersOf) (maxL := 1) (ret := (some .int)) (by decide) rfl ?_
  intro p e s m args below meth c s₁ B hml hv
  obtain ⟨rfl, hP, hKK⟩ := hv
  have hK := hKK.1
  have hx := B.exec
  have hb := B.bytes
  have hr := B.returns
  have hts := atoms_spec (ws := wsX5_numbersOf) B.pre
  have hown : s.vm.findClass RX5 = some m.cls := findClass_of_methodNamed B.named
  have hlocks := B.notSynchronized
  have hP : va_P D vwCl [] s.heap := hP
  have hl := lv_entry ([.int x]) (n := 1) (Nat.le_of_ble_eq_true rfl)
  rw [lg_entry_eq]
  generalize (lg_sl ([.int x]) ++ List.replicate (1 - (lg_sl ([.int x])).length) Slot.unset).toArray = ls at hl ⊢
  have hl : lv_has ls 1 [(0, .int x)] := hl
  refine lv_iload_n hx hb dX5_numbersOf_0 rfl (lv_at hl 0 rfl) ?_
  refine lv_iconst (v := 3) hx hb dX5_numbersOf_1 (by decide) ?_
  refine lv_icmp_ge (tgt := 7) hx hb dX5_numbersOf_2 (by decide) (fun c2 => ?_) (fun c2 => ?_)
  · refine lv_iload_n hx hb dX5_numbersOf_7 rfl (lv_at hl 0 rfl) ?_
    refine lv_iconst (v := 4) hx hb dX5_numbersOf_8 (by decide) ?_
    refine lv_icmp_ne (tgt := 16) hx hb dX5_numbersOf_9 (by decide) (fun c9 => ?_) (fun c9 => ?_)
    · refine lv_iconst (v := 2) hx hb dX5_numbersOf_16 (by decide) ?_
      exact W.iret (v := 2) hx hb hr (fun t ht hW => ⟨2, rfl, (by show (2 : Int32) = nI (ftNs x); unfold ftNs; first | (rw [if_pos (Int32.not_le.mp c2)]; rfl) | (rw [if_neg (Int32.not_lt.mpr c2), if_pos c9]; rfl) | (rw [if_neg (Int32.not_lt.mpr c2), if_neg c9]; rfl)), ht⟩) (fun _ h9 => absurd h9 List.not_mem_nil) dX5_numbersOf_17
    · refine lv_iconst (v := 3) hx hb dX5_numbersOf_12 (by decide) ?_
      refine lv_goto (tgt := 17) hx hb dX5_numbersOf_13 (by decide) ?_
      exact W.iret (v := 3) hx hb hr (fun t ht hW => ⟨3, rfl, (by show (3 : Int32) = nI (ftNs x); unfold ftNs; first | (rw [if_pos (Int32.not_le.mp c2)]; rfl) | (rw [if_neg (Int32.not_lt.mpr c2), if_pos c9]; rfl) | (rw [if_neg (Int32.not_lt.mpr c2), if_neg c9]; rfl)), ht⟩) (fun _ h9 => absurd h9 List.not_mem_nil) dX5_numbersOf_17
  · refine lv_iconst (v := 1) hx hb dX5_numbersOf_5 (by decide) ?_
    exact W.iret (v := 1) hx hb hr (fun t ht hW => ⟨1, rfl, (by show (1 : Int32) = nI (ftNs x); unfold ftNs; first | (rw [if_pos (Int32.not_le.mp c2)]; rfl) | (rw [if_neg (Int32.not_lt.mpr c2), if_pos c9]; rfl) | (rw [if_neg (Int32.not_lt.mpr c2), if_neg c9]; rfl)), ht⟩) (fun _ h9 => absurd h9 List.not_mem_nil) dX5_numbersOf_6
set_option maxHeartbeats 4000000 in
set_option maxRecDepth 100000 in
theorem c_X5_isLetter (l : Launch) (D : va_G) (cI cS : ClassId) (x : Int32)  : Met l yX5_isLetter wsX5_isLetter ({ frames := 1, cells := 0, slots := 0, locals := 22 }) (ftRO D cI cS [.int x] []) (vp_Si (fun o9 => o9 = ftB (ftLet x))) 0 0 (fun _ => False) := by
  refine Met.ofW (cc := cX5_isLetter) (maxL := 1) (ret := (some .boolean)) (by decide) rfl ?_
  intro p e s m args below meth c s₁ B hml hv
  obtain ⟨rfl, hP, hKK⟩ := hv
  have hK := hKK.1
  have hx := B.exec
  have hb := B.bytes
  have hr := B.returns
  have hts := atoms_spec (ws := wsX5_isLetter) B.pre
  have hown : s.vm.findClass RX5 = some m.cls := findClass_of_methodNamed B.named
  have hlocks := B.notSynchronized
  have hP : va_P D vwCl [] s.heap := hP
  have hl := lv_entry ([.int x]) (n := 1) (Nat.le_of_ble_eq_true rfl)
  rw [lg_entry_eq]
  generalize (lg_sl ([.int x]) ++ List.replicate (1 - (lg_sl ([.int x])).length) Slot.unset).toArray = ls at hl ⊢
  have hl : lv_has ls 1 [(0, .int x)] := hl
  refine lv_iload_n hx hb dX5_isLetter_0 rfl (lv_at hl 0 rfl) ?_
  refine lv_bipush (v := 97) hx hb dX5_isLetter_1 (by decide) ?_
  refine lv_bipush (v := 122) hx hb dX5_isLetter_3 (by decide) ?_
  refine ft_csi (r := ftB (97 ≤ x ∧ x ≤ 122)) (va_runSN (As := [.int x, .int 97, .int 122]) (rest := []) ⟨hx, hb, hml, hown, hts⟩ (c_X10_isWithin l D cI cS x 97 122) ⟨va_cnB 3 hts gX5_isLetter_X10_isWithin_n115 rfl rfl rfl (hKK.2 _ (List.mem_of_getElem? (i := 9) rfl)) (hts (.initialized RX10) (by decide +kernel)) (by decide +kernel) ⟨Nat.le_of_ble_eq_true rfl, Nat.le_of_ble_eq_true rfl⟩, hts (.static yX10_isWithin) (by decide +kernel), trivial⟩ (ft_preRO hP hKK [] rfl) rfl rfl hl.1 rfl (lv_room (Nat.le_of_ble_eq_true rfl)) dX5_isLetter_5 ⟨Nat.le_of_ble_eq_true rfl, Nat.le_of_ble_eq_true rfl⟩) ?_
  refine lv_if_ne (tgt := 22) hx hb dX5_isLetter_8 (by decide) (fun c8 => ?_) (fun c8 => ?_)
  · replace c8 := ftB_ne c8
    have hv9 : ftB (ftLet x) = 1 := ftB_t (Or.inl c8)
    refine lv_iconst (v := 1) hx hb dX5_isLetter_22 (by decide) ?_
    refine lv_goto (tgt := 27) hx hb dX5_isLetter_23 (by decide) ?_
    exact W.zret (v := 1) hx hb hr (by rfl) (fun t ht hW => ⟨1, rfl, (by show (1 : Int32) = ftB (ftLet x); exact hv9.symm), ht⟩) (fun _ h9 => absurd h9 List.not_mem_nil) dX5_isLetter_27
  · replace c8 := ftB_eq c8
    refine lv_iload_n hx hb dX5_isLetter_11 rfl (lv_at hl 0 rfl) ?_
    refine lv_bipush (v := 65) hx hb dX5_isLetter_12 (by decide) ?_
    refine lv_bipush (v := 90) hx hb dX5_isLetter_14 (by decide) ?_
    refine ft_csi (r := ftB (65 ≤ x ∧ x ≤ 90)) (va_runSN (As := [.int x, .int 65, .int 90]) (rest := []) ⟨hx, hb, hml, hown, hts⟩ (c_X10_isWithin l D cI cS x 65 90) ⟨va_cnB 3 hts gX5_isLetter_X10_isWithin_n115 rfl rfl rfl (hKK.2 _ (List.mem_of_getElem? (i := 9) rfl)) (hts (.initialized RX10) (by decide +kernel)) (by decide +kernel) ⟨Nat.le_of_ble_eq_true rfl, Nat.le_of_ble_eq_true rfl⟩, hts (.static yX10_isWithin) (by decide +kernel), trivial⟩ (ft_preRO hP hKK [] rfl) rfl rfl hl.1 rfl (lv_room (Nat.le_of_ble_eq_true rfl)) dX5_isLetter_16 ⟨Nat.le_of_ble_eq_true rfl, Nat.le_of_ble_eq_true rfl⟩) ?_
    refine lv_if_eq (tgt := 26) hx hb dX5_isLetter_19 (by decide) (fun c19 => ?_) (fun c19 => ?_)
    · replace c19 := ftB_eq c19
      have hv9 : ftB (ftLet x) = 0 := ftB_f (fun q => q.elim c8 c19)
      refine lv_iconst (v := 0) hx hb dX5_isLetter_26 (by decide) ?_
      exact W.zret (v := 0) hx hb hr (by rfl) (fun t ht hW => ⟨0, rfl, (by show (0 : Int32) = ftB (ftLet x); exact hv9.symm), ht⟩) (fun _ h9 => absurd h9 List.not_mem_nil) dX5_isLetter_27
    · replace c19 := ftB_ne c19
      have hv9 : ftB (ftLet x) = 1 := ftB_t (Or.inr c19)
      refine lv_iconst (v := 1) hx hb dX5_isLetter_22 (by decide) ?_
      refine lv_goto (tgt := 27) hx hb dX5_isLetter_23 (by decide) ?_
      exact W.zret (v := 1) hx hb hr (by rfl) (fun t ht hW => ⟨1, rfl, (by show (1 : Int32) = ftB (ftLet x); exact hv9.symm), ht⟩) (fun _ h9 => absurd h9 List.not_mem_nil) dX5_isLetter_27
set_option maxHeartbeats 4000000 in
set_option maxRecDepth 100000 in
theorem c_X5_standsAt (l : Launch) (D : va_G) (cI cS : ClassId) (sK sV : Nat → Nat) (a0 ag am ad b0 : Nat) (tn : Nat) (v1 v2 v3 : Int32) (v4 : Int32) (tx : Nat → Int32) (j sp : Nat) (htn : tn ≤ 120) (hj : j < 6) (hsp : sp ≤ tn) : Met l yX5_standsAt wsX5_standsAt ({ frames := 5, cells := 0, slots := 0, locals := 115 }) (ftROS D cI cS sK sV [.ref a0, .ref (sK j), .int (nI sp)] [(a0, .inr (5, [.ref ag, .ref am, .ref ad, .ref b0, .int (nI tn), .int v1, .int v2, .int v3, .int v4])), (ag, .inl (cI, 120, .inl tx))]) (vp_Si (fun o9 => o9 = ftB (∀ t, t < ftWs j → ftC tx tn (sp + t) = ftLt (nI (100 * j + t))))) 0 0 (fun _ => False) := by
  refine Met.ofW (cc := cX5_standsAt) (maxL := 4) (ret := (some .boolean)) (by decide) rfl ?_
  intro p e s m args below meth c s₁ B hml hv
  obtain ⟨rfl, hP, hKK, hSt⟩ := hv
  have hS : va_S (fun _ => False) s.heap s.heap [] := va_S.rf
  have hK := hKK.1
  have hx := B.exec
  have hb := B.bytes
  have hr := B.returns
  have hts := atoms_spec (ws := wsX5_standsAt) B.pre
  have hown : s.vm.findClass RX5 = some m.cls := findClass_of_methodNamed B.named
  have hlocks := B.notSynchronized
  have hP : va_P D vwCl [(a0, .inr (5, [.ref ag, .ref am, .ref ad, .ref b0, .int (nI tn), .int v1, .int v2, .int v3, .int v4])), (ag, .inl (cI, 120, .inl tx))] s.heap := hP
  have hl := lv_entry ([.ref a0, .ref (sK j), .int (nI sp)]) (n := 4) (Nat.le_of_ble_eq_true rfl)
  rw [lg_entry_eq]
  generalize (lg_sl ([.ref a0, .ref (sK j), .int (nI sp)]) ++ List.replicate (4 - (lg_sl ([.ref a0, .ref (sK j), .int (nI sp)])).length) Slot.unset).toArray = ls at hl ⊢
  have hl : lv_has ls 4 [(0, .ref a0), (1, .ref (sK j)), (2, .int (nI sp))] := hl
  have hw11 := ftWs_le j
  refine lv_iconst (v := 0) hx hb dX5_standsAt_0 (by decide) ?_
  refine lv_istore_n (lv' := [(3, .int 0), (0, .ref a0), (1, .ref (sK j)), (2, .int (nI sp))]) hx hb dX5_standsAt_1 rfl hl (by decide) rfl (fun ls hl => ?_)
  have lp2 : ∀ (n2 : Nat) (k : Nat) (x2_3 : Int32), ftWs j - k < n2 → (k ≤ ftWs j) → (∀ t, t < k → ftC tx tn (sp + t) = ftLt (nI (100 * j + t))) → x2_3 = nI k → ∀ ls : Array Slot, lv_has ls 4 [(0, .ref a0), (1, .ref (sK j)), (2, .int (nI sp)), (3, .int x2_3)] → W p l e (headSpec wsX5_standsAt { frames := 5, cells := 0, slots := 0, locals := 115 }).room s m ([.ref a0, .ref (sK j), .int (nI sp)] : List Value).toArray below meth c s.heap [] 0 0 (MQ below (vp_Si (fun o9 => o9 = ftB (∀ t, t < ftWs j → ftC tx tn (sp + t) = ftLt (nI (100 * j + t))))) ([.ref a0, .ref (sK j), .int (nI sp)] : List Value).toArray s 0 0 (fun _ => False)) (F0 m 2 ls []) := by
    intro n2
    induction n2 with
    | zero =>
      intro k x2_3  hm2
      exact absurd hm2 (Nat.not_lt_zero _)
    | succ n2 ih2 =>
      intro k x2_3  hm2 hks hall ex2_3  ls hl
      subst ex2_3
      refine lv_iload_n hx hb dX5_standsAt_2 rfl (lv_at hl 3 rfl) ?_
      refine lv_aload_n hx hb dX5_standsAt_3 rfl (lv_at hl 1 rfl) ?_
      refine ft_csi (r := nI (ftWs j)) (va_runV (C := RJ0) (As := []) (rest := [.int (nI k)]) ⟨hx, hb, hml, hown, hts⟩ (c_J0_length_8abf5 l D cI cS sK sV j (by first | assumption | omega)) (cwV 0 hts gX5_standsAt_J0_length_8abf5 rfl rfl rfl (by decide +kernel) ⟨Nat.le_of_ble_eq_true rfl, Nat.le_of_ble_eq_true rfl⟩) (ft_preJ (a := sK j) hP hKK hSt hS (vk_recv hSt.1 (by omega) hS) [] rfl) rfl rfl hl.1 rfl (lv_room (Nat.le_of_ble_eq_true rfl)) dX5_standsAt_4 ⟨Nat.le_of_ble_eq_true rfl, Nat.le_of_ble_eq_true rfl⟩) ?_
      refine lv_icmp_ge (tgt := 33) hx hb dX5_standsAt_7 (by decide) (fun c7 => ?_) (fun c7 => ?_)
      · have c7n : (ftWs j) ≤ k := ft_leN (by omega) (by omega) c7
        have hv9 : ftB (∀ t, t < ftWs j → ftC tx tn (sp + t) = ftLt (nI (100 * j + t))) = 1 := ftB_t (fun t ht => hall t (by omega))
        refine lv_iconst (v := 1) hx hb dX5_standsAt_33 (by decide) ?_
        exact W.zret (v := 1) hx hb hr (by rfl) (fun t ht hW => ⟨1, rfl, (by show (1 : Int32) = ftB (∀ t, t < ftWs j → ftC tx tn (sp + t) = ftLt (nI (100 * j + t))); exact hv9.symm), ht⟩) (fun _ h9 => absurd h9 List.not_mem_nil) dX5_standsAt_34
      · have c7n : k < (ftWs j) := ft_nleN (by omega) (by omega) c7
        refine lv_aload_n hx hb dX5_standsAt_10 rfl (lv_at hl 0 rfl) ?_
        refine lv_iload_n hx hb dX5_standsAt_11 rfl (lv_at hl 2 rfl) ?_
        refine lv_iload_n hx hb dX5_standsAt_12 rfl (lv_at hl 3 rfl) ?_
        refine lv_iadd hx hb dX5_standsAt_13 ?_
        refine ft_top (y := nI (sp + k)) (ft_addN sp k) ?_
        refine ft_csi (r := ftC tx tn (sp + k)) (va_runV (C := RX5) (As := [.int (nI (sp + k))]) (rest := []) ⟨hx, hb, hml, hown, hts⟩ (c_X5_signAt l D cI cS a0 ag am ad b0 tn v1 v2 v3 v4 tx (sp + k) (by first | assumption | omega) (by first | assumption | omega)) (cwV 1 hts gX5_standsAt_X5_signAt rfl rfl rfl (by decide +kernel) ⟨Nat.le_of_ble_eq_true rfl, Nat.le_of_ble_eq_true rfl⟩) (ft_preROV (ci := 5) (q0 := 0) hP hKK [0, 1] rfl rfl rfl) rfl rfl hl.1 rfl (lv_room (Nat.le_of_ble_eq_true rfl)) dX5_standsAt_14 ⟨Nat.le_of_ble_eq_true rfl, Nat.le_of_ble_eq_true rfl⟩) ?_
        refine lv_aload_n hx hb dX5_standsAt_17 rfl (lv_at hl 1 rfl) ?_
        refine lv_iload_n hx hb dX5_standsAt_18 rfl (lv_at hl 3 rfl) ?_
        refine ft_csi (r := ftLt (nI (100 * j + k))) (va_runV (C := RJ0) (As := [.int (nI k)]) (rest := [.int (ftC tx tn (sp + k))]) ⟨hx, hb, hml, hown, hts⟩ (c_J0_charAt_5068e l D cI cS sK sV j k (by first | assumption | omega) (by first | assumption | omega)) (cwV 1 hts gX5_standsAt_J0_charAt_5068e rfl rfl rfl (by decide +kernel) ⟨Nat.le_of_ble_eq_true rfl, Nat.le_of_ble_eq_true rfl⟩) (ft_preJ (a := sK j) hP hKK hSt hS (vk_recv hSt.1 (by omega) hS) [] rfl) rfl rfl hl.1 rfl (lv_room (Nat.le_of_ble_eq_true rfl)) dX5_standsAt_19 ⟨Nat.le_of_ble_eq_true rfl, Nat.le_of_ble_eq_true rfl⟩) ?_
        refine lv_icmp_eq (tgt := 27) hx hb dX5_standsAt_22 (by decide) (fun c22 => ?_) (fun c22 => ?_)
        · refine lv_iinc (v := nI (k + 1)) (lv' := [(3, .int (nI (k + 1))), (0, .ref a0), (1, .ref (sK j)), (2, .int (nI sp))]) hx hb dX5_standsAt_27 hl (k := 3) rfl (ft_inc k) (by decide) rfl (fun ls hl => ?_)
          refine lv_goto (tgt := 2) hx hb dX5_standsAt_30 (by decide) ?_
          exact ih2 (k + 1) (nI (k + 1))  (by omega) (by omega) (by intro t ht; rcases Nat.lt_succ_iff_lt_or_eq.mp ht with q | q; exact hall t q; subst q; exact c22) (by first | rfl | assumption)  ls (lv_sub hl [1, 2, 3, 0] rfl)
        · have hv9 : ftB (∀ t, t < ftWs j → ftC tx tn (sp + t) = ftLt (nI (100 * j + t))) = 0 := ftB_f (fun q => c22 (q k c7n))
          refine lv_iconst (v := 0) hx hb dX5_standsAt_25 (by decide) ?_
          exact W.zret (v := 0) hx hb hr (by rfl) (fun t ht hW => ⟨0, rfl, (by show (0 : Int32) = ftB (∀ t, t < ftWs j → ftC tx tn (sp + t) = ftLt (nI (100 * j + t))); exact hv9.symm), ht⟩) (fun _ h9 => absurd h9 List.not_mem_nil) dX5_standsAt_26
  exact lp2 _ 0 0  (Nat.lt_succ_self _) (by omega) (by intro t ht; exact absurd ht (Nat.not_lt_zero t)) (by rfl) ls (lv_sub hl [1, 2, 3, 0] rfl)
set_option maxHeartbeats 4000000 in
set_option maxRecDepth 100000 in
theorem c_X5_wordAt (l : Launch) (D : va_G) (cI cS : ClassId) (sK sV : Nat → Nat) (a0 ag am ad b0 : Nat) (tn : Nat) (v1 v2 v3 : Int32) (v4 : Int32) (tx : Nat → Int32) (sp : Nat) (htn : tn ≤ 120) (hsp : sp ≤ tn) : Met l yX5_wordAt wsX5_wordAt ({ frames := 6, cells := 0, slots := 0, locals := 138 }) (ftROS D cI cS sK sV [.ref a0, .int (nI sp)] [(a0, .inr (5, [.ref ag, .ref am, .ref ad, .ref b0, .int (nI tn), .int v1, .int v2, .int v3, .int v4])), (ag, .inl (cI, 120, .inl tx))]) (vp_Si (fun o9 => o9 = ftFst (ftCW9 tx tn sp) 6)) 0 0 (fun _ => False) := by
  refine Met.ofW (cc := cX5_wordAt) (maxL := 4) (ret := (some .int)) (by decide) rfl ?_
  intro p e s m args below meth c s₁ B hml hv
  obtain ⟨rfl, hP, hKK, hSt⟩ := hv
  have hS : va_S (fun _ => False) s.heap s.heap [] := va_S.rf
  have hK := hKK.1
  have hx := B.exec
  have hb := B.bytes
  have hr := B.returns
  have hts := atoms_spec (ws := wsX5_wordAt) B.pre
  have hown : s.vm.findClass RX5 = some m.cls := findClass_of_methodNamed B.named
  have hlocks := B.notSynchronized
  have hP : va_P D vwCl [(a0, .inr (5, [.ref ag, .ref am, .ref ad, .ref b0, .int (nI tn), .int v1, .int v2, .int v3, .int v4])), (ag, .inl (cI, 120, .inl tx))] s.heap := hP
  have hl := lv_entry ([.ref a0, .int (nI sp)]) (n := 4) (Nat.le_of_ble_eq_true rfl)
  rw [lg_entry_eq]
  generalize (lg_sl ([.ref a0, .int (nI sp)]) ++ List.replicate (4 - (lg_sl ([.ref a0, .int (nI sp)])).length) Slot.unset).toArray = ls at hl ⊢
  have hl : lv_has ls 4 [(0, .ref a0), (1, .int (nI sp))] := hl
  refine lv_iconst (v := 0) hx hb dX5_wordAt_0 (by decide) ?_
  refine lv_istore_n (lv' := [(2, .int 0), (0, .ref a0), (1, .int (nI sp))]) hx hb dX5_wordAt_1 rfl hl (by decide) rfl (fun ls hl => ?_)
  have lp2 : ∀ (n2 : Nat) (j : Nat) (x2_2 : Int32), 6 - j < n2 → (j ≤ 6) → (∀ i, i < j → ¬ ftCW9 tx tn sp i) → x2_2 = nI j → ∀ ls : Array Slot, lv_has ls 4 [(0, .ref a0), (1, .int (nI sp)), (2, .int x2_2)] → W p l e (headSpec wsX5_wordAt { frames := 6, cells := 0, slots := 0, locals := 138 }).room s m ([.ref a0, .int (nI sp)] : List Value).toArray below meth c s.heap [] 0 0 (MQ below (vp_Si (fun o9 => o9 = ftFst (ftCW9 tx tn sp) 6)) ([.ref a0, .int (nI sp)] : List Value).toArray s 0 0 (fun _ => False)) (F0 m 2 ls []) := by
    intro n2
    induction n2 with
    | zero =>
      intro j x2_2  hm2
      exact absurd hm2 (Nat.not_lt_zero _)
    | succ n2 ih2 =>
      intro j x2_2  hm2 hj6 hno ex2_2  ls hl
      subst ex2_2
      refine lv_iload_n hx hb dX5_wordAt_2 rfl (lv_at hl 2 rfl) ?_
      refine lv_bipush (v := 6) hx hb dX5_wordAt_3 (by decide) ?_
      refine lv_icmp_ge (tgt := 46) hx hb dX5_wordAt_5 (by decide) (fun c5 => ?_) (fun c5 => ?_)
      · have c5n : 6 ≤ j := ft_leN (by omega) (by omega) c5
        refine lv_iconst (v := (-1)) hx hb dX5_wordAt_46 (by decide) ?_
        exact W.iret (v := (-1)) hx hb hr (fun t ht hW => ⟨(-1), rfl, (by show ((-1) : Int32) = ftFst (ftCW9 tx tn sp) 6; (obtain rfl : j = 6 := by omega); exact (ftFst_none hno).symm), ht⟩) (fun _ h9 => absurd h9 List.not_mem_nil) dX5_wordAt_47
      · have c5n : j < 6 := ft_nleN (by omega) (by omega) c5
        refine lv_iload_n hx hb dX5_wordAt_8 rfl (lv_at hl 2 rfl) ?_
        refine ft_csr (r := sK j) (va_runS (As := [.int (nI j)]) (rest := []) ⟨hx, hb, hml, hown, hts⟩ (c_X5_nameOf l D cI cS sK sV j (by first | assumption | omega)) (va_cwS 1 hts gX5_wordAt_X5_nameOf rfl rfl rfl (by decide +kernel) ⟨Nat.le_of_ble_eq_true rfl, Nat.le_of_ble_eq_true rfl⟩) (ft_preROS hP hKK hSt hS [] rfl) rfl rfl hl.1 rfl (lv_room (Nat.le_of_ble_eq_true rfl)) dX5_wordAt_9 ⟨Nat.le_of_ble_eq_true rfl, Nat.le_of_ble_eq_true rfl⟩) ?_
        have hw11 := ftWs_le j
        refine lv_astore_n (lv' := [(3, .ref (sK j)), (0, .ref a0), (1, .int (nI sp)), (2, .int (nI j))]) hx hb dX5_wordAt_12 rfl hl (by decide) rfl (fun ls hl => ?_)
        refine lv_aload_n hx hb dX5_wordAt_13 rfl (lv_at hl 1 rfl) ?_
        refine lv_aload_n hx hb dX5_wordAt_14 rfl (lv_at hl 0 rfl) ?_
        refine lv_iload_n hx hb dX5_wordAt_15 rfl (lv_at hl 2 rfl) ?_
        refine ft_csi (r := ftB (∀ t, t < ftWs j → ftC tx tn (sp + t) = ftLt (nI (100 * j + t)))) (va_runV (C := RX5) (As := [.ref (sK j), .int (nI sp)]) (rest := []) ⟨hx, hb, hml, hown, hts⟩ (c_X5_standsAt l D cI cS sK sV a0 ag am ad b0 tn v1 v2 v3 v4 tx j sp (by first | assumption | omega) (by first | assumption | omega) (by first | assumption | omega)) (cwV 2 hts gX5_wordAt_X5_standsAt rfl rfl rfl (by decide +kernel) ⟨Nat.le_of_ble_eq_true rfl, Nat.le_of_ble_eq_true rfl⟩) (ft_preROVS (ci := 5) (q0 := 0) hP hKK hSt hS [0, 1] rfl rfl rfl) rfl rfl hl.1 rfl (lv_room (Nat.le_of_ble_eq_true rfl)) dX5_wordAt_16 ⟨Nat.le_of_ble_eq_true rfl, Nat.le_of_ble_eq_true rfl⟩) ?_
        refine lv_if_eq (tgt := 40) hx hb dX5_wordAt_19 (by decide) (fun c19 => ?_) (fun c19 => ?_)
        · replace c19 := ftB_eq c19
          have hn9 : ¬ ftCW9 tx tn sp j := fun q => c19 q.1
          refine lv_iinc (v := nI (j + 1)) (lv' := [(2, .int (nI (j + 1))), (3, .ref (sK j)), (0, .ref a0), (1, .int (nI sp))]) hx hb dX5_wordAt_40 hl (k := 3) rfl (ft_inc j) (by decide) rfl (fun ls hl => ?_)
          refine lv_goto (tgt := 2) hx hb dX5_wordAt_43 (by decide) ?_
          exact ih2 (j + 1) (nI (j + 1))  (by omega) (by omega) (by intro i hi; rcases Nat.lt_succ_iff_lt_or_eq.mp hi with q | q; exact hno i q; subst q; exact hn9) (by first | rfl | assumption)  ls (lv_sub hl [2, 3, 0] rfl)
        · replace c19 := ftB_ne c19
          refine lv_aload_n hx hb dX5_wordAt_22 rfl (lv_at hl 1 rfl) ?_
          refine lv_iload_n hx hb dX5_wordAt_23 rfl (lv_at hl 2 rfl) ?_
          refine lv_aload_n hx hb dX5_wordAt_24 rfl (lv_at hl 0 rfl) ?_
          refine ft_csi (r := nI (ftWs j)) (va_runV (C := RJ0) (As := []) (rest := [.int (nI sp), .ref a0]) ⟨hx, hb, hml, hown, hts⟩ (c_J0_length_8abf5 l D cI cS sK sV j (by first | assumption | omega)) (cwV 0 hts gX5_wordAt_J0_length_8abf5 rfl rfl rfl (by decide +kernel) ⟨Nat.le_of_ble_eq_true rfl, Nat.le_of_ble_eq_true rfl⟩) (ft_preJ (a := sK j) hP hKK hSt hS (vk_recv hSt.1 (by omega) hS) [] rfl) rfl rfl hl.1 rfl (lv_room (Nat.le_of_ble_eq_true rfl)) dX5_wordAt_25 ⟨Nat.le_of_ble_eq_true rfl, Nat.le_of_ble_eq_true rfl⟩) ?_
          refine lv_iadd hx hb dX5_wordAt_28 ?_
          refine ft_top (y := nI (sp + (ftWs j))) (ft_addN sp (ftWs j)) ?_
          refine ft_csi (r := ftC tx tn (sp + (ftWs j))) (va_runV (C := RX5) (As := [.int (nI (sp + (ftWs j)))]) (rest := []) ⟨hx, hb, hml, hown, hts⟩ (c_X5_signAt l D cI cS a0 ag am ad b0 tn v1 v2 v3 v4 tx (sp + (ftWs j)) (by first | assumption | omega) (by first | assumption | omega)) (cwV 1 hts gX5_wordAt_X5_signAt rfl rfl rfl (by decide +kernel) ⟨Nat.le_of_ble_eq_true rfl, Nat.le_of_ble_eq_true rfl⟩) (ft_preROV (ci := 5) (q0 := 0) hP hKK [0, 1] rfl rfl rfl) rfl rfl hl.1 rfl (lv_room (Nat.le_of_ble_eq_true rfl)) dX5_wordAt_29 ⟨Nat.le_of_ble_eq_true rfl, Nat.le_of_ble_eq_true rfl⟩) ?_
          refine ft_csi (r := ftB (ftLet (ftC tx tn (sp + (ftWs j))))) (va_runS (As := [.int (ftC tx tn (sp + (ftWs j)))]) (rest := []) ⟨hx, hb, hml, hown, hts⟩ (c_X5_isLetter l D cI cS (ftC tx tn (sp + (ftWs j)))) (va_cwS 1 hts gX5_wordAt_X5_isLetter rfl rfl rfl (by decide +kernel) ⟨Nat.le_of_ble_eq_true rfl, Nat.le_of_ble_eq_true rfl⟩) (ft_preRO hP hKK [] rfl) rfl rfl hl.1 rfl (lv_room (Nat.le_of_ble_eq_true rfl)) dX5_wordAt_32 ⟨Nat.le_of_ble_eq_true rfl, Nat.le_of_ble_eq_true rfl⟩) ?_
          refine lv_if_ne (tgt := 40) hx hb dX5_wordAt_35 (by decide) (fun c35 => ?_) (fun c35 => ?_)
          · replace c35 := ftB_ne c35
            have hn9 : ¬ ftCW9 tx tn sp j := fun q => q.2 c35
            refine lv_iinc (v := nI (j + 1)) (lv' := [(2, .int (nI (j + 1))), (3, .ref (sK j)), (0, .ref a0), (1, .int (nI sp))]) hx hb dX5_wordAt_40 hl (k := 3) rfl (ft_inc j) (by decide) rfl (fun ls hl => ?_)
            refine lv_goto (tgt := 2) hx hb dX5_wordAt_43 (by decide) ?_
            exact ih2 (j + 1) (nI (j + 1))  (by omega) (by omega) (by intro i hi; rcases Nat.lt_succ_iff_lt_or_eq.mp hi with q | q; exact hno i q; subst q; exact hn9) (by first | rfl | assumption)  ls (lv_sub hl [2, 3, 0] rfl)
          · replace c35 := ftB_eq c35
            have hy9 : ftCW9 tx tn sp j := ⟨c19, c35⟩
            refine lv_iload_n hx hb dX5_wordAt_38 rfl (lv_at hl 3 rfl) ?_
            exact W.iret (v := nI j) hx hb hr (fun t ht hW => ⟨nI j, rfl, (by show (nI j : Int32) = ftFst (ftCW9 tx tn sp) 6; exact (ftFst_some (by omega) hy9 hno 6 (by omega)).symm), ht⟩) (fun _ h9 => absurd h9 List.not_mem_nil) dX5_wordAt_39
  exact lp2 _ 0 0  (Nat.lt_succ_self _) (by omega) (by intro i hi; exact absurd hi (Nat.not_lt_zero i)) (by rfl) ls (lv_sub hl [1, 2, 0] rfl)
set_option maxHeartbeats 4000000 in
set_option maxRecDepth 100000 in
theorem c_X5_readNumber (l : Launch) (D : va_G) (cI cS : ClassId) (sz : Nat) (a0 ag am ad b0 : Nat) (tn : Nat) (v1 v2 v3 : Int32) (sp : Nat) (tx nf : Nat → Int32) (i : Nat) (htn : tn ≤ 120) (hsp : sp ≤ tn) (hi : i < 3) : Met l yX5_readNumber wsX5_readNumber ({ frames := 2, cells := 0, slots := 0, locals := 42 }) (ftRW D cI cS [.ref a0, .int (nI i)] [(a0, .inr (5, [.ref ag, .ref am, .ref ad, .ref b0, .int (nI tn), .int v1, .int v2, .int v3, .int (nI sp)])), (ag, .inl (cI, 120, .inl tx)), (am, .inl (cI, 3, .inl nf))] sz) (ftQi D (ftB (ftNok tx tn sp)) [(a0, .inr (5, [.ref ag, .ref am, .ref ad, .ref b0, .int (nI tn), .int v1, .int v2, .int v3, .int (nI sp)])), (ag, .inl (cI, 120, .inl tx)), (am, .inl (cI, 3, .inl nf))] [(a0, .inr (5, [.ref ag, .ref am, .ref ad, .ref b0, .int (nI tn), .int v1, .int v2, .int v3, .int (nI (ftNe tx tn sp))])), (ag, .inl (cI, 120, .inl tx)), (am, .inl (cI, 3, .inl (ftNf tx tn sp i nf)))] sz) 0 0 (va_A [(a0, .inr (5, [.ref ag, .ref am, .ref ad, .ref b0, .int (nI tn), .int v1, .int v2, .int v3, .int (nI sp)])), (ag, .inl (cI, 120, .inl tx)), (am, .inl (cI, 3, .inl nf))] sz) := by
  refine Met.ofW (cc := cX5_readNumber) (maxL := 5) (ret := (some .boolean)) (by decide) rfl ?_
  intro p e s m args below meth c s₁ B hml hv
  obtain ⟨rfl, hsz, hP, hKK, hD0⟩ := hv
  have hK := hKK.1
  have hx := B.exec
  have hb := B.bytes
  have hr := B.returns
  have hts := atoms_spec (ws := wsX5_readNumber) B.pre
  have hown : s.vm.findClass RX5 = some m.cls := findClass_of_methodNamed B.named
  have hlocks := B.notSynchronized
  subst hsz
  have hD := hD0.self (sz := s.heap.size)
  generalize hAe : va_A [(a0, .inr (5, [.ref ag, .ref am, .ref ad, .ref b0, .int (nI tn), .int v1, .int v2, .int v3, .int (nI sp)])), (ag, .inl (cI, 120, .inl tx)), (am, .inl (cI, 3, .inl nf))] s.heap.size = A at hD ⊢
  have hA : ∀ q : Nat, s.heap.size ≤ q → A q := fun q h => by rw [← hAe]; exact Or.inr h
  have hS : va_S A s.heap s.heap [] := va_S.rf
  have hD : va_D A [(a0, .inr (5, [.ref ag, .ref am, .ref ad, .ref b0, .int (nI tn), .int v1, .int v2, .int v3, .int (nI sp)])), (ag, .inl (cI, 120, .inl tx)), (am, .inl (cI, 3, .inl nf))] := hD
  have hP : va_P D vwCl [(a0, .inr (5, [.ref ag, .ref am, .ref ad, .ref b0, .int (nI tn), .int v1, .int v2, .int v3, .int (nI sp)])), (ag, .inl (cI, 120, .inl tx)), (am, .inl (cI, 3, .inl nf))] s.heap := hP
  have hl := lv_entry ([.ref a0, .int (nI i)]) (n := 5) (Nat.le_of_ble_eq_true rfl)
  rw [lg_entry_eq]
  generalize (lg_sl ([.ref a0, .int (nI i)]) ++ List.replicate (5 - (lg_sl ([.ref a0, .int (nI i)])).length) Slot.unset).toArray = ls at hl ⊢
  have hl : lv_has ls 5 [(0, .ref a0), (1, .int (nI i))] := hl
  refine lv_aload_n hx hb dX5_readNumber_0 rfl (lv_at hl 0 rfl) ?_
  refine lv_aload_n hx hb dX5_readNumber_1 rfl (lv_at hl 0 rfl) ?_
  refine va_get (D := D) (ci := 5) (v := .int (nI sp)) (C := RX5) (T := TX5) (N := 9) hx hb hts (by decide +kernel) hown hK hP 0 rfl rfl 8 (by decide) (hts (.fieldLink RX5 42 "FiberTrace$LinkText" "position" "I") (by decide +kernel)) (fun _ h9 => h9) rfl dX5_readNumber_2 ?_
  refine ft_csi (r := ftC tx tn sp) (va_runV (C := RX5) (As := [.int (nI sp)]) (rest := []) ⟨hx, hb, hml, hown, hts⟩ (c_X5_signAt l D cI cS a0 ag am ad b0 tn v1 v2 v3 (nI sp) tx sp (by first | assumption | omega) (by first | assumption | omega)) (cwV 1 hts gX5_readNumber_X5_signAt rfl rfl rfl (by decide +kernel) ⟨Nat.le_of_ble_eq_true rfl, Nat.le_of_ble_eq_true rfl⟩) (ft_preROV (ci := 5) (q0 := 0) hP hKK [0, 1] rfl rfl rfl) rfl rfl hl.1 rfl (lv_room (Nat.le_of_ble_eq_true rfl)) dX5_readNumber_5 ⟨Nat.le_of_ble_eq_true rfl, Nat.le_of_ble_eq_true rfl⟩) ?_
  refine lv_bipush (v := 32) hx hb dX5_readNumber_8 (by decide) ?_
  refine lv_icmp_eq (tgt := 15) hx hb dX5_readNumber_10 (by decide) (fun c10 => ?_) (fun c10 => ?_)
  · have hsq : ftSp tx tn sp := ftSp_c.mpr c10
    have hlt9 := hsq.1
    refine lv_aload_n hx hb dX5_readNumber_15 rfl (lv_at hl 0 rfl) ?_
    refine lv_dup hx hb dX5_readNumber_16 rfl ?_
    refine va_get (D := D) (ci := 5) (v := .int (nI sp)) (C := RX5) (T := TX5) (N := 9) hx hb hts (by decide +kernel) hown hK hP 0 rfl rfl 8 (by decide) (hts (.fieldLink RX5 42 "FiberTrace$LinkText" "position" "I") (by decide +kernel)) (fun _ h9 => h9) rfl dX5_readNumber_17 ?_
    refine lv_iconst (v := 1) hx hb dX5_readNumber_20 (by decide) ?_
    refine lv_iadd hx hb dX5_readNumber_21 ?_
    refine ft_top (y := nI (sp + 1)) (ft_addN sp 1) ?_
    refine va_put (D := D) (ci := 5) (v := .int (nI (sp + 1))) (ty := .int) (C := RX5) (T := TX5) (N := 9) hx hb hts (by decide +kernel) tyX5 tyX5_ok nmX5 hown hK hP hD hS 0 rfl rfl 8 (by decide) (hts (.fieldLink RX5 42 "FiberTrace$LinkText" "position" "I") (by decide +kernel)) (fun _ h9 => h9) rfl (by decide +kernel) rfl rfl (Nat.le_of_ble_eq_true rfl) dX5_readNumber_22 (fun H locs hP hD hS => ?_)
    have hP : va_P D vwCl [(a0, .inr (5, [.ref ag, .ref am, .ref ad, .ref b0, .int (nI tn), .int v1, .int v2, .int v3, .int (nI (sp + 1))])), (ag, .inl (cI, 120, .inl tx)), (am, .inl (cI, 3, .inl nf))] H := hP
    have hD : va_D A [(a0, .inr (5, [.ref ag, .ref am, .ref ad, .ref b0, .int (nI tn), .int v1, .int v2, .int v3, .int (nI (sp + 1))])), (ag, .inl (cI, 120, .inl tx)), (am, .inl (cI, 3, .inl nf))] := hD
    refine lv_aload_n hx hb dX5_readNumber_25 rfl (lv_at hl 0 rfl) ?_
    refine lv_aload_n hx hb dX5_readNumber_26 rfl (lv_at hl 0 rfl) ?_
    refine va_get (D := D) (ci := 5) (v := .int (nI (sp + 1))) (C := RX5) (T := TX5) (N := 9) hx hb hts (by decide +kernel) hown hK hP 0 rfl rfl 8 (by decide) (hts (.fieldLink RX5 42 "FiberTrace$LinkText" "position" "I") (by decide +kernel)) (fun _ h9 => h9) rfl dX5_readNumber_27 ?_
    refine ft_csi (r := ftC tx tn (sp + 1)) (va_runV (C := RX5) (As := [.int (nI (sp + 1))]) (rest := []) ⟨hx, hb, hml, hown, hts⟩ (c_X5_signAt l D cI cS a0 ag am ad b0 tn v1 v2 v3 (nI (sp + 1)) tx (sp + 1) (by first | assumption | omega) (by first | assumption | omega)) (cwV 1 hts gX5_readNumber_X5_signAt rfl rfl rfl (by decide +kernel) ⟨Nat.le_of_ble_eq_true rfl, Nat.le_of_ble_eq_true rfl⟩) (ft_preROV (ci := 5) (q0 := 0) hP hKK [0, 1] rfl rfl rfl) rfl rfl hl.1 rfl (lv_room (Nat.le_of_ble_eq_true rfl)) dX5_readNumber_30 ⟨Nat.le_of_ble_eq_true rfl, Nat.le_of_ble_eq_true rfl⟩) ?_
    refine lv_bipush (v := 45) hx hb dX5_readNumber_33 (by decide) ?_
    refine lv_icmp_ne (tgt := 42) hx hb dX5_readNumber_35 (by decide) (fun c35 => ?_) (fun c35 => ?_)
    · have hng : ¬ ftNg tx tn sp := fun q => c35 (ftNg_c.mp q)
      have hq8 : ftNq tx tn sp = sp + 1 := ftNq_f hng
      refine lv_iconst (v := 0) hx hb dX5_readNumber_42 (by decide) ?_
      refine lv_istore_n (lv' := [(2, .int 0), (0, .ref a0), (1, .int (nI i))]) hx hb dX5_readNumber_43 rfl hl (by decide) rfl (fun ls hl => ?_)
      refine lv_iload_n hx hb dX5_readNumber_44 rfl (lv_at hl 0 rfl) ?_
      refine lv_if_eq (tgt := 58) hx hb dX5_readNumber_45 (by decide) (fun c45 => ?_) (fun c45 => ?_)
      · obtain ⟨q9, hq9⟩ : ∃ q9, q9 = sp + 1 := ⟨_, rfl⟩
        have hqq : ftNq tx tn sp = q9 := by rw [hq9]; exact hq8
        have hqn : q9 ≤ tn := by omega
        refine lv_iconst (v := 0) hx hb dX5_readNumber_58 (by decide) ?_
        refine lv_istore_n (lv' := [(3, .int 0), (2, .int 0), (0, .ref a0), (1, .int (nI i))]) hx hb dX5_readNumber_59 rfl hl (by decide) rfl (fun ls hl => ?_)
        refine lv_iconst (v := 0) hx hb dX5_readNumber_60 (by decide) ?_
        refine lv_istore (lv' := [(4, .int 0), (3, .int 0), (2, .int 0), (0, .ref a0), (1, .int (nI i))]) hx hb dX5_readNumber_61 hl (by decide) rfl (fun ls hl => ?_)
        have lp63 : ∀ (n63 : Nat) (k : Nat) (x63_3 : Int32) (x63_4 : Int32) (g63_a0_8 : Int32), 5 - k < n63 → (k ≤ 5) → (∀ t, t < k → ftDp tx tn q9 t) → (q9 + k ≤ tn) → x63_3 = ftDg tx q9 k → x63_4 = nI k → g63_a0_8 = nI (q9 + k) → ∀ (H : Heap) (locs : List Loc), va_P D vwCl [(a0, .inr (5, [.ref ag, .ref am, .ref ad, .ref b0, .int (nI tn), .int v1, .int v2, .int v3, .int g63_a0_8])), (ag, .inl (cI, 120, .inl tx)), (am, .inl (cI, 3, .inl nf))] H → va_D A [(a0, .inr (5, [.ref ag, .ref am, .ref ad, .ref b0, .int (nI tn), .int v1, .int v2, .int v3, .int g63_a0_8])), (ag, .inl (cI, 120, .inl tx)), (am, .inl (cI, 3, .inl nf))] → va_S A s.heap H locs → ∀ ls : Array Slot, lv_has ls 5 [(0, .ref a0), (1, .int (nI i)), (2, .int 0), (3, .int x63_3), (4, .int x63_4)] → W p l e (headSpec wsX5_readNumber { frames := 2, cells := 0, slots := 0, locals := 42 }).room s m ([.ref a0, .int (nI i)] : List Value).toArray below meth c H locs 0 0 (MQ below (ftQi D (ftB (ftNok tx tn sp)) [(a0, .inr (5, [.ref ag, .ref am, .ref ad, .ref b0, .int (nI tn), .int v1, .int v2, .int v3, .int (nI sp)])), (ag, .inl (cI, 120, .inl tx)), (am, .inl (cI, 3, .inl nf))] [(a0, .inr (5, [.ref ag, .ref am, .ref ad, .ref b0, .int (nI tn), .int v1, .int v2, .int v3, .int (nI (ftNe tx tn sp))])), (ag, .inl (cI, 120, .inl tx)), (am, .inl (cI, 3, .inl (ftNf tx tn sp i nf)))] s.heap.size) ([.ref a0, .int (nI i)] : List Value).toArray s 0 0 A) (F0 m 63 ls []) := by
          intro n63
          induction n63 with
          | zero =>
            intro k x63_3 x63_4 g63_a0_8 hm63
            exact absurd hm63 (Nat.not_lt_zero _)
          | succ n63 ih63 =>
            intro k x63_3 x63_4 g63_a0_8 hm63 hk5 hall hqk ex63_3 ex63_4 eg63_a0_8 H locs hP hD hS ls hl
            subst ex63_4
            subst eg63_a0_8
            refine lv_iload hx hb dX5_readNumber_63 (lv_at hl 4 rfl) ?_
            refine lv_iconst (v := 5) hx hb dX5_readNumber_65 (by decide) ?_
            refine lv_icmp_ge (tgt := 120) hx hb dX5_readNumber_66 (by decide) (fun c66 => ?_) (fun c66 => ?_)
            · have c66n : 5 ≤ k := ft_leN (by omega) (by omega) c66
              have hm : ftNd tx tn q9 = k := ftIni_of (by omega) hall (fun h => absurd h (by omega))
              refine lv_aload_n hx hb dX5_readNumber_120 rfl (lv_at hl 0 rfl) ?_
              refine va_get (D := D) (ci := 5) (v := .ref am) (C := RX5) (T := TX5) (N := 9) hx hb hts (by decide +kernel) hown hK hP 0 rfl rfl 1 (by decide) (hts (.fieldLink RX5 15 "FiberTrace$LinkText" "numbers" "[I") (by decide +kernel)) (fun _ h9 => h9) rfl dX5_readNumber_121 ?_
              refine lv_iload_n hx hb dX5_readNumber_124 rfl (lv_at hl 1 rfl) ?_
              refine lv_iload_n hx hb dX5_readNumber_125 rfl (lv_at hl 2 rfl) ?_
              refine lv_if_eq (tgt := 134) hx hb dX5_readNumber_126 (by decide) (fun c126 => ?_) (fun c126 => ?_)
              · refine lv_iload_n hx hb dX5_readNumber_134 rfl (lv_at hl 3 rfl) ?_
                refine ft_cv (wc := [(am, .inl (cI, 3, .inl nf))]) (wr := [(a0, .inr (5, [.ref ag, .ref am, .ref ad, .ref b0, .int (nI tn), .int v1, .int v2, .int v3, .int (nI (q9 + k))])), (ag, .inl (cI, 120, .inl tx))]) (w1 := [(am, .inl (cI, 3, .inl (ftPut 3 nf (nI i) x63_3)))]) (ws1 := [(a0, .inr (5, [.ref ag, .ref am, .ref ad, .ref b0, .int (nI tn), .int v1, .int v2, .int v3, .int (nI (q9 + k))])), (ag, .inl (cI, 120, .inl tx)), (am, .inl (cI, 3, .inl (ftPut 3 nf (nI i) x63_3)))]) (va_runSN (As := [.ref am, .int (nI i), .int x63_3]) (rest := []) ⟨hx, hb, hml, hown, hts⟩ (c_X10_put l D cI cS H.size am 3 nf (nI i) x63_3 (by first | assumption | omega)) ⟨va_cnB 3 hts gX5_readNumber_X10_put_n32 rfl rfl rfl (hKK.2 _ (List.mem_of_getElem? (i := 7) rfl)) (hts (.initialized RX10) (by decide +kernel)) (by decide +kernel) ⟨Nat.le_of_ble_eq_true rfl, Nat.le_of_ble_eq_true rfl⟩, hts (.static yX10_put) (by decide +kernel), trivial⟩ (ft_preRW hP hD hKK [2] rfl rfl rfl) rfl rfl hl.1 rfl (lv_room (Nat.le_of_ble_eq_true rfl)) dX5_readNumber_135 ⟨Nat.le_of_ble_eq_true rfl, Nat.le_of_ble_eq_true rfl⟩) hP hD hS hA [2] [0, 1] [0, 1, 2] rfl rfl (by decide) (by decide) (by decide) rfl rfl (fun H locs hP hD hS => ?_)
                rw [ftPut_N (k := i) (by omega) (by omega)] at hP hD
                have hP : va_P D vwCl [(a0, .inr (5, [.ref ag, .ref am, .ref ad, .ref b0, .int (nI tn), .int v1, .int v2, .int v3, .int (nI (q9 + k))])), (ag, .inl (cI, 120, .inl tx)), (am, .inl (cI, 3, .inl (upd nf i x63_3)))] H := hP
                have hD : va_D A [(a0, .inr (5, [.ref ag, .ref am, .ref ad, .ref b0, .int (nI tn), .int v1, .int v2, .int v3, .int (nI (q9 + k))])), (ag, .inl (cI, 120, .inl tx)), (am, .inl (cI, 3, .inl (upd nf i x63_3)))] := hD
                refine lv_iload hx hb dX5_readNumber_138 (lv_at hl 4 rfl) ?_
                refine lv_if_le (tgt := 147) hx hb dX5_readNumber_140 (by decide) (fun c140 => ?_) (fun c140 => ?_)
                · have c140n : k ≤ 0 := ft_leN (by omega) (by omega) c140
                  have hok9 : ftB (ftNok tx tn sp) = 0 := ftB_f (fun q => by have q2 := q.2; rw [hqq, hm] at q2; omega)
                  refine lv_iconst (v := 0) hx hb dX5_readNumber_147 (by decide) ?_
                  have hw9 : ([(a0, .inr (5, [.ref ag, .ref am, .ref ad, .ref b0, .int (nI tn), .int v1, .int v2, .int v3, .int (nI (q9 + k))])), (ag, .inl (cI, 120, .inl tx)), (am, .inl (cI, 3, .inl (upd nf i x63_3)))] : va_W) = [(a0, .inr (5, [.ref ag, .ref am, .ref ad, .ref b0, .int (nI tn), .int v1, .int v2, .int v3, .int (nI (ftNe tx tn sp))])), (ag, .inl (cI, 120, .inl tx)), (am, .inl (cI, 3, .inl (ftNf tx tn sp i nf)))] := by rw [ftNe_t hsq, ftNf_t hsq, hqq, hm]; first | (rw [ftNv_t hng, hqq, hm, ex63_3, ft_neg1]; done) | (rw [ftNv_f hng, hqq, hm, ex63_3, Int32.one_mul]; done)
                  rw [hw9] at hP hD
                  exact W.zret (v := 0) hx hb hr (by rfl) (fun t ht hW => ⟨⟨0, (), rfl, (by show (0 : Int32) = ftB (ftNok tx tn sp); exact hok9.symm), by rw [ht]; exact hP, by rw [hAe]; exact hD⟩, by rw [hAe]; exact hS.F ht⟩) hS.2.2 dX5_readNumber_148
                · have c140n : 0 < k := ft_nleN (by omega) (by omega) c140
                  have hok9 : ftB (ftNok tx tn sp) = 1 := ftB_t ⟨hsq, by rw [hqq, hm]; omega⟩
                  refine lv_iconst (v := 1) hx hb dX5_readNumber_143 (by decide) ?_
                  refine lv_goto (tgt := 148) hx hb dX5_readNumber_144 (by decide) ?_
                  have hw9 : ([(a0, .inr (5, [.ref ag, .ref am, .ref ad, .ref b0, .int (nI tn), .int v1, .int v2, .int v3, .int (nI (q9 + k))])), (ag, .inl (cI, 120, .inl tx)), (am, .inl (cI, 3, .inl (upd nf i x63_3)))] : va_W) = [(a0, .inr (5, [.ref ag, .ref am, .ref ad, .ref b0, .int (nI tn), .int v1, .int v2, .int v3, .int (nI (ftNe tx tn sp))])), (ag, .inl (cI, 120, .inl tx)), (am, .inl (cI, 3, .inl (ftNf tx tn sp i nf)))] := by rw [ftNe_t hsq, ftNf_t hsq, hqq, hm]; first | (rw [ftNv_t hng, hqq, hm, ex63_3, ft_neg1]; done) | (rw [ftNv_f hng, hqq, hm, ex63_3, Int32.one_mul]; done)
                  rw [hw9] at hP hD
                  exact W.zret (v := 1) hx hb hr (by rfl) (fun t ht hW => ⟨⟨1, (), rfl, (by show (1 : Int32) = ftB (ftNok tx tn sp); exact hok9.symm), by rw [ht]; exact hP, by rw [hAe]; exact hD⟩, by rw [hAe]; exact hS.F ht⟩) hS.2.2 dX5_readNumber_148
              · exact absurd rfl c126
            · have c66n : k < 5 := ft_nleN (by omega) (by omega) c66
              refine lv_aload_n hx hb dX5_readNumber_69 rfl (lv_at hl 0 rfl) ?_
              refine lv_aload_n hx hb dX5_readNumber_70 rfl (lv_at hl 0 rfl) ?_
              refine va_get (D := D) (ci := 5) (v := .int (nI (q9 + k))) (C := RX5) (T := TX5) (N := 9) hx hb hts (by decide +kernel) hown hK hP 0 rfl rfl 8 (by decide) (hts (.fieldLink RX5 42 "FiberTrace$LinkText" "position" "I") (by decide +kernel)) (fun _ h9 => h9) rfl dX5_readNumber_71 ?_
              refine ft_csi (r := ftC tx tn (q9 + k)) (va_runV (C := RX5) (As := [.int (nI (q9 + k))]) (rest := []) ⟨hx, hb, hml, hown, hts⟩ (c_X5_signAt l D cI cS a0 ag am ad b0 tn v1 v2 v3 (nI (q9 + k)) tx (q9 + k) (by first | assumption | omega) (by first | assumption | omega)) (cwV 1 hts gX5_readNumber_X5_signAt rfl rfl rfl (by decide +kernel) ⟨Nat.le_of_ble_eq_true rfl, Nat.le_of_ble_eq_true rfl⟩) (ft_preROV (ci := 5) (q0 := 0) hP hKK [0, 1] rfl rfl rfl) rfl rfl hl.1 rfl (lv_room (Nat.le_of_ble_eq_true rfl)) dX5_readNumber_74 ⟨Nat.le_of_ble_eq_true rfl, Nat.le_of_ble_eq_true rfl⟩) ?_
              refine lv_bipush (v := 48) hx hb dX5_readNumber_77 (by decide) ?_
              refine lv_bipush (v := 57) hx hb dX5_readNumber_79 (by decide) ?_
              refine ft_csi (r := ftB (48 ≤ (ftC tx tn (q9 + k)) ∧ (ftC tx tn (q9 + k)) ≤ 57)) (va_runSN (As := [.int (ftC tx tn (q9 + k)), .int 48, .int 57]) (rest := []) ⟨hx, hb, hml, hown, hts⟩ (c_X10_isWithin l D cI cS (ftC tx tn (q9 + k)) 48 57) ⟨va_cnB 3 hts gX5_readNumber_X10_isWithin_n115 rfl rfl rfl (hKK.2 _ (List.mem_of_getElem? (i := 9) rfl)) (hts (.initialized RX10) (by decide +kernel)) (by decide +kernel) ⟨Nat.le_of_ble_eq_true rfl, Nat.le_of_ble_eq_true rfl⟩, hts (.static yX10_isWithin) (by decide +kernel), trivial⟩ (ft_preRO hP hKK [] rfl) rfl rfl hl.1 rfl (lv_room (Nat.le_of_ble_eq_true rfl)) dX5_readNumber_81 ⟨Nat.le_of_ble_eq_true rfl, Nat.le_of_ble_eq_true rfl⟩) ?_
              refine lv_if_eq (tgt := 120) hx hb dX5_readNumber_84 (by decide) (fun c84 => ?_) (fun c84 => ?_)
              · replace c84 := ftB_eq c84
                have hm : ftNd tx tn q9 = k := ftIni_of (by omega) hall (fun _ q => c84 (ftDp_c.mp q))
                refine lv_aload_n hx hb dX5_readNumber_120 rfl (lv_at hl 0 rfl) ?_
                refine va_get (D := D) (ci := 5) (v := .ref am) (C := RX5) (T := TX5) (N := 9) hx hb hts (by decide +kernel) hown hK hP 0 rfl rfl 1 (by decide) (hts (.fieldLink RX5 15 "FiberTrace$LinkText" "numbers" "[I") (by decide +kernel)) (fun _ h9 => h9) rfl dX5_readNumber_121 ?_
                refine lv_iload_n hx hb dX5_readNumber_124 rfl (lv_at hl 1 rfl) ?_
                refine lv_iload_n hx hb dX5_readNumber_125 rfl (lv_at hl 2 rfl) ?_
                refine lv_if_eq (tgt := 134) hx hb dX5_readNumber_126 (by decide) (fun c126 => ?_) (fun c126 => ?_)
                · refine lv_iload_n hx hb dX5_readNumber_134 rfl (lv_at hl 3 rfl) ?_
                  refine ft_cv (wc := [(am, .inl (cI, 3, .inl nf))]) (wr := [(a0, .inr (5, [.ref ag, .ref am, .ref ad, .ref b0, .int (nI tn), .int v1, .int v2, .int v3, .int (nI (q9 + k))])), (ag, .inl (cI, 120, .inl tx))]) (w1 := [(am, .inl (cI, 3, .inl (ftPut 3 nf (nI i) x63_3)))]) (ws1 := [(a0, .inr (5, [.ref ag, .ref am, .ref ad, .ref b0, .int (nI tn), .int v1, .int v2, .int v3, .int (nI (q9 + k))])), (ag, .inl (cI, 120, .inl tx)), (am, .inl (cI, 3, .inl (ftPut 3 nf (nI i) x63_3)))]) (va_runSN (As := [.ref am, .int (nI i), .int x63_3]) (rest := []) ⟨hx, hb, hml, hown, hts⟩ (c_X10_put l D cI cS H.size am 3 nf (nI i) x63_3 (by first | assumption | omega)) ⟨va_cnB 3 hts gX5_readNumber_X10_put_n32 rfl rfl rfl (hKK.2 _ (List.mem_of_getElem? (i := 7) rfl)) (hts (.initialized RX10) (by decide +kernel)) (by decide +kernel) ⟨Nat.le_of_ble_eq_true rfl, Nat.le_of_ble_eq_true rfl⟩, hts (.static yX10_put) (by decide +kernel), trivial⟩ (ft_preRW hP hD hKK [2] rfl rfl rfl) rfl rfl hl.1 rfl (lv_room (Nat.le_of_ble_eq_true rfl)) dX5_readNumber_135 ⟨Nat.le_of_ble_eq_true rfl, Nat.le_of_ble_eq_true rfl⟩) hP hD hS hA [2] [0, 1] [0, 1, 2] rfl rfl (by decide) (by decide) (by decide) rfl rfl (fun H locs hP hD hS => ?_)
                  rw [ftPut_N (k := i) (by omega) (by omega)] at hP hD
                  have hP : va_P D vwCl [(a0, .inr (5, [.ref ag, .ref am, .ref ad, .ref b0, .int (nI tn), .int v1, .int v2, .int v3, .int (nI (q9 + k))])), (ag, .inl (cI, 120, .inl tx)), (am, .inl (cI, 3, .inl (upd nf i x63_3)))] H := hP
                  have hD : va_D A [(a0, .inr (5, [.ref ag, .ref am, .ref ad, .ref b0, .int (nI tn), .int v1, .int v2, .int v3, .int (nI (q9 + k))])), (ag, .inl (cI, 120, .inl tx)), (am, .inl (cI, 3, .inl (upd nf i x63_3)))] := hD
                  refine lv_iload hx hb dX5_readNumber_138 (lv_at hl 4 rfl) ?_
                  refine lv_if_le (tgt := 147) hx hb dX5_readNumber_140 (by decide) (fun c140 => ?_) (fun c140 => ?_)
                  · have c140n : k ≤ 0 := ft_leN (by omega) (by omega) c140
                    have hok9 : ftB (ftNok tx tn sp) = 0 := ftB_f (fun q => by have q2 := q.2; rw [hqq, hm] at q2; omega)
                    refine lv_iconst (v := 0) hx hb dX5_readNumber_147 (by decide) ?_
                    have hw9 : ([(a0, .inr (5, [.ref ag, .ref am, .ref ad, .ref b0, .int (nI tn), .int v1, .int v2, .int v3, .int (nI (q9 + k))])), (ag, .inl (cI, 120, .inl tx)), (am, .inl (cI, 3, .inl (upd nf i x63_3)))] : va_W) = [(a0, .inr (5, [.ref ag, .ref am, .ref ad, .ref b0, .int (nI tn), .int v1, .int v2, .int v3, .int (nI (ftNe tx tn sp))])), (ag, .inl (cI, 120, .inl tx)), (am, .inl (cI, 3, .inl (ftNf tx tn sp i nf)))] := by rw [ftNe_t hsq, ftNf_t hsq, hqq, hm]; first | (rw [ftNv_t hng, hqq, hm, ex63_3, ft_neg1]; done) | (rw [ftNv_f hng, hqq, hm, ex63_3, Int32.one_mul]; done)
                    rw [hw9] at hP hD
                    exact W.zret (v := 0) hx hb hr (by rfl) (fun t ht hW => ⟨⟨0, (), rfl, (by show (0 : Int32) = ftB (ftNok tx tn sp); exact hok9.symm), by rw [ht]; exact hP, by rw [hAe]; exact hD⟩, by rw [hAe]; exact hS.F ht⟩) hS.2.2 dX5_readNumber_148
                  · have c140n : 0 < k := ft_nleN (by omega) (by omega) c140
                    have hok9 : ftB (ftNok tx tn sp) = 1 := ftB_t ⟨hsq, by rw [hqq, hm]; omega⟩
                    refine lv_iconst (v := 1) hx hb dX5_readNumber_143 (by decide) ?_
                    refine lv_goto (tgt := 148) hx hb dX5_readNumber_144 (by decide) ?_
                    have hw9 : ([(a0, .inr (5, [.ref ag, .ref am, .ref ad, .ref b0, .int (nI tn), .int v1, .int v2, .int v3, .int (nI (q9 + k))])), (ag, .inl (cI, 120, .inl tx)), (am, .inl (cI, 3, .inl (upd nf i x63_3)))] : va_W) = [(a0, .inr (5, [.ref ag, .ref am, .ref ad, .ref b0, .int (nI tn), .int v1, .int v2, .int v3, .int (nI (ftNe tx tn sp))])), (ag, .inl (cI, 120, .inl tx)), (am, .inl (cI, 3, .inl (ftNf tx tn sp i nf)))] := by rw [ftNe_t hsq, ftNf_t hsq, hqq, hm]; first | (rw [ftNv_t hng, hqq, hm, ex63_3, ft_neg1]; done) | (rw [ftNv_f hng, hqq, hm, ex63_3, Int32.one_mul]; done)
                    rw [hw9] at hP hD
                    exact W.zret (v := 1) hx hb hr (by rfl) (fun t ht hW => ⟨⟨1, (), rfl, (by show (1 : Int32) = ftB (ftNok tx tn sp); exact hok9.symm), by rw [ht]; exact hP, by rw [hAe]; exact hD⟩, by rw [hAe]; exact hS.F ht⟩) hS.2.2 dX5_readNumber_148
                · exact absurd rfl c126
              · replace c84 := ftB_ne c84
                have hdp : ftDp tx tn q9 k := ftDp_c.mpr c84
                have hlt7 := hdp.1
                refine lv_iload_n hx hb dX5_readNumber_87 rfl (lv_at hl 3 rfl) ?_
                refine lv_bipush (v := 10) hx hb dX5_readNumber_88 (by decide) ?_
                refine lv_imul hx hb dX5_readNumber_90 ?_
                refine lv_aload_n hx hb dX5_readNumber_91 rfl (lv_at hl 0 rfl) ?_
                refine lv_aload_n hx hb dX5_readNumber_92 rfl (lv_at hl 0 rfl) ?_
                refine va_get (D := D) (ci := 5) (v := .int (nI (q9 + k))) (C := RX5) (T := TX5) (N := 9) hx hb hts (by decide +kernel) hown hK hP 0 rfl rfl 8 (by decide) (hts (.fieldLink RX5 42 "FiberTrace$LinkText" "position" "I") (by decide +kernel)) (fun _ h9 => h9) rfl dX5_readNumber_93 ?_
                refine ft_csi (r := ftC tx tn (q9 + k)) (va_runV (C := RX5) (As := [.int (nI (q9 + k))]) (rest := [.int (x63_3 * 10)]) ⟨hx, hb, hml, hown, hts⟩ (c_X5_signAt l D cI cS a0 ag am ad b0 tn v1 v2 v3 (nI (q9 + k)) tx (q9 + k) (by first | assumption | omega) (by first | assumption | omega)) (cwV 1 hts gX5_readNumber_X5_signAt rfl rfl rfl (by decide +kernel) ⟨Nat.le_of_ble_eq_true rfl, Nat.le_of_ble_eq_true rfl⟩) (ft_preROV (ci := 5) (q0 := 0) hP hKK [0, 1] rfl rfl rfl) rfl rfl hl.1 rfl (lv_room (Nat.le_of_ble_eq_true rfl)) dX5_readNumber_96 ⟨Nat.le_of_ble_eq_true rfl, Nat.le_of_ble_eq_true rfl⟩) ?_
                refine lv_iadd hx hb dX5_readNumber_99 ?_
                refine lv_bipush (v := 48) hx hb dX5_readNumber_100 (by decide) ?_
                refine lv_isub hx hb dX5_readNumber_102 ?_
                refine lv_istore_n (lv' := [(3, .int (((x63_3 * 10) + (ftC tx tn (q9 + k))) - 48)), (0, .ref a0), (1, .int (nI i)), (2, .int 0), (4, .int (nI k))]) hx hb dX5_readNumber_103 rfl hl (by decide) rfl (fun ls hl => ?_)
                refine lv_aload_n hx hb dX5_readNumber_104 rfl (lv_at hl 1 rfl) ?_
                refine lv_dup hx hb dX5_readNumber_105 rfl ?_
                refine va_get (D := D) (ci := 5) (v := .int (nI (q9 + k))) (C := RX5) (T := TX5) (N := 9) hx hb hts (by decide +kernel) hown hK hP 0 rfl rfl 8 (by decide) (hts (.fieldLink RX5 42 "FiberTrace$LinkText" "position" "I") (by decide +kernel)) (fun _ h9 => h9) rfl dX5_readNumber_106 ?_
                refine lv_iconst (v := 1) hx hb dX5_readNumber_109 (by decide) ?_
                refine lv_iadd hx hb dX5_readNumber_110 ?_
                refine ft_top (y := nI ((q9 + k) + 1)) (ft_addN (q9 + k) 1) ?_
                refine va_put (D := D) (ci := 5) (v := .int (nI ((q9 + k) + 1))) (ty := .int) (C := RX5) (T := TX5) (N := 9) hx hb hts (by decide +kernel) tyX5 tyX5_ok nmX5 hown hK hP hD hS 0 rfl rfl 8 (by decide) (hts (.fieldLink RX5 42 "FiberTrace$LinkText" "position" "I") (by decide +kernel)) (fun _ h9 => h9) rfl (by decide +kernel) rfl rfl (Nat.le_of_ble_eq_true rfl) dX5_readNumber_111 (fun H locs hP hD hS => ?_)
                have hP : va_P D vwCl [(a0, .inr (5, [.ref ag, .ref am, .ref ad, .ref b0, .int (nI tn), .int v1, .int v2, .int v3, .int (nI ((q9 + k) + 1))])), (ag, .inl (cI, 120, .inl tx)), (am, .inl (cI, 3, .inl nf))] H := hP
                have hD : va_D A [(a0, .inr (5, [.ref ag, .ref am, .ref ad, .ref b0, .int (nI tn), .int v1, .int v2, .int v3, .int (nI ((q9 + k) + 1))])), (ag, .inl (cI, 120, .inl tx)), (am, .inl (cI, 3, .inl nf))] := hD
                refine lv_iinc (v := nI (k + 1)) (lv' := [(4, .int (nI (k + 1))), (3, .int (((x63_3 * 10) + (ftC tx tn (q9 + k))) - 48)), (0, .ref a0), (1, .int (nI i)), (2, .int 0)]) hx hb dX5_readNumber_114 hl (k := 4) rfl (ft_inc k) (by decide) rfl (fun ls hl => ?_)
                refine lv_goto (tgt := 63) hx hb dX5_readNumber_117 (by decide) ?_
                exact ih63 (k + 1) (((x63_3 * 10) + (ftC tx tn (q9 + k))) - 48) (nI (k + 1)) (nI ((q9 + k) + 1)) (by omega) (by omega) (by intro t ht; rcases Nat.lt_succ_iff_lt_or_eq.mp ht with q | q; exact hall t q; subst q; exact hdp) (by omega) (by rw [ex63_3, ftC_in hlt7, Int32.mul_comm]; rfl) (by first | rfl | assumption) (by rfl) _ _ hP hD hS ls (lv_sub hl [2, 3, 4, 1, 0] rfl)
        exact lp63 _ 0 0 0 (nI (sp + 1)) (Nat.lt_succ_self _) (by omega) (by intro t ht; exact absurd ht (Nat.not_lt_zero t)) (by omega) (by rfl) (by rfl) (by rw [hq9]) _ _ hP hD hS ls (lv_sub hl [3, 4, 2, 1, 0] rfl)
      · exact absurd rfl c45
    · have hng : ftNg tx tn sp := ftNg_c.mpr c35
      have hlt8 := hng.1
      have hq8 : ftNq tx tn sp = sp + 1 + 1 := ftNq_t hng
      refine lv_iconst (v := 1) hx hb dX5_readNumber_38 (by decide) ?_
      refine lv_goto (tgt := 43) hx hb dX5_readNumber_39 (by decide) ?_
      refine lv_istore_n (lv' := [(2, .int 1), (0, .ref a0), (1, .int (nI i))]) hx hb dX5_readNumber_43 rfl hl (by decide) rfl (fun ls hl => ?_)
      refine lv_iload_n hx hb dX5_readNumber_44 rfl (lv_at hl 0 rfl) ?_
      refine lv_if_eq (tgt := 58) hx hb dX5_readNumber_45 (by decide) (fun c45 => ?_) (fun c45 => ?_)
      · exact absurd c45 (by decide)
      · refine lv_aload_n hx hb dX5_readNumber_48 rfl (lv_at hl 1 rfl) ?_
        refine lv_dup hx hb dX5_readNumber_49 rfl ?_
        refine va_get (D := D) (ci := 5) (v := .int (nI (sp + 1))) (C := RX5) (T := TX5) (N := 9) hx hb hts (by decide +kernel) hown hK hP 0 rfl rfl 8 (by decide) (hts (.fieldLink RX5 42 "FiberTrace$LinkText" "position" "I") (by decide +kernel)) (fun _ h9 => h9) rfl dX5_readNumber_50 ?_
        refine lv_iconst (v := 1) hx hb dX5_readNumber_53 (by decide) ?_
        refine lv_iadd hx hb dX5_readNumber_54 ?_
        refine ft_top (y := nI ((sp + 1) + 1)) (ft_addN (sp + 1) 1) ?_
        refine va_put (D := D) (ci := 5) (v := .int (nI ((sp + 1) + 1))) (ty := .int) (C := RX5) (T := TX5) (N := 9) hx hb hts (by decide +kernel) tyX5 tyX5_ok nmX5 hown hK hP hD hS 0 rfl rfl 8 (by decide) (hts (.fieldLink RX5 42 "FiberTrace$LinkText" "position" "I") (by decide +kernel)) (fun _ h9 => h9) rfl (by decide +kernel) rfl rfl (Nat.le_of_ble_eq_true rfl) dX5_readNumber_55 (fun H locs hP hD hS => ?_)
        have hP : va_P D vwCl [(a0, .inr (5, [.ref ag, .ref am, .ref ad, .ref b0, .int (nI tn), .int v1, .int v2, .int v3, .int (nI ((sp + 1) + 1))])), (ag, .inl (cI, 120, .inl tx)), (am, .inl (cI, 3, .inl nf))] H := hP
        have hD : va_D A [(a0, .inr (5, [.ref ag, .ref am, .ref ad, .ref b0, .int (nI tn), .int v1, .int v2, .int v3, .int (nI ((sp + 1) + 1))])), (ag, .inl (cI, 120, .inl tx)), (am, .inl (cI, 3, .inl nf))] := hD
        obtain ⟨q9, hq9⟩ : ∃ q9, q9 = (sp + 1) + 1 := ⟨_, rfl⟩
        have hqq : ftNq tx tn sp = q9 := by rw [hq9]; exact hq8
        have hqn : q9 ≤ tn := by omega
        refine lv_iconst (v := 0) hx hb dX5_readNumber_58 (by decide) ?_
        refine lv_istore_n (lv' := [(3, .int 0), (2, .int 1), (0, .ref a0), (1, .int (nI i))]) hx hb dX5_readNumber_59 rfl hl (by decide) rfl (fun ls hl => ?_)
        refine lv_iconst (v := 0) hx hb dX5_readNumber_60 (by decide) ?_
        refine lv_istore (lv' := [(4, .int 0), (3, .int 0), (2, .int 1), (0, .ref a0), (1, .int (nI i))]) hx hb dX5_readNumber_61 hl (by decide) rfl (fun ls hl => ?_)
        have lp63 : ∀ (n63 : Nat) (k : Nat) (x63_3 : Int32) (x63_4 : Int32) (g63_a0_8 : Int32), 5 - k < n63 → (k ≤ 5) → (∀ t, t < k → ftDp tx tn q9 t) → (q9 + k ≤ tn) → x63_3 = ftDg tx q9 k → x63_4 = nI k → g63_a0_8 = nI (q9 + k) → ∀ (H : Heap) (locs : List Loc), va_P D vwCl [(a0, .inr (5, [.ref ag, .ref am, .ref ad, .ref b0, .int (nI tn), .int v1, .int v2, .int v3, .int g63_a0_8])), (ag, .inl (cI, 120, .inl tx)), (am, .inl (cI, 3, .inl nf))] H → va_D A [(a0, .inr (5, [.ref ag, .ref am, .ref ad, .ref b0, .int (nI tn), .int v1, .int v2, .int v3, .int g63_a0_8])), (ag, .inl (cI, 120, .inl tx)), (am, .inl (cI, 3, .inl nf))] → va_S A s.heap H locs → ∀ ls : Array Slot, lv_has ls 5 [(0, .ref a0), (1, .int (nI i)), (2, .int 1), (3, .int x63_3), (4, .int x63_4)] → W p l e (headSpec wsX5_readNumber { frames := 2, cells := 0, slots := 0, locals := 42 }).room s m ([.ref a0, .int (nI i)] : List Value).toArray below meth c H locs 0 0 (MQ below (ftQi D (ftB (ftNok tx tn sp)) [(a0, .inr (5, [.ref ag, .ref am, .ref ad, .ref b0, .int (nI tn), .int v1, .int v2, .int v3, .int (nI sp)])), (ag, .inl (cI, 120, .inl tx)), (am, .inl (cI, 3, .inl nf))] [(a0, .inr (5, [.ref ag, .ref am, .ref ad, .ref b0, .int (nI tn), .int v1, .int v2, .int v3, .int (nI (ftNe tx tn sp))])), (ag, .inl (cI, 120, .inl tx)), (am, .inl (cI, 3, .inl (ftNf tx tn sp i nf)))] s.heap.size) ([.ref a0, .int (nI i)] : List Value).toArray s 0 0 A) (F0 m 63 ls []) := by
          intro n63
          induction n63 with
          | zero =>
            intro k x63_3 x63_4 g63_a0_8 hm63
            exact absurd hm63 (Nat.not_lt_zero _)
          | succ n63 ih63 =>
            intro k x63_3 x63_4 g63_a0_8 hm63 hk5 hall hqk ex63_3 ex63_4 eg63_a0_8 H locs hP hD hS ls hl
            subst ex63_4
            subst eg63_a0_8
            refine lv_iload hx hb dX5_readNumber_63 (lv_at hl 4 rfl) ?_
            refine lv_iconst (v := 5) hx hb dX5_readNumber_65 (by decide) ?_
            refine lv_icmp_ge (tgt := 120) hx hb dX5_readNumber_66 (by decide) (fun c66 => ?_) (fun c66 => ?_)
            · have c66n : 5 ≤ k := ft_leN (by omega) (by omega) c66
              have hm : ftNd tx tn q9 = k := ftIni_of (by omega) hall (fun h => absurd h (by omega))
              refine lv_aload_n hx hb dX5_readNumber_120 rfl (lv_at hl 0 rfl) ?_
              refine va_get (D := D) (ci := 5) (v := .ref am) (C := RX5) (T := TX5) (N := 9) hx hb hts (by decide +kernel) hown hK hP 0 rfl rfl 1 (by decide) (hts (.fieldLink RX5 15 "FiberTrace$LinkText" "numbers" "[I") (by decide +kernel)) (fun _ h9 => h9) rfl dX5_readNumber_121 ?_
              refine lv_iload_n hx hb dX5_readNumber_124 rfl (lv_at hl 1 rfl) ?_
              refine lv_iload_n hx hb dX5_readNumber_125 rfl (lv_at hl 2 rfl) ?_
              refine lv_if_eq (tgt := 134) hx hb dX5_readNumber_126 (by decide) (fun c126 => ?_) (fun c126 => ?_)
              · exact absurd c126 (by decide)
              · refine lv_iload_n hx hb dX5_readNumber_129 rfl (lv_at hl 3 rfl) ?_
                refine lv_ineg hx hb dX5_readNumber_130 ?_
                refine lv_goto (tgt := 135) hx hb dX5_readNumber_131 (by decide) ?_
                refine ft_cv (wc := [(am, .inl (cI, 3, .inl nf))]) (wr := [(a0, .inr (5, [.ref ag, .ref am, .ref ad, .ref b0, .int (nI tn), .int v1, .int v2, .int v3, .int (nI (q9 + k))])), (ag, .inl (cI, 120, .inl tx))]) (w1 := [(am, .inl (cI, 3, .inl (ftPut 3 nf (nI i) (-x63_3))))]) (ws1 := [(a0, .inr (5, [.ref ag, .ref am, .ref ad, .ref b0, .int (nI tn), .int v1, .int v2, .int v3, .int (nI (q9 + k))])), (ag, .inl (cI, 120, .inl tx)), (am, .inl (cI, 3, .inl (ftPut 3 nf (nI i) (-x63_3))))]) (va_runSN (As := [.ref am, .int (nI i), .int (-x63_3)]) (rest := []) ⟨hx, hb, hml, hown, hts⟩ (c_X10_put l D cI cS H.size am 3 nf (nI i) (-x63_3) (by first | assumption | omega)) ⟨va_cnB 3 hts gX5_readNumber_X10_put_n32 rfl rfl rfl (hKK.2 _ (List.mem_of_getElem? (i := 7) rfl)) (hts (.initialized RX10) (by decide +kernel)) (by decide +kernel) ⟨Nat.le_of_ble_eq_true rfl, Nat.le_of_ble_eq_true rfl⟩, hts (.static yX10_put) (by decide +kernel), trivial⟩ (ft_preRW hP hD hKK [2] rfl rfl rfl) rfl rfl hl.1 rfl (lv_room (Nat.le_of_ble_eq_true rfl)) dX5_readNumber_135 ⟨Nat.le_of_ble_eq_true rfl, Nat.le_of_ble_eq_true rfl⟩) hP hD hS hA [2] [0, 1] [0, 1, 2] rfl rfl (by decide) (by decide) (by decide) rfl rfl (fun H locs hP hD hS => ?_)
                rw [ftPut_N (k := i) (by omega) (by omega)] at hP hD
                have hP : va_P D vwCl [(a0, .inr (5, [.ref ag, .ref am, .ref ad, .ref b0, .int (nI tn), .int v1, .int v2, .int v3, .int (nI (q9 + k))])), (ag, .inl (cI, 120, .inl tx)), (am, .inl (cI, 3, .inl (upd nf i (-x63_3))))] H := hP
                have hD : va_D A [(a0, .inr (5, [.ref ag, .ref am, .ref ad, .ref b0, .int (nI tn), .int v1, .int v2, .int v3, .int (nI (q9 + k))])), (ag, .inl (cI, 120, .inl tx)), (am, .inl (cI, 3, .inl (upd nf i (-x63_3))))] := hD
                refine lv_iload hx hb dX5_readNumber_138 (lv_at hl 4 rfl) ?_
                refine lv_if_le (tgt := 147) hx hb dX5_readNumber_140 (by decide) (fun c140 => ?_) (fun c140 => ?_)
                · have c140n : k ≤ 0 := ft_leN (by omega) (by omega) c140
                  have hok9 : ftB (ftNok tx tn sp) = 0 := ftB_f (fun q => by have q2 := q.2; rw [hqq, hm] at q2; omega)
                  refine lv_iconst (v := 0) hx hb dX5_readNumber_147 (by decide) ?_
                  have hw9 : ([(a0, .inr (5, [.ref ag, .ref am, .ref ad, .ref b0, .int (nI tn), .int v1, .int v2, .int v3, .int (nI (q9 + k))])), (ag, .inl (cI, 120, .inl tx)), (am, .inl (cI, 3, .inl (upd nf i (-x63_3))))] : va_W) = [(a0, .inr (5, [.ref ag, .ref am, .ref ad, .ref b0, .int (nI tn), .int v1, .int v2, .int v3, .int (nI (ftNe tx tn sp))])), (ag, .inl (cI, 120, .inl tx)), (am, .inl (cI, 3, .inl (ftNf tx tn sp i nf)))] := by rw [ftNe_t hsq, ftNf_t hsq, hqq, hm]; first | (rw [ftNv_t hng, hqq, hm, ex63_3, ft_neg1]; done) | (rw [ftNv_f hng, hqq, hm, ex63_3, Int32.one_mul]; done)
                  rw [hw9] at hP hD
                  exact W.zret (v := 0) hx hb hr (by rfl) (fun t ht hW => ⟨⟨0, (), rfl, (by show (0 : Int32) = ftB (ftNok tx tn sp); exact hok9.symm), by rw [ht]; exact hP, by rw [hAe]; exact hD⟩, by rw [hAe]; exact hS.F ht⟩) hS.2.2 dX5_readNumber_148
                · have c140n : 0 < k := ft_nleN (by omega) (by omega) c140
                  have hok9 : ftB (ftNok tx tn sp) = 1 := ftB_t ⟨hsq, by rw [hqq, hm]; omega⟩
                  refine lv_iconst (v := 1) hx hb dX5_readNumber_143 (by decide) ?_
                  refine lv_goto (tgt := 148) hx hb dX5_readNumber_144 (by decide) ?_
                  have hw9 : ([(a0, .inr (5, [.ref ag, .ref am, .ref ad, .ref b0, .int (nI tn), .int v1, .int v2, .int v3, .int (nI (q9 + k))])), (ag, .inl (cI, 120, .inl tx)), (am, .inl (cI, 3, .inl (upd nf i (-x63_3))))] : va_W) = [(a0, .inr (5, [.ref ag, .ref am, .ref ad, .ref b0, .int (nI tn), .int v1, .int v2, .int v3, .int (nI (ftNe tx tn sp))])), (ag, .inl (cI, 120, .inl tx)), (am, .inl (cI, 3, .inl (ftNf tx tn sp i nf)))] := by rw [ftNe_t hsq, ftNf_t hsq, hqq, hm]; first | (rw [ftNv_t hng, hqq, hm, ex63_3, ft_neg1]; done) | (rw [ftNv_f hng, hqq, hm, ex63_3, Int32.one_mul]; done)
                  rw [hw9] at hP hD
                  exact W.zret (v := 1) hx hb hr (by rfl) (fun t ht hW => ⟨⟨1, (), rfl, (by show (1 : Int32) = ftB (ftNok tx tn sp); exact hok9.symm), by rw [ht]; exact hP, by rw [hAe]; exact hD⟩, by rw [hAe]; exact hS.F ht⟩) hS.2.2 dX5_readNumber_148
            · have c66n : k < 5 := ft_nleN (by omega) (by omega) c66
              refine lv_aload_n hx hb dX5_readNumber_69 rfl (lv_at hl 0 rfl) ?_
              refine lv_aload_n hx hb dX5_readNumber_70 rfl (lv_at hl 0 rfl) ?_
              refine va_get (D := D) (ci := 5) (v := .int (nI (q9 + k))) (C := RX5) (T := TX5) (N := 9) hx hb hts (by decide +kernel) hown hK hP 0 rfl rfl 8 (by decide) (hts (.fieldLink RX5 42 "FiberTrace$LinkText" "position" "I") (by decide +kernel)) (fun _ h9 => h9) rfl dX5_readNumber_71 ?_
              refine ft_csi (r := ftC tx tn (q9 + k)) (va_runV (C := RX5) (As := [.int (nI (q9 + k))]) (rest := []) ⟨hx, hb, hml, hown, hts⟩ (c_X5_signAt l D cI cS a0 ag am ad b0 tn v1 v2 v3 (nI (q9 + k)) tx (q9 + k) (by first | assumption | omega) (by first | assumption | omega)) (cwV 1 hts gX5_readNumber_X5_signAt rfl rfl rfl (by decide +kernel) ⟨Nat.le_of_ble_eq_true rfl, Nat.le_of_ble_eq_true rfl⟩) (ft_preROV (ci := 5) (q0 := 0) hP hKK [0, 1] rfl rfl rfl) rfl rfl hl.1 rfl (lv_room (Nat.le_of_ble_eq_true rfl)) dX5_readNumber_74 ⟨Nat.le_of_ble_eq_true rfl, Nat.le_of_ble_eq_true rfl⟩) ?_
              refine lv_bipush (v := 48) hx hb dX5_readNumber_77 (by decide) ?_
              refine lv_bipush (v := 57) hx hb dX5_readNumber_79 (by decide) ?_
              refine ft_csi (r := ftB (48 ≤ (ftC tx tn (q9 + k)) ∧ (ftC tx tn (q9 + k)) ≤ 57)) (va_runSN (As := [.int (ftC tx tn (q9 + k)), .int 48, .int 57]) (rest := []) ⟨hx, hb, hml, hown, hts⟩ (c_X10_isWithin l D cI cS (ftC tx tn (q9 + k)) 48 57) ⟨va_cnB 3 hts gX5_readNumber_X10_isWithin_n115 rfl rfl rfl (hKK.2 _ (List.mem_of_getElem? (i := 9) rfl)) (hts (.initialized RX10) (by decide +kernel)) (by decide +kernel) ⟨Nat.le_of_ble_eq_true rfl, Nat.le_of_ble_eq_true rfl⟩, hts (.static yX10_isWithin) (by decide +kernel), trivial⟩ (ft_preRO hP hKK [] rfl) rfl rfl hl.1 rfl (lv_room (Nat.le_of_ble_eq_true rfl)) dX5_readNumber_81 ⟨Nat.le_of_ble_eq_true rfl, Nat.le_of_ble_eq_true rfl⟩) ?_
              refine lv_if_eq (tgt := 120) hx hb dX5_readNumber_84 (by decide) (fun c84 => ?_) (fun c84 => ?_)
              · replace c84 := ftB_eq c84
                have hm : ftNd tx tn q9 = k := ftIni_of (by omega) hall (fun _ q => c84 (ftDp_c.mp q))
                refine lv_aload_n hx hb dX5_readNumber_120 rfl (lv_at hl 0 rfl) ?_
                refine va_get (D := D) (ci := 5) (v := .ref am) (C := RX5) (T := TX5) (N := 9) hx hb hts (by decide +kernel) hown hK hP 0 rfl rfl 1 (by decide) (hts (.fieldLink RX5 15 "FiberTrace$LinkText" "numbers" "[I") (by decide +kernel)) (fun _ h9 => h9) rfl dX5_readNumber_121 ?_
                refine lv_iload_n hx hb dX5_readNumber_124 rfl (lv_at hl 1 rfl) ?_
                refine lv_iload_n hx hb dX5_readNumber_125 rfl (lv_at hl 2 rfl) ?_
                refine lv_if_eq (tgt := 134) hx hb dX5_readNumber_126 (by decide) (fun c126 => ?_) (fun c126 => ?_)
                · exact absurd c126 (by decide)
                · refine lv_iload_n hx hb dX5_readNumber_129 rfl (lv_at hl 3 rfl) ?_
                  refine lv_ineg hx hb dX5_readNumber_130 ?_
                  refine lv_goto (tgt := 135) hx hb dX5_readNumber_131 (by decide) ?_
                  refine ft_cv (wc := [(am, .inl (cI, 3, .inl nf))]) (wr := [(a0, .inr (5, [.ref ag, .ref am, .ref ad, .ref b0, .int (nI tn), .int v1, .int v2, .int v3, .int (nI (q9 + k))])), (ag, .inl (cI, 120, .inl tx))]) (w1 := [(am, .inl (cI, 3, .inl (ftPut 3 nf (nI i) (-x63_3))))]) (ws1 := [(a0, .inr (5, [.ref ag, .ref am, .ref ad, .ref b0, .int (nI tn), .int v1, .int v2, .int v3, .int (nI (q9 + k))])), (ag, .inl (cI, 120, .inl tx)), (am, .inl (cI, 3, .inl (ftPut 3 nf (nI i) (-x63_3))))]) (va_runSN (As := [.ref am, .int (nI i), .int (-x63_3)]) (rest := []) ⟨hx, hb, hml, hown, hts⟩ (c_X10_put l D cI cS H.size am 3 nf (nI i) (-x63_3) (by first | assumption | omega)) ⟨va_cnB 3 hts gX5_readNumber_X10_put_n32 rfl rfl rfl (hKK.2 _ (List.mem_of_getElem? (i := 7) rfl)) (hts (.initialized RX10) (by decide +kernel)) (by decide +kernel) ⟨Nat.le_of_ble_eq_true rfl, Nat.le_of_ble_eq_true rfl⟩, hts (.static yX10_put) (by decide +kernel), trivial⟩ (ft_preRW hP hD hKK [2] rfl rfl rfl) rfl rfl hl.1 rfl (lv_room (Nat.le_of_ble_eq_true rfl)) dX5_readNumber_135 ⟨Nat.le_of_ble_eq_true rfl, Nat.le_of_ble_eq_true rfl⟩) hP hD hS hA [2] [0, 1] [0, 1, 2] rfl rfl (by decide) (by decide) (by decide) rfl rfl (fun H locs hP hD hS => ?_)
                  rw [ftPut_N (k := i) (by omega) (by omega)] at hP hD
                  have hP : va_P D vwCl [(a0, .inr (5, [.ref ag, .ref am, .ref ad, .ref b0, .int (nI tn), .int v1, .int v2, .int v3, .int (nI (q9 + k))])), (ag, .inl (cI, 120, .inl tx)), (am, .inl (cI, 3, .inl (upd nf i (-x63_3))))] H := hP
                  have hD : va_D A [(a0, .inr (5, [.ref ag, .ref am, .ref ad, .ref b0, .int (nI tn), .int v1, .int v2, .int v3, .int (nI (q9 + k))])), (ag, .inl (cI, 120, .inl tx)), (am, .inl (cI, 3, .inl (upd nf i (-x63_3))))] := hD
                  refine lv_iload hx hb dX5_readNumber_138 (lv_at hl 4 rfl) ?_
                  refine lv_if_le (tgt := 147) hx hb dX5_readNumber_140 (by decide) (fun c140 => ?_) (fun c140 => ?_)
                  · have c140n : k ≤ 0 := ft_leN (by omega) (by omega) c140
                    have hok9 : ftB (ftNok tx tn sp) = 0 := ftB_f (fun q => by have q2 := q.2; rw [hqq, hm] at q2; omega)
                    refine lv_iconst (v := 0) hx hb dX5_readNumber_147 (by decide) ?_
                    have hw9 : ([(a0, .inr (5, [.ref ag, .ref am, .ref ad, .ref b0, .int (nI tn), .int v1, .int v2, .int v3, .int (nI (q9 + k))])), (ag, .inl (cI, 120, .inl tx)), (am, .inl (cI, 3, .inl (upd nf i (-x63_3))))] : va_W) = [(a0, .inr (5, [.ref ag, .ref am, .ref ad, .ref b0, .int (nI tn), .int v1, .int v2, .int v3, .int (nI (ftNe tx tn sp))])), (ag, .inl (cI, 120, .inl tx)), (am, .inl (cI, 3, .inl (ftNf tx tn sp i nf)))] := by rw [ftNe_t hsq, ftNf_t hsq, hqq, hm]; first | (rw [ftNv_t hng, hqq, hm, ex63_3, ft_neg1]; done) | (rw [ftNv_f hng, hqq, hm, ex63_3, Int32.one_mul]; done)
                    rw [hw9] at hP hD
                    exact W.zret (v := 0) hx hb hr (by rfl) (fun t ht hW => ⟨⟨0, (), rfl, (by show (0 : Int32) = ftB (ftNok tx tn sp); exact hok9.symm), by rw [ht]; exact hP, by rw [hAe]; exact hD⟩, by rw [hAe]; exact hS.F ht⟩) hS.2.2 dX5_readNumber_148
                  · have c140n : 0 < k := ft_nleN (by omega) (by omega) c140
                    have hok9 : ftB (ftNok tx tn sp) = 1 := ftB_t ⟨hsq, by rw [hqq, hm]; omega⟩
                    refine lv_iconst (v := 1) hx hb dX5_readNumber_143 (by decide) ?_
                    refine lv_goto (tgt := 148) hx hb dX5_readNumber_144 (by decide) ?_
                    have hw9 : ([(a0, .inr (5, [.ref ag, .ref am, .ref ad, .ref b0, .int (nI tn), .int v1, .int v2, .int v3, .int (nI (q9 + k))])), (ag, .inl (cI, 120, .inl tx)), (am, .inl (cI, 3, .inl (upd nf i (-x63_3))))] : va_W) = [(a0, .inr (5, [.ref ag, .ref am, .ref ad, .ref b0, .int (nI tn), .int v1, .int v2, .int v3, .int (nI (ftNe tx tn sp))])), (ag, .inl (cI, 120, .inl tx)), (am, .inl (cI, 3, .inl (ftNf tx tn sp i nf)))] := by rw [ftNe_t hsq, ftNf_t hsq, hqq, hm]; first | (rw [ftNv_t hng, hqq, hm, ex63_3, ft_neg1]; done) | (rw [ftNv_f hng, hqq, hm, ex63_3, Int32.one_mul]; done)
                    rw [hw9] at hP hD
                    exact W.zret (v := 1) hx hb hr (by rfl) (fun t ht hW => ⟨⟨1, (), rfl, (by show (1 : Int32) = ftB (ftNok tx tn sp); exact hok9.symm), by rw [ht]; exact hP, by rw [hAe]; exact hD⟩, by rw [hAe]; exact hS.F ht⟩) hS.2.2 dX5_readNumber_148
              · replace c84 := ftB_ne c84
                have hdp : ftDp tx tn q9 k := ftDp_c.mpr c84
                have hlt7 := hdp.1
                refine lv_iload_n hx hb dX5_readNumber_87 rfl (lv_at hl 3 rfl) ?_
                refine lv_bipush (v := 10) hx hb dX5_readNumber_88 (by decide) ?_
                refine lv_imul hx hb dX5_readNumber_90 ?_
                refine lv_aload_n hx hb dX5_readNumber_91 rfl (lv_at hl 0 rfl) ?_
                refine lv_aload_n hx hb dX5_readNumber_92 rfl (lv_at hl 0 rfl) ?_
                refine va_get (D := D) (ci := 5) (v := .int (nI (q9 + k))) (C := RX5) (T := TX5) (N := 9) hx hb hts (by decide +kernel) hown hK hP 0 rfl rfl 8 (by decide) (hts (.fieldLink RX5 42 "FiberTrace$LinkText" "position" "I") (by decide +kernel)) (fun _ h9 => h9) rfl dX5_readNumber_93 ?_
                refine ft_csi (r := ftC tx tn (q9 + k)) (va_runV (C := RX5) (As := [.int (nI (q9 + k))]) (rest := [.int (x63_3 * 10)]) ⟨hx, hb, hml, hown, hts⟩ (c_X5_signAt l D cI cS a0 ag am ad b0 tn v1 v2 v3 (nI (q9 + k)) tx (q9 + k) (by first | assumption | omega) (by first | assumption | omega)) (cwV 1 hts gX5_readNumber_X5_signAt rfl rfl rfl (by decide +kernel) ⟨Nat.le_of_ble_eq_true rfl, Nat.le_of_ble_eq_true rfl⟩) (ft_preROV (ci := 5) (q0 := 0) hP hKK [0, 1] rfl rfl rfl) rfl rfl hl.1 rfl (lv_room (Nat.le_of_ble_eq_true rfl)) dX5_readNumber_96 ⟨Nat.le_of_ble_eq_true rfl, Nat.le_of_ble_eq_true rfl⟩) ?_
                refine lv_iadd hx hb dX5_readNumber_99 ?_
                refine lv_bipush (v := 48) hx hb dX5_readNumber_100 (by decide) ?_
                refine lv_isub hx hb dX5_readNumber_102 ?_
                refine lv_istore_n (lv' := [(3, .int (((x63_3 * 10) + (ftC tx tn (q9 + k))) - 48)), (0, .ref a0), (1, .int (nI i)), (2, .int 1), (4, .int (nI k))]) hx hb dX5_readNumber_103 rfl hl (by decide) rfl (fun ls hl => ?_)
                refine lv_aload_n hx hb dX5_readNumber_104 rfl (lv_at hl 1 rfl) ?_
                refine lv_dup hx hb dX5_readNumber_105 rfl ?_
                refine va_get (D := D) (ci := 5) (v := .int (nI (q9 + k))) (C := RX5) (T := TX5) (N := 9) hx hb hts (by decide +kernel) hown hK hP 0 rfl rfl 8 (by decide) (hts (.fieldLink RX5 42 "FiberTrace$LinkText" "position" "I") (by decide +kernel)) (fun _ h9 => h9) rfl dX5_readNumber_106 ?_
                refine lv_iconst (v := 1) hx hb dX5_readNumber_109 (by decide) ?_
                refine lv_iadd hx hb dX5_readNumber_110 ?_
                refine ft_top (y := nI ((q9 + k) + 1)) (ft_addN (q9 + k) 1) ?_
                refine va_put (D := D) (ci := 5) (v := .int (nI ((q9 + k) + 1))) (ty := .int) (C := RX5) (T := TX5) (N := 9) hx hb hts (by decide +kernel) tyX5 tyX5_ok nmX5 hown hK hP hD hS 0 rfl rfl 8 (by decide) (hts (.fieldLink RX5 42 "FiberTrace$LinkText" "position" "I") (by decide +kernel)) (fun _ h9 => h9) rfl (by decide +kernel) rfl rfl (Nat.le_of_ble_eq_true rfl) dX5_readNumber_111 (fun H locs hP hD hS => ?_)
                have hP : va_P D vwCl [(a0, .inr (5, [.ref ag, .ref am, .ref ad, .ref b0, .int (nI tn), .int v1, .int v2, .int v3, .int (nI ((q9 + k) + 1))])), (ag, .inl (cI, 120, .inl tx)), (am, .inl (cI, 3, .inl nf))] H := hP
                have hD : va_D A [(a0, .inr (5, [.ref ag, .ref am, .ref ad, .ref b0, .int (nI tn), .int v1, .int v2, .int v3, .int (nI ((q9 + k) + 1))])), (ag, .inl (cI, 120, .inl tx)), (am, .inl (cI, 3, .inl nf))] := hD
                refine lv_iinc (v := nI (k + 1)) (lv' := [(4, .int (nI (k + 1))), (3, .int (((x63_3 * 10) + (ftC tx tn (q9 + k))) - 48)), (0, .ref a0), (1, .int (nI i)), (2, .int 1)]) hx hb dX5_readNumber_114 hl (k := 4) rfl (ft_inc k) (by decide) rfl (fun ls hl => ?_)
                refine lv_goto (tgt := 63) hx hb dX5_readNumber_117 (by decide) ?_
                exact ih63 (k + 1) (((x63_3 * 10) + (ftC tx tn (q9 + k))) - 48) (nI (k + 1)) (nI ((q9 + k) + 1)) (by omega) (by omega) (by intro t ht; rcases Nat.lt_succ_iff_lt_or_eq.mp ht with q | q; exact hall t q; subst q; exact hdp) (by omega) (by rw [ex63_3, ftC_in hlt7, Int32.mul_comm]; rfl) (by first | rfl | assumption) (by rfl) _ _ hP hD hS ls (lv_sub hl [2, 3, 4, 1, 0] rfl)
        exact lp63 _ 0 0 0 (nI ((sp + 1) + 1)) (Nat.lt_succ_self _) (by omega) (by intro t ht; exact absurd ht (Nat.not_lt_zero t)) (by omega) (by rfl) (by rfl) (by rw [hq9]) _ _ hP hD hS ls (lv_sub hl [3, 4, 2, 1, 0] rfl)
  · have hns : ¬ ftSp tx tn sp := fun q => c10 (ftSp_c.mp q)
    refine lv_iconst (v := 0) hx hb dX5_readNumber_13 (by decide) ?_
    have hw9 : ([(a0, .inr (5, [.ref ag, .ref am, .ref ad, .ref b0, .int (nI tn), .int v1, .int v2, .int v3, .int (nI sp)])), (ag, .inl (cI, 120, .inl tx)), (am, .inl (cI, 3, .inl nf))] : va_W) = [(a0, .inr (5, [.ref ag, .ref am, .ref ad, .ref b0, .int (nI tn), .int v1, .int v2, .int v3, .int (nI (ftNe tx tn sp))])), (ag, .inl (cI, 120, .inl tx)), (am, .inl (cI, 3, .inl (ftNf tx tn sp i nf)))] := by rw [ftNe_f hns, ftNf_f hns]
    rw [hw9] at hP hD
    exact W.zret (v := 0) hx hb hr (by rfl) (fun t ht hW => ⟨⟨0, (), rfl, (by show (0 : Int32) = ftB (ftNok tx tn sp); exact (ftB_f (fun q : ftNok tx tn sp => hns q.1)).symm), by rw [ht]; exact hP, by rw [hAe]; exact hD⟩, by rw [hAe]; exact hS.F ht⟩) hS.2.2 dX5_readNumber_14
set_option maxHeartbeats 4000000 in
set_option maxRecDepth 100000 in
theorem c_X5_readNumbers (l : Launch) (D : va_G) (cI cS : ClassId) (sz : Nat) (a0 ag am ad b0 : Nat) (tn : Nat) (v1 v2 v3 : Int32) (sp : Nat) (tx nf : Nat → Int32) (wn : Nat) (htn : tn ≤ 120) (hsp : sp ≤ tn) (hwn : wn ≤ 3) : Met l yX5_readNumbers wsX5_readNumbers ({ frames := 3, cells := 0, slots := 0, locals := 66 }) (ftRW D cI cS [.ref a0, .int (nI wn)] [(a0, .inr (5, [.ref ag, .ref am, .ref ad, .ref b0, .int (nI tn), .int v1, .int v2, .int v3, .int (nI sp)])), (ag, .inl (cI, 120, .inl tx)), (am, .inl (cI, 3, .inl nf))] sz) (ftQi D (if ftNm tx tn sp wn = wn then -1 else nI (ftNm tx tn sp wn)) [(a0, .inr (5, [.ref ag, .ref am, .ref ad, .ref b0, .int (nI tn), .int v1, .int v2, .int v3, .int (nI sp)])), (ag, .inl (cI, 120, .inl tx)), (am, .inl (cI, 3, .inl nf))] [(a0, .inr (5, [.ref ag, .ref am, .ref ad, .ref b0, .int (nI tn), .int v1, .int v2, .int v3, .int (nI (ftNP tx tn sp (min (ftNm tx tn sp wn + 1) wn)))])), (ag, .inl (cI, 120, .inl tx)), (am, .inl (cI, 3, .inl (ftNfs tx tn sp nf (min (ftNm tx tn sp wn + 1) wn))))] sz) 0 0 (va_A [(a0, .inr (5, [.ref ag, .ref am, .ref ad, .ref b0, .int (nI tn), .int v1, .int v2, .int v3, .int (nI sp)])), (ag, .inl (cI, 120, .inl tx)), (am, .inl (cI, 3, .inl nf))] sz) := by
  refine Met.ofW (cc := cX5_readNumbers) (maxL := 3) (ret := (some .int)) (by decide) rfl ?_
  intro p e s m args below meth c s₁ B hml hv
  obtain ⟨rfl, hsz, hP, hKK, hD0⟩ := hv
  have hK := hKK.1
  have hx := B.exec
  have hb := B.bytes
  have hr := B.returns
  have hts := atoms_spec (ws := wsX5_readNumbers) B.pre
  have hown : s.vm.findClass RX5 = some m.cls := findClass_of_methodNamed B.named
  have hlocks := B.notSynchronized
  subst hsz
  have hD := hD0.self (sz := s.heap.size)
  generalize hAe : va_A [(a0, .inr (5, [.ref ag, .ref am, .ref ad, .ref b0, .int (nI tn), .int v1, .int v2, .int v3, .int (nI sp)])), (ag, .inl (cI, 120, .inl tx)), (am, .inl (cI, 3, .inl nf))] s.heap.size = A at hD ⊢
  have hA : ∀ q : Nat, s.heap.size ≤ q → A q := fun q h => by rw [← hAe]; exact Or.inr h
  have hS : va_S A s.heap s.heap [] := va_S.rf
  have hD : va_D A [(a0, .inr (5, [.ref ag, .ref am, .ref ad, .ref b0, .int (nI tn), .int v1, .int v2, .int v3, .int (nI sp)])), (ag, .inl (cI, 120, .inl tx)), (am, .inl (cI, 3, .inl nf))] := hD
  have hP : va_P D vwCl [(a0, .inr (5, [.ref ag, .ref am, .ref ad, .ref b0, .int (nI tn), .int v1, .int v2, .int v3, .int (nI sp)])), (ag, .inl (cI, 120, .inl tx)), (am, .inl (cI, 3, .inl nf))] s.heap := hP
  have hl := lv_entry ([.ref a0, .int (nI wn)]) (n := 3) (Nat.le_of_ble_eq_true rfl)
  rw [lg_entry_eq]
  generalize (lg_sl ([.ref a0, .int (nI wn)]) ++ List.replicate (3 - (lg_sl ([.ref a0, .int (nI wn)])).length) Slot.unset).toArray = ls at hl ⊢
  have hl : lv_has ls 3 [(0, .ref a0), (1, .int (nI wn))] := hl
  refine lv_iconst (v := 0) hx hb dX5_readNumbers_0 (by decide) ?_
  refine lv_istore_n (lv' := [(2, .int 0), (0, .ref a0), (1, .int (nI wn))]) hx hb dX5_readNumbers_1 rfl hl (by decide) rfl (fun ls hl => ?_)
  have lp2 : ∀ (n2 : Nat) (i : Nat) (x2_2 : Int32) (g2_a0_8 : Int32) (g2_am : Nat → Int32), wn - i < n2 → (i ≤ wn) → (∀ t, t < i → ftNok tx tn (ftNP tx tn sp t)) → x2_2 = nI i → g2_a0_8 = nI (ftNP tx tn sp i) → g2_am = ftNfs tx tn sp nf i → ∀ (H : Heap) (locs : List Loc), va_P D vwCl [(a0, .inr (5, [.ref ag, .ref am, .ref ad, .ref b0, .int (nI tn), .int v1, .int v2, .int v3, .int g2_a0_8])), (ag, .inl (cI, 120, .inl tx)), (am, .inl (cI, 3, .inl g2_am))] H → va_D A [(a0, .inr (5, [.ref ag, .ref am, .ref ad, .ref b0, .int (nI tn), .int v1, .int v2, .int v3, .int g2_a0_8])), (ag, .inl (cI, 120, .inl tx)), (am, .inl (cI, 3, .inl g2_am))] → va_S A s.heap H locs → ∀ ls : Array Slot, lv_has ls 3 [(0, .ref a0), (1, .int (nI wn)), (2, .int x2_2)] → W p l e (headSpec wsX5_readNumbers { frames := 3, cells := 0, slots := 0, locals := 66 }).room s m ([.ref a0, .int (nI wn)] : List Value).toArray below meth c H locs 0 0 (MQ below (ftQi D (if ftNm tx tn sp wn = wn then -1 else nI (ftNm tx tn sp wn)) [(a0, .inr (5, [.ref ag, .ref am, .ref ad, .ref b0, .int (nI tn), .int v1, .int v2, .int v3, .int (nI sp)])), (ag, .inl (cI, 120, .inl tx)), (am, .inl (cI, 3, .inl nf))] [(a0, .inr (5, [.ref ag, .ref am, .ref ad, .ref b0, .int (nI tn), .int v1, .int v2, .int v3, .int (nI (ftNP tx tn sp (min (ftNm tx tn sp wn + 1) wn)))])), (ag, .inl (cI, 120, .inl tx)), (am, .inl (cI, 3, .inl (ftNfs tx tn sp nf (min (ftNm tx tn sp wn + 1) wn))))] s.heap.size) ([.ref a0, .int (nI wn)] : List Value).toArray s 0 0 A) (F0 m 2 ls []) := by
    intro n2
    induction n2 with
    | zero =>
      intro i x2_2 g2_a0_8 g2_am hm2
      exact absurd hm2 (Nat.not_lt_zero _)
    | succ n2 ih2 =>
      intro i x2_2 g2_a0_8 g2_am hm2 hin hok ex2_2 eg2_a0_8 eg2_am H locs hP hD hS ls hl
      subst ex2_2
      subst eg2_a0_8
      have hpi := ftNP_le (tx := tx) hsp i
      refine lv_iload_n hx hb dX5_readNumbers_2 rfl (lv_at hl 2 rfl) ?_
      refine lv_iload_n hx hb dX5_readNumbers_3 rfl (lv_at hl 1 rfl) ?_
      refine lv_icmp_ge (tgt := 23) hx hb dX5_readNumbers_4 (by decide) (fun c4 => ?_) (fun c4 => ?_)
      · have c4n : wn ≤ i := ft_leN (by omega) (by omega) c4
        have hm : ftNm tx tn sp wn = wn := ftIni_of (Nat.le_refl _) (fun t ht => hok t (by omega)) (fun h => absurd h (Nat.lt_irrefl _))
        refine lv_iconst (v := (-1)) hx hb dX5_readNumbers_23 (by decide) ?_
        have hw9 : ([(a0, .inr (5, [.ref ag, .ref am, .ref ad, .ref b0, .int (nI tn), .int v1, .int v2, .int v3, .int (nI (ftNP tx tn sp i))])), (ag, .inl (cI, 120, .inl tx)), (am, .inl (cI, 3, .inl g2_am))] : va_W) = [(a0, .inr (5, [.ref ag, .ref am, .ref ad, .ref b0, .int (nI tn), .int v1, .int v2, .int v3, .int (nI (ftNP tx tn sp (min (ftNm tx tn sp wn + 1) wn)))])), (ag, .inl (cI, 120, .inl tx)), (am, .inl (cI, 3, .inl (ftNfs tx tn sp nf (min (ftNm tx tn sp wn + 1) wn))))] := by rw [hm, Nat.min_eq_right (by omega), eg2_am, show i = wn by omega]
        rw [hw9] at hP hD
        exact W.iret (v := (-1)) hx hb hr (fun t ht hW => ⟨⟨(-1), (), rfl, (by show ((-1) : Int32) = if ftNm tx tn sp wn = wn then -1 else nI (ftNm tx tn sp wn); rw [hm, if_pos rfl]), by rw [ht]; exact hP, by rw [hAe]; exact hD⟩, by rw [hAe]; exact hS.F ht⟩) hS.2.2 dX5_readNumbers_24
      · have c4n : i < wn := ft_nleN (by omega) (by omega) c4
        refine lv_aload_n hx hb dX5_readNumbers_7 rfl (lv_at hl 0 rfl) ?_
        refine lv_iload_n hx hb dX5_readNumbers_8 rfl (lv_at hl 2 rfl) ?_
        refine ft_ci (r := ftB (ftNok tx tn (ftNP tx tn sp i))) (wc := [(a0, .inr (5, [.ref ag, .ref am, .ref ad, .ref b0, .int (nI tn), .int v1, .int v2, .int v3, .int (nI (ftNP tx tn sp i))])), (ag, .inl (cI, 120, .inl tx)), (am, .inl (cI, 3, .inl g2_am))]) (wr := []) (w1 := [(a0, .inr (5, [.ref ag, .ref am, .ref ad, .ref b0, .int (nI tn), .int v1, .int v2, .int v3, .int (nI (ftNe tx tn (ftNP tx tn sp i)))])), (ag, .inl (cI, 120, .inl tx)), (am, .inl (cI, 3, .inl (ftNf tx tn (ftNP tx tn sp i) i g2_am)))]) (ws1 := [(a0, .inr (5, [.ref ag, .ref am, .ref ad, .ref b0, .int (nI tn), .int v1, .int v2, .int v3, .int (nI (ftNe tx tn (ftNP tx tn sp i)))])), (ag, .inl (cI, 120, .inl tx)), (am, .inl (cI, 3, .inl (ftNf tx tn (ftNP tx tn sp i) i g2_am)))]) (va_runV (C := RX5) (As := [.int (nI i)]) (rest := []) ⟨hx, hb, hml, hown, hts⟩ (c_X5_readNumber l D cI cS H.size a0 ag am ad b0 tn v1 v2 v3 (ftNP tx tn sp i) tx g2_am i (by first | assumption | omega) (by first | assumption | omega) (by first | assumption | omega)) (cwV 1 hts gX5_readNumbers_X5_readNumber rfl rfl rfl (by decide +kernel) ⟨Nat.le_of_ble_eq_true rfl, Nat.le_of_ble_eq_true rfl⟩) (ft_preRWV (ci := 5) (q0 := 0) hP hD hKK [0, 1, 2] rfl rfl rfl rfl rfl) rfl rfl hl.1 rfl (lv_room (Nat.le_of_ble_eq_true rfl)) dX5_readNumbers_9 ⟨Nat.le_of_ble_eq_true rfl, Nat.le_of_ble_eq_true rfl⟩) hP hD hS hA [0, 1, 2] [] [0, 1, 2] rfl rfl (by decide) (by decide) (by decide) rfl rfl (fun H locs hP hD hS => ?_)
        have hP : va_P D vwCl [(a0, .inr (5, [.ref ag, .ref am, .ref ad, .ref b0, .int (nI tn), .int v1, .int v2, .int v3, .int (nI (ftNe tx tn (ftNP tx tn sp i)))])), (ag, .inl (cI, 120, .inl tx)), (am, .inl (cI, 3, .inl (ftNf tx tn (ftNP tx tn sp i) i g2_am)))] H := hP
        have hD : va_D A [(a0, .inr (5, [.ref ag, .ref am, .ref ad, .ref b0, .int (nI tn), .int v1, .int v2, .int v3, .int (nI (ftNe tx tn (ftNP tx tn sp i)))])), (ag, .inl (cI, 120, .inl tx)), (am, .inl (cI, 3, .inl (ftNf tx tn (ftNP tx tn sp i) i g2_am)))] := hD
        refine lv_if_ne (tgt := 17) hx hb dX5_readNumbers_12 (by decide) (fun c12 => ?_) (fun c12 => ?_)
        · replace c12 := ftB_ne c12
          refine lv_iinc (v := nI (i + 1)) (lv' := [(2, .int (nI (i + 1))), (0, .ref a0), (1, .int (nI wn))]) hx hb dX5_readNumbers_17 hl (k := 2) rfl (ft_inc i) (by decide) rfl (fun ls hl => ?_)
          refine lv_goto (tgt := 2) hx hb dX5_readNumbers_20 (by decide) ?_
          exact ih2 (i + 1) (nI (i + 1)) (nI (ftNe tx tn (ftNP tx tn sp i))) (ftNf tx tn (ftNP tx tn sp i) i g2_am) (by omega) (by omega) (by intro t ht; rcases Nat.lt_succ_iff_lt_or_eq.mp ht with q | q; exact hok t q; subst q; exact c12) (by first | rfl | assumption) (by rfl) (by rw [eg2_am]; rfl) _ _ hP hD hS ls (lv_sub hl [1, 2, 0] rfl)
        · replace c12 := ftB_eq c12
          have hm : ftNm tx tn sp wn = i := ftIni_of hin hok (fun _ => c12)
          refine lv_iload_n hx hb dX5_readNumbers_15 rfl (lv_at hl 2 rfl) ?_
          have hw9 : ([(a0, .inr (5, [.ref ag, .ref am, .ref ad, .ref b0, .int (nI tn), .int v1, .int v2, .int v3, .int (nI (ftNe tx tn (ftNP tx tn sp i)))])), (ag, .inl (cI, 120, .inl tx)), (am, .inl (cI, 3, .inl (ftNf tx tn (ftNP tx tn sp i) i g2_am)))] : va_W) = [(a0, .inr (5, [.ref ag, .ref am, .ref ad, .ref b0, .int (nI tn), .int v1, .int v2, .int v3, .int (nI (ftNP tx tn sp (min (ftNm tx tn sp wn + 1) wn)))])), (ag, .inl (cI, 120, .inl tx)), (am, .inl (cI, 3, .inl (ftNfs tx tn sp nf (min (ftNm tx tn sp wn + 1) wn))))] := by rw [hm, Nat.min_eq_left (by omega), eg2_am]; rfl
          rw [hw9] at hP hD
          exact W.iret (v := nI i) hx hb hr (fun t ht hW => ⟨⟨nI i, (), rfl, (by show (nI i : Int32) = if ftNm tx tn sp wn = wn then -1 else nI (ftNm tx tn sp wn); rw [hm, if_neg (by omega)]), by rw [ht]; exact hP, by rw [hAe]; exact hD⟩, by rw [hAe]; exact hS.F ht⟩) hS.2.2 dX5_readNumbers_16
  exact lp2 _ 0 0 (nI sp) nf (Nat.lt_succ_self _) (by omega) (by intro t ht; exact absurd ht (Nat.not_lt_zero t)) (by rfl) (by rfl) (by rfl) _ _ hP hD hS ls (lv_sub hl [1, 2, 0] rfl)
end
