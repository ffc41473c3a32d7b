/-! the reference: reading -/
def ftV (fb fp fn : Nat → Int32) : Nat → Int32 := fun t => fb t + fp t + fn t
def ftRoM (eb ek : Nat → Int32) : Nat → Nat → Int32 := fun c => if c = 4 then ek else eb
def ftMk1 (o : Option (Nat × Nat)) (f : Nat → Int32) (e : Nat) : Nat → Int32 := match o with
  | none => f
  | some (i, _) => upd f e (nI i)
def ftMk2 (o : Option (Nat × Nat)) (f : Nat → Int32) (e : Nat) : Nat → Int32 := match o with
  | none => f
  | some (_, j) => upd f e (nI j)
theorem ftMkM {eb ek : Nat → Int32} {tl : Int32} {i j e : Nat} (h1 : ek i = 1) (h2 : ek j = 1) (h3 : ftSz (2 * eb j - eb i - eb e) ≤ tl) : ftMk (ftRoM eb ek) tl i j e := ⟨h1, h2, by rw [ftSz_abs] at h3; exact h3⟩
theorem ftMkM_1 {eb ek : Nat → Int32} {tl : Int32} {i j e : Nat} (h1 : ¬ ek i = 1) : ¬ ftMk (ftRoM eb ek) tl i j e := fun q => h1 q.1
theorem ftMkM_2 {eb ek : Nat → Int32} {tl : Int32} {i j e : Nat} (h1 : ¬ ek j = 1) : ¬ ftMk (ftRoM eb ek) tl i j e := fun q => h1 q.2.1
theorem ftMkM_3 {eb ek : Nat → Int32} {tl : Int32} {i j e : Nat} (h1 : tl < ftSz (2 * eb j - eb i - eb e)) : ¬ ftMk (ftRoM eb ek) tl i j e := fun q => absurd q.2.2 (by rw [ftSz_abs] at h1; exact Int32.not_le.mpr h1)


