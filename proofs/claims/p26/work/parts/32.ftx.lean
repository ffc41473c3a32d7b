/-! contracts whose end tells a world by what holds of it; a contract told otherwise -/
abbrev ftXi (D : va_G) (ws : va_W) (sz : Nat) {S : Type} (post : Int32 → S → Prop) (ws' : S → va_W) : Array Value → State → Outcome → State → Prop := va_Qi post (fun u t => va_P D vwCl (ws' u) t.heap ∧ va_D (va_A ws sz) (ws' u)) (va_A ws sz)
abbrev ftXv (D : va_G) (ws : va_W) (sz : Nat) {S : Type} (post : S → Prop) (ws' : S → va_W) : Array Value → State → Outcome → State → Prop := va_Qv post (fun u t => va_P D vwCl (ws' u) t.heap ∧ va_D (va_A ws sz) (ws' u)) (va_A ws sz)
section FTX
variable {p : Program} {l : Launch} {e : Env} {R : Room} {s : State} {m : MethodId} {args : Array Value} {below : List Frame} {meth : Method} {c : Code} {H : Heap} {locs : List Loc} {cells slots : Nat} {Q : State → Prop}
theorem ft_cxi {S : Type} {D : va_G} {A : Nat → Prop} {H0 : Heap} {post : Int32 → S → Prop} {a : Array Value} {st0 rest : List Value} {pc : Nat} {ls : Array Slot} {ws wc wr : va_W} {w1 ws1 : S → va_W} (hr : va_Run p l e R s m args below meth c H locs cells slots 0 0 (F0 m pc ls st0) rest (ftXi D wc H.size post w1 a) (va_A wc H.size))
    (hP : va_P D vwCl ws H) (hD : va_D A ws) (hS : va_S A H0 H locs) (hA : ∀ q, H0.size ≤ q → A q) (isC isR pm : List Nat) (hC : isC.map (fun i => ws[i]?) = wc.map some) (hR : isR.map (fun i => ws[i]?) = wr.map some) (hn : va_nd isR = true) (hdis : ∀ i ∈ isR, i ∉ isC) (hpn : va_nd pm = true) (hpm : ∀ u, pm.map (fun i => (wr ++ w1 u)[i]?) = (ws1 u).map some) (hpf : ∀ u, pm.filterMap (fun i => (wr ++ w1 u)[i]?) = ws1 u)
    (kk : ∀ (r : Int32) (u : S), post r u → ∀ (H1 : Heap) (locs1 : List Loc), va_P D vwCl (ws1 u) H1 → va_D A (ws1 u) → va_S A H0 H1 locs1 → W p l e R s m args below meth c H1 locs1 cells slots Q (F0 m (pc + 3) ls (.int r :: rest))) : W p l e R s m args below meth c H locs cells slots Q (F0 m pc ls st0) := by
  have hFc := va_free (wc := wc) hD hS hA isC hC
  refine va_calli hr hS (fun q _ h => hFc q h) hFc (fun r2 u t H1 locs1 ht hvm hw hB hz1 hk1 hS1 => ?_)
  obtain ⟨hP1, hD1⟩ := hB
  rw [ht] at hP1
  obtain ⟨hP2, hD2⟩ := va_join (wr := wr) (w1 := w1 u) hP hD isC isR hC hR hn hdis hk1 hFc hP1 hD1
  exact kk r2 u hw H1 locs1 (hP2.sub pm (hpf u)) (hD2.sub pm hpn (hpm u)) hS1
theorem ft_cxv {S : Type} {D : va_G} {A : Nat → Prop} {H0 : Heap} {post : S → Prop} {a : Array Value} {st0 rest : List Value} {pc : Nat} {ls : Array Slot} {ws wc wr : va_W} {w1 ws1 : S → va_W} (hr : va_Run p l e R s m args below meth c H locs cells slots 0 0 (F0 m pc ls st0) rest (ftXv D wc H.size post w1 a) (va_A wc H.size))
    (hP : va_P D vwCl ws H) (hD : va_D A ws) (hS : va_S A H0 H locs) (hA : ∀ q, H0.size ≤ q → A q) (isC isR pm : List Nat) (hC : isC.map (fun i => ws[i]?) = wc.map some) (hR : isR.map (fun i => ws[i]?) = wr.map some) (hn : va_nd isR = true) (hdis : ∀ i ∈ isR, i ∉ isC) (hpn : va_nd pm = true) (hpm : ∀ u, pm.map (fun i => (wr ++ w1 u)[i]?) = (ws1 u).map some) (hpf : ∀ u, pm.filterMap (fun i => (wr ++ w1 u)[i]?) = ws1 u)
    (kk : ∀ (u : S), post u → ∀ (H1 : Heap) (locs1 : List Loc), va_P D vwCl (ws1 u) H1 → va_D A (ws1 u) → va_S A H0 H1 locs1 → W p l e R s m args below meth c H1 locs1 cells slots Q (F0 m (pc + 3) ls rest)) : W p l e R s m args below meth c H locs cells slots Q (F0 m pc ls st0) := by
  have hFc := va_free (wc := wc) hD hS hA isC hC
  refine va_callv hr hS (fun q _ h => hFc q h) hFc (fun u t H1 locs1 ht hvm hw hB hz1 hk1 hS1 => ?_)
  obtain ⟨hP1, hD1⟩ := hB
  rw [ht] at hP1
  obtain ⟨hP2, hD2⟩ := va_join (wr := wr) (w1 := w1 u) hP hD isC isR hC hR hn hdis hk1 hFc hP1 hD1
  exact kk u hw H1 locs1 (hP2.sub pm (hpf u)) (hD2.sub pm hpn (hpm u)) hS1
end FTX
theorem ft_weak {l : Launch} {y : MethodName} {cw : List Cond} {rm : Room} {Pc Pc' : Array Value → State → Prop} {Qc Qc' : Array Value → State → Outcome → State → Prop} {mc ms : Nat} {free free' : Addr → Prop} (h : Met l y cw rm Pc Qc mc ms free) (hp : ∀ a s, Pc' a s → Pc a s) (hq : ∀ a s o t, Pc' a s → Qc a s o t → Qc' a s o t) (hf : ∀ q, free q → free' q) : Met l y cw rm Pc' Qc' mc ms free' := by
  intro p e a1 a2 a3 s m args below b1 b2 b3 b4
  obtain ⟨n, o, c1, c2, c3, c4, L, c5, c6⟩ := h p e a1 a2 a3 s m args below b1 b2 (hp _ _ b3) trivial
  exact ⟨n, o, c1, c2, c3, hq _ _ _ _ b3 c4, L, c5, fun q h9 => hf _ (c6 q h9)⟩
theorem ft_toXv {S : Type} {l : Launch} {y : MethodName} {cw : List Cond} {rm : Room} {D : va_G} {cI cS : ClassId} {av : List Value} {ws w1 : va_W} {sz : Nat} (h : Met l y cw rm (ftRW D cI cS av ws sz) (ftQv D ws w1 sz) 0 0 (va_A ws sz)) (post : S → Prop) (w' : S → va_W) (u : S) (hu : post u) (he : w1 = w' u) : Met l y cw rm (ftRW D cI cS av ws sz) (ftXv D ws sz post w') 0 0 (va_A ws sz) := by
  refine ft_weak h (fun _ _ q => q) (fun a s o t _ q => ?_) (fun _ q => q)
  obtain ⟨⟨_, h1, _, h3⟩, h4⟩ := q
  subst he
  exact ⟨⟨u, h1, hu, h3⟩, h4⟩
theorem ft_toXi {S : Type} {l : Launch} {y : MethodName} {cw : List Cond} {rm : Room} {D : va_G} {cI cS : ClassId} {av : List Value} {ws w1 : va_W} {sz : Nat} {r : Int32} (h : Met l y cw rm (ftRW D cI cS av ws sz) (ftQi D r ws w1 sz) 0 0 (va_A ws sz)) (post : Int32 → S → Prop) (w' : S → va_W) (u : S) (hu : post r u) (he : w1 = w' u) : Met l y cw rm (ftRW D cI cS av ws sz) (ftXi D ws sz post w') 0 0 (va_A ws sz) := by
  refine ft_weak h (fun _ _ q => q) (fun a s o t _ q => ?_) (fun _ q => q)
  obtain ⟨⟨x, _, h1, h2, h3⟩, h4⟩ := q
  subst he
  rw [← h2] at hu
  exact ⟨⟨x, u, h1, hu, h3⟩, h4⟩
