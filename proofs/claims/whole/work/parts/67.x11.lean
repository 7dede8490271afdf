section XL
/-- a method of the law with handlers: its contract out of its walk -/
theorem k_ofL {l : Launch} {y : MethodName} {cc : ByteArray} {maxL : Nat} {ret : Option FieldType} {hh : List (Nat × Nat × Nat × Nat)} {rm : Room} {av : List Value} {D : va_G} {tk : Nat → ClassId} {sz : Nat} {ws : va_W} (Qf : (Nat → Prop) → Array Value → State → Outcome → State → Prop) {mc ms : Nat}
    (hy : plainName y.cls = true) (hav : (lg_sl av).length ≤ maxL)
    (body : ∀ (p : Program) (e : Env) (s : State) (m : MethodId) (args : Array Value) (below : List Frame) (meth : Method) (c : Code) (Q : State → Prop) (A : Nat → Prop) (ls : Array Slot), Q = MQ below (Qf A) args s mc ms A → p.tables.exec = Jvm.exec → c.code = cc → meth.sig.returnType = ret → meth.locks = false → meth.name = y.name →
      (∀ w ∈ Cond.codeWith y cc maxL ret hh :: TT, w.before args s = true) → (∀ w ∈ TT, w.before args s = true) → s.vm.findClass y.cls = some m.cls → c.maxLocals = maxL → nwp s → va_P D CC ws s.heap → va_K D CC (TY tk) s → va_D A ws → (∀ q, s.heap.size ≤ q → A q) → s.heap.size = sz → lv_has ls maxL (lv_args 0 av) → A = va_A ws s.heap.size → xF s s.heap → c.exceptionTable.toList.map (fun h => (h.startPc, h.endPc, h.handlerPc, h.catchType)) = hh →
      W p l e rm s m args below meth c s.heap [] 0 0 Q (F0 m 0 ls [])) :
    Met l y (Cond.codeWith y cc maxL ret hh :: TT) rm (va_Pc av (k_preT D (TY tk) sz ws)) (Qf (va_A ws sz)) mc ms (va_A ws sz) := by
  refine va_MetW (cc := cc) (maxL := maxL) (ret := ret) (hh := hh) hy rfl ?_
  intro p e s m args below meth c s₁ B hml hv
  obtain ⟨rfl, ⟨hsz, hP, hK, hD0, hN⟩, hxF⟩ := hv
  have hts := atoms_spec (ws := Cond.codeWith y cc maxL ret hh :: TT) B.pre
  have hl := lv_entry av (n := maxL) hav
  rw [lg_entry_eq]
  subst hsz
  have hex : c.exceptionTable.toList.map (fun h => (h.startPc, h.endPc, h.handlerPc, h.catchType)) = hh := by
    obtain ⟨m9, meth9, c9, hn9, h1, h2, -, -, h3, -⟩ := Cond.codeWith_spec (hts _ List.mem_cons_self)
    cases B.named.symm.trans hn9
    cases B.method.symm.trans h1
    cases (Stand.of_body B).code.symm.trans h2
    exact h3
  exact body p e s m av.toArray below meth c _ (va_A ws s.heap.size) _ rfl B.exec B.bytes B.returns B.notSynchronized (name_of_methodNamed B.named B.method).1 hts (fun w h => hts w (List.mem_cons_of_mem _ h)) (findClass_of_methodNamed B.named) hml hN hP hK (hD0.self (sz := s.heap.size)) (fun q h => Or.inr h) rfl hl rfl hxF hex
variable {p : Program} {l : Launch} {e : Env} {R : Room} {s : State} {m : MethodId} {args : Array Value} {below : List Frame} {meth : Method} {c : Code} {locs : List Loc} {cells slots : Nat} {Q : State → Prop}
theorem x_catchA {g : JFrame} {x : Addr} {t : State} {cls own : String} {a b h ct : Nat} {R9 : List (Nat × Nat × Nat × Nat)} (hex : c.exceptionTable.toList.map (fun h => (h.startPc, h.endPc, h.handlerPc, h.catchType)) = (a, b, h, ct) :: R9) (hg : g.method = m) (hcov : a ≤ g.pc ∧ g.pc < b) (hct : ct ≠ 0) (hown : s.vm.findClass own = some m.cls) (hlink : (Cond.classLink own ct cls).before args s = true) (hob : xOb cls x t) (hWt : s.WarmedH t.vm)
    (k : W p l e R s m args below meth c t.heap locs cells slots Q { g with pc := h, stack := [.ref x] }) : WX p l e R s m args below meth c t.heap locs cells slots Q g x := by
  obtain ⟨ce, k1, k2, k3, k4⟩ := hob
  have hf : s.vm.findClass cls = some ce.cls := by rw [hWt.alike.findClass] at k3; exact k3
  have hfit : s.vm.assignable ce.cls ce.cls = true := by rw [hWt.alike.assignable] at k4; exact k4
  cases hl : c.exceptionTable.toList with
  | nil => rw [hl] at hex; cases hex
  | cons z rest =>
    rw [hl, List.map_cons] at hex
    obtain ⟨e1, -⟩ := List.cons.inj hex
    obtain ⟨e2, e3⟩ := Prod.mk.inj e1
    obtain ⟨e4, e5⟩ := Prod.mk.inj e3
    obtain ⟨e6, e7⟩ := Prod.mk.inj e5
    intro T hT X
    obtain ⟨hend, hk0⟩ := X.catches_of_link hown (x := z) (by rw [e7]; exact hct) (by rw [e7]; exact hlink) hf hfit
    refine WX.caught hg k1 k2 hk0 [] z rest hl (fun y hy => by cases hy) ?_ hend (by rw [e6]; exact k) T hT X
    simp only [covers, e2, e4]
    simp [hcov]
theorem x_catchB {g : JFrame} {x : Addr} {t : State} {cls own n1 : String} {a b h ct a1 b1 h1 c1 : Nat} {R9 : List (Nat × Nat × Nat × Nat)} (hex : c.exceptionTable.toList.map (fun h => (h.startPc, h.endPc, h.handlerPc, h.catchType)) = (a1, b1, h1, c1) :: (a, b, h, ct) :: R9) (hg : g.method = m) (hcov : a ≤ g.pc ∧ g.pc < b) (hct : ct ≠ 0) (hc1 : c1 ≠ 0) (hown : s.vm.findClass own = some m.cls) (hlink1 : (Cond.classLink own c1 n1).before args s = true) (hlink : (Cond.classLink own ct cls).before args s = true) (hno : va_Nc cls n1 s) (hob : xOb cls x t) (hWt : s.WarmedH t.vm)
    (k : W p l e R s m args below meth c t.heap locs cells slots Q { g with pc := h, stack := [.ref x] }) : WX p l e R s m args below meth c t.heap locs cells slots Q g x := by
  obtain ⟨ce, k1, k2, k3, k4⟩ := hob
  have hf : s.vm.findClass cls = some ce.cls := by rw [hWt.alike.findClass] at k3; exact k3
  have hfit : s.vm.assignable ce.cls ce.cls = true := by rw [hWt.alike.assignable] at k4; exact k4
  cases hl : c.exceptionTable.toList with
  | nil => rw [hl] at hex; cases hex
  | cons y rest0 =>
    cases hl2 : rest0 with
    | nil => rw [hl, hl2] at hex; simp at hex
    | cons z rest =>
      rw [hl, hl2, List.map_cons, List.map_cons] at hex
      obtain ⟨d1, hex2⟩ := List.cons.inj hex
      obtain ⟨e1, -⟩ := List.cons.inj hex2
      obtain ⟨e2, e3⟩ := Prod.mk.inj e1
      obtain ⟨e4, e5⟩ := Prod.mk.inj e3
      obtain ⟨e6, e7⟩ := Prod.mk.inj e5
      obtain ⟨d2, d3⟩ := Prod.mk.inj d1
      obtain ⟨d4, d5⟩ := Prod.mk.inj d3
      obtain ⟨d6, d7⟩ := Prod.mk.inj d5
      intro T hT X
      have hpl : e.platform.magicAccessors = ({} : Platform).magicAccessors := by rw [X.admits.platform]
      obtain ⟨hend, hk0⟩ := X.catches_of_link hown (x := z) (by rw [e7]; exact hct) (by rw [e7]; exact hlink) hf hfit
      obtain ⟨c', hc', hcl⟩ := Cond.classLink_spec hown hlink1 e.platform hpl
      obtain ⟨w1, w2, j1, j2, j3⟩ := hno
      have ew1 : w1 = ce.cls := Option.some.inj (j1.symm.trans hf)
      have ew2 : w2 = c' := Option.some.inj (j2.symm.trans hc')
      subst ew1; subst ew2
      refine WX.caught hg k1 k2 hk0 [y] z rest (by rw [hl, hl2]; rfl) (fun v hv => ?_) ?_ hend (by rw [e6]; exact k) T hT X
      · rw [List.mem_singleton] at hv
        subst hv
        exact Or.inr ⟨by rw [d7]; exact hc1, w2, by rw [d7]; exact hcl, j3⟩
      · simp only [covers, e2, e4]
        simp [hcov]
end XL
