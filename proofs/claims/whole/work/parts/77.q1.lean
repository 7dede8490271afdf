theorem t_280 : Cond.codeWith ⟨"SealedBookLaw", "put", "(LSealedBook;II)I"⟩ method_3_code 4 (some .int) [(0, 6, 9, 13), (0, 6, 12, 15)] ∈ TT := TT_i 280 (by decide +kernel) (by decide +kernel)
theorem t_387 : Cond.codeWith ⟨"SealedBookLaw", "delete", "(LSealedBook;I[J)I"⟩ method_4_code 4 (some .int) [(0, 16, 19, 13), (0, 16, 22, 15)] ∈ TT := TT_i 387 (by decide +kernel) (by decide +kernel)
theorem t_398 : Cond.codeWith ⟨"SealedBookLaw", "commit", "(LSealedBook;[J)I"⟩ method_5_code 3 (some .int) [(0, 8, 11, 15)] ∈ TT := TT_i 398 (by decide +kernel) (by decide +kernel)
theorem t_741 : Cond.codeWith ⟨"SealedBookLaw", "get", "(LSealedBook;II[J)I"⟩ method_6_code 5 (some .int) [(0, 10, 13, 13), (0, 10, 17, 29)] ∈ TT := TT_i 741 (by decide +kernel) (by decide +kernel)
theorem t_775 : Cond.codeWith ⟨"SealedBookLaw", "range", "(LSealedBook;III[J)I"⟩ method_7_code 6 (some .int) [(0, 12, 15, 13)] ∈ TT := TT_i 775 (by decide +kernel) (by decide +kernel)
theorem t_784 : Cond.codeWith ⟨"SealedBookLaw", "root", "(LSealedBook;I[J)I"⟩ method_8_code 4 (some .int) [(0, 9, 12, 13)] ∈ TT := TT_i 784 (by decide +kernel) (by decide +kernel)
theorem t_795 : Cond.codeWith ⟨"SealedBookLaw", "digest", "(LSealedBook;I[J)I"⟩ method_9_code 4 (some .int) [(0, 9, 12, 13)] ∈ TT := TT_i 795 (by decide +kernel) (by decide +kernel)
theorem t_817 : Cond.codeWith ⟨"SealedBookLaw", "prove", "(LSealedBook;III[J)I"⟩ method_10_code 6 (some .int) [(0, 12, 15, 13)] ∈ TT := TT_i 817 (by decide +kernel) (by decide +kernel)
theorem t_856 : Cond.codeWith ⟨"SealedBookLaw", "proveGrowth", "(LSealedBook;II[J)I"⟩ method_11_code 5 (some .int) [(0, 10, 13, 13)] ∈ TT := TT_i 856 (by decide +kernel) (by decide +kernel)
theorem t_871 : Cond.codeWith ⟨"SealedBookLaw", "verify", "(LSealedBook;IIII[J)I"⟩ method_12_code 7 (some .int) [(0, 14, 17, 13)] ∈ TT := TT_i 871 (by decide +kernel) (by decide +kernel)
theorem t_912 : Cond.codeWith ⟨"SealedBookLaw", "verifyGrowth", "(LSealedBook;IIII[J)I"⟩ method_13_code 7 (some .int) [(0, 21, 24, 13)] ∈ TT := TT_i 912 (by decide +kernel) (by decide +kernel)
section QQ
variable {p : Program} {l : Launch} {e : Env} {R : Room} {s : State} {m : MethodId} {args : Array Value} {below : List Frame} {meth : Method} {c : Code} {H : Heap} {locs : List Loc} {cells slots : Nat} {Q : State → Prop}
/-- a static call of a method with handlers -/
theorem callSW {T : State} (X : Stand p l e R s m args below meth c T locs cells slots) (hexec : p.tables.exec = Jvm.exec) {own : String} {index : Nat} {y : MethodName} {bytes : ByteArray} {maxL : Nat} {ret : Option FieldType} {hh : List (Nat × Nat × Nat × Nat)}
    (hown : s.vm.findClass own = some m.cls) (hlink : (Cond.methodLink own index y).before args s = true) (hstat : (Cond.static y).before args s = true) (hinit : (Cond.initialized y.cls).before args s = true)
    (hcode : (Cond.codeWith y bytes maxL ret hh).before args s = true) (hy : y.cls ≠ "java/lang/invoke/MethodHandle" ∧ y.cls ≠ "java/lang/invoke/VarHandle")
    {W : Nat} {Pre : Pt → Array Value → Prop} {Post : Pt → Array Value → Option Value → Pt → Prop} (hK : Back l R p e below s args y 3 W Pre Post)
    {g : JFrame} (hg : g.method = m) (hsize : g.locals.size = c.maxLocals) {argsL rest : List Value} (hlen : ∀ sig, parseMethodDescriptor y.desc = some sig → argsL.length = sig.parameters.length)
    (hstack : g.stack = argsL.reverse ++ rest) (hW : 2 * g.monitorRoom + (rest.map fun v => v.category).sum ≤ W) (hdg : decode c.code g.pc = .ok (.invokestatic index, 3))
    (hpre : ∀ vm₁, s.WarmedH vm₁ → Pre ⟨T.setVm vm₁, locs, cells, slots⟩ argsL.toArray) :
    ∃ (v : Option Value) (vm₁ : Vm) (B : Pt), s.WarmedH vm₁ ∧ Stand p l e R s m args below meth c B.U B.locs B.cells B.slots ∧ Post ⟨T.setVm vm₁, locs, cells, slots⟩ argsL.toArray v B ∧
      ∀ target, Steps p.tables e below (B.U.setTop { g with pc := g.pc + 3, stack := v.toList ++ rest }) target → Steps p.tables e below (T.setTop g) target := by
  obtain ⟨mk, methM, cM, hnamed, hmethM, -, -, -, -, -, -, hsigM⟩ := Cond.codeWith_spec hcode
  have hstatic : methM.isStatic = true := Cond.static_spec hnamed hmethM hstat
  obtain ⟨kP, hkP, -⟩ := className_of_methodNamed hnamed
  have hinitP : kP.init = .initialized := Cond.initialized_spec (findClass_of_methodNamed hnamed) hkP hinit
  obtain ⟨vm₁, X₁, hstep₁⟩ := X.invokestatic hexec hown hlink hnamed hmethM hstatic hkP hinitP hy (g := g) hg (argsL := argsL) (rest := rest) (hlen _ hsigM) hstack hdg
  obtain ⟨v, B, X', hpost, hsteps⟩ := hK m meth c ⟨T.setVm vm₁, locs, cells, slots⟩ { g with stack := rest } (.invokestatic index) mk argsL.toArray X₁ hg hsize hdg hW (X₁.named hnamed) (hpre vm₁ X₁.warmed)
  exact ⟨v, vm₁, B, X₁.warmed, X', hpost, fun target h => hstep₁ _ fun acts => by rw [doInvoke_state]; exact hsteps.trans h⟩
theorem runSW {y : MethodName} {bytes cc : ByteArray} {maxL nL mc ms n index : Nat} {ret : Option FieldType} {hh : List (Nat × Nat × Nat × Nat)} {rm : Room} {Pc : Array Value → State → Prop} {Qc : Array Value → State → Outcome → State → Prop} {free : Addr → Prop} {own : String} {As rest : List Value} {g : JFrame}
    (hx : p.tables.exec = Jvm.exec) (hb : c.code = cc) (hml : c.maxLocals = nL) (ho : s.vm.findClass own = some m.cls) (hT : ∀ w ∈ TT, w.before args s = true) (hM : Met l y (Cond.codeWith y bytes maxL ret hh :: TT) rm Pc Qc mc ms free)
    (h1 : Cond.methodLink own index y ∈ TT) (h2 : Cond.static y ∈ TT) (h3 : Cond.initialized y.cls ∈ TT) (h4 : Cond.codeWith y bytes maxL ret hh ∈ TT) (hrc : rm.cells = mc) (hrs : rm.slots = ms)
    (hd : y.cls ≠ "java/lang/invoke/MethodHandle" ∧ y.cls ≠ "java/lang/invoke/VarHandle" ∧ (parseMethodDescriptor y.desc).map (fun d => d.parameters.length) = some n) (hR : rm.frames + 1 ≤ R.frames ∧ 8 + (maxL + 11) + rm.locals ≤ R.locals) (hp : PreS s H Pc As)
    (hg : g.method = m) (hn : As.length = n) (hsize : g.locals.size = nL) (hstack : g.stack = As.reverse ++ rest) (hW : 2 * g.monitorRoom + (rest.map fun v => v.category).sum ≤ 8) (hdg : decode cc g.pc = .ok (.invokestatic index, 3)) (hf : cells + mc ≤ R.cells ∧ slots + ms ≤ R.slots) :
    va_Run p l e R s m args below meth c H locs cells slots mc ms g rest (Qc As.toArray) (free) := by
  have gd : ∀ w ∈ TT, ∀ (a' : Array Value) (U : State), s.WarmedH U.vm → w.before a' U = true := fun w hw a' U hW => word_at hW (good_of_word (List.mem_filter.mp hw).2) (hT w hw)
  have hK : Back l R p e below s args y 3 8 (PreOf R mc ms Pc) (PostOf Qc mc ms free) := va_backW (hh := hh) (bytes := bytes) (maxL := maxL) (ret := ret) hM hp.1 hrc hrs hR.1 hR.2 (fun w hw => by
    rcases List.mem_cons.mp hw with rfl | hw
    · exact gd _ h4
    · exact gd _ hw) List.mem_cons_self (gd _ h3)
  intro T hT9 X
  obtain ⟨v, vm₁, ⟨U', l2, c2, s2⟩, hW₁, X', ⟨g', mk, t, L, e1, e2, hq, h1, hL, h2, h3⟩, st⟩ := callSW X hx (bytes := bytes) (maxL := maxL) (ret := ret) (hh := hh) ho (hT _ h1) (hT _ h2) (hT _ h3) (hT _ h4) ⟨hd.1, hd.2.1⟩ hK hg (hsize.trans hml.symm) (argsL := As) (rest := rest) (fun sig h => by
      have h2 := hd.2.2
      rw [h] at h2
      exact hn.trans (Option.some.inj h2).symm) hstack hW (by rw [hb]; exact hdg)
    (fun vm₁ hW₁ => ⟨hf.1, hf.2, hp.2 (T.setVm vm₁) hT9 hW₁⟩)
  dsimp only [Pt.U, Pt.locs, Pt.cells, Pt.slots] at X' e1 e2 h1 h2 h3 st
  subst h1; subst h2; subst h3
  exact ⟨v, (T.setVm vm₁).calling g' mk As.toArray, t, U', L, hT9, X', hL, e1, e2, hq, st⟩
/-- which cells the law may change -/
abbrev AL (s : State) : Nat → Prop := fun q => s.heap.size ≤ q
abbrev ow (tk : Nat → ClassId) (ao : Nat) (fo : Nat → Int64) : Nat × va_E := (ao, .inl (tk 2, 1, .inr (.inl fo)))
/-- the world of the law -/
abbrev wL (tk : Nat → ClassId) (ac : Nat → Nat) (gc : Nat → Nat → Int32) (rr : Nat → Nat → Option Nat) (ao : Nat) (fo : Nat → Int64) (h : Nat) (am : Nat → Nat) (gm : Nat → Nat → Int32) (la : Nat → Int64) (tl : va_W) : va_W := wC tk ac gc rr ++ (ow tk ao fo :: (wM tk h am gm la ++ tl))
/-- the same, the reference ahead -/
abbrev wR (tk : Nat → ClassId) (ac : Nat → Nat) (gc : Nat → Nat → Int32) (rr : Nat → Nat → Option Nat) (ao : Nat) (fo : Nat → Int64) (tl : va_W) : va_W := wC tk ac gc rr ++ (ow tk ao fo :: tl)
theorem wL_pm (tk : Nat → ClassId) (ac : Nat → Nat) (gc : Nat → Nat → Int32) (rr : Nat → Nat → Option Nat) (ao : Nat) (fo : Nat → Int64) (h : Nat) (am : Nat → Nat) (gm : Nat → Nat → Int32) (la : Nat → Int64) (tl : va_W) : (wL tk ac gc rr ao fo h am gm la tl).Perm (wM tk h am gm la ++ wR tk ac gc rr ao fo tl) := by
  have e1 : wL tk ac gc rr ao fo h am gm la tl = (wC tk ac gc rr ++ [ow tk ao fo]) ++ (wM tk h am gm la ++ tl) := by
    rw [List.append_assoc]; rfl
  have e2 : wR tk ac gc rr ao fo tl = (wC tk ac gc rr ++ [ow tk ao fo]) ++ tl := by
    rw [List.append_assoc]; rfl
  rw [e1, e2, ← List.append_assoc, ← List.append_assoc]
  exact List.Perm.append_right _ List.perm_append_comm
/-- what stands fast in the law's frame -/
def LC (p : Program) (l : Launch) (s : State) (m : MethodId) (c : Code) (b L : Nat) (xs : Nat → Int32) (D : va_G) (tk : Nat → ClassId) : Prop :=
  (p.tables.exec = Jvm.exec ∧ c.code = code ∧ c.maxLocals = 7 ∧ s.vm.findClass "SealedBookLaw" = some m.cls) ∧ (∀ w ∈ TT, w.before #[Value.ref b] s = true) ∧ nwp s ∧ xF s s.heap ∧ va_K D CC (TY tk) s ∧ (va_X b L xs s s.heap ∧ b < s.heap.size ∧ L ≤ 2560) ∧ ∀ e : Env, l.admits e → e.platform.stackTraces = false
variable {b L : Nat} {xs : Nat → Int32} {D : va_G} {tk : Nat → ClassId} {ac am : Nat → Nat} {gc gm : Nat → Nat → Int32} {rr : Nat → Nat → Option Nat} {ao h : Nat} {fo : Nat → Int64} {la : Nat → Int64} {tl : va_W} {pc : Nat} {ls : Array Slot} {rest : List Value} {lv : List (Nat × Value)}
theorem AL_in : ∀ q, s.heap.size ≤ q → AL s q := fun _ h => h
theorem st_keptL (hS : va_S (AL s) s.heap H locs) : ∀ (a : Nat) (cell : Cell), s.heap[a]? = some cell → cell.vm.isStatics = true → H[a]? = s.heap[a]? := fun a cell hc _ => hS.2.1 a (Array.getElem?_eq_some_iff.mp hc).1 (fun q => absurd (Array.getElem?_eq_some_iff.mp hc).1 (Nat.not_lt.mpr q))
theorem q_sld (C : LC p l s m c b L xs D tk) (hS : va_S (AL s) s.heap H locs) {k : Nat} (hk : k < L) (hdg : decode code pc = .ok (.iaload, 1))
    (kk : W p l e room_1 s m #[Value.ref b] below meth c H locs cells slots Q (F0 m (pc + 1) ls (.int (xs k) :: rest))) : W p l e room_1 s m #[Value.ref b] below meth c H locs cells slots Q (F0 m pc ls (.int (nI k) :: .ref b :: rest)) := by
  obtain ⟨⟨hx, hb, hml, hown⟩, hT, hnw, hxF, hK, ⟨hX, hbl, hL⟩, htr⟩ := C
  refine va_sld hx hb hX hbl (fun q => absurd hbl (Nat.not_lt.mpr q)) hS (nI_in hk (by omega)) hdg ?_
  rw [nI_clamp (by omega)]
  exact kk
theorem q_arg (C : LC p l s m c b L xs D tk) (hS : va_S (AL s) s.heap H locs) (hl : lv_has ls 7 lv) {i0 i4 : Nat} (k0 : lv[i0]? = some (0, .ref b)) {k : Nat} (k4 : lv[i4]? = some (4, .int (nI k))) {j : Nat} {q : Int} (hq : Int32.ofInt q = nI j) (hj : k + j < L)
    (d0 : decode code pc = .ok (.aload_n 0, 1)) (d1 : decode code (pc + 1) = .ok (.iload 4, 2)) (d2 : decode code (pc + 3) = .ok (.iconst q, 1)) (d3 : decode code (pc + 4) = .ok (.iadd, 1)) (d4 : decode code (pc + 5) = .ok (.iaload, 1))
    (kk : W p l e room_1 s m #[Value.ref b] below meth c H locs cells slots Q (F0 m (pc + 6) ls (.int (xs (k + j)) :: rest))) : W p l e room_1 s m #[Value.ref b] below meth c H locs cells slots Q (F0 m pc ls rest) := by
  have C0 := C
  obtain ⟨⟨hx, hb, hml, hown⟩, hT, hnw, hxF, hK, ⟨hX, hbl, hL⟩, htr⟩ := C
  refine lv_aload_n hx hb d0 rfl (lv_at hl i0 k0) ?_
  refine lv_iload hx hb d1 (lv_at hl i4 k4) ?_
  refine lv_iconst (v := nI j) hx hb d2 hq ?_
  refine st_iadd hx hb d3 ?_
  exact q_sld C0 hS hj d4 kk
end QQ
