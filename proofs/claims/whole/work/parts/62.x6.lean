section XN
variable {p : Program} {l : Launch} {e : Env} {R : Room} {s : State} {m : MethodId} {args : Array Value} {below : List Frame} {meth : Method} {c : Code}
variable {cc : ByteArray} {pc : Nat} {ls : Array Slot} {D : va_G} {A : Nat → Prop} {tk : Nat → ClassId} {ws : va_W}
theorem x_kept {U : State} {k n : Nat} (h : s.sameButNew ({ U with vm := s.vm } : State) [] k n) : ∀ a : Nat, a < s.heap.size → U.heap[a]? = s.heap[a]? := by
  intro a ha
  have h1 : s.heap[a]? = some s.heap[a] := Array.getElem?_eq_getElem ha
  have h2 := h.kept_nil h1
  rw [h1]; exact h2
/-- new, dup, ldc, the constructor, athrow -/
theorem x_throw {cls : String} {names : List String} {icl ild ict nL : Nat} {tx : String} {q0 : Nat} {free : Addr → Prop} (hx : p.tables.exec = Jvm.exec) (hb : c.code = cc) (hml : c.maxLocals = nL) (hls : ls.size = nL) (htr : ∀ e : Env, l.admits e → e.platform.stackTraces = false) (hown : s.vm.findClass "SealedBook" = some m.cls)
    (hcls : Jvm.Bundle.fit cls = true) (hnames : ∀ n ∈ names, Jvm.Bundle.fit n = true) (hat : ∀ a ∈ Jvm.Bundle.ownAtoms "SealedBook" ict cls names, a.before args s = true) (hcl : (Cond.classLink "SealedBook" icl cls).before args s = true) (hinst : (Cond.instantiable cls 6).before args s = true) (hini : (Cond.initialized cls).before args s = true) (hZ : vk_R "SealedBook" ild tx q0 s)
    (hout : c.exceptionTable.isEmpty = true) (hlk : meth.locks = false) (hK : va_K D CC (TY tk) s) (hP : va_P D CC ws s.heap) (hD : va_D A ws)
    (hdn : decode cc pc = .ok (.new icl, 3)) (hdd : decode cc (pc + 3) = .ok (.dup, 1)) (hdl : decode cc (pc + 3 + 1) = .ok (.ldc ild, 2)) (hdi : decode cc (pc + 3 + 1 + 2) = .ok (.invokespecial ict, 3)) (hda : decode cc (pc + 3 + 1 + 2 + 3) = .ok (.athrow, 1))
    (hRf : names.length + 3 < R.frames) (hRl : 1 + (13 * (names.length + 1) + 42) ≤ R.locals) (hRc : 0 + 1 ≤ R.cells) (hRs : 0 + 6 ≤ R.slots) :
    W p l e R s m args below meth c s.heap [] 0 0 (MQT below (Qx cls D tk ws A) args s 1 6 free) (F0 m pc ls []) := by
  obtain ⟨cX, kX, hcX, hkX, -⟩ := Cond.instantiable_spec hinst
  refine W.newcK (g := F0 m pc ls []) hx hb hown hcl hinst hini rfl hdn hRc hRs hcX rfl (fun H1 kC hkC hcell hsz hold => ?_)
  refine W.eq (g2 := F0 m (pc + 3) ls [.ref s.heap.size]) rfl ?_
  refine lv_dup hx hb hdd rfl ?_
  refine va_ldcS hx hb hown hZ hdl ?_
  intro T hT X
  have ekC : kX = kC := Option.some.inj (hkX.symm.trans hkC)
  subst ekC
  have hout9 : ∀ z ∈ c.exceptionTable.toList, covers z (pc + 3 + 1 + 2 + 3) = false := by
    intro z hz
    have e0 : c.exceptionTable = #[] := Array.isEmpty_iff.mp hout
    rw [e0] at hz
    cases hz
  obtain ⟨U, st, hrun, hend, hWU, hsame, ce, hce, hoc⟩ := X.ctorThrowS hx (htr e X.admits) hown hcls hnames hat (fun x hx => by cases hx) (a := s.heap.size) hcX hkX (by rw [hT]; exact hcell) (Nat.le_refl _) (msg := .ref q0) rfl
    (g := F0 m (pc + 3 + 1 + 2) ls [.ref q0, .ref s.heap.size, .ref s.heap.size]) rfl (hls.trans hml.symm) rfl rfl (rest := []) rfl (by rw [hb]; exact hdi) (by rw [hb]; exact hda) hout9 hRf (by show 2 * 0 + (1 + 0) + _ ≤ _; omega) hlk
  have hkp := x_kept hsame
  have hlt : ∀ (k : Nat) (q : Nat × va_E), ws[k]? = some q → U.heap[q.1]? = s.heap[q.1]? := fun k q hq => hkp q.1 (hP k q hq).lt
  refine ⟨U, st, .threw s.heap.size, hrun, hend, ⟨s.heap.size, rfl, Nat.le_refl _, ⟨ce, hce, by rw [hoc.vm]; rfl, ?_, ?_⟩, ⟨?_, va_K.moved hWU.alike hK, hD⟩, ?_, fun q h1 _ => hkp q h1⟩, [], ⟨⟨_, rfl⟩, hWU, hsame⟩, fun q hq => by cases hq⟩
  · rw [hWU.alike.findClass]; exact hoc.cls
  · rw [hWU.alike.assignable]; exact hoc.self
  · exact fun k q hq => (hP k q hq).kept (hlt k q hq)
  · exact Nat.le_of_lt (Array.getElem?_eq_some_iff.mp hce).1
end XN
