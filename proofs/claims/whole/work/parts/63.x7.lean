section XK
variable {p : Program} {l : Launch} {e : Env} {R : Room} {s : State} {m : MethodId} {args : Array Value} {below : List Frame} {meth : Method} {c : Code} {H : Heap} {locs : List Loc} {cells slots : Nat} {Q : State → Prop}
variable {D : va_G} {A : Nat → Prop} {tk : Nat → ClassId} {ws : va_W}
/-- a throwing method's contract out of its walk -/
theorem k_ofT {l : Launch} {y : MethodName} {cc : ByteArray} {maxL : Nat} {ret : Option FieldType} {rm : Room} {av : List Value} {D : va_G} {tk : Nat → ClassId} {sz : Nat} {ws : va_W} (cls : String) {mc ms : Nat}
    (hy : plainName y.cls = true) (hav : (lg_sl av).length ≤ maxL)
    (body : ∀ (p : Program) (e : Env) (s : State) (m : MethodId) (args : Array Value) (below : List Frame) (meth : Method) (c : Code) (Q : State → Prop) (A : Nat → Prop) (ls : Array Slot), Q = MQT below (Qx cls D tk ws A) args s mc ms A → p.tables.exec = Jvm.exec → c.code = cc → meth.sig.returnType = ret → meth.locks = false → meth.name = y.name →
      (∀ w ∈ Cond.code y cc maxL ret :: TT, w.before args s = true) → (∀ w ∈ TT, w.before args s = true) → s.vm.findClass y.cls = some m.cls → c.maxLocals = maxL → nwp s → va_P D CC ws s.heap → va_K D CC (TY tk) s → va_D A ws → (∀ q, s.heap.size ≤ q → A q) → s.heap.size = sz → lv_has ls maxL (lv_args 0 av) → A = va_A ws s.heap.size → xF s s.heap → c.exceptionTable.isEmpty = true →
      W p l e rm s m args below meth c s.heap [] 0 0 Q (F0 m 0 ls [])) :
    MetT l y (Cond.code y cc maxL ret :: TT) rm (va_Pc av (k_preT D (TY tk) sz ws)) (Qx cls D tk ws (va_A ws sz)) mc ms (va_A ws sz) := by
  refine MetT.ofW (cc := cc) (maxL := maxL) (ret := ret) hy rfl ?_
  intro p e s m args below meth c s₁ B hml _ hv
  obtain ⟨rfl, ⟨hsz, hP, hK, hD0, hN⟩, hxF⟩ := hv
  have hts := atoms_spec (ws := Cond.code y cc maxL ret :: TT) B.pre
  have hl := lv_entry av (n := maxL) hav
  rw [lg_entry_eq]
  subst hsz
  exact body p e s m av.toArray below meth c _ (va_A ws s.heap.size) _ rfl B.exec B.bytes B.returns B.notSynchronized (name_of_methodNamed B.named B.method).1 hts (fun w h => hts w (List.mem_cons_of_mem _ h)) (findClass_of_methodNamed B.named) hml hN hP hK (hD0.self (sz := s.heap.size)) (fun q h => Or.inr h) rfl hl rfl hxF (B.noHandlers (hts _ List.mem_cons_self))
theorem x_preS {As : List Value} (hP : va_P D CC ws H) (hK : va_K D CC (TY tk) s) (hD : va_D A ws) (hN : nwp s) (hxF : xF s s.heap) (hkp : ∀ (a : Nat) (cell : Cell), s.heap[a]? = some cell → cell.vm.isStatics = true → H[a]? = s.heap[a]?) : PreS s H (va_Pc As (k_preT D (TY tk) H.size ws)) As :=
  ⟨k_blindT, fun U hU hW => ⟨((k_preS (As := As) hP hK hD hN).2 U hU hW).1, ((k_preS (As := As) hP hK hD hN).2 U hU hW).2, by rw [hU]; exact (hxF.kept hkp).warm hW⟩⟩
theorem x_preV {As : List Value} {b : Nat} (hP : va_P D CC ws H) (hK : va_K D CC (TY tk) s) (hD : va_D A ws) (hN : nwp s) (hxF : xF s s.heap) (hkp : ∀ (a : Nat) (cell : Cell), s.heap[a]? = some cell → cell.vm.isStatics = true → H[a]? = s.heap[a]?) (q0 : Nat) {ci : Nat} {fs : List Value} {q : vw_C} (he : ws[q0]? = some (b, .inr (ci, fs))) (hc : CC[ci]? = some q) : PreV s H q.1 b (va_Pc (.ref b :: As) (k_preT D (TY tk) H.size ws)) As :=
  ⟨k_blindT, (k_preV (As := As) hP hK hD hN q0 he hc).2.1, fun U hU hW => ⟨((k_preV (As := As) hP hK hD hN q0 he hc).2.2 U hU hW).1, ((k_preV (As := As) hP hK hD hN q0 he hc).2.2 U hU hW).2, by rw [hU]; exact (hxF.kept hkp).warm hW⟩⟩
/-- the caller's heap behind a callee that threw -/
theorem x_join {cls : String} {av : Array Value} {st₀ t : State} {x : Addr} {L : List Loc} (hq : Qx cls D tk ws (va_A ws H.size) av st₀ (.threw x) t) (hst : st₀.heap = H) (hWt : s.WarmedH t.vm) (hS : va_S A s.heap H locs) (hD : va_D A ws) (hA : ∀ q, s.heap.size ≤ q → A q) (hL : ∀ q ∈ L, va_A ws H.size q.base) :
    H.size ≤ x ∧ xOb cls x t ∧ va_P D CC ws t.heap ∧ va_D A ws ∧ va_K D CC (TY tk) s ∧ va_S A s.heap t.heap (locs ++ L) := by
  obtain ⟨x', e, h1, h2, ⟨h3, h4, h5⟩, h6, h7⟩ := hq
  cases e
  subst hst
  have hfree := k_free hD hS hA
  refine ⟨h1, h2, h3, hD, va_K.moved hWt.alike.symm h4, Nat.le_trans hS.1 h6, fun q hq hn => ?_, fun q hq => ?_⟩
  · by_cases hlt : q < st₀.heap.size
    · rw [h7 q hlt (fun z => hn (hfree q z))]; exact hS.2.1 q hq hn
    · exact absurd (Nat.lt_of_lt_of_le hq hS.1) hlt
  · rcases List.mem_append.mp hq with z | z
    · exact hS.2.2 q z
    · exact hfree _ (hL q z)
/-- a callee's exception goes on to the caller's caller -/
theorem x_out {cls : String} {av : Array Value} {st₀ t : State} {x : Addr} {L : List Loc} {g : JFrame} (hQ : Q = MQT below (Qx cls D tk ws A) args s cells slots A) (hq : Qx cls D tk ws (va_A ws H.size) av st₀ (.threw x) t) (hst : st₀.heap = H) (hWt : s.WarmedH t.vm) (hS : va_S A s.heap H locs) (hD : va_D A ws) (hA : ∀ q, s.heap.size ≤ q → A q) (hL : ∀ q ∈ L, va_A ws H.size q.base)
    (hg : g.method = m) (h1 : g.locked = none) (h2 : g.entered = []) (hex : c.exceptionTable.isEmpty = true) (hlk : meth.locks = false) : WX p l e R s m args below meth c t.heap (locs ++ L) cells slots Q g x := by
  obtain ⟨j1, j2, j3, j4, j5, j6⟩ := x_join hq hst hWt hS hD hA hL
  subst hQ
  refine WX.leave hg h1 h2 (fun z hz => ?_) hlk (fun t' ht' hW' => ?_) j6.2.2
  · have e0 : c.exceptionTable = #[] := Array.isEmpty_iff.mp hex
    rw [e0] at hz
    cases hz
  · obtain ⟨ce, k1, k2, k3, k4⟩ := j2
    have hal := hWt.alike.symm.trans hW'.alike
    exact ⟨x, rfl, Nat.le_trans hS.1 j1, ⟨ce, by rw [ht']; exact k1, k2, by rw [hal.findClass]; exact k3, by rw [hal.assignable]; exact k4⟩, ⟨by rw [ht']; exact j3, va_K.moved hW'.alike j5, hD⟩, j6.F ht'⟩
end XK
