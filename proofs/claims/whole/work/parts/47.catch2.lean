-- ===== the handler that takes what was thrown; its class may be resolved by the search itself
section CAU
variable {e : Env} {a : Addr} {f : JFrame}
theorem go_cold {s : State} {Q : Handler → Pre} {E : CtlPost} {d : Bool} {acts : List Action} {x : ExceptionTableEntry} {t : List ExceptionTableEntry} {cc : ClassId} {cell : Cell} {vm' : Vm} (hx : covers x f.pc = true) (h0 : x.catchType ≠ 0)
    (hg : (Jvm.resolveClass f.method.cls x.catchType).Gives e.toSetting s.vm (.ok cc) vm') (hsz : vm'.classes.size ≤ s.vm.classes.size) (hcell : s.heap[a]? = some cell) (hobj : ∀ k, cell.vm ≠ .statics k)
    (hk : ∃ k, vm'.classes[cell.cls]? = some k) (hc : ∃ k, vm'.classes[cc]? = some k) :
    wp (findHandler.go f a (x :: t)) Q E e d acts s ↔ if vm'.assignable cell.cls cc = true then Q (.found x.handlerPc) d acts (s.setVm vm') else wp (findHandler.go f a t) Q E e d acts (s.setVm vm') := by
  obtain ⟨ha, ht⟩ := hg.op (op := VmOp.resolveClass f.method.cls x.catchType) rfl
  simp only [covers] at hx
  cases hfit : vm'.assignable cell.cls cc <;>
    simp [findHandler.go, hx, h0, ha, ht, hsz, hcell, hobj, hk, hc, hfit, VmOp.dirties, VmOp.acts]
def FindsTo (e : Env) (s : State) (f : JFrame) (a : Addr) (h : Handler) (s' : State) : Prop :=
  ∀ (Q : Handler → Pre) (E : CtlPost) (d : Bool) (acts : List Action), wp (findHandler f a) Q E e d acts s ↔ Q h d acts s'
theorem catchTo_step {s s' : State} {r : List Frame} {pc : Nat} (hfind : FindsTo e s f a (.found pc) s') :
    (stepThrowing e s a (.java f :: r)).Is (s'.setFrames (.java { f with pc := pc, stack := [.ref a] } :: r)) [] := by
  simp only [stepThrowing, searchFrame, vmDo]
  generalize hr : Sem.go _ e false [] s = res
  obtain ⟨as, rfl, ha⟩ := Sem.eq_ok_of hr (a := Handler.found pc) (s' := s') (acts' := []) (by simp [hfind _ _ _ _])
  exact ⟨rfl, ha⟩
theorem caughtTo {tb : Tables} {s target : State} {g : JFrame} {c : Code} {below : List Frame} {vm' : Vm} (h : At s g.method c below) {pc : Nat} (hfind : FindsTo e ((s.setTop g).pushFrame (.throwing a)) g a (.found pc) (((s.setTop g).pushFrame (.throwing a)).setVm vm'))
    (hrest : Steps tb e below ((s.setVm vm').setTop { g with pc := pc, stack := [.ref a] }) target) :
    Steps tb e below ((s.setTop g).pushFrame (.throwing a)) target := by
  obtain ⟨hgo, hw⟩ := h.throwing a
  refine Steps.head hgo hw ?_
  rw [stepThread_throwing (frames_entered h.top _), (catchTo_step (s := (s.setTop g).pushFrame (.throwing a)) hfind).1]
  obtain ⟨g₀, hg⟩ := Option.isSome_iff_exists.mp h.top
  obtain ⟨r, hr⟩ := State.topJava?_eq_some.mp hg
  have hr' : (s.setVm vm').frames = .java g₀ :: r := hr
  rw [State.setTop_of_frames _ hr'] at hrest
  have e1 : (((s.setTop g).pushFrame (.throwing a)).setVm vm').setFrames (.java { g with pc := pc, stack := [.ref a] } :: s.frames.tail) = (s.setVm vm').setFrames (.java { g with pc := pc, stack := [.ref a] } :: r) := by
    rw [State.pushFrame, State.setTop_of_frames _ hr, State.setFrames_setFrames, hr]
    show ((s.setFrames _).setFrames _).setVm vm' = (s.setFrames _).setVm vm'
    rw [State.setFrames_setFrames]
    rfl
  rw [e1]
  exact hrest
end CAU
section CAV
variable {p : Program} {l : Launch} {e : Env} {R : Room} {s : State} {m : MethodId} {args : Array Value} {below : List Frame} {meth : Method} {c : Code} {T : State} {locs : List Loc} {cells slots : Nat}
/-- what a class's link gives at a warmed table -/
theorem cl_entry {vm : Vm} (hpl : e.platform.magicAccessors = ({} : Platform).magicAccessors) (hW : s.WarmedH vm) {own C : String} {idx d : Nat} (hown : s.vm.findClass own = some d) (hlink : (Cond.classLink own idx C).before args s = true) :
    ∃ (cc : ClassId) (vm' : Vm), s.vm.findClass C = some cc ∧ (Jvm.resolveClass d idx).Gives e.toSetting vm (.ok cc) vm' ∧ s.WarmedH vm' := by
  obtain ⟨cc, h1, h2⟩ := Cond.classLink_spec hown hlink e.platform hpl
  obtain ⟨h3, h4, -⟩ := State.classEntry (e := e) hW h2
  exact ⟨cc, _, h1, h3, h4⟩
theorem warm_size {vm vm' : Vm} (h1 : s.WarmedH vm) (h2 : s.WarmedH vm') : vm'.classes.size ≤ vm.classes.size := by
  have a := h1.alike
  have b := h2.alike
  have e1 := a.2.1
  have e2 := b.2.1
  omega
theorem warm_class {vm : Vm} (h1 : s.WarmedH vm) {C : String} {cc : ClassId} (h : s.vm.findClass C = some cc) : ∃ k, vm.classes[cc]? = some k := by
  obtain ⟨k, hk⟩ := Vm.classAt_of_findClass h
  obtain ⟨k', hk', -⟩ := h1.alike.2.2 _ _ hk
  exact ⟨k', hk'⟩
theorem thr_catch1 (X : Stand p l e R s m args below meth c T locs cells slots) {own cls : String} (hown : s.vm.findClass own = some m.cls) {g : JFrame} (hg : g.method = m) {x : Addr} {ce : Cell} (hce : T.heap[x]? = some ce) (hcl : s.vm.findClass cls = some ce.cls) (hob : ∀ k, ce.vm ≠ .statics k)
    {h1 : ExceptionTableEntry} {t : List ExceptionTableEntry} (hsplit : c.exceptionTable.toList = h1 :: t) (hcov : covers h1 g.pc = true) (hne : h1.catchType ≠ 0) (hlink : (Cond.classLink own h1.catchType cls).before args s = true) (hcast : (Cond.castable cls cls).before args s = true) :
    ∃ vm', Stand p l e R s m args below meth c (T.setVm vm') locs cells slots ∧ ∀ target, Steps p.tables e below ((T.setVm vm').setTop { g with pc := h1.handlerPc, stack := [.ref x] }) target → Steps p.tables e below ((T.setTop g).pushFrame (.throwing x)) target := by
  subst hg
  have hpl : e.platform.magicAccessors = ({} : Platform).magicAccessors := by rw [X.admits.platform]
  obtain ⟨cc, vm', f1, f2, f3⟩ := cl_entry (e := e) hpl X.warmed hown hlink
  cases hcl.symm.trans f1
  obtain ⟨c3, c4, w1, w2, w3⟩ := Cond.castable_spec hcast
  cases hcl.symm.trans w1
  cases hcl.symm.trans w2
  have hmeth : T.vm.method? g.method = some meth := X.method'
  refine ⟨vm', X.noted f3, fun target h => caughtTo X.here (pc := h1.handlerPc) (vm' := vm') ?_ h⟩
  intro Q E d acts
  rw [W.findHandler_eq (by rw [Stand.throwing_vm]; exact hmeth) X.code, hsplit]
  rw [go_cold (cc := ce.cls) (cell := ce) (vm' := vm') hcov hne (by rw [Stand.throwing_vm]; exact f2) (by rw [Stand.throwing_vm]; exact warm_size X.warmed f3) (by rw [Stand.throwing_heap]; exact hce) hob (warm_class f3 hcl) (warm_class f3 hcl)]
  rw [if_pos (by rw [f3.alike.assignable]; exact w3)]
theorem thr_catch2 (X : Stand p l e R s m args below meth c T locs cells slots) {own cls C1 : String} (hown : s.vm.findClass own = some m.cls) {g : JFrame} (hg : g.method = m) {x : Addr} {ce : Cell} (hce : T.heap[x]? = some ce) (hcl : s.vm.findClass cls = some ce.cls) (hob : ∀ k, ce.vm ≠ .statics k)
    {h1 h2 : ExceptionTableEntry} {t : List ExceptionTableEntry} (hsplit : c.exceptionTable.toList = h1 :: h2 :: t) (hcov1 : covers h1 g.pc = true) (hne1 : h1.catchType ≠ 0) (hcov : covers h2 g.pc = true) (hne : h2.catchType ≠ 0)
    (hlink1 : (Cond.classLink own h1.catchType C1).before args s = true) (hnot : (Cond.not (.castable cls C1)).before args s = true) (hlink : (Cond.classLink own h2.catchType cls).before args s = true) (hcast : (Cond.castable cls cls).before args s = true) :
    ∃ vm', Stand p l e R s m args below meth c (T.setVm vm') locs cells slots ∧ ∀ target, Steps p.tables e below ((T.setVm vm').setTop { g with pc := h2.handlerPc, stack := [.ref x] }) target → Steps p.tables e below ((T.setTop g).pushFrame (.throwing x)) target := by
  subst hg
  have hpl : e.platform.magicAccessors = ({} : Platform).magicAccessors := by rw [X.admits.platform]
  obtain ⟨cA, vmA, a1, a2, a3⟩ := cl_entry (e := e) hpl X.warmed hown hlink1
  obtain ⟨cc, vm', f1, f2, f3⟩ := cl_entry (e := e) hpl a3 hown hlink
  cases hcl.symm.trans f1
  obtain ⟨c3, c4, w1, w2, w3⟩ := Cond.castable_spec hcast
  cases hcl.symm.trans w1
  cases hcl.symm.trans w2
  have hno : s.vm.assignable ce.cls cA = false := by
    simp only [Cond.before, Cond.holds, Cond.value, hcl, a1] at hnot
    cases hq : s.vm.assignable ce.cls cA with
    | false => rfl
    | true => simp [hq] at hnot
  have hmeth : T.vm.method? g.method = some meth := X.method'
  refine ⟨vm', X.noted f3, fun target h => caughtTo X.here (pc := h2.handlerPc) (vm' := vm') ?_ h⟩
  intro Q E d acts
  rw [W.findHandler_eq (by rw [Stand.throwing_vm]; exact hmeth) X.code, hsplit]
  rw [go_cold (cc := cA) (cell := ce) (vm' := vmA) hcov1 hne1 (by rw [Stand.throwing_vm]; exact a2) (by rw [Stand.throwing_vm]; exact warm_size X.warmed a3) (by rw [Stand.throwing_heap]; exact hce) hob (warm_class a3 hcl) (warm_class a3 a1)]
  rw [if_neg (by rw [a3.alike.assignable, hno]; decide)]
  rw [go_cold (s := ((T.setTop g).pushFrame (.throwing x)).setVm vmA) (cc := ce.cls) (cell := ce) (vm' := vm') hcov hne f2 (warm_size a3 f3) (show ((T.setTop g).pushFrame (.throwing x)).heap[x]? = some ce by rw [Stand.throwing_heap]; exact hce) hob (warm_class f3 hcl) (warm_class f3 hcl)]
  rw [if_pos (by rw [f3.alike.assignable]; exact w3)]
  rfl
end CAV
