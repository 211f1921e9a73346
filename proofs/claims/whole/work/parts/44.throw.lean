-- ===== contracts of methods that throw: no row of the kit has them; over the library's ctorThrow0
def thIAE : String := "java/lang/IllegalArgumentException"
def thIOB : String := "java/lang/IndexOutOfBoundsException"
def thUp : List String := ["java/lang/RuntimeException", "java/lang/Exception"]
/-- the words of a throwing that speak of the heap -/
def thW : List Cond := [.laysStatic Bundle.tN "UNASSIGNED_STACK" Bundle.steD, .laysStatic Bundle.tN "SUPPRESSED_SENTINEL" Bundle.listD, .isRef (.static Bundle.tN "UNASSIGNED_STACK" Bundle.steD), .isRef (.static Bundle.tN "SUPPRESSED_SENTINEL" Bundle.listD)]
/-- a word that goes with the tables wherever they go -/
def goodF (w : Cond) : Bool := goodWord w || (w.onTables && w.keepsFace)
theorem goodF_at {args a' : Array Value} {s U : State} (hW : s.WarmedH U.vm) {w : Cond} (hw : goodF w = true) (h : w.before args s = true) : w.before a' U = true := by
  simp only [goodF, Bool.or_eq_true] at hw
  rcases hw with hw | hw
  · exact word_at hW (good_of_word hw) h
  · simp only [Bool.and_eq_true] at hw
    have h1 : w.before args (s.setVm U.vm) = true := Cond.before_shiftedFace (State.Shifted.of_warmed hW) w hw.2 h
    have h2 := Cond.onTables_vm (A := args) (A' := a') (U := s) (U' := U) U.vm w hw.1
    rw [h1] at h2
    exact h2.symm
/-- the words of the tables -/
def thA (own : String) (ic : Nat) (cls : String) : List Cond := (Bundle.ownAtoms0 own ic cls thUp).filter goodF
def THX : List Cond := thA R_SH 18 thIAE ++ (thA R_SH 47 thIOB ++ [.classLink R_SH 16 thIAE, .initialized thIAE, .classLink R_SH 45 thIOB, .initialized thIOB])
theorem thx_iae : (Bundle.ownAtoms0 R_SH 18 thIAE thUp).all (fun a => goodF a || thW.contains a) = true := by decide +kernel
theorem thx_iob : (Bundle.ownAtoms0 R_SH 47 thIOB thUp).all (fun a => goodF a || thW.contains a) = true := by decide +kernel
theorem thx_good : THX.all goodF = true := by decide +kernel
/-- what a state says of the words of the heap -/
def thS (U : State) : Prop := ∀ w ∈ thW, ∀ a : Array Value, w.before a U = true
theorem thS.calling {U : State} {g : JFrame} {mk : MethodId} {a : Array Value} (h : thS U) : thS (U.calling g mk a) := by
  intro w hw b
  have h1 := h w hw b
  simp only [thW, List.mem_cons, List.not_mem_nil, or_false] at hw
  rcases hw with rfl | rfl | rfl | rfl <;> exact h1
theorem thS_iae {args : Array Value} {s : State} (h : ∀ w ∈ THX, w.before args s = true) (hS : thS s) : ∀ a ∈ Bundle.ownAtoms0 R_SH 18 thIAE thUp, a.before args s = true := by
  intro a ha
  have h1 := List.all_eq_true.mp thx_iae a ha
  simp only [Bool.or_eq_true, List.contains_iff_mem] at h1
  rcases h1 with h1 | h1
  · exact h a (List.mem_append_left _ (List.mem_filter.mpr ⟨ha, h1⟩))
  · exact hS a h1 _
theorem thS_iob {args : Array Value} {s : State} (h : ∀ w ∈ THX, w.before args s = true) (hS : thS s) : ∀ a ∈ Bundle.ownAtoms0 R_SH 47 thIOB thUp, a.before args s = true := by
  intro a ha
  have h1 := List.all_eq_true.mp thx_iob a ha
  simp only [Bool.or_eq_true, List.contains_iff_mem] at h1
  rcases h1 with h1 | h1
  · exact h a (List.mem_append_right _ (List.mem_append_left _ (List.mem_filter.mpr ⟨ha, h1⟩)))
  · exact hS a h1 _
/-- what a throwing leaves: an object of the class, all else as it was -/
def QT (cls : String) : Array Value → State → Outcome → State → Prop := fun _ st o t =>
  ∃ (x : Addr) (ce : Cell), o = .threw x ∧ t.heap[x]? = some ce ∧ st.vm.findClass cls = some ce.cls ∧ (∀ k, ce.vm ≠ .statics k) ∧ st.WarmedH t.vm ∧ st.sameButNew ({ t with vm := st.vm } : State) [] 1 6
def MetT (l : Launch) (y : MethodName) (ws : List Cond) (rm : Room) (Pc : Array Value → State → Prop) (cls : String) : Prop :=
  MetFree l y (headSpec ws rm) Pc (fun _ _ _ _ _ => True) (QT cls)
def MQT (below : List Frame) (cls : String) (a : Array Value) (s : State) : State → Prop := fun t =>
  ∃ o, t.status = .running ∧ Ended t below o ∧ QT cls a s o t
theorem MetT.ofW {l : Launch} {y : MethodName} {ws ws' : List Cond} {rm : Room} {Pc : Array Value → State → Prop} {cls : String} {cc : ByteArray} {maxL : Nat} {ret : Option FieldType}
    (hy : plainName y.cls = true) (hw : ws = Cond.code y cc maxL ret :: ws')
    (body : ∀ p e s m args below meth c s₁, BodyLoose p l y (headSpec ws rm) cc maxL ret e s m args below meth c s₁ → c.maxLocals = maxL → (∀ c', meth.code = some c' → c'.exceptionTable.isEmpty = true) → Pc args s →
      W p l e (headSpec ws rm).room s m args below meth c s.heap [] 0 0 (MQT below cls args s) (entryFrame m args maxL)) : MetT l y ws rm Pc cls := by
  refine MetFree.of_bodyS (code := cc) (maxLocals := maxL) (ret := ret) hy ?_ ?_
  · intro args s m h hn
    obtain ⟨meth, c, h1, h2, h3, h4, h5, h6, -, -⟩ := Cond.code_spec hn (atoms_spec (ws := ws) h _ (by rw [hw]; exact List.mem_cons_self))
    exact ⟨meth, c, h1, h2, h3, h4, h5, h6⟩
  · intro p e s m args below meth c s₁ B hml hP _
    have hh0 : s₁.heap = s.heap := by rw [B.state]; rfl
    have he : ∀ c', meth.code = some c' → c'.exceptionTable.isEmpty = true := by
      intro c' hc'
      obtain ⟨meth2, c2, h1, h2, -, -, -, -, h7, -⟩ := Cond.code_spec B.named (atoms_spec (ws := ws) B.pre _ (by rw [hw]; exact List.mem_cons_self))
      cases B.method.symm.trans h1
      cases hc'.symm.trans h2
      exact h7
    obtain ⟨t, a1, o, b1, b2, b3⟩ := body p e s m args below meth c s₁ B hml he hP s₁ hh0 (Stand.of_body B)
    exact ⟨t, o, a1, b1, b2, b3⟩
section THR
variable {p : Program} {l : Launch} {e : Env} {R : Room} {s : State} {m : MethodId} {args : Array Value} {below : List Frame} {meth : Method} {c : Code}
theorem thr_end {cc : ByteArray} {pc : Nat} {ls : Array Slot} {own cls : String} {ic inew : Nat} (hexec : p.tables.exec = Jvm.exec) (hb : c.code = cc) (htr : e.platform.stackTraces = false) (hown : s.vm.findClass own = some m.cls)
    (hcls : Bundle.fit cls = true) (h : ∀ a ∈ Bundle.ownAtoms0 own ic cls thUp, a.before args s = true) (hclink : (Cond.classLink own inew cls).before args s = true) (hinit : (Cond.initialized cls).before args s = true)
    (hls : ls.size = c.maxLocals) (hout : ∀ c', meth.code = some c' → c'.exceptionTable.isEmpty = true) (hR : 5 < R.frames ∧ 200 ≤ R.locals ∧ 1 ≤ R.cells ∧ 6 ≤ R.slots)
    (d0 : decode cc pc = .ok (.new inew, 3)) (d3 : decode cc (pc + 3) = .ok (.dup, 1)) (d4 : decode cc (pc + 4) = .ok (.invokespecial ic, 3)) (d7 : decode cc (pc + 7) = .ok (.athrow, 1)) (hlocks : meth.locks = false) :
    W p l e R s m args below meth c s.heap [] 0 0 (MQT below cls args s) (F0 m pc ls []) := by
  have hins : (Cond.instantiable cls 6).before args s = true := h _ (by simp [Bundle.ownAtoms0])
  refine W.newc hexec hb hown hclink hins hinit rfl d0 (by omega) (by omega) (fun cC kC h1 h2 h3 h4 => ?_)
  show W p l e R s m args below meth c _ [] _ _ _ (F0 m (pc + 3) ls [.ref s.heap.size])
  refine lv_dup hexec hb d3 rfl ?_
  intro T hT X
  have hempty : ∀ x ∈ c.exceptionTable.toList, covers x (pc + 7) = false := by
    have q := hout c X.code
    intro x hx
    have : c.exceptionTable = #[] := by simpa using q
    rw [this] at hx
    cases hx
  obtain ⟨U, st, hrun, hend, hW, hsame, ce, hce, oc⟩ := X.ctorThrow0 hexec htr (names := thUp) hown hcls (by decide) h (fun x hx => by cases hx) h1 h2 (a := s.heap.size) (by rw [hT]; simp [freshCell]) (Nat.le_refl _) (g := F0 m (pc + 3 + 1) ls [.ref s.heap.size, .ref s.heap.size]) rfl hls rfl rfl (rest := []) rfl (by rw [hb]; exact d4) (by rw [hb]; exact d7) hempty (by simp [thUp]; omega) (by simp [thUp, JFrame.monitorRoom, Value.category]; omega) hlocks
  exact ⟨U, st, _, hrun, hend, s.heap.size, ce, rfl, hce, oc.cls, fun k => by rw [oc.vm]; simp, hW, hsame⟩
end THR
