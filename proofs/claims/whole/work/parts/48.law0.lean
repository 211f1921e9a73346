-- ===== rows for a caller whose world holds more than its callee's
theorem pv_l {D : va_G} {cl : List vw_C} {a b : va_W} {H : Heap} (h : va_P D cl (a ++ b) H) : va_P D cl a H := fun k q hk => h k q (by rw [List.getElem?_append_left (List.getElem?_eq_some_iff.mp hk).1]; exact hk)
theorem pv_r {D : va_G} {cl : List vw_C} {a b : va_W} {H : Heap} (h : va_P D cl (a ++ b) H) : va_P D cl b H := fun k q hk => h (a.length + k) q (by rw [List.getElem?_append_right (Nat.le_add_right _ _), Nat.add_sub_cancel_left]; exact hk)
theorem dv_l {A : Nat → Prop} {a b : va_W} (h : va_D A (a ++ b)) : va_D A a :=
  ⟨fun i j p q hi hj e => h.1 i j p q (by rw [List.getElem?_append_left (List.getElem?_eq_some_iff.mp hi).1]; exact hi) (by rw [List.getElem?_append_left (List.getElem?_eq_some_iff.mp hj).1]; exact hj) e,
   fun k q hk => h.2 k q (by rw [List.getElem?_append_left (List.getElem?_eq_some_iff.mp hk).1]; exact hk)⟩
theorem dv_r {A : Nat → Prop} {a b : va_W} (h : va_D A (a ++ b)) : va_D A b :=
  ⟨fun i j p q hi hj e => Nat.add_left_cancel (h.1 (a.length + i) (a.length + j) p q (by rw [List.getElem?_append_right (Nat.le_add_right _ _), Nat.add_sub_cancel_left]; exact hi) (by rw [List.getElem?_append_right (Nat.le_add_right _ _), Nat.add_sub_cancel_left]; exact hj) e),
   fun k q hk => h.2 (a.length + k) q (by rw [List.getElem?_append_right (Nat.le_add_right _ _), Nat.add_sub_cancel_left]; exact hk)⟩
theorem dv_x {A : Nat → Prop} {a b : va_W} (h : va_D A (a ++ b)) (i j : Nat) (p q : Nat × va_E) (hi : a[i]? = some p) (hj : b[j]? = some q) : p.1 ≠ q.1 := fun e => by
  have h1 := (List.getElem?_eq_some_iff.mp hi).1
  have h2 := h.1 i (a.length + j) p q (by rw [List.getElem?_append_left h1]; exact hi) (by rw [List.getElem?_append_right (Nat.le_add_right _ _), Nat.add_sub_cancel_left]; exact hj) e
  omega
theorem pv_swap {D : va_G} {cl : List vw_C} {a b : va_W} {H : Heap} (h : va_P D cl (a ++ b) H) : va_P D cl (b ++ a) H := (pv_r h).app (pv_l h)
theorem dv_swap {A : Nat → Prop} {a b : va_W} (h : va_D A (a ++ b)) : va_D A (b ++ a) := (dv_r h).app (dv_l h) (fun i j p q hi hj e => dv_x h j i q p hj hi e.symm)
/-- only the addresses count -/
theorem dv_addr {A : Nat → Prop} {a b : va_W} (h : va_D A a) (e : a.map (fun q => q.1) = b.map (fun q => q.1)) : va_D A b := by
  have hk : ∀ (k : Nat) (q : Nat × va_E), b[k]? = some q → ∃ p : Nat × va_E, a[k]? = some p ∧ p.1 = q.1 := by
    intro k q hq
    have h1 : (b.map (fun q => q.1))[k]? = some q.1 := by rw [List.getElem?_map, hq]; rfl
    rw [← e, List.getElem?_map] at h1
    cases ha : a[k]? with
    | none => rw [ha] at h1; cases h1
    | some p => rw [ha] at h1; exact ⟨p, rfl, Option.some.inj h1⟩
  refine ⟨fun i j p q hi hj ee => ?_, fun k q hq => ?_⟩
  · obtain ⟨p1, g1, g2⟩ := hk i p hi
    obtain ⟨q1, g3, g4⟩ := hk j q hj
    exact h.1 i j p1 q1 g1 g3 (by rw [g2, g4]; exact ee)
  · obtain ⟨p1, g1, g2⟩ := hk k q hq
    rw [← g2]; exact h.2 k p1 g1
theorem kv_sub {D : va_G} {cl : List vw_C} {t1 t2 : List (ClassId × FieldType)} {U : State} (h : va_K D cl t1 U) (hs : ∀ (k : Nat) (q : ClassId × FieldType), t2[k]? = some q → ∃ j : Nat, t1[j]? = some q) : va_K D cl t2 U :=
  ⟨h.1, fun k q hq => by obtain ⟨j, hj⟩ := hs k q hq; exact h.2 j q hj⟩
def BG {σ : Type} (D : va_G) (cl : List vw_C) (tys : List (ClassId × FieldType)) (Wd : σ → va_W) (A : Nat → Prop) (v : σ) (t : State) : Prop := va_P D cl (Wd v) t.heap ∧ va_K D cl tys t ∧ va_D A (Wd v)
def QGi {σ : Type} (D : va_G) (cl : List vw_C) (tys : List (ClassId × FieldType)) (Wd : σ → va_W) (A : Nat → Prop) (r : Int32) (z' : σ) : Array Value → State → Outcome → State → Prop := va_Qi (fun (x : Int32) (v : σ) => x = r ∧ v = z') (BG D cl tys Wd A) A
def QGv {σ : Type} (D : va_G) (cl : List vw_C) (tys : List (ClassId × FieldType)) (Wd : σ → va_W) (A : Nat → Prop) (z' : σ) : Array Value → State → Outcome → State → Prop := va_Qv (fun v : σ => v = z') (BG D cl tys Wd A) A
section LWR
variable {p : Program} {l : Launch} {e : Env} {R : Room} {s : State} {m : MethodId} {args : Array Value} {below : List Frame} {meth : Method} {c : Code} {H : Heap} {locs : List Loc} {cells slots mc ms : Nat} {Q : State → Prop}
variable {cc : ByteArray} {pc : Nat} {ls : Array Slot} {rest st0 : List Value} {A : Nat → Prop} {H0 : Heap} {a : Array Value} {D : va_G} {cl : List vw_C} {tys : List (ClassId × FieldType)} {σ : Type} {Wd : σ → va_W} {z z' : σ} {ot : va_W}
theorem gA (hD : va_D A (Wd z ++ ot)) (hS : va_S A H0 H locs) (hA : ∀ q, H0.size ≤ q → A q) : ∀ q, va_A (Wd z) H.size q → A q := by
  intro q h
  rcases h with ⟨k, e, h⟩ | h
  · exact (dv_l hD).2 k (q, e) h
  · exact hA q (Nat.le_trans hS.1 h)
theorem gO {H1 : Heap} (hP : va_P D cl (Wd z ++ ot) H) (hD : va_D A (Wd z ++ ot)) (hk : ∀ q : Nat, q < H.size → ¬ va_A (Wd z) H.size q → H1[q]? = H[q]?) : va_P D cl ot H1 := by
  refine (pv_r hP).kept (fun k q hq => ?_)
  have hlt := (pv_r hP k q hq).lt
  refine hk q.1 hlt (fun h => ?_)
  rcases h with ⟨k', e', h⟩ | h
  · exact dv_x hD k' k (q.1, e') q h hq rfl
  · exact absurd hlt (Nat.not_lt.mpr h)
theorem callGi {r : Int32} (hr : va_Run p l e R s m args below meth c H locs cells slots mc ms (F0 m pc ls st0) rest (QGi D cl tys Wd (va_A (Wd z) H.size) r z' a) (va_A (Wd z) H.size)) (hP : va_P D cl (Wd z ++ ot) H) (hD : va_D A (Wd z ++ ot)) (hS : va_S A H0 H locs) (hA : ∀ q, H0.size ≤ q → A q) (he : (Wd z).map (fun q => q.1) = (Wd z').map (fun q => q.1))
    (kk : ∀ (H1 : Heap) (locs1 : List Loc), va_P D cl (Wd z' ++ ot) H1 → va_D A (Wd z' ++ ot) → va_S A H0 H1 locs1 → W p l e R s m args below meth c H1 locs1 (cells + mc) (slots + ms) Q (F0 m (pc + 3) ls (.int r :: rest))) : W p l e R s m args below meth c H locs cells slots Q (F0 m pc ls st0) := by
  have hF := gA hD hS hA
  refine va_calli hr hS (fun q _ h => hF q h) hF (fun x v t H1 locs1 ht hvm hw hB hz hk hS1 => ?_)
  obtain ⟨hP1, hK1, hD1⟩ := hB
  rw [ht] at hP1
  obtain ⟨rfl, rfl⟩ := hw
  exact kk H1 locs1 (hP1.app (gO hP hD hk)) (dv_addr hD (by rw [List.map_append, List.map_append, he])) hS1
theorem callGv (hr : va_Run p l e R s m args below meth c H locs cells slots mc ms (F0 m pc ls st0) rest (QGv D cl tys Wd (va_A (Wd z) H.size) z' a) (va_A (Wd z) H.size)) (hP : va_P D cl (Wd z ++ ot) H) (hD : va_D A (Wd z ++ ot)) (hS : va_S A H0 H locs) (hA : ∀ q, H0.size ≤ q → A q) (he : (Wd z).map (fun q => q.1) = (Wd z').map (fun q => q.1))
    (kk : ∀ (H1 : Heap) (locs1 : List Loc), va_P D cl (Wd z' ++ ot) H1 → va_D A (Wd z' ++ ot) → va_S A H0 H1 locs1 → W p l e R s m args below meth c H1 locs1 (cells + mc) (slots + ms) Q (F0 m (pc + 3) ls rest)) : W p l e R s m args below meth c H locs cells slots Q (F0 m pc ls st0) := by
  have hF := gA hD hS hA
  refine va_callv hr hS (fun q _ h => hF q h) hF (fun v t H1 locs1 ht hvm hw hB hz hk hS1 => ?_)
  obtain ⟨hP1, hK1, hD1⟩ := hB
  rw [ht] at hP1
  subst hw
  exact kk H1 locs1 (hP1.app (gO hP hD hk)) (dv_addr hD (by rw [List.map_append, List.map_append, he])) hS1
/-- a callee that throws, the first entry of the caller's table takes it -/
theorem callT1 {own C cls : String} {index : Nat} {y : MethodName} {bytes : ByteArray} {maxL : Nat} {ret : Option FieldType} {ws : List Cond} {rm : Room} {Pc : Array Value → State → Prop} {b : Addr} {As : List Value} {h1 : ExceptionTableEntry} {t : List ExceptionTableEntry} {cellB : Cell}
    (hexec : p.tables.exec = Jvm.exec) (hb : c.code = cc) (hls : ls.size = c.maxLocals) (hM : MetT l y ws rm Pc cls) (hblind : FrameBlind Pc) (hown : s.vm.findClass own = some m.cls) (hlink : (Cond.methodLink own index y).before args s = true) (hinst : (Cond.instanceMethod y).before args s = true) (hsel : (Cond.selects C y y).before args s = true) (hini : (Cond.initialized y.cls).before args s = true)
    (hws : ∀ w ∈ ws, ∀ (a' : Array Value) (U : State), s.WarmedH U.vm → w.before a' U = true) (hcode : Cond.code y bytes maxL ret ∈ ws) (hy : y.cls ≠ "java/lang/invoke/MethodHandle" ∧ y.cls ≠ "java/lang/invoke/VarHandle")
    (hR : rm.frames + 1 ≤ R.frames ∧ 8 + (maxL + 11) + rm.locals ≤ R.locals ∧ rm.cells = 1 ∧ rm.slots = 6 ∧ cells + 1 ≤ R.cells ∧ slots + 6 ≤ R.slots)
    (hcell : H[b]? = some cellB) (hobj : cellB.vm.isStatics = false) (hcls : s.vm.findClass C = some cellB.cls) (hlen : ∀ sig, parseMethodDescriptor y.desc = some sig → As.length = sig.parameters.length)
    (hrest : (rest.map fun v => v.category).sum ≤ 8) (hdg : decode cc pc = .ok (.invokevirtual index, 3)) (hpre : ∀ U : State, U.heap = H → s.WarmedH U.vm → Pc (Value.ref b :: As).toArray U)
    (hsplit : c.exceptionTable.toList = h1 :: t) (hcov : covers h1 pc = true) (hne : h1.catchType ≠ 0) (hclink : (Cond.classLink own h1.catchType cls).before args s = true) (hcast : (Cond.castable cls cls).before args s = true)
    (kk : ∀ (x : Addr) (H1 : Heap), H.size ≤ H1.size → (∀ q : Nat, q < H.size → H1[q]? = H[q]?) → W p l e R s m args below meth c H1 locs (cells + 1) (slots + 6) Q (F0 m h1.handlerPc ls [.ref x])) : W p l e R s m args below meth c H locs cells slots Q (F0 m pc ls (As.reverse ++ .ref b :: rest)) := by
  intro T hT X
  obtain ⟨x, ce, T', X', hce, hcl, hob, hz, hk, st⟩ := thr_call X hexec hM hblind hown hlink hinst hsel hini hws hcode hy hR (by rw [hT]; exact hcell) hobj hcls (g := F0 m pc ls (As.reverse ++ .ref b :: rest)) rfl hls (argsL := As) (rest := rest) hlen rfl (by simpa [JFrame.monitorRoom] using hrest) (by rw [hb]; exact hdg) (fun U hU hW => hpre U (by rw [hU, hT]) hW)
  obtain ⟨vm', X2, st2⟩ := thr_catch1 X' hown (g := F0 m pc ls rest) rfl hce hcl hob hsplit hcov hne hclink hcast
  obtain ⟨t1, g1, g2⟩ := kk x T'.heap (by rw [← hT]; exact hz) (fun q hq => by rw [← hT] at hq ⊢; exact hk q hq) (T'.setVm vm') rfl X2
  exact ⟨t1, st _ (st2 _ g1), g2⟩
theorem callT2 {own C C1 cls : String} {index : Nat} {y : MethodName} {bytes : ByteArray} {maxL : Nat} {ret : Option FieldType} {ws : List Cond} {rm : Room} {Pc : Array Value → State → Prop} {b : Addr} {As : List Value} {h1 h2 : ExceptionTableEntry} {t : List ExceptionTableEntry} {cellB : Cell}
    (hexec : p.tables.exec = Jvm.exec) (hb : c.code = cc) (hls : ls.size = c.maxLocals) (hM : MetT l y ws rm Pc cls) (hblind : FrameBlind Pc) (hown : s.vm.findClass own = some m.cls) (hlink : (Cond.methodLink own index y).before args s = true) (hinst : (Cond.instanceMethod y).before args s = true) (hsel : (Cond.selects C y y).before args s = true) (hini : (Cond.initialized y.cls).before args s = true)
    (hws : ∀ w ∈ ws, ∀ (a' : Array Value) (U : State), s.WarmedH U.vm → w.before a' U = true) (hcode : Cond.code y bytes maxL ret ∈ ws) (hy : y.cls ≠ "java/lang/invoke/MethodHandle" ∧ y.cls ≠ "java/lang/invoke/VarHandle")
    (hR : rm.frames + 1 ≤ R.frames ∧ 8 + (maxL + 11) + rm.locals ≤ R.locals ∧ rm.cells = 1 ∧ rm.slots = 6 ∧ cells + 1 ≤ R.cells ∧ slots + 6 ≤ R.slots)
    (hcell : H[b]? = some cellB) (hobj : cellB.vm.isStatics = false) (hcls : s.vm.findClass C = some cellB.cls) (hlen : ∀ sig, parseMethodDescriptor y.desc = some sig → As.length = sig.parameters.length)
    (hrest : (rest.map fun v => v.category).sum ≤ 8) (hdg : decode cc pc = .ok (.invokevirtual index, 3)) (hpre : ∀ U : State, U.heap = H → s.WarmedH U.vm → Pc (Value.ref b :: As).toArray U)
    (hsplit : c.exceptionTable.toList = h1 :: h2 :: t) (hcov1 : covers h1 pc = true) (hne1 : h1.catchType ≠ 0) (hcov : covers h2 pc = true) (hne : h2.catchType ≠ 0) (hclink1 : (Cond.classLink own h1.catchType C1).before args s = true) (hnot : (Cond.not (.castable cls C1)).before args s = true) (hclink : (Cond.classLink own h2.catchType cls).before args s = true) (hcast : (Cond.castable cls cls).before args s = true)
    (kk : ∀ (x : Addr) (H1 : Heap), H.size ≤ H1.size → (∀ q : Nat, q < H.size → H1[q]? = H[q]?) → W p l e R s m args below meth c H1 locs (cells + 1) (slots + 6) Q (F0 m h2.handlerPc ls [.ref x])) : W p l e R s m args below meth c H locs cells slots Q (F0 m pc ls (As.reverse ++ .ref b :: rest)) := by
  intro T hT X
  obtain ⟨x, ce, T', X', hce, hcl, hob, hz, hk, st⟩ := thr_call X hexec hM hblind hown hlink hinst hsel hini hws hcode hy hR (by rw [hT]; exact hcell) hobj hcls (g := F0 m pc ls (As.reverse ++ .ref b :: rest)) rfl hls (argsL := As) (rest := rest) hlen rfl (by simpa [JFrame.monitorRoom] using hrest) (by rw [hb]; exact hdg) (fun U hU hW => hpre U (by rw [hU, hT]) hW)
  obtain ⟨vm', X2, st2⟩ := thr_catch2 X' hown (g := F0 m pc ls rest) rfl hce hcl hob hsplit hcov1 hne1 hcov hne hclink1 hnot hclink hcast
  obtain ⟨t1, g1, g2⟩ := kk x T'.heap (by rw [← hT]; exact hz) (fun q hq => by rw [← hT] at hq ⊢; exact hk q hq) (T'.setVm vm') rfl X2
  exact ⟨t1, st _ (st2 _ g1), g2⟩
end LWR
