def w_Wo_d : List Cond := .code y_Wo_d b_Wo_d 1 (some .int) :: ALLW
def rm_Wo_d : Room := { frames := 20, cells := 0, slots := 0, locals := 600 }
theorem d_Wo_d_0 : decode b_Wo_d 0 = .ok (.iload_n 0, 1) := by decide +kernel
theorem d_Wo_d_1 : decode b_Wo_d 1 = .ok (.bipush 7, 2) := by decide +kernel
theorem d_Wo_d_3 : decode b_Wo_d 3 = .ok (.iushr, 1) := by decide +kernel
theorem d_Wo_d_4 : decode b_Wo_d 4 = .ok (.bipush 31, 2) := by decide +kernel
theorem d_Wo_d_6 : decode b_Wo_d 6 = .ok (.iand, 1) := by decide +kernel
theorem d_Wo_d_7 : decode b_Wo_d 7 = .ok (.ireturn, 1) := by decide +kernel
def f_Wo_d (w : Int32) : Nat := n5 (w.toUInt32 >>> ((7 : Int32).toUInt32 &&& Int32.toUInt32 31)).toInt32
set_option maxHeartbeats 8000000 in
set_option maxRecDepth 100000 in
theorem c_Wo_d (l : Launch) (w : Int32) (sz : Nat) : Met l y_Wo_d w_Wo_d rm_Wo_d (PreP sz [.int w]) (QPi (fun q : Nat => sz ≤ q) (nI (f_Wo_d w))) 0 0 (fun q : Nat => sz ≤ q) := by
  generalize hres : f_Wo_d w = res
  refine Met.ofW (cc := b_Wo_d) (maxL := 1) (ret := (some .int)) (by decide) rfl ?_
  intro p e s m args below meth c s₁ B hml hv
  obtain ⟨rfl, rfl⟩ := hv
  have hx := B.exec
  have hb := B.bytes
  have hr := B.returns
  have hts : ∀ w9 ∈ ALLW, w9.before ([.int w] : List Value).toArray s = true := fun w9 h => atoms_spec (ws := w_Wo_d) B.pre w9 (List.mem_cons_of_mem _ h)
  have hown : s.vm.findClass R_Wo = some m.cls := findClass_of_methodNamed B.named
  have hlocks := B.notSynchronized
  generalize hAe : (fun q : Nat => s.heap.size ≤ q) = A
  have hA : ∀ q : Nat, s.heap.size ≤ q → A q := fun q h => by rw [← hAe]; exact h
  have hS : va_S A s.heap s.heap [] := va_S.rf
  have hl := lv_entry ([.int w]) (n := 1) (Nat.le_of_ble_eq_true rfl)
  rw [lg_entry_eq]
  generalize (lg_sl ([.int w]) ++ List.replicate (1 - (lg_sl ([.int w])).length) Slot.unset).toArray = ls at hl ⊢
  have hl : lv_has ls 1 [(0, .int w)] := hl
  have hq := hres.symm
  refine lv_iload_n hx hb d_Wo_d_0 rfl (lv_at hl 0 rfl) ?_
  refine lv_bipush (v := 7) hx hb d_Wo_d_1 (by decide) ?_
  refine lv_iushr (v := (w.toUInt32 >>> ((7 : Int32).toUInt32 &&& Int32.toUInt32 31)).toInt32) hx hb d_Wo_d_3 rfl ?_
  refine lv_bipush (v := 31) hx hb d_Wo_d_4 (by decide) ?_
  refine lv_iand hx hb d_Wo_d_6 ?_
  refine rw_top (y := nI (n5 (w.toUInt32 >>> ((7 : Int32).toUInt32 &&& Int32.toUInt32 31)).toInt32)) (n5_e _) ?_
  have hE : res = n5 (w.toUInt32 >>> ((7 : Int32).toUInt32 &&& Int32.toUInt32 31)).toInt32 := hq.trans (rfl)
  exact retPn (x := n5 (w.toUInt32 >>> ((7 : Int32).toUInt32 &&& Int32.toUInt32 31)).toInt32) hx hb hr hS hE.symm d_Wo_d_7 hlocks
theorem bWo_d (w : Int32) : f_Wo_d w < 32 := n5_b _
def w_Wo_f : List Cond := .code y_Wo_f b_Wo_f 1 (some .int) :: ALLW
def rm_Wo_f : Room := { frames := 20, cells := 0, slots := 0, locals := 600 }
theorem d_Wo_f_0 : decode b_Wo_f 0 = .ok (.iload_n 0, 1) := by decide +kernel
theorem d_Wo_f_1 : decode b_Wo_f 1 = .ok (.bipush 12, 2) := by decide +kernel
theorem d_Wo_f_3 : decode b_Wo_f 3 = .ok (.iushr, 1) := by decide +kernel
theorem d_Wo_f_4 : decode b_Wo_f 4 = .ok (.bipush 7, 2) := by decide +kernel
theorem d_Wo_f_6 : decode b_Wo_f 6 = .ok (.iand, 1) := by decide +kernel
theorem d_Wo_f_7 : decode b_Wo_f 7 = .ok (.ireturn, 1) := by decide +kernel
def f_Wo_f (w : Int32) : Nat := n3 (w.toUInt32 >>> ((12 : Int32).toUInt32 &&& Int32.toUInt32 31)).toInt32
set_option maxHeartbeats 8000000 in
set_option maxRecDepth 100000 in
theorem c_Wo_f (l : Launch) (w : Int32) (sz : Nat) : Met l y_Wo_f w_Wo_f rm_Wo_f (PreP sz [.int w]) (QPi (fun q : Nat => sz ≤ q) (nI (f_Wo_f w))) 0 0 (fun q : Nat => sz ≤ q) := by
  generalize hres : f_Wo_f w = res
  refine Met.ofW (cc := b_Wo_f) (maxL := 1) (ret := (some .int)) (by decide) rfl ?_
  intro p e s m args below meth c s₁ B hml hv
  obtain ⟨rfl, rfl⟩ := hv
  have hx := B.exec
  have hb := B.bytes
  have hr := B.returns
  have hts : ∀ w9 ∈ ALLW, w9.before ([.int w] : List Value).toArray s = true := fun w9 h => atoms_spec (ws := w_Wo_f) B.pre w9 (List.mem_cons_of_mem _ h)
  have hown : s.vm.findClass R_Wo = some m.cls := findClass_of_methodNamed B.named
  have hlocks := B.notSynchronized
  generalize hAe : (fun q : Nat => s.heap.size ≤ q) = A
  have hA : ∀ q : Nat, s.heap.size ≤ q → A q := fun q h => by rw [← hAe]; exact h
  have hS : va_S A s.heap s.heap [] := va_S.rf
  have hl := lv_entry ([.int w]) (n := 1) (Nat.le_of_ble_eq_true rfl)
  rw [lg_entry_eq]
  generalize (lg_sl ([.int w]) ++ List.replicate (1 - (lg_sl ([.int w])).length) Slot.unset).toArray = ls at hl ⊢
  have hl : lv_has ls 1 [(0, .int w)] := hl
  have hq := hres.symm
  refine lv_iload_n hx hb d_Wo_f_0 rfl (lv_at hl 0 rfl) ?_
  refine lv_bipush (v := 12) hx hb d_Wo_f_1 (by decide) ?_
  refine lv_iushr (v := (w.toUInt32 >>> ((12 : Int32).toUInt32 &&& Int32.toUInt32 31)).toInt32) hx hb d_Wo_f_3 rfl ?_
  refine lv_bipush (v := 7) hx hb d_Wo_f_4 (by decide) ?_
  refine lv_iand hx hb d_Wo_f_6 ?_
  refine rw_top (y := nI (n3 (w.toUInt32 >>> ((12 : Int32).toUInt32 &&& Int32.toUInt32 31)).toInt32)) (n3_e _) ?_
  have hE : res = n3 (w.toUInt32 >>> ((12 : Int32).toUInt32 &&& Int32.toUInt32 31)).toInt32 := hq.trans (rfl)
  exact retPn (x := n3 (w.toUInt32 >>> ((12 : Int32).toUInt32 &&& Int32.toUInt32 31)).toInt32) hx hb hr hS hE.symm d_Wo_f_7 hlocks
theorem bWo_f (w : Int32) : f_Wo_f w < 8 := n3_b _
def w_Wo_a : List Cond := .code y_Wo_a b_Wo_a 1 (some .int) :: ALLW
def rm_Wo_a : Room := { frames := 20, cells := 0, slots := 0, locals := 600 }
theorem d_Wo_a_0 : decode b_Wo_a 0 = .ok (.iload_n 0, 1) := by decide +kernel
theorem d_Wo_a_1 : decode b_Wo_a 1 = .ok (.bipush 15, 2) := by decide +kernel
theorem d_Wo_a_3 : decode b_Wo_a 3 = .ok (.iushr, 1) := by decide +kernel
theorem d_Wo_a_4 : decode b_Wo_a 4 = .ok (.bipush 31, 2) := by decide +kernel
theorem d_Wo_a_6 : decode b_Wo_a 6 = .ok (.iand, 1) := by decide +kernel
theorem d_Wo_a_7 : decode b_Wo_a 7 = .ok (.ireturn, 1) := by decide +kernel
def f_Wo_a (w : Int32) : Nat := n5 (w.toUInt32 >>> ((15 : Int32).toUInt32 &&& Int32.toUInt32 31)).toInt32
set_option maxHeartbeats 8000000 in
set_option maxRecDepth 100000 in
theorem c_Wo_a (l : Launch) (w : Int32) (sz : Nat) : Met l y_Wo_a w_Wo_a rm_Wo_a (PreP sz [.int w]) (QPi (fun q : Nat => sz ≤ q) (nI (f_Wo_a w))) 0 0 (fun q : Nat => sz ≤ q) := by
  generalize hres : f_Wo_a w = res
  refine Met.ofW (cc := b_Wo_a) (maxL := 1) (ret := (some .int)) (by decide) rfl ?_
  intro p e s m args below meth c s₁ B hml hv
  obtain ⟨rfl, rfl⟩ := hv
  have hx := B.exec
  have hb := B.bytes
  have hr := B.returns
  have hts : ∀ w9 ∈ ALLW, w9.before ([.int w] : List Value).toArray s = true := fun w9 h => atoms_spec (ws := w_Wo_a) B.pre w9 (List.mem_cons_of_mem _ h)
  have hown : s.vm.findClass R_Wo = some m.cls := findClass_of_methodNamed B.named
  have hlocks := B.notSynchronized
  generalize hAe : (fun q : Nat => s.heap.size ≤ q) = A
  have hA : ∀ q : Nat, s.heap.size ≤ q → A q := fun q h => by rw [← hAe]; exact h
  have hS : va_S A s.heap s.heap [] := va_S.rf
  have hl := lv_entry ([.int w]) (n := 1) (Nat.le_of_ble_eq_true rfl)
  rw [lg_entry_eq]
  generalize (lg_sl ([.int w]) ++ List.replicate (1 - (lg_sl ([.int w])).length) Slot.unset).toArray = ls at hl ⊢
  have hl : lv_has ls 1 [(0, .int w)] := hl
  have hq := hres.symm
  refine lv_iload_n hx hb d_Wo_a_0 rfl (lv_at hl 0 rfl) ?_
  refine lv_bipush (v := 15) hx hb d_Wo_a_1 (by decide) ?_
  refine lv_iushr (v := (w.toUInt32 >>> ((15 : Int32).toUInt32 &&& Int32.toUInt32 31)).toInt32) hx hb d_Wo_a_3 rfl ?_
  refine lv_bipush (v := 31) hx hb d_Wo_a_4 (by decide) ?_
  refine lv_iand hx hb d_Wo_a_6 ?_
  refine rw_top (y := nI (n5 (w.toUInt32 >>> ((15 : Int32).toUInt32 &&& Int32.toUInt32 31)).toInt32)) (n5_e _) ?_
  have hE : res = n5 (w.toUInt32 >>> ((15 : Int32).toUInt32 &&& Int32.toUInt32 31)).toInt32 := hq.trans (rfl)
  exact retPn (x := n5 (w.toUInt32 >>> ((15 : Int32).toUInt32 &&& Int32.toUInt32 31)).toInt32) hx hb hr hS hE.symm d_Wo_a_7 hlocks
theorem bWo_a (w : Int32) : f_Wo_a w < 32 := n5_b _
def w_Wo_b : List Cond := .code y_Wo_b b_Wo_b 1 (some .int) :: ALLW
def rm_Wo_b : Room := { frames := 20, cells := 0, slots := 0, locals := 600 }
theorem d_Wo_b_0 : decode b_Wo_b 0 = .ok (.iload_n 0, 1) := by decide +kernel
theorem d_Wo_b_1 : decode b_Wo_b 1 = .ok (.bipush 20, 2) := by decide +kernel
theorem d_Wo_b_3 : decode b_Wo_b 3 = .ok (.iushr, 1) := by decide +kernel
theorem d_Wo_b_4 : decode b_Wo_b 4 = .ok (.bipush 31, 2) := by decide +kernel
theorem d_Wo_b_6 : decode b_Wo_b 6 = .ok (.iand, 1) := by decide +kernel
theorem d_Wo_b_7 : decode b_Wo_b 7 = .ok (.ireturn, 1) := by decide +kernel
def f_Wo_b (w : Int32) : Nat := n5 (w.toUInt32 >>> ((20 : Int32).toUInt32 &&& Int32.toUInt32 31)).toInt32
set_option maxHeartbeats 8000000 in
set_option maxRecDepth 100000 in
theorem c_Wo_b (l : Launch) (w : Int32) (sz : Nat) : Met l y_Wo_b w_Wo_b rm_Wo_b (PreP sz [.int w]) (QPi (fun q : Nat => sz ≤ q) (nI (f_Wo_b w))) 0 0 (fun q : Nat => sz ≤ q) := by
  generalize hres : f_Wo_b w = res
  refine Met.ofW (cc := b_Wo_b) (maxL := 1) (ret := (some .int)) (by decide) rfl ?_
  intro p e s m args below meth c s₁ B hml hv
  obtain ⟨rfl, rfl⟩ := hv
  have hx := B.exec
  have hb := B.bytes
  have hr := B.returns
  have hts : ∀ w9 ∈ ALLW, w9.before ([.int w] : List Value).toArray s = true := fun w9 h => atoms_spec (ws := w_Wo_b) B.pre w9 (List.mem_cons_of_mem _ h)
  have hown : s.vm.findClass R_Wo = some m.cls := findClass_of_methodNamed B.named
  have hlocks := B.notSynchronized
  generalize hAe : (fun q : Nat => s.heap.size ≤ q) = A
  have hA : ∀ q : Nat, s.heap.size ≤ q → A q := fun q h => by rw [← hAe]; exact h
  have hS : va_S A s.heap s.heap [] := va_S.rf
  have hl := lv_entry ([.int w]) (n := 1) (Nat.le_of_ble_eq_true rfl)
  rw [lg_entry_eq]
  generalize (lg_sl ([.int w]) ++ List.replicate (1 - (lg_sl ([.int w])).length) Slot.unset).toArray = ls at hl ⊢
  have hl : lv_has ls 1 [(0, .int w)] := hl
  have hq := hres.symm
  refine lv_iload_n hx hb d_Wo_b_0 rfl (lv_at hl 0 rfl) ?_
  refine lv_bipush (v := 20) hx hb d_Wo_b_1 (by decide) ?_
  refine lv_iushr (v := (w.toUInt32 >>> ((20 : Int32).toUInt32 &&& Int32.toUInt32 31)).toInt32) hx hb d_Wo_b_3 rfl ?_
  refine lv_bipush (v := 31) hx hb d_Wo_b_4 (by decide) ?_
  refine lv_iand hx hb d_Wo_b_6 ?_
  refine rw_top (y := nI (n5 (w.toUInt32 >>> ((20 : Int32).toUInt32 &&& Int32.toUInt32 31)).toInt32)) (n5_e _) ?_
  have hE : res = n5 (w.toUInt32 >>> ((20 : Int32).toUInt32 &&& Int32.toUInt32 31)).toInt32 := hq.trans (rfl)
  exact retPn (x := n5 (w.toUInt32 >>> ((20 : Int32).toUInt32 &&& Int32.toUInt32 31)).toInt32) hx hb hr hS hE.symm d_Wo_b_7 hlocks
theorem bWo_b (w : Int32) : f_Wo_b w < 32 := n5_b _
def w_Wo_g : List Cond := .code y_Wo_g b_Wo_g 1 (some .int) :: ALLW
def rm_Wo_g : Room := { frames := 20, cells := 0, slots := 0, locals := 600 }
theorem d_Wo_g_0 : decode b_Wo_g 0 = .ok (.iload_n 0, 1) := by decide +kernel
theorem d_Wo_g_1 : decode b_Wo_g 1 = .ok (.bipush 25, 2) := by decide +kernel
theorem d_Wo_g_3 : decode b_Wo_g 3 = .ok (.iushr, 1) := by decide +kernel
theorem d_Wo_g_4 : decode b_Wo_g 4 = .ok (.ireturn, 1) := by decide +kernel
def f_Wo_g (w : Int32) : Int32 := (w.toUInt32 >>> ((25 : Int32).toUInt32 &&& Int32.toUInt32 31)).toInt32
set_option maxHeartbeats 8000000 in
set_option maxRecDepth 100000 in
theorem c_Wo_g (l : Launch) (w : Int32) (sz : Nat) : Met l y_Wo_g w_Wo_g rm_Wo_g (PreP sz [.int w]) (QPi (fun q : Nat => sz ≤ q) (f_Wo_g w)) 0 0 (fun q : Nat => sz ≤ q) := by
  generalize hres : f_Wo_g w = res
  refine Met.ofW (cc := b_Wo_g) (maxL := 1) (ret := (some .int)) (by decide) rfl ?_
  intro p e s m args below meth c s₁ B hml hv
  obtain ⟨rfl, rfl⟩ := hv
  have hx := B.exec
  have hb := B.bytes
  have hr := B.returns
  have hts : ∀ w9 ∈ ALLW, w9.before ([.int w] : List Value).toArray s = true := fun w9 h => atoms_spec (ws := w_Wo_g) B.pre w9 (List.mem_cons_of_mem _ h)
  have hown : s.vm.findClass R_Wo = some m.cls := findClass_of_methodNamed B.named
  have hlocks := B.notSynchronized
  generalize hAe : (fun q : Nat => s.heap.size ≤ q) = A
  have hA : ∀ q : Nat, s.heap.size ≤ q → A q := fun q h => by rw [← hAe]; exact h
  have hS : va_S A s.heap s.heap [] := va_S.rf
  have hl := lv_entry ([.int w]) (n := 1) (Nat.le_of_ble_eq_true rfl)
  rw [lg_entry_eq]
  generalize (lg_sl ([.int w]) ++ List.replicate (1 - (lg_sl ([.int w])).length) Slot.unset).toArray = ls at hl ⊢
  have hl : lv_has ls 1 [(0, .int w)] := hl
  have hq := hres.symm
  refine lv_iload_n hx hb d_Wo_g_0 rfl (lv_at hl 0 rfl) ?_
  refine lv_bipush (v := 25) hx hb d_Wo_g_1 (by decide) ?_
  refine lv_iushr (v := (w.toUInt32 >>> ((25 : Int32).toUInt32 &&& Int32.toUInt32 31)).toInt32) hx hb d_Wo_g_3 rfl ?_
  have hE : res = (w.toUInt32 >>> ((25 : Int32).toUInt32 &&& Int32.toUInt32 31)).toInt32 := hq.trans (rfl)
  exact retPi (x := (w.toUInt32 >>> ((25 : Int32).toUInt32 &&& Int32.toUInt32 31)).toInt32) hx hb hr hS hE.symm d_Wo_g_4 hlocks
def w_Wo_upper : List Cond := .code y_Wo_upper b_Wo_upper 1 (some .int) :: ALLW
def rm_Wo_upper : Room := { frames := 20, cells := 0, slots := 0, locals := 600 }
theorem d_Wo_upper_0 : decode b_Wo_upper 0 = .ok (.iload_n 0, 1) := by decide +kernel
theorem d_Wo_upper_1 : decode b_Wo_upper 1 = .ok (.sipush (-4096), 3) := by decide +kernel
theorem d_Wo_upper_4 : decode b_Wo_upper 4 = .ok (.iand, 1) := by decide +kernel
theorem d_Wo_upper_5 : decode b_Wo_upper 5 = .ok (.ireturn, 1) := by decide +kernel
def f_Wo_upper (w : Int32) : Int32 := w &&& (-4096 : Int32)
set_option maxHeartbeats 8000000 in
set_option maxRecDepth 100000 in
theorem c_Wo_upper (l : Launch) (w : Int32) (sz : Nat) : Met l y_Wo_upper w_Wo_upper rm_Wo_upper (PreP sz [.int w]) (QPi (fun q : Nat => sz ≤ q) (f_Wo_upper w)) 0 0 (fun q : Nat => sz ≤ q) := by
  generalize hres : f_Wo_upper w = res
  refine Met.ofW (cc := b_Wo_upper) (maxL := 1) (ret := (some .int)) (by decide) rfl ?_
  intro p e s m args below meth c s₁ B hml hv
  obtain ⟨rfl, rfl⟩ := hv
  have hx := B.exec
  have hb := B.bytes
  have hr := B.returns
  have hts : ∀ w9 ∈ ALLW, w9.before ([.int w] : List Value).toArray s = true := fun w9 h => atoms_spec (ws := w_Wo_upper) B.pre w9 (List.mem_cons_of_mem _ h)
  have hown : s.vm.findClass R_Wo = some m.cls := findClass_of_methodNamed B.named
  have hlocks := B.notSynchronized
  generalize hAe : (fun q : Nat => s.heap.size ≤ q) = A
  have hA : ∀ q : Nat, s.heap.size ≤ q → A q := fun q h => by rw [← hAe]; exact h
  have hS : va_S A s.heap s.heap [] := va_S.rf
  have hl := lv_entry ([.int w]) (n := 1) (Nat.le_of_ble_eq_true rfl)
  rw [lg_entry_eq]
  generalize (lg_sl ([.int w]) ++ List.replicate (1 - (lg_sl ([.int w])).length) Slot.unset).toArray = ls at hl ⊢
  have hl : lv_has ls 1 [(0, .int w)] := hl
  have hq := hres.symm
  refine lv_iload_n hx hb d_Wo_upper_0 rfl (lv_at hl 0 rfl) ?_
  refine lv_sipush (v := (-4096)) hx hb d_Wo_upper_1 (by decide) ?_
  refine lv_iand hx hb d_Wo_upper_4 ?_
  have hE : res = w &&& (-4096 : Int32) := hq.trans (rfl)
  exact retPi (x := w &&& (-4096 : Int32)) hx hb hr hS hE.symm d_Wo_upper_5 hlocks
def w_Wo_immediate : List Cond := .code y_Wo_immediate b_Wo_immediate 1 (some .int) :: ALLW
def rm_Wo_immediate : Room := { frames := 20, cells := 0, slots := 0, locals := 600 }
theorem d_Wo_immediate_0 : decode b_Wo_immediate 0 = .ok (.iload_n 0, 1) := by decide +kernel
theorem d_Wo_immediate_1 : decode b_Wo_immediate 1 = .ok (.bipush 20, 2) := by decide +kernel
theorem d_Wo_immediate_3 : decode b_Wo_immediate 3 = .ok (.ishr, 1) := by decide +kernel
theorem d_Wo_immediate_4 : decode b_Wo_immediate 4 = .ok (.ireturn, 1) := by decide +kernel
def f_Wo_immediate (w : Int32) : Int32 := w >>> ((20 : Int32) &&& 31)
set_option maxHeartbeats 8000000 in
set_option maxRecDepth 100000 in
theorem c_Wo_immediate (l : Launch) (w : Int32) (sz : Nat) : Met l y_Wo_immediate w_Wo_immediate rm_Wo_immediate (PreP sz [.int w]) (QPi (fun q : Nat => sz ≤ q) (f_Wo_immediate w)) 0 0 (fun q : Nat => sz ≤ q) := by
  generalize hres : f_Wo_immediate w = res
  refine Met.ofW (cc := b_Wo_immediate) (maxL := 1) (ret := (some .int)) (by decide) rfl ?_
  intro p e s m args below meth c s₁ B hml hv
  obtain ⟨rfl, rfl⟩ := hv
  have hx := B.exec
  have hb := B.bytes
  have hr := B.returns
  have hts : ∀ w9 ∈ ALLW, w9.before ([.int w] : List Value).toArray s = true := fun w9 h => atoms_spec (ws := w_Wo_immediate) B.pre w9 (List.mem_cons_of_mem _ h)
  have hown : s.vm.findClass R_Wo = some m.cls := findClass_of_methodNamed B.named
  have hlocks := B.notSynchronized
  generalize hAe : (fun q : Nat => s.heap.size ≤ q) = A
  have hA : ∀ q : Nat, s.heap.size ≤ q → A q := fun q h => by rw [← hAe]; exact h
  have hS : va_S A s.heap s.heap [] := va_S.rf
  have hl := lv_entry ([.int w]) (n := 1) (Nat.le_of_ble_eq_true rfl)
  rw [lg_entry_eq]
  generalize (lg_sl ([.int w]) ++ List.replicate (1 - (lg_sl ([.int w])).length) Slot.unset).toArray = ls at hl ⊢
  have hl : lv_has ls 1 [(0, .int w)] := hl
  have hq := hres.symm
  refine lv_iload_n hx hb d_Wo_immediate_0 rfl (lv_at hl 0 rfl) ?_
  refine lv_bipush (v := 20) hx hb d_Wo_immediate_1 (by decide) ?_
  refine lv_ishr hx hb d_Wo_immediate_3 ?_
  have hE : res = w >>> ((20 : Int32) &&& 31) := hq.trans (rfl)
  exact retPi (x := w >>> ((20 : Int32) &&& 31)) hx hb hr hS hE.symm d_Wo_immediate_4 hlocks
def w_Wo_storeOffset : List Cond := .code y_Wo_storeOffset b_Wo_storeOffset 1 (some .int) :: ALLW
def rm_Wo_storeOffset : Room := { frames := 20, cells := 0, slots := 0, locals := 600 }
theorem d_Wo_storeOffset_0 : decode b_Wo_storeOffset 0 = .ok (.iload_n 0, 1) := by decide +kernel
theorem d_Wo_storeOffset_1 : decode b_Wo_storeOffset 1 = .ok (.bipush 25, 2) := by decide +kernel
theorem d_Wo_storeOffset_3 : decode b_Wo_storeOffset 3 = .ok (.ishr, 1) := by decide +kernel
theorem d_Wo_storeOffset_4 : decode b_Wo_storeOffset 4 = .ok (.iconst 5, 1) := by decide +kernel
theorem d_Wo_storeOffset_5 : decode b_Wo_storeOffset 5 = .ok (.ishl, 1) := by decide +kernel
theorem d_Wo_storeOffset_6 : decode b_Wo_storeOffset 6 = .ok (.iload_n 0, 1) := by decide +kernel
theorem d_Wo_storeOffset_7 : decode b_Wo_storeOffset 7 = .ok (.bipush 7, 2) := by decide +kernel
theorem d_Wo_storeOffset_9 : decode b_Wo_storeOffset 9 = .ok (.iushr, 1) := by decide +kernel
theorem d_Wo_storeOffset_10 : decode b_Wo_storeOffset 10 = .ok (.bipush 31, 2) := by decide +kernel
theorem d_Wo_storeOffset_12 : decode b_Wo_storeOffset 12 = .ok (.iand, 1) := by decide +kernel
theorem d_Wo_storeOffset_13 : decode b_Wo_storeOffset 13 = .ok (.ior, 1) := by decide +kernel
theorem d_Wo_storeOffset_14 : decode b_Wo_storeOffset 14 = .ok (.ireturn, 1) := by decide +kernel
def f_Wo_storeOffset (w : Int32) : Int32 := ((w >>> ((25 : Int32) &&& 31)) <<< ((5 : Int32) &&& 31)) ||| (((w.toUInt32 >>> ((7 : Int32).toUInt32 &&& Int32.toUInt32 31)).toInt32) &&& (31 : Int32))
set_option maxHeartbeats 8000000 in
set_option maxRecDepth 100000 in
theorem c_Wo_storeOffset (l : Launch) (w : Int32) (sz : Nat) : Met l y_Wo_storeOffset w_Wo_storeOffset rm_Wo_storeOffset (PreP sz [.int w]) (QPi (fun q : Nat => sz ≤ q) (f_Wo_storeOffset w)) 0 0 (fun q : Nat => sz ≤ q) := by
  generalize hres : f_Wo_storeOffset w = res
  refine Met.ofW (cc := b_Wo_storeOffset) (maxL := 1) (ret := (some .int)) (by decide) rfl ?_
  intro p e s m args below meth c s₁ B hml hv
  obtain ⟨rfl, rfl⟩ := hv
  have hx := B.exec
  have hb := B.bytes
  have hr := B.returns
  have hts : ∀ w9 ∈ ALLW, w9.before ([.int w] : List Value).toArray s = true := fun w9 h => atoms_spec (ws := w_Wo_storeOffset) B.pre w9 (List.mem_cons_of_mem _ h)
  have hown : s.vm.findClass R_Wo = some m.cls := findClass_of_methodNamed B.named
  have hlocks := B.notSynchronized
  generalize hAe : (fun q : Nat => s.heap.size ≤ q) = A
  have hA : ∀ q : Nat, s.heap.size ≤ q → A q := fun q h => by rw [← hAe]; exact h
  have hS : va_S A s.heap s.heap [] := va_S.rf
  have hl := lv_entry ([.int w]) (n := 1) (Nat.le_of_ble_eq_true rfl)
  rw [lg_entry_eq]
  generalize (lg_sl ([.int w]) ++ List.replicate (1 - (lg_sl ([.int w])).length) Slot.unset).toArray = ls at hl ⊢
  have hl : lv_has ls 1 [(0, .int w)] := hl
  have hq := hres.symm
  refine lv_iload_n hx hb d_Wo_storeOffset_0 rfl (lv_at hl 0 rfl) ?_
  refine lv_bipush (v := 25) hx hb d_Wo_storeOffset_1 (by decide) ?_
  refine lv_ishr hx hb d_Wo_storeOffset_3 ?_
  refine lv_iconst (v := 5) hx hb d_Wo_storeOffset_4 (by decide) ?_
  refine lv_ishl hx hb d_Wo_storeOffset_5 ?_
  refine lv_iload_n hx hb d_Wo_storeOffset_6 rfl (lv_at hl 0 rfl) ?_
  refine lv_bipush (v := 7) hx hb d_Wo_storeOffset_7 (by decide) ?_
  refine lv_iushr (v := (w.toUInt32 >>> ((7 : Int32).toUInt32 &&& Int32.toUInt32 31)).toInt32) hx hb d_Wo_storeOffset_9 rfl ?_
  refine lv_bipush (v := 31) hx hb d_Wo_storeOffset_10 (by decide) ?_
  refine lv_iand hx hb d_Wo_storeOffset_12 ?_
  refine lv_ior hx hb d_Wo_storeOffset_13 ?_
  have hE : res = ((w >>> ((25 : Int32) &&& 31)) <<< ((5 : Int32) &&& 31)) ||| (((w.toUInt32 >>> ((7 : Int32).toUInt32 &&& Int32.toUInt32 31)).toInt32) &&& (31 : Int32)) := hq.trans (rfl)
  exact retPi (x := ((w >>> ((25 : Int32) &&& 31)) <<< ((5 : Int32) &&& 31)) ||| (((w.toUInt32 >>> ((7 : Int32).toUInt32 &&& Int32.toUInt32 31)).toInt32) &&& (31 : Int32))) hx hb hr hS hE.symm d_Wo_storeOffset_14 hlocks
def w_Wo_branchOffset : List Cond := .code y_Wo_branchOffset b_Wo_branchOffset 1 (some .int) :: ALLW
def rm_Wo_branchOffset : Room := { frames := 20, cells := 0, slots := 0, locals := 600 }
theorem d_Wo_branchOffset_0 : decode b_Wo_branchOffset 0 = .ok (.iload_n 0, 1) := by decide +kernel
theorem d_Wo_branchOffset_1 : decode b_Wo_branchOffset 1 = .ok (.bipush 31, 2) := by decide +kernel
theorem d_Wo_branchOffset_3 : decode b_Wo_branchOffset 3 = .ok (.ishr, 1) := by decide +kernel
theorem d_Wo_branchOffset_4 : decode b_Wo_branchOffset 4 = .ok (.bipush 12, 2) := by decide +kernel
theorem d_Wo_branchOffset_6 : decode b_Wo_branchOffset 6 = .ok (.ishl, 1) := by decide +kernel
theorem d_Wo_branchOffset_7 : decode b_Wo_branchOffset 7 = .ok (.iload_n 0, 1) := by decide +kernel
theorem d_Wo_branchOffset_8 : decode b_Wo_branchOffset 8 = .ok (.bipush 7, 2) := by decide +kernel
theorem d_Wo_branchOffset_10 : decode b_Wo_branchOffset 10 = .ok (.iushr, 1) := by decide +kernel
theorem d_Wo_branchOffset_11 : decode b_Wo_branchOffset 11 = .ok (.iconst 1, 1) := by decide +kernel
theorem d_Wo_branchOffset_12 : decode b_Wo_branchOffset 12 = .ok (.iand, 1) := by decide +kernel
theorem d_Wo_branchOffset_13 : decode b_Wo_branchOffset 13 = .ok (.bipush 11, 2) := by decide +kernel
theorem d_Wo_branchOffset_15 : decode b_Wo_branchOffset 15 = .ok (.ishl, 1) := by decide +kernel
theorem d_Wo_branchOffset_16 : decode b_Wo_branchOffset 16 = .ok (.ior, 1) := by decide +kernel
theorem d_Wo_branchOffset_17 : decode b_Wo_branchOffset 17 = .ok (.iload_n 0, 1) := by decide +kernel
theorem d_Wo_branchOffset_18 : decode b_Wo_branchOffset 18 = .ok (.bipush 25, 2) := by decide +kernel
theorem d_Wo_branchOffset_20 : decode b_Wo_branchOffset 20 = .ok (.iushr, 1) := by decide +kernel
theorem d_Wo_branchOffset_21 : decode b_Wo_branchOffset 21 = .ok (.bipush 63, 2) := by decide +kernel
theorem d_Wo_branchOffset_23 : decode b_Wo_branchOffset 23 = .ok (.iand, 1) := by decide +kernel
theorem d_Wo_branchOffset_24 : decode b_Wo_branchOffset 24 = .ok (.iconst 5, 1) := by decide +kernel
theorem d_Wo_branchOffset_25 : decode b_Wo_branchOffset 25 = .ok (.ishl, 1) := by decide +kernel
theorem d_Wo_branchOffset_26 : decode b_Wo_branchOffset 26 = .ok (.ior, 1) := by decide +kernel
theorem d_Wo_branchOffset_27 : decode b_Wo_branchOffset 27 = .ok (.iload_n 0, 1) := by decide +kernel
theorem d_Wo_branchOffset_28 : decode b_Wo_branchOffset 28 = .ok (.bipush 8, 2) := by decide +kernel
theorem d_Wo_branchOffset_30 : decode b_Wo_branchOffset 30 = .ok (.iushr, 1) := by decide +kernel
theorem d_Wo_branchOffset_31 : decode b_Wo_branchOffset 31 = .ok (.bipush 15, 2) := by decide +kernel
theorem d_Wo_branchOffset_33 : decode b_Wo_branchOffset 33 = .ok (.iand, 1) := by decide +kernel
theorem d_Wo_branchOffset_34 : decode b_Wo_branchOffset 34 = .ok (.iconst 1, 1) := by decide +kernel
theorem d_Wo_branchOffset_35 : decode b_Wo_branchOffset 35 = .ok (.ishl, 1) := by decide +kernel
theorem d_Wo_branchOffset_36 : decode b_Wo_branchOffset 36 = .ok (.ior, 1) := by decide +kernel
theorem d_Wo_branchOffset_37 : decode b_Wo_branchOffset 37 = .ok (.ireturn, 1) := by decide +kernel
def f_Wo_branchOffset (w : Int32) : Int32 := ((((w >>> ((31 : Int32) &&& 31)) <<< ((12 : Int32) &&& 31)) ||| ((((w.toUInt32 >>> ((7 : Int32).toUInt32 &&& Int32.toUInt32 31)).toInt32) &&& (1 : Int32)) <<< ((11 : Int32) &&& 31))) ||| ((((w.toUInt32 >>> ((25 : Int32).toUInt32 &&& Int32.toUInt32 31)).toInt32) &&& (63 : Int32)) <<< ((5 : Int32) &&& 31))) ||| ((((w.toUInt32 >>> ((8 : Int32).toUInt32 &&& Int32.toUInt32 31)).toInt32) &&& (15 : Int32)) <<< ((1 : Int32) &&& 31))
set_option maxHeartbeats 8000000 in
set_option maxRecDepth 100000 in
theorem c_Wo_branchOffset (l : Launch) (w : Int32) (sz : Nat) : Met l y_Wo_branchOffset w_Wo_branchOffset rm_Wo_branchOffset (PreP sz [.int w]) (QPi (fun q : Nat => sz ≤ q) (f_Wo_branchOffset w)) 0 0 (fun q : Nat => sz ≤ q) := by
  generalize hres : f_Wo_branchOffset w = res
  refine Met.ofW (cc := b_Wo_branchOffset) (maxL := 1) (ret := (some .int)) (by decide) rfl ?_
  intro p e s m args below meth c s₁ B hml hv
  obtain ⟨rfl, rfl⟩ := hv
  have hx := B.exec
  have hb := B.bytes
  have hr := B.returns
  have hts : ∀ w9 ∈ ALLW, w9.before ([.int w] : List Value).toArray s = true := fun w9 h => atoms_spec (ws := w_Wo_branchOffset) B.pre w9 (List.mem_cons_of_mem _ h)
  have hown : s.vm.findClass R_Wo = some m.cls := findClass_of_methodNamed B.named
  have hlocks := B.notSynchronized
  generalize hAe : (fun q : Nat => s.heap.size ≤ q) = A
  have hA : ∀ q : Nat, s.heap.size ≤ q → A q := fun q h => by rw [← hAe]; exact h
  have hS : va_S A s.heap s.heap [] := va_S.rf
  have hl := lv_entry ([.int w]) (n := 1) (Nat.le_of_ble_eq_true rfl)
  rw [lg_entry_eq]
  generalize (lg_sl ([.int w]) ++ List.replicate (1 - (lg_sl ([.int w])).length) Slot.unset).toArray = ls at hl ⊢
  have hl : lv_has ls 1 [(0, .int w)] := hl
  have hq := hres.symm
  refine lv_iload_n hx hb d_Wo_branchOffset_0 rfl (lv_at hl 0 rfl) ?_
  refine lv_bipush (v := 31) hx hb d_Wo_branchOffset_1 (by decide) ?_
  refine lv_ishr hx hb d_Wo_branchOffset_3 ?_
  refine lv_bipush (v := 12) hx hb d_Wo_branchOffset_4 (by decide) ?_
  refine lv_ishl hx hb d_Wo_branchOffset_6 ?_
  refine lv_iload_n hx hb d_Wo_branchOffset_7 rfl (lv_at hl 0 rfl) ?_
  refine lv_bipush (v := 7) hx hb d_Wo_branchOffset_8 (by decide) ?_
  refine lv_iushr (v := (w.toUInt32 >>> ((7 : Int32).toUInt32 &&& Int32.toUInt32 31)).toInt32) hx hb d_Wo_branchOffset_10 rfl ?_
  refine lv_iconst (v := 1) hx hb d_Wo_branchOffset_11 (by decide) ?_
  refine lv_iand hx hb d_Wo_branchOffset_12 ?_
  refine lv_bipush (v := 11) hx hb d_Wo_branchOffset_13 (by decide) ?_
  refine lv_ishl hx hb d_Wo_branchOffset_15 ?_
  refine lv_ior hx hb d_Wo_branchOffset_16 ?_
  refine lv_iload_n hx hb d_Wo_branchOffset_17 rfl (lv_at hl 0 rfl) ?_
  refine lv_bipush (v := 25) hx hb d_Wo_branchOffset_18 (by decide) ?_
  refine lv_iushr (v := (w.toUInt32 >>> ((25 : Int32).toUInt32 &&& Int32.toUInt32 31)).toInt32) hx hb d_Wo_branchOffset_20 rfl ?_
  refine lv_bipush (v := 63) hx hb d_Wo_branchOffset_21 (by decide) ?_
  refine lv_iand hx hb d_Wo_branchOffset_23 ?_
  refine lv_iconst (v := 5) hx hb d_Wo_branchOffset_24 (by decide) ?_
  refine lv_ishl hx hb d_Wo_branchOffset_25 ?_
  refine lv_ior hx hb d_Wo_branchOffset_26 ?_
  refine lv_iload_n hx hb d_Wo_branchOffset_27 rfl (lv_at hl 0 rfl) ?_
  refine lv_bipush (v := 8) hx hb d_Wo_branchOffset_28 (by decide) ?_
  refine lv_iushr (v := (w.toUInt32 >>> ((8 : Int32).toUInt32 &&& Int32.toUInt32 31)).toInt32) hx hb d_Wo_branchOffset_30 rfl ?_
  refine lv_bipush (v := 15) hx hb d_Wo_branchOffset_31 (by decide) ?_
  refine lv_iand hx hb d_Wo_branchOffset_33 ?_
  refine lv_iconst (v := 1) hx hb d_Wo_branchOffset_34 (by decide) ?_
  refine lv_ishl hx hb d_Wo_branchOffset_35 ?_
  refine lv_ior hx hb d_Wo_branchOffset_36 ?_
  have hE : res = ((((w >>> ((31 : Int32) &&& 31)) <<< ((12 : Int32) &&& 31)) ||| ((((w.toUInt32 >>> ((7 : Int32).toUInt32 &&& Int32.toUInt32 31)).toInt32) &&& (1 : Int32)) <<< ((11 : Int32) &&& 31))) ||| ((((w.toUInt32 >>> ((25 : Int32).toUInt32 &&& Int32.toUInt32 31)).toInt32) &&& (63 : Int32)) <<< ((5 : Int32) &&& 31))) ||| ((((w.toUInt32 >>> ((8 : Int32).toUInt32 &&& Int32.toUInt32 31)).toInt32) &&& (15 : Int32)) <<< ((1 : Int32) &&& 31)) := hq.trans (rfl)
  exact retPi (x := ((((w >>> ((31 : Int32) &&& 31)) <<< ((12 : Int32) &&& 31)) ||| ((((w.toUInt32 >>> ((7 : Int32).toUInt32 &&& Int32.toUInt32 31)).toInt32) &&& (1 : Int32)) <<< ((11 : Int32) &&& 31))) ||| ((((w.toUInt32 >>> ((25 : Int32).toUInt32 &&& Int32.toUInt32 31)).toInt32) &&& (63 : Int32)) <<< ((5 : Int32) &&& 31))) ||| ((((w.toUInt32 >>> ((8 : Int32).toUInt32 &&& Int32.toUInt32 31)).toInt32) &&& (15 : Int32)) <<< ((1 : Int32) &&& 31))) hx hb hr hS hE.symm d_Wo_branchOffset_37 hlocks
def w_Wo_jumpOffset : List Cond := .code y_Wo_jumpOffset b_Wo_jumpOffset 1 (some .int) :: ALLW
def rm_Wo_jumpOffset : Room := { frames := 20, cells := 0, slots := 0, locals := 600 }
theorem d_Wo_jumpOffset_0 : decode b_Wo_jumpOffset 0 = .ok (.iload_n 0, 1) := by decide +kernel
theorem d_Wo_jumpOffset_1 : decode b_Wo_jumpOffset 1 = .ok (.bipush 31, 2) := by decide +kernel
theorem d_Wo_jumpOffset_3 : decode b_Wo_jumpOffset 3 = .ok (.ishr, 1) := by decide +kernel
theorem d_Wo_jumpOffset_4 : decode b_Wo_jumpOffset 4 = .ok (.bipush 20, 2) := by decide +kernel
theorem d_Wo_jumpOffset_6 : decode b_Wo_jumpOffset 6 = .ok (.ishl, 1) := by decide +kernel
theorem d_Wo_jumpOffset_7 : decode b_Wo_jumpOffset 7 = .ok (.iload_n 0, 1) := by decide +kernel
theorem d_Wo_jumpOffset_8 : decode b_Wo_jumpOffset 8 = .ok (.ldc 7, 2) := by decide +kernel
theorem d_Wo_jumpOffset_10 : decode b_Wo_jumpOffset 10 = .ok (.iand, 1) := by decide +kernel
theorem d_Wo_jumpOffset_11 : decode b_Wo_jumpOffset 11 = .ok (.ior, 1) := by decide +kernel
theorem d_Wo_jumpOffset_12 : decode b_Wo_jumpOffset 12 = .ok (.iload_n 0, 1) := by decide +kernel
theorem d_Wo_jumpOffset_13 : decode b_Wo_jumpOffset 13 = .ok (.bipush 20, 2) := by decide +kernel
theorem d_Wo_jumpOffset_15 : decode b_Wo_jumpOffset 15 = .ok (.iushr, 1) := by decide +kernel
theorem d_Wo_jumpOffset_16 : decode b_Wo_jumpOffset 16 = .ok (.iconst 1, 1) := by decide +kernel
theorem d_Wo_jumpOffset_17 : decode b_Wo_jumpOffset 17 = .ok (.iand, 1) := by decide +kernel
theorem d_Wo_jumpOffset_18 : decode b_Wo_jumpOffset 18 = .ok (.bipush 11, 2) := by decide +kernel
theorem d_Wo_jumpOffset_20 : decode b_Wo_jumpOffset 20 = .ok (.ishl, 1) := by decide +kernel
theorem d_Wo_jumpOffset_21 : decode b_Wo_jumpOffset 21 = .ok (.ior, 1) := by decide +kernel
theorem d_Wo_jumpOffset_22 : decode b_Wo_jumpOffset 22 = .ok (.iload_n 0, 1) := by decide +kernel
theorem d_Wo_jumpOffset_23 : decode b_Wo_jumpOffset 23 = .ok (.bipush 21, 2) := by decide +kernel
theorem d_Wo_jumpOffset_25 : decode b_Wo_jumpOffset 25 = .ok (.iushr, 1) := by decide +kernel
theorem d_Wo_jumpOffset_26 : decode b_Wo_jumpOffset 26 = .ok (.sipush 1023, 3) := by decide +kernel
theorem d_Wo_jumpOffset_29 : decode b_Wo_jumpOffset 29 = .ok (.iand, 1) := by decide +kernel
theorem d_Wo_jumpOffset_30 : decode b_Wo_jumpOffset 30 = .ok (.iconst 1, 1) := by decide +kernel
theorem d_Wo_jumpOffset_31 : decode b_Wo_jumpOffset 31 = .ok (.ishl, 1) := by decide +kernel
theorem d_Wo_jumpOffset_32 : decode b_Wo_jumpOffset 32 = .ok (.ior, 1) := by decide +kernel
theorem d_Wo_jumpOffset_33 : decode b_Wo_jumpOffset 33 = .ok (.ireturn, 1) := by decide +kernel
def f_Wo_jumpOffset (w : Int32) : Int32 := ((((w >>> ((31 : Int32) &&& 31)) <<< ((20 : Int32) &&& 31)) ||| (w &&& (1044480 : Int32))) ||| ((((w.toUInt32 >>> ((20 : Int32).toUInt32 &&& Int32.toUInt32 31)).toInt32) &&& (1 : Int32)) <<< ((11 : Int32) &&& 31))) ||| ((((w.toUInt32 >>> ((21 : Int32).toUInt32 &&& Int32.toUInt32 31)).toInt32) &&& (1023 : Int32)) <<< ((1 : Int32) &&& 31))
set_option maxHeartbeats 8000000 in
set_option maxRecDepth 100000 in
theorem c_Wo_jumpOffset (l : Launch) (w : Int32) (sz : Nat) : Met l y_Wo_jumpOffset w_Wo_jumpOffset rm_Wo_jumpOffset (PreP sz [.int w]) (QPi (fun q : Nat => sz ≤ q) (f_Wo_jumpOffset w)) 0 0 (fun q : Nat => sz ≤ q) := by
  generalize hres : f_Wo_jumpOffset w = res
  refine Met.ofW (cc := b_Wo_jumpOffset) (maxL := 1) (ret := (some .int)) (by decide) rfl ?_
  intro p e s m args below meth c s₁ B hml hv
  obtain ⟨rfl, rfl⟩ := hv
  have hx := B.exec
  have hb := B.bytes
  have hr := B.returns
  have hts : ∀ w9 ∈ ALLW, w9.before ([.int w] : List Value).toArray s = true := fun w9 h => atoms_spec (ws := w_Wo_jumpOffset) B.pre w9 (List.mem_cons_of_mem _ h)
  have hown : s.vm.findClass R_Wo = some m.cls := findClass_of_methodNamed B.named
  have hlocks := B.notSynchronized
  generalize hAe : (fun q : Nat => s.heap.size ≤ q) = A
  have hA : ∀ q : Nat, s.heap.size ≤ q → A q := fun q h => by rw [← hAe]; exact h
  have hS : va_S A s.heap s.heap [] := va_S.rf
  have hl := lv_entry ([.int w]) (n := 1) (Nat.le_of_ble_eq_true rfl)
  rw [lg_entry_eq]
  generalize (lg_sl ([.int w]) ++ List.replicate (1 - (lg_sl ([.int w])).length) Slot.unset).toArray = ls at hl ⊢
  have hl : lv_has ls 1 [(0, .int w)] := hl
  have hq := hres.symm
  refine lv_iload_n hx hb d_Wo_jumpOffset_0 rfl (lv_at hl 0 rfl) ?_
  refine lv_bipush (v := 31) hx hb d_Wo_jumpOffset_1 (by decide) ?_
  refine lv_ishr hx hb d_Wo_jumpOffset_3 ?_
  refine lv_bipush (v := 20) hx hb d_Wo_jumpOffset_4 (by decide) ?_
  refine lv_ishl hx hb d_Wo_jumpOffset_6 ?_
  refine lv_iload_n hx hb d_Wo_jumpOffset_7 rfl (lv_at hl 0 rfl) ?_
  refine lv_ldc (v := 1044480) hx hb hown (hts _ m_7_28) d_Wo_jumpOffset_8 ?_
  refine lv_iand hx hb d_Wo_jumpOffset_10 ?_
  refine lv_ior hx hb d_Wo_jumpOffset_11 ?_
  refine lv_iload_n hx hb d_Wo_jumpOffset_12 rfl (lv_at hl 0 rfl) ?_
  refine lv_bipush (v := 20) hx hb d_Wo_jumpOffset_13 (by decide) ?_
  refine lv_iushr (v := (w.toUInt32 >>> ((20 : Int32).toUInt32 &&& Int32.toUInt32 31)).toInt32) hx hb d_Wo_jumpOffset_15 rfl ?_
  refine lv_iconst (v := 1) hx hb d_Wo_jumpOffset_16 (by decide) ?_
  refine lv_iand hx hb d_Wo_jumpOffset_17 ?_
  refine lv_bipush (v := 11) hx hb d_Wo_jumpOffset_18 (by decide) ?_
  refine lv_ishl hx hb d_Wo_jumpOffset_20 ?_
  refine lv_ior hx hb d_Wo_jumpOffset_21 ?_
  refine lv_iload_n hx hb d_Wo_jumpOffset_22 rfl (lv_at hl 0 rfl) ?_
  refine lv_bipush (v := 21) hx hb d_Wo_jumpOffset_23 (by decide) ?_
  refine lv_iushr (v := (w.toUInt32 >>> ((21 : Int32).toUInt32 &&& Int32.toUInt32 31)).toInt32) hx hb d_Wo_jumpOffset_25 rfl ?_
  refine lv_sipush (v := 1023) hx hb d_Wo_jumpOffset_26 (by decide) ?_
  refine lv_iand hx hb d_Wo_jumpOffset_29 ?_
  refine lv_iconst (v := 1) hx hb d_Wo_jumpOffset_30 (by decide) ?_
  refine lv_ishl hx hb d_Wo_jumpOffset_31 ?_
  refine lv_ior hx hb d_Wo_jumpOffset_32 ?_
  have hE : res = ((((w >>> ((31 : Int32) &&& 31)) <<< ((20 : Int32) &&& 31)) ||| (w &&& (1044480 : Int32))) ||| ((((w.toUInt32 >>> ((20 : Int32).toUInt32 &&& Int32.toUInt32 31)).toInt32) &&& (1 : Int32)) <<< ((11 : Int32) &&& 31))) ||| ((((w.toUInt32 >>> ((21 : Int32).toUInt32 &&& Int32.toUInt32 31)).toInt32) &&& (1023 : Int32)) <<< ((1 : Int32) &&& 31)) := hq.trans (rfl)
  exact retPi (x := ((((w >>> ((31 : Int32) &&& 31)) <<< ((20 : Int32) &&& 31)) ||| (w &&& (1044480 : Int32))) ||| ((((w.toUInt32 >>> ((20 : Int32).toUInt32 &&& Int32.toUInt32 31)).toInt32) &&& (1 : Int32)) <<< ((11 : Int32) &&& 31))) ||| ((((w.toUInt32 >>> ((21 : Int32).toUInt32 &&& Int32.toUInt32 31)).toInt32) &&& (1023 : Int32)) <<< ((1 : Int32) &&& 31))) hx hb hr hS hE.symm d_Wo_jumpOffset_33 hlocks
