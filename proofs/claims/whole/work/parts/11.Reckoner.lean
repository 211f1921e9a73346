def w_Rk_kind : List Cond := .code y_Rk_kind b_Rk_kind 2 (some .int) :: ALLW
def rm_Rk_kind : Room := { frames := 20, cells := 0, slots := 0, locals := 600 }
theorem d_Rk_kind_0 : decode b_Rk_kind 0 = .ok (.iload_n 1, 1) := by decide +kernel
theorem d_Rk_kind_1 : decode b_Rk_kind 1 = .ok (.ifCond .ne 5, 3) := by decide +kernel
theorem d_Rk_kind_4 : decode b_Rk_kind 4 = .ok (.iload_n 0, 1) := by decide +kernel
theorem d_Rk_kind_5 : decode b_Rk_kind 5 = .ok (.ireturn, 1) := by decide +kernel
theorem d_Rk_kind_6 : decode b_Rk_kind 6 = .ok (.iload_n 1, 1) := by decide +kernel
theorem d_Rk_kind_7 : decode b_Rk_kind 7 = .ok (.iconst 1, 1) := by decide +kernel
theorem d_Rk_kind_8 : decode b_Rk_kind 8 = .ok (.if_icmp .ne 8, 3) := by decide +kernel
theorem d_Rk_kind_11 : decode b_Rk_kind 11 = .ok (.bipush 16, 2) := by decide +kernel
theorem d_Rk_kind_13 : decode b_Rk_kind 13 = .ok (.iload_n 0, 1) := by decide +kernel
theorem d_Rk_kind_14 : decode b_Rk_kind 14 = .ok (.iadd, 1) := by decide +kernel
theorem d_Rk_kind_15 : decode b_Rk_kind 15 = .ok (.ireturn, 1) := by decide +kernel
theorem d_Rk_kind_16 : decode b_Rk_kind 16 = .ok (.iload_n 1, 1) := by decide +kernel
theorem d_Rk_kind_17 : decode b_Rk_kind 17 = .ok (.bipush 32, 2) := by decide +kernel
theorem d_Rk_kind_19 : decode b_Rk_kind 19 = .ok (.if_icmp .ne 19, 3) := by decide +kernel
theorem d_Rk_kind_22 : decode b_Rk_kind 22 = .ok (.iload_n 0, 1) := by decide +kernel
theorem d_Rk_kind_23 : decode b_Rk_kind 23 = .ok (.ifCond .eq 8, 3) := by decide +kernel
theorem d_Rk_kind_26 : decode b_Rk_kind 26 = .ok (.iload_n 0, 1) := by decide +kernel
theorem d_Rk_kind_27 : decode b_Rk_kind 27 = .ok (.iconst 5, 1) := by decide +kernel
theorem d_Rk_kind_28 : decode b_Rk_kind 28 = .ok (.if_icmp .ne 10, 3) := by decide +kernel
theorem d_Rk_kind_31 : decode b_Rk_kind 31 = .ok (.bipush 8, 2) := by decide +kernel
theorem d_Rk_kind_33 : decode b_Rk_kind 33 = .ok (.iload_n 0, 1) := by decide +kernel
theorem d_Rk_kind_34 : decode b_Rk_kind 34 = .ok (.iadd, 1) := by decide +kernel
theorem d_Rk_kind_35 : decode b_Rk_kind 35 = .ok (.goto 4, 3) := by decide +kernel
theorem d_Rk_kind_38 : decode b_Rk_kind 38 = .ok (.iconst (-1), 1) := by decide +kernel
theorem d_Rk_kind_39 : decode b_Rk_kind 39 = .ok (.ireturn, 1) := by decide +kernel
def f_Rk_kind (f : Int32) (g : Int32) : Int32 := if g = 0 then f else if g = 1 then (16 : Int32) + f else if g = 32 then (if f = 0 then (8 : Int32) + f else if f = 5 then (8 : Int32) + f else (-1)) else (-1)
set_option maxHeartbeats 8000000 in
set_option maxRecDepth 100000 in
theorem c_Rk_kind (l : Launch) (f : Int32) (g : Int32) (sz : Nat) : Met l y_Rk_kind w_Rk_kind rm_Rk_kind (PreP sz [.int f, .int g]) (QPi (fun q : Nat => sz ≤ q) (f_Rk_kind f g)) 0 0 (fun q : Nat => sz ≤ q) := by
  generalize hres : f_Rk_kind f g = res
  refine Met.ofW (cc := b_Rk_kind) (maxL := 2) (ret := (some .int)) (by decide) rfl ?_
  intro p e s m args below meth c s₁ B hml hv
  obtain ⟨rfl, rfl⟩ := hv
  have hx := B.exec
  have hb := B.bytes
  have hr := B.returns
  have hts : ∀ w9 ∈ ALLW, w9.before ([.int f, .int g] : List Value).toArray s = true := fun w9 h => atoms_spec (ws := w_Rk_kind) B.pre w9 (List.mem_cons_of_mem _ h)
  have hown : s.vm.findClass R_Rk = some m.cls := findClass_of_methodNamed B.named
  have hlocks := B.notSynchronized
  generalize hAe : (fun q : Nat => s.heap.size ≤ q) = A
  have hA : ∀ q : Nat, s.heap.size ≤ q → A q := fun q h => by rw [← hAe]; exact h
  have hS : va_S A s.heap s.heap [] := va_S.rf
  have hl := lv_entry ([.int f, .int g]) (n := 2) (Nat.le_of_ble_eq_true rfl)
  rw [lg_entry_eq]
  generalize (lg_sl ([.int f, .int g]) ++ List.replicate (2 - (lg_sl ([.int f, .int g])).length) Slot.unset).toArray = ls at hl ⊢
  have hl : lv_has ls 2 [(0, .int f), (1, .int g)] := hl
  have hq := hres.symm
  refine lv_iload_n hx hb d_Rk_kind_0 rfl (lv_at hl 1 rfl) ?_
  refine lv_if_ne (tgt := 6) hx hb d_Rk_kind_1 (by decide) (fun c1 => ?_) (fun c1 => ?_)
  · skip
    refine lv_iload_n hx hb d_Rk_kind_6 rfl (lv_at hl 1 rfl) ?_
    refine lv_iconst (v := 1) hx hb d_Rk_kind_7 (by decide) ?_
    refine lv_icmp_ne (tgt := 16) hx hb d_Rk_kind_8 (by decide) (fun c2 => ?_) (fun c2 => ?_)
    · skip
      refine lv_iload_n hx hb d_Rk_kind_16 rfl (lv_at hl 1 rfl) ?_
      refine lv_bipush (v := 32) hx hb d_Rk_kind_17 (by decide) ?_
      refine lv_icmp_ne (tgt := 38) hx hb d_Rk_kind_19 (by decide) (fun c3 => ?_) (fun c3 => ?_)
      · skip
        refine lv_iconst (v := (-1)) hx hb d_Rk_kind_38 (by decide) ?_
        have hE : res = (-1) := hq.trans ((if_neg c1).trans ((if_neg c2).trans ((if_neg c3).trans rfl)))
        exact retPi (x := (-1)) hx hb hr hS hE.symm d_Rk_kind_39 hlocks
      · skip
        refine lv_iload_n hx hb d_Rk_kind_22 rfl (lv_at hl 0 rfl) ?_
        refine lv_if_eq (tgt := 31) hx hb d_Rk_kind_23 (by decide) (fun c4 => ?_) (fun c4 => ?_)
        · skip
          refine lv_bipush (v := 8) hx hb d_Rk_kind_31 (by decide) ?_
          refine lv_iload_n hx hb d_Rk_kind_33 rfl (lv_at hl 0 rfl) ?_
          refine lv_iadd hx hb d_Rk_kind_34 ?_
          refine lv_goto (tgt := 39) hx hb d_Rk_kind_35 (by decide) ?_
          have hE : res = (8 : Int32) + f := hq.trans ((if_neg c1).trans ((if_neg c2).trans ((if_pos c3).trans ((if_pos c4).trans rfl))))
          exact retPi (x := (8 : Int32) + f) hx hb hr hS hE.symm d_Rk_kind_39 hlocks
        · skip
          refine lv_iload_n hx hb d_Rk_kind_26 rfl (lv_at hl 0 rfl) ?_
          refine lv_iconst (v := 5) hx hb d_Rk_kind_27 (by decide) ?_
          refine lv_icmp_ne (tgt := 38) hx hb d_Rk_kind_28 (by decide) (fun c5 => ?_) (fun c5 => ?_)
          · skip
            refine lv_iconst (v := (-1)) hx hb d_Rk_kind_38 (by decide) ?_
            have hE : res = (-1) := hq.trans ((if_neg c1).trans ((if_neg c2).trans ((if_pos c3).trans ((if_neg c4).trans ((if_neg c5).trans rfl)))))
            exact retPi (x := (-1)) hx hb hr hS hE.symm d_Rk_kind_39 hlocks
          · skip
            refine lv_bipush (v := 8) hx hb d_Rk_kind_31 (by decide) ?_
            refine lv_iload_n hx hb d_Rk_kind_33 rfl (lv_at hl 0 rfl) ?_
            refine lv_iadd hx hb d_Rk_kind_34 ?_
            refine lv_goto (tgt := 39) hx hb d_Rk_kind_35 (by decide) ?_
            have hE : res = (8 : Int32) + f := hq.trans ((if_neg c1).trans ((if_neg c2).trans ((if_pos c3).trans ((if_neg c4).trans ((if_pos c5).trans rfl)))))
            exact retPi (x := (8 : Int32) + f) hx hb hr hS hE.symm d_Rk_kind_39 hlocks
    · skip
      refine lv_bipush (v := 16) hx hb d_Rk_kind_11 (by decide) ?_
      refine lv_iload_n hx hb d_Rk_kind_13 rfl (lv_at hl 0 rfl) ?_
      refine lv_iadd hx hb d_Rk_kind_14 ?_
      have hE : res = (16 : Int32) + f := hq.trans ((if_neg c1).trans ((if_pos c2).trans rfl))
      exact retPi (x := (16 : Int32) + f) hx hb hr hS hE.symm d_Rk_kind_15 hlocks
  · skip
    refine lv_iload_n hx hb d_Rk_kind_4 rfl (lv_at hl 0 rfl) ?_
    have hE : res = f := hq.trans ((if_pos c1).trans rfl)
    exact retPi (x := f) hx hb hr hS hE.symm d_Rk_kind_5 hlocks
def w_Rk_kindOfShift : List Cond := .code y_Rk_kindOfShift b_Rk_kindOfShift 2 (some .int) :: ALLW
def rm_Rk_kindOfShift : Room := { frames := 20, cells := 0, slots := 0, locals := 600 }
theorem d_Rk_kindOfShift_0 : decode b_Rk_kindOfShift 0 = .ok (.iload_n 1, 1) := by decide +kernel
theorem d_Rk_kindOfShift_1 : decode b_Rk_kindOfShift 1 = .ok (.ifCond .ne 5, 3) := by decide +kernel
theorem d_Rk_kindOfShift_4 : decode b_Rk_kindOfShift 4 = .ok (.iload_n 0, 1) := by decide +kernel
theorem d_Rk_kindOfShift_5 : decode b_Rk_kindOfShift 5 = .ok (.ireturn, 1) := by decide +kernel
theorem d_Rk_kindOfShift_6 : decode b_Rk_kindOfShift 6 = .ok (.iload_n 1, 1) := by decide +kernel
theorem d_Rk_kindOfShift_7 : decode b_Rk_kindOfShift 7 = .ok (.bipush 32, 2) := by decide +kernel
theorem d_Rk_kindOfShift_9 : decode b_Rk_kindOfShift 9 = .ok (.if_icmp .ne 13, 3) := by decide +kernel
theorem d_Rk_kindOfShift_12 : decode b_Rk_kindOfShift 12 = .ok (.iload_n 0, 1) := by decide +kernel
theorem d_Rk_kindOfShift_13 : decode b_Rk_kindOfShift 13 = .ok (.iconst 5, 1) := by decide +kernel
theorem d_Rk_kindOfShift_14 : decode b_Rk_kindOfShift 14 = .ok (.if_icmp .ne 8, 3) := by decide +kernel
theorem d_Rk_kindOfShift_17 : decode b_Rk_kindOfShift 17 = .ok (.bipush 13, 2) := by decide +kernel
theorem d_Rk_kindOfShift_19 : decode b_Rk_kindOfShift 19 = .ok (.goto 4, 3) := by decide +kernel
theorem d_Rk_kindOfShift_22 : decode b_Rk_kindOfShift 22 = .ok (.iconst (-1), 1) := by decide +kernel
theorem d_Rk_kindOfShift_23 : decode b_Rk_kindOfShift 23 = .ok (.ireturn, 1) := by decide +kernel
def f_Rk_kindOfShift (f : Int32) (g : Int32) : Int32 := if g = 0 then f else if g = 32 then (if f = 5 then 13 else (-1)) else (-1)
set_option maxHeartbeats 8000000 in
set_option maxRecDepth 100000 in
theorem c_Rk_kindOfShift (l : Launch) (f : Int32) (g : Int32) (sz : Nat) : Met l y_Rk_kindOfShift w_Rk_kindOfShift rm_Rk_kindOfShift (PreP sz [.int f, .int g]) (QPi (fun q : Nat => sz ≤ q) (f_Rk_kindOfShift f g)) 0 0 (fun q : Nat => sz ≤ q) := by
  generalize hres : f_Rk_kindOfShift f g = res
  refine Met.ofW (cc := b_Rk_kindOfShift) (maxL := 2) (ret := (some .int)) (by decide) rfl ?_
  intro p e s m args below meth c s₁ B hml hv
  obtain ⟨rfl, rfl⟩ := hv
  have hx := B.exec
  have hb := B.bytes
  have hr := B.returns
  have hts : ∀ w9 ∈ ALLW, w9.before ([.int f, .int g] : List Value).toArray s = true := fun w9 h => atoms_spec (ws := w_Rk_kindOfShift) B.pre w9 (List.mem_cons_of_mem _ h)
  have hown : s.vm.findClass R_Rk = some m.cls := findClass_of_methodNamed B.named
  have hlocks := B.notSynchronized
  generalize hAe : (fun q : Nat => s.heap.size ≤ q) = A
  have hA : ∀ q : Nat, s.heap.size ≤ q → A q := fun q h => by rw [← hAe]; exact h
  have hS : va_S A s.heap s.heap [] := va_S.rf
  have hl := lv_entry ([.int f, .int g]) (n := 2) (Nat.le_of_ble_eq_true rfl)
  rw [lg_entry_eq]
  generalize (lg_sl ([.int f, .int g]) ++ List.replicate (2 - (lg_sl ([.int f, .int g])).length) Slot.unset).toArray = ls at hl ⊢
  have hl : lv_has ls 2 [(0, .int f), (1, .int g)] := hl
  have hq := hres.symm
  refine lv_iload_n hx hb d_Rk_kindOfShift_0 rfl (lv_at hl 1 rfl) ?_
  refine lv_if_ne (tgt := 6) hx hb d_Rk_kindOfShift_1 (by decide) (fun c1 => ?_) (fun c1 => ?_)
  · skip
    refine lv_iload_n hx hb d_Rk_kindOfShift_6 rfl (lv_at hl 1 rfl) ?_
    refine lv_bipush (v := 32) hx hb d_Rk_kindOfShift_7 (by decide) ?_
    refine lv_icmp_ne (tgt := 22) hx hb d_Rk_kindOfShift_9 (by decide) (fun c2 => ?_) (fun c2 => ?_)
    · skip
      refine lv_iconst (v := (-1)) hx hb d_Rk_kindOfShift_22 (by decide) ?_
      have hE : res = (-1) := hq.trans ((if_neg c1).trans ((if_neg c2).trans rfl))
      exact retPi (x := (-1)) hx hb hr hS hE.symm d_Rk_kindOfShift_23 hlocks
    · skip
      refine lv_iload_n hx hb d_Rk_kindOfShift_12 rfl (lv_at hl 0 rfl) ?_
      refine lv_iconst (v := 5) hx hb d_Rk_kindOfShift_13 (by decide) ?_
      refine lv_icmp_ne (tgt := 22) hx hb d_Rk_kindOfShift_14 (by decide) (fun c3 => ?_) (fun c3 => ?_)
      · skip
        refine lv_iconst (v := (-1)) hx hb d_Rk_kindOfShift_22 (by decide) ?_
        have hE : res = (-1) := hq.trans ((if_neg c1).trans ((if_pos c2).trans ((if_neg c3).trans rfl)))
        exact retPi (x := (-1)) hx hb hr hS hE.symm d_Rk_kindOfShift_23 hlocks
      · skip
        refine lv_bipush (v := 13) hx hb d_Rk_kindOfShift_17 (by decide) ?_
        refine lv_goto (tgt := 23) hx hb d_Rk_kindOfShift_19 (by decide) ?_
        have hE : res = 13 := hq.trans ((if_neg c1).trans ((if_pos c2).trans ((if_pos c3).trans rfl)))
        exact retPi (x := 13) hx hb hr hS hE.symm d_Rk_kindOfShift_23 hlocks
  · skip
    refine lv_iload_n hx hb d_Rk_kindOfShift_4 rfl (lv_at hl 0 rfl) ?_
    have hE : res = f := hq.trans ((if_pos c1).trans rfl)
    exact retPi (x := f) hx hb hr hS hE.symm d_Rk_kindOfShift_5 hlocks
def w_Rk_isBelow : List Cond := .code y_Rk_isBelow b_Rk_isBelow 2 (some .boolean) :: ALLW
def rm_Rk_isBelow : Room := { frames := 20, cells := 0, slots := 0, locals := 600 }
theorem d_Rk_isBelow_0 : decode b_Rk_isBelow 0 = .ok (.iload_n 0, 1) := by decide +kernel
theorem d_Rk_isBelow_1 : decode b_Rk_isBelow 1 = .ok (.iload_n 1, 1) := by decide +kernel
theorem d_Rk_isBelow_2 : decode b_Rk_isBelow 2 = .ok (.if_icmp .ge 7, 3) := by decide +kernel
theorem d_Rk_isBelow_5 : decode b_Rk_isBelow 5 = .ok (.iconst 1, 1) := by decide +kernel
theorem d_Rk_isBelow_6 : decode b_Rk_isBelow 6 = .ok (.goto 4, 3) := by decide +kernel
theorem d_Rk_isBelow_9 : decode b_Rk_isBelow 9 = .ok (.iconst 0, 1) := by decide +kernel
theorem d_Rk_isBelow_10 : decode b_Rk_isBelow 10 = .ok (.ireturn, 1) := by decide +kernel
def f_Rk_isBelow (a : Int32) (b : Int32) : Bool := if b ≤ a then false else true
set_option maxHeartbeats 8000000 in
set_option maxRecDepth 100000 in
theorem c_Rk_isBelow (l : Launch) (a : Int32) (b : Int32) (sz : Nat) : Met l y_Rk_isBelow w_Rk_isBelow rm_Rk_isBelow (PreP sz [.int a, .int b]) (QPi (fun q : Nat => sz ≤ q) (b2i (f_Rk_isBelow a b))) 0 0 (fun q : Nat => sz ≤ q) := by
  generalize hres : f_Rk_isBelow a b = res
  refine Met.ofW (cc := b_Rk_isBelow) (maxL := 2) (ret := (some .boolean)) (by decide) rfl ?_
  intro p e s m args below meth c s₁ B hml hv
  obtain ⟨rfl, rfl⟩ := hv
  have hx := B.exec
  have hb := B.bytes
  have hr := B.returns
  have hts : ∀ w9 ∈ ALLW, w9.before ([.int a, .int b] : List Value).toArray s = true := fun w9 h => atoms_spec (ws := w_Rk_isBelow) B.pre w9 (List.mem_cons_of_mem _ h)
  have hown : s.vm.findClass R_Rk = some m.cls := findClass_of_methodNamed B.named
  have hlocks := B.notSynchronized
  generalize hAe : (fun q : Nat => s.heap.size ≤ q) = A
  have hA : ∀ q : Nat, s.heap.size ≤ q → A q := fun q h => by rw [← hAe]; exact h
  have hS : va_S A s.heap s.heap [] := va_S.rf
  have hl := lv_entry ([.int a, .int b]) (n := 2) (Nat.le_of_ble_eq_true rfl)
  rw [lg_entry_eq]
  generalize (lg_sl ([.int a, .int b]) ++ List.replicate (2 - (lg_sl ([.int a, .int b])).length) Slot.unset).toArray = ls at hl ⊢
  have hl : lv_has ls 2 [(0, .int a), (1, .int b)] := hl
  have hq := hres.symm
  refine lv_iload_n hx hb d_Rk_isBelow_0 rfl (lv_at hl 0 rfl) ?_
  refine lv_iload_n hx hb d_Rk_isBelow_1 rfl (lv_at hl 1 rfl) ?_
  refine lv_icmp_ge (tgt := 9) hx hb d_Rk_isBelow_2 (by decide) (fun c1 => ?_) (fun c1 => ?_)
  · skip
    refine lv_iconst (v := 0) hx hb d_Rk_isBelow_9 (by decide) ?_
    have hE : res = false := hq.trans ((if_pos c1).trans rfl)
    exact retPb (x := false) hx hb hr hS hE.symm d_Rk_isBelow_10 hlocks
  · skip
    refine lv_iconst (v := 1) hx hb d_Rk_isBelow_5 (by decide) ?_
    refine lv_goto (tgt := 10) hx hb d_Rk_isBelow_6 (by decide) ?_
    have hE : res = true := hq.trans ((if_neg c1).trans rfl)
    exact retPb (x := true) hx hb hr hS hE.symm d_Rk_isBelow_10 hlocks
def w_Rk_isBelowUnsigned : List Cond := .code y_Rk_isBelowUnsigned b_Rk_isBelowUnsigned 2 (some .boolean) :: ALLW
def rm_Rk_isBelowUnsigned : Room := { frames := 20, cells := 0, slots := 0, locals := 600 }
theorem d_Rk_isBelowUnsigned_0 : decode b_Rk_isBelowUnsigned 0 = .ok (.iload_n 0, 1) := by decide +kernel
theorem d_Rk_isBelowUnsigned_1 : decode b_Rk_isBelowUnsigned 1 = .ok (.i2l, 1) := by decide +kernel
theorem d_Rk_isBelowUnsigned_2 : decode b_Rk_isBelowUnsigned 2 = .ok (.ldc2_w 9, 3) := by decide +kernel
theorem d_Rk_isBelowUnsigned_5 : decode b_Rk_isBelowUnsigned 5 = .ok (.land, 1) := by decide +kernel
theorem d_Rk_isBelowUnsigned_6 : decode b_Rk_isBelowUnsigned 6 = .ok (.iload_n 1, 1) := by decide +kernel
theorem d_Rk_isBelowUnsigned_7 : decode b_Rk_isBelowUnsigned 7 = .ok (.i2l, 1) := by decide +kernel
theorem d_Rk_isBelowUnsigned_8 : decode b_Rk_isBelowUnsigned 8 = .ok (.ldc2_w 9, 3) := by decide +kernel
theorem d_Rk_isBelowUnsigned_11 : decode b_Rk_isBelowUnsigned 11 = .ok (.land, 1) := by decide +kernel
theorem d_Rk_isBelowUnsigned_12 : decode b_Rk_isBelowUnsigned 12 = .ok (.lcmp, 1) := by decide +kernel
theorem d_Rk_isBelowUnsigned_13 : decode b_Rk_isBelowUnsigned 13 = .ok (.ifCond .ge 7, 3) := by decide +kernel
theorem d_Rk_isBelowUnsigned_16 : decode b_Rk_isBelowUnsigned 16 = .ok (.iconst 1, 1) := by decide +kernel
theorem d_Rk_isBelowUnsigned_17 : decode b_Rk_isBelowUnsigned 17 = .ok (.goto 4, 3) := by decide +kernel
theorem d_Rk_isBelowUnsigned_20 : decode b_Rk_isBelowUnsigned 20 = .ok (.iconst 0, 1) := by decide +kernel
theorem d_Rk_isBelowUnsigned_21 : decode b_Rk_isBelowUnsigned 21 = .ok (.ireturn, 1) := by decide +kernel
def f_Rk_isBelowUnsigned (a : Int32) (b : Int32) : Bool := if 0 ≤ (lg_cmp (a.toInt64 &&& 4294967295) (b.toInt64 &&& 4294967295)) then false else true
set_option maxHeartbeats 8000000 in
set_option maxRecDepth 100000 in
theorem c_Rk_isBelowUnsigned (l : Launch) (a : Int32) (b : Int32) (sz : Nat) : Met l y_Rk_isBelowUnsigned w_Rk_isBelowUnsigned rm_Rk_isBelowUnsigned (PreP sz [.int a, .int b]) (QPi (fun q : Nat => sz ≤ q) (b2i (f_Rk_isBelowUnsigned a b))) 0 0 (fun q : Nat => sz ≤ q) := by
  generalize hres : f_Rk_isBelowUnsigned a b = res
  refine Met.ofW (cc := b_Rk_isBelowUnsigned) (maxL := 2) (ret := (some .boolean)) (by decide) rfl ?_
  intro p e s m args below meth c s₁ B hml hv
  obtain ⟨rfl, rfl⟩ := hv
  have hx := B.exec
  have hb := B.bytes
  have hr := B.returns
  have hts : ∀ w9 ∈ ALLW, w9.before ([.int a, .int b] : List Value).toArray s = true := fun w9 h => atoms_spec (ws := w_Rk_isBelowUnsigned) B.pre w9 (List.mem_cons_of_mem _ h)
  have hown : s.vm.findClass R_Rk = some m.cls := findClass_of_methodNamed B.named
  have hlocks := B.notSynchronized
  generalize hAe : (fun q : Nat => s.heap.size ≤ q) = A
  have hA : ∀ q : Nat, s.heap.size ≤ q → A q := fun q h => by rw [← hAe]; exact h
  have hS : va_S A s.heap s.heap [] := va_S.rf
  have hl := lv_entry ([.int a, .int b]) (n := 2) (Nat.le_of_ble_eq_true rfl)
  rw [lg_entry_eq]
  generalize (lg_sl ([.int a, .int b]) ++ List.replicate (2 - (lg_sl ([.int a, .int b])).length) Slot.unset).toArray = ls at hl ⊢
  have hl : lv_has ls 2 [(0, .int a), (1, .int b)] := hl
  have hq := hres.symm
  refine lv_iload_n hx hb d_Rk_isBelowUnsigned_0 rfl (lv_at hl 0 rfl) ?_
  refine lv_i2l (v := a.toInt64) hx hb d_Rk_isBelowUnsigned_1 rfl ?_
  refine lv_ldc2 (v := 4294967295) hx hb hown (hts _ m_8_20) d_Rk_isBelowUnsigned_2 ?_
  refine lv_land hx hb d_Rk_isBelowUnsigned_5 ?_
  refine lv_iload_n hx hb d_Rk_isBelowUnsigned_6 rfl (lv_at hl 1 rfl) ?_
  refine lv_i2l (v := b.toInt64) hx hb d_Rk_isBelowUnsigned_7 rfl ?_
  refine lv_ldc2 (v := 4294967295) hx hb hown (hts _ m_8_20) d_Rk_isBelowUnsigned_8 ?_
  refine lv_land hx hb d_Rk_isBelowUnsigned_11 ?_
  refine W.lcmp hx hb d_Rk_isBelowUnsigned_12 ?_
  refine lv_if_ge (tgt := 20) hx hb d_Rk_isBelowUnsigned_13 (by decide) (fun c1 => ?_) (fun c1 => ?_)
  · skip
    refine lv_iconst (v := 0) hx hb d_Rk_isBelowUnsigned_20 (by decide) ?_
    have hE : res = false := hq.trans ((if_pos c1).trans rfl)
    exact retPb (x := false) hx hb hr hS hE.symm d_Rk_isBelowUnsigned_21 hlocks
  · skip
    refine lv_iconst (v := 1) hx hb d_Rk_isBelowUnsigned_16 (by decide) ?_
    refine lv_goto (tgt := 21) hx hb d_Rk_isBelowUnsigned_17 (by decide) ?_
    have hE : res = true := hq.trans ((if_neg c1).trans rfl)
    exact retPb (x := true) hx hb hr hS hE.symm d_Rk_isBelowUnsigned_21 hlocks
def w_Rk_quotient : List Cond := .code y_Rk_quotient b_Rk_quotient 4 (some .int) :: ALLW
def rm_Rk_quotient : Room := { frames := 20, cells := 0, slots := 0, locals := 600 }
theorem d_Rk_quotient_0 : decode b_Rk_quotient 0 = .ok (.lload_n 2, 1) := by decide +kernel
theorem d_Rk_quotient_1 : decode b_Rk_quotient 1 = .ok (.lconst 0, 1) := by decide +kernel
theorem d_Rk_quotient_2 : decode b_Rk_quotient 2 = .ok (.lcmp, 1) := by decide +kernel
theorem d_Rk_quotient_3 : decode b_Rk_quotient 3 = .ok (.ifCond .ne 7, 3) := by decide +kernel
theorem d_Rk_quotient_6 : decode b_Rk_quotient 6 = .ok (.iconst (-1), 1) := by decide +kernel
theorem d_Rk_quotient_7 : decode b_Rk_quotient 7 = .ok (.goto 7, 3) := by decide +kernel
theorem d_Rk_quotient_10 : decode b_Rk_quotient 10 = .ok (.lload_n 0, 1) := by decide +kernel
theorem d_Rk_quotient_11 : decode b_Rk_quotient 11 = .ok (.lload_n 2, 1) := by decide +kernel
theorem d_Rk_quotient_12 : decode b_Rk_quotient 12 = .ok (.ldiv, 1) := by decide +kernel
theorem d_Rk_quotient_13 : decode b_Rk_quotient 13 = .ok (.l2i, 1) := by decide +kernel
theorem d_Rk_quotient_14 : decode b_Rk_quotient 14 = .ok (.ireturn, 1) := by decide +kernel
def f_Rk_quotient (a : Int64) (b : Int64) : Int32 := if (lg_cmp b (0 : Int64)) = 0 then (-1) else (a / b).toInt32
set_option maxHeartbeats 8000000 in
set_option maxRecDepth 100000 in
theorem c_Rk_quotient (l : Launch) (a : Int64) (b : Int64) (sz : Nat) : Met l y_Rk_quotient w_Rk_quotient rm_Rk_quotient (PreP sz [.long a, .long b]) (QPi (fun q : Nat => sz ≤ q) (f_Rk_quotient a b)) 0 0 (fun q : Nat => sz ≤ q) := by
  generalize hres : f_Rk_quotient a b = res
  refine Met.ofW (cc := b_Rk_quotient) (maxL := 4) (ret := (some .int)) (by decide) rfl ?_
  intro p e s m args below meth c s₁ B hml hv
  obtain ⟨rfl, rfl⟩ := hv
  have hx := B.exec
  have hb := B.bytes
  have hr := B.returns
  have hts : ∀ w9 ∈ ALLW, w9.before ([.long a, .long b] : List Value).toArray s = true := fun w9 h => atoms_spec (ws := w_Rk_quotient) B.pre w9 (List.mem_cons_of_mem _ h)
  have hown : s.vm.findClass R_Rk = some m.cls := findClass_of_methodNamed B.named
  have hlocks := B.notSynchronized
  generalize hAe : (fun q : Nat => s.heap.size ≤ q) = A
  have hA : ∀ q : Nat, s.heap.size ≤ q → A q := fun q h => by rw [← hAe]; exact h
  have hS : va_S A s.heap s.heap [] := va_S.rf
  have hl := lv_entry ([.long a, .long b]) (n := 4) (Nat.le_of_ble_eq_true rfl)
  rw [lg_entry_eq]
  generalize (lg_sl ([.long a, .long b]) ++ List.replicate (4 - (lg_sl ([.long a, .long b])).length) Slot.unset).toArray = ls at hl ⊢
  have hl : lv_has ls 4 [(0, .long a), (2, .long b)] := hl
  have hq := hres.symm
  refine lv_lload_n hx hb d_Rk_quotient_0 rfl (lv_at hl 1 rfl) ?_
  refine lv_lconst (v := 0) hx hb d_Rk_quotient_1 (by decide) ?_
  refine W.lcmp hx hb d_Rk_quotient_2 ?_
  refine lv_if_ne (tgt := 10) hx hb d_Rk_quotient_3 (by decide) (fun c1 => ?_) (fun c1 => ?_)
  · skip
    refine lv_lload_n hx hb d_Rk_quotient_10 rfl (lv_at hl 0 rfl) ?_
    refine lv_lload_n hx hb d_Rk_quotient_11 rfl (lv_at hl 1 rfl) ?_
    refine lv_ldiv hx hb d_Rk_quotient_12 (fun h => c1 ((lgz _ _).mpr h)) ?_
    refine lv_l2i (v := (a / b).toInt32) hx hb d_Rk_quotient_13 rfl ?_
    have hE : res = (a / b).toInt32 := hq.trans ((if_neg c1).trans rfl)
    exact retPi (x := (a / b).toInt32) hx hb hr hS hE.symm d_Rk_quotient_14 hlocks
  · skip
    refine lv_iconst (v := (-1)) hx hb d_Rk_quotient_6 (by decide) ?_
    refine lv_goto (tgt := 14) hx hb d_Rk_quotient_7 (by decide) ?_
    have hE : res = (-1) := hq.trans ((if_pos c1).trans rfl)
    exact retPi (x := (-1)) hx hb hr hS hE.symm d_Rk_quotient_14 hlocks
def w_Rk_rest : List Cond := .code y_Rk_rest b_Rk_rest 4 (some .int) :: ALLW
def rm_Rk_rest : Room := { frames := 20, cells := 0, slots := 0, locals := 600 }
theorem d_Rk_rest_0 : decode b_Rk_rest 0 = .ok (.lload_n 2, 1) := by decide +kernel
theorem d_Rk_rest_1 : decode b_Rk_rest 1 = .ok (.lconst 0, 1) := by decide +kernel
theorem d_Rk_rest_2 : decode b_Rk_rest 2 = .ok (.lcmp, 1) := by decide +kernel
theorem d_Rk_rest_3 : decode b_Rk_rest 3 = .ok (.ifCond .ne 8, 3) := by decide +kernel
theorem d_Rk_rest_6 : decode b_Rk_rest 6 = .ok (.lload_n 0, 1) := by decide +kernel
theorem d_Rk_rest_7 : decode b_Rk_rest 7 = .ok (.l2i, 1) := by decide +kernel
theorem d_Rk_rest_8 : decode b_Rk_rest 8 = .ok (.goto 7, 3) := by decide +kernel
theorem d_Rk_rest_11 : decode b_Rk_rest 11 = .ok (.lload_n 0, 1) := by decide +kernel
theorem d_Rk_rest_12 : decode b_Rk_rest 12 = .ok (.lload_n 2, 1) := by decide +kernel
theorem d_Rk_rest_13 : decode b_Rk_rest 13 = .ok (.lrem, 1) := by decide +kernel
theorem d_Rk_rest_14 : decode b_Rk_rest 14 = .ok (.l2i, 1) := by decide +kernel
theorem d_Rk_rest_15 : decode b_Rk_rest 15 = .ok (.ireturn, 1) := by decide +kernel
def f_Rk_rest (a : Int64) (b : Int64) : Int32 := if (lg_cmp b (0 : Int64)) = 0 then a.toInt32 else (a - a / b * b).toInt32
set_option maxHeartbeats 8000000 in
set_option maxRecDepth 100000 in
theorem c_Rk_rest (l : Launch) (a : Int64) (b : Int64) (sz : Nat) : Met l y_Rk_rest w_Rk_rest rm_Rk_rest (PreP sz [.long a, .long b]) (QPi (fun q : Nat => sz ≤ q) (f_Rk_rest a b)) 0 0 (fun q : Nat => sz ≤ q) := by
  generalize hres : f_Rk_rest a b = res
  refine Met.ofW (cc := b_Rk_rest) (maxL := 4) (ret := (some .int)) (by decide) rfl ?_
  intro p e s m args below meth c s₁ B hml hv
  obtain ⟨rfl, rfl⟩ := hv
  have hx := B.exec
  have hb := B.bytes
  have hr := B.returns
  have hts : ∀ w9 ∈ ALLW, w9.before ([.long a, .long b] : List Value).toArray s = true := fun w9 h => atoms_spec (ws := w_Rk_rest) B.pre w9 (List.mem_cons_of_mem _ h)
  have hown : s.vm.findClass R_Rk = some m.cls := findClass_of_methodNamed B.named
  have hlocks := B.notSynchronized
  generalize hAe : (fun q : Nat => s.heap.size ≤ q) = A
  have hA : ∀ q : Nat, s.heap.size ≤ q → A q := fun q h => by rw [← hAe]; exact h
  have hS : va_S A s.heap s.heap [] := va_S.rf
  have hl := lv_entry ([.long a, .long b]) (n := 4) (Nat.le_of_ble_eq_true rfl)
  rw [lg_entry_eq]
  generalize (lg_sl ([.long a, .long b]) ++ List.replicate (4 - (lg_sl ([.long a, .long b])).length) Slot.unset).toArray = ls at hl ⊢
  have hl : lv_has ls 4 [(0, .long a), (2, .long b)] := hl
  have hq := hres.symm
  refine lv_lload_n hx hb d_Rk_rest_0 rfl (lv_at hl 1 rfl) ?_
  refine lv_lconst (v := 0) hx hb d_Rk_rest_1 (by decide) ?_
  refine W.lcmp hx hb d_Rk_rest_2 ?_
  refine lv_if_ne (tgt := 11) hx hb d_Rk_rest_3 (by decide) (fun c1 => ?_) (fun c1 => ?_)
  · skip
    refine lv_lload_n hx hb d_Rk_rest_11 rfl (lv_at hl 0 rfl) ?_
    refine lv_lload_n hx hb d_Rk_rest_12 rfl (lv_at hl 1 rfl) ?_
    refine lv_lrem hx hb d_Rk_rest_13 (fun h => c1 ((lgz _ _).mpr h)) ?_
    refine lv_l2i (v := (a - a / b * b).toInt32) hx hb d_Rk_rest_14 rfl ?_
    have hE : res = (a - a / b * b).toInt32 := hq.trans ((if_neg c1).trans rfl)
    exact retPi (x := (a - a / b * b).toInt32) hx hb hr hS hE.symm d_Rk_rest_15 hlocks
  · skip
    refine lv_lload_n hx hb d_Rk_rest_6 rfl (lv_at hl 0 rfl) ?_
    refine lv_l2i (v := a.toInt32) hx hb d_Rk_rest_7 rfl ?_
    refine lv_goto (tgt := 15) hx hb d_Rk_rest_8 (by decide) ?_
    have hE : res = a.toInt32 := hq.trans ((if_pos c1).trans rfl)
    exact retPi (x := a.toInt32) hx hb hr hS hE.symm d_Rk_rest_15 hlocks
def w_Rk_value : List Cond := .code y_Rk_value b_Rk_value 3 (some .int) :: ALLW
def rm_Rk_value : Room := { frames := 21, cells := 0, slots := 0, locals := 623 }
theorem d_Rk_value_0 : decode b_Rk_value 0 = .ok (.iload_n 0, 1) := by decide +kernel
theorem d_Rk_value_1 : decode b_Rk_value 1 = .ok (.tableswitch 254 0 22 #[107, 111, 118, 132, 146, 150, 157, 161, 165, 254, 254, 254, 254, 169, 254, 254, 176, 180, 190, 204, 222, 230, 246], 107) := by decide +kernel
theorem d_Rk_value_108 : decode b_Rk_value 108 = .ok (.iload_n 1, 1) := by decide +kernel
theorem d_Rk_value_109 : decode b_Rk_value 109 = .ok (.iload_n 2, 1) := by decide +kernel
theorem d_Rk_value_110 : decode b_Rk_value 110 = .ok (.iadd, 1) := by decide +kernel
theorem d_Rk_value_111 : decode b_Rk_value 111 = .ok (.ireturn, 1) := by decide +kernel
theorem d_Rk_value_112 : decode b_Rk_value 112 = .ok (.iload_n 1, 1) := by decide +kernel
theorem d_Rk_value_113 : decode b_Rk_value 113 = .ok (.iload_n 2, 1) := by decide +kernel
theorem d_Rk_value_114 : decode b_Rk_value 114 = .ok (.bipush 31, 2) := by decide +kernel
theorem d_Rk_value_116 : decode b_Rk_value 116 = .ok (.iand, 1) := by decide +kernel
theorem d_Rk_value_117 : decode b_Rk_value 117 = .ok (.ishl, 1) := by decide +kernel
theorem d_Rk_value_118 : decode b_Rk_value 118 = .ok (.ireturn, 1) := by decide +kernel
theorem d_Rk_value_119 : decode b_Rk_value 119 = .ok (.iload_n 1, 1) := by decide +kernel
theorem d_Rk_value_120 : decode b_Rk_value 120 = .ok (.iload_n 2, 1) := by decide +kernel
theorem d_Rk_value_121 : decode b_Rk_value 121 = .ok (.invokestatic 11, 3) := by decide +kernel
theorem d_Rk_value_124 : decode b_Rk_value 124 = .ok (.ifCond .eq 7, 3) := by decide +kernel
theorem d_Rk_value_127 : decode b_Rk_value 127 = .ok (.iconst 1, 1) := by decide +kernel
theorem d_Rk_value_128 : decode b_Rk_value 128 = .ok (.goto 4, 3) := by decide +kernel
theorem d_Rk_value_131 : decode b_Rk_value 131 = .ok (.iconst 0, 1) := by decide +kernel
theorem d_Rk_value_132 : decode b_Rk_value 132 = .ok (.ireturn, 1) := by decide +kernel
theorem d_Rk_value_133 : decode b_Rk_value 133 = .ok (.iload_n 1, 1) := by decide +kernel
theorem d_Rk_value_134 : decode b_Rk_value 134 = .ok (.iload_n 2, 1) := by decide +kernel
theorem d_Rk_value_135 : decode b_Rk_value 135 = .ok (.invokestatic 15, 3) := by decide +kernel
theorem d_Rk_value_138 : decode b_Rk_value 138 = .ok (.ifCond .eq 7, 3) := by decide +kernel
theorem d_Rk_value_141 : decode b_Rk_value 141 = .ok (.iconst 1, 1) := by decide +kernel
theorem d_Rk_value_142 : decode b_Rk_value 142 = .ok (.goto 4, 3) := by decide +kernel
theorem d_Rk_value_145 : decode b_Rk_value 145 = .ok (.iconst 0, 1) := by decide +kernel
theorem d_Rk_value_146 : decode b_Rk_value 146 = .ok (.ireturn, 1) := by decide +kernel
theorem d_Rk_value_147 : decode b_Rk_value 147 = .ok (.iload_n 1, 1) := by decide +kernel
theorem d_Rk_value_148 : decode b_Rk_value 148 = .ok (.iload_n 2, 1) := by decide +kernel
theorem d_Rk_value_149 : decode b_Rk_value 149 = .ok (.ixor, 1) := by decide +kernel
theorem d_Rk_value_150 : decode b_Rk_value 150 = .ok (.ireturn, 1) := by decide +kernel
theorem d_Rk_value_151 : decode b_Rk_value 151 = .ok (.iload_n 1, 1) := by decide +kernel
theorem d_Rk_value_152 : decode b_Rk_value 152 = .ok (.iload_n 2, 1) := by decide +kernel
theorem d_Rk_value_153 : decode b_Rk_value 153 = .ok (.bipush 31, 2) := by decide +kernel
theorem d_Rk_value_155 : decode b_Rk_value 155 = .ok (.iand, 1) := by decide +kernel
theorem d_Rk_value_156 : decode b_Rk_value 156 = .ok (.iushr, 1) := by decide +kernel
theorem d_Rk_value_157 : decode b_Rk_value 157 = .ok (.ireturn, 1) := by decide +kernel
theorem d_Rk_value_158 : decode b_Rk_value 158 = .ok (.iload_n 1, 1) := by decide +kernel
theorem d_Rk_value_159 : decode b_Rk_value 159 = .ok (.iload_n 2, 1) := by decide +kernel
theorem d_Rk_value_160 : decode b_Rk_value 160 = .ok (.ior, 1) := by decide +kernel
theorem d_Rk_value_161 : decode b_Rk_value 161 = .ok (.ireturn, 1) := by decide +kernel
theorem d_Rk_value_162 : decode b_Rk_value 162 = .ok (.iload_n 1, 1) := by decide +kernel
theorem d_Rk_value_163 : decode b_Rk_value 163 = .ok (.iload_n 2, 1) := by decide +kernel
theorem d_Rk_value_164 : decode b_Rk_value 164 = .ok (.iand, 1) := by decide +kernel
theorem d_Rk_value_165 : decode b_Rk_value 165 = .ok (.ireturn, 1) := by decide +kernel
theorem d_Rk_value_166 : decode b_Rk_value 166 = .ok (.iload_n 1, 1) := by decide +kernel
theorem d_Rk_value_167 : decode b_Rk_value 167 = .ok (.iload_n 2, 1) := by decide +kernel
theorem d_Rk_value_168 : decode b_Rk_value 168 = .ok (.isub, 1) := by decide +kernel
theorem d_Rk_value_169 : decode b_Rk_value 169 = .ok (.ireturn, 1) := by decide +kernel
theorem d_Rk_value_170 : decode b_Rk_value 170 = .ok (.iload_n 1, 1) := by decide +kernel
theorem d_Rk_value_171 : decode b_Rk_value 171 = .ok (.iload_n 2, 1) := by decide +kernel
theorem d_Rk_value_172 : decode b_Rk_value 172 = .ok (.bipush 31, 2) := by decide +kernel
theorem d_Rk_value_174 : decode b_Rk_value 174 = .ok (.iand, 1) := by decide +kernel
theorem d_Rk_value_175 : decode b_Rk_value 175 = .ok (.ishr, 1) := by decide +kernel
theorem d_Rk_value_176 : decode b_Rk_value 176 = .ok (.ireturn, 1) := by decide +kernel
theorem d_Rk_value_177 : decode b_Rk_value 177 = .ok (.iload_n 1, 1) := by decide +kernel
theorem d_Rk_value_178 : decode b_Rk_value 178 = .ok (.iload_n 2, 1) := by decide +kernel
theorem d_Rk_value_179 : decode b_Rk_value 179 = .ok (.imul, 1) := by decide +kernel
theorem d_Rk_value_180 : decode b_Rk_value 180 = .ok (.ireturn, 1) := by decide +kernel
theorem d_Rk_value_181 : decode b_Rk_value 181 = .ok (.iload_n 1, 1) := by decide +kernel
theorem d_Rk_value_182 : decode b_Rk_value 182 = .ok (.i2l, 1) := by decide +kernel
theorem d_Rk_value_183 : decode b_Rk_value 183 = .ok (.iload_n 2, 1) := by decide +kernel
theorem d_Rk_value_184 : decode b_Rk_value 184 = .ok (.i2l, 1) := by decide +kernel
theorem d_Rk_value_185 : decode b_Rk_value 185 = .ok (.lmul, 1) := by decide +kernel
theorem d_Rk_value_186 : decode b_Rk_value 186 = .ok (.bipush 32, 2) := by decide +kernel
theorem d_Rk_value_188 : decode b_Rk_value 188 = .ok (.lshr, 1) := by decide +kernel
theorem d_Rk_value_189 : decode b_Rk_value 189 = .ok (.l2i, 1) := by decide +kernel
theorem d_Rk_value_190 : decode b_Rk_value 190 = .ok (.ireturn, 1) := by decide +kernel
theorem d_Rk_value_191 : decode b_Rk_value 191 = .ok (.iload_n 1, 1) := by decide +kernel
theorem d_Rk_value_192 : decode b_Rk_value 192 = .ok (.i2l, 1) := by decide +kernel
theorem d_Rk_value_193 : decode b_Rk_value 193 = .ok (.iload_n 2, 1) := by decide +kernel
theorem d_Rk_value_194 : decode b_Rk_value 194 = .ok (.i2l, 1) := by decide +kernel
theorem d_Rk_value_195 : decode b_Rk_value 195 = .ok (.ldc2_w 9, 3) := by decide +kernel
theorem d_Rk_value_198 : decode b_Rk_value 198 = .ok (.land, 1) := by decide +kernel
theorem d_Rk_value_199 : decode b_Rk_value 199 = .ok (.lmul, 1) := by decide +kernel
theorem d_Rk_value_200 : decode b_Rk_value 200 = .ok (.bipush 32, 2) := by decide +kernel
theorem d_Rk_value_202 : decode b_Rk_value 202 = .ok (.lshr, 1) := by decide +kernel
theorem d_Rk_value_203 : decode b_Rk_value 203 = .ok (.l2i, 1) := by decide +kernel
theorem d_Rk_value_204 : decode b_Rk_value 204 = .ok (.ireturn, 1) := by decide +kernel
theorem d_Rk_value_205 : decode b_Rk_value 205 = .ok (.iload_n 1, 1) := by decide +kernel
theorem d_Rk_value_206 : decode b_Rk_value 206 = .ok (.i2l, 1) := by decide +kernel
theorem d_Rk_value_207 : decode b_Rk_value 207 = .ok (.ldc2_w 9, 3) := by decide +kernel
theorem d_Rk_value_210 : decode b_Rk_value 210 = .ok (.land, 1) := by decide +kernel
theorem d_Rk_value_211 : decode b_Rk_value 211 = .ok (.iload_n 2, 1) := by decide +kernel
theorem d_Rk_value_212 : decode b_Rk_value 212 = .ok (.i2l, 1) := by decide +kernel
theorem d_Rk_value_213 : decode b_Rk_value 213 = .ok (.ldc2_w 9, 3) := by decide +kernel
theorem d_Rk_value_216 : decode b_Rk_value 216 = .ok (.land, 1) := by decide +kernel
theorem d_Rk_value_217 : decode b_Rk_value 217 = .ok (.lmul, 1) := by decide +kernel
theorem d_Rk_value_218 : decode b_Rk_value 218 = .ok (.bipush 32, 2) := by decide +kernel
theorem d_Rk_value_220 : decode b_Rk_value 220 = .ok (.lushr, 1) := by decide +kernel
theorem d_Rk_value_221 : decode b_Rk_value 221 = .ok (.l2i, 1) := by decide +kernel
theorem d_Rk_value_222 : decode b_Rk_value 222 = .ok (.ireturn, 1) := by decide +kernel
theorem d_Rk_value_223 : decode b_Rk_value 223 = .ok (.iload_n 1, 1) := by decide +kernel
theorem d_Rk_value_224 : decode b_Rk_value 224 = .ok (.i2l, 1) := by decide +kernel
theorem d_Rk_value_225 : decode b_Rk_value 225 = .ok (.iload_n 2, 1) := by decide +kernel
theorem d_Rk_value_226 : decode b_Rk_value 226 = .ok (.i2l, 1) := by decide +kernel
theorem d_Rk_value_227 : decode b_Rk_value 227 = .ok (.invokestatic 18, 3) := by decide +kernel
theorem d_Rk_value_230 : decode b_Rk_value 230 = .ok (.ireturn, 1) := by decide +kernel
theorem d_Rk_value_231 : decode b_Rk_value 231 = .ok (.iload_n 1, 1) := by decide +kernel
theorem d_Rk_value_232 : decode b_Rk_value 232 = .ok (.i2l, 1) := by decide +kernel
theorem d_Rk_value_233 : decode b_Rk_value 233 = .ok (.ldc2_w 9, 3) := by decide +kernel
theorem d_Rk_value_236 : decode b_Rk_value 236 = .ok (.land, 1) := by decide +kernel
theorem d_Rk_value_237 : decode b_Rk_value 237 = .ok (.iload_n 2, 1) := by decide +kernel
theorem d_Rk_value_238 : decode b_Rk_value 238 = .ok (.i2l, 1) := by decide +kernel
theorem d_Rk_value_239 : decode b_Rk_value 239 = .ok (.ldc2_w 9, 3) := by decide +kernel
theorem d_Rk_value_242 : decode b_Rk_value 242 = .ok (.land, 1) := by decide +kernel
theorem d_Rk_value_243 : decode b_Rk_value 243 = .ok (.invokestatic 18, 3) := by decide +kernel
theorem d_Rk_value_246 : decode b_Rk_value 246 = .ok (.ireturn, 1) := by decide +kernel
theorem d_Rk_value_247 : decode b_Rk_value 247 = .ok (.iload_n 1, 1) := by decide +kernel
theorem d_Rk_value_248 : decode b_Rk_value 248 = .ok (.i2l, 1) := by decide +kernel
theorem d_Rk_value_249 : decode b_Rk_value 249 = .ok (.iload_n 2, 1) := by decide +kernel
theorem d_Rk_value_250 : decode b_Rk_value 250 = .ok (.i2l, 1) := by decide +kernel
theorem d_Rk_value_251 : decode b_Rk_value 251 = .ok (.invokestatic 22, 3) := by decide +kernel
theorem d_Rk_value_254 : decode b_Rk_value 254 = .ok (.ireturn, 1) := by decide +kernel
theorem d_Rk_value_255 : decode b_Rk_value 255 = .ok (.iload_n 1, 1) := by decide +kernel
theorem d_Rk_value_256 : decode b_Rk_value 256 = .ok (.i2l, 1) := by decide +kernel
theorem d_Rk_value_257 : decode b_Rk_value 257 = .ok (.ldc2_w 9, 3) := by decide +kernel
theorem d_Rk_value_260 : decode b_Rk_value 260 = .ok (.land, 1) := by decide +kernel
theorem d_Rk_value_261 : decode b_Rk_value 261 = .ok (.iload_n 2, 1) := by decide +kernel
theorem d_Rk_value_262 : decode b_Rk_value 262 = .ok (.i2l, 1) := by decide +kernel
theorem d_Rk_value_263 : decode b_Rk_value 263 = .ok (.ldc2_w 9, 3) := by decide +kernel
theorem d_Rk_value_266 : decode b_Rk_value 266 = .ok (.land, 1) := by decide +kernel
theorem d_Rk_value_267 : decode b_Rk_value 267 = .ok (.invokestatic 22, 3) := by decide +kernel
theorem d_Rk_value_270 : decode b_Rk_value 270 = .ok (.ireturn, 1) := by decide +kernel
def f_Rk_value (k : Int32) (a : Int32) (b : Int32) : Int32 := if k = 0 then a + b else if k = 1 then a <<< ((b &&& (31 : Int32)) &&& 31) else if k = 2 then (if (f_Rk_isBelow a b) = true then 1 else 0) else if k = 3 then (if (f_Rk_isBelowUnsigned a b) = true then 1 else 0) else if k = 4 then a ^^^ b else if k = 5 then (a.toUInt32 >>> ((b &&& (31 : Int32)).toUInt32 &&& Int32.toUInt32 31)).toInt32 else if k = 6 then a ||| b else if k = 7 then a &&& b else if k = 8 then a - b else if k = 9 then f_Rk_rest (a.toInt64 &&& 4294967295) (b.toInt64 &&& 4294967295) else if k = 10 then f_Rk_rest (a.toInt64 &&& 4294967295) (b.toInt64 &&& 4294967295) else if k = 11 then f_Rk_rest (a.toInt64 &&& 4294967295) (b.toInt64 &&& 4294967295) else if k = 12 then f_Rk_rest (a.toInt64 &&& 4294967295) (b.toInt64 &&& 4294967295) else if k = 13 then a >>> ((b &&& (31 : Int32)) &&& 31) else if k = 14 then f_Rk_rest (a.toInt64 &&& 4294967295) (b.toInt64 &&& 4294967295) else if k = 15 then f_Rk_rest (a.toInt64 &&& 4294967295) (b.toInt64 &&& 4294967295) else if k = 16 then a * b else if k = 17 then ((a.toInt64 * b.toInt64) >>> ((32 : Int32).toInt64 &&& 63)).toInt32 else if k = 18 then ((a.toInt64 * (b.toInt64 &&& 4294967295)) >>> ((32 : Int32).toInt64 &&& 63)).toInt32 else if k = 19 then ((((a.toInt64 &&& 4294967295) * (b.toInt64 &&& 4294967295)).toUInt64 >>> ((32 : Int32).toInt64.toUInt64 &&& Int64.toUInt64 63)).toInt64).toInt32 else if k = 20 then f_Rk_quotient a.toInt64 b.toInt64 else if k = 21 then f_Rk_quotient (a.toInt64 &&& 4294967295) (b.toInt64 &&& 4294967295) else if k = 22 then f_Rk_rest a.toInt64 b.toInt64 else f_Rk_rest (a.toInt64 &&& 4294967295) (b.toInt64 &&& 4294967295)
set_option maxHeartbeats 8000000 in
set_option maxRecDepth 100000 in
theorem c_Rk_value (l : Launch) (k : Int32) (a : Int32) (b : Int32) (sz : Nat) : Met l y_Rk_value w_Rk_value rm_Rk_value (PreP sz [.int k, .int a, .int b]) (QPi (fun q : Nat => sz ≤ q) (f_Rk_value k a b)) 0 0 (fun q : Nat => sz ≤ q) := by
  generalize hres : f_Rk_value k a b = res
  refine Met.ofW (cc := b_Rk_value) (maxL := 3) (ret := (some .int)) (by decide) rfl ?_
  intro p e s m args below meth c s₁ B hml hv
  obtain ⟨rfl, rfl⟩ := hv
  have hx := B.exec
  have hb := B.bytes
  have hr := B.returns
  have hts : ∀ w9 ∈ ALLW, w9.before ([.int k, .int a, .int b] : List Value).toArray s = true := fun w9 h => atoms_spec (ws := w_Rk_value) B.pre w9 (List.mem_cons_of_mem _ h)
  have hown : s.vm.findClass R_Rk = some m.cls := findClass_of_methodNamed B.named
  have hlocks := B.notSynchronized
  generalize hAe : (fun q : Nat => s.heap.size ≤ q) = A
  have hA : ∀ q : Nat, s.heap.size ≤ q → A q := fun q h => by rw [← hAe]; exact h
  have hS : va_S A s.heap s.heap [] := va_S.rf
  have hl := lv_entry ([.int k, .int a, .int b]) (n := 3) (Nat.le_of_ble_eq_true rfl)
  rw [lg_entry_eq]
  generalize (lg_sl ([.int k, .int a, .int b]) ++ List.replicate (3 - (lg_sl ([.int k, .int a, .int b])).length) Slot.unset).toArray = ls at hl ⊢
  have hl : lv_has ls 3 [(0, .int k), (1, .int a), (2, .int b)] := hl
  have hq := hres.symm
  refine lv_iload_n hx hb d_Rk_value_0 rfl (lv_at hl 0 rfl) ?_
  by_cases c1 : k = 0
  · skip
    refine lv_tableIn (off := 107) (tgt := 108) hx hb d_Rk_value_1 (by rw [c1]; decide) (by rw [c1]; decide) (by rw [c1]; decide) (by decide) ?_
    refine lv_iload_n hx hb d_Rk_value_108 rfl (lv_at hl 1 rfl) ?_
    refine lv_iload_n hx hb d_Rk_value_109 rfl (lv_at hl 2 rfl) ?_
    refine lv_iadd hx hb d_Rk_value_110 ?_
    have hE : res = a + b := hq.trans ((if_pos c1).trans rfl)
    exact retPi (x := a + b) hx hb hr hS hE.symm d_Rk_value_111 hlocks
  by_cases c2 : k = 1
  · skip
    refine lv_tableIn (off := 111) (tgt := 112) hx hb d_Rk_value_1 (by rw [c2]; decide) (by rw [c2]; decide) (by rw [c2]; decide) (by decide) ?_
    refine lv_iload_n hx hb d_Rk_value_112 rfl (lv_at hl 1 rfl) ?_
    refine lv_iload_n hx hb d_Rk_value_113 rfl (lv_at hl 2 rfl) ?_
    refine lv_bipush (v := 31) hx hb d_Rk_value_114 (by decide) ?_
    refine lv_iand hx hb d_Rk_value_116 ?_
    refine lv_ishl hx hb d_Rk_value_117 ?_
    have hE : res = a <<< ((b &&& (31 : Int32)) &&& 31) := hq.trans ((if_neg c1).trans ((if_pos c2).trans rfl))
    exact retPi (x := a <<< ((b &&& (31 : Int32)) &&& 31)) hx hb hr hS hE.symm d_Rk_value_118 hlocks
  by_cases c3 : k = 2
  · skip
    refine lv_tableIn (off := 118) (tgt := 119) hx hb d_Rk_value_1 (by rw [c3]; decide) (by rw [c3]; decide) (by rw [c3]; decide) (by decide) ?_
    refine lv_iload_n hx hb d_Rk_value_119 rfl (lv_at hl 1 rfl) ?_
    refine lv_iload_n hx hb d_Rk_value_120 rfl (lv_at hl 2 rfl) ?_
    refine callQi (va_runS (As := [.int a, .int b]) (rest := []) ⟨hx, hb, hml, hown, hts⟩ (c_Rk_isBelow l a b s.heap.size) (va_cwS 2 hts (goodS m_9_24 m_8_15 m_0_14 m_8_16) rfl rfl rfl (by decide +kernel) ⟨Nat.le_of_ble_eq_true rfl, Nat.le_of_ble_eq_true rfl⟩) ⟨preP_blind, preP_ok⟩ rfl rfl hl.1 rfl (lv_room (Nat.le_of_ble_eq_true rfl)) d_Rk_value_121 ⟨Nat.zero_le _, Nat.zero_le _⟩) hS hA (fun H locs hS => ?_)
    refine rb_eq (tgt := 131) hx hb d_Rk_value_124 (by decide) (fun c4 => ?_) (fun c4 => ?_)
    · skip
      refine lv_iconst (v := 0) hx hb d_Rk_value_131 (by decide) ?_
      have hE : res = 0 := hq.trans ((if_neg c1).trans ((if_neg c2).trans ((if_pos c3).trans ((if_neg c4).trans rfl))))
      exact retPi (x := 0) hx hb hr hS hE.symm d_Rk_value_132 hlocks
    · skip
      refine lv_iconst (v := 1) hx hb d_Rk_value_127 (by decide) ?_
      refine lv_goto (tgt := 132) hx hb d_Rk_value_128 (by decide) ?_
      have hE : res = 1 := hq.trans ((if_neg c1).trans ((if_neg c2).trans ((if_pos c3).trans ((if_pos c4).trans rfl))))
      exact retPi (x := 1) hx hb hr hS hE.symm d_Rk_value_132 hlocks
  by_cases c5 : k = 3
  · skip
    refine lv_tableIn (off := 132) (tgt := 133) hx hb d_Rk_value_1 (by rw [c5]; decide) (by rw [c5]; decide) (by rw [c5]; decide) (by decide) ?_
    refine lv_iload_n hx hb d_Rk_value_133 rfl (lv_at hl 1 rfl) ?_
    refine lv_iload_n hx hb d_Rk_value_134 rfl (lv_at hl 2 rfl) ?_
    refine callQi (va_runS (As := [.int a, .int b]) (rest := []) ⟨hx, hb, hml, hown, hts⟩ (c_Rk_isBelowUnsigned l a b s.heap.size) (va_cwS 2 hts (goodS m_9_25 m_8_18 m_0_14 m_8_19) rfl rfl rfl (by decide +kernel) ⟨Nat.le_of_ble_eq_true rfl, Nat.le_of_ble_eq_true rfl⟩) ⟨preP_blind, preP_ok⟩ rfl rfl hl.1 rfl (lv_room (Nat.le_of_ble_eq_true rfl)) d_Rk_value_135 ⟨Nat.zero_le _, Nat.zero_le _⟩) hS hA (fun H locs hS => ?_)
    refine rb_eq (tgt := 145) hx hb d_Rk_value_138 (by decide) (fun c6 => ?_) (fun c6 => ?_)
    · skip
      refine lv_iconst (v := 0) hx hb d_Rk_value_145 (by decide) ?_
      have hE : res = 0 := hq.trans ((if_neg c1).trans ((if_neg c2).trans ((if_neg c3).trans ((if_pos c5).trans ((if_neg c6).trans rfl)))))
      exact retPi (x := 0) hx hb hr hS hE.symm d_Rk_value_146 hlocks
    · skip
      refine lv_iconst (v := 1) hx hb d_Rk_value_141 (by decide) ?_
      refine lv_goto (tgt := 146) hx hb d_Rk_value_142 (by decide) ?_
      have hE : res = 1 := hq.trans ((if_neg c1).trans ((if_neg c2).trans ((if_neg c3).trans ((if_pos c5).trans ((if_pos c6).trans rfl)))))
      exact retPi (x := 1) hx hb hr hS hE.symm d_Rk_value_146 hlocks
  by_cases c7 : k = 4
  · skip
    refine lv_tableIn (off := 146) (tgt := 147) hx hb d_Rk_value_1 (by rw [c7]; decide) (by rw [c7]; decide) (by rw [c7]; decide) (by decide) ?_
    refine lv_iload_n hx hb d_Rk_value_147 rfl (lv_at hl 1 rfl) ?_
    refine lv_iload_n hx hb d_Rk_value_148 rfl (lv_at hl 2 rfl) ?_
    refine lv_ixor hx hb d_Rk_value_149 ?_
    have hE : res = a ^^^ b := hq.trans ((if_neg c1).trans ((if_neg c2).trans ((if_neg c3).trans ((if_neg c5).trans ((if_pos c7).trans rfl)))))
    exact retPi (x := a ^^^ b) hx hb hr hS hE.symm d_Rk_value_150 hlocks
  by_cases c8 : k = 5
  · skip
    refine lv_tableIn (off := 150) (tgt := 151) hx hb d_Rk_value_1 (by rw [c8]; decide) (by rw [c8]; decide) (by rw [c8]; decide) (by decide) ?_
    refine lv_iload_n hx hb d_Rk_value_151 rfl (lv_at hl 1 rfl) ?_
    refine lv_iload_n hx hb d_Rk_value_152 rfl (lv_at hl 2 rfl) ?_
    refine lv_bipush (v := 31) hx hb d_Rk_value_153 (by decide) ?_
    refine lv_iand hx hb d_Rk_value_155 ?_
    refine lv_iushr (v := (a.toUInt32 >>> ((b &&& (31 : Int32)).toUInt32 &&& Int32.toUInt32 31)).toInt32) hx hb d_Rk_value_156 rfl ?_
    have hE : res = (a.toUInt32 >>> ((b &&& (31 : Int32)).toUInt32 &&& Int32.toUInt32 31)).toInt32 := hq.trans ((if_neg c1).trans ((if_neg c2).trans ((if_neg c3).trans ((if_neg c5).trans ((if_neg c7).trans ((if_pos c8).trans rfl))))))
    exact retPi (x := (a.toUInt32 >>> ((b &&& (31 : Int32)).toUInt32 &&& Int32.toUInt32 31)).toInt32) hx hb hr hS hE.symm d_Rk_value_157 hlocks
  by_cases c9 : k = 6
  · skip
    refine lv_tableIn (off := 157) (tgt := 158) hx hb d_Rk_value_1 (by rw [c9]; decide) (by rw [c9]; decide) (by rw [c9]; decide) (by decide) ?_
    refine lv_iload_n hx hb d_Rk_value_158 rfl (lv_at hl 1 rfl) ?_
    refine lv_iload_n hx hb d_Rk_value_159 rfl (lv_at hl 2 rfl) ?_
    refine lv_ior hx hb d_Rk_value_160 ?_
    have hE : res = a ||| b := hq.trans ((if_neg c1).trans ((if_neg c2).trans ((if_neg c3).trans ((if_neg c5).trans ((if_neg c7).trans ((if_neg c8).trans ((if_pos c9).trans rfl)))))))
    exact retPi (x := a ||| b) hx hb hr hS hE.symm d_Rk_value_161 hlocks
  by_cases c10 : k = 7
  · skip
    refine lv_tableIn (off := 161) (tgt := 162) hx hb d_Rk_value_1 (by rw [c10]; decide) (by rw [c10]; decide) (by rw [c10]; decide) (by decide) ?_
    refine lv_iload_n hx hb d_Rk_value_162 rfl (lv_at hl 1 rfl) ?_
    refine lv_iload_n hx hb d_Rk_value_163 rfl (lv_at hl 2 rfl) ?_
    refine lv_iand hx hb d_Rk_value_164 ?_
    have hE : res = a &&& b := hq.trans ((if_neg c1).trans ((if_neg c2).trans ((if_neg c3).trans ((if_neg c5).trans ((if_neg c7).trans ((if_neg c8).trans ((if_neg c9).trans ((if_pos c10).trans rfl))))))))
    exact retPi (x := a &&& b) hx hb hr hS hE.symm d_Rk_value_165 hlocks
  by_cases c11 : k = 8
  · skip
    refine lv_tableIn (off := 165) (tgt := 166) hx hb d_Rk_value_1 (by rw [c11]; decide) (by rw [c11]; decide) (by rw [c11]; decide) (by decide) ?_
    refine lv_iload_n hx hb d_Rk_value_166 rfl (lv_at hl 1 rfl) ?_
    refine lv_iload_n hx hb d_Rk_value_167 rfl (lv_at hl 2 rfl) ?_
    refine lv_isub hx hb d_Rk_value_168 ?_
    have hE : res = a - b := hq.trans ((if_neg c1).trans ((if_neg c2).trans ((if_neg c3).trans ((if_neg c5).trans ((if_neg c7).trans ((if_neg c8).trans ((if_neg c9).trans ((if_neg c10).trans ((if_pos c11).trans rfl)))))))))
    exact retPi (x := a - b) hx hb hr hS hE.symm d_Rk_value_169 hlocks
  by_cases c12 : k = 9
  · skip
    refine lv_tableIn (off := 254) (tgt := 255) hx hb d_Rk_value_1 (by rw [c12]; decide) (by rw [c12]; decide) (by rw [c12]; decide) (by decide) ?_
    refine lv_iload_n hx hb d_Rk_value_255 rfl (lv_at hl 1 rfl) ?_
    refine lv_i2l (v := a.toInt64) hx hb d_Rk_value_256 rfl ?_
    refine lv_ldc2 (v := 4294967295) hx hb hown (hts _ m_8_20) d_Rk_value_257 ?_
    refine lv_land hx hb d_Rk_value_260 ?_
    refine lv_iload_n hx hb d_Rk_value_261 rfl (lv_at hl 2 rfl) ?_
    refine lv_i2l (v := b.toInt64) hx hb d_Rk_value_262 rfl ?_
    refine lv_ldc2 (v := 4294967295) hx hb hown (hts _ m_8_20) d_Rk_value_263 ?_
    refine lv_land hx hb d_Rk_value_266 ?_
    refine callQi (va_runS (As := [.long (a.toInt64 &&& 4294967295), .long (b.toInt64 &&& 4294967295)]) (rest := []) ⟨hx, hb, hml, hown, hts⟩ (c_Rk_rest l (a.toInt64 &&& 4294967295) (b.toInt64 &&& 4294967295) s.heap.size) (va_cwS 2 hts (goodS m_9_29 m_9_30 m_0_14 m_9_31) rfl rfl rfl (by decide +kernel) ⟨Nat.le_of_ble_eq_true rfl, Nat.le_of_ble_eq_true rfl⟩) ⟨preP_blind, preP_ok⟩ rfl rfl hl.1 rfl (lv_room (Nat.le_of_ble_eq_true rfl)) d_Rk_value_267 ⟨Nat.zero_le _, Nat.zero_le _⟩) hS hA (fun H locs hS => ?_)
    have hE : res = f_Rk_rest (a.toInt64 &&& 4294967295) (b.toInt64 &&& 4294967295) := hq.trans ((if_neg c1).trans ((if_neg c2).trans ((if_neg c3).trans ((if_neg c5).trans ((if_neg c7).trans ((if_neg c8).trans ((if_neg c9).trans ((if_neg c10).trans ((if_neg c11).trans ((if_pos c12).trans rfl))))))))))
    exact retPi (x := f_Rk_rest (a.toInt64 &&& 4294967295) (b.toInt64 &&& 4294967295)) hx hb hr hS hE.symm d_Rk_value_270 hlocks
  by_cases c13 : k = 10
  · skip
    refine lv_tableIn (off := 254) (tgt := 255) hx hb d_Rk_value_1 (by rw [c13]; decide) (by rw [c13]; decide) (by rw [c13]; decide) (by decide) ?_
    refine lv_iload_n hx hb d_Rk_value_255 rfl (lv_at hl 1 rfl) ?_
    refine lv_i2l (v := a.toInt64) hx hb d_Rk_value_256 rfl ?_
    refine lv_ldc2 (v := 4294967295) hx hb hown (hts _ m_8_20) d_Rk_value_257 ?_
    refine lv_land hx hb d_Rk_value_260 ?_
    refine lv_iload_n hx hb d_Rk_value_261 rfl (lv_at hl 2 rfl) ?_
    refine lv_i2l (v := b.toInt64) hx hb d_Rk_value_262 rfl ?_
    refine lv_ldc2 (v := 4294967295) hx hb hown (hts _ m_8_20) d_Rk_value_263 ?_
    refine lv_land hx hb d_Rk_value_266 ?_
    refine callQi (va_runS (As := [.long (a.toInt64 &&& 4294967295), .long (b.toInt64 &&& 4294967295)]) (rest := []) ⟨hx, hb, hml, hown, hts⟩ (c_Rk_rest l (a.toInt64 &&& 4294967295) (b.toInt64 &&& 4294967295) s.heap.size) (va_cwS 2 hts (goodS m_9_29 m_9_30 m_0_14 m_9_31) rfl rfl rfl (by decide +kernel) ⟨Nat.le_of_ble_eq_true rfl, Nat.le_of_ble_eq_true rfl⟩) ⟨preP_blind, preP_ok⟩ rfl rfl hl.1 rfl (lv_room (Nat.le_of_ble_eq_true rfl)) d_Rk_value_267 ⟨Nat.zero_le _, Nat.zero_le _⟩) hS hA (fun H locs hS => ?_)
    have hE : res = f_Rk_rest (a.toInt64 &&& 4294967295) (b.toInt64 &&& 4294967295) := hq.trans ((if_neg c1).trans ((if_neg c2).trans ((if_neg c3).trans ((if_neg c5).trans ((if_neg c7).trans ((if_neg c8).trans ((if_neg c9).trans ((if_neg c10).trans ((if_neg c11).trans ((if_neg c12).trans ((if_pos c13).trans rfl)))))))))))
    exact retPi (x := f_Rk_rest (a.toInt64 &&& 4294967295) (b.toInt64 &&& 4294967295)) hx hb hr hS hE.symm d_Rk_value_270 hlocks
  by_cases c14 : k = 11
  · skip
    refine lv_tableIn (off := 254) (tgt := 255) hx hb d_Rk_value_1 (by rw [c14]; decide) (by rw [c14]; decide) (by rw [c14]; decide) (by decide) ?_
    refine lv_iload_n hx hb d_Rk_value_255 rfl (lv_at hl 1 rfl) ?_
    refine lv_i2l (v := a.toInt64) hx hb d_Rk_value_256 rfl ?_
    refine lv_ldc2 (v := 4294967295) hx hb hown (hts _ m_8_20) d_Rk_value_257 ?_
    refine lv_land hx hb d_Rk_value_260 ?_
    refine lv_iload_n hx hb d_Rk_value_261 rfl (lv_at hl 2 rfl) ?_
    refine lv_i2l (v := b.toInt64) hx hb d_Rk_value_262 rfl ?_
    refine lv_ldc2 (v := 4294967295) hx hb hown (hts _ m_8_20) d_Rk_value_263 ?_
    refine lv_land hx hb d_Rk_value_266 ?_
    refine callQi (va_runS (As := [.long (a.toInt64 &&& 4294967295), .long (b.toInt64 &&& 4294967295)]) (rest := []) ⟨hx, hb, hml, hown, hts⟩ (c_Rk_rest l (a.toInt64 &&& 4294967295) (b.toInt64 &&& 4294967295) s.heap.size) (va_cwS 2 hts (goodS m_9_29 m_9_30 m_0_14 m_9_31) rfl rfl rfl (by decide +kernel) ⟨Nat.le_of_ble_eq_true rfl, Nat.le_of_ble_eq_true rfl⟩) ⟨preP_blind, preP_ok⟩ rfl rfl hl.1 rfl (lv_room (Nat.le_of_ble_eq_true rfl)) d_Rk_value_267 ⟨Nat.zero_le _, Nat.zero_le _⟩) hS hA (fun H locs hS => ?_)
    have hE : res = f_Rk_rest (a.toInt64 &&& 4294967295) (b.toInt64 &&& 4294967295) := hq.trans ((if_neg c1).trans ((if_neg c2).trans ((if_neg c3).trans ((if_neg c5).trans ((if_neg c7).trans ((if_neg c8).trans ((if_neg c9).trans ((if_neg c10).trans ((if_neg c11).trans ((if_neg c12).trans ((if_neg c13).trans ((if_pos c14).trans rfl))))))))))))
    exact retPi (x := f_Rk_rest (a.toInt64 &&& 4294967295) (b.toInt64 &&& 4294967295)) hx hb hr hS hE.symm d_Rk_value_270 hlocks
  by_cases c15 : k = 12
  · skip
    refine lv_tableIn (off := 254) (tgt := 255) hx hb d_Rk_value_1 (by rw [c15]; decide) (by rw [c15]; decide) (by rw [c15]; decide) (by decide) ?_
    refine lv_iload_n hx hb d_Rk_value_255 rfl (lv_at hl 1 rfl) ?_
    refine lv_i2l (v := a.toInt64) hx hb d_Rk_value_256 rfl ?_
    refine lv_ldc2 (v := 4294967295) hx hb hown (hts _ m_8_20) d_Rk_value_257 ?_
    refine lv_land hx hb d_Rk_value_260 ?_
    refine lv_iload_n hx hb d_Rk_value_261 rfl (lv_at hl 2 rfl) ?_
    refine lv_i2l (v := b.toInt64) hx hb d_Rk_value_262 rfl ?_
    refine lv_ldc2 (v := 4294967295) hx hb hown (hts _ m_8_20) d_Rk_value_263 ?_
    refine lv_land hx hb d_Rk_value_266 ?_
    refine callQi (va_runS (As := [.long (a.toInt64 &&& 4294967295), .long (b.toInt64 &&& 4294967295)]) (rest := []) ⟨hx, hb, hml, hown, hts⟩ (c_Rk_rest l (a.toInt64 &&& 4294967295) (b.toInt64 &&& 4294967295) s.heap.size) (va_cwS 2 hts (goodS m_9_29 m_9_30 m_0_14 m_9_31) rfl rfl rfl (by decide +kernel) ⟨Nat.le_of_ble_eq_true rfl, Nat.le_of_ble_eq_true rfl⟩) ⟨preP_blind, preP_ok⟩ rfl rfl hl.1 rfl (lv_room (Nat.le_of_ble_eq_true rfl)) d_Rk_value_267 ⟨Nat.zero_le _, Nat.zero_le _⟩) hS hA (fun H locs hS => ?_)
    have hE : res = f_Rk_rest (a.toInt64 &&& 4294967295) (b.toInt64 &&& 4294967295) := hq.trans ((if_neg c1).trans ((if_neg c2).trans ((if_neg c3).trans ((if_neg c5).trans ((if_neg c7).trans ((if_neg c8).trans ((if_neg c9).trans ((if_neg c10).trans ((if_neg c11).trans ((if_neg c12).trans ((if_neg c13).trans ((if_neg c14).trans ((if_pos c15).trans rfl)))))))))))))
    exact retPi (x := f_Rk_rest (a.toInt64 &&& 4294967295) (b.toInt64 &&& 4294967295)) hx hb hr hS hE.symm d_Rk_value_270 hlocks
  by_cases c16 : k = 13
  · skip
    refine lv_tableIn (off := 169) (tgt := 170) hx hb d_Rk_value_1 (by rw [c16]; decide) (by rw [c16]; decide) (by rw [c16]; decide) (by decide) ?_
    refine lv_iload_n hx hb d_Rk_value_170 rfl (lv_at hl 1 rfl) ?_
    refine lv_iload_n hx hb d_Rk_value_171 rfl (lv_at hl 2 rfl) ?_
    refine lv_bipush (v := 31) hx hb d_Rk_value_172 (by decide) ?_
    refine lv_iand hx hb d_Rk_value_174 ?_
    refine lv_ishr hx hb d_Rk_value_175 ?_
    have hE : res = a >>> ((b &&& (31 : Int32)) &&& 31) := hq.trans ((if_neg c1).trans ((if_neg c2).trans ((if_neg c3).trans ((if_neg c5).trans ((if_neg c7).trans ((if_neg c8).trans ((if_neg c9).trans ((if_neg c10).trans ((if_neg c11).trans ((if_neg c12).trans ((if_neg c13).trans ((if_neg c14).trans ((if_neg c15).trans ((if_pos c16).trans rfl))))))))))))))
    exact retPi (x := a >>> ((b &&& (31 : Int32)) &&& 31)) hx hb hr hS hE.symm d_Rk_value_176 hlocks
  by_cases c17 : k = 14
  · skip
    refine lv_tableIn (off := 254) (tgt := 255) hx hb d_Rk_value_1 (by rw [c17]; decide) (by rw [c17]; decide) (by rw [c17]; decide) (by decide) ?_
    refine lv_iload_n hx hb d_Rk_value_255 rfl (lv_at hl 1 rfl) ?_
    refine lv_i2l (v := a.toInt64) hx hb d_Rk_value_256 rfl ?_
    refine lv_ldc2 (v := 4294967295) hx hb hown (hts _ m_8_20) d_Rk_value_257 ?_
    refine lv_land hx hb d_Rk_value_260 ?_
    refine lv_iload_n hx hb d_Rk_value_261 rfl (lv_at hl 2 rfl) ?_
    refine lv_i2l (v := b.toInt64) hx hb d_Rk_value_262 rfl ?_
    refine lv_ldc2 (v := 4294967295) hx hb hown (hts _ m_8_20) d_Rk_value_263 ?_
    refine lv_land hx hb d_Rk_value_266 ?_
    refine callQi (va_runS (As := [.long (a.toInt64 &&& 4294967295), .long (b.toInt64 &&& 4294967295)]) (rest := []) ⟨hx, hb, hml, hown, hts⟩ (c_Rk_rest l (a.toInt64 &&& 4294967295) (b.toInt64 &&& 4294967295) s.heap.size) (va_cwS 2 hts (goodS m_9_29 m_9_30 m_0_14 m_9_31) rfl rfl rfl (by decide +kernel) ⟨Nat.le_of_ble_eq_true rfl, Nat.le_of_ble_eq_true rfl⟩) ⟨preP_blind, preP_ok⟩ rfl rfl hl.1 rfl (lv_room (Nat.le_of_ble_eq_true rfl)) d_Rk_value_267 ⟨Nat.zero_le _, Nat.zero_le _⟩) hS hA (fun H locs hS => ?_)
    have hE : res = f_Rk_rest (a.toInt64 &&& 4294967295) (b.toInt64 &&& 4294967295) := hq.trans ((if_neg c1).trans ((if_neg c2).trans ((if_neg c3).trans ((if_neg c5).trans ((if_neg c7).trans ((if_neg c8).trans ((if_neg c9).trans ((if_neg c10).trans ((if_neg c11).trans ((if_neg c12).trans ((if_neg c13).trans ((if_neg c14).trans ((if_neg c15).trans ((if_neg c16).trans ((if_pos c17).trans rfl)))))))))))))))
    exact retPi (x := f_Rk_rest (a.toInt64 &&& 4294967295) (b.toInt64 &&& 4294967295)) hx hb hr hS hE.symm d_Rk_value_270 hlocks
  by_cases c18 : k = 15
  · skip
    refine lv_tableIn (off := 254) (tgt := 255) hx hb d_Rk_value_1 (by rw [c18]; decide) (by rw [c18]; decide) (by rw [c18]; decide) (by decide) ?_
    refine lv_iload_n hx hb d_Rk_value_255 rfl (lv_at hl 1 rfl) ?_
    refine lv_i2l (v := a.toInt64) hx hb d_Rk_value_256 rfl ?_
    refine lv_ldc2 (v := 4294967295) hx hb hown (hts _ m_8_20) d_Rk_value_257 ?_
    refine lv_land hx hb d_Rk_value_260 ?_
    refine lv_iload_n hx hb d_Rk_value_261 rfl (lv_at hl 2 rfl) ?_
    refine lv_i2l (v := b.toInt64) hx hb d_Rk_value_262 rfl ?_
    refine lv_ldc2 (v := 4294967295) hx hb hown (hts _ m_8_20) d_Rk_value_263 ?_
    refine lv_land hx hb d_Rk_value_266 ?_
    refine callQi (va_runS (As := [.long (a.toInt64 &&& 4294967295), .long (b.toInt64 &&& 4294967295)]) (rest := []) ⟨hx, hb, hml, hown, hts⟩ (c_Rk_rest l (a.toInt64 &&& 4294967295) (b.toInt64 &&& 4294967295) s.heap.size) (va_cwS 2 hts (goodS m_9_29 m_9_30 m_0_14 m_9_31) rfl rfl rfl (by decide +kernel) ⟨Nat.le_of_ble_eq_true rfl, Nat.le_of_ble_eq_true rfl⟩) ⟨preP_blind, preP_ok⟩ rfl rfl hl.1 rfl (lv_room (Nat.le_of_ble_eq_true rfl)) d_Rk_value_267 ⟨Nat.zero_le _, Nat.zero_le _⟩) hS hA (fun H locs hS => ?_)
    have hE : res = f_Rk_rest (a.toInt64 &&& 4294967295) (b.toInt64 &&& 4294967295) := hq.trans ((if_neg c1).trans ((if_neg c2).trans ((if_neg c3).trans ((if_neg c5).trans ((if_neg c7).trans ((if_neg c8).trans ((if_neg c9).trans ((if_neg c10).trans ((if_neg c11).trans ((if_neg c12).trans ((if_neg c13).trans ((if_neg c14).trans ((if_neg c15).trans ((if_neg c16).trans ((if_neg c17).trans ((if_pos c18).trans rfl))))))))))))))))
    exact retPi (x := f_Rk_rest (a.toInt64 &&& 4294967295) (b.toInt64 &&& 4294967295)) hx hb hr hS hE.symm d_Rk_value_270 hlocks
  by_cases c19 : k = 16
  · skip
    refine lv_tableIn (off := 176) (tgt := 177) hx hb d_Rk_value_1 (by rw [c19]; decide) (by rw [c19]; decide) (by rw [c19]; decide) (by decide) ?_
    refine lv_iload_n hx hb d_Rk_value_177 rfl (lv_at hl 1 rfl) ?_
    refine lv_iload_n hx hb d_Rk_value_178 rfl (lv_at hl 2 rfl) ?_
    refine lv_imul hx hb d_Rk_value_179 ?_
    have hE : res = a * b := hq.trans ((if_neg c1).trans ((if_neg c2).trans ((if_neg c3).trans ((if_neg c5).trans ((if_neg c7).trans ((if_neg c8).trans ((if_neg c9).trans ((if_neg c10).trans ((if_neg c11).trans ((if_neg c12).trans ((if_neg c13).trans ((if_neg c14).trans ((if_neg c15).trans ((if_neg c16).trans ((if_neg c17).trans ((if_neg c18).trans ((if_pos c19).trans rfl)))))))))))))))))
    exact retPi (x := a * b) hx hb hr hS hE.symm d_Rk_value_180 hlocks
  by_cases c20 : k = 17
  · skip
    refine lv_tableIn (off := 180) (tgt := 181) hx hb d_Rk_value_1 (by rw [c20]; decide) (by rw [c20]; decide) (by rw [c20]; decide) (by decide) ?_
    refine lv_iload_n hx hb d_Rk_value_181 rfl (lv_at hl 1 rfl) ?_
    refine lv_i2l (v := a.toInt64) hx hb d_Rk_value_182 rfl ?_
    refine lv_iload_n hx hb d_Rk_value_183 rfl (lv_at hl 2 rfl) ?_
    refine lv_i2l (v := b.toInt64) hx hb d_Rk_value_184 rfl ?_
    refine lv_lmul hx hb d_Rk_value_185 ?_
    refine lv_bipush (v := 32) hx hb d_Rk_value_186 (by decide) ?_
    refine lv_lshr (v := (a.toInt64 * b.toInt64) >>> ((32 : Int32).toInt64 &&& 63)) hx hb d_Rk_value_188 rfl ?_
    refine lv_l2i (v := ((a.toInt64 * b.toInt64) >>> ((32 : Int32).toInt64 &&& 63)).toInt32) hx hb d_Rk_value_189 rfl ?_
    have hE : res = ((a.toInt64 * b.toInt64) >>> ((32 : Int32).toInt64 &&& 63)).toInt32 := hq.trans ((if_neg c1).trans ((if_neg c2).trans ((if_neg c3).trans ((if_neg c5).trans ((if_neg c7).trans ((if_neg c8).trans ((if_neg c9).trans ((if_neg c10).trans ((if_neg c11).trans ((if_neg c12).trans ((if_neg c13).trans ((if_neg c14).trans ((if_neg c15).trans ((if_neg c16).trans ((if_neg c17).trans ((if_neg c18).trans ((if_neg c19).trans ((if_pos c20).trans rfl))))))))))))))))))
    exact retPi (x := ((a.toInt64 * b.toInt64) >>> ((32 : Int32).toInt64 &&& 63)).toInt32) hx hb hr hS hE.symm d_Rk_value_190 hlocks
  by_cases c21 : k = 18
  · skip
    refine lv_tableIn (off := 190) (tgt := 191) hx hb d_Rk_value_1 (by rw [c21]; decide) (by rw [c21]; decide) (by rw [c21]; decide) (by decide) ?_
    refine lv_iload_n hx hb d_Rk_value_191 rfl (lv_at hl 1 rfl) ?_
    refine lv_i2l (v := a.toInt64) hx hb d_Rk_value_192 rfl ?_
    refine lv_iload_n hx hb d_Rk_value_193 rfl (lv_at hl 2 rfl) ?_
    refine lv_i2l (v := b.toInt64) hx hb d_Rk_value_194 rfl ?_
    refine lv_ldc2 (v := 4294967295) hx hb hown (hts _ m_8_20) d_Rk_value_195 ?_
    refine lv_land hx hb d_Rk_value_198 ?_
    refine lv_lmul hx hb d_Rk_value_199 ?_
    refine lv_bipush (v := 32) hx hb d_Rk_value_200 (by decide) ?_
    refine lv_lshr (v := (a.toInt64 * (b.toInt64 &&& 4294967295)) >>> ((32 : Int32).toInt64 &&& 63)) hx hb d_Rk_value_202 rfl ?_
    refine lv_l2i (v := ((a.toInt64 * (b.toInt64 &&& 4294967295)) >>> ((32 : Int32).toInt64 &&& 63)).toInt32) hx hb d_Rk_value_203 rfl ?_
    have hE : res = ((a.toInt64 * (b.toInt64 &&& 4294967295)) >>> ((32 : Int32).toInt64 &&& 63)).toInt32 := hq.trans ((if_neg c1).trans ((if_neg c2).trans ((if_neg c3).trans ((if_neg c5).trans ((if_neg c7).trans ((if_neg c8).trans ((if_neg c9).trans ((if_neg c10).trans ((if_neg c11).trans ((if_neg c12).trans ((if_neg c13).trans ((if_neg c14).trans ((if_neg c15).trans ((if_neg c16).trans ((if_neg c17).trans ((if_neg c18).trans ((if_neg c19).trans ((if_neg c20).trans ((if_pos c21).trans rfl)))))))))))))))))))
    exact retPi (x := ((a.toInt64 * (b.toInt64 &&& 4294967295)) >>> ((32 : Int32).toInt64 &&& 63)).toInt32) hx hb hr hS hE.symm d_Rk_value_204 hlocks
  by_cases c22 : k = 19
  · skip
    refine lv_tableIn (off := 204) (tgt := 205) hx hb d_Rk_value_1 (by rw [c22]; decide) (by rw [c22]; decide) (by rw [c22]; decide) (by decide) ?_
    refine lv_iload_n hx hb d_Rk_value_205 rfl (lv_at hl 1 rfl) ?_
    refine lv_i2l (v := a.toInt64) hx hb d_Rk_value_206 rfl ?_
    refine lv_ldc2 (v := 4294967295) hx hb hown (hts _ m_8_20) d_Rk_value_207 ?_
    refine lv_land hx hb d_Rk_value_210 ?_
    refine lv_iload_n hx hb d_Rk_value_211 rfl (lv_at hl 2 rfl) ?_
    refine lv_i2l (v := b.toInt64) hx hb d_Rk_value_212 rfl ?_
    refine lv_ldc2 (v := 4294967295) hx hb hown (hts _ m_8_20) d_Rk_value_213 ?_
    refine lv_land hx hb d_Rk_value_216 ?_
    refine lv_lmul hx hb d_Rk_value_217 ?_
    refine lv_bipush (v := 32) hx hb d_Rk_value_218 (by decide) ?_
    refine lv_lushr (v := (((a.toInt64 &&& 4294967295) * (b.toInt64 &&& 4294967295)).toUInt64 >>> ((32 : Int32).toInt64.toUInt64 &&& Int64.toUInt64 63)).toInt64) hx hb d_Rk_value_220 rfl ?_
    refine lv_l2i (v := ((((a.toInt64 &&& 4294967295) * (b.toInt64 &&& 4294967295)).toUInt64 >>> ((32 : Int32).toInt64.toUInt64 &&& Int64.toUInt64 63)).toInt64).toInt32) hx hb d_Rk_value_221 rfl ?_
    have hE : res = ((((a.toInt64 &&& 4294967295) * (b.toInt64 &&& 4294967295)).toUInt64 >>> ((32 : Int32).toInt64.toUInt64 &&& Int64.toUInt64 63)).toInt64).toInt32 := hq.trans ((if_neg c1).trans ((if_neg c2).trans ((if_neg c3).trans ((if_neg c5).trans ((if_neg c7).trans ((if_neg c8).trans ((if_neg c9).trans ((if_neg c10).trans ((if_neg c11).trans ((if_neg c12).trans ((if_neg c13).trans ((if_neg c14).trans ((if_neg c15).trans ((if_neg c16).trans ((if_neg c17).trans ((if_neg c18).trans ((if_neg c19).trans ((if_neg c20).trans ((if_neg c21).trans ((if_pos c22).trans rfl))))))))))))))))))))
    exact retPi (x := ((((a.toInt64 &&& 4294967295) * (b.toInt64 &&& 4294967295)).toUInt64 >>> ((32 : Int32).toInt64.toUInt64 &&& Int64.toUInt64 63)).toInt64).toInt32) hx hb hr hS hE.symm d_Rk_value_222 hlocks
  by_cases c23 : k = 20
  · skip
    refine lv_tableIn (off := 222) (tgt := 223) hx hb d_Rk_value_1 (by rw [c23]; decide) (by rw [c23]; decide) (by rw [c23]; decide) (by decide) ?_
    refine lv_iload_n hx hb d_Rk_value_223 rfl (lv_at hl 1 rfl) ?_
    refine lv_i2l (v := a.toInt64) hx hb d_Rk_value_224 rfl ?_
    refine lv_iload_n hx hb d_Rk_value_225 rfl (lv_at hl 2 rfl) ?_
    refine lv_i2l (v := b.toInt64) hx hb d_Rk_value_226 rfl ?_
    refine callQi (va_runS (As := [.long a.toInt64, .long b.toInt64]) (rest := []) ⟨hx, hb, hml, hown, hts⟩ (c_Rk_quotient l a.toInt64 b.toInt64 s.heap.size) (va_cwS 2 hts (goodS m_9_26 m_9_27 m_0_14 m_9_28) rfl rfl rfl (by decide +kernel) ⟨Nat.le_of_ble_eq_true rfl, Nat.le_of_ble_eq_true rfl⟩) ⟨preP_blind, preP_ok⟩ rfl rfl hl.1 rfl (lv_room (Nat.le_of_ble_eq_true rfl)) d_Rk_value_227 ⟨Nat.zero_le _, Nat.zero_le _⟩) hS hA (fun H locs hS => ?_)
    have hE : res = f_Rk_quotient a.toInt64 b.toInt64 := hq.trans ((if_neg c1).trans ((if_neg c2).trans ((if_neg c3).trans ((if_neg c5).trans ((if_neg c7).trans ((if_neg c8).trans ((if_neg c9).trans ((if_neg c10).trans ((if_neg c11).trans ((if_neg c12).trans ((if_neg c13).trans ((if_neg c14).trans ((if_neg c15).trans ((if_neg c16).trans ((if_neg c17).trans ((if_neg c18).trans ((if_neg c19).trans ((if_neg c20).trans ((if_neg c21).trans ((if_neg c22).trans ((if_pos c23).trans rfl)))))))))))))))))))))
    exact retPi (x := f_Rk_quotient a.toInt64 b.toInt64) hx hb hr hS hE.symm d_Rk_value_230 hlocks
  by_cases c24 : k = 21
  · skip
    refine lv_tableIn (off := 230) (tgt := 231) hx hb d_Rk_value_1 (by rw [c24]; decide) (by rw [c24]; decide) (by rw [c24]; decide) (by decide) ?_
    refine lv_iload_n hx hb d_Rk_value_231 rfl (lv_at hl 1 rfl) ?_
    refine lv_i2l (v := a.toInt64) hx hb d_Rk_value_232 rfl ?_
    refine lv_ldc2 (v := 4294967295) hx hb hown (hts _ m_8_20) d_Rk_value_233 ?_
    refine lv_land hx hb d_Rk_value_236 ?_
    refine lv_iload_n hx hb d_Rk_value_237 rfl (lv_at hl 2 rfl) ?_
    refine lv_i2l (v := b.toInt64) hx hb d_Rk_value_238 rfl ?_
    refine lv_ldc2 (v := 4294967295) hx hb hown (hts _ m_8_20) d_Rk_value_239 ?_
    refine lv_land hx hb d_Rk_value_242 ?_
    refine callQi (va_runS (As := [.long (a.toInt64 &&& 4294967295), .long (b.toInt64 &&& 4294967295)]) (rest := []) ⟨hx, hb, hml, hown, hts⟩ (c_Rk_quotient l (a.toInt64 &&& 4294967295) (b.toInt64 &&& 4294967295) s.heap.size) (va_cwS 2 hts (goodS m_9_26 m_9_27 m_0_14 m_9_28) rfl rfl rfl (by decide +kernel) ⟨Nat.le_of_ble_eq_true rfl, Nat.le_of_ble_eq_true rfl⟩) ⟨preP_blind, preP_ok⟩ rfl rfl hl.1 rfl (lv_room (Nat.le_of_ble_eq_true rfl)) d_Rk_value_243 ⟨Nat.zero_le _, Nat.zero_le _⟩) hS hA (fun H locs hS => ?_)
    have hE : res = f_Rk_quotient (a.toInt64 &&& 4294967295) (b.toInt64 &&& 4294967295) := hq.trans ((if_neg c1).trans ((if_neg c2).trans ((if_neg c3).trans ((if_neg c5).trans ((if_neg c7).trans ((if_neg c8).trans ((if_neg c9).trans ((if_neg c10).trans ((if_neg c11).trans ((if_neg c12).trans ((if_neg c13).trans ((if_neg c14).trans ((if_neg c15).trans ((if_neg c16).trans ((if_neg c17).trans ((if_neg c18).trans ((if_neg c19).trans ((if_neg c20).trans ((if_neg c21).trans ((if_neg c22).trans ((if_neg c23).trans ((if_pos c24).trans rfl))))))))))))))))))))))
    exact retPi (x := f_Rk_quotient (a.toInt64 &&& 4294967295) (b.toInt64 &&& 4294967295)) hx hb hr hS hE.symm d_Rk_value_246 hlocks
  by_cases c25 : k = 22
  · skip
    refine lv_tableIn (off := 246) (tgt := 247) hx hb d_Rk_value_1 (by rw [c25]; decide) (by rw [c25]; decide) (by rw [c25]; decide) (by decide) ?_
    refine lv_iload_n hx hb d_Rk_value_247 rfl (lv_at hl 1 rfl) ?_
    refine lv_i2l (v := a.toInt64) hx hb d_Rk_value_248 rfl ?_
    refine lv_iload_n hx hb d_Rk_value_249 rfl (lv_at hl 2 rfl) ?_
    refine lv_i2l (v := b.toInt64) hx hb d_Rk_value_250 rfl ?_
    refine callQi (va_runS (As := [.long a.toInt64, .long b.toInt64]) (rest := []) ⟨hx, hb, hml, hown, hts⟩ (c_Rk_rest l a.toInt64 b.toInt64 s.heap.size) (va_cwS 2 hts (goodS m_9_29 m_9_30 m_0_14 m_9_31) rfl rfl rfl (by decide +kernel) ⟨Nat.le_of_ble_eq_true rfl, Nat.le_of_ble_eq_true rfl⟩) ⟨preP_blind, preP_ok⟩ rfl rfl hl.1 rfl (lv_room (Nat.le_of_ble_eq_true rfl)) d_Rk_value_251 ⟨Nat.zero_le _, Nat.zero_le _⟩) hS hA (fun H locs hS => ?_)
    have hE : res = f_Rk_rest a.toInt64 b.toInt64 := hq.trans ((if_neg c1).trans ((if_neg c2).trans ((if_neg c3).trans ((if_neg c5).trans ((if_neg c7).trans ((if_neg c8).trans ((if_neg c9).trans ((if_neg c10).trans ((if_neg c11).trans ((if_neg c12).trans ((if_neg c13).trans ((if_neg c14).trans ((if_neg c15).trans ((if_neg c16).trans ((if_neg c17).trans ((if_neg c18).trans ((if_neg c19).trans ((if_neg c20).trans ((if_neg c21).trans ((if_neg c22).trans ((if_neg c23).trans ((if_neg c24).trans ((if_pos c25).trans rfl)))))))))))))))))))))))
    exact retPi (x := f_Rk_rest a.toInt64 b.toInt64) hx hb hr hS hE.symm d_Rk_value_254 hlocks
  have nc1 := lv_neT c1 (a := 0) (by decide)
  have nc2 := lv_neT c2 (a := 1) (by decide)
  have nc3 := lv_neT c3 (a := 2) (by decide)
  have nc5 := lv_neT c5 (a := 3) (by decide)
  have nc7 := lv_neT c7 (a := 4) (by decide)
  have nc8 := lv_neT c8 (a := 5) (by decide)
  have nc9 := lv_neT c9 (a := 6) (by decide)
  have nc10 := lv_neT c10 (a := 7) (by decide)
  have nc11 := lv_neT c11 (a := 8) (by decide)
  have nc12 := lv_neT c12 (a := 9) (by decide)
  have nc13 := lv_neT c13 (a := 10) (by decide)
  have nc14 := lv_neT c14 (a := 11) (by decide)
  have nc15 := lv_neT c15 (a := 12) (by decide)
  have nc16 := lv_neT c16 (a := 13) (by decide)
  have nc17 := lv_neT c17 (a := 14) (by decide)
  have nc18 := lv_neT c18 (a := 15) (by decide)
  have nc19 := lv_neT c19 (a := 16) (by decide)
  have nc20 := lv_neT c20 (a := 17) (by decide)
  have nc21 := lv_neT c21 (a := 18) (by decide)
  have nc22 := lv_neT c22 (a := 19) (by decide)
  have nc23 := lv_neT c23 (a := 20) (by decide)
  have nc24 := lv_neT c24 (a := 21) (by decide)
  have nc25 := lv_neT c25 (a := 22) (by decide)
  refine lv_tableOut (tgt := 255) hx hb d_Rk_value_1 (by omega) (by decide) ?_
  refine lv_iload_n hx hb d_Rk_value_255 rfl (lv_at hl 1 rfl) ?_
  refine lv_i2l (v := a.toInt64) hx hb d_Rk_value_256 rfl ?_
  refine lv_ldc2 (v := 4294967295) hx hb hown (hts _ m_8_20) d_Rk_value_257 ?_
  refine lv_land hx hb d_Rk_value_260 ?_
  refine lv_iload_n hx hb d_Rk_value_261 rfl (lv_at hl 2 rfl) ?_
  refine lv_i2l (v := b.toInt64) hx hb d_Rk_value_262 rfl ?_
  refine lv_ldc2 (v := 4294967295) hx hb hown (hts _ m_8_20) d_Rk_value_263 ?_
  refine lv_land hx hb d_Rk_value_266 ?_
  refine callQi (va_runS (As := [.long (a.toInt64 &&& 4294967295), .long (b.toInt64 &&& 4294967295)]) (rest := []) ⟨hx, hb, hml, hown, hts⟩ (c_Rk_rest l (a.toInt64 &&& 4294967295) (b.toInt64 &&& 4294967295) s.heap.size) (va_cwS 2 hts (goodS m_9_29 m_9_30 m_0_14 m_9_31) rfl rfl rfl (by decide +kernel) ⟨Nat.le_of_ble_eq_true rfl, Nat.le_of_ble_eq_true rfl⟩) ⟨preP_blind, preP_ok⟩ rfl rfl hl.1 rfl (lv_room (Nat.le_of_ble_eq_true rfl)) d_Rk_value_267 ⟨Nat.zero_le _, Nat.zero_le _⟩) hS hA (fun H locs hS => ?_)
  have hE : res = f_Rk_rest (a.toInt64 &&& 4294967295) (b.toInt64 &&& 4294967295) := hq.trans ((if_neg c1).trans ((if_neg c2).trans ((if_neg c3).trans ((if_neg c5).trans ((if_neg c7).trans ((if_neg c8).trans ((if_neg c9).trans ((if_neg c10).trans ((if_neg c11).trans ((if_neg c12).trans ((if_neg c13).trans ((if_neg c14).trans ((if_neg c15).trans ((if_neg c16).trans ((if_neg c17).trans ((if_neg c18).trans ((if_neg c19).trans ((if_neg c20).trans ((if_neg c21).trans ((if_neg c22).trans ((if_neg c23).trans ((if_neg c24).trans ((if_neg c25).trans rfl)))))))))))))))))))))))
  exact retPi (x := f_Rk_rest (a.toInt64 &&& 4294967295) (b.toInt64 &&& 4294967295)) hx hb hr hS hE.symm d_Rk_value_270 hlocks
def w_Rk_ungiven : List Cond := .code y_Rk_ungiven b_Rk_ungiven 6 (some .int) :: ALLW
def rm_Rk_ungiven : Room := { frames := 22, cells := 0, slots := 0, locals := 645 }
theorem d_Rk_ungiven_0 : decode b_Rk_ungiven 0 = .ok (.iload_n 2, 1) := by decide +kernel
theorem d_Rk_ungiven_1 : decode b_Rk_ungiven 1 = .ok (.iload 4, 2) := by decide +kernel
theorem d_Rk_ungiven_3 : decode b_Rk_ungiven 3 = .ok (.ior, 1) := by decide +kernel
theorem d_Rk_ungiven_4 : decode b_Rk_ungiven 4 = .ok (.istore 5, 2) := by decide +kernel
theorem d_Rk_ungiven_6 : decode b_Rk_ungiven 6 = .ok (.iload 5, 2) := by decide +kernel
theorem d_Rk_ungiven_8 : decode b_Rk_ungiven 8 = .ok (.ifCond .ne 5, 3) := by decide +kernel
theorem d_Rk_ungiven_11 : decode b_Rk_ungiven 11 = .ok (.iconst 0, 1) := by decide +kernel
theorem d_Rk_ungiven_12 : decode b_Rk_ungiven 12 = .ok (.ireturn, 1) := by decide +kernel
theorem d_Rk_ungiven_13 : decode b_Rk_ungiven 13 = .ok (.iload_n 0, 1) := by decide +kernel
theorem d_Rk_ungiven_14 : decode b_Rk_ungiven 14 = .ok (.tableswitch 129 0 13 #[70, 108, 127, 127, 105, 108, 89, 77, 70, 129, 129, 129, 129, 108], 70) := by decide +kernel
theorem d_Rk_ungiven_84 : decode b_Rk_ungiven 84 = .ok (.iload 5, 2) := by decide +kernel
theorem d_Rk_ungiven_86 : decode b_Rk_ungiven 86 = .ok (.iload 5, 2) := by decide +kernel
theorem d_Rk_ungiven_88 : decode b_Rk_ungiven 88 = .ok (.ineg, 1) := by decide +kernel
theorem d_Rk_ungiven_89 : decode b_Rk_ungiven 89 = .ok (.ior, 1) := by decide +kernel
theorem d_Rk_ungiven_90 : decode b_Rk_ungiven 90 = .ok (.ireturn, 1) := by decide +kernel
theorem d_Rk_ungiven_91 : decode b_Rk_ungiven 91 = .ok (.iload 5, 2) := by decide +kernel
theorem d_Rk_ungiven_93 : decode b_Rk_ungiven 93 = .ok (.iload_n 1, 1) := by decide +kernel
theorem d_Rk_ungiven_94 : decode b_Rk_ungiven 94 = .ok (.iload_n 2, 1) := by decide +kernel
theorem d_Rk_ungiven_95 : decode b_Rk_ungiven 95 = .ok (.ior, 1) := by decide +kernel
theorem d_Rk_ungiven_96 : decode b_Rk_ungiven 96 = .ok (.iand, 1) := by decide +kernel
theorem d_Rk_ungiven_97 : decode b_Rk_ungiven 97 = .ok (.iload_n 3, 1) := by decide +kernel
theorem d_Rk_ungiven_98 : decode b_Rk_ungiven 98 = .ok (.iload 4, 2) := by decide +kernel
theorem d_Rk_ungiven_100 : decode b_Rk_ungiven 100 = .ok (.ior, 1) := by decide +kernel
theorem d_Rk_ungiven_101 : decode b_Rk_ungiven 101 = .ok (.iand, 1) := by decide +kernel
theorem d_Rk_ungiven_102 : decode b_Rk_ungiven 102 = .ok (.ireturn, 1) := by decide +kernel
theorem d_Rk_ungiven_103 : decode b_Rk_ungiven 103 = .ok (.iload 5, 2) := by decide +kernel
theorem d_Rk_ungiven_105 : decode b_Rk_ungiven 105 = .ok (.iload_n 1, 1) := by decide +kernel
theorem d_Rk_ungiven_106 : decode b_Rk_ungiven 106 = .ok (.iconst (-1), 1) := by decide +kernel
theorem d_Rk_ungiven_107 : decode b_Rk_ungiven 107 = .ok (.ixor, 1) := by decide +kernel
theorem d_Rk_ungiven_108 : decode b_Rk_ungiven 108 = .ok (.iload_n 2, 1) := by decide +kernel
theorem d_Rk_ungiven_109 : decode b_Rk_ungiven 109 = .ok (.ior, 1) := by decide +kernel
theorem d_Rk_ungiven_110 : decode b_Rk_ungiven 110 = .ok (.iand, 1) := by decide +kernel
theorem d_Rk_ungiven_111 : decode b_Rk_ungiven 111 = .ok (.iload_n 3, 1) := by decide +kernel
theorem d_Rk_ungiven_112 : decode b_Rk_ungiven 112 = .ok (.iconst (-1), 1) := by decide +kernel
theorem d_Rk_ungiven_113 : decode b_Rk_ungiven 113 = .ok (.ixor, 1) := by decide +kernel
theorem d_Rk_ungiven_114 : decode b_Rk_ungiven 114 = .ok (.iload 4, 2) := by decide +kernel
theorem d_Rk_ungiven_116 : decode b_Rk_ungiven 116 = .ok (.ior, 1) := by decide +kernel
theorem d_Rk_ungiven_117 : decode b_Rk_ungiven 117 = .ok (.iand, 1) := by decide +kernel
theorem d_Rk_ungiven_118 : decode b_Rk_ungiven 118 = .ok (.ireturn, 1) := by decide +kernel
theorem d_Rk_ungiven_119 : decode b_Rk_ungiven 119 = .ok (.iload 5, 2) := by decide +kernel
theorem d_Rk_ungiven_121 : decode b_Rk_ungiven 121 = .ok (.ireturn, 1) := by decide +kernel
theorem d_Rk_ungiven_122 : decode b_Rk_ungiven 122 = .ok (.iload 4, 2) := by decide +kernel
theorem d_Rk_ungiven_124 : decode b_Rk_ungiven 124 = .ok (.bipush 31, 2) := by decide +kernel
theorem d_Rk_ungiven_126 : decode b_Rk_ungiven 126 = .ok (.iand, 1) := by decide +kernel
theorem d_Rk_ungiven_127 : decode b_Rk_ungiven 127 = .ok (.ifCond .eq 7, 3) := by decide +kernel
theorem d_Rk_ungiven_130 : decode b_Rk_ungiven 130 = .ok (.iconst (-1), 1) := by decide +kernel
theorem d_Rk_ungiven_131 : decode b_Rk_ungiven 131 = .ok (.goto 9, 3) := by decide +kernel
theorem d_Rk_ungiven_134 : decode b_Rk_ungiven 134 = .ok (.iload_n 0, 1) := by decide +kernel
theorem d_Rk_ungiven_135 : decode b_Rk_ungiven 135 = .ok (.iload_n 2, 1) := by decide +kernel
theorem d_Rk_ungiven_136 : decode b_Rk_ungiven 136 = .ok (.iload_n 3, 1) := by decide +kernel
theorem d_Rk_ungiven_137 : decode b_Rk_ungiven 137 = .ok (.invokestatic 25, 3) := by decide +kernel
theorem d_Rk_ungiven_140 : decode b_Rk_ungiven 140 = .ok (.ireturn, 1) := by decide +kernel
theorem d_Rk_ungiven_141 : decode b_Rk_ungiven 141 = .ok (.iconst 1, 1) := by decide +kernel
theorem d_Rk_ungiven_142 : decode b_Rk_ungiven 142 = .ok (.ireturn, 1) := by decide +kernel
theorem d_Rk_ungiven_143 : decode b_Rk_ungiven 143 = .ok (.iconst (-1), 1) := by decide +kernel
theorem d_Rk_ungiven_144 : decode b_Rk_ungiven 144 = .ok (.ireturn, 1) := by decide +kernel
def f_Rk_ungiven (k : Int32) (a : Int32) (ua : Int32) (b : Int32) (ub : Int32) : Int32 := if (ua ||| ub) = 0 then 0 else if k = 0 then (ua ||| ub) ||| (-(ua ||| ub)) else if k = 1 then (if (ub &&& (31 : Int32)) = 0 then f_Rk_value k ua b else (-1)) else if k = 2 then 1 else if k = 3 then 1 else if k = 4 then ua ||| ub else if k = 5 then (if (ub &&& (31 : Int32)) = 0 then f_Rk_value k ua b else (-1)) else if k = 6 then ((ua ||| ub) &&& ((a ^^^ (-1 : Int32)) ||| ua)) &&& ((b ^^^ (-1 : Int32)) ||| ub) else if k = 7 then ((ua ||| ub) &&& (a ||| ua)) &&& (b ||| ub) else if k = 8 then (ua ||| ub) ||| (-(ua ||| ub)) else if k = 9 then (-1) else if k = 10 then (-1) else if k = 11 then (-1) else if k = 12 then (-1) else if k = 13 then (if (ub &&& (31 : Int32)) = 0 then f_Rk_value k ua b else (-1)) else (-1)
set_option maxHeartbeats 8000000 in
set_option maxRecDepth 100000 in
theorem c_Rk_ungiven (l : Launch) (k : Int32) (a : Int32) (ua : Int32) (b : Int32) (ub : Int32) (sz : Nat) : Met l y_Rk_ungiven w_Rk_ungiven rm_Rk_ungiven (PreP sz [.int k, .int a, .int ua, .int b, .int ub]) (QPi (fun q : Nat => sz ≤ q) (f_Rk_ungiven k a ua b ub)) 0 0 (fun q : Nat => sz ≤ q) := by
  generalize hres : f_Rk_ungiven k a ua b ub = res
  refine Met.ofW (cc := b_Rk_ungiven) (maxL := 6) (ret := (some .int)) (by decide) rfl ?_
  intro p e s m args below meth c s₁ B hml hv
  obtain ⟨rfl, rfl⟩ := hv
  have hx := B.exec
  have hb := B.bytes
  have hr := B.returns
  have hts : ∀ w9 ∈ ALLW, w9.before ([.int k, .int a, .int ua, .int b, .int ub] : List Value).toArray s = true := fun w9 h => atoms_spec (ws := w_Rk_ungiven) B.pre w9 (List.mem_cons_of_mem _ h)
  have hown : s.vm.findClass R_Rk = some m.cls := findClass_of_methodNamed B.named
  have hlocks := B.notSynchronized
  generalize hAe : (fun q : Nat => s.heap.size ≤ q) = A
  have hA : ∀ q : Nat, s.heap.size ≤ q → A q := fun q h => by rw [← hAe]; exact h
  have hS : va_S A s.heap s.heap [] := va_S.rf
  have hl := lv_entry ([.int k, .int a, .int ua, .int b, .int ub]) (n := 6) (Nat.le_of_ble_eq_true rfl)
  rw [lg_entry_eq]
  generalize (lg_sl ([.int k, .int a, .int ua, .int b, .int ub]) ++ List.replicate (6 - (lg_sl ([.int k, .int a, .int ua, .int b, .int ub])).length) Slot.unset).toArray = ls at hl ⊢
  have hl : lv_has ls 6 [(0, .int k), (1, .int a), (2, .int ua), (3, .int b), (4, .int ub)] := hl
  have hq := hres.symm
  refine lv_iload_n hx hb d_Rk_ungiven_0 rfl (lv_at hl 2 rfl) ?_
  refine lv_iload hx hb d_Rk_ungiven_1 (lv_at hl 4 rfl) ?_
  refine lv_ior hx hb d_Rk_ungiven_3 ?_
  refine lv_istore (lv' := [(5, .int (ua ||| ub)), (0, .int k), (1, .int a), (2, .int ua), (3, .int b), (4, .int ub)]) hx hb d_Rk_ungiven_4 hl (by decide) rfl (fun ls hl => ?_)
  refine lv_iload hx hb d_Rk_ungiven_6 (lv_at hl 0 rfl) ?_
  refine lv_if_ne (tgt := 13) hx hb d_Rk_ungiven_8 (by decide) (fun c1 => ?_) (fun c1 => ?_)
  · skip
    refine lv_iload_n hx hb d_Rk_ungiven_13 rfl (lv_at hl 1 rfl) ?_
    by_cases c2 : k = 0
    · skip
      refine lv_tableIn (off := 70) (tgt := 84) hx hb d_Rk_ungiven_14 (by rw [c2]; decide) (by rw [c2]; decide) (by rw [c2]; decide) (by decide) ?_
      refine lv_iload hx hb d_Rk_ungiven_84 (lv_at hl 0 rfl) ?_
      refine lv_iload hx hb d_Rk_ungiven_86 (lv_at hl 0 rfl) ?_
      refine lv_ineg hx hb d_Rk_ungiven_88 ?_
      refine lv_ior hx hb d_Rk_ungiven_89 ?_
      have hE : res = (ua ||| ub) ||| (-(ua ||| ub)) := hq.trans ((if_neg c1).trans ((if_pos c2).trans rfl))
      exact retPi (x := (ua ||| ub) ||| (-(ua ||| ub))) hx hb hr hS hE.symm d_Rk_ungiven_90 hlocks
    by_cases c3 : k = 1
    · skip
      refine lv_tableIn (off := 108) (tgt := 122) hx hb d_Rk_ungiven_14 (by rw [c3]; decide) (by rw [c3]; decide) (by rw [c3]; decide) (by decide) ?_
      refine lv_iload hx hb d_Rk_ungiven_122 (lv_at hl 5 rfl) ?_
      refine lv_bipush (v := 31) hx hb d_Rk_ungiven_124 (by decide) ?_
      refine lv_iand hx hb d_Rk_ungiven_126 ?_
      refine lv_if_eq (tgt := 134) hx hb d_Rk_ungiven_127 (by decide) (fun c4 => ?_) (fun c4 => ?_)
      · skip
        refine lv_iload_n hx hb d_Rk_ungiven_134 rfl (lv_at hl 1 rfl) ?_
        refine lv_iload_n hx hb d_Rk_ungiven_135 rfl (lv_at hl 3 rfl) ?_
        refine lv_iload_n hx hb d_Rk_ungiven_136 rfl (lv_at hl 4 rfl) ?_
        refine callQi (va_runS (As := [.int k, .int ua, .int b]) (rest := []) ⟨hx, hb, hml, hown, hts⟩ (c_Rk_value l k ua b s.heap.size) (va_cwS 3 hts (goodS m_9_35 m_9_22 m_0_14 m_9_23) rfl rfl rfl (by decide +kernel) ⟨Nat.le_of_ble_eq_true rfl, Nat.le_of_ble_eq_true rfl⟩) ⟨preP_blind, preP_ok⟩ rfl rfl hl.1 rfl (lv_room (Nat.le_of_ble_eq_true rfl)) d_Rk_ungiven_137 ⟨Nat.zero_le _, Nat.zero_le _⟩) hS hA (fun H locs hS => ?_)
        have hE : res = f_Rk_value k ua b := hq.trans ((if_neg c1).trans ((if_neg c2).trans ((if_pos c3).trans ((if_pos c4).trans rfl))))
        exact retPi (x := f_Rk_value k ua b) hx hb hr hS hE.symm d_Rk_ungiven_140 hlocks
      · skip
        refine lv_iconst (v := (-1)) hx hb d_Rk_ungiven_130 (by decide) ?_
        refine lv_goto (tgt := 140) hx hb d_Rk_ungiven_131 (by decide) ?_
        have hE : res = (-1) := hq.trans ((if_neg c1).trans ((if_neg c2).trans ((if_pos c3).trans ((if_neg c4).trans rfl))))
        exact retPi (x := (-1)) hx hb hr hS hE.symm d_Rk_ungiven_140 hlocks
    by_cases c5 : k = 2
    · skip
      refine lv_tableIn (off := 127) (tgt := 141) hx hb d_Rk_ungiven_14 (by rw [c5]; decide) (by rw [c5]; decide) (by rw [c5]; decide) (by decide) ?_
      refine lv_iconst (v := 1) hx hb d_Rk_ungiven_141 (by decide) ?_
      have hE : res = 1 := hq.trans ((if_neg c1).trans ((if_neg c2).trans ((if_neg c3).trans ((if_pos c5).trans rfl))))
      exact retPi (x := 1) hx hb hr hS hE.symm d_Rk_ungiven_142 hlocks
    by_cases c6 : k = 3
    · skip
      refine lv_tableIn (off := 127) (tgt := 141) hx hb d_Rk_ungiven_14 (by rw [c6]; decide) (by rw [c6]; decide) (by rw [c6]; decide) (by decide) ?_
      refine lv_iconst (v := 1) hx hb d_Rk_ungiven_141 (by decide) ?_
      have hE : res = 1 := hq.trans ((if_neg c1).trans ((if_neg c2).trans ((if_neg c3).trans ((if_neg c5).trans ((if_pos c6).trans rfl)))))
      exact retPi (x := 1) hx hb hr hS hE.symm d_Rk_ungiven_142 hlocks
    by_cases c7 : k = 4
    · skip
      refine lv_tableIn (off := 105) (tgt := 119) hx hb d_Rk_ungiven_14 (by rw [c7]; decide) (by rw [c7]; decide) (by rw [c7]; decide) (by decide) ?_
      refine lv_iload hx hb d_Rk_ungiven_119 (lv_at hl 0 rfl) ?_
      have hE : res = ua ||| ub := hq.trans ((if_neg c1).trans ((if_neg c2).trans ((if_neg c3).trans ((if_neg c5).trans ((if_neg c6).trans ((if_pos c7).trans rfl))))))
      exact retPi (x := ua ||| ub) hx hb hr hS hE.symm d_Rk_ungiven_121 hlocks
    by_cases c8 : k = 5
    · skip
      refine lv_tableIn (off := 108) (tgt := 122) hx hb d_Rk_ungiven_14 (by rw [c8]; decide) (by rw [c8]; decide) (by rw [c8]; decide) (by decide) ?_
      refine lv_iload hx hb d_Rk_ungiven_122 (lv_at hl 5 rfl) ?_
      refine lv_bipush (v := 31) hx hb d_Rk_ungiven_124 (by decide) ?_
      refine lv_iand hx hb d_Rk_ungiven_126 ?_
      refine lv_if_eq (tgt := 134) hx hb d_Rk_ungiven_127 (by decide) (fun c9 => ?_) (fun c9 => ?_)
      · skip
        refine lv_iload_n hx hb d_Rk_ungiven_134 rfl (lv_at hl 1 rfl) ?_
        refine lv_iload_n hx hb d_Rk_ungiven_135 rfl (lv_at hl 3 rfl) ?_
        refine lv_iload_n hx hb d_Rk_ungiven_136 rfl (lv_at hl 4 rfl) ?_
        refine callQi (va_runS (As := [.int k, .int ua, .int b]) (rest := []) ⟨hx, hb, hml, hown, hts⟩ (c_Rk_value l k ua b s.heap.size) (va_cwS 3 hts (goodS m_9_35 m_9_22 m_0_14 m_9_23) rfl rfl rfl (by decide +kernel) ⟨Nat.le_of_ble_eq_true rfl, Nat.le_of_ble_eq_true rfl⟩) ⟨preP_blind, preP_ok⟩ rfl rfl hl.1 rfl (lv_room (Nat.le_of_ble_eq_true rfl)) d_Rk_ungiven_137 ⟨Nat.zero_le _, Nat.zero_le _⟩) hS hA (fun H locs hS => ?_)
        have hE : res = f_Rk_value k ua b := hq.trans ((if_neg c1).trans ((if_neg c2).trans ((if_neg c3).trans ((if_neg c5).trans ((if_neg c6).trans ((if_neg c7).trans ((if_pos c8).trans ((if_pos c9).trans rfl))))))))
        exact retPi (x := f_Rk_value k ua b) hx hb hr hS hE.symm d_Rk_ungiven_140 hlocks
      · skip
        refine lv_iconst (v := (-1)) hx hb d_Rk_ungiven_130 (by decide) ?_
        refine lv_goto (tgt := 140) hx hb d_Rk_ungiven_131 (by decide) ?_
        have hE : res = (-1) := hq.trans ((if_neg c1).trans ((if_neg c2).trans ((if_neg c3).trans ((if_neg c5).trans ((if_neg c6).trans ((if_neg c7).trans ((if_pos c8).trans ((if_neg c9).trans rfl))))))))
        exact retPi (x := (-1)) hx hb hr hS hE.symm d_Rk_ungiven_140 hlocks
    by_cases c10 : k = 6
    · skip
      refine lv_tableIn (off := 89) (tgt := 103) hx hb d_Rk_ungiven_14 (by rw [c10]; decide) (by rw [c10]; decide) (by rw [c10]; decide) (by decide) ?_
      refine lv_iload hx hb d_Rk_ungiven_103 (lv_at hl 0 rfl) ?_
      refine lv_iload_n hx hb d_Rk_ungiven_105 rfl (lv_at hl 2 rfl) ?_
      refine lv_iconst (v := (-1)) hx hb d_Rk_ungiven_106 (by decide) ?_
      refine lv_ixor hx hb d_Rk_ungiven_107 ?_
      refine lv_iload_n hx hb d_Rk_ungiven_108 rfl (lv_at hl 3 rfl) ?_
      refine lv_ior hx hb d_Rk_ungiven_109 ?_
      refine lv_iand hx hb d_Rk_ungiven_110 ?_
      refine lv_iload_n hx hb d_Rk_ungiven_111 rfl (lv_at hl 4 rfl) ?_
      refine lv_iconst (v := (-1)) hx hb d_Rk_ungiven_112 (by decide) ?_
      refine lv_ixor hx hb d_Rk_ungiven_113 ?_
      refine lv_iload hx hb d_Rk_ungiven_114 (lv_at hl 5 rfl) ?_
      refine lv_ior hx hb d_Rk_ungiven_116 ?_
      refine lv_iand hx hb d_Rk_ungiven_117 ?_
      have hE : res = ((ua ||| ub) &&& ((a ^^^ (-1 : Int32)) ||| ua)) &&& ((b ^^^ (-1 : Int32)) ||| ub) := hq.trans ((if_neg c1).trans ((if_neg c2).trans ((if_neg c3).trans ((if_neg c5).trans ((if_neg c6).trans ((if_neg c7).trans ((if_neg c8).trans ((if_pos c10).trans rfl))))))))
      exact retPi (x := ((ua ||| ub) &&& ((a ^^^ (-1 : Int32)) ||| ua)) &&& ((b ^^^ (-1 : Int32)) ||| ub)) hx hb hr hS hE.symm d_Rk_ungiven_118 hlocks
    by_cases c11 : k = 7
    · skip
      refine lv_tableIn (off := 77) (tgt := 91) hx hb d_Rk_ungiven_14 (by rw [c11]; decide) (by rw [c11]; decide) (by rw [c11]; decide) (by decide) ?_
      refine lv_iload hx hb d_Rk_ungiven_91 (lv_at hl 0 rfl) ?_
      refine lv_iload_n hx hb d_Rk_ungiven_93 rfl (lv_at hl 2 rfl) ?_
      refine lv_iload_n hx hb d_Rk_ungiven_94 rfl (lv_at hl 3 rfl) ?_
      refine lv_ior hx hb d_Rk_ungiven_95 ?_
      refine lv_iand hx hb d_Rk_ungiven_96 ?_
      refine lv_iload_n hx hb d_Rk_ungiven_97 rfl (lv_at hl 4 rfl) ?_
      refine lv_iload hx hb d_Rk_ungiven_98 (lv_at hl 5 rfl) ?_
      refine lv_ior hx hb d_Rk_ungiven_100 ?_
      refine lv_iand hx hb d_Rk_ungiven_101 ?_
      have hE : res = ((ua ||| ub) &&& (a ||| ua)) &&& (b ||| ub) := hq.trans ((if_neg c1).trans ((if_neg c2).trans ((if_neg c3).trans ((if_neg c5).trans ((if_neg c6).trans ((if_neg c7).trans ((if_neg c8).trans ((if_neg c10).trans ((if_pos c11).trans rfl)))))))))
      exact retPi (x := ((ua ||| ub) &&& (a ||| ua)) &&& (b ||| ub)) hx hb hr hS hE.symm d_Rk_ungiven_102 hlocks
    by_cases c12 : k = 8
    · skip
      refine lv_tableIn (off := 70) (tgt := 84) hx hb d_Rk_ungiven_14 (by rw [c12]; decide) (by rw [c12]; decide) (by rw [c12]; decide) (by decide) ?_
      refine lv_iload hx hb d_Rk_ungiven_84 (lv_at hl 0 rfl) ?_
      refine lv_iload hx hb d_Rk_ungiven_86 (lv_at hl 0 rfl) ?_
      refine lv_ineg hx hb d_Rk_ungiven_88 ?_
      refine lv_ior hx hb d_Rk_ungiven_89 ?_
      have hE : res = (ua ||| ub) ||| (-(ua ||| ub)) := hq.trans ((if_neg c1).trans ((if_neg c2).trans ((if_neg c3).trans ((if_neg c5).trans ((if_neg c6).trans ((if_neg c7).trans ((if_neg c8).trans ((if_neg c10).trans ((if_neg c11).trans ((if_pos c12).trans rfl))))))))))
      exact retPi (x := (ua ||| ub) ||| (-(ua ||| ub))) hx hb hr hS hE.symm d_Rk_ungiven_90 hlocks
    by_cases c13 : k = 9
    · skip
      refine lv_tableIn (off := 129) (tgt := 143) hx hb d_Rk_ungiven_14 (by rw [c13]; decide) (by rw [c13]; decide) (by rw [c13]; decide) (by decide) ?_
      refine lv_iconst (v := (-1)) hx hb d_Rk_ungiven_143 (by decide) ?_
      have hE : res = (-1) := hq.trans ((if_neg c1).trans ((if_neg c2).trans ((if_neg c3).trans ((if_neg c5).trans ((if_neg c6).trans ((if_neg c7).trans ((if_neg c8).trans ((if_neg c10).trans ((if_neg c11).trans ((if_neg c12).trans ((if_pos c13).trans rfl)))))))))))
      exact retPi (x := (-1)) hx hb hr hS hE.symm d_Rk_ungiven_144 hlocks
    by_cases c14 : k = 10
    · skip
      refine lv_tableIn (off := 129) (tgt := 143) hx hb d_Rk_ungiven_14 (by rw [c14]; decide) (by rw [c14]; decide) (by rw [c14]; decide) (by decide) ?_
      refine lv_iconst (v := (-1)) hx hb d_Rk_ungiven_143 (by decide) ?_
      have hE : res = (-1) := hq.trans ((if_neg c1).trans ((if_neg c2).trans ((if_neg c3).trans ((if_neg c5).trans ((if_neg c6).trans ((if_neg c7).trans ((if_neg c8).trans ((if_neg c10).trans ((if_neg c11).trans ((if_neg c12).trans ((if_neg c13).trans ((if_pos c14).trans rfl))))))))))))
      exact retPi (x := (-1)) hx hb hr hS hE.symm d_Rk_ungiven_144 hlocks
    by_cases c15 : k = 11
    · skip
      refine lv_tableIn (off := 129) (tgt := 143) hx hb d_Rk_ungiven_14 (by rw [c15]; decide) (by rw [c15]; decide) (by rw [c15]; decide) (by decide) ?_
      refine lv_iconst (v := (-1)) hx hb d_Rk_ungiven_143 (by decide) ?_
      have hE : res = (-1) := hq.trans ((if_neg c1).trans ((if_neg c2).trans ((if_neg c3).trans ((if_neg c5).trans ((if_neg c6).trans ((if_neg c7).trans ((if_neg c8).trans ((if_neg c10).trans ((if_neg c11).trans ((if_neg c12).trans ((if_neg c13).trans ((if_neg c14).trans ((if_pos c15).trans rfl)))))))))))))
      exact retPi (x := (-1)) hx hb hr hS hE.symm d_Rk_ungiven_144 hlocks
    by_cases c16 : k = 12
    · skip
      refine lv_tableIn (off := 129) (tgt := 143) hx hb d_Rk_ungiven_14 (by rw [c16]; decide) (by rw [c16]; decide) (by rw [c16]; decide) (by decide) ?_
      refine lv_iconst (v := (-1)) hx hb d_Rk_ungiven_143 (by decide) ?_
      have hE : res = (-1) := hq.trans ((if_neg c1).trans ((if_neg c2).trans ((if_neg c3).trans ((if_neg c5).trans ((if_neg c6).trans ((if_neg c7).trans ((if_neg c8).trans ((if_neg c10).trans ((if_neg c11).trans ((if_neg c12).trans ((if_neg c13).trans ((if_neg c14).trans ((if_neg c15).trans ((if_pos c16).trans rfl))))))))))))))
      exact retPi (x := (-1)) hx hb hr hS hE.symm d_Rk_ungiven_144 hlocks
    by_cases c17 : k = 13
    · skip
      refine lv_tableIn (off := 108) (tgt := 122) hx hb d_Rk_ungiven_14 (by rw [c17]; decide) (by rw [c17]; decide) (by rw [c17]; decide) (by decide) ?_
      refine lv_iload hx hb d_Rk_ungiven_122 (lv_at hl 5 rfl) ?_
      refine lv_bipush (v := 31) hx hb d_Rk_ungiven_124 (by decide) ?_
      refine lv_iand hx hb d_Rk_ungiven_126 ?_
      refine lv_if_eq (tgt := 134) hx hb d_Rk_ungiven_127 (by decide) (fun c18 => ?_) (fun c18 => ?_)
      · skip
        refine lv_iload_n hx hb d_Rk_ungiven_134 rfl (lv_at hl 1 rfl) ?_
        refine lv_iload_n hx hb d_Rk_ungiven_135 rfl (lv_at hl 3 rfl) ?_
        refine lv_iload_n hx hb d_Rk_ungiven_136 rfl (lv_at hl 4 rfl) ?_
        refine callQi (va_runS (As := [.int k, .int ua, .int b]) (rest := []) ⟨hx, hb, hml, hown, hts⟩ (c_Rk_value l k ua b s.heap.size) (va_cwS 3 hts (goodS m_9_35 m_9_22 m_0_14 m_9_23) rfl rfl rfl (by decide +kernel) ⟨Nat.le_of_ble_eq_true rfl, Nat.le_of_ble_eq_true rfl⟩) ⟨preP_blind, preP_ok⟩ rfl rfl hl.1 rfl (lv_room (Nat.le_of_ble_eq_true rfl)) d_Rk_ungiven_137 ⟨Nat.zero_le _, Nat.zero_le _⟩) hS hA (fun H locs hS => ?_)
        have hE : res = f_Rk_value k ua b := hq.trans ((if_neg c1).trans ((if_neg c2).trans ((if_neg c3).trans ((if_neg c5).trans ((if_neg c6).trans ((if_neg c7).trans ((if_neg c8).trans ((if_neg c10).trans ((if_neg c11).trans ((if_neg c12).trans ((if_neg c13).trans ((if_neg c14).trans ((if_neg c15).trans ((if_neg c16).trans ((if_pos c17).trans ((if_pos c18).trans rfl))))))))))))))))
        exact retPi (x := f_Rk_value k ua b) hx hb hr hS hE.symm d_Rk_ungiven_140 hlocks
      · skip
        refine lv_iconst (v := (-1)) hx hb d_Rk_ungiven_130 (by decide) ?_
        refine lv_goto (tgt := 140) hx hb d_Rk_ungiven_131 (by decide) ?_
        have hE : res = (-1) := hq.trans ((if_neg c1).trans ((if_neg c2).trans ((if_neg c3).trans ((if_neg c5).trans ((if_neg c6).trans ((if_neg c7).trans ((if_neg c8).trans ((if_neg c10).trans ((if_neg c11).trans ((if_neg c12).trans ((if_neg c13).trans ((if_neg c14).trans ((if_neg c15).trans ((if_neg c16).trans ((if_pos c17).trans ((if_neg c18).trans rfl))))))))))))))))
        exact retPi (x := (-1)) hx hb hr hS hE.symm d_Rk_ungiven_140 hlocks
    have nc2 := lv_neT c2 (a := 0) (by decide)
    have nc3 := lv_neT c3 (a := 1) (by decide)
    have nc5 := lv_neT c5 (a := 2) (by decide)
    have nc6 := lv_neT c6 (a := 3) (by decide)
    have nc7 := lv_neT c7 (a := 4) (by decide)
    have nc8 := lv_neT c8 (a := 5) (by decide)
    have nc10 := lv_neT c10 (a := 6) (by decide)
    have nc11 := lv_neT c11 (a := 7) (by decide)
    have nc12 := lv_neT c12 (a := 8) (by decide)
    have nc13 := lv_neT c13 (a := 9) (by decide)
    have nc14 := lv_neT c14 (a := 10) (by decide)
    have nc15 := lv_neT c15 (a := 11) (by decide)
    have nc16 := lv_neT c16 (a := 12) (by decide)
    have nc17 := lv_neT c17 (a := 13) (by decide)
    refine lv_tableOut (tgt := 143) hx hb d_Rk_ungiven_14 (by omega) (by decide) ?_
    refine lv_iconst (v := (-1)) hx hb d_Rk_ungiven_143 (by decide) ?_
    have hE : res = (-1) := hq.trans ((if_neg c1).trans ((if_neg c2).trans ((if_neg c3).trans ((if_neg c5).trans ((if_neg c6).trans ((if_neg c7).trans ((if_neg c8).trans ((if_neg c10).trans ((if_neg c11).trans ((if_neg c12).trans ((if_neg c13).trans ((if_neg c14).trans ((if_neg c15).trans ((if_neg c16).trans ((if_neg c17).trans rfl)))))))))))))))
    exact retPi (x := (-1)) hx hb hr hS hE.symm d_Rk_ungiven_144 hlocks
  · skip
    refine lv_iconst (v := 0) hx hb d_Rk_ungiven_11 (by decide) ?_
    have hE : res = 0 := hq.trans ((if_pos c1).trans rfl)
    exact retPi (x := 0) hx hb hr hS hE.symm d_Rk_ungiven_12 hlocks
