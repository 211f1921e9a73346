-- ===== a new array whose class is known
section NWA
variable {p : Program} {l : Launch} {e : Env} {R : Room} {s : State} {m : MethodId} {args : Array Value} {below : List Frame} {meth : Method} {c : Code} {H : Heap} {locs : List Loc} {cells slots : Nat} {Q : State → Prop}
variable {cc : ByteArray} {pc : Nat} {ls : Array Slot} {rest : List Value} {A : Nat → Prop} {H0 : Heap} {D : va_G} {cl : List vw_C} {tys : List (ClassId × FieldType)} {ws : va_W}
theorem newI (hexec : p.tables.exec = Jvm.exec) (hb : c.code = cc) {atype : ArrayType} (harr : (Cond.arrayClass (newarray.typeOf atype)).before args s = true) {ty : FieldType} (hty : newarray.typeOf atype = ty) (hK : va_K D cl tys s) (hP : va_P D cl ws H) (hD : va_D A ws) (hS : va_S A H0 H locs) (hA : ∀ q, H0.size ≤ q → A q) (t0 : Nat) {cI : ClassId} (ht : tys[t0]? = some (cI, ty)) (hpr : ∀ U : State, ∀ cA : ClassId, va_RA U cA ty → U.vm.findClass ("[" ++ ty.toString) = some cA)
    {n : Int32} {N' : Nat} {a0 : vp_A} (ha : ∀ cA : ClassId, vp_cell cA a0 = arrV cA N' (fun _ => defaultValue ty)) (hn : ¬ n < 0) (hN : n.toNatClampNeg = N') (hbytes : N' * componentBytes ty ≤ 536870912) (hcells : cells + 1 ≤ R.cells) (hslots : slots + N' ≤ R.slots) (hdg : decode cc pc = .ok (.newarray atype, 2))
    (kk : ∀ (q : Nat) (H1 : Heap), va_P D cl (ws ++ [(q, .inl (cI, a0))]) H1 → va_D A (ws ++ [(q, .inl (cI, a0))]) → va_S A H0 H1 locs → W p l e R s m args below meth c H1 locs (cells + 1) (slots + N') Q (F0 m (pc + 2) ls (.ref q :: rest))) : W p l e R s m args below meth c H locs cells slots Q (F0 m pc ls (.int n :: rest)) := by
  refine va_newa hexec hb harr hty hK hP hD hS hA ha hn hN hbytes hcells hslots hdg (fun q cA H1 hK1 hP1 hD1 hS1 => ?_)
  have h1 := hpr _ _ (hK.2 t0 _ ht).2
  have h2 := hpr _ _ (hK1.2 tys.length (cA, ty) (by simp)).2
  have h3 : cA = cI := Option.some.inj (h2.symm.trans h1)
  subst h3
  exact kk q H1 hP1 hD1 hS1
end NWA
theorem ra_int : ∀ U : State, ∀ cA : ClassId, va_RA U cA .int → U.vm.findClass ("[" ++ FieldType.int.toString) = some cA := fun _ _ h => h
theorem ra_boo : ∀ U : State, ∀ cA : ClassId, va_RA U cA .boolean → U.vm.findClass ("[" ++ FieldType.boolean.toString) = some cA := fun _ _ h => h
theorem d_Po_init_0 : decode b_Po_init 0 = .ok (.aload_n 0, 1) := by decide +kernel
theorem d_Po_init_1 : decode b_Po_init 1 = .ok (.invokespecial 1, 3) := by decide +kernel
theorem d_Po_init_4 : decode b_Po_init 4 = .ok (.aload_n 0, 1) := by decide +kernel
theorem d_Po_init_5 : decode b_Po_init 5 = .ok (.sipush 1024, 3) := by decide +kernel
theorem d_Po_init_8 : decode b_Po_init 8 = .ok (.newarray .int, 2) := by decide +kernel
theorem d_Po_init_10 : decode b_Po_init 10 = .ok (.putfield 9, 3) := by decide +kernel
theorem d_Po_init_13 : decode b_Po_init 13 = .ok (.aload_n 0, 1) := by decide +kernel
theorem d_Po_init_14 : decode b_Po_init 14 = .ok (.sipush 4096, 3) := by decide +kernel
theorem d_Po_init_17 : decode b_Po_init 17 = .ok (.newarray .int, 2) := by decide +kernel
theorem d_Po_init_19 : decode b_Po_init 19 = .ok (.putfield 13, 3) := by decide +kernel
theorem d_Po_init_22 : decode b_Po_init 22 = .ok (.return_, 1) := by decide +kernel
def wI_Po (cI : ClassId) (q : Nat) (h : Nat → Nat) : va_W := [(q, .inr (7, [.ref (h 0), .int 0, .int 0, .ref (h 1), .int 0])), (h 0, .inl (cI, 1024, .inl (fun _ => 0))), (h 1, .inl (cI, 4096, .inl (fun _ => 0)))]
def w_Po_init : List Cond := .code y_Po_init b_Po_init 1 none :: ALLW
def rm_Po_init : Room := { frames := 40, cells := 2, slots := 5120, locals := 1500 }
set_option maxHeartbeats 400000 in
set_option maxRecDepth 100000 in
theorem c_Po_init (l : Launch) (dC : Nat → ClassId) (dI : Nat → Nat → Nat) (cI : ClassId) (q sz : Nat) : Met l y_Po_init w_Po_init rm_Po_init (va_Pc [.ref q] (fun U => U.heap.size = sz ∧ va_P (dC, dI) classes [(q, .inr (7, [.null, .int 0, .int 0, .null, .int 0]))] U.heap ∧ va_K (dC, dI) classes [(cI, .int)] U ∧ va_D (fun _ => True) ([(q, .inr (7, [.null, .int 0, .int 0, .null, .int 0]))] : va_W))) (va_Qv (fun _ : Nat → Nat => True) (BG (dC, dI) classes [(cI, .int)] (wI_Po cI q) (va_A [(q, .inr (7, [.null, .int 0, .int 0, .null, .int 0]))] sz)) (va_A [(q, .inr (7, [.null, .int 0, .int 0, .null, .int 0]))] sz)) 2 5120 (va_A [(q, .inr (7, [.null, .int 0, .int 0, .null, .int 0]))] sz) := by
  refine Met.ofW (cc := b_Po_init) (maxL := 1) (ret := none) (by decide) rfl ?_
  intro p e s m args below meth c s₁ B hml hv
  obtain ⟨rfl, rfl, hP, hK, hD0⟩ := hv
  have hx := B.exec
  have hb := B.bytes
  have hr := B.returns
  have hts : ∀ w9 ∈ ALLW, w9.before ([.ref q] : List Value).toArray s = true := fun w9 h => atoms_spec (ws := w_Po_init) B.pre w9 (List.mem_cons_of_mem _ h)
  have hown : s.vm.findClass R_Po = some m.cls := findClass_of_methodNamed B.named
  have hlocks := B.notSynchronized
  have hin : meth.name = "<init>" := (name_of_methodNamed B.named B.method).1
  have hD := hD0.self (sz := s.heap.size)
  generalize hAe : va_A ([(q, .inr (7, [.null, .int 0, .int 0, .null, .int 0]))] : va_W) s.heap.size = A at hD ⊢
  have hA : ∀ q : Nat, s.heap.size ≤ q → A q := fun q h => by rw [← hAe]; exact Or.inr h
  have hS : va_S A s.heap s.heap [] := va_S.rf
  have hP : va_P (dC, dI) classes [(q, .inr (7, [.null, .int 0, .int 0, .null, .int 0]))] s.heap := hP
  have hl := lv_entry ([.ref q]) (n := 1) (Nat.le_of_ble_eq_true rfl)
  rw [lg_entry_eq]
  generalize (lg_sl ([.ref q]) ++ List.replicate (1 - (lg_sl ([.ref q])).length) Slot.unset).toArray = ls at hl ⊢
  have hl : lv_has ls 1 [(0, .ref q)] := hl
  refine lv_aload_n hx hb d_Po_init_0 rfl (lv_at hl 0 rfl) ?_
  refine W.objInit hx hb hown (hts _ m_3_30) (hts _ m_0_21) (hts _ m_0_22) rfl (by rw [hml]; exact hl.1) rfl d_Po_init_1 (Nat.le_of_ble_eq_true rfl) (Nat.le_of_ble_eq_true rfl) ?_
  refine W.eq (g2 := F0 m 4 ls []) rfl ?_
  refine lv_aload_n hx hb d_Po_init_4 rfl (lv_at hl 0 rfl) ?_
  refine lv_sipush (v := 1024) hx hb d_Po_init_5 (by decide) ?_
  refine newI (atype := .int) (ty := .int) (a0 := (1024, .inl (fun _ => 0))) (N' := 1024) hx hb (hts _ m_1_12) rfl hK hP hD hS hA 0 rfl ra_int (fun _ => rfl) (by decide) (by decide) (Nat.le_of_ble_eq_true rfl) (Nat.le_of_ble_eq_true rfl) (Nat.le_of_ble_eq_true rfl) d_Po_init_8 (fun q0 H hP hD hS => ?_)
  have hP : va_P (dC, dI) classes [(q, .inr (7, [.null, .int 0, .int 0, .null, .int 0])), (q0, .inl (cI, 1024, .inl (fun _ => 0)))] H := hP
  have hD : va_D A ([(q, .inr (7, [.null, .int 0, .int 0, .null, .int 0])), (q0, .inl (cI, 1024, .inl (fun _ => 0)))] : va_W) := hD
  refine va_putF (D := (dC, dI)) (ci := 7) (v := .ref q0) (ty := .array .int) (C := R_Po) (T := F_Po) (N := 5) hx hb hts in_Po t_Po t_Po_ok n_Po hown hK hP hD hS 0 rfl rfl 0 (by decide) (hts _ m_3_31) (fun _ h9 => h9) rfl hin rfl (by decide +kernel) rfl rfl (Nat.le_of_ble_eq_true rfl) d_Po_init_10 (fun H locs hP hD hS => ?_)
  have hP : va_P (dC, dI) classes [(q, .inr (7, [.ref q0, .int 0, .int 0, .null, .int 0])), (q0, .inl (cI, 1024, .inl (fun _ => 0)))] H := hP
  have hD : va_D A ([(q, .inr (7, [.ref q0, .int 0, .int 0, .null, .int 0])), (q0, .inl (cI, 1024, .inl (fun _ => 0)))] : va_W) := hD
  refine lv_aload_n hx hb d_Po_init_13 rfl (lv_at hl 0 rfl) ?_
  refine lv_sipush (v := 4096) hx hb d_Po_init_14 (by decide) ?_
  refine newI (atype := .int) (ty := .int) (a0 := (4096, .inl (fun _ => 0))) (N' := 4096) hx hb (hts _ m_1_12) rfl hK hP hD hS hA 0 rfl ra_int (fun _ => rfl) (by decide) (by decide) (Nat.le_of_ble_eq_true rfl) (Nat.le_of_ble_eq_true rfl) (Nat.le_of_ble_eq_true rfl) d_Po_init_17 (fun q1 H hP hD hS => ?_)
  have hP : va_P (dC, dI) classes [(q, .inr (7, [.ref q0, .int 0, .int 0, .null, .int 0])), (q0, .inl (cI, 1024, .inl (fun _ => 0))), (q1, .inl (cI, 4096, .inl (fun _ => 0)))] H := hP
  have hD : va_D A ([(q, .inr (7, [.ref q0, .int 0, .int 0, .null, .int 0])), (q0, .inl (cI, 1024, .inl (fun _ => 0))), (q1, .inl (cI, 4096, .inl (fun _ => 0)))] : va_W) := hD
  refine va_putF (D := (dC, dI)) (ci := 7) (v := .ref q1) (ty := .array .int) (C := R_Po) (T := F_Po) (N := 5) hx hb hts in_Po t_Po t_Po_ok n_Po hown hK hP hD hS 0 rfl rfl 3 (by decide) (hts _ m_3_35) (fun _ h9 => h9) rfl hin rfl (by decide +kernel) rfl rfl (Nat.le_of_ble_eq_true rfl) d_Po_init_19 (fun H locs hP hD hS => ?_)
  have hP : va_P (dC, dI) classes [(q, .inr (7, [.ref q0, .int 0, .int 0, .ref q1, .int 0])), (q0, .inl (cI, 1024, .inl (fun _ => 0))), (q1, .inl (cI, 4096, .inl (fun _ => 0)))] H := hP
  have hD : va_D A ([(q, .inr (7, [.ref q0, .int 0, .int 0, .ref q1, .int 0])), (q0, .inl (cI, 1024, .inl (fun _ => 0))), (q1, .inl (cI, 4096, .inl (fun _ => 0)))] : va_W) := hD
  refine W.widen (k := 2) (n := 5120) (Nat.le_of_ble_eq_true rfl) (Nat.le_of_ble_eq_true rfl) ?_
  exact W.vret hx hb hr (fun t ht hW => ⟨⟨(fun k => match k with | 0 => q0 | _ => q1), rfl, trivial, by rw [ht]; exact hP, va_K.moved hW.alike hK, hD⟩, hS.F ht⟩) hS.2.2 d_Po_init_22 hlocks
theorem d_Rp_init_0 : decode b_Rp_init 0 = .ok (.aload_n 0, 1) := by decide +kernel
theorem d_Rp_init_1 : decode b_Rp_init 1 = .ok (.invokespecial 1, 3) := by decide +kernel
theorem d_Rp_init_4 : decode b_Rp_init 4 = .ok (.aload_n 0, 1) := by decide +kernel
theorem d_Rp_init_5 : decode b_Rp_init 5 = .ok (.sipush 420, 3) := by decide +kernel
theorem d_Rp_init_8 : decode b_Rp_init 8 = .ok (.newarray .int, 2) := by decide +kernel
theorem d_Rp_init_10 : decode b_Rp_init 10 = .ok (.putfield 9, 3) := by decide +kernel
theorem d_Rp_init_13 : decode b_Rp_init 13 = .ok (.aload_n 0, 1) := by decide +kernel
theorem d_Rp_init_14 : decode b_Rp_init 14 = .ok (.bipush 32, 2) := by decide +kernel
theorem d_Rp_init_16 : decode b_Rp_init 16 = .ok (.newarray .int, 2) := by decide +kernel
theorem d_Rp_init_18 : decode b_Rp_init 18 = .ok (.putfield 13, 3) := by decide +kernel
theorem d_Rp_init_21 : decode b_Rp_init 21 = .ok (.return_, 1) := by decide +kernel
def wI_Rp (cI : ClassId) (q : Nat) (h : Nat → Nat) : va_W := [(q, .inr (4, [.ref (h 0), .int 0, .int 0, .ref (h 1), .int 0, .int 0])), (h 0, .inl (cI, 420, .inl (fun _ => 0))), (h 1, .inl (cI, 32, .inl (fun _ => 0)))]
def w_Rp_init : List Cond := .code y_Rp_init b_Rp_init 1 none :: ALLW
def rm_Rp_init : Room := { frames := 40, cells := 2, slots := 452, locals := 1500 }
set_option maxHeartbeats 400000 in
set_option maxRecDepth 100000 in
theorem c_Rp_init (l : Launch) (dC : Nat → ClassId) (dI : Nat → Nat → Nat) (cI : ClassId) (q sz : Nat) : Met l y_Rp_init w_Rp_init rm_Rp_init (va_Pc [.ref q] (fun U => U.heap.size = sz ∧ va_P (dC, dI) classes [(q, .inr (4, [.null, .int 0, .int 0, .null, .int 0, .int 0]))] U.heap ∧ va_K (dC, dI) classes [(cI, .int)] U ∧ va_D (fun _ => True) ([(q, .inr (4, [.null, .int 0, .int 0, .null, .int 0, .int 0]))] : va_W))) (va_Qv (fun _ : Nat → Nat => True) (BG (dC, dI) classes [(cI, .int)] (wI_Rp cI q) (va_A [(q, .inr (4, [.null, .int 0, .int 0, .null, .int 0, .int 0]))] sz)) (va_A [(q, .inr (4, [.null, .int 0, .int 0, .null, .int 0, .int 0]))] sz)) 2 452 (va_A [(q, .inr (4, [.null, .int 0, .int 0, .null, .int 0, .int 0]))] sz) := by
  refine Met.ofW (cc := b_Rp_init) (maxL := 1) (ret := none) (by decide) rfl ?_
  intro p e s m args below meth c s₁ B hml hv
  obtain ⟨rfl, rfl, hP, hK, hD0⟩ := hv
  have hx := B.exec
  have hb := B.bytes
  have hr := B.returns
  have hts : ∀ w9 ∈ ALLW, w9.before ([.ref q] : List Value).toArray s = true := fun w9 h => atoms_spec (ws := w_Rp_init) B.pre w9 (List.mem_cons_of_mem _ h)
  have hown : s.vm.findClass R_Rp = some m.cls := findClass_of_methodNamed B.named
  have hlocks := B.notSynchronized
  have hin : meth.name = "<init>" := (name_of_methodNamed B.named B.method).1
  have hD := hD0.self (sz := s.heap.size)
  generalize hAe : va_A ([(q, .inr (4, [.null, .int 0, .int 0, .null, .int 0, .int 0]))] : va_W) s.heap.size = A at hD ⊢
  have hA : ∀ q : Nat, s.heap.size ≤ q → A q := fun q h => by rw [← hAe]; exact Or.inr h
  have hS : va_S A s.heap s.heap [] := va_S.rf
  have hP : va_P (dC, dI) classes [(q, .inr (4, [.null, .int 0, .int 0, .null, .int 0, .int 0]))] s.heap := hP
  have hl := lv_entry ([.ref q]) (n := 1) (Nat.le_of_ble_eq_true rfl)
  rw [lg_entry_eq]
  generalize (lg_sl ([.ref q]) ++ List.replicate (1 - (lg_sl ([.ref q])).length) Slot.unset).toArray = ls at hl ⊢
  have hl : lv_has ls 1 [(0, .ref q)] := hl
  refine lv_aload_n hx hb d_Rp_init_0 rfl (lv_at hl 0 rfl) ?_
  refine W.objInit hx hb hown (hts _ m_2_9) (hts _ m_0_21) (hts _ m_0_22) rfl (by rw [hml]; exact hl.1) rfl d_Rp_init_1 (Nat.le_of_ble_eq_true rfl) (Nat.le_of_ble_eq_true rfl) ?_
  refine W.eq (g2 := F0 m 4 ls []) rfl ?_
  refine lv_aload_n hx hb d_Rp_init_4 rfl (lv_at hl 0 rfl) ?_
  refine lv_sipush (v := 420) hx hb d_Rp_init_5 (by decide) ?_
  refine newI (atype := .int) (ty := .int) (a0 := (420, .inl (fun _ => 0))) (N' := 420) hx hb (hts _ m_1_12) rfl hK hP hD hS hA 0 rfl ra_int (fun _ => rfl) (by decide) (by decide) (Nat.le_of_ble_eq_true rfl) (Nat.le_of_ble_eq_true rfl) (Nat.le_of_ble_eq_true rfl) d_Rp_init_8 (fun q0 H hP hD hS => ?_)
  have hP : va_P (dC, dI) classes [(q, .inr (4, [.null, .int 0, .int 0, .null, .int 0, .int 0])), (q0, .inl (cI, 420, .inl (fun _ => 0)))] H := hP
  have hD : va_D A ([(q, .inr (4, [.null, .int 0, .int 0, .null, .int 0, .int 0])), (q0, .inl (cI, 420, .inl (fun _ => 0)))] : va_W) := hD
  refine va_putF (D := (dC, dI)) (ci := 4) (v := .ref q0) (ty := .array .int) (C := R_Rp) (T := F_Rp) (N := 6) hx hb hts in_Rp t_Rp t_Rp_ok n_Rp hown hK hP hD hS 0 rfl rfl 0 (by decide) (hts _ m_2_10) (fun _ h9 => h9) rfl hin rfl (by decide +kernel) rfl rfl (Nat.le_of_ble_eq_true rfl) d_Rp_init_10 (fun H locs hP hD hS => ?_)
  have hP : va_P (dC, dI) classes [(q, .inr (4, [.ref q0, .int 0, .int 0, .null, .int 0, .int 0])), (q0, .inl (cI, 420, .inl (fun _ => 0)))] H := hP
  have hD : va_D A ([(q, .inr (4, [.ref q0, .int 0, .int 0, .null, .int 0, .int 0])), (q0, .inl (cI, 420, .inl (fun _ => 0)))] : va_W) := hD
  refine lv_aload_n hx hb d_Rp_init_13 rfl (lv_at hl 0 rfl) ?_
  refine lv_bipush (v := 32) hx hb d_Rp_init_14 (by decide) ?_
  refine newI (atype := .int) (ty := .int) (a0 := (32, .inl (fun _ => 0))) (N' := 32) hx hb (hts _ m_1_12) rfl hK hP hD hS hA 0 rfl ra_int (fun _ => rfl) (by decide) (by decide) (Nat.le_of_ble_eq_true rfl) (Nat.le_of_ble_eq_true rfl) (Nat.le_of_ble_eq_true rfl) d_Rp_init_16 (fun q1 H hP hD hS => ?_)
  have hP : va_P (dC, dI) classes [(q, .inr (4, [.ref q0, .int 0, .int 0, .null, .int 0, .int 0])), (q0, .inl (cI, 420, .inl (fun _ => 0))), (q1, .inl (cI, 32, .inl (fun _ => 0)))] H := hP
  have hD : va_D A ([(q, .inr (4, [.ref q0, .int 0, .int 0, .null, .int 0, .int 0])), (q0, .inl (cI, 420, .inl (fun _ => 0))), (q1, .inl (cI, 32, .inl (fun _ => 0)))] : va_W) := hD
  refine va_putF (D := (dC, dI)) (ci := 4) (v := .ref q1) (ty := .array .int) (C := R_Rp) (T := F_Rp) (N := 6) hx hb hts in_Rp t_Rp t_Rp_ok n_Rp hown hK hP hD hS 0 rfl rfl 3 (by decide) (hts _ m_2_16) (fun _ h9 => h9) rfl hin rfl (by decide +kernel) rfl rfl (Nat.le_of_ble_eq_true rfl) d_Rp_init_18 (fun H locs hP hD hS => ?_)
  have hP : va_P (dC, dI) classes [(q, .inr (4, [.ref q0, .int 0, .int 0, .ref q1, .int 0, .int 0])), (q0, .inl (cI, 420, .inl (fun _ => 0))), (q1, .inl (cI, 32, .inl (fun _ => 0)))] H := hP
  have hD : va_D A ([(q, .inr (4, [.ref q0, .int 0, .int 0, .ref q1, .int 0, .int 0])), (q0, .inl (cI, 420, .inl (fun _ => 0))), (q1, .inl (cI, 32, .inl (fun _ => 0)))] : va_W) := hD
  refine W.widen (k := 2) (n := 452) (Nat.le_of_ble_eq_true rfl) (Nat.le_of_ble_eq_true rfl) ?_
  exact W.vret hx hb hr (fun t ht hW => ⟨⟨(fun k => match k with | 0 => q0 | _ => q1), rfl, trivial, by rw [ht]; exact hP, va_K.moved hW.alike hK, hD⟩, hS.F ht⟩) hS.2.2 d_Rp_init_21 hlocks
theorem d_He_init_0 : decode b_He_init 0 = .ok (.aload_n 0, 1) := by decide +kernel
theorem d_He_init_1 : decode b_He_init 1 = .ok (.invokespecial 5, 3) := by decide +kernel
theorem d_He_init_4 : decode b_He_init 4 = .ok (.aload_n 0, 1) := by decide +kernel
theorem d_He_init_5 : decode b_He_init 5 = .ok (.sipush 1536, 3) := by decide +kernel
theorem d_He_init_8 : decode b_He_init 8 = .ok (.newarray .int, 2) := by decide +kernel
theorem d_He_init_10 : decode b_He_init 10 = .ok (.putfield 11, 3) := by decide +kernel
theorem d_He_init_13 : decode b_He_init 13 = .ok (.aload_n 0, 1) := by decide +kernel
theorem d_He_init_14 : decode b_He_init 14 = .ok (.sipush 1536, 3) := by decide +kernel
theorem d_He_init_17 : decode b_He_init 17 = .ok (.newarray .int, 2) := by decide +kernel
theorem d_He_init_19 : decode b_He_init 19 = .ok (.putfield 15, 3) := by decide +kernel
theorem d_He_init_22 : decode b_He_init 22 = .ok (.aload_n 0, 1) := by decide +kernel
theorem d_He_init_23 : decode b_He_init 23 = .ok (.sipush 1536, 3) := by decide +kernel
theorem d_He_init_26 : decode b_He_init 26 = .ok (.newarray .int, 2) := by decide +kernel
theorem d_He_init_28 : decode b_He_init 28 = .ok (.putfield 18, 3) := by decide +kernel
theorem d_He_init_31 : decode b_He_init 31 = .ok (.aload_n 0, 1) := by decide +kernel
theorem d_He_init_32 : decode b_He_init 32 = .ok (.sipush 1536, 3) := by decide +kernel
theorem d_He_init_35 : decode b_He_init 35 = .ok (.newarray .int, 2) := by decide +kernel
theorem d_He_init_37 : decode b_He_init 37 = .ok (.putfield 21, 3) := by decide +kernel
theorem d_He_init_40 : decode b_He_init 40 = .ok (.aload_n 0, 1) := by decide +kernel
theorem d_He_init_41 : decode b_He_init 41 = .ok (.sipush 1536, 3) := by decide +kernel
theorem d_He_init_44 : decode b_He_init 44 = .ok (.newarray .int, 2) := by decide +kernel
theorem d_He_init_46 : decode b_He_init 46 = .ok (.putfield 24, 3) := by decide +kernel
theorem d_He_init_49 : decode b_He_init 49 = .ok (.aload_n 0, 1) := by decide +kernel
theorem d_He_init_50 : decode b_He_init 50 = .ok (.sipush 1536, 3) := by decide +kernel
theorem d_He_init_53 : decode b_He_init 53 = .ok (.newarray .int, 2) := by decide +kernel
theorem d_He_init_55 : decode b_He_init 55 = .ok (.putfield 27, 3) := by decide +kernel
theorem d_He_init_58 : decode b_He_init 58 = .ok (.return_, 1) := by decide +kernel
def wI_He (cI : ClassId) (q : Nat) (h : Nat → Nat) : va_W := [(q, .inr (6, [.ref (h 0), .ref (h 1), .ref (h 2), .ref (h 3), .int 0, .int 0, .int 0, .int 0, .int 0, .ref (h 4), .ref (h 5), .int 0])), (h 0, .inl (cI, 1536, .inl (fun _ => 0))), (h 1, .inl (cI, 1536, .inl (fun _ => 0))), (h 2, .inl (cI, 1536, .inl (fun _ => 0))), (h 3, .inl (cI, 1536, .inl (fun _ => 0))), (h 4, .inl (cI, 1536, .inl (fun _ => 0))), (h 5, .inl (cI, 1536, .inl (fun _ => 0)))]
def w_He_init : List Cond := .code y_He_init b_He_init 1 none :: ALLW
def rm_He_init : Room := { frames := 40, cells := 6, slots := 9216, locals := 1500 }
set_option maxHeartbeats 400000 in
set_option maxRecDepth 100000 in
theorem c_He_init (l : Launch) (dC : Nat → ClassId) (dI : Nat → Nat → Nat) (cI : ClassId) (q sz : Nat) : Met l y_He_init w_He_init rm_He_init (va_Pc [.ref q] (fun U => U.heap.size = sz ∧ va_P (dC, dI) classes [(q, .inr (6, [.null, .null, .null, .null, .int 0, .int 0, .int 0, .int 0, .int 0, .null, .null, .int 0]))] U.heap ∧ va_K (dC, dI) classes [(cI, .int)] U ∧ va_D (fun _ => True) ([(q, .inr (6, [.null, .null, .null, .null, .int 0, .int 0, .int 0, .int 0, .int 0, .null, .null, .int 0]))] : va_W))) (va_Qv (fun _ : Nat → Nat => True) (BG (dC, dI) classes [(cI, .int)] (wI_He cI q) (va_A [(q, .inr (6, [.null, .null, .null, .null, .int 0, .int 0, .int 0, .int 0, .int 0, .null, .null, .int 0]))] sz)) (va_A [(q, .inr (6, [.null, .null, .null, .null, .int 0, .int 0, .int 0, .int 0, .int 0, .null, .null, .int 0]))] sz)) 6 9216 (va_A [(q, .inr (6, [.null, .null, .null, .null, .int 0, .int 0, .int 0, .int 0, .int 0, .null, .null, .int 0]))] sz) := by
  refine Met.ofW (cc := b_He_init) (maxL := 1) (ret := none) (by decide) rfl ?_
  intro p e s m args below meth c s₁ B hml hv
  obtain ⟨rfl, rfl, hP, hK, hD0⟩ := hv
  have hx := B.exec
  have hb := B.bytes
  have hr := B.returns
  have hts : ∀ w9 ∈ ALLW, w9.before ([.ref q] : List Value).toArray s = true := fun w9 h => atoms_spec (ws := w_He_init) B.pre w9 (List.mem_cons_of_mem _ h)
  have hown : s.vm.findClass R_He = some m.cls := findClass_of_methodNamed B.named
  have hlocks := B.notSynchronized
  have hin : meth.name = "<init>" := (name_of_methodNamed B.named B.method).1
  have hD := hD0.self (sz := s.heap.size)
  generalize hAe : va_A ([(q, .inr (6, [.null, .null, .null, .null, .int 0, .int 0, .int 0, .int 0, .int 0, .null, .null, .int 0]))] : va_W) s.heap.size = A at hD ⊢
  have hA : ∀ q : Nat, s.heap.size ≤ q → A q := fun q h => by rw [← hAe]; exact Or.inr h
  have hS : va_S A s.heap s.heap [] := va_S.rf
  have hP : va_P (dC, dI) classes [(q, .inr (6, [.null, .null, .null, .null, .int 0, .int 0, .int 0, .int 0, .int 0, .null, .null, .int 0]))] s.heap := hP
  have hl := lv_entry ([.ref q]) (n := 1) (Nat.le_of_ble_eq_true rfl)
  rw [lg_entry_eq]
  generalize (lg_sl ([.ref q]) ++ List.replicate (1 - (lg_sl ([.ref q])).length) Slot.unset).toArray = ls at hl ⊢
  have hl : lv_has ls 1 [(0, .ref q)] := hl
  refine lv_aload_n hx hb d_He_init_0 rfl (lv_at hl 0 rfl) ?_
  refine W.objInit hx hb hown (hts _ m_2_35) (hts _ m_0_21) (hts _ m_0_22) rfl (by rw [hml]; exact hl.1) rfl d_He_init_1 (Nat.le_of_ble_eq_true rfl) (Nat.le_of_ble_eq_true rfl) ?_
  refine W.eq (g2 := F0 m 4 ls []) rfl ?_
  refine lv_aload_n hx hb d_He_init_4 rfl (lv_at hl 0 rfl) ?_
  refine lv_sipush (v := 1536) hx hb d_He_init_5 (by decide) ?_
  refine newI (atype := .int) (ty := .int) (a0 := (1536, .inl (fun _ => 0))) (N' := 1536) hx hb (hts _ m_1_12) rfl hK hP hD hS hA 0 rfl ra_int (fun _ => rfl) (by decide) (by decide) (Nat.le_of_ble_eq_true rfl) (Nat.le_of_ble_eq_true rfl) (Nat.le_of_ble_eq_true rfl) d_He_init_8 (fun q0 H hP hD hS => ?_)
  have hP : va_P (dC, dI) classes [(q, .inr (6, [.null, .null, .null, .null, .int 0, .int 0, .int 0, .int 0, .int 0, .null, .null, .int 0])), (q0, .inl (cI, 1536, .inl (fun _ => 0)))] H := hP
  have hD : va_D A ([(q, .inr (6, [.null, .null, .null, .null, .int 0, .int 0, .int 0, .int 0, .int 0, .null, .null, .int 0])), (q0, .inl (cI, 1536, .inl (fun _ => 0)))] : va_W) := hD
  refine va_putF (D := (dC, dI)) (ci := 6) (v := .ref q0) (ty := .array .int) (C := R_He) (T := F_He) (N := 12) hx hb hts in_He t_He t_He_ok n_He hown hK hP hD hS 0 rfl rfl 0 (by decide) (hts _ m_2_36) (fun _ h9 => h9) rfl hin rfl (by decide +kernel) rfl rfl (Nat.le_of_ble_eq_true rfl) d_He_init_10 (fun H locs hP hD hS => ?_)
  have hP : va_P (dC, dI) classes [(q, .inr (6, [.ref q0, .null, .null, .null, .int 0, .int 0, .int 0, .int 0, .int 0, .null, .null, .int 0])), (q0, .inl (cI, 1536, .inl (fun _ => 0)))] H := hP
  have hD : va_D A ([(q, .inr (6, [.ref q0, .null, .null, .null, .int 0, .int 0, .int 0, .int 0, .int 0, .null, .null, .int 0])), (q0, .inl (cI, 1536, .inl (fun _ => 0)))] : va_W) := hD
  refine lv_aload_n hx hb d_He_init_13 rfl (lv_at hl 0 rfl) ?_
  refine lv_sipush (v := 1536) hx hb d_He_init_14 (by decide) ?_
  refine newI (atype := .int) (ty := .int) (a0 := (1536, .inl (fun _ => 0))) (N' := 1536) hx hb (hts _ m_1_12) rfl hK hP hD hS hA 0 rfl ra_int (fun _ => rfl) (by decide) (by decide) (Nat.le_of_ble_eq_true rfl) (Nat.le_of_ble_eq_true rfl) (Nat.le_of_ble_eq_true rfl) d_He_init_17 (fun q1 H hP hD hS => ?_)
  have hP : va_P (dC, dI) classes [(q, .inr (6, [.ref q0, .null, .null, .null, .int 0, .int 0, .int 0, .int 0, .int 0, .null, .null, .int 0])), (q0, .inl (cI, 1536, .inl (fun _ => 0))), (q1, .inl (cI, 1536, .inl (fun _ => 0)))] H := hP
  have hD : va_D A ([(q, .inr (6, [.ref q0, .null, .null, .null, .int 0, .int 0, .int 0, .int 0, .int 0, .null, .null, .int 0])), (q0, .inl (cI, 1536, .inl (fun _ => 0))), (q1, .inl (cI, 1536, .inl (fun _ => 0)))] : va_W) := hD
  refine va_putF (D := (dC, dI)) (ci := 6) (v := .ref q1) (ty := .array .int) (C := R_He) (T := F_He) (N := 12) hx hb hts in_He t_He t_He_ok n_He hown hK hP hD hS 0 rfl rfl 1 (by decide) (hts _ m_2_37) (fun _ h9 => h9) rfl hin rfl (by decide +kernel) rfl rfl (Nat.le_of_ble_eq_true rfl) d_He_init_19 (fun H locs hP hD hS => ?_)
  have hP : va_P (dC, dI) classes [(q, .inr (6, [.ref q0, .ref q1, .null, .null, .int 0, .int 0, .int 0, .int 0, .int 0, .null, .null, .int 0])), (q0, .inl (cI, 1536, .inl (fun _ => 0))), (q1, .inl (cI, 1536, .inl (fun _ => 0)))] H := hP
  have hD : va_D A ([(q, .inr (6, [.ref q0, .ref q1, .null, .null, .int 0, .int 0, .int 0, .int 0, .int 0, .null, .null, .int 0])), (q0, .inl (cI, 1536, .inl (fun _ => 0))), (q1, .inl (cI, 1536, .inl (fun _ => 0)))] : va_W) := hD
  refine lv_aload_n hx hb d_He_init_22 rfl (lv_at hl 0 rfl) ?_
  refine lv_sipush (v := 1536) hx hb d_He_init_23 (by decide) ?_
  refine newI (atype := .int) (ty := .int) (a0 := (1536, .inl (fun _ => 0))) (N' := 1536) hx hb (hts _ m_1_12) rfl hK hP hD hS hA 0 rfl ra_int (fun _ => rfl) (by decide) (by decide) (Nat.le_of_ble_eq_true rfl) (Nat.le_of_ble_eq_true rfl) (Nat.le_of_ble_eq_true rfl) d_He_init_26 (fun q2 H hP hD hS => ?_)
  have hP : va_P (dC, dI) classes [(q, .inr (6, [.ref q0, .ref q1, .null, .null, .int 0, .int 0, .int 0, .int 0, .int 0, .null, .null, .int 0])), (q0, .inl (cI, 1536, .inl (fun _ => 0))), (q1, .inl (cI, 1536, .inl (fun _ => 0))), (q2, .inl (cI, 1536, .inl (fun _ => 0)))] H := hP
  have hD : va_D A ([(q, .inr (6, [.ref q0, .ref q1, .null, .null, .int 0, .int 0, .int 0, .int 0, .int 0, .null, .null, .int 0])), (q0, .inl (cI, 1536, .inl (fun _ => 0))), (q1, .inl (cI, 1536, .inl (fun _ => 0))), (q2, .inl (cI, 1536, .inl (fun _ => 0)))] : va_W) := hD
  refine va_putF (D := (dC, dI)) (ci := 6) (v := .ref q2) (ty := .array .int) (C := R_He) (T := F_He) (N := 12) hx hb hts in_He t_He t_He_ok n_He hown hK hP hD hS 0 rfl rfl 2 (by decide) (hts _ m_2_38) (fun _ h9 => h9) rfl hin rfl (by decide +kernel) rfl rfl (Nat.le_of_ble_eq_true rfl) d_He_init_28 (fun H locs hP hD hS => ?_)
  have hP : va_P (dC, dI) classes [(q, .inr (6, [.ref q0, .ref q1, .ref q2, .null, .int 0, .int 0, .int 0, .int 0, .int 0, .null, .null, .int 0])), (q0, .inl (cI, 1536, .inl (fun _ => 0))), (q1, .inl (cI, 1536, .inl (fun _ => 0))), (q2, .inl (cI, 1536, .inl (fun _ => 0)))] H := hP
  have hD : va_D A ([(q, .inr (6, [.ref q0, .ref q1, .ref q2, .null, .int 0, .int 0, .int 0, .int 0, .int 0, .null, .null, .int 0])), (q0, .inl (cI, 1536, .inl (fun _ => 0))), (q1, .inl (cI, 1536, .inl (fun _ => 0))), (q2, .inl (cI, 1536, .inl (fun _ => 0)))] : va_W) := hD
  refine lv_aload_n hx hb d_He_init_31 rfl (lv_at hl 0 rfl) ?_
  refine lv_sipush (v := 1536) hx hb d_He_init_32 (by decide) ?_
  refine newI (atype := .int) (ty := .int) (a0 := (1536, .inl (fun _ => 0))) (N' := 1536) hx hb (hts _ m_1_12) rfl hK hP hD hS hA 0 rfl ra_int (fun _ => rfl) (by decide) (by decide) (Nat.le_of_ble_eq_true rfl) (Nat.le_of_ble_eq_true rfl) (Nat.le_of_ble_eq_true rfl) d_He_init_35 (fun q3 H hP hD hS => ?_)
  have hP : va_P (dC, dI) classes [(q, .inr (6, [.ref q0, .ref q1, .ref q2, .null, .int 0, .int 0, .int 0, .int 0, .int 0, .null, .null, .int 0])), (q0, .inl (cI, 1536, .inl (fun _ => 0))), (q1, .inl (cI, 1536, .inl (fun _ => 0))), (q2, .inl (cI, 1536, .inl (fun _ => 0))), (q3, .inl (cI, 1536, .inl (fun _ => 0)))] H := hP
  have hD : va_D A ([(q, .inr (6, [.ref q0, .ref q1, .ref q2, .null, .int 0, .int 0, .int 0, .int 0, .int 0, .null, .null, .int 0])), (q0, .inl (cI, 1536, .inl (fun _ => 0))), (q1, .inl (cI, 1536, .inl (fun _ => 0))), (q2, .inl (cI, 1536, .inl (fun _ => 0))), (q3, .inl (cI, 1536, .inl (fun _ => 0)))] : va_W) := hD
  refine va_putF (D := (dC, dI)) (ci := 6) (v := .ref q3) (ty := .array .int) (C := R_He) (T := F_He) (N := 12) hx hb hts in_He t_He t_He_ok n_He hown hK hP hD hS 0 rfl rfl 3 (by decide) (hts _ m_2_39) (fun _ h9 => h9) rfl hin rfl (by decide +kernel) rfl rfl (Nat.le_of_ble_eq_true rfl) d_He_init_37 (fun H locs hP hD hS => ?_)
  have hP : va_P (dC, dI) classes [(q, .inr (6, [.ref q0, .ref q1, .ref q2, .ref q3, .int 0, .int 0, .int 0, .int 0, .int 0, .null, .null, .int 0])), (q0, .inl (cI, 1536, .inl (fun _ => 0))), (q1, .inl (cI, 1536, .inl (fun _ => 0))), (q2, .inl (cI, 1536, .inl (fun _ => 0))), (q3, .inl (cI, 1536, .inl (fun _ => 0)))] H := hP
  have hD : va_D A ([(q, .inr (6, [.ref q0, .ref q1, .ref q2, .ref q3, .int 0, .int 0, .int 0, .int 0, .int 0, .null, .null, .int 0])), (q0, .inl (cI, 1536, .inl (fun _ => 0))), (q1, .inl (cI, 1536, .inl (fun _ => 0))), (q2, .inl (cI, 1536, .inl (fun _ => 0))), (q3, .inl (cI, 1536, .inl (fun _ => 0)))] : va_W) := hD
  refine lv_aload_n hx hb d_He_init_40 rfl (lv_at hl 0 rfl) ?_
  refine lv_sipush (v := 1536) hx hb d_He_init_41 (by decide) ?_
  refine newI (atype := .int) (ty := .int) (a0 := (1536, .inl (fun _ => 0))) (N' := 1536) hx hb (hts _ m_1_12) rfl hK hP hD hS hA 0 rfl ra_int (fun _ => rfl) (by decide) (by decide) (Nat.le_of_ble_eq_true rfl) (Nat.le_of_ble_eq_true rfl) (Nat.le_of_ble_eq_true rfl) d_He_init_44 (fun q4 H hP hD hS => ?_)
  have hP : va_P (dC, dI) classes [(q, .inr (6, [.ref q0, .ref q1, .ref q2, .ref q3, .int 0, .int 0, .int 0, .int 0, .int 0, .null, .null, .int 0])), (q0, .inl (cI, 1536, .inl (fun _ => 0))), (q1, .inl (cI, 1536, .inl (fun _ => 0))), (q2, .inl (cI, 1536, .inl (fun _ => 0))), (q3, .inl (cI, 1536, .inl (fun _ => 0))), (q4, .inl (cI, 1536, .inl (fun _ => 0)))] H := hP
  have hD : va_D A ([(q, .inr (6, [.ref q0, .ref q1, .ref q2, .ref q3, .int 0, .int 0, .int 0, .int 0, .int 0, .null, .null, .int 0])), (q0, .inl (cI, 1536, .inl (fun _ => 0))), (q1, .inl (cI, 1536, .inl (fun _ => 0))), (q2, .inl (cI, 1536, .inl (fun _ => 0))), (q3, .inl (cI, 1536, .inl (fun _ => 0))), (q4, .inl (cI, 1536, .inl (fun _ => 0)))] : va_W) := hD
  refine va_putF (D := (dC, dI)) (ci := 6) (v := .ref q4) (ty := .array .int) (C := R_He) (T := F_He) (N := 12) hx hb hts in_He t_He t_He_ok n_He hown hK hP hD hS 0 rfl rfl 9 (by decide) (hts _ m_3_9) (fun _ h9 => h9) rfl hin rfl (by decide +kernel) rfl rfl (Nat.le_of_ble_eq_true rfl) d_He_init_46 (fun H locs hP hD hS => ?_)
  have hP : va_P (dC, dI) classes [(q, .inr (6, [.ref q0, .ref q1, .ref q2, .ref q3, .int 0, .int 0, .int 0, .int 0, .int 0, .ref q4, .null, .int 0])), (q0, .inl (cI, 1536, .inl (fun _ => 0))), (q1, .inl (cI, 1536, .inl (fun _ => 0))), (q2, .inl (cI, 1536, .inl (fun _ => 0))), (q3, .inl (cI, 1536, .inl (fun _ => 0))), (q4, .inl (cI, 1536, .inl (fun _ => 0)))] H := hP
  have hD : va_D A ([(q, .inr (6, [.ref q0, .ref q1, .ref q2, .ref q3, .int 0, .int 0, .int 0, .int 0, .int 0, .ref q4, .null, .int 0])), (q0, .inl (cI, 1536, .inl (fun _ => 0))), (q1, .inl (cI, 1536, .inl (fun _ => 0))), (q2, .inl (cI, 1536, .inl (fun _ => 0))), (q3, .inl (cI, 1536, .inl (fun _ => 0))), (q4, .inl (cI, 1536, .inl (fun _ => 0)))] : va_W) := hD
  refine lv_aload_n hx hb d_He_init_49 rfl (lv_at hl 0 rfl) ?_
  refine lv_sipush (v := 1536) hx hb d_He_init_50 (by decide) ?_
  refine newI (atype := .int) (ty := .int) (a0 := (1536, .inl (fun _ => 0))) (N' := 1536) hx hb (hts _ m_1_12) rfl hK hP hD hS hA 0 rfl ra_int (fun _ => rfl) (by decide) (by decide) (Nat.le_of_ble_eq_true rfl) (Nat.le_of_ble_eq_true rfl) (Nat.le_of_ble_eq_true rfl) d_He_init_53 (fun q5 H hP hD hS => ?_)
  have hP : va_P (dC, dI) classes [(q, .inr (6, [.ref q0, .ref q1, .ref q2, .ref q3, .int 0, .int 0, .int 0, .int 0, .int 0, .ref q4, .null, .int 0])), (q0, .inl (cI, 1536, .inl (fun _ => 0))), (q1, .inl (cI, 1536, .inl (fun _ => 0))), (q2, .inl (cI, 1536, .inl (fun _ => 0))), (q3, .inl (cI, 1536, .inl (fun _ => 0))), (q4, .inl (cI, 1536, .inl (fun _ => 0))), (q5, .inl (cI, 1536, .inl (fun _ => 0)))] H := hP
  have hD : va_D A ([(q, .inr (6, [.ref q0, .ref q1, .ref q2, .ref q3, .int 0, .int 0, .int 0, .int 0, .int 0, .ref q4, .null, .int 0])), (q0, .inl (cI, 1536, .inl (fun _ => 0))), (q1, .inl (cI, 1536, .inl (fun _ => 0))), (q2, .inl (cI, 1536, .inl (fun _ => 0))), (q3, .inl (cI, 1536, .inl (fun _ => 0))), (q4, .inl (cI, 1536, .inl (fun _ => 0))), (q5, .inl (cI, 1536, .inl (fun _ => 0)))] : va_W) := hD
  refine va_putF (D := (dC, dI)) (ci := 6) (v := .ref q5) (ty := .array .int) (C := R_He) (T := F_He) (N := 12) hx hb hts in_He t_He t_He_ok n_He hown hK hP hD hS 0 rfl rfl 10 (by decide) (hts _ m_3_10) (fun _ h9 => h9) rfl hin rfl (by decide +kernel) rfl rfl (Nat.le_of_ble_eq_true rfl) d_He_init_55 (fun H locs hP hD hS => ?_)
  have hP : va_P (dC, dI) classes [(q, .inr (6, [.ref q0, .ref q1, .ref q2, .ref q3, .int 0, .int 0, .int 0, .int 0, .int 0, .ref q4, .ref q5, .int 0])), (q0, .inl (cI, 1536, .inl (fun _ => 0))), (q1, .inl (cI, 1536, .inl (fun _ => 0))), (q2, .inl (cI, 1536, .inl (fun _ => 0))), (q3, .inl (cI, 1536, .inl (fun _ => 0))), (q4, .inl (cI, 1536, .inl (fun _ => 0))), (q5, .inl (cI, 1536, .inl (fun _ => 0)))] H := hP
  have hD : va_D A ([(q, .inr (6, [.ref q0, .ref q1, .ref q2, .ref q3, .int 0, .int 0, .int 0, .int 0, .int 0, .ref q4, .ref q5, .int 0])), (q0, .inl (cI, 1536, .inl (fun _ => 0))), (q1, .inl (cI, 1536, .inl (fun _ => 0))), (q2, .inl (cI, 1536, .inl (fun _ => 0))), (q3, .inl (cI, 1536, .inl (fun _ => 0))), (q4, .inl (cI, 1536, .inl (fun _ => 0))), (q5, .inl (cI, 1536, .inl (fun _ => 0)))] : va_W) := hD
  refine W.widen (k := 6) (n := 9216) (Nat.le_of_ble_eq_true rfl) (Nat.le_of_ble_eq_true rfl) ?_
  exact W.vret hx hb hr (fun t ht hW => ⟨⟨(fun k => match k with | 0 => q0 | 1 => q1 | 2 => q2 | 3 => q3 | 4 => q4 | _ => q5), rfl, trivial, by rw [ht]; exact hP, va_K.moved hW.alike hK, hD⟩, hS.F ht⟩) hS.2.2 d_He_init_58 hlocks
