def w_Mo_thrown : List Cond := .code y_Mo_thrown b_Mo_thrown 1 (some .int) :: ALLW
def rm_Mo_thrown : Room := { frames := 20, cells := 0, slots := 0, locals := 600 }
theorem d_Mo_thrown_0 : decode b_Mo_thrown 0 = .ok (.aload_n 0, 1) := by decide +kernel
theorem d_Mo_thrown_1 : decode b_Mo_thrown 1 = .ok (.getfield 70, 3) := by decide +kernel
theorem d_Mo_thrown_4 : decode b_Mo_thrown 4 = .ok (.ireturn, 1) := by decide +kernel
def f_Mo_thrown (u : S5) : Int32 := gI u 0
set_option maxHeartbeats 8000000 in
set_option maxRecDepth 100000 in
theorem c_Mo_thrown (l : Launch) (dC : Nat → ClassId) (dI : Nat → Nat → Nat) (cI cZ : ClassId) (ad : Nat → Nat) (u : S5) (sz : Nat) : Met l y_Mo_thrown w_Mo_thrown rm_Mo_thrown (PreW (dC, dI) classes [(cI, .int), (cZ, .boolean)] (wM cI cZ ad) u sz [.ref (ad 0)]) (QWi (dC, dI) classes [(cI, .int), (cZ, .boolean)] (wM cI cZ ad) (va_A (wM cI cZ ad u) sz) (f_Mo_thrown u) u) 0 0 (va_A (wM cI cZ ad u) sz) := by
  generalize hres : f_Mo_thrown u = res
  refine Met.ofW (cc := b_Mo_thrown) (maxL := 1) (ret := (some .int)) (by decide) rfl ?_
  intro p e s m args below meth c s₁ B hml hv
  obtain ⟨rfl, rfl, hP, hK, hD0⟩ := hv
  have hx := B.exec
  have hb := B.bytes
  have hr := B.returns
  have hts : ∀ w9 ∈ ALLW, w9.before ([.ref (ad 0)] : List Value).toArray s = true := fun w9 h => atoms_spec (ws := w_Mo_thrown) B.pre w9 (List.mem_cons_of_mem _ h)
  have hown : s.vm.findClass R_Mo = some m.cls := findClass_of_methodNamed B.named
  have hlocks := B.notSynchronized
  have hD := hD0.self (sz := s.heap.size)
  generalize hAe : va_A (wM cI cZ ad u) s.heap.size = A at hD ⊢
  have hA : ∀ q : Nat, s.heap.size ≤ q → A q := fun q h => by rw [← hAe]; exact Or.inr h
  have hS : va_S A s.heap s.heap [] := va_S.rf
  have hl := lv_entry ([.ref (ad 0)]) (n := 1) (Nat.le_of_ble_eq_true rfl)
  rw [lg_entry_eq]
  generalize (lg_sl ([.ref (ad 0)]) ++ List.replicate (1 - (lg_sl ([.ref (ad 0)])).length) Slot.unset).toArray = ls at hl ⊢
  have hl : lv_has ls 1 [(0, .ref (ad 0))] := hl
  have hq := hres.symm
  skip
  refine lv_aload_n hx hb d_Mo_thrown_0 rfl (lv_at hl 0 rfl) ?_
  refine va_get (D := (dC, dI)) (ci := 8) (v := .int (gI u 0)) (C := R_Mo) (T := F_Mo) (N := 31) hx hb hts in_Mo hown hK hP 0 rfl rfl 0 (by decide) (hts _ m_13_30) (fun _ h9 => h9) rfl d_Mo_thrown_1 ?_
  have hE : res = gI u 0 := hq.trans (rfl)
  exact retWi (x := gI u 0) hx hb hr hP hK hD hS hE.symm rfl d_Mo_thrown_4 hlocks
def w_Mo_fails : List Cond := .code y_Mo_fails b_Mo_fails 3 (some .boolean) :: ALLW
def rm_Mo_fails : Room := { frames := 20, cells := 0, slots := 0, locals := 600 }
theorem d_Mo_fails_0 : decode b_Mo_fails 0 = .ok (.aload_n 0, 1) := by decide +kernel
theorem d_Mo_fails_1 : decode b_Mo_fails 1 = .ok (.iload_n 1, 1) := by decide +kernel
theorem d_Mo_fails_2 : decode b_Mo_fails 2 = .ok (.ifCond .eq 7, 3) := by decide +kernel
theorem d_Mo_fails_5 : decode b_Mo_fails 5 = .ok (.iload_n 2, 1) := by decide +kernel
theorem d_Mo_fails_6 : decode b_Mo_fails 6 = .ok (.goto 4, 3) := by decide +kernel
theorem d_Mo_fails_9 : decode b_Mo_fails 9 = .ok (.iconst 0, 1) := by decide +kernel
theorem d_Mo_fails_10 : decode b_Mo_fails 10 = .ok (.putfield 70, 3) := by decide +kernel
theorem d_Mo_fails_13 : decode b_Mo_fails 13 = .ok (.iload_n 1, 1) := by decide +kernel
theorem d_Mo_fails_14 : decode b_Mo_fails 14 = .ok (.ireturn, 1) := by decide +kernel
def f_Mo_fails (y : Bool) (q : Int32) (u : S5) : Bool × S5 := let x1 : Int32 := if y = true then q else 0; (y, sI u 0 x1)
set_option maxHeartbeats 8000000 in
set_option maxRecDepth 100000 in
theorem c_Mo_fails (l : Launch) (dC : Nat → ClassId) (dI : Nat → Nat → Nat) (cI cZ : ClassId) (ad : Nat → Nat) (u : S5) (y : Bool) (q : Int32) (sz : Nat) : Met l y_Mo_fails w_Mo_fails rm_Mo_fails (PreW (dC, dI) classes [(cI, .int), (cZ, .boolean)] (wM cI cZ ad) u sz [.ref (ad 0), .int (b2i y), .int q]) (QWi (dC, dI) classes [(cI, .int), (cZ, .boolean)] (wM cI cZ ad) (va_A (wM cI cZ ad u) sz) (b2i (f_Mo_fails y q u).1) (f_Mo_fails y q u).2) 0 0 (va_A (wM cI cZ ad u) sz) := by
  generalize hres : f_Mo_fails y q u = res
  refine Met.ofW (cc := b_Mo_fails) (maxL := 3) (ret := (some .boolean)) (by decide) rfl ?_
  intro p e s m args below meth c s₁ B hml hv
  obtain ⟨rfl, rfl, hP, hK, hD0⟩ := hv
  have hx := B.exec
  have hb := B.bytes
  have hr := B.returns
  have hts : ∀ w9 ∈ ALLW, w9.before ([.ref (ad 0), .int (b2i y), .int q] : List Value).toArray s = true := fun w9 h => atoms_spec (ws := w_Mo_fails) B.pre w9 (List.mem_cons_of_mem _ h)
  have hown : s.vm.findClass R_Mo = some m.cls := findClass_of_methodNamed B.named
  have hlocks := B.notSynchronized
  have hD := hD0.self (sz := s.heap.size)
  generalize hAe : va_A (wM cI cZ ad u) s.heap.size = A at hD ⊢
  have hA : ∀ q : Nat, s.heap.size ≤ q → A q := fun q h => by rw [← hAe]; exact Or.inr h
  have hS : va_S A s.heap s.heap [] := va_S.rf
  have hl := lv_entry ([.ref (ad 0), .int (b2i y), .int q]) (n := 3) (Nat.le_of_ble_eq_true rfl)
  rw [lg_entry_eq]
  generalize (lg_sl ([.ref (ad 0), .int (b2i y), .int q]) ++ List.replicate (3 - (lg_sl ([.ref (ad 0), .int (b2i y), .int q])).length) Slot.unset).toArray = ls at hl ⊢
  have hl : lv_has ls 3 [(0, .ref (ad 0)), (1, .int (b2i y)), (2, .int q)] := hl
  have hq := hres.symm
  skip
  refine lv_aload_n hx hb d_Mo_fails_0 rfl (lv_at hl 0 rfl) ?_
  refine lv_iload_n hx hb d_Mo_fails_1 rfl (lv_at hl 1 rfl) ?_
  have J10 : ∀ (x1 : Int32) (H : Heap) (locs : List Loc), x1 = (if y = true then q else 0) → va_P (dC, dI) classes (wM cI cZ ad u) H → va_D A (wM cI cZ ad u) → va_S A s.heap H locs → W p l e (headSpec w_Mo_fails rm_Mo_fails).room s m ([.ref (ad 0), .int (b2i y), .int q] : List Value).toArray below meth c H locs 0 0 (MQ below (QWi (dC, dI) classes [(cI, .int), (cZ, .boolean)] (wM cI cZ ad) A (b2i res.1) res.2) ([.ref (ad 0), .int (b2i y), .int q] : List Value).toArray s 0 0 A) (F0 m 10 ls [.int x1, .ref (ad 0)]) := by
    intro x1 H locs ex1 hP hD hS
    refine va_put (D := (dC, dI)) (ci := 8) (v := .int x1) (ty := .int) (C := R_Mo) (T := F_Mo) (N := 31) hx hb hts in_Mo t_Mo t_Mo_ok n_Mo hown hK hP hD hS 0 rfl rfl 0 (by decide) (hts _ m_13_30) (fun _ h9 => h9) rfl (by decide +kernel) rfl rfl (Nat.le_of_ble_eq_true rfl) d_Mo_fails_10 (fun H locs hP hD hS => ?_)
    have hP : va_P (dC, dI) classes (wM cI cZ ad (sI u 0 x1)) H := hP
    have hD : va_D A (wM cI cZ ad (sI u 0 x1)) := hD
    refine lv_iload_n hx hb d_Mo_fails_13 rfl (lv_at hl 1 rfl) ?_
    have hE : res = (y, sI u 0 x1) := (by subst ex1; exact hq.trans (rfl))
    exact retWb (x := y) hx hb hr hP hK hD hS (congrArg Prod.fst hE).symm (congrArg Prod.snd hE).symm d_Mo_fails_14 hlocks
  refine rb_eq (tgt := 9) hx hb d_Mo_fails_2 (by decide) (fun c2 => ?_) (fun c2 => ?_)
  · skip
    refine lv_iconst (v := 0) hx hb d_Mo_fails_9 (by decide) ?_
    exact J10 0 _ _ (Eq.symm ((if_neg c2).trans (rfl))) hP hD hS
  · skip
    refine lv_iload_n hx hb d_Mo_fails_5 rfl (lv_at hl 2 rfl) ?_
    refine lv_goto (tgt := 10) hx hb d_Mo_fails_6 (by decide) ?_
    exact J10 q _ _ (Eq.symm ((if_pos c2).trans (rfl))) hP hD hS
def w_Mo_trap : List Cond := .code y_Mo_trap b_Mo_trap 2 none :: ALLW
def rm_Mo_trap : Room := { frames := 20, cells := 0, slots := 0, locals := 600 }
theorem d_Mo_trap_0 : decode b_Mo_trap 0 = .ok (.aload_n 0, 1) := by decide +kernel
theorem d_Mo_trap_1 : decode b_Mo_trap 1 = .ok (.iconst 2, 1) := by decide +kernel
theorem d_Mo_trap_2 : decode b_Mo_trap 2 = .ok (.putfield 85, 3) := by decide +kernel
theorem d_Mo_trap_5 : decode b_Mo_trap 5 = .ok (.aload_n 0, 1) := by decide +kernel
theorem d_Mo_trap_6 : decode b_Mo_trap 6 = .ok (.iload_n 1, 1) := by decide +kernel
theorem d_Mo_trap_7 : decode b_Mo_trap 7 = .ok (.putfield 88, 3) := by decide +kernel
theorem d_Mo_trap_10 : decode b_Mo_trap 10 = .ok (.return_, 1) := by decide +kernel
def f_Mo_trap (q : Int32) (u : S5) : S5 := sI (sI u 2 2) 3 q
set_option maxHeartbeats 8000000 in
set_option maxRecDepth 100000 in
theorem c_Mo_trap (l : Launch) (dC : Nat → ClassId) (dI : Nat → Nat → Nat) (cI cZ : ClassId) (ad : Nat → Nat) (u : S5) (q : Int32) (sz : Nat) : Met l y_Mo_trap w_Mo_trap rm_Mo_trap (PreW (dC, dI) classes [(cI, .int), (cZ, .boolean)] (wM cI cZ ad) u sz [.ref (ad 0), .int q]) (QWv (dC, dI) classes [(cI, .int), (cZ, .boolean)] (wM cI cZ ad) (va_A (wM cI cZ ad u) sz) (f_Mo_trap q u)) 0 0 (va_A (wM cI cZ ad u) sz) := by
  generalize hres : f_Mo_trap q u = res
  refine Met.ofW (cc := b_Mo_trap) (maxL := 2) (ret := none) (by decide) rfl ?_
  intro p e s m args below meth c s₁ B hml hv
  obtain ⟨rfl, rfl, hP, hK, hD0⟩ := hv
  have hx := B.exec
  have hb := B.bytes
  have hr := B.returns
  have hts : ∀ w9 ∈ ALLW, w9.before ([.ref (ad 0), .int q] : List Value).toArray s = true := fun w9 h => atoms_spec (ws := w_Mo_trap) B.pre w9 (List.mem_cons_of_mem _ h)
  have hown : s.vm.findClass R_Mo = some m.cls := findClass_of_methodNamed B.named
  have hlocks := B.notSynchronized
  have hD := hD0.self (sz := s.heap.size)
  generalize hAe : va_A (wM cI cZ ad u) s.heap.size = A at hD ⊢
  have hA : ∀ q : Nat, s.heap.size ≤ q → A q := fun q h => by rw [← hAe]; exact Or.inr h
  have hS : va_S A s.heap s.heap [] := va_S.rf
  have hl := lv_entry ([.ref (ad 0), .int q]) (n := 2) (Nat.le_of_ble_eq_true rfl)
  rw [lg_entry_eq]
  generalize (lg_sl ([.ref (ad 0), .int q]) ++ List.replicate (2 - (lg_sl ([.ref (ad 0), .int q])).length) Slot.unset).toArray = ls at hl ⊢
  have hl : lv_has ls 2 [(0, .ref (ad 0)), (1, .int q)] := hl
  have hq := hres.symm
  skip
  refine lv_aload_n hx hb d_Mo_trap_0 rfl (lv_at hl 0 rfl) ?_
  refine lv_iconst (v := 2) hx hb d_Mo_trap_1 (by decide) ?_
  refine va_put (D := (dC, dI)) (ci := 8) (v := .int 2) (ty := .int) (C := R_Mo) (T := F_Mo) (N := 31) hx hb hts in_Mo t_Mo t_Mo_ok n_Mo hown hK hP hD hS 0 rfl rfl 8 (by decide) (hts _ m_13_38) (fun _ h9 => h9) rfl (by decide +kernel) rfl rfl (Nat.le_of_ble_eq_true rfl) d_Mo_trap_2 (fun H locs hP hD hS => ?_)
  have hP : va_P (dC, dI) classes (wM cI cZ ad (sI u 2 2)) H := hP
  have hD : va_D A (wM cI cZ ad (sI u 2 2)) := hD
  refine lv_aload_n hx hb d_Mo_trap_5 rfl (lv_at hl 0 rfl) ?_
  refine lv_iload_n hx hb d_Mo_trap_6 rfl (lv_at hl 1 rfl) ?_
  refine va_put (D := (dC, dI)) (ci := 8) (v := .int q) (ty := .int) (C := R_Mo) (T := F_Mo) (N := 31) hx hb hts in_Mo t_Mo t_Mo_ok n_Mo hown hK hP hD hS 0 rfl rfl 9 (by decide) (hts _ m_13_39) (fun _ h9 => h9) rfl (by decide +kernel) rfl rfl (Nat.le_of_ble_eq_true rfl) d_Mo_trap_7 (fun H locs hP hD hS => ?_)
  have hP : va_P (dC, dI) classes (wM cI cZ ad (sI (sI u 2 2) 3 q)) H := hP
  have hD : va_D A (wM cI cZ ad (sI (sI u 2 2) 3 q)) := hD
  have hE : res = sI (sI u 2 2) 3 q := hq.trans (rfl)
  exact retWv hx hb hr hP hK hD hS hE.symm d_Mo_trap_10 hlocks
def w_Mo_dark : List Cond := .code y_Mo_dark b_Mo_dark 4 (some .int) :: ALLW
def rm_Mo_dark : Room := { frames := 20, cells := 0, slots := 0, locals := 600 }
theorem d_Mo_dark_0 : decode b_Mo_dark 0 = .ok (.iconst 0, 1) := by decide +kernel
theorem d_Mo_dark_1 : decode b_Mo_dark 1 = .ok (.istore_n 2, 1) := by decide +kernel
theorem d_Mo_dark_2 : decode b_Mo_dark 2 = .ok (.iconst 0, 1) := by decide +kernel
theorem d_Mo_dark_3 : decode b_Mo_dark 3 = .ok (.istore_n 3, 1) := by decide +kernel
theorem d_Mo_dark_4 : decode b_Mo_dark 4 = .ok (.iload_n 3, 1) := by decide +kernel
theorem d_Mo_dark_5 : decode b_Mo_dark 5 = .ok (.bipush 32, 2) := by decide +kernel
theorem d_Mo_dark_7 : decode b_Mo_dark 7 = .ok (.if_icmp .ge 29, 3) := by decide +kernel
theorem d_Mo_dark_10 : decode b_Mo_dark 10 = .ok (.aload_n 0, 1) := by decide +kernel
theorem d_Mo_dark_11 : decode b_Mo_dark 11 = .ok (.getfield 28, 3) := by decide +kernel
theorem d_Mo_dark_14 : decode b_Mo_dark 14 = .ok (.bipush 32, 2) := by decide +kernel
theorem d_Mo_dark_16 : decode b_Mo_dark 16 = .ok (.iload_n 1, 1) := by decide +kernel
theorem d_Mo_dark_17 : decode b_Mo_dark 17 = .ok (.imul, 1) := by decide +kernel
theorem d_Mo_dark_18 : decode b_Mo_dark 18 = .ok (.iload_n 3, 1) := by decide +kernel
theorem d_Mo_dark_19 : decode b_Mo_dark 19 = .ok (.iadd, 1) := by decide +kernel
theorem d_Mo_dark_20 : decode b_Mo_dark 20 = .ok (.baload, 1) := by decide +kernel
theorem d_Mo_dark_21 : decode b_Mo_dark 21 = .ok (.ifCond .eq 9, 3) := by decide +kernel
theorem d_Mo_dark_24 : decode b_Mo_dark 24 = .ok (.iload_n 2, 1) := by decide +kernel
theorem d_Mo_dark_25 : decode b_Mo_dark 25 = .ok (.iconst 1, 1) := by decide +kernel
theorem d_Mo_dark_26 : decode b_Mo_dark 26 = .ok (.iload_n 3, 1) := by decide +kernel
theorem d_Mo_dark_27 : decode b_Mo_dark 27 = .ok (.ishl, 1) := by decide +kernel
theorem d_Mo_dark_28 : decode b_Mo_dark 28 = .ok (.ior, 1) := by decide +kernel
theorem d_Mo_dark_29 : decode b_Mo_dark 29 = .ok (.istore_n 2, 1) := by decide +kernel
theorem d_Mo_dark_30 : decode b_Mo_dark 30 = .ok (.iinc 3 1, 3) := by decide +kernel
theorem d_Mo_dark_33 : decode b_Mo_dark 33 = .ok (.goto (-29), 3) := by decide +kernel
theorem d_Mo_dark_36 : decode b_Mo_dark 36 = .ok (.iload_n 2, 1) := by decide +kernel
theorem d_Mo_dark_37 : decode b_Mo_dark 37 = .ok (.ireturn, 1) := by decide +kernel
def f_Mo_dark_4 (r : Nat) (u : S5) : Nat → Nat → Int32 → Int32
  | 0, i, v => 0
  | k4 + 1, i, v => if i < 32 then (if (aB u 2 (32 * r + i)) = true then f_Mo_dark_4 r u k4 (i + 1) (v ||| ((1 : Int32) <<< ((nI i) &&& 31))) else f_Mo_dark_4 r u k4 (i + 1) v) else v
def f_Mo_dark (r : Nat) (u : S5) : Int32 := f_Mo_dark_4 r u 33 0 0
set_option maxHeartbeats 8000000 in
set_option maxRecDepth 100000 in
theorem c_Mo_dark (l : Launch) (dC : Nat → ClassId) (dI : Nat → Nat → Nat) (cI cZ : ClassId) (ad : Nat → Nat) (u : S5) (r : Nat) (hr_ : r < 32) (sz : Nat) : Met l y_Mo_dark w_Mo_dark rm_Mo_dark (PreW (dC, dI) classes [(cI, .int), (cZ, .boolean)] (wM cI cZ ad) u sz [.ref (ad 0), .int (nI r)]) (QWi (dC, dI) classes [(cI, .int), (cZ, .boolean)] (wM cI cZ ad) (va_A (wM cI cZ ad u) sz) (f_Mo_dark r u) u) 0 0 (va_A (wM cI cZ ad u) sz) := by
  generalize hres : f_Mo_dark r u = res
  refine Met.ofW (cc := b_Mo_dark) (maxL := 4) (ret := (some .int)) (by decide) rfl ?_
  intro p e s m args below meth c s₁ B hml hv
  obtain ⟨rfl, rfl, hP, hK, hD0⟩ := hv
  have hx := B.exec
  have hb := B.bytes
  have hr := B.returns
  have hts : ∀ w9 ∈ ALLW, w9.before ([.ref (ad 0), .int (nI r)] : List Value).toArray s = true := fun w9 h => atoms_spec (ws := w_Mo_dark) B.pre w9 (List.mem_cons_of_mem _ h)
  have hown : s.vm.findClass R_Mo = some m.cls := findClass_of_methodNamed B.named
  have hlocks := B.notSynchronized
  have hD := hD0.self (sz := s.heap.size)
  generalize hAe : va_A (wM cI cZ ad u) s.heap.size = A at hD ⊢
  have hA : ∀ q : Nat, s.heap.size ≤ q → A q := fun q h => by rw [← hAe]; exact Or.inr h
  have hS : va_S A s.heap s.heap [] := va_S.rf
  have hl := lv_entry ([.ref (ad 0), .int (nI r)]) (n := 4) (Nat.le_of_ble_eq_true rfl)
  rw [lg_entry_eq]
  generalize (lg_sl ([.ref (ad 0), .int (nI r)]) ++ List.replicate (4 - (lg_sl ([.ref (ad 0), .int (nI r)])).length) Slot.unset).toArray = ls at hl ⊢
  have hl : lv_has ls 4 [(0, .ref (ad 0)), (1, .int (nI r))] := hl
  have hq := hres.symm
  skip
  refine lv_iconst (v := 0) hx hb d_Mo_dark_0 (by decide) ?_
  refine lv_istore_n (lv' := [(2, .int 0), (0, .ref (ad 0)), (1, .int (nI r))]) hx hb d_Mo_dark_1 rfl hl (by decide) rfl (fun ls hl => ?_)
  refine lv_iconst (v := nI 0) hx hb d_Mo_dark_2 (by decide) ?_
  refine lv_istore_n (lv' := [(3, .int (nI 0)), (2, .int 0), (0, .ref (ad 0)), (1, .int (nI r))]) hx hb d_Mo_dark_3 rfl hl (by decide) rfl (fun ls hl => ?_)
  have L4 : ∀ (k : Nat) (i : Nat) (v : Int32) (H : Heap) (locs : List Loc) (ls : Array Slot), (i ≤ 32) → (32 - i) < k → res = f_Mo_dark_4 r u k i v → va_P (dC, dI) classes (wM cI cZ ad u) H → va_D A (wM cI cZ ad u) → va_S A s.heap H locs → lv_has ls 4 [(3, .int (nI i)), (2, .int v), (0, .ref (ad 0)), (1, .int (nI r))] → W p l e (headSpec w_Mo_dark rm_Mo_dark).room s m ([.ref (ad 0), .int (nI r)] : List Value).toArray below meth c H locs 0 0 (MQ below (QWi (dC, dI) classes [(cI, .int), (cZ, .boolean)] (wM cI cZ ad) A res u) ([.ref (ad 0), .int (nI r)] : List Value).toArray s 0 0 A) (F0 m 4 ls []) := by
    intro k
    induction k with
    | zero => intro i v H locs ls hi hm; exact absurd hm (Nat.not_lt_zero _)
    | succ k4 ih4 =>
      intro i v H locs ls hi hm hq4 hP hD hS hl
      refine lv_iload_n hx hb d_Mo_dark_4 rfl (lv_at hl 0 rfl) ?_
      refine lv_bipush (v := nI 32) hx hb d_Mo_dark_5 (by decide) ?_
      refine rn_ge (tgt := 36) hx hb (by omega) (by omega) d_Mo_dark_7 (by decide) (fun c1 => ?_) (fun c1 => ?_)
      · skip
        refine lv_iload_n hx hb d_Mo_dark_36 rfl (lv_at hl 1 rfl) ?_
        have hE : res = v := hq4.trans ((if_neg (Nat.not_lt.mpr c1)).trans rfl)
        exact retWi (x := v) hx hb hr hP hK hD hS hE.symm rfl d_Mo_dark_37 hlocks
      · skip
        refine lv_aload_n hx hb d_Mo_dark_10 rfl (lv_at hl 2 rfl) ?_
        refine va_get (D := (dC, dI)) (ci := 8) (v := .ref (ad 6)) (C := R_Mo) (T := F_Mo) (N := 31) hx hb hts in_Mo hown hK hP 0 rfl rfl 6 (by decide) (hts _ m_13_36) (fun _ h9 => h9) rfl d_Mo_dark_11 ?_
        refine lv_bipush (v := nI 32) hx hb d_Mo_dark_14 (by decide) ?_
        refine lv_iload_n hx hb d_Mo_dark_16 rfl (lv_at hl 3 rfl) ?_
        refine lv_imul hx hb d_Mo_dark_17 ?_
        refine rw_top (y := nI (32 * r)) (pk_mul 32 r) ?_
        refine lv_iload_n hx hb d_Mo_dark_18 rfl (lv_at hl 0 rfl) ?_
        refine lv_iadd hx hb d_Mo_dark_19 ?_
        refine rw_top (y := nI (32 * r + i)) (nI_add (32 * r) i) ?_
        refine aldM_darkX (u := u) (v := aB u 2 (32 * r + i)) hx hb hK hP (by omega) rfl d_Mo_dark_20 ?_
        refine rb_eq (tgt := 30) hx hb d_Mo_dark_21 (by decide) (fun c2 => ?_) (fun c2 => ?_)
        · skip
          refine lv_iinc (v := nI (i + 1)) (lv' := [(3, .int (nI (i + 1))), (2, .int v), (0, .ref (ad 0)), (1, .int (nI r))]) hx hb d_Mo_dark_30 hl (k := 0) rfl (rn_inc i 1 (by decide)) (by decide) rfl (fun ls hl => ?_)
          refine lv_goto (tgt := 4) hx hb d_Mo_dark_33 (by decide) ?_
          exact ih4 (i + 1) v _ _ _ (by first | assumption | omega) (by omega) (hq4.trans ((if_pos c1).trans ((if_neg c2).trans rfl))) hP hD hS (lv_sub hl [0, 1, 2, 3] rfl)
        · skip
          refine lv_iload_n hx hb d_Mo_dark_24 rfl (lv_at hl 1 rfl) ?_
          refine lv_iconst (v := 1) hx hb d_Mo_dark_25 (by decide) ?_
          refine lv_iload_n hx hb d_Mo_dark_26 rfl (lv_at hl 0 rfl) ?_
          refine lv_ishl hx hb d_Mo_dark_27 ?_
          refine lv_ior hx hb d_Mo_dark_28 ?_
          refine lv_istore_n (lv' := [(2, .int (v ||| ((1 : Int32) <<< ((nI i) &&& 31)))), (3, .int (nI i)), (0, .ref (ad 0)), (1, .int (nI r))]) hx hb d_Mo_dark_29 rfl hl (by decide) rfl (fun ls hl => ?_)
          refine lv_iinc (v := nI (i + 1)) (lv' := [(3, .int (nI (i + 1))), (2, .int (v ||| ((1 : Int32) <<< ((nI i) &&& 31)))), (0, .ref (ad 0)), (1, .int (nI r))]) hx hb d_Mo_dark_30 hl (k := 1) rfl (rn_inc i 1 (by decide)) (by decide) rfl (fun ls hl => ?_)
          refine lv_goto (tgt := 4) hx hb d_Mo_dark_33 (by decide) ?_
          exact ih4 (i + 1) (v ||| ((1 : Int32) <<< ((nI i) &&& 31))) _ _ _ (by first | assumption | omega) (by omega) (hq4.trans ((if_pos c1).trans ((if_pos c2).trans rfl))) hP hD hS (lv_sub hl [0, 1, 2, 3] rfl)
  exact L4 33 0 0 _ _ _ (by first | assumption | omega) (by omega) (hq.trans (rfl)) hP hD hS (lv_sub hl [0, 1, 2, 3] rfl)
def w_Mo_anyDark : List Cond := .code y_Mo_anyDark b_Mo_anyDark 4 (some .boolean) :: ALLW
def rm_Mo_anyDark : Room := { frames := 20, cells := 0, slots := 0, locals := 600 }
theorem d_Mo_anyDark_0 : decode b_Mo_anyDark 0 = .ok (.iconst 0, 1) := by decide +kernel
theorem d_Mo_anyDark_1 : decode b_Mo_anyDark 1 = .ok (.istore_n 3, 1) := by decide +kernel
theorem d_Mo_anyDark_2 : decode b_Mo_anyDark 2 = .ok (.iload_n 3, 1) := by decide +kernel
theorem d_Mo_anyDark_3 : decode b_Mo_anyDark 3 = .ok (.iload_n 2, 1) := by decide +kernel
theorem d_Mo_anyDark_4 : decode b_Mo_anyDark 4 = .ok (.if_icmp .ge 25, 3) := by decide +kernel
theorem d_Mo_anyDark_7 : decode b_Mo_anyDark 7 = .ok (.aload_n 0, 1) := by decide +kernel
theorem d_Mo_anyDark_8 : decode b_Mo_anyDark 8 = .ok (.getfield 28, 3) := by decide +kernel
theorem d_Mo_anyDark_11 : decode b_Mo_anyDark 11 = .ok (.bipush 32, 2) := by decide +kernel
theorem d_Mo_anyDark_13 : decode b_Mo_anyDark 13 = .ok (.iload_n 1, 1) := by decide +kernel
theorem d_Mo_anyDark_14 : decode b_Mo_anyDark 14 = .ok (.imul, 1) := by decide +kernel
theorem d_Mo_anyDark_15 : decode b_Mo_anyDark 15 = .ok (.iload_n 3, 1) := by decide +kernel
theorem d_Mo_anyDark_16 : decode b_Mo_anyDark 16 = .ok (.iadd, 1) := by decide +kernel
theorem d_Mo_anyDark_17 : decode b_Mo_anyDark 17 = .ok (.baload, 1) := by decide +kernel
theorem d_Mo_anyDark_18 : decode b_Mo_anyDark 18 = .ok (.ifCond .eq 5, 3) := by decide +kernel
theorem d_Mo_anyDark_21 : decode b_Mo_anyDark 21 = .ok (.iconst 1, 1) := by decide +kernel
theorem d_Mo_anyDark_22 : decode b_Mo_anyDark 22 = .ok (.ireturn, 1) := by decide +kernel
theorem d_Mo_anyDark_23 : decode b_Mo_anyDark 23 = .ok (.iinc 3 1, 3) := by decide +kernel
theorem d_Mo_anyDark_26 : decode b_Mo_anyDark 26 = .ok (.goto (-24), 3) := by decide +kernel
theorem d_Mo_anyDark_29 : decode b_Mo_anyDark 29 = .ok (.iconst 0, 1) := by decide +kernel
theorem d_Mo_anyDark_30 : decode b_Mo_anyDark 30 = .ok (.ireturn, 1) := by decide +kernel
def f_Mo_anyDark_2 (r : Nat) (n : Nat) (u : S5) : Nat → Nat → Bool
  | 0, i => false
  | k2 + 1, i => if i < n then (if (aB u 2 (32 * r + i)) = true then true else f_Mo_anyDark_2 r n u k2 (i + 1)) else false
def f_Mo_anyDark (r : Nat) (n : Nat) (u : S5) : Bool := f_Mo_anyDark_2 r n u (n + 1) 0
set_option maxHeartbeats 8000000 in
set_option maxRecDepth 100000 in
theorem c_Mo_anyDark (l : Launch) (dC : Nat → ClassId) (dI : Nat → Nat → Nat) (cI cZ : ClassId) (ad : Nat → Nat) (u : S5) (r : Nat) (n : Nat) (hr_ : r < 32) (hn : n ≤ 32) (sz : Nat) : Met l y_Mo_anyDark w_Mo_anyDark rm_Mo_anyDark (PreW (dC, dI) classes [(cI, .int), (cZ, .boolean)] (wM cI cZ ad) u sz [.ref (ad 0), .int (nI r), .int (nI n)]) (QWi (dC, dI) classes [(cI, .int), (cZ, .boolean)] (wM cI cZ ad) (va_A (wM cI cZ ad u) sz) (b2i (f_Mo_anyDark r n u)) u) 0 0 (va_A (wM cI cZ ad u) sz) := by
  generalize hres : f_Mo_anyDark r n u = res
  refine Met.ofW (cc := b_Mo_anyDark) (maxL := 4) (ret := (some .boolean)) (by decide) rfl ?_
  intro p e s m args below meth c s₁ B hml hv
  obtain ⟨rfl, rfl, hP, hK, hD0⟩ := hv
  have hx := B.exec
  have hb := B.bytes
  have hr := B.returns
  have hts : ∀ w9 ∈ ALLW, w9.before ([.ref (ad 0), .int (nI r), .int (nI n)] : List Value).toArray s = true := fun w9 h => atoms_spec (ws := w_Mo_anyDark) B.pre w9 (List.mem_cons_of_mem _ h)
  have hown : s.vm.findClass R_Mo = some m.cls := findClass_of_methodNamed B.named
  have hlocks := B.notSynchronized
  have hD := hD0.self (sz := s.heap.size)
  generalize hAe : va_A (wM cI cZ ad u) s.heap.size = A at hD ⊢
  have hA : ∀ q : Nat, s.heap.size ≤ q → A q := fun q h => by rw [← hAe]; exact Or.inr h
  have hS : va_S A s.heap s.heap [] := va_S.rf
  have hl := lv_entry ([.ref (ad 0), .int (nI r), .int (nI n)]) (n := 4) (Nat.le_of_ble_eq_true rfl)
  rw [lg_entry_eq]
  generalize (lg_sl ([.ref (ad 0), .int (nI r), .int (nI n)]) ++ List.replicate (4 - (lg_sl ([.ref (ad 0), .int (nI r), .int (nI n)])).length) Slot.unset).toArray = ls at hl ⊢
  have hl : lv_has ls 4 [(0, .ref (ad 0)), (1, .int (nI r)), (2, .int (nI n))] := hl
  have hq := hres.symm
  skip
  refine lv_iconst (v := nI 0) hx hb d_Mo_anyDark_0 (by decide) ?_
  refine lv_istore_n (lv' := [(3, .int (nI 0)), (0, .ref (ad 0)), (1, .int (nI r)), (2, .int (nI n))]) hx hb d_Mo_anyDark_1 rfl hl (by decide) rfl (fun ls hl => ?_)
  have L2 : ∀ (k : Nat) (i : Nat) (H : Heap) (locs : List Loc) (ls : Array Slot), (i ≤ n) → (n - i) < k → res = f_Mo_anyDark_2 r n u k i → va_P (dC, dI) classes (wM cI cZ ad u) H → va_D A (wM cI cZ ad u) → va_S A s.heap H locs → lv_has ls 4 [(3, .int (nI i)), (0, .ref (ad 0)), (1, .int (nI r)), (2, .int (nI n))] → W p l e (headSpec w_Mo_anyDark rm_Mo_anyDark).room s m ([.ref (ad 0), .int (nI r), .int (nI n)] : List Value).toArray below meth c H locs 0 0 (MQ below (QWi (dC, dI) classes [(cI, .int), (cZ, .boolean)] (wM cI cZ ad) A (b2i res) u) ([.ref (ad 0), .int (nI r), .int (nI n)] : List Value).toArray s 0 0 A) (F0 m 2 ls []) := by
    intro k
    induction k with
    | zero => intro i H locs ls hi hm; exact absurd hm (Nat.not_lt_zero _)
    | succ k2 ih2 =>
      intro i H locs ls hi hm hq2 hP hD hS hl
      refine lv_iload_n hx hb d_Mo_anyDark_2 rfl (lv_at hl 0 rfl) ?_
      refine lv_iload_n hx hb d_Mo_anyDark_3 rfl (lv_at hl 3 rfl) ?_
      refine rn_ge (tgt := 29) hx hb (by omega) (by omega) d_Mo_anyDark_4 (by decide) (fun c1 => ?_) (fun c1 => ?_)
      · skip
        refine lv_iconst (v := 0) hx hb d_Mo_anyDark_29 (by decide) ?_
        have hE : res = false := hq2.trans ((if_neg (Nat.not_lt.mpr c1)).trans rfl)
        exact retWb (x := false) hx hb hr hP hK hD hS hE.symm rfl d_Mo_anyDark_30 hlocks
      · skip
        refine lv_aload_n hx hb d_Mo_anyDark_7 rfl (lv_at hl 1 rfl) ?_
        refine va_get (D := (dC, dI)) (ci := 8) (v := .ref (ad 6)) (C := R_Mo) (T := F_Mo) (N := 31) hx hb hts in_Mo hown hK hP 0 rfl rfl 6 (by decide) (hts _ m_13_36) (fun _ h9 => h9) rfl d_Mo_anyDark_8 ?_
        refine lv_bipush (v := nI 32) hx hb d_Mo_anyDark_11 (by decide) ?_
        refine lv_iload_n hx hb d_Mo_anyDark_13 rfl (lv_at hl 2 rfl) ?_
        refine lv_imul hx hb d_Mo_anyDark_14 ?_
        refine rw_top (y := nI (32 * r)) (pk_mul 32 r) ?_
        refine lv_iload_n hx hb d_Mo_anyDark_15 rfl (lv_at hl 0 rfl) ?_
        refine lv_iadd hx hb d_Mo_anyDark_16 ?_
        refine rw_top (y := nI (32 * r + i)) (nI_add (32 * r) i) ?_
        refine aldM_darkX (u := u) (v := aB u 2 (32 * r + i)) hx hb hK hP (by omega) rfl d_Mo_anyDark_17 ?_
        refine rb_eq (tgt := 23) hx hb d_Mo_anyDark_18 (by decide) (fun c2 => ?_) (fun c2 => ?_)
        · skip
          refine lv_iinc (v := nI (i + 1)) (lv' := [(3, .int (nI (i + 1))), (0, .ref (ad 0)), (1, .int (nI r)), (2, .int (nI n))]) hx hb d_Mo_anyDark_23 hl (k := 0) rfl (rn_inc i 1 (by decide)) (by decide) rfl (fun ls hl => ?_)
          refine lv_goto (tgt := 2) hx hb d_Mo_anyDark_26 (by decide) ?_
          exact ih2 (i + 1) _ _ _ (by first | assumption | omega) (by omega) (hq2.trans ((if_pos c1).trans ((if_neg c2).trans rfl))) hP hD hS (lv_sub hl [0, 1, 2, 3] rfl)
        · skip
          refine lv_iconst (v := 1) hx hb d_Mo_anyDark_21 (by decide) ?_
          have hE : res = true := hq2.trans ((if_pos c1).trans ((if_pos c2).trans rfl))
          exact retWb (x := true) hx hb hr hP hK hD hS hE.symm rfl d_Mo_anyDark_22 hlocks
  exact L2 (n + 1) 0 _ _ _ (by first | assumption | omega) (by omega) (hq.trans (rfl)) hP hD hS (lv_sub hl [0, 1, 2, 3] rfl)
def w_Mo_give : List Cond := .code y_Mo_give b_Mo_give 5 none :: ALLW
def rm_Mo_give : Room := { frames := 20, cells := 0, slots := 0, locals := 600 }
theorem d_Mo_give_0 : decode b_Mo_give 0 = .ok (.iload_n 1, 1) := by decide +kernel
theorem d_Mo_give_1 : decode b_Mo_give 1 = .ok (.ifCond .ne 4, 3) := by decide +kernel
theorem d_Mo_give_4 : decode b_Mo_give 4 = .ok (.return_, 1) := by decide +kernel
theorem d_Mo_give_5 : decode b_Mo_give 5 = .ok (.aload_n 0, 1) := by decide +kernel
theorem d_Mo_give_6 : decode b_Mo_give 6 = .ok (.getfield 17, 3) := by decide +kernel
theorem d_Mo_give_9 : decode b_Mo_give 9 = .ok (.iload_n 1, 1) := by decide +kernel
theorem d_Mo_give_10 : decode b_Mo_give 10 = .ok (.iload_n 2, 1) := by decide +kernel
theorem d_Mo_give_11 : decode b_Mo_give 11 = .ok (.iastore, 1) := by decide +kernel
theorem d_Mo_give_12 : decode b_Mo_give 12 = .ok (.iconst 0, 1) := by decide +kernel
theorem d_Mo_give_13 : decode b_Mo_give 13 = .ok (.istore 4, 2) := by decide +kernel
theorem d_Mo_give_15 : decode b_Mo_give 15 = .ok (.iload 4, 2) := by decide +kernel
theorem d_Mo_give_17 : decode b_Mo_give 17 = .ok (.bipush 32, 2) := by decide +kernel
theorem d_Mo_give_19 : decode b_Mo_give 19 = .ok (.if_icmp .ge 36, 3) := by decide +kernel
theorem d_Mo_give_22 : decode b_Mo_give 22 = .ok (.aload_n 0, 1) := by decide +kernel
theorem d_Mo_give_23 : decode b_Mo_give 23 = .ok (.getfield 28, 3) := by decide +kernel
theorem d_Mo_give_26 : decode b_Mo_give 26 = .ok (.bipush 32, 2) := by decide +kernel
theorem d_Mo_give_28 : decode b_Mo_give 28 = .ok (.iload_n 1, 1) := by decide +kernel
theorem d_Mo_give_29 : decode b_Mo_give 29 = .ok (.imul, 1) := by decide +kernel
theorem d_Mo_give_30 : decode b_Mo_give 30 = .ok (.iload 4, 2) := by decide +kernel
theorem d_Mo_give_32 : decode b_Mo_give 32 = .ok (.iadd, 1) := by decide +kernel
theorem d_Mo_give_33 : decode b_Mo_give 33 = .ok (.iload_n 3, 1) := by decide +kernel
theorem d_Mo_give_34 : decode b_Mo_give 34 = .ok (.iload 4, 2) := by decide +kernel
theorem d_Mo_give_36 : decode b_Mo_give 36 = .ok (.ishr, 1) := by decide +kernel
theorem d_Mo_give_37 : decode b_Mo_give 37 = .ok (.iconst 1, 1) := by decide +kernel
theorem d_Mo_give_38 : decode b_Mo_give 38 = .ok (.iand, 1) := by decide +kernel
theorem d_Mo_give_39 : decode b_Mo_give 39 = .ok (.iconst 1, 1) := by decide +kernel
theorem d_Mo_give_40 : decode b_Mo_give 40 = .ok (.if_icmp .ne 7, 3) := by decide +kernel
theorem d_Mo_give_43 : decode b_Mo_give 43 = .ok (.iconst 1, 1) := by decide +kernel
theorem d_Mo_give_44 : decode b_Mo_give 44 = .ok (.goto 4, 3) := by decide +kernel
theorem d_Mo_give_47 : decode b_Mo_give 47 = .ok (.iconst 0, 1) := by decide +kernel
theorem d_Mo_give_48 : decode b_Mo_give 48 = .ok (.bastore, 1) := by decide +kernel
theorem d_Mo_give_49 : decode b_Mo_give 49 = .ok (.iinc 4 1, 3) := by decide +kernel
theorem d_Mo_give_52 : decode b_Mo_give 52 = .ok (.goto (-37), 3) := by decide +kernel
theorem d_Mo_give_55 : decode b_Mo_give 55 = .ok (.return_, 1) := by decide +kernel
def f_Mo_give_15 (r : Nat) (v : Int32) (w : Int32) (u : S5) : Nat → Nat → S5 → S5
  | 0, i, u1 => u1
  | k15 + 1, i, u1 => if i < 32 then (let x3 : Bool := if ((w >>> ((nI i) &&& 31)) &&& (1 : Int32)) = 1 then true else false; f_Mo_give_15 r v w u k15 (i + 1) (uB u1 2 (32 * r + i) x3)) else u1
def f_Mo_give (r : Nat) (v : Int32) (w : Int32) (u : S5) : S5 := if r = 0 then u else f_Mo_give_15 r v w u 33 0 (uI u 2 r v)
set_option maxHeartbeats 8000000 in
set_option maxRecDepth 100000 in
theorem c_Mo_give (l : Launch) (dC : Nat → ClassId) (dI : Nat → Nat → Nat) (cI cZ : ClassId) (ad : Nat → Nat) (u : S5) (r : Nat) (v : Int32) (w : Int32) (hr_ : r < 32) (sz : Nat) : Met l y_Mo_give w_Mo_give rm_Mo_give (PreW (dC, dI) classes [(cI, .int), (cZ, .boolean)] (wM cI cZ ad) u sz [.ref (ad 0), .int (nI r), .int v, .int w]) (QWv (dC, dI) classes [(cI, .int), (cZ, .boolean)] (wM cI cZ ad) (va_A (wM cI cZ ad u) sz) (f_Mo_give r v w u)) 0 0 (va_A (wM cI cZ ad u) sz) := by
  generalize hres : f_Mo_give r v w u = res
  refine Met.ofW (cc := b_Mo_give) (maxL := 5) (ret := none) (by decide) rfl ?_
  intro p e s m args below meth c s₁ B hml hv
  obtain ⟨rfl, rfl, hP, hK, hD0⟩ := hv
  have hx := B.exec
  have hb := B.bytes
  have hr := B.returns
  have hts : ∀ w9 ∈ ALLW, w9.before ([.ref (ad 0), .int (nI r), .int v, .int w] : List Value).toArray s = true := fun w9 h => atoms_spec (ws := w_Mo_give) B.pre w9 (List.mem_cons_of_mem _ h)
  have hown : s.vm.findClass R_Mo = some m.cls := findClass_of_methodNamed B.named
  have hlocks := B.notSynchronized
  have hD := hD0.self (sz := s.heap.size)
  generalize hAe : va_A (wM cI cZ ad u) s.heap.size = A at hD ⊢
  have hA : ∀ q : Nat, s.heap.size ≤ q → A q := fun q h => by rw [← hAe]; exact Or.inr h
  have hS : va_S A s.heap s.heap [] := va_S.rf
  have hl := lv_entry ([.ref (ad 0), .int (nI r), .int v, .int w]) (n := 5) (Nat.le_of_ble_eq_true rfl)
  rw [lg_entry_eq]
  generalize (lg_sl ([.ref (ad 0), .int (nI r), .int v, .int w]) ++ List.replicate (5 - (lg_sl ([.ref (ad 0), .int (nI r), .int v, .int w])).length) Slot.unset).toArray = ls at hl ⊢
  have hl : lv_has ls 5 [(0, .ref (ad 0)), (1, .int (nI r)), (2, .int v), (3, .int w)] := hl
  have hq := hres.symm
  skip
  refine lv_iload_n hx hb d_Mo_give_0 rfl (lv_at hl 1 rfl) ?_
  refine rz_ne (tgt := 5) hx hb (by omega) d_Mo_give_1 (by decide) (fun c1 => ?_) (fun c1 => ?_)
  · skip
    refine lv_aload_n hx hb d_Mo_give_5 rfl (lv_at hl 0 rfl) ?_
    refine va_get (D := (dC, dI)) (ci := 8) (v := .ref (ad 3)) (C := R_Mo) (T := F_Mo) (N := 31) hx hb hts in_Mo hown hK hP 0 rfl rfl 3 (by decide) (hts _ m_13_33) (fun _ h9 => h9) rfl d_Mo_give_6 ?_
    refine lv_iload_n hx hb d_Mo_give_9 rfl (lv_at hl 1 rfl) ?_
    refine lv_iload_n hx hb d_Mo_give_10 rfl (lv_at hl 2 rfl) ?_
    refine astM_x (u := u) (n := r) hx hb hK hP hD hS (by omega) d_Mo_give_11 (fun H locs hP hD hS => ?_)
    refine lv_iconst (v := nI 0) hx hb d_Mo_give_12 (by decide) ?_
    refine lv_istore (lv' := [(4, .int (nI 0)), (0, .ref (ad 0)), (1, .int (nI r)), (2, .int v), (3, .int w)]) hx hb d_Mo_give_13 hl (by decide) rfl (fun ls hl => ?_)
    have L15 : ∀ (k : Nat) (i : Nat) (u1 : S5) (H : Heap) (locs : List Loc) (ls : Array Slot), (i ≤ 32) → (32 - i) < k → res = f_Mo_give_15 r v w u k i u1 → va_P (dC, dI) classes (wM cI cZ ad u1) H → va_D A (wM cI cZ ad u1) → va_S A s.heap H locs → lv_has ls 5 [(4, .int (nI i)), (0, .ref (ad 0)), (1, .int (nI r)), (2, .int v), (3, .int w)] → W p l e (headSpec w_Mo_give rm_Mo_give).room s m ([.ref (ad 0), .int (nI r), .int v, .int w] : List Value).toArray below meth c H locs 0 0 (MQ below (QWv (dC, dI) classes [(cI, .int), (cZ, .boolean)] (wM cI cZ ad) A res) ([.ref (ad 0), .int (nI r), .int v, .int w] : List Value).toArray s 0 0 A) (F0 m 15 ls []) := by
      intro k
      induction k with
      | zero => intro i u1 H locs ls hi hm; exact absurd hm (Nat.not_lt_zero _)
      | succ k15 ih15 =>
        intro i u1 H locs ls hi hm hq15 hP hD hS hl
        refine lv_iload hx hb d_Mo_give_15 (lv_at hl 0 rfl) ?_
        refine lv_bipush (v := nI 32) hx hb d_Mo_give_17 (by decide) ?_
        refine rn_ge (tgt := 55) hx hb (by omega) (by omega) d_Mo_give_19 (by decide) (fun c2 => ?_) (fun c2 => ?_)
        · skip
          have hE : res = u1 := hq15.trans ((if_neg (Nat.not_lt.mpr c2)).trans rfl)
          exact retWv hx hb hr hP hK hD hS hE.symm d_Mo_give_55 hlocks
        · skip
          refine lv_aload_n hx hb d_Mo_give_22 rfl (lv_at hl 1 rfl) ?_
          refine va_get (D := (dC, dI)) (ci := 8) (v := .ref (ad 6)) (C := R_Mo) (T := F_Mo) (N := 31) hx hb hts in_Mo hown hK hP 0 rfl rfl 6 (by decide) (hts _ m_13_36) (fun _ h9 => h9) rfl d_Mo_give_23 ?_
          refine lv_bipush (v := nI 32) hx hb d_Mo_give_26 (by decide) ?_
          refine lv_iload_n hx hb d_Mo_give_28 rfl (lv_at hl 2 rfl) ?_
          refine lv_imul hx hb d_Mo_give_29 ?_
          refine rw_top (y := nI (32 * r)) (pk_mul 32 r) ?_
          refine lv_iload hx hb d_Mo_give_30 (lv_at hl 0 rfl) ?_
          refine lv_iadd hx hb d_Mo_give_32 ?_
          refine rw_top (y := nI (32 * r + i)) (nI_add (32 * r) i) ?_
          refine lv_iload_n hx hb d_Mo_give_33 rfl (lv_at hl 4 rfl) ?_
          refine lv_iload hx hb d_Mo_give_34 (lv_at hl 0 rfl) ?_
          refine lv_ishr hx hb d_Mo_give_36 ?_
          refine lv_iconst (v := 1) hx hb d_Mo_give_37 (by decide) ?_
          refine lv_iand hx hb d_Mo_give_38 ?_
          refine lv_iconst (v := 1) hx hb d_Mo_give_39 (by decide) ?_
          have J48 : ∀ (x3 : Bool) (H : Heap) (locs : List Loc), x3 = (if ((w >>> ((nI i) &&& 31)) &&& (1 : Int32)) = 1 then true else false) → va_P (dC, dI) classes (wM cI cZ ad u1) H → va_D A (wM cI cZ ad u1) → va_S A s.heap H locs → W p l e (headSpec w_Mo_give rm_Mo_give).room s m ([.ref (ad 0), .int (nI r), .int v, .int w] : List Value).toArray below meth c H locs 0 0 (MQ below (QWv (dC, dI) classes [(cI, .int), (cZ, .boolean)] (wM cI cZ ad) A res) ([.ref (ad 0), .int (nI r), .int v, .int w] : List Value).toArray s 0 0 A) (F0 m 48 ls [.int (b2i x3), .int (nI (32 * r + i)), .ref (ad 6)]) := by
            intro x3 H locs ex3 hP hD hS
            refine astM_darkX (u := u1) (v := x3) (n := 32 * r + i) hx hb hK hP hD hS (by omega) d_Mo_give_48 (fun H locs hP hD hS => ?_)
            refine lv_iinc (v := nI (i + 1)) (lv' := [(4, .int (nI (i + 1))), (0, .ref (ad 0)), (1, .int (nI r)), (2, .int v), (3, .int w)]) hx hb d_Mo_give_49 hl (k := 0) rfl (rn_inc i 1 (by decide)) (by decide) rfl (fun ls hl => ?_)
            refine lv_goto (tgt := 15) hx hb d_Mo_give_52 (by decide) ?_
            exact ih15 (i + 1) (uB u1 2 (32 * r + i) x3) _ _ _ (by first | assumption | omega) (by omega) ((by subst ex3; exact hq15.trans ((if_pos c2).trans rfl))) hP hD hS (lv_sub hl [0, 1, 2, 3, 4] rfl)
          refine lv_icmp_ne (tgt := 47) hx hb d_Mo_give_40 (by decide) (fun c4 => ?_) (fun c4 => ?_)
          · skip
            refine lv_iconst (v := 0) hx hb d_Mo_give_47 (by decide) ?_
            exact J48 false _ _ (Eq.symm ((if_neg c4).trans (rfl))) hP hD hS
          · skip
            refine lv_iconst (v := 1) hx hb d_Mo_give_43 (by decide) ?_
            refine lv_goto (tgt := 48) hx hb d_Mo_give_44 (by decide) ?_
            exact J48 true _ _ (Eq.symm ((if_pos c4).trans (rfl))) hP hD hS
    exact L15 33 0 (uI u 2 r v) _ _ _ (by first | assumption | omega) (by omega) (hq.trans ((if_neg c1).trans rfl)) hP hD hS (lv_sub hl [0, 1, 2, 3, 4] rfl)
  · skip
    have hE : res = u := hq.trans ((if_pos c1).trans rfl)
    exact retWv hx hb hr hP hK hD hS hE.symm d_Mo_give_4 hlocks
def w_Mo_has : List Cond := .code y_Mo_has b_Mo_has 2 (some .boolean) :: ALLW
def rm_Mo_has : Room := { frames := 20, cells := 0, slots := 0, locals := 600 }
theorem d_Mo_has_0 : decode b_Mo_has 0 = .ok (.iload_n 0, 1) := by decide +kernel
theorem d_Mo_has_1 : decode b_Mo_has 1 = .ok (.iload_n 1, 1) := by decide +kernel
theorem d_Mo_has_2 : decode b_Mo_has 2 = .ok (.ishr, 1) := by decide +kernel
theorem d_Mo_has_3 : decode b_Mo_has 3 = .ok (.iconst 1, 1) := by decide +kernel
theorem d_Mo_has_4 : decode b_Mo_has 4 = .ok (.iand, 1) := by decide +kernel
theorem d_Mo_has_5 : decode b_Mo_has 5 = .ok (.iconst 1, 1) := by decide +kernel
theorem d_Mo_has_6 : decode b_Mo_has 6 = .ok (.if_icmp .ne 7, 3) := by decide +kernel
theorem d_Mo_has_9 : decode b_Mo_has 9 = .ok (.iconst 1, 1) := by decide +kernel
theorem d_Mo_has_10 : decode b_Mo_has 10 = .ok (.goto 4, 3) := by decide +kernel
theorem d_Mo_has_13 : decode b_Mo_has 13 = .ok (.iconst 0, 1) := by decide +kernel
theorem d_Mo_has_14 : decode b_Mo_has 14 = .ok (.ireturn, 1) := by decide +kernel
def f_Mo_has (v : Int32) (i : Int32) : Bool := if ((v >>> (i &&& 31)) &&& (1 : Int32)) = 1 then true else false
set_option maxHeartbeats 8000000 in
set_option maxRecDepth 100000 in
theorem c_Mo_has (l : Launch) (v : Int32) (i : Int32) (sz : Nat) : Met l y_Mo_has w_Mo_has rm_Mo_has (PreP sz [.int v, .int i]) (QPi (fun q : Nat => sz ≤ q) (b2i (f_Mo_has v i))) 0 0 (fun q : Nat => sz ≤ q) := by
  generalize hres : f_Mo_has v i = res
  refine Met.ofW (cc := b_Mo_has) (maxL := 2) (ret := (some .boolean)) (by decide) rfl ?_
  intro p e s m args below meth c s₁ B hml hv
  obtain ⟨rfl, rfl⟩ := hv
  have hx := B.exec
  have hb := B.bytes
  have hr := B.returns
  have hts : ∀ w9 ∈ ALLW, w9.before ([.int v, .int i] : List Value).toArray s = true := fun w9 h => atoms_spec (ws := w_Mo_has) B.pre w9 (List.mem_cons_of_mem _ h)
  have hown : s.vm.findClass R_Mo = some m.cls := findClass_of_methodNamed B.named
  have hlocks := B.notSynchronized
  generalize hAe : (fun q : Nat => s.heap.size ≤ q) = A
  have hA : ∀ q : Nat, s.heap.size ≤ q → A q := fun q h => by rw [← hAe]; exact h
  have hS : va_S A s.heap s.heap [] := va_S.rf
  have hl := lv_entry ([.int v, .int i]) (n := 2) (Nat.le_of_ble_eq_true rfl)
  rw [lg_entry_eq]
  generalize (lg_sl ([.int v, .int i]) ++ List.replicate (2 - (lg_sl ([.int v, .int i])).length) Slot.unset).toArray = ls at hl ⊢
  have hl : lv_has ls 2 [(0, .int v), (1, .int i)] := hl
  have hq := hres.symm
  refine lv_iload_n hx hb d_Mo_has_0 rfl (lv_at hl 0 rfl) ?_
  refine lv_iload_n hx hb d_Mo_has_1 rfl (lv_at hl 1 rfl) ?_
  refine lv_ishr hx hb d_Mo_has_2 ?_
  refine lv_iconst (v := 1) hx hb d_Mo_has_3 (by decide) ?_
  refine lv_iand hx hb d_Mo_has_4 ?_
  refine lv_iconst (v := 1) hx hb d_Mo_has_5 (by decide) ?_
  refine lv_icmp_ne (tgt := 13) hx hb d_Mo_has_6 (by decide) (fun c1 => ?_) (fun c1 => ?_)
  · skip
    refine lv_iconst (v := 0) hx hb d_Mo_has_13 (by decide) ?_
    have hE : res = false := hq.trans ((if_neg c1).trans rfl)
    exact retPb (x := false) hx hb hr hS hE.symm d_Mo_has_14 hlocks
  · skip
    refine lv_iconst (v := 1) hx hb d_Mo_has_9 (by decide) ?_
    refine lv_goto (tgt := 14) hx hb d_Mo_has_10 (by decide) ?_
    have hE : res = true := hq.trans ((if_pos c1).trans rfl)
    exact retPb (x := true) hx hb hr hS hE.symm d_Mo_has_14 hlocks
def w_Mo_word : List Cond := .code y_Mo_word b_Mo_word 2 (some .int) :: ALLW
def rm_Mo_word : Room := { frames := 20, cells := 0, slots := 0, locals := 600 }
theorem d_Mo_word_0 : decode b_Mo_word 0 = .ok (.aload_n 0, 1) := by decide +kernel
theorem d_Mo_word_1 : decode b_Mo_word 1 = .ok (.getfield 14, 3) := by decide +kernel
theorem d_Mo_word_4 : decode b_Mo_word 4 = .ok (.iload_n 1, 1) := by decide +kernel
theorem d_Mo_word_5 : decode b_Mo_word 5 = .ok (.iaload, 1) := by decide +kernel
theorem d_Mo_word_6 : decode b_Mo_word 6 = .ok (.aload_n 0, 1) := by decide +kernel
theorem d_Mo_word_7 : decode b_Mo_word 7 = .ok (.getfield 14, 3) := by decide +kernel
theorem d_Mo_word_10 : decode b_Mo_word 10 = .ok (.iload_n 1, 1) := by decide +kernel
theorem d_Mo_word_11 : decode b_Mo_word 11 = .ok (.iconst 1, 1) := by decide +kernel
theorem d_Mo_word_12 : decode b_Mo_word 12 = .ok (.iadd, 1) := by decide +kernel
theorem d_Mo_word_13 : decode b_Mo_word 13 = .ok (.iaload, 1) := by decide +kernel
theorem d_Mo_word_14 : decode b_Mo_word 14 = .ok (.bipush 8, 2) := by decide +kernel
theorem d_Mo_word_16 : decode b_Mo_word 16 = .ok (.ishl, 1) := by decide +kernel
theorem d_Mo_word_17 : decode b_Mo_word 17 = .ok (.ior, 1) := by decide +kernel
theorem d_Mo_word_18 : decode b_Mo_word 18 = .ok (.aload_n 0, 1) := by decide +kernel
theorem d_Mo_word_19 : decode b_Mo_word 19 = .ok (.getfield 14, 3) := by decide +kernel
theorem d_Mo_word_22 : decode b_Mo_word 22 = .ok (.iload_n 1, 1) := by decide +kernel
theorem d_Mo_word_23 : decode b_Mo_word 23 = .ok (.iconst 2, 1) := by decide +kernel
theorem d_Mo_word_24 : decode b_Mo_word 24 = .ok (.iadd, 1) := by decide +kernel
theorem d_Mo_word_25 : decode b_Mo_word 25 = .ok (.iaload, 1) := by decide +kernel
theorem d_Mo_word_26 : decode b_Mo_word 26 = .ok (.bipush 16, 2) := by decide +kernel
theorem d_Mo_word_28 : decode b_Mo_word 28 = .ok (.ishl, 1) := by decide +kernel
theorem d_Mo_word_29 : decode b_Mo_word 29 = .ok (.ior, 1) := by decide +kernel
theorem d_Mo_word_30 : decode b_Mo_word 30 = .ok (.aload_n 0, 1) := by decide +kernel
theorem d_Mo_word_31 : decode b_Mo_word 31 = .ok (.getfield 14, 3) := by decide +kernel
theorem d_Mo_word_34 : decode b_Mo_word 34 = .ok (.iload_n 1, 1) := by decide +kernel
theorem d_Mo_word_35 : decode b_Mo_word 35 = .ok (.iconst 3, 1) := by decide +kernel
theorem d_Mo_word_36 : decode b_Mo_word 36 = .ok (.iadd, 1) := by decide +kernel
theorem d_Mo_word_37 : decode b_Mo_word 37 = .ok (.iaload, 1) := by decide +kernel
theorem d_Mo_word_38 : decode b_Mo_word 38 = .ok (.bipush 24, 2) := by decide +kernel
theorem d_Mo_word_40 : decode b_Mo_word 40 = .ok (.ishl, 1) := by decide +kernel
theorem d_Mo_word_41 : decode b_Mo_word 41 = .ok (.ior, 1) := by decide +kernel
theorem d_Mo_word_42 : decode b_Mo_word 42 = .ok (.ireturn, 1) := by decide +kernel
def f_Mo_word (at_ : Nat) (u : S5) : Int32 := (((aI u 1 at_) ||| ((aI u 1 (at_ + 1)) <<< ((8 : Int32) &&& 31))) ||| ((aI u 1 (at_ + 2)) <<< ((16 : Int32) &&& 31))) ||| ((aI u 1 (at_ + 3)) <<< ((24 : Int32) &&& 31))
set_option maxHeartbeats 8000000 in
set_option maxRecDepth 100000 in
theorem c_Mo_word (l : Launch) (dC : Nat → ClassId) (dI : Nat → Nat → Nat) (cI cZ : ClassId) (ad : Nat → Nat) (u : S5) (at_ : Nat) (ha : at_ + 4 ≤ 65536) (sz : Nat) : Met l y_Mo_word w_Mo_word rm_Mo_word (PreW (dC, dI) classes [(cI, .int), (cZ, .boolean)] (wM cI cZ ad) u sz [.ref (ad 0), .int (nI at_)]) (QWi (dC, dI) classes [(cI, .int), (cZ, .boolean)] (wM cI cZ ad) (va_A (wM cI cZ ad u) sz) (f_Mo_word at_ u) u) 0 0 (va_A (wM cI cZ ad u) sz) := by
  generalize hres : f_Mo_word at_ u = res
  refine Met.ofW (cc := b_Mo_word) (maxL := 2) (ret := (some .int)) (by decide) rfl ?_
  intro p e s m args below meth c s₁ B hml hv
  obtain ⟨rfl, rfl, hP, hK, hD0⟩ := hv
  have hx := B.exec
  have hb := B.bytes
  have hr := B.returns
  have hts : ∀ w9 ∈ ALLW, w9.before ([.ref (ad 0), .int (nI at_)] : List Value).toArray s = true := fun w9 h => atoms_spec (ws := w_Mo_word) B.pre w9 (List.mem_cons_of_mem _ h)
  have hown : s.vm.findClass R_Mo = some m.cls := findClass_of_methodNamed B.named
  have hlocks := B.notSynchronized
  have hD := hD0.self (sz := s.heap.size)
  generalize hAe : va_A (wM cI cZ ad u) s.heap.size = A at hD ⊢
  have hA : ∀ q : Nat, s.heap.size ≤ q → A q := fun q h => by rw [← hAe]; exact Or.inr h
  have hS : va_S A s.heap s.heap [] := va_S.rf
  have hl := lv_entry ([.ref (ad 0), .int (nI at_)]) (n := 2) (Nat.le_of_ble_eq_true rfl)
  rw [lg_entry_eq]
  generalize (lg_sl ([.ref (ad 0), .int (nI at_)]) ++ List.replicate (2 - (lg_sl ([.ref (ad 0), .int (nI at_)])).length) Slot.unset).toArray = ls at hl ⊢
  have hl : lv_has ls 2 [(0, .ref (ad 0)), (1, .int (nI at_))] := hl
  have hq := hres.symm
  skip
  refine lv_aload_n hx hb d_Mo_word_0 rfl (lv_at hl 0 rfl) ?_
  refine va_get (D := (dC, dI)) (ci := 8) (v := .ref (ad 2)) (C := R_Mo) (T := F_Mo) (N := 31) hx hb hts in_Mo hown hK hP 0 rfl rfl 2 (by decide) (hts _ m_13_32) (fun _ h9 => h9) rfl d_Mo_word_1 ?_
  refine lv_iload_n hx hb d_Mo_word_4 rfl (lv_at hl 1 rfl) ?_
  refine aldM_octet (u := u) (v := aI u 1 at_) hx hb hK hP (by omega) rfl d_Mo_word_5 ?_
  refine lv_aload_n hx hb d_Mo_word_6 rfl (lv_at hl 0 rfl) ?_
  refine va_get (D := (dC, dI)) (ci := 8) (v := .ref (ad 2)) (C := R_Mo) (T := F_Mo) (N := 31) hx hb hts in_Mo hown hK hP 0 rfl rfl 2 (by decide) (hts _ m_13_32) (fun _ h9 => h9) rfl d_Mo_word_7 ?_
  refine lv_iload_n hx hb d_Mo_word_10 rfl (lv_at hl 1 rfl) ?_
  refine lv_iconst (v := nI 1) hx hb d_Mo_word_11 (by decide) ?_
  refine lv_iadd hx hb d_Mo_word_12 ?_
  refine rw_top (y := nI (at_ + 1)) (nI_add at_ 1) ?_
  refine aldM_octet (u := u) (v := aI u 1 (at_ + 1)) hx hb hK hP (by omega) rfl d_Mo_word_13 ?_
  refine lv_bipush (v := 8) hx hb d_Mo_word_14 (by decide) ?_
  refine lv_ishl hx hb d_Mo_word_16 ?_
  refine lv_ior hx hb d_Mo_word_17 ?_
  refine lv_aload_n hx hb d_Mo_word_18 rfl (lv_at hl 0 rfl) ?_
  refine va_get (D := (dC, dI)) (ci := 8) (v := .ref (ad 2)) (C := R_Mo) (T := F_Mo) (N := 31) hx hb hts in_Mo hown hK hP 0 rfl rfl 2 (by decide) (hts _ m_13_32) (fun _ h9 => h9) rfl d_Mo_word_19 ?_
  refine lv_iload_n hx hb d_Mo_word_22 rfl (lv_at hl 1 rfl) ?_
  refine lv_iconst (v := nI 2) hx hb d_Mo_word_23 (by decide) ?_
  refine lv_iadd hx hb d_Mo_word_24 ?_
  refine rw_top (y := nI (at_ + 2)) (nI_add at_ 2) ?_
  refine aldM_octet (u := u) (v := aI u 1 (at_ + 2)) hx hb hK hP (by omega) rfl d_Mo_word_25 ?_
  refine lv_bipush (v := 16) hx hb d_Mo_word_26 (by decide) ?_
  refine lv_ishl hx hb d_Mo_word_28 ?_
  refine lv_ior hx hb d_Mo_word_29 ?_
  refine lv_aload_n hx hb d_Mo_word_30 rfl (lv_at hl 0 rfl) ?_
  refine va_get (D := (dC, dI)) (ci := 8) (v := .ref (ad 2)) (C := R_Mo) (T := F_Mo) (N := 31) hx hb hts in_Mo hown hK hP 0 rfl rfl 2 (by decide) (hts _ m_13_32) (fun _ h9 => h9) rfl d_Mo_word_31 ?_
  refine lv_iload_n hx hb d_Mo_word_34 rfl (lv_at hl 1 rfl) ?_
  refine lv_iconst (v := nI 3) hx hb d_Mo_word_35 (by decide) ?_
  refine lv_iadd hx hb d_Mo_word_36 ?_
  refine rw_top (y := nI (at_ + 3)) (nI_add at_ 3) ?_
  refine aldM_octet (u := u) (v := aI u 1 (at_ + 3)) hx hb hK hP (by omega) rfl d_Mo_word_37 ?_
  refine lv_bipush (v := 24) hx hb d_Mo_word_38 (by decide) ?_
  refine lv_ishl hx hb d_Mo_word_40 ?_
  refine lv_ior hx hb d_Mo_word_41 ?_
  have hE : res = (((aI u 1 at_) ||| ((aI u 1 (at_ + 1)) <<< ((8 : Int32) &&& 31))) ||| ((aI u 1 (at_ + 2)) <<< ((16 : Int32) &&& 31))) ||| ((aI u 1 (at_ + 3)) <<< ((24 : Int32) &&& 31)) := hq.trans (rfl)
  exact retWi (x := (((aI u 1 at_) ||| ((aI u 1 (at_ + 1)) <<< ((8 : Int32) &&& 31))) ||| ((aI u 1 (at_ + 2)) <<< ((16 : Int32) &&& 31))) ||| ((aI u 1 (at_ + 3)) <<< ((24 : Int32) &&& 31))) hx hb hr hP hK hD hS hE.symm rfl d_Mo_word_42 hlocks
def w_Mo_signed : List Cond := .code y_Mo_signed b_Mo_signed 2 (some .int) :: ALLW
def rm_Mo_signed : Room := { frames := 20, cells := 0, slots := 0, locals := 600 }
theorem d_Mo_signed_0 : decode b_Mo_signed 0 = .ok (.iload_n 0, 1) := by decide +kernel
theorem d_Mo_signed_1 : decode b_Mo_signed 1 = .ok (.bipush 32, 2) := by decide +kernel
theorem d_Mo_signed_3 : decode b_Mo_signed 3 = .ok (.iload_n 1, 1) := by decide +kernel
theorem d_Mo_signed_4 : decode b_Mo_signed 4 = .ok (.isub, 1) := by decide +kernel
theorem d_Mo_signed_5 : decode b_Mo_signed 5 = .ok (.ishl, 1) := by decide +kernel
theorem d_Mo_signed_6 : decode b_Mo_signed 6 = .ok (.bipush 32, 2) := by decide +kernel
theorem d_Mo_signed_8 : decode b_Mo_signed 8 = .ok (.iload_n 1, 1) := by decide +kernel
theorem d_Mo_signed_9 : decode b_Mo_signed 9 = .ok (.isub, 1) := by decide +kernel
theorem d_Mo_signed_10 : decode b_Mo_signed 10 = .ok (.ishr, 1) := by decide +kernel
theorem d_Mo_signed_11 : decode b_Mo_signed 11 = .ok (.ireturn, 1) := by decide +kernel
def f_Mo_signed (v : Int32) (n : Int32) : Int32 := (v <<< (((32 : Int32) - n) &&& 31)) >>> (((32 : Int32) - n) &&& 31)
set_option maxHeartbeats 8000000 in
set_option maxRecDepth 100000 in
theorem c_Mo_signed (l : Launch) (v : Int32) (n : Int32) (sz : Nat) : Met l y_Mo_signed w_Mo_signed rm_Mo_signed (PreP sz [.int v, .int n]) (QPi (fun q : Nat => sz ≤ q) (f_Mo_signed v n)) 0 0 (fun q : Nat => sz ≤ q) := by
  generalize hres : f_Mo_signed v n = res
  refine Met.ofW (cc := b_Mo_signed) (maxL := 2) (ret := (some .int)) (by decide) rfl ?_
  intro p e s m args below meth c s₁ B hml hv
  obtain ⟨rfl, rfl⟩ := hv
  have hx := B.exec
  have hb := B.bytes
  have hr := B.returns
  have hts : ∀ w9 ∈ ALLW, w9.before ([.int v, .int n] : List Value).toArray s = true := fun w9 h => atoms_spec (ws := w_Mo_signed) B.pre w9 (List.mem_cons_of_mem _ h)
  have hown : s.vm.findClass R_Mo = some m.cls := findClass_of_methodNamed B.named
  have hlocks := B.notSynchronized
  generalize hAe : (fun q : Nat => s.heap.size ≤ q) = A
  have hA : ∀ q : Nat, s.heap.size ≤ q → A q := fun q h => by rw [← hAe]; exact h
  have hS : va_S A s.heap s.heap [] := va_S.rf
  have hl := lv_entry ([.int v, .int n]) (n := 2) (Nat.le_of_ble_eq_true rfl)
  rw [lg_entry_eq]
  generalize (lg_sl ([.int v, .int n]) ++ List.replicate (2 - (lg_sl ([.int v, .int n])).length) Slot.unset).toArray = ls at hl ⊢
  have hl : lv_has ls 2 [(0, .int v), (1, .int n)] := hl
  have hq := hres.symm
  refine lv_iload_n hx hb d_Mo_signed_0 rfl (lv_at hl 0 rfl) ?_
  refine lv_bipush (v := 32) hx hb d_Mo_signed_1 (by decide) ?_
  refine lv_iload_n hx hb d_Mo_signed_3 rfl (lv_at hl 1 rfl) ?_
  refine lv_isub hx hb d_Mo_signed_4 ?_
  refine lv_ishl hx hb d_Mo_signed_5 ?_
  refine lv_bipush (v := 32) hx hb d_Mo_signed_6 (by decide) ?_
  refine lv_iload_n hx hb d_Mo_signed_8 rfl (lv_at hl 1 rfl) ?_
  refine lv_isub hx hb d_Mo_signed_9 ?_
  refine lv_ishr hx hb d_Mo_signed_10 ?_
  have hE : res = (v <<< (((32 : Int32) - n) &&& 31)) >>> (((32 : Int32) - n) &&& 31) := hq.trans (rfl)
  exact retPi (x := (v <<< (((32 : Int32) - n) &&& 31)) >>> (((32 : Int32) - n) &&& 31)) hx hb hr hS hE.symm d_Mo_signed_11 hlocks
def w_Mo_push : List Cond := .code y_Mo_push b_Mo_push 2 none :: ALLW
def rm_Mo_push : Room := { frames := 20, cells := 0, slots := 0, locals := 600 }
theorem d_Mo_push_0 : decode b_Mo_push 0 = .ok (.aload_n 0, 1) := by decide +kernel
theorem d_Mo_push_1 : decode b_Mo_push 1 = .ok (.getfield 109, 3) := by decide +kernel
theorem d_Mo_push_4 : decode b_Mo_push 4 = .ok (.bipush 32, 2) := by decide +kernel
theorem d_Mo_push_6 : decode b_Mo_push 6 = .ok (.if_icmp .ne 41, 3) := by decide +kernel
theorem d_Mo_push_9 : decode b_Mo_push 9 = .ok (.iconst 1, 1) := by decide +kernel
theorem d_Mo_push_10 : decode b_Mo_push 10 = .ok (.istore_n 1, 1) := by decide +kernel
theorem d_Mo_push_11 : decode b_Mo_push 11 = .ok (.iload_n 1, 1) := by decide +kernel
theorem d_Mo_push_12 : decode b_Mo_push 12 = .ok (.bipush 32, 2) := by decide +kernel
theorem d_Mo_push_14 : decode b_Mo_push 14 = .ok (.if_icmp .ge 23, 3) := by decide +kernel
theorem d_Mo_push_17 : decode b_Mo_push 17 = .ok (.aload_n 0, 1) := by decide +kernel
theorem d_Mo_push_18 : decode b_Mo_push 18 = .ok (.getfield 49, 3) := by decide +kernel
theorem d_Mo_push_21 : decode b_Mo_push 21 = .ok (.iload_n 1, 1) := by decide +kernel
theorem d_Mo_push_22 : decode b_Mo_push 22 = .ok (.iconst 1, 1) := by decide +kernel
theorem d_Mo_push_23 : decode b_Mo_push 23 = .ok (.isub, 1) := by decide +kernel
theorem d_Mo_push_24 : decode b_Mo_push 24 = .ok (.aload_n 0, 1) := by decide +kernel
theorem d_Mo_push_25 : decode b_Mo_push 25 = .ok (.getfield 49, 3) := by decide +kernel
theorem d_Mo_push_28 : decode b_Mo_push 28 = .ok (.iload_n 1, 1) := by decide +kernel
theorem d_Mo_push_29 : decode b_Mo_push 29 = .ok (.iaload, 1) := by decide +kernel
theorem d_Mo_push_30 : decode b_Mo_push 30 = .ok (.iastore, 1) := by decide +kernel
theorem d_Mo_push_31 : decode b_Mo_push 31 = .ok (.iinc 1 1, 3) := by decide +kernel
theorem d_Mo_push_34 : decode b_Mo_push 34 = .ok (.goto (-23), 3) := by decide +kernel
theorem d_Mo_push_37 : decode b_Mo_push 37 = .ok (.aload_n 0, 1) := by decide +kernel
theorem d_Mo_push_38 : decode b_Mo_push 38 = .ok (.dup, 1) := by decide +kernel
theorem d_Mo_push_39 : decode b_Mo_push 39 = .ok (.getfield 109, 3) := by decide +kernel
theorem d_Mo_push_42 : decode b_Mo_push 42 = .ok (.iconst 1, 1) := by decide +kernel
theorem d_Mo_push_43 : decode b_Mo_push 43 = .ok (.isub, 1) := by decide +kernel
theorem d_Mo_push_44 : decode b_Mo_push 44 = .ok (.putfield 109, 3) := by decide +kernel
theorem d_Mo_push_47 : decode b_Mo_push 47 = .ok (.aload_n 0, 1) := by decide +kernel
theorem d_Mo_push_48 : decode b_Mo_push 48 = .ok (.getfield 49, 3) := by decide +kernel
theorem d_Mo_push_51 : decode b_Mo_push 51 = .ok (.aload_n 0, 1) := by decide +kernel
theorem d_Mo_push_52 : decode b_Mo_push 52 = .ok (.dup, 1) := by decide +kernel
theorem d_Mo_push_53 : decode b_Mo_push 53 = .ok (.getfield 109, 3) := by decide +kernel
theorem d_Mo_push_56 : decode b_Mo_push 56 = .ok (.dup_x1, 1) := by decide +kernel
theorem d_Mo_push_57 : decode b_Mo_push 57 = .ok (.iconst 1, 1) := by decide +kernel
theorem d_Mo_push_58 : decode b_Mo_push 58 = .ok (.iadd, 1) := by decide +kernel
theorem d_Mo_push_59 : decode b_Mo_push 59 = .ok (.putfield 109, 3) := by decide +kernel
theorem d_Mo_push_62 : decode b_Mo_push 62 = .ok (.aload_n 0, 1) := by decide +kernel
theorem d_Mo_push_63 : decode b_Mo_push 63 = .ok (.getfield 82, 3) := by decide +kernel
theorem d_Mo_push_66 : decode b_Mo_push 66 = .ok (.iconst 4, 1) := by decide +kernel
theorem d_Mo_push_67 : decode b_Mo_push 67 = .ok (.iadd, 1) := by decide +kernel
theorem d_Mo_push_68 : decode b_Mo_push 68 = .ok (.iastore, 1) := by decide +kernel
theorem d_Mo_push_69 : decode b_Mo_push 69 = .ok (.return_, 1) := by decide +kernel
def f_Mo_push_47 (u : S5) (u2 : S5) : S5 := uI (sN u2 5 (gN u2 5 + 1)) 5 (gN u2 5) ((gI u2 1) + (4 : Int32))
def f_Mo_push_11 (u : S5) : Nat → Nat → S5 → S5
  | 0, i, u1 => u1
  | k11 + 1, i, u1 => if i < 32 then f_Mo_push_11 u k11 (i + 1) (uI u1 5 (i - 1) (aI u1 5 i)) else u1
def f_Mo_push (u : S5) : S5 := if (gN u 5) = 32 then (let v1 : S5 := f_Mo_push_11 u 33 1 u; f_Mo_push_47 u (sN v1 5 (gN v1 5 - 1))) else f_Mo_push_47 u u
set_option maxHeartbeats 8000000 in
set_option maxRecDepth 100000 in
theorem c_Mo_push (l : Launch) (dC : Nat → ClassId) (dI : Nat → Nat → Nat) (cI cZ : ClassId) (ad : Nat → Nat) (u : S5) (hd : gN u 5 ≤ 32) (sz : Nat) : Met l y_Mo_push w_Mo_push rm_Mo_push (PreW (dC, dI) classes [(cI, .int), (cZ, .boolean)] (wM cI cZ ad) u sz [.ref (ad 0)]) (QWv (dC, dI) classes [(cI, .int), (cZ, .boolean)] (wM cI cZ ad) (va_A (wM cI cZ ad u) sz) (f_Mo_push u)) 0 0 (va_A (wM cI cZ ad u) sz) := by
  generalize hres : f_Mo_push u = res
  refine Met.ofW (cc := b_Mo_push) (maxL := 2) (ret := none) (by decide) rfl ?_
  intro p e s m args below meth c s₁ B hml hv
  obtain ⟨rfl, rfl, hP, hK, hD0⟩ := hv
  have hx := B.exec
  have hb := B.bytes
  have hr := B.returns
  have hts : ∀ w9 ∈ ALLW, w9.before ([.ref (ad 0)] : List Value).toArray s = true := fun w9 h => atoms_spec (ws := w_Mo_push) B.pre w9 (List.mem_cons_of_mem _ h)
  have hown : s.vm.findClass R_Mo = some m.cls := findClass_of_methodNamed B.named
  have hlocks := B.notSynchronized
  have hD := hD0.self (sz := s.heap.size)
  generalize hAe : va_A (wM cI cZ ad u) s.heap.size = A at hD ⊢
  have hA : ∀ q : Nat, s.heap.size ≤ q → A q := fun q h => by rw [← hAe]; exact Or.inr h
  have hS : va_S A s.heap s.heap [] := va_S.rf
  have hl := lv_entry ([.ref (ad 0)]) (n := 2) (Nat.le_of_ble_eq_true rfl)
  rw [lg_entry_eq]
  generalize (lg_sl ([.ref (ad 0)]) ++ List.replicate (2 - (lg_sl ([.ref (ad 0)])).length) Slot.unset).toArray = ls at hl ⊢
  have hl : lv_has ls 2 [(0, .ref (ad 0))] := hl
  have hq := hres.symm
  skip
  refine lv_aload_n hx hb d_Mo_push_0 rfl (lv_at hl 0 rfl) ?_
  refine va_get (D := (dC, dI)) (ci := 8) (v := .int (nI (gN u 5))) (C := R_Mo) (T := F_Mo) (N := 31) hx hb hts in_Mo hown hK hP 0 rfl rfl 24 (by decide) (hts _ m_14_14) (fun _ h9 => h9) rfl d_Mo_push_1 ?_
  refine lv_bipush (v := nI 32) hx hb d_Mo_push_4 (by decide) ?_
  have J47 : ∀ (u2 : S5) (H : Heap) (locs : List Loc) (ls : Array Slot), res = f_Mo_push_47 u u2 → (gN u2 5 ≤ 31) → va_P (dC, dI) classes (wM cI cZ ad u2) H → va_D A (wM cI cZ ad u2) → va_S A s.heap H locs → lv_has ls 2 [(0, .ref (ad 0))] → W p l e (headSpec w_Mo_push rm_Mo_push).room s m ([.ref (ad 0)] : List Value).toArray below meth c H locs 0 0 (MQ below (QWv (dC, dI) classes [(cI, .int), (cZ, .boolean)] (wM cI cZ ad) A res) ([.ref (ad 0)] : List Value).toArray s 0 0 A) (F0 m 47 ls []) := by
    intro u2 H locs ls hq k5 hP hD hS hl
    refine lv_aload_n hx hb d_Mo_push_47 rfl (lv_at hl 0 rfl) ?_
    refine va_get (D := (dC, dI)) (ci := 8) (v := .ref (ad 13)) (C := R_Mo) (T := F_Mo) (N := 31) hx hb hts in_Mo hown hK hP 0 rfl rfl 20 (by decide) (hts _ m_14_10) (fun _ h9 => h9) rfl d_Mo_push_48 ?_
    refine lv_aload_n hx hb d_Mo_push_51 rfl (lv_at hl 0 rfl) ?_
    refine lv_dup hx hb d_Mo_push_52 rfl ?_
    refine va_get (D := (dC, dI)) (ci := 8) (v := .int (nI (gN u2 5))) (C := R_Mo) (T := F_Mo) (N := 31) hx hb hts in_Mo hown hK hP 0 rfl rfl 24 (by decide) (hts _ m_14_14) (fun _ h9 => h9) rfl d_Mo_push_53 ?_
    refine lv_dup_x1 hx hb d_Mo_push_56 rfl rfl ?_
    refine lv_iconst (v := nI 1) hx hb d_Mo_push_57 (by decide) ?_
    refine lv_iadd hx hb d_Mo_push_58 ?_
    refine rw_top (y := nI (gN u2 5 + 1)) (nI_add (gN u2 5) 1) ?_
    refine va_put (D := (dC, dI)) (ci := 8) (v := .int (nI (gN u2 5 + 1))) (ty := .int) (C := R_Mo) (T := F_Mo) (N := 31) hx hb hts in_Mo t_Mo t_Mo_ok n_Mo hown hK hP hD hS 0 rfl rfl 24 (by decide) (hts _ m_14_14) (fun _ h9 => h9) rfl (by decide +kernel) rfl rfl (Nat.le_of_ble_eq_true rfl) d_Mo_push_59 (fun H locs hP hD hS => ?_)
    have hP : va_P (dC, dI) classes (wM cI cZ ad (sN u2 5 (gN u2 5 + 1))) H := hP
    have hD : va_D A (wM cI cZ ad (sN u2 5 (gN u2 5 + 1))) := hD
    refine lv_aload_n hx hb d_Mo_push_62 rfl (lv_at hl 0 rfl) ?_
    refine va_get (D := (dC, dI)) (ci := 8) (v := .int (gI u2 1)) (C := R_Mo) (T := F_Mo) (N := 31) hx hb hts in_Mo hown hK hP 0 rfl rfl 7 (by decide) (hts _ m_13_37) (fun _ h9 => h9) rfl d_Mo_push_63 ?_
    refine lv_iconst (v := 4) hx hb d_Mo_push_66 (by decide) ?_
    refine lv_iadd hx hb d_Mo_push_67 ?_
    refine astM_returns (u := (sN u2 5 (gN u2 5 + 1))) (n := gN u2 5) hx hb hK hP hD hS (by omega) d_Mo_push_68 (fun H locs hP hD hS => ?_)
    have hE : res = uI (sN u2 5 (gN u2 5 + 1)) 5 (gN u2 5) ((gI u2 1) + (4 : Int32)) := hq.trans (rfl)
    exact retWv hx hb hr hP hK hD hS hE.symm d_Mo_push_69 hlocks
  refine rn_ne (tgt := 47) hx hb (by omega) (by omega) d_Mo_push_6 (by decide) (fun c1 => ?_) (fun c1 => ?_)
  · skip
    exact J47 u _ _ _ (hq.trans ((if_neg c1).trans rfl)) (by first | omega | (show gN v1 5 - 1 ≤ 31; omega)) hP hD hS (lv_sub hl [0] rfl)
  · skip
    refine lv_iconst (v := nI 1) hx hb d_Mo_push_9 (by decide) ?_
    refine lv_istore_n (lv' := [(1, .int (nI 1)), (0, .ref (ad 0))]) hx hb d_Mo_push_10 rfl hl (by decide) rfl (fun ls hl => ?_)
    obtain ⟨o11, ho11⟩ : ∃ z : S5, z = f_Mo_push_11 u 33 1 u := ⟨_, rfl⟩
    have K11 : ∀ (v1 : S5) (H : Heap) (locs : List Loc) (ls : Array Slot), v1 = o11 → (gN v1 5 = gN u 5) → va_P (dC, dI) classes (wM cI cZ ad v1) H → va_D A (wM cI cZ ad v1) → va_S A s.heap H locs → lv_has ls 2 [(0, .ref (ad 0))] → W p l e (headSpec w_Mo_push rm_Mo_push).room s m ([.ref (ad 0)] : List Value).toArray below meth c H locs 0 0 (MQ below (QWv (dC, dI) classes [(cI, .int), (cZ, .boolean)] (wM cI cZ ad) A res) ([.ref (ad 0)] : List Value).toArray s 0 0 A) (F0 m 37 ls []) := by
      intro v1 H locs ls eo h5 hP hD hS hl
      have ev1 := eo
      refine lv_aload_n hx hb d_Mo_push_37 rfl (lv_at hl 0 rfl) ?_
      refine lv_dup hx hb d_Mo_push_38 rfl ?_
      refine va_get (D := (dC, dI)) (ci := 8) (v := .int (nI (gN v1 5))) (C := R_Mo) (T := F_Mo) (N := 31) hx hb hts in_Mo hown hK hP 0 rfl rfl 24 (by decide) (hts _ m_14_14) (fun _ h9 => h9) rfl d_Mo_push_39 ?_
      refine lv_iconst (v := nI 1) hx hb d_Mo_push_42 (by decide) ?_
      refine lv_isub hx hb d_Mo_push_43 ?_
      refine rw_top (y := nI (gN v1 5 - 1)) (pk_sub (by omega)) ?_
      refine va_put (D := (dC, dI)) (ci := 8) (v := .int (nI (gN v1 5 - 1))) (ty := .int) (C := R_Mo) (T := F_Mo) (N := 31) hx hb hts in_Mo t_Mo t_Mo_ok n_Mo hown hK hP hD hS 0 rfl rfl 24 (by decide) (hts _ m_14_14) (fun _ h9 => h9) rfl (by decide +kernel) rfl rfl (Nat.le_of_ble_eq_true rfl) d_Mo_push_44 (fun H locs hP hD hS => ?_)
      have hP : va_P (dC, dI) classes (wM cI cZ ad (sN v1 5 (gN v1 5 - 1))) H := hP
      have hD : va_D A (wM cI cZ ad (sN v1 5 (gN v1 5 - 1))) := hD
      exact J47 (sN v1 5 (gN v1 5 - 1)) _ _ _ ((by subst ev1; subst ho11; exact hq.trans ((if_pos c1).trans rfl))) (by first | omega | (show gN v1 5 - 1 ≤ 31; omega)) hP hD hS (lv_sub hl [0] rfl)
    have L11 : ∀ (k : Nat) (i : Nat) (u1 : S5) (H : Heap) (locs : List Loc) (ls : Array Slot), (1 ≤ i ∧ i ≤ 32) → (gN u1 5 = gN u 5) → (32 - i) < k → o11 = f_Mo_push_11 u k i u1 → va_P (dC, dI) classes (wM cI cZ ad u1) H → va_D A (wM cI cZ ad u1) → va_S A s.heap H locs → lv_has ls 2 [(1, .int (nI i)), (0, .ref (ad 0))] → W p l e (headSpec w_Mo_push rm_Mo_push).room s m ([.ref (ad 0)] : List Value).toArray below meth c H locs 0 0 (MQ below (QWv (dC, dI) classes [(cI, .int), (cZ, .boolean)] (wM cI cZ ad) A res) ([.ref (ad 0)] : List Value).toArray s 0 0 A) (F0 m 11 ls []) := by
      intro k
      induction k with
      | zero => intro i u1 H locs ls hi g5 hm; exact absurd hm (Nat.not_lt_zero _)
      | succ k11 ih11 =>
        intro i u1 H locs ls hi g5 hm hq11 hP hD hS hl
        obtain ⟨hi1, hi2⟩ := hi
        refine lv_iload_n hx hb d_Mo_push_11 rfl (lv_at hl 0 rfl) ?_
        refine lv_bipush (v := nI 32) hx hb d_Mo_push_12 (by decide) ?_
        refine rn_ge (tgt := 37) hx hb (by omega) (by omega) d_Mo_push_14 (by decide) (fun c2 => ?_) (fun c2 => ?_)
        · skip
          exact K11 u1 _ _ _ (Eq.symm (hq11.trans ((if_neg (Nat.not_lt.mpr c2)).trans rfl))) g5 hP hD hS (lv_sub hl [1] rfl)
        · skip
          refine lv_aload_n hx hb d_Mo_push_17 rfl (lv_at hl 1 rfl) ?_
          refine va_get (D := (dC, dI)) (ci := 8) (v := .ref (ad 13)) (C := R_Mo) (T := F_Mo) (N := 31) hx hb hts in_Mo hown hK hP 0 rfl rfl 20 (by decide) (hts _ m_14_10) (fun _ h9 => h9) rfl d_Mo_push_18 ?_
          refine lv_iload_n hx hb d_Mo_push_21 rfl (lv_at hl 0 rfl) ?_
          refine lv_iconst (v := nI 1) hx hb d_Mo_push_22 (by decide) ?_
          refine lv_isub hx hb d_Mo_push_23 ?_
          refine rw_top (y := nI (i - 1)) (pk_sub (by omega)) ?_
          refine lv_aload_n hx hb d_Mo_push_24 rfl (lv_at hl 1 rfl) ?_
          refine va_get (D := (dC, dI)) (ci := 8) (v := .ref (ad 13)) (C := R_Mo) (T := F_Mo) (N := 31) hx hb hts in_Mo hown hK hP 0 rfl rfl 20 (by decide) (hts _ m_14_10) (fun _ h9 => h9) rfl d_Mo_push_25 ?_
          refine lv_iload_n hx hb d_Mo_push_28 rfl (lv_at hl 0 rfl) ?_
          refine aldM_returns (u := u1) (v := aI u1 5 i) hx hb hK hP (by omega) rfl d_Mo_push_29 ?_
          refine astM_returns (u := u1) (n := i - 1) hx hb hK hP hD hS (by omega) d_Mo_push_30 (fun H locs hP hD hS => ?_)
          refine lv_iinc (v := nI (i + 1)) (lv' := [(1, .int (nI (i + 1))), (0, .ref (ad 0))]) hx hb d_Mo_push_31 hl (k := 0) rfl (rn_inc i 1 (by decide)) (by decide) rfl (fun ls hl => ?_)
          refine lv_goto (tgt := 11) hx hb d_Mo_push_34 (by decide) ?_
          exact ih11 (i + 1) (uI u1 5 (i - 1) (aI u1 5 i)) _ _ _ ⟨by omega, by omega⟩ g5 (by omega) (hq11.trans ((if_pos c2).trans rfl)) hP hD hS (lv_sub hl [0, 1] rfl)
    exact L11 33 1 u _ _ _ ⟨by omega, by omega⟩ rfl (by omega) (ho11) hP hD hS (lv_sub hl [0, 1] rfl)
def w_Mo_beyond : List Cond := .code y_Mo_beyond b_Mo_beyond 2 (some .boolean) :: ALLW
def rm_Mo_beyond : Room := { frames := 20, cells := 0, slots := 0, locals := 600 }
theorem d_Mo_beyond_0 : decode b_Mo_beyond 0 = .ok (.iload_n 0, 1) := by decide +kernel
theorem d_Mo_beyond_1 : decode b_Mo_beyond 1 = .ok (.ifCond .lt 11, 3) := by decide +kernel
theorem d_Mo_beyond_4 : decode b_Mo_beyond 4 = .ok (.iload_n 0, 1) := by decide +kernel
theorem d_Mo_beyond_5 : decode b_Mo_beyond 5 = .ok (.ldc 13, 2) := by decide +kernel
theorem d_Mo_beyond_7 : decode b_Mo_beyond 7 = .ok (.iload_n 1, 1) := by decide +kernel
theorem d_Mo_beyond_8 : decode b_Mo_beyond 8 = .ok (.isub, 1) := by decide +kernel
theorem d_Mo_beyond_9 : decode b_Mo_beyond 9 = .ok (.if_icmp .le 7, 3) := by decide +kernel
theorem d_Mo_beyond_12 : decode b_Mo_beyond 12 = .ok (.iconst 1, 1) := by decide +kernel
theorem d_Mo_beyond_13 : decode b_Mo_beyond 13 = .ok (.goto 4, 3) := by decide +kernel
theorem d_Mo_beyond_16 : decode b_Mo_beyond 16 = .ok (.iconst 0, 1) := by decide +kernel
theorem d_Mo_beyond_17 : decode b_Mo_beyond 17 = .ok (.ireturn, 1) := by decide +kernel
def f_Mo_beyond (at_ : Int32) (n : Nat) : Bool := let x1 : Bool := if at_ < 0 then true else if at_ ≤ (nI (65536 - n)) then false else true; x1
set_option maxHeartbeats 8000000 in
set_option maxRecDepth 100000 in
theorem c_Mo_beyond (l : Launch) (at_ : Int32) (n : Nat) (hn : n ≤ 65536) (sz : Nat) : Met l y_Mo_beyond w_Mo_beyond rm_Mo_beyond (PreP sz [.int at_, .int (nI n)]) (QPi (fun q : Nat => sz ≤ q) (b2i (f_Mo_beyond at_ n))) 0 0 (fun q : Nat => sz ≤ q) := by
  generalize hres : f_Mo_beyond at_ n = res
  refine Met.ofW (cc := b_Mo_beyond) (maxL := 2) (ret := (some .boolean)) (by decide) rfl ?_
  intro p e s m args below meth c s₁ B hml hv
  obtain ⟨rfl, rfl⟩ := hv
  have hx := B.exec
  have hb := B.bytes
  have hr := B.returns
  have hts : ∀ w9 ∈ ALLW, w9.before ([.int at_, .int (nI n)] : List Value).toArray s = true := fun w9 h => atoms_spec (ws := w_Mo_beyond) B.pre w9 (List.mem_cons_of_mem _ h)
  have hown : s.vm.findClass R_Mo = some m.cls := findClass_of_methodNamed B.named
  have hlocks := B.notSynchronized
  generalize hAe : (fun q : Nat => s.heap.size ≤ q) = A
  have hA : ∀ q : Nat, s.heap.size ≤ q → A q := fun q h => by rw [← hAe]; exact h
  have hS : va_S A s.heap s.heap [] := va_S.rf
  have hl := lv_entry ([.int at_, .int (nI n)]) (n := 2) (Nat.le_of_ble_eq_true rfl)
  rw [lg_entry_eq]
  generalize (lg_sl ([.int at_, .int (nI n)]) ++ List.replicate (2 - (lg_sl ([.int at_, .int (nI n)])).length) Slot.unset).toArray = ls at hl ⊢
  have hl : lv_has ls 2 [(0, .int at_), (1, .int (nI n))] := hl
  have hq := hres.symm
  refine lv_iload_n hx hb d_Mo_beyond_0 rfl (lv_at hl 0 rfl) ?_
  have J17 : ∀ (x1 : Bool) (H : Heap) (locs : List Loc), x1 = (if at_ < 0 then true else if at_ ≤ (nI (65536 - n)) then false else true) → va_S A s.heap H locs → W p l e (headSpec w_Mo_beyond rm_Mo_beyond).room s m ([.int at_, .int (nI n)] : List Value).toArray below meth c H locs 0 0 (MQ below (QPi A (b2i res)) ([.int at_, .int (nI n)] : List Value).toArray s 0 0 A) (F0 m 17 ls [.int (b2i x1)]) := by
    intro x1 H locs ex1 hS
    have hE : res = x1 := (by subst ex1; exact hq.trans (rfl))
    exact retPb (x := x1) hx hb hr hS hE.symm d_Mo_beyond_17 hlocks
  refine lv_if_lt (tgt := 12) hx hb d_Mo_beyond_1 (by decide) (fun c2 => ?_) (fun c2 => ?_)
  · skip
    refine lv_iconst (v := 1) hx hb d_Mo_beyond_12 (by decide) ?_
    refine lv_goto (tgt := 17) hx hb d_Mo_beyond_13 (by decide) ?_
    exact J17 true _ _ (Eq.symm ((if_pos c2).trans (rfl))) hS
  · skip
    refine lv_iload_n hx hb d_Mo_beyond_4 rfl (lv_at hl 0 rfl) ?_
    refine lv_ldc (v := 65536) hx hb hown (hts _ m_13_23) d_Mo_beyond_5 ?_
    refine rw_top (y := nI 65536) (by decide) ?_
    refine lv_iload_n hx hb d_Mo_beyond_7 rfl (lv_at hl 1 rfl) ?_
    refine lv_isub hx hb d_Mo_beyond_8 ?_
    refine rw_top (y := nI (65536 - n)) (pk_sub (by omega)) ?_
    refine lv_icmp_le (tgt := 16) hx hb d_Mo_beyond_9 (by decide) (fun c3 => ?_) (fun c3 => ?_)
    · skip
      refine lv_iconst (v := 0) hx hb d_Mo_beyond_16 (by decide) ?_
      exact J17 false _ _ (Eq.symm ((if_neg c2).trans ((if_pos c3).trans (rfl)))) hS
    · skip
      refine lv_iconst (v := 1) hx hb d_Mo_beyond_12 (by decide) ?_
      refine lv_goto (tgt := 17) hx hb d_Mo_beyond_13 (by decide) ?_
      exact J17 true _ _ (Eq.symm ((if_neg c2).trans ((if_neg c3).trans (rfl)))) hS
def w_Mo_shut : List Cond := .code y_Mo_shut b_Mo_shut 4 (some .int) :: ALLW
def rm_Mo_shut : Room := { frames := 20, cells := 0, slots := 0, locals := 600 }
theorem d_Mo_shut_0 : decode b_Mo_shut 0 = .ok (.iconst 0, 1) := by decide +kernel
theorem d_Mo_shut_1 : decode b_Mo_shut 1 = .ok (.istore_n 3, 1) := by decide +kernel
theorem d_Mo_shut_2 : decode b_Mo_shut 2 = .ok (.iload_n 3, 1) := by decide +kernel
theorem d_Mo_shut_3 : decode b_Mo_shut 3 = .ok (.iload_n 2, 1) := by decide +kernel
theorem d_Mo_shut_4 : decode b_Mo_shut 4 = .ok (.if_icmp .ge 24, 3) := by decide +kernel
theorem d_Mo_shut_7 : decode b_Mo_shut 7 = .ok (.aload_n 0, 1) := by decide +kernel
theorem d_Mo_shut_8 : decode b_Mo_shut 8 = .ok (.getfield 20, 3) := by decide +kernel
theorem d_Mo_shut_11 : decode b_Mo_shut 11 = .ok (.iload_n 1, 1) := by decide +kernel
theorem d_Mo_shut_12 : decode b_Mo_shut 12 = .ok (.iload_n 3, 1) := by decide +kernel
theorem d_Mo_shut_13 : decode b_Mo_shut 13 = .ok (.iadd, 1) := by decide +kernel
theorem d_Mo_shut_14 : decode b_Mo_shut 14 = .ok (.baload, 1) := by decide +kernel
theorem d_Mo_shut_15 : decode b_Mo_shut 15 = .ok (.ifCond .ne 7, 3) := by decide +kernel
theorem d_Mo_shut_18 : decode b_Mo_shut 18 = .ok (.iload_n 1, 1) := by decide +kernel
theorem d_Mo_shut_19 : decode b_Mo_shut 19 = .ok (.iload_n 3, 1) := by decide +kernel
theorem d_Mo_shut_20 : decode b_Mo_shut 20 = .ok (.iadd, 1) := by decide +kernel
theorem d_Mo_shut_21 : decode b_Mo_shut 21 = .ok (.ireturn, 1) := by decide +kernel
theorem d_Mo_shut_22 : decode b_Mo_shut 22 = .ok (.iinc 3 1, 3) := by decide +kernel
theorem d_Mo_shut_25 : decode b_Mo_shut 25 = .ok (.goto (-23), 3) := by decide +kernel
theorem d_Mo_shut_28 : decode b_Mo_shut 28 = .ok (.iconst (-1), 1) := by decide +kernel
theorem d_Mo_shut_29 : decode b_Mo_shut 29 = .ok (.ireturn, 1) := by decide +kernel
def f_Mo_shut_2 (at_ : Nat) (n : Nat) (u : S5) : Nat → Nat → Int32
  | 0, i => 0
  | k2 + 1, i => if i < n then (if (aB u 0 (at_ + i)) = true then f_Mo_shut_2 at_ n u k2 (i + 1) else nI (at_ + i)) else (-1)
def f_Mo_shut (at_ : Nat) (n : Nat) (u : S5) : Int32 := f_Mo_shut_2 at_ n u (n + 1) 0
set_option maxHeartbeats 8000000 in
set_option maxRecDepth 100000 in
theorem c_Mo_shut (l : Launch) (dC : Nat → ClassId) (dI : Nat → Nat → Nat) (cI cZ : ClassId) (ad : Nat → Nat) (u : S5) (at_ : Nat) (n : Nat) (ha : at_ + n ≤ 65536) (sz : Nat) : Met l y_Mo_shut w_Mo_shut rm_Mo_shut (PreW (dC, dI) classes [(cI, .int), (cZ, .boolean)] (wM cI cZ ad) u sz [.ref (ad 0), .int (nI at_), .int (nI n)]) (QWi (dC, dI) classes [(cI, .int), (cZ, .boolean)] (wM cI cZ ad) (va_A (wM cI cZ ad u) sz) (f_Mo_shut at_ n u) u) 0 0 (va_A (wM cI cZ ad u) sz) := by
  generalize hres : f_Mo_shut at_ n u = res
  refine Met.ofW (cc := b_Mo_shut) (maxL := 4) (ret := (some .int)) (by decide) rfl ?_
  intro p e s m args below meth c s₁ B hml hv
  obtain ⟨rfl, rfl, hP, hK, hD0⟩ := hv
  have hx := B.exec
  have hb := B.bytes
  have hr := B.returns
  have hts : ∀ w9 ∈ ALLW, w9.before ([.ref (ad 0), .int (nI at_), .int (nI n)] : List Value).toArray s = true := fun w9 h => atoms_spec (ws := w_Mo_shut) B.pre w9 (List.mem_cons_of_mem _ h)
  have hown : s.vm.findClass R_Mo = some m.cls := findClass_of_methodNamed B.named
  have hlocks := B.notSynchronized
  have hD := hD0.self (sz := s.heap.size)
  generalize hAe : va_A (wM cI cZ ad u) s.heap.size = A at hD ⊢
  have hA : ∀ q : Nat, s.heap.size ≤ q → A q := fun q h => by rw [← hAe]; exact Or.inr h
  have hS : va_S A s.heap s.heap [] := va_S.rf
  have hl := lv_entry ([.ref (ad 0), .int (nI at_), .int (nI n)]) (n := 4) (Nat.le_of_ble_eq_true rfl)
  rw [lg_entry_eq]
  generalize (lg_sl ([.ref (ad 0), .int (nI at_), .int (nI n)]) ++ List.replicate (4 - (lg_sl ([.ref (ad 0), .int (nI at_), .int (nI n)])).length) Slot.unset).toArray = ls at hl ⊢
  have hl : lv_has ls 4 [(0, .ref (ad 0)), (1, .int (nI at_)), (2, .int (nI n))] := hl
  have hq := hres.symm
  skip
  refine lv_iconst (v := nI 0) hx hb d_Mo_shut_0 (by decide) ?_
  refine lv_istore_n (lv' := [(3, .int (nI 0)), (0, .ref (ad 0)), (1, .int (nI at_)), (2, .int (nI n))]) hx hb d_Mo_shut_1 rfl hl (by decide) rfl (fun ls hl => ?_)
  have L2 : ∀ (k : Nat) (i : Nat) (H : Heap) (locs : List Loc) (ls : Array Slot), (i ≤ n) → (n - i) < k → res = f_Mo_shut_2 at_ n u k i → va_P (dC, dI) classes (wM cI cZ ad u) H → va_D A (wM cI cZ ad u) → va_S A s.heap H locs → lv_has ls 4 [(3, .int (nI i)), (0, .ref (ad 0)), (1, .int (nI at_)), (2, .int (nI n))] → W p l e (headSpec w_Mo_shut rm_Mo_shut).room s m ([.ref (ad 0), .int (nI at_), .int (nI n)] : List Value).toArray below meth c H locs 0 0 (MQ below (QWi (dC, dI) classes [(cI, .int), (cZ, .boolean)] (wM cI cZ ad) A res u) ([.ref (ad 0), .int (nI at_), .int (nI n)] : List Value).toArray s 0 0 A) (F0 m 2 ls []) := by
    intro k
    induction k with
    | zero => intro i H locs ls hi hm; exact absurd hm (Nat.not_lt_zero _)
    | succ k2 ih2 =>
      intro i H locs ls hi hm hq2 hP hD hS hl
      refine lv_iload_n hx hb d_Mo_shut_2 rfl (lv_at hl 0 rfl) ?_
      refine lv_iload_n hx hb d_Mo_shut_3 rfl (lv_at hl 3 rfl) ?_
      refine rn_ge (tgt := 28) hx hb (by omega) (by omega) d_Mo_shut_4 (by decide) (fun c1 => ?_) (fun c1 => ?_)
      · skip
        refine lv_iconst (v := (-1)) hx hb d_Mo_shut_28 (by decide) ?_
        have hE : res = (-1) := hq2.trans ((if_neg (Nat.not_lt.mpr c1)).trans rfl)
        exact retWi (x := (-1)) hx hb hr hP hK hD hS hE.symm rfl d_Mo_shut_29 hlocks
      · skip
        refine lv_aload_n hx hb d_Mo_shut_7 rfl (lv_at hl 1 rfl) ?_
        refine va_get (D := (dC, dI)) (ci := 8) (v := .ref (ad 4)) (C := R_Mo) (T := F_Mo) (N := 31) hx hb hts in_Mo hown hK hP 0 rfl rfl 4 (by decide) (hts _ m_13_34) (fun _ h9 => h9) rfl d_Mo_shut_8 ?_
        refine lv_iload_n hx hb d_Mo_shut_11 rfl (lv_at hl 2 rfl) ?_
        refine lv_iload_n hx hb d_Mo_shut_12 rfl (lv_at hl 0 rfl) ?_
        refine lv_iadd hx hb d_Mo_shut_13 ?_
        refine rw_top (y := nI (at_ + i)) (nI_add at_ i) ?_
        refine aldM_open (u := u) (v := aB u 0 (at_ + i)) hx hb hK hP (by omega) rfl d_Mo_shut_14 ?_
        refine rb_ne (tgt := 22) hx hb d_Mo_shut_15 (by decide) (fun c2 => ?_) (fun c2 => ?_)
        · skip
          refine lv_iinc (v := nI (i + 1)) (lv' := [(3, .int (nI (i + 1))), (0, .ref (ad 0)), (1, .int (nI at_)), (2, .int (nI n))]) hx hb d_Mo_shut_22 hl (k := 0) rfl (rn_inc i 1 (by decide)) (by decide) rfl (fun ls hl => ?_)
          refine lv_goto (tgt := 2) hx hb d_Mo_shut_25 (by decide) ?_
          exact ih2 (i + 1) _ _ _ (by first | assumption | omega) (by omega) (hq2.trans ((if_pos c1).trans ((if_pos c2).trans rfl))) hP hD hS (lv_sub hl [0, 1, 2, 3] rfl)
        · skip
          refine lv_iload_n hx hb d_Mo_shut_18 rfl (lv_at hl 2 rfl) ?_
          refine lv_iload_n hx hb d_Mo_shut_19 rfl (lv_at hl 0 rfl) ?_
          refine lv_iadd hx hb d_Mo_shut_20 ?_
          refine rw_top (y := nI (at_ + i)) (nI_add at_ i) ?_
          have hE : res = nI (at_ + i) := hq2.trans ((if_pos c1).trans ((if_neg c2).trans rfl))
          exact retWi (x := nI (at_ + i)) hx hb hr hP hK hD hS hE.symm rfl d_Mo_shut_21 hlocks
  exact L2 (n + 1) 0 _ _ _ (by first | assumption | omega) (by omega) (hq.trans (rfl)) hP hD hS (lv_sub hl [0, 1, 2, 3] rfl)
def w_Mo_fault : List Cond := .code y_Mo_fault b_Mo_fault 4 none :: ALLW
def rm_Mo_fault : Room := { frames := 20, cells := 0, slots := 0, locals := 600 }
theorem d_Mo_fault_0 : decode b_Mo_fault 0 = .ok (.aload_n 0, 1) := by decide +kernel
theorem d_Mo_fault_1 : decode b_Mo_fault 1 = .ok (.dup, 1) := by decide +kernel
theorem d_Mo_fault_2 : decode b_Mo_fault 2 = .ok (.getfield 94, 3) := by decide +kernel
theorem d_Mo_fault_5 : decode b_Mo_fault 5 = .ok (.iconst 1, 1) := by decide +kernel
theorem d_Mo_fault_6 : decode b_Mo_fault 6 = .ok (.iadd, 1) := by decide +kernel
theorem d_Mo_fault_7 : decode b_Mo_fault 7 = .ok (.putfield 94, 3) := by decide +kernel
theorem d_Mo_fault_10 : decode b_Mo_fault 10 = .ok (.iload_n 1, 1) := by decide +kernel
theorem d_Mo_fault_11 : decode b_Mo_fault 11 = .ok (.bipush 8, 2) := by decide +kernel
theorem d_Mo_fault_13 : decode b_Mo_fault 13 = .ok (.if_icmp .eq 43, 3) := by decide +kernel
theorem d_Mo_fault_16 : decode b_Mo_fault 16 = .ok (.iconst 0, 1) := by decide +kernel
theorem d_Mo_fault_17 : decode b_Mo_fault 17 = .ok (.istore_n 3, 1) := by decide +kernel
theorem d_Mo_fault_18 : decode b_Mo_fault 18 = .ok (.iload_n 3, 1) := by decide +kernel
theorem d_Mo_fault_19 : decode b_Mo_fault 19 = .ok (.aload_n 0, 1) := by decide +kernel
theorem d_Mo_fault_20 : decode b_Mo_fault 20 = .ok (.getfield 112, 3) := by decide +kernel
theorem d_Mo_fault_23 : decode b_Mo_fault 23 = .ok (.if_icmp .ge 33, 3) := by decide +kernel
theorem d_Mo_fault_26 : decode b_Mo_fault 26 = .ok (.aload_n 0, 1) := by decide +kernel
theorem d_Mo_fault_27 : decode b_Mo_fault 27 = .ok (.getfield 52, 3) := by decide +kernel
theorem d_Mo_fault_30 : decode b_Mo_fault 30 = .ok (.iload_n 3, 1) := by decide +kernel
theorem d_Mo_fault_31 : decode b_Mo_fault 31 = .ok (.iaload, 1) := by decide +kernel
theorem d_Mo_fault_32 : decode b_Mo_fault 32 = .ok (.iload_n 1, 1) := by decide +kernel
theorem d_Mo_fault_33 : decode b_Mo_fault 33 = .ok (.if_icmp .ne 17, 3) := by decide +kernel
theorem d_Mo_fault_36 : decode b_Mo_fault 36 = .ok (.aload_n 0, 1) := by decide +kernel
theorem d_Mo_fault_37 : decode b_Mo_fault 37 = .ok (.getfield 55, 3) := by decide +kernel
theorem d_Mo_fault_40 : decode b_Mo_fault 40 = .ok (.iload_n 3, 1) := by decide +kernel
theorem d_Mo_fault_41 : decode b_Mo_fault 41 = .ok (.iaload, 1) := by decide +kernel
theorem d_Mo_fault_42 : decode b_Mo_fault 42 = .ok (.aload_n 0, 1) := by decide +kernel
theorem d_Mo_fault_43 : decode b_Mo_fault 43 = .ok (.getfield 82, 3) := by decide +kernel
theorem d_Mo_fault_46 : decode b_Mo_fault 46 = .ok (.if_icmp .ne 4, 3) := by decide +kernel
theorem d_Mo_fault_49 : decode b_Mo_fault 49 = .ok (.return_, 1) := by decide +kernel
theorem d_Mo_fault_50 : decode b_Mo_fault 50 = .ok (.iinc 3 1, 3) := by decide +kernel
theorem d_Mo_fault_53 : decode b_Mo_fault 53 = .ok (.goto (-35), 3) := by decide +kernel
theorem d_Mo_fault_56 : decode b_Mo_fault 56 = .ok (.aload_n 0, 1) := by decide +kernel
theorem d_Mo_fault_57 : decode b_Mo_fault 57 = .ok (.getfield 112, 3) := by decide +kernel
theorem d_Mo_fault_60 : decode b_Mo_fault 60 = .ok (.bipush 60, 2) := by decide +kernel
theorem d_Mo_fault_62 : decode b_Mo_fault 62 = .ok (.if_icmp .ne 4, 3) := by decide +kernel
theorem d_Mo_fault_65 : decode b_Mo_fault 65 = .ok (.return_, 1) := by decide +kernel
theorem d_Mo_fault_66 : decode b_Mo_fault 66 = .ok (.aload_n 0, 1) := by decide +kernel
theorem d_Mo_fault_67 : decode b_Mo_fault 67 = .ok (.getfield 52, 3) := by decide +kernel
theorem d_Mo_fault_70 : decode b_Mo_fault 70 = .ok (.aload_n 0, 1) := by decide +kernel
theorem d_Mo_fault_71 : decode b_Mo_fault 71 = .ok (.getfield 112, 3) := by decide +kernel
theorem d_Mo_fault_74 : decode b_Mo_fault 74 = .ok (.iload_n 1, 1) := by decide +kernel
theorem d_Mo_fault_75 : decode b_Mo_fault 75 = .ok (.iastore, 1) := by decide +kernel
theorem d_Mo_fault_76 : decode b_Mo_fault 76 = .ok (.aload_n 0, 1) := by decide +kernel
theorem d_Mo_fault_77 : decode b_Mo_fault 77 = .ok (.getfield 55, 3) := by decide +kernel
theorem d_Mo_fault_80 : decode b_Mo_fault 80 = .ok (.aload_n 0, 1) := by decide +kernel
theorem d_Mo_fault_81 : decode b_Mo_fault 81 = .ok (.getfield 112, 3) := by decide +kernel
theorem d_Mo_fault_84 : decode b_Mo_fault 84 = .ok (.aload_n 0, 1) := by decide +kernel
theorem d_Mo_fault_85 : decode b_Mo_fault 85 = .ok (.getfield 82, 3) := by decide +kernel
theorem d_Mo_fault_88 : decode b_Mo_fault 88 = .ok (.iastore, 1) := by decide +kernel
theorem d_Mo_fault_89 : decode b_Mo_fault 89 = .ok (.aload_n 0, 1) := by decide +kernel
theorem d_Mo_fault_90 : decode b_Mo_fault 90 = .ok (.getfield 58, 3) := by decide +kernel
theorem d_Mo_fault_93 : decode b_Mo_fault 93 = .ok (.aload_n 0, 1) := by decide +kernel
theorem d_Mo_fault_94 : decode b_Mo_fault 94 = .ok (.getfield 112, 3) := by decide +kernel
theorem d_Mo_fault_97 : decode b_Mo_fault 97 = .ok (.iload_n 2, 1) := by decide +kernel
theorem d_Mo_fault_98 : decode b_Mo_fault 98 = .ok (.iastore, 1) := by decide +kernel
theorem d_Mo_fault_99 : decode b_Mo_fault 99 = .ok (.iconst 0, 1) := by decide +kernel
theorem d_Mo_fault_100 : decode b_Mo_fault 100 = .ok (.istore_n 3, 1) := by decide +kernel
theorem d_Mo_fault_101 : decode b_Mo_fault 101 = .ok (.iload_n 3, 1) := by decide +kernel
theorem d_Mo_fault_102 : decode b_Mo_fault 102 = .ok (.iconst 4, 1) := by decide +kernel
theorem d_Mo_fault_103 : decode b_Mo_fault 103 = .ok (.if_icmp .ge 47, 3) := by decide +kernel
theorem d_Mo_fault_106 : decode b_Mo_fault 106 = .ok (.aload_n 0, 1) := by decide +kernel
theorem d_Mo_fault_107 : decode b_Mo_fault 107 = .ok (.getfield 61, 3) := by decide +kernel
theorem d_Mo_fault_110 : decode b_Mo_fault 110 = .ok (.iconst 4, 1) := by decide +kernel
theorem d_Mo_fault_111 : decode b_Mo_fault 111 = .ok (.aload_n 0, 1) := by decide +kernel
theorem d_Mo_fault_112 : decode b_Mo_fault 112 = .ok (.getfield 112, 3) := by decide +kernel
theorem d_Mo_fault_115 : decode b_Mo_fault 115 = .ok (.imul, 1) := by decide +kernel
theorem d_Mo_fault_116 : decode b_Mo_fault 116 = .ok (.iload_n 3, 1) := by decide +kernel
theorem d_Mo_fault_117 : decode b_Mo_fault 117 = .ok (.iadd, 1) := by decide +kernel
theorem d_Mo_fault_118 : decode b_Mo_fault 118 = .ok (.iload_n 3, 1) := by decide +kernel
theorem d_Mo_fault_119 : decode b_Mo_fault 119 = .ok (.aload_n 0, 1) := by decide +kernel
theorem d_Mo_fault_120 : decode b_Mo_fault 120 = .ok (.getfield 109, 3) := by decide +kernel
theorem d_Mo_fault_123 : decode b_Mo_fault 123 = .ok (.if_icmp .ge 19, 3) := by decide +kernel
theorem d_Mo_fault_126 : decode b_Mo_fault 126 = .ok (.aload_n 0, 1) := by decide +kernel
theorem d_Mo_fault_127 : decode b_Mo_fault 127 = .ok (.getfield 49, 3) := by decide +kernel
theorem d_Mo_fault_130 : decode b_Mo_fault 130 = .ok (.aload_n 0, 1) := by decide +kernel
theorem d_Mo_fault_131 : decode b_Mo_fault 131 = .ok (.getfield 109, 3) := by decide +kernel
theorem d_Mo_fault_134 : decode b_Mo_fault 134 = .ok (.iconst 1, 1) := by decide +kernel
theorem d_Mo_fault_135 : decode b_Mo_fault 135 = .ok (.isub, 1) := by decide +kernel
theorem d_Mo_fault_136 : decode b_Mo_fault 136 = .ok (.iload_n 3, 1) := by decide +kernel
theorem d_Mo_fault_137 : decode b_Mo_fault 137 = .ok (.isub, 1) := by decide +kernel
theorem d_Mo_fault_138 : decode b_Mo_fault 138 = .ok (.iaload, 1) := by decide +kernel
theorem d_Mo_fault_139 : decode b_Mo_fault 139 = .ok (.goto 4, 3) := by decide +kernel
theorem d_Mo_fault_142 : decode b_Mo_fault 142 = .ok (.iconst 0, 1) := by decide +kernel
theorem d_Mo_fault_143 : decode b_Mo_fault 143 = .ok (.iastore, 1) := by decide +kernel
theorem d_Mo_fault_144 : decode b_Mo_fault 144 = .ok (.iinc 3 1, 3) := by decide +kernel
theorem d_Mo_fault_147 : decode b_Mo_fault 147 = .ok (.goto (-46), 3) := by decide +kernel
theorem d_Mo_fault_150 : decode b_Mo_fault 150 = .ok (.aload_n 0, 1) := by decide +kernel
theorem d_Mo_fault_151 : decode b_Mo_fault 151 = .ok (.dup, 1) := by decide +kernel
theorem d_Mo_fault_152 : decode b_Mo_fault 152 = .ok (.getfield 112, 3) := by decide +kernel
theorem d_Mo_fault_155 : decode b_Mo_fault 155 = .ok (.iconst 1, 1) := by decide +kernel
theorem d_Mo_fault_156 : decode b_Mo_fault 156 = .ok (.iadd, 1) := by decide +kernel
theorem d_Mo_fault_157 : decode b_Mo_fault 157 = .ok (.putfield 112, 3) := by decide +kernel
theorem d_Mo_fault_160 : decode b_Mo_fault 160 = .ok (.return_, 1) := by decide +kernel
def f_Mo_fault_101 (q : Int32) (v : Int32) (u : S5) : Nat → Nat → S5 → S5
  | 0, i, u1 => u1
  | k101 + 1, i, u1 => if i < 4 then (let x3 : Int32 := if i < (gN u1 5) then aI u1 5 (gN u1 5 - 1 - i) else 0; f_Mo_fault_101 q v u k101 (i + 1) (uI u1 9 (4 * (gN u1 6) + i) x3)) else sN u1 6 (gN u1 6 + 1)
def f_Mo_fault_56 (q : Int32) (v : Int32) (u : S5) : S5 := if (gN u 6) = 60 then sI u 5 ((gI u 5) + (1 : Int32)) else f_Mo_fault_101 q v u 5 0 (uI (uI (uI (sI u 5 ((gI u 5) + (1 : Int32))) 6 (gN u 6) q) 7 (gN u 6) (gI u 1)) 8 (gN u 6) v)
def f_Mo_fault_18 (q : Int32) (v : Int32) (u : S5) : Nat → Nat → S5
  | 0, j => u
  | k18 + 1, j => if j < (gN u 6) then (if (aI u 6 j) = q then (if (aI u 7 j) = (gI u 1) then sI u 5 ((gI u 5) + (1 : Int32)) else f_Mo_fault_18 q v u k18 (j + 1)) else f_Mo_fault_18 q v u k18 (j + 1)) else f_Mo_fault_56 q v u
def f_Mo_fault (q : Int32) (v : Int32) (u : S5) : S5 := if q = 8 then f_Mo_fault_56 q v u else f_Mo_fault_18 q v u (gN u 6 + 1) 0
set_option maxHeartbeats 8000000 in
set_option maxRecDepth 100000 in
theorem c_Mo_fault (l : Launch) (dC : Nat → ClassId) (dI : Nat → Nat → Nat) (cI cZ : ClassId) (ad : Nat → Nat) (u : S5) (q : Int32) (v : Int32) (ok : OkE u) (sz : Nat) : Met l y_Mo_fault w_Mo_fault rm_Mo_fault (PreW (dC, dI) classes [(cI, .int), (cZ, .boolean)] (wM cI cZ ad) u sz [.ref (ad 0), .int q, .int v]) (QWv (dC, dI) classes [(cI, .int), (cZ, .boolean)] (wM cI cZ ad) (va_A (wM cI cZ ad u) sz) (f_Mo_fault q v u)) 0 0 (va_A (wM cI cZ ad u) sz) := by
  generalize hres : f_Mo_fault q v u = res
  refine Met.ofW (cc := b_Mo_fault) (maxL := 4) (ret := none) (by decide) rfl ?_
  intro p e s m args below meth c s₁ B hml hv
  obtain ⟨rfl, rfl, hP, hK, hD0⟩ := hv
  have hx := B.exec
  have hb := B.bytes
  have hr := B.returns
  have hts : ∀ w9 ∈ ALLW, w9.before ([.ref (ad 0), .int q, .int v] : List Value).toArray s = true := fun w9 h => atoms_spec (ws := w_Mo_fault) B.pre w9 (List.mem_cons_of_mem _ h)
  have hown : s.vm.findClass R_Mo = some m.cls := findClass_of_methodNamed B.named
  have hlocks := B.notSynchronized
  have hD := hD0.self (sz := s.heap.size)
  generalize hAe : va_A (wM cI cZ ad u) s.heap.size = A at hD ⊢
  have hA : ∀ q : Nat, s.heap.size ≤ q → A q := fun q h => by rw [← hAe]; exact Or.inr h
  have hS : va_S A s.heap s.heap [] := va_S.rf
  have hl := lv_entry ([.ref (ad 0), .int q, .int v]) (n := 4) (Nat.le_of_ble_eq_true rfl)
  rw [lg_entry_eq]
  generalize (lg_sl ([.ref (ad 0), .int q, .int v]) ++ List.replicate (4 - (lg_sl ([.ref (ad 0), .int q, .int v])).length) Slot.unset).toArray = ls at hl ⊢
  have hl : lv_has ls 4 [(0, .ref (ad 0)), (1, .int q), (2, .int v)] := hl
  have hq := hres.symm
  skip
  obtain ⟨oe6, oe5⟩ := id ok
  refine lv_aload_n hx hb d_Mo_fault_0 rfl (lv_at hl 0 rfl) ?_
  refine lv_dup hx hb d_Mo_fault_1 rfl ?_
  refine va_get (D := (dC, dI)) (ci := 8) (v := .int (gI u 5)) (C := R_Mo) (T := F_Mo) (N := 31) hx hb hts in_Mo hown hK hP 0 rfl rfl 11 (by decide) (hts _ m_14_1) (fun _ h9 => h9) rfl d_Mo_fault_2 ?_
  refine lv_iconst (v := 1) hx hb d_Mo_fault_5 (by decide) ?_
  refine lv_iadd hx hb d_Mo_fault_6 ?_
  refine va_put (D := (dC, dI)) (ci := 8) (v := .int ((gI u 5) + (1 : Int32))) (ty := .int) (C := R_Mo) (T := F_Mo) (N := 31) hx hb hts in_Mo t_Mo t_Mo_ok n_Mo hown hK hP hD hS 0 rfl rfl 11 (by decide) (hts _ m_14_1) (fun _ h9 => h9) rfl (by decide +kernel) rfl rfl (Nat.le_of_ble_eq_true rfl) d_Mo_fault_7 (fun H locs hP hD hS => ?_)
  have hP : va_P (dC, dI) classes (wM cI cZ ad (sI u 5 ((gI u 5) + (1 : Int32)))) H := hP
  have hD : va_D A (wM cI cZ ad (sI u 5 ((gI u 5) + (1 : Int32)))) := hD
  refine lv_iload_n hx hb d_Mo_fault_10 rfl (lv_at hl 1 rfl) ?_
  refine lv_bipush (v := 8) hx hb d_Mo_fault_11 (by decide) ?_
  have J56 : ∀  (H : Heap) (locs : List Loc) (ls : Array Slot), res = f_Mo_fault_56 q v u → va_P (dC, dI) classes (wM cI cZ ad (sI u 5 ((gI u 5) + (1 : Int32)))) H → va_D A (wM cI cZ ad (sI u 5 ((gI u 5) + (1 : Int32)))) → va_S A s.heap H locs → lv_has ls 4 [(0, .ref (ad 0)), (1, .int q), (2, .int v)] → W p l e (headSpec w_Mo_fault rm_Mo_fault).room s m ([.ref (ad 0), .int q, .int v] : List Value).toArray below meth c H locs 0 0 (MQ below (QWv (dC, dI) classes [(cI, .int), (cZ, .boolean)] (wM cI cZ ad) A res) ([.ref (ad 0), .int q, .int v] : List Value).toArray s 0 0 A) (F0 m 56 ls []) := by
    intro  H locs ls hq hP hD hS hl
    refine lv_aload_n hx hb d_Mo_fault_56 rfl (lv_at hl 0 rfl) ?_
    refine va_get (D := (dC, dI)) (ci := 8) (v := .int (nI (gN u 6))) (C := R_Mo) (T := F_Mo) (N := 31) hx hb hts in_Mo hown hK hP 0 rfl rfl 29 (by decide) (hts _ m_14_19) (fun _ h9 => h9) rfl d_Mo_fault_57 ?_
    refine lv_bipush (v := nI 60) hx hb d_Mo_fault_60 (by decide) ?_
    refine rn_ne (tgt := 66) hx hb (by omega) (by omega) d_Mo_fault_62 (by decide) (fun c1 => ?_) (fun c1 => ?_)
    · skip
      refine lv_aload_n hx hb d_Mo_fault_66 rfl (lv_at hl 0 rfl) ?_
      refine va_get (D := (dC, dI)) (ci := 8) (v := .ref (ad 14)) (C := R_Mo) (T := F_Mo) (N := 31) hx hb hts in_Mo hown hK hP 0 rfl rfl 25 (by decide) (hts _ m_14_15) (fun _ h9 => h9) rfl d_Mo_fault_67 ?_
      refine lv_aload_n hx hb d_Mo_fault_70 rfl (lv_at hl 0 rfl) ?_
      refine va_get (D := (dC, dI)) (ci := 8) (v := .int (nI (gN u 6))) (C := R_Mo) (T := F_Mo) (N := 31) hx hb hts in_Mo hown hK hP 0 rfl rfl 29 (by decide) (hts _ m_14_19) (fun _ h9 => h9) rfl d_Mo_fault_71 ?_
      refine lv_iload_n hx hb d_Mo_fault_74 rfl (lv_at hl 1 rfl) ?_
      refine astM_errorKind (u := (sI u 5 ((gI u 5) + (1 : Int32)))) (n := gN u 6) hx hb hK hP hD hS (by omega) d_Mo_fault_75 (fun H locs hP hD hS => ?_)
      refine lv_aload_n hx hb d_Mo_fault_76 rfl (lv_at hl 0 rfl) ?_
      refine va_get (D := (dC, dI)) (ci := 8) (v := .ref (ad 15)) (C := R_Mo) (T := F_Mo) (N := 31) hx hb hts in_Mo hown hK hP 0 rfl rfl 26 (by decide) (hts _ m_14_16) (fun _ h9 => h9) rfl d_Mo_fault_77 ?_
      refine lv_aload_n hx hb d_Mo_fault_80 rfl (lv_at hl 0 rfl) ?_
      refine va_get (D := (dC, dI)) (ci := 8) (v := .int (nI (gN u 6))) (C := R_Mo) (T := F_Mo) (N := 31) hx hb hts in_Mo hown hK hP 0 rfl rfl 29 (by decide) (hts _ m_14_19) (fun _ h9 => h9) rfl d_Mo_fault_81 ?_
      refine lv_aload_n hx hb d_Mo_fault_84 rfl (lv_at hl 0 rfl) ?_
      refine va_get (D := (dC, dI)) (ci := 8) (v := .int (gI u 1)) (C := R_Mo) (T := F_Mo) (N := 31) hx hb hts in_Mo hown hK hP 0 rfl rfl 7 (by decide) (hts _ m_13_37) (fun _ h9 => h9) rfl d_Mo_fault_85 ?_
      refine astM_errorPc (u := (uI (sI u 5 ((gI u 5) + (1 : Int32))) 6 (gN u 6) q)) (n := gN u 6) hx hb hK hP hD hS (by omega) d_Mo_fault_88 (fun H locs hP hD hS => ?_)
      refine lv_aload_n hx hb d_Mo_fault_89 rfl (lv_at hl 0 rfl) ?_
      refine va_get (D := (dC, dI)) (ci := 8) (v := .ref (ad 16)) (C := R_Mo) (T := F_Mo) (N := 31) hx hb hts in_Mo hown hK hP 0 rfl rfl 27 (by decide) (hts _ m_14_17) (fun _ h9 => h9) rfl d_Mo_fault_90 ?_
      refine lv_aload_n hx hb d_Mo_fault_93 rfl (lv_at hl 0 rfl) ?_
      refine va_get (D := (dC, dI)) (ci := 8) (v := .int (nI (gN u 6))) (C := R_Mo) (T := F_Mo) (N := 31) hx hb hts in_Mo hown hK hP 0 rfl rfl 29 (by decide) (hts _ m_14_19) (fun _ h9 => h9) rfl d_Mo_fault_94 ?_
      refine lv_iload_n hx hb d_Mo_fault_97 rfl (lv_at hl 2 rfl) ?_
      refine astM_errorNumber (u := (uI (uI (sI u 5 ((gI u 5) + (1 : Int32))) 6 (gN u 6) q) 7 (gN u 6) (gI u 1))) (n := gN u 6) hx hb hK hP hD hS (by omega) d_Mo_fault_98 (fun H locs hP hD hS => ?_)
      refine lv_iconst (v := nI 0) hx hb d_Mo_fault_99 (by decide) ?_
      refine lv_istore_n (lv' := [(3, .int (nI 0)), (0, .ref (ad 0)), (1, .int q), (2, .int v)]) hx hb d_Mo_fault_100 rfl hl (by decide) rfl (fun ls hl => ?_)
      have L101 : ∀ (k : Nat) (i : Nat) (u1 : S5) (H : Heap) (locs : List Loc) (ls : Array Slot), (i ≤ 4) → (gN u1 6 = gN u 6) → (gN u1 5 = gN u 5) → (4 - i) < k → res = f_Mo_fault_101 q v u k i u1 → va_P (dC, dI) classes (wM cI cZ ad u1) H → va_D A (wM cI cZ ad u1) → va_S A s.heap H locs → lv_has ls 4 [(3, .int (nI i)), (0, .ref (ad 0)), (1, .int q), (2, .int v)] → W p l e (headSpec w_Mo_fault rm_Mo_fault).room s m ([.ref (ad 0), .int q, .int v] : List Value).toArray below meth c H locs 0 0 (MQ below (QWv (dC, dI) classes [(cI, .int), (cZ, .boolean)] (wM cI cZ ad) A res) ([.ref (ad 0), .int q, .int v] : List Value).toArray s 0 0 A) (F0 m 101 ls []) := by
        intro k
        induction k with
        | zero => intro i u1 H locs ls hi g6 g5 hm; exact absurd hm (Nat.not_lt_zero _)
        | succ k101 ih101 =>
          intro i u1 H locs ls hi g6 g5 hm hq101 hP hD hS hl
          refine lv_iload_n hx hb d_Mo_fault_101 rfl (lv_at hl 0 rfl) ?_
          refine lv_iconst (v := nI 4) hx hb d_Mo_fault_102 (by decide) ?_
          refine rn_ge (tgt := 150) hx hb (by omega) (by omega) d_Mo_fault_103 (by decide) (fun c2 => ?_) (fun c2 => ?_)
          · skip
            refine lv_aload_n hx hb d_Mo_fault_150 rfl (lv_at hl 1 rfl) ?_
            refine lv_dup hx hb d_Mo_fault_151 rfl ?_
            refine va_get (D := (dC, dI)) (ci := 8) (v := .int (nI (gN u1 6))) (C := R_Mo) (T := F_Mo) (N := 31) hx hb hts in_Mo hown hK hP 0 rfl rfl 29 (by decide) (hts _ m_14_19) (fun _ h9 => h9) rfl d_Mo_fault_152 ?_
            refine lv_iconst (v := nI 1) hx hb d_Mo_fault_155 (by decide) ?_
            refine lv_iadd hx hb d_Mo_fault_156 ?_
            refine rw_top (y := nI (gN u1 6 + 1)) (nI_add (gN u1 6) 1) ?_
            refine va_put (D := (dC, dI)) (ci := 8) (v := .int (nI (gN u1 6 + 1))) (ty := .int) (C := R_Mo) (T := F_Mo) (N := 31) hx hb hts in_Mo t_Mo t_Mo_ok n_Mo hown hK hP hD hS 0 rfl rfl 29 (by decide) (hts _ m_14_19) (fun _ h9 => h9) rfl (by decide +kernel) rfl rfl (Nat.le_of_ble_eq_true rfl) d_Mo_fault_157 (fun H locs hP hD hS => ?_)
            have hP : va_P (dC, dI) classes (wM cI cZ ad (sN u1 6 (gN u1 6 + 1))) H := hP
            have hD : va_D A (wM cI cZ ad (sN u1 6 (gN u1 6 + 1))) := hD
            have hE : res = sN u1 6 (gN u1 6 + 1) := hq101.trans ((if_neg (Nat.not_lt.mpr c2)).trans rfl)
            exact retWv hx hb hr hP hK hD hS hE.symm d_Mo_fault_160 hlocks
          · skip
            refine lv_aload_n hx hb d_Mo_fault_106 rfl (lv_at hl 1 rfl) ?_
            refine va_get (D := (dC, dI)) (ci := 8) (v := .ref (ad 17)) (C := R_Mo) (T := F_Mo) (N := 31) hx hb hts in_Mo hown hK hP 0 rfl rfl 28 (by decide) (hts _ m_14_18) (fun _ h9 => h9) rfl d_Mo_fault_107 ?_
            refine lv_iconst (v := nI 4) hx hb d_Mo_fault_110 (by decide) ?_
            refine lv_aload_n hx hb d_Mo_fault_111 rfl (lv_at hl 1 rfl) ?_
            refine va_get (D := (dC, dI)) (ci := 8) (v := .int (nI (gN u1 6))) (C := R_Mo) (T := F_Mo) (N := 31) hx hb hts in_Mo hown hK hP 0 rfl rfl 29 (by decide) (hts _ m_14_19) (fun _ h9 => h9) rfl d_Mo_fault_112 ?_
            refine lv_imul hx hb d_Mo_fault_115 ?_
            refine rw_top (y := nI (4 * (gN u1 6))) (pk_mul 4 (gN u1 6)) ?_
            refine lv_iload_n hx hb d_Mo_fault_116 rfl (lv_at hl 0 rfl) ?_
            refine lv_iadd hx hb d_Mo_fault_117 ?_
            refine rw_top (y := nI (4 * (gN u1 6) + i)) (nI_add (4 * (gN u1 6)) i) ?_
            refine lv_iload_n hx hb d_Mo_fault_118 rfl (lv_at hl 0 rfl) ?_
            refine lv_aload_n hx hb d_Mo_fault_119 rfl (lv_at hl 1 rfl) ?_
            refine va_get (D := (dC, dI)) (ci := 8) (v := .int (nI (gN u1 5))) (C := R_Mo) (T := F_Mo) (N := 31) hx hb hts in_Mo hown hK hP 0 rfl rfl 24 (by decide) (hts _ m_14_14) (fun _ h9 => h9) rfl d_Mo_fault_120 ?_
            have J143 : ∀ (x3 : Int32) (H : Heap) (locs : List Loc), x3 = (if i < (gN u1 5) then aI u1 5 (gN u1 5 - 1 - i) else 0) → va_P (dC, dI) classes (wM cI cZ ad u1) H → va_D A (wM cI cZ ad u1) → va_S A s.heap H locs → W p l e (headSpec w_Mo_fault rm_Mo_fault).room s m ([.ref (ad 0), .int q, .int v] : List Value).toArray below meth c H locs 0 0 (MQ below (QWv (dC, dI) classes [(cI, .int), (cZ, .boolean)] (wM cI cZ ad) A res) ([.ref (ad 0), .int q, .int v] : List Value).toArray s 0 0 A) (F0 m 143 ls [.int x3, .int (nI (4 * (gN u1 6) + i)), .ref (ad 17)]) := by
              intro x3 H locs ex3 hP hD hS
              refine astM_errorReturn (u := u1) (n := 4 * (gN u1 6) + i) hx hb hK hP hD hS (by omega) d_Mo_fault_143 (fun H locs hP hD hS => ?_)
              refine lv_iinc (v := nI (i + 1)) (lv' := [(3, .int (nI (i + 1))), (0, .ref (ad 0)), (1, .int q), (2, .int v)]) hx hb d_Mo_fault_144 hl (k := 0) rfl (rn_inc i 1 (by decide)) (by decide) rfl (fun ls hl => ?_)
              refine lv_goto (tgt := 101) hx hb d_Mo_fault_147 (by decide) ?_
              exact ih101 (i + 1) (uI u1 9 (4 * (gN u1 6) + i) x3) _ _ _ (by first | assumption | omega) g6 g5 (by omega) ((by subst ex3; exact hq101.trans ((if_pos c2).trans rfl))) hP hD hS (lv_sub hl [0, 1, 2, 3] rfl)
            refine rn_ge (tgt := 142) hx hb (by omega) (by omega) d_Mo_fault_123 (by decide) (fun c4 => ?_) (fun c4 => ?_)
            · skip
              refine lv_iconst (v := 0) hx hb d_Mo_fault_142 (by decide) ?_
              exact J143 0 _ _ (Eq.symm ((if_neg (Nat.not_lt.mpr c4)).trans (rfl))) hP hD hS
            · skip
              refine lv_aload_n hx hb d_Mo_fault_126 rfl (lv_at hl 1 rfl) ?_
              refine va_get (D := (dC, dI)) (ci := 8) (v := .ref (ad 13)) (C := R_Mo) (T := F_Mo) (N := 31) hx hb hts in_Mo hown hK hP 0 rfl rfl 20 (by decide) (hts _ m_14_10) (fun _ h9 => h9) rfl d_Mo_fault_127 ?_
              refine lv_aload_n hx hb d_Mo_fault_130 rfl (lv_at hl 1 rfl) ?_
              refine va_get (D := (dC, dI)) (ci := 8) (v := .int (nI (gN u1 5))) (C := R_Mo) (T := F_Mo) (N := 31) hx hb hts in_Mo hown hK hP 0 rfl rfl 24 (by decide) (hts _ m_14_14) (fun _ h9 => h9) rfl d_Mo_fault_131 ?_
              refine lv_iconst (v := 1) hx hb d_Mo_fault_134 (by decide) ?_
              refine lv_isub hx hb d_Mo_fault_135 ?_
              refine lv_iload_n hx hb d_Mo_fault_136 rfl (lv_at hl 0 rfl) ?_
              refine lv_isub hx hb d_Mo_fault_137 ?_
              refine rw_top (y := nI (gN u1 5 - 1 - i)) (r_dec _ _ (by omega)) ?_
              refine aldM_returns (u := u1) (v := aI u1 5 (gN u1 5 - 1 - i)) hx hb hK hP (by omega) rfl d_Mo_fault_138 ?_
              refine lv_goto (tgt := 143) hx hb d_Mo_fault_139 (by decide) ?_
              exact J143 (aI u1 5 (gN u1 5 - 1 - i)) _ _ (Eq.symm ((if_pos c4).trans (rfl))) hP hD hS
      exact L101 5 0 (uI (uI (uI (sI u 5 ((gI u 5) + (1 : Int32))) 6 (gN u 6) q) 7 (gN u 6) (gI u 1)) 8 (gN u 6) v) _ _ _ (by first | assumption | omega) rfl rfl (by omega) (hq.trans ((if_neg c1).trans rfl)) hP hD hS (lv_sub hl [0, 1, 2, 3] rfl)
    · skip
      have hE : res = sI u 5 ((gI u 5) + (1 : Int32)) := hq.trans ((if_pos c1).trans rfl)
      exact retWv hx hb hr hP hK hD hS hE.symm d_Mo_fault_65 hlocks
  refine lv_icmp_eq (tgt := 56) hx hb d_Mo_fault_13 (by decide) (fun c5 => ?_) (fun c5 => ?_)
  · skip
    exact J56  _ _ _ (hq.trans ((if_pos c5).trans rfl)) hP hD hS (lv_sub hl [0, 1, 2] rfl)
  · skip
    refine lv_iconst (v := nI 0) hx hb d_Mo_fault_16 (by decide) ?_
    refine lv_istore_n (lv' := [(3, .int (nI 0)), (0, .ref (ad 0)), (1, .int q), (2, .int v)]) hx hb d_Mo_fault_17 rfl hl (by decide) rfl (fun ls hl => ?_)
    have L18 : ∀ (k : Nat) (j : Nat) (H : Heap) (locs : List Loc) (ls : Array Slot), (j ≤ gN u 6) → (gN u 6 - j) < k → res = f_Mo_fault_18 q v u k j → va_P (dC, dI) classes (wM cI cZ ad (sI u 5 ((gI u 5) + (1 : Int32)))) H → va_D A (wM cI cZ ad (sI u 5 ((gI u 5) + (1 : Int32)))) → va_S A s.heap H locs → lv_has ls 4 [(3, .int (nI j)), (0, .ref (ad 0)), (1, .int q), (2, .int v)] → W p l e (headSpec w_Mo_fault rm_Mo_fault).room s m ([.ref (ad 0), .int q, .int v] : List Value).toArray below meth c H locs 0 0 (MQ below (QWv (dC, dI) classes [(cI, .int), (cZ, .boolean)] (wM cI cZ ad) A res) ([.ref (ad 0), .int q, .int v] : List Value).toArray s 0 0 A) (F0 m 18 ls []) := by
      intro k
      induction k with
      | zero => intro j H locs ls hj hm; exact absurd hm (Nat.not_lt_zero _)
      | succ k18 ih18 =>
        intro j H locs ls hj hm hq18 hP hD hS hl
        refine lv_iload_n hx hb d_Mo_fault_18 rfl (lv_at hl 0 rfl) ?_
        refine lv_aload_n hx hb d_Mo_fault_19 rfl (lv_at hl 1 rfl) ?_
        refine va_get (D := (dC, dI)) (ci := 8) (v := .int (nI (gN u 6))) (C := R_Mo) (T := F_Mo) (N := 31) hx hb hts in_Mo hown hK hP 0 rfl rfl 29 (by decide) (hts _ m_14_19) (fun _ h9 => h9) rfl d_Mo_fault_20 ?_
        refine rn_ge (tgt := 56) hx hb (by omega) (by omega) d_Mo_fault_23 (by decide) (fun c6 => ?_) (fun c6 => ?_)
        · skip
          exact J56  _ _ _ (hq18.trans ((if_neg (Nat.not_lt.mpr c6)).trans rfl)) hP hD hS (lv_sub hl [1, 2, 3] rfl)
        · skip
          refine lv_aload_n hx hb d_Mo_fault_26 rfl (lv_at hl 1 rfl) ?_
          refine va_get (D := (dC, dI)) (ci := 8) (v := .ref (ad 14)) (C := R_Mo) (T := F_Mo) (N := 31) hx hb hts in_Mo hown hK hP 0 rfl rfl 25 (by decide) (hts _ m_14_15) (fun _ h9 => h9) rfl d_Mo_fault_27 ?_
          refine lv_iload_n hx hb d_Mo_fault_30 rfl (lv_at hl 0 rfl) ?_
          refine aldM_errorKind (u := (sI u 5 ((gI u 5) + (1 : Int32)))) (v := aI u 6 j) hx hb hK hP (by omega) rfl d_Mo_fault_31 ?_
          refine lv_iload_n hx hb d_Mo_fault_32 rfl (lv_at hl 2 rfl) ?_
          refine lv_icmp_ne (tgt := 50) hx hb d_Mo_fault_33 (by decide) (fun c7 => ?_) (fun c7 => ?_)
          · skip
            refine lv_iinc (v := nI (j + 1)) (lv' := [(3, .int (nI (j + 1))), (0, .ref (ad 0)), (1, .int q), (2, .int v)]) hx hb d_Mo_fault_50 hl (k := 0) rfl (rn_inc j 1 (by decide)) (by decide) rfl (fun ls hl => ?_)
            refine lv_goto (tgt := 18) hx hb d_Mo_fault_53 (by decide) ?_
            exact ih18 (j + 1) _ _ _ (by first | assumption | omega) (by omega) (hq18.trans ((if_pos c6).trans ((if_neg c7).trans rfl))) hP hD hS (lv_sub hl [0, 1, 2, 3] rfl)
          · skip
            refine lv_aload_n hx hb d_Mo_fault_36 rfl (lv_at hl 1 rfl) ?_
            refine va_get (D := (dC, dI)) (ci := 8) (v := .ref (ad 15)) (C := R_Mo) (T := F_Mo) (N := 31) hx hb hts in_Mo hown hK hP 0 rfl rfl 26 (by decide) (hts _ m_14_16) (fun _ h9 => h9) rfl d_Mo_fault_37 ?_
            refine lv_iload_n hx hb d_Mo_fault_40 rfl (lv_at hl 0 rfl) ?_
            refine aldM_errorPc (u := (sI u 5 ((gI u 5) + (1 : Int32)))) (v := aI u 7 j) hx hb hK hP (by omega) rfl d_Mo_fault_41 ?_
            refine lv_aload_n hx hb d_Mo_fault_42 rfl (lv_at hl 1 rfl) ?_
            refine va_get (D := (dC, dI)) (ci := 8) (v := .int (gI u 1)) (C := R_Mo) (T := F_Mo) (N := 31) hx hb hts in_Mo hown hK hP 0 rfl rfl 7 (by decide) (hts _ m_13_37) (fun _ h9 => h9) rfl d_Mo_fault_43 ?_
            refine lv_icmp_ne (tgt := 50) hx hb d_Mo_fault_46 (by decide) (fun c8 => ?_) (fun c8 => ?_)
            · skip
              refine lv_iinc (v := nI (j + 1)) (lv' := [(3, .int (nI (j + 1))), (0, .ref (ad 0)), (1, .int q), (2, .int v)]) hx hb d_Mo_fault_50 hl (k := 0) rfl (rn_inc j 1 (by decide)) (by decide) rfl (fun ls hl => ?_)
              refine lv_goto (tgt := 18) hx hb d_Mo_fault_53 (by decide) ?_
              exact ih18 (j + 1) _ _ _ (by first | assumption | omega) (by omega) (hq18.trans ((if_pos c6).trans ((if_pos c7).trans ((if_neg c8).trans rfl)))) hP hD hS (lv_sub hl [0, 1, 2, 3] rfl)
            · skip
              have hE : res = sI u 5 ((gI u 5) + (1 : Int32)) := hq18.trans ((if_pos c6).trans ((if_pos c7).trans ((if_pos c8).trans rfl)))
              exact retWv hx hb hr hP hK hD hS hE.symm d_Mo_fault_49 hlocks
    exact L18 (gN u 6 + 1) 0 _ _ _ (by first | assumption | omega) (by omega) (hq.trans ((if_neg c5).trans rfl)) hP hD hS (lv_sub hl [0, 1, 2, 3] rfl)
