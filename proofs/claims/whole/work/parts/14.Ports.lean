def w_Po_reset : List Cond := .code y_Po_reset b_Po_reset 1 none :: ALLW
def rm_Po_reset : Room := { frames := 20, cells := 0, slots := 0, locals := 600 }
theorem d_Po_reset_0 : decode b_Po_reset 0 = .ok (.aload_n 0, 1) := by decide +kernel
theorem d_Po_reset_1 : decode b_Po_reset 1 = .ok (.iconst 0, 1) := by decide +kernel
theorem d_Po_reset_2 : decode b_Po_reset 2 = .ok (.putfield 16, 3) := by decide +kernel
theorem d_Po_reset_5 : decode b_Po_reset 5 = .ok (.aload_n 0, 1) := by decide +kernel
theorem d_Po_reset_6 : decode b_Po_reset 6 = .ok (.iconst 0, 1) := by decide +kernel
theorem d_Po_reset_7 : decode b_Po_reset 7 = .ok (.putfield 20, 3) := by decide +kernel
theorem d_Po_reset_10 : decode b_Po_reset 10 = .ok (.return_, 1) := by decide +kernel
def f_Po_reset (u : S5) : S5 := sN (sN u 4 0) 5 0
set_option maxHeartbeats 8000000 in
set_option maxRecDepth 100000 in
theorem c_Po_reset (l : Launch) (dC : Nat → ClassId) (dI : Nat → Nat → Nat) (cI : ClassId) (ad : Nat → Nat) (u : S5) (sz : Nat) : Met l y_Po_reset w_Po_reset rm_Po_reset (PreW (dC, dI) classes [(cI, .int)] (wC cI ad) u sz [.ref (ad 7)]) (QWv (dC, dI) classes [(cI, .int)] (wC cI ad) (va_A (wC cI ad u) sz) (f_Po_reset u)) 0 0 (va_A (wC cI ad u) sz) := by
  generalize hres : f_Po_reset u = res
  refine Met.ofW (cc := b_Po_reset) (maxL := 1) (ret := none) (by decide) rfl ?_
  intro p e s m args below meth c s₁ B hml hv
  obtain ⟨rfl, rfl, hP, hK, hD0⟩ := hv
  have hx := B.exec
  have hb := B.bytes
  have hr := B.returns
  have hts : ∀ w9 ∈ ALLW, w9.before ([.ref (ad 7)] : List Value).toArray s = true := fun w9 h => atoms_spec (ws := w_Po_reset) B.pre w9 (List.mem_cons_of_mem _ h)
  have hown : s.vm.findClass R_Po = some m.cls := findClass_of_methodNamed B.named
  have hlocks := B.notSynchronized
  have hD := hD0.self (sz := s.heap.size)
  generalize hAe : va_A (wC cI ad u) s.heap.size = A at hD ⊢
  have hA : ∀ q : Nat, s.heap.size ≤ q → A q := fun q h => by rw [← hAe]; exact Or.inr h
  have hS : va_S A s.heap s.heap [] := va_S.rf
  have hl := lv_entry ([.ref (ad 7)]) (n := 1) (Nat.le_of_ble_eq_true rfl)
  rw [lg_entry_eq]
  generalize (lg_sl ([.ref (ad 7)]) ++ List.replicate (1 - (lg_sl ([.ref (ad 7)])).length) Slot.unset).toArray = ls at hl ⊢
  have hl : lv_has ls 1 [(0, .ref (ad 7))] := hl
  have hq := hres.symm
  skip
  refine lv_aload_n hx hb d_Po_reset_0 rfl (lv_at hl 0 rfl) ?_
  refine lv_iconst (v := nI 0) hx hb d_Po_reset_1 (by decide) ?_
  refine va_put (D := (dC, dI)) (ci := 7) (v := .int (nI 0)) (ty := .int) (C := R_Po) (T := F_Po) (N := 5) hx hb hts in_Po t_Po t_Po_ok n_Po hown hK hP hD hS 7 rfl rfl 2 (by decide) (hts _ m_3_34) (fun _ h9 => h9) rfl (by decide +kernel) rfl rfl (Nat.le_of_ble_eq_true rfl) d_Po_reset_2 (fun H locs hP hD hS => ?_)
  have hP : va_P (dC, dI) classes (wC cI ad (sN u 4 0)) H := hP
  have hD : va_D A (wC cI ad (sN u 4 0)) := hD
  refine lv_aload_n hx hb d_Po_reset_5 rfl (lv_at hl 0 rfl) ?_
  refine lv_iconst (v := nI 0) hx hb d_Po_reset_6 (by decide) ?_
  refine va_put (D := (dC, dI)) (ci := 7) (v := .int (nI 0)) (ty := .int) (C := R_Po) (T := F_Po) (N := 5) hx hb hts in_Po t_Po t_Po_ok n_Po hown hK hP hD hS 7 rfl rfl 4 (by decide) (hts _ m_3_37) (fun _ h9 => h9) rfl (by decide +kernel) rfl rfl (Nat.le_of_ble_eq_true rfl) d_Po_reset_7 (fun H locs hP hD hS => ?_)
  have hP : va_P (dC, dI) classes (wC cI ad (sN (sN u 4 0) 5 0)) H := hP
  have hD : va_D A (wC cI ad (sN (sN u 4 0) 5 0)) := hD
  have hE : res = sN (sN u 4 0) 5 0 := hq.trans (rfl)
  exact retWv hx hb hr hP hK hD hS hE.symm d_Po_reset_10 hlocks
def w_Po_putIn : List Cond := .code y_Po_putIn b_Po_putIn 5 none :: ALLW
def rm_Po_putIn : Room := { frames := 20, cells := 0, slots := 0, locals := 600 }
theorem d_Po_putIn_0 : decode b_Po_putIn 0 = .ok (.iconst 0, 1) := by decide +kernel
theorem d_Po_putIn_1 : decode b_Po_putIn 1 = .ok (.istore 4, 2) := by decide +kernel
theorem d_Po_putIn_3 : decode b_Po_putIn 3 = .ok (.iload 4, 2) := by decide +kernel
theorem d_Po_putIn_5 : decode b_Po_putIn 5 = .ok (.iload_n 3, 1) := by decide +kernel
theorem d_Po_putIn_6 : decode b_Po_putIn 6 = .ok (.if_icmp .ge 33, 3) := by decide +kernel
theorem d_Po_putIn_9 : decode b_Po_putIn 9 = .ok (.aload_n 0, 1) := by decide +kernel
theorem d_Po_putIn_10 : decode b_Po_putIn 10 = .ok (.getfield 9, 3) := by decide +kernel
theorem d_Po_putIn_13 : decode b_Po_putIn 13 = .ok (.aload_n 0, 1) := by decide +kernel
theorem d_Po_putIn_14 : decode b_Po_putIn 14 = .ok (.getfield 23, 3) := by decide +kernel
theorem d_Po_putIn_17 : decode b_Po_putIn 17 = .ok (.iload 4, 2) := by decide +kernel
theorem d_Po_putIn_19 : decode b_Po_putIn 19 = .ok (.iadd, 1) := by decide +kernel
theorem d_Po_putIn_20 : decode b_Po_putIn 20 = .ok (.lload_n 1, 1) := by decide +kernel
theorem d_Po_putIn_21 : decode b_Po_putIn 21 = .ok (.bipush 8, 2) := by decide +kernel
theorem d_Po_putIn_23 : decode b_Po_putIn 23 = .ok (.iload 4, 2) := by decide +kernel
theorem d_Po_putIn_25 : decode b_Po_putIn 25 = .ok (.imul, 1) := by decide +kernel
theorem d_Po_putIn_26 : decode b_Po_putIn 26 = .ok (.lushr, 1) := by decide +kernel
theorem d_Po_putIn_27 : decode b_Po_putIn 27 = .ok (.l2i, 1) := by decide +kernel
theorem d_Po_putIn_28 : decode b_Po_putIn 28 = .ok (.sipush 255, 3) := by decide +kernel
theorem d_Po_putIn_31 : decode b_Po_putIn 31 = .ok (.iand, 1) := by decide +kernel
theorem d_Po_putIn_32 : decode b_Po_putIn 32 = .ok (.iastore, 1) := by decide +kernel
theorem d_Po_putIn_33 : decode b_Po_putIn 33 = .ok (.iinc 4 1, 3) := by decide +kernel
theorem d_Po_putIn_36 : decode b_Po_putIn 36 = .ok (.goto (-33), 3) := by decide +kernel
theorem d_Po_putIn_39 : decode b_Po_putIn 39 = .ok (.aload_n 0, 1) := by decide +kernel
theorem d_Po_putIn_40 : decode b_Po_putIn 40 = .ok (.dup, 1) := by decide +kernel
theorem d_Po_putIn_41 : decode b_Po_putIn 41 = .ok (.getfield 23, 3) := by decide +kernel
theorem d_Po_putIn_44 : decode b_Po_putIn 44 = .ok (.iload_n 3, 1) := by decide +kernel
theorem d_Po_putIn_45 : decode b_Po_putIn 45 = .ok (.iadd, 1) := by decide +kernel
theorem d_Po_putIn_46 : decode b_Po_putIn 46 = .ok (.putfield 23, 3) := by decide +kernel
theorem d_Po_putIn_49 : decode b_Po_putIn 49 = .ok (.return_, 1) := by decide +kernel
def f_Po_putIn_3 (w : Int64) (n : Nat) (u : S5) : Nat → Nat → S5 → S5
  | 0, i, u1 => u1
  | k3 + 1, i, u1 => if i < n then f_Po_putIn_3 w n u k3 (i + 1) (uI u1 6 (gN u1 3 + i) ((((w.toUInt64 >>> ((nI (8 * i)).toInt64.toUInt64 &&& Int64.toUInt64 63)).toInt64).toInt32) &&& (255 : Int32))) else sN u1 3 (gN u1 3 + n)
def f_Po_putIn (w : Int64) (n : Nat) (u : S5) : S5 := f_Po_putIn_3 w n u (n + 1) 0 u
set_option maxHeartbeats 8000000 in
set_option maxRecDepth 100000 in
theorem c_Po_putIn (l : Launch) (dC : Nat → ClassId) (dI : Nat → Nat → Nat) (cI : ClassId) (ad : Nat → Nat) (u : S5) (w : Int64) (n : Nat) (hn : gN u 3 + n ≤ 1024) (sz : Nat) : Met l y_Po_putIn w_Po_putIn rm_Po_putIn (PreW (dC, dI) classes [(cI, .int)] (wC cI ad) u sz [.ref (ad 7), .long w, .int (nI n)]) (QWv (dC, dI) classes [(cI, .int)] (wC cI ad) (va_A (wC cI ad u) sz) (f_Po_putIn w n u)) 0 0 (va_A (wC cI ad u) sz) := by
  generalize hres : f_Po_putIn w n u = res
  refine Met.ofW (cc := b_Po_putIn) (maxL := 5) (ret := none) (by decide) rfl ?_
  intro p e s m args below meth c s₁ B hml hv
  obtain ⟨rfl, rfl, hP, hK, hD0⟩ := hv
  have hx := B.exec
  have hb := B.bytes
  have hr := B.returns
  have hts : ∀ w9 ∈ ALLW, w9.before ([.ref (ad 7), .long w, .int (nI n)] : List Value).toArray s = true := fun w9 h => atoms_spec (ws := w_Po_putIn) B.pre w9 (List.mem_cons_of_mem _ h)
  have hown : s.vm.findClass R_Po = some m.cls := findClass_of_methodNamed B.named
  have hlocks := B.notSynchronized
  have hD := hD0.self (sz := s.heap.size)
  generalize hAe : va_A (wC cI ad u) s.heap.size = A at hD ⊢
  have hA : ∀ q : Nat, s.heap.size ≤ q → A q := fun q h => by rw [← hAe]; exact Or.inr h
  have hS : va_S A s.heap s.heap [] := va_S.rf
  have hl := lv_entry ([.ref (ad 7), .long w, .int (nI n)]) (n := 5) (Nat.le_of_ble_eq_true rfl)
  rw [lg_entry_eq]
  generalize (lg_sl ([.ref (ad 7), .long w, .int (nI n)]) ++ List.replicate (5 - (lg_sl ([.ref (ad 7), .long w, .int (nI n)])).length) Slot.unset).toArray = ls at hl ⊢
  have hl : lv_has ls 5 [(0, .ref (ad 7)), (1, .long w), (3, .int (nI n))] := hl
  have hq := hres.symm
  skip
  refine lv_iconst (v := nI 0) hx hb d_Po_putIn_0 (by decide) ?_
  refine lv_istore (lv' := [(4, .int (nI 0)), (0, .ref (ad 7)), (1, .long w), (3, .int (nI n))]) hx hb d_Po_putIn_1 hl (by decide) rfl (fun ls hl => ?_)
  have L3 : ∀ (k : Nat) (i : Nat) (u1 : S5) (H : Heap) (locs : List Loc) (ls : Array Slot), (i ≤ n) → (gN u1 3 = gN u 3) → (n - i) < k → res = f_Po_putIn_3 w n u k i u1 → va_P (dC, dI) classes (wC cI ad u1) H → va_D A (wC cI ad u1) → va_S A s.heap H locs → lv_has ls 5 [(4, .int (nI i)), (0, .ref (ad 7)), (1, .long w), (3, .int (nI n))] → W p l e (headSpec w_Po_putIn rm_Po_putIn).room s m ([.ref (ad 7), .long w, .int (nI n)] : List Value).toArray below meth c H locs 0 0 (MQ below (QWv (dC, dI) classes [(cI, .int)] (wC cI ad) A res) ([.ref (ad 7), .long w, .int (nI n)] : List Value).toArray s 0 0 A) (F0 m 3 ls []) := by
    intro k
    induction k with
    | zero => intro i u1 H locs ls hi g3 hm; exact absurd hm (Nat.not_lt_zero _)
    | succ k3 ih3 =>
      intro i u1 H locs ls hi g3 hm hq3 hP hD hS hl
      refine lv_iload hx hb d_Po_putIn_3 (lv_at hl 0 rfl) ?_
      refine lv_iload_n hx hb d_Po_putIn_5 rfl (lv_at hl 3 rfl) ?_
      refine rn_ge (tgt := 39) hx hb (by omega) (by omega) d_Po_putIn_6 (by decide) (fun c1 => ?_) (fun c1 => ?_)
      · skip
        refine lv_aload_n hx hb d_Po_putIn_39 rfl (lv_at hl 1 rfl) ?_
        refine lv_dup hx hb d_Po_putIn_40 rfl ?_
        refine va_get (D := (dC, dI)) (ci := 7) (v := .int (nI (gN u1 3))) (C := R_Po) (T := F_Po) (N := 5) hx hb hts in_Po hown hK hP 7 rfl rfl 1 (by decide) (hts _ m_3_32) (fun _ h9 => h9) rfl d_Po_putIn_41 ?_
        refine lv_iload_n hx hb d_Po_putIn_44 rfl (lv_at hl 3 rfl) ?_
        refine lv_iadd hx hb d_Po_putIn_45 ?_
        refine rw_top (y := nI (gN u1 3 + n)) (nI_add (gN u1 3) n) ?_
        refine va_put (D := (dC, dI)) (ci := 7) (v := .int (nI (gN u1 3 + n))) (ty := .int) (C := R_Po) (T := F_Po) (N := 5) hx hb hts in_Po t_Po t_Po_ok n_Po hown hK hP hD hS 7 rfl rfl 1 (by decide) (hts _ m_3_32) (fun _ h9 => h9) rfl (by decide +kernel) rfl rfl (Nat.le_of_ble_eq_true rfl) d_Po_putIn_46 (fun H locs hP hD hS => ?_)
        have hP : va_P (dC, dI) classes (wC cI ad (sN u1 3 (gN u1 3 + n))) H := hP
        have hD : va_D A (wC cI ad (sN u1 3 (gN u1 3 + n))) := hD
        have hE : res = sN u1 3 (gN u1 3 + n) := hq3.trans ((if_neg (Nat.not_lt.mpr c1)).trans rfl)
        exact retWv hx hb hr hP hK hD hS hE.symm d_Po_putIn_49 hlocks
      · skip
        refine lv_aload_n hx hb d_Po_putIn_9 rfl (lv_at hl 1 rfl) ?_
        refine va_get (D := (dC, dI)) (ci := 7) (v := .ref (ad 20)) (C := R_Po) (T := F_Po) (N := 5) hx hb hts in_Po hown hK hP 7 rfl rfl 0 (by decide) (hts _ m_3_31) (fun _ h9 => h9) rfl d_Po_putIn_10 ?_
        refine lv_aload_n hx hb d_Po_putIn_13 rfl (lv_at hl 1 rfl) ?_
        refine va_get (D := (dC, dI)) (ci := 7) (v := .int (nI (gN u1 3))) (C := R_Po) (T := F_Po) (N := 5) hx hb hts in_Po hown hK hP 7 rfl rfl 1 (by decide) (hts _ m_3_32) (fun _ h9 => h9) rfl d_Po_putIn_14 ?_
        refine lv_iload hx hb d_Po_putIn_17 (lv_at hl 0 rfl) ?_
        refine lv_iadd hx hb d_Po_putIn_19 ?_
        refine rw_top (y := nI (gN u1 3 + i)) (nI_add (gN u1 3) i) ?_
        refine lv_lload_n hx hb d_Po_putIn_20 rfl (lv_at hl 2 rfl) ?_
        refine lv_bipush (v := nI 8) hx hb d_Po_putIn_21 (by decide) ?_
        refine lv_iload hx hb d_Po_putIn_23 (lv_at hl 0 rfl) ?_
        refine lv_imul hx hb d_Po_putIn_25 ?_
        refine rw_top (y := nI (8 * i)) (pk_mul 8 i) ?_
        refine lv_lushr (v := (w.toUInt64 >>> ((nI (8 * i)).toInt64.toUInt64 &&& Int64.toUInt64 63)).toInt64) hx hb d_Po_putIn_26 rfl ?_
        refine lv_l2i (v := ((w.toUInt64 >>> ((nI (8 * i)).toInt64.toUInt64 &&& Int64.toUInt64 63)).toInt64).toInt32) hx hb d_Po_putIn_27 rfl ?_
        refine lv_sipush (v := 255) hx hb d_Po_putIn_28 (by decide) ?_
        refine lv_iand hx hb d_Po_putIn_31 ?_
        refine astC_incoming (u := u1) (n := gN u1 3 + i) hx hb hK hP hD hS (by omega) d_Po_putIn_32 (fun H locs hP hD hS => ?_)
        refine lv_iinc (v := nI (i + 1)) (lv' := [(4, .int (nI (i + 1))), (0, .ref (ad 7)), (1, .long w), (3, .int (nI n))]) hx hb d_Po_putIn_33 hl (k := 0) rfl (rn_inc i 1 (by decide)) (by decide) rfl (fun ls hl => ?_)
        refine lv_goto (tgt := 3) hx hb d_Po_putIn_36 (by decide) ?_
        exact ih3 (i + 1) (uI u1 6 (gN u1 3 + i) ((((w.toUInt64 >>> ((nI (8 * i)).toInt64.toUInt64 &&& Int64.toUInt64 63)).toInt64).toInt32) &&& (255 : Int32))) _ _ _ (by first | assumption | omega) g3 (by omega) (hq3.trans ((if_pos c1).trans rfl)) hP hD hS (lv_sub hl [0, 1, 2, 3] rfl)
  exact L3 (n + 1) 0 u _ _ _ (by first | assumption | omega) rfl (by omega) (hq.trans (rfl)) hP hD hS (lv_sub hl [0, 1, 2, 3] rfl)
def w_Po_takeIn : List Cond := .code y_Po_takeIn b_Po_takeIn 1 (some .int) :: ALLW
def rm_Po_takeIn : Room := { frames := 20, cells := 0, slots := 0, locals := 600 }
theorem d_Po_takeIn_0 : decode b_Po_takeIn 0 = .ok (.aload_n 0, 1) := by decide +kernel
theorem d_Po_takeIn_1 : decode b_Po_takeIn 1 = .ok (.getfield 16, 3) := by decide +kernel
theorem d_Po_takeIn_4 : decode b_Po_takeIn 4 = .ok (.aload_n 0, 1) := by decide +kernel
theorem d_Po_takeIn_5 : decode b_Po_takeIn 5 = .ok (.getfield 23, 3) := by decide +kernel
theorem d_Po_takeIn_8 : decode b_Po_takeIn 8 = .ok (.if_icmp .lt 5, 3) := by decide +kernel
theorem d_Po_takeIn_11 : decode b_Po_takeIn 11 = .ok (.iconst (-1), 1) := by decide +kernel
theorem d_Po_takeIn_12 : decode b_Po_takeIn 12 = .ok (.ireturn, 1) := by decide +kernel
theorem d_Po_takeIn_13 : decode b_Po_takeIn 13 = .ok (.aload_n 0, 1) := by decide +kernel
theorem d_Po_takeIn_14 : decode b_Po_takeIn 14 = .ok (.dup, 1) := by decide +kernel
theorem d_Po_takeIn_15 : decode b_Po_takeIn 15 = .ok (.getfield 16, 3) := by decide +kernel
theorem d_Po_takeIn_18 : decode b_Po_takeIn 18 = .ok (.iconst 1, 1) := by decide +kernel
theorem d_Po_takeIn_19 : decode b_Po_takeIn 19 = .ok (.iadd, 1) := by decide +kernel
theorem d_Po_takeIn_20 : decode b_Po_takeIn 20 = .ok (.putfield 16, 3) := by decide +kernel
theorem d_Po_takeIn_23 : decode b_Po_takeIn 23 = .ok (.aload_n 0, 1) := by decide +kernel
theorem d_Po_takeIn_24 : decode b_Po_takeIn 24 = .ok (.getfield 9, 3) := by decide +kernel
theorem d_Po_takeIn_27 : decode b_Po_takeIn 27 = .ok (.aload_n 0, 1) := by decide +kernel
theorem d_Po_takeIn_28 : decode b_Po_takeIn 28 = .ok (.getfield 16, 3) := by decide +kernel
theorem d_Po_takeIn_31 : decode b_Po_takeIn 31 = .ok (.iconst 1, 1) := by decide +kernel
theorem d_Po_takeIn_32 : decode b_Po_takeIn 32 = .ok (.isub, 1) := by decide +kernel
theorem d_Po_takeIn_33 : decode b_Po_takeIn 33 = .ok (.iaload, 1) := by decide +kernel
theorem d_Po_takeIn_34 : decode b_Po_takeIn 34 = .ok (.ireturn, 1) := by decide +kernel
def f_Po_takeIn (u : S5) : Int32 × S5 := if (gN u 4) < (gN u 3) then (aI u 6 (gN u 4 + 1 - 1), sN u 4 (gN u 4 + 1)) else ((-1), u)
set_option maxHeartbeats 8000000 in
set_option maxRecDepth 100000 in
theorem c_Po_takeIn (l : Launch) (dC : Nat → ClassId) (dI : Nat → Nat → Nat) (cI : ClassId) (ad : Nat → Nat) (u : S5) (ht : gN u 4 ≤ gN u 3) (hp : gN u 3 ≤ 1024) (sz : Nat) : Met l y_Po_takeIn w_Po_takeIn rm_Po_takeIn (PreW (dC, dI) classes [(cI, .int)] (wC cI ad) u sz [.ref (ad 7)]) (QWi (dC, dI) classes [(cI, .int)] (wC cI ad) (va_A (wC cI ad u) sz) (f_Po_takeIn u).1 (f_Po_takeIn u).2) 0 0 (va_A (wC cI ad u) sz) := by
  generalize hres : f_Po_takeIn u = res
  refine Met.ofW (cc := b_Po_takeIn) (maxL := 1) (ret := (some .int)) (by decide) rfl ?_
  intro p e s m args below meth c s₁ B hml hv
  obtain ⟨rfl, rfl, hP, hK, hD0⟩ := hv
  have hx := B.exec
  have hb := B.bytes
  have hr := B.returns
  have hts : ∀ w9 ∈ ALLW, w9.before ([.ref (ad 7)] : List Value).toArray s = true := fun w9 h => atoms_spec (ws := w_Po_takeIn) B.pre w9 (List.mem_cons_of_mem _ h)
  have hown : s.vm.findClass R_Po = some m.cls := findClass_of_methodNamed B.named
  have hlocks := B.notSynchronized
  have hD := hD0.self (sz := s.heap.size)
  generalize hAe : va_A (wC cI ad u) s.heap.size = A at hD ⊢
  have hA : ∀ q : Nat, s.heap.size ≤ q → A q := fun q h => by rw [← hAe]; exact Or.inr h
  have hS : va_S A s.heap s.heap [] := va_S.rf
  have hl := lv_entry ([.ref (ad 7)]) (n := 1) (Nat.le_of_ble_eq_true rfl)
  rw [lg_entry_eq]
  generalize (lg_sl ([.ref (ad 7)]) ++ List.replicate (1 - (lg_sl ([.ref (ad 7)])).length) Slot.unset).toArray = ls at hl ⊢
  have hl : lv_has ls 1 [(0, .ref (ad 7))] := hl
  have hq := hres.symm
  skip
  refine lv_aload_n hx hb d_Po_takeIn_0 rfl (lv_at hl 0 rfl) ?_
  refine va_get (D := (dC, dI)) (ci := 7) (v := .int (nI (gN u 4))) (C := R_Po) (T := F_Po) (N := 5) hx hb hts in_Po hown hK hP 7 rfl rfl 2 (by decide) (hts _ m_3_34) (fun _ h9 => h9) rfl d_Po_takeIn_1 ?_
  refine lv_aload_n hx hb d_Po_takeIn_4 rfl (lv_at hl 0 rfl) ?_
  refine va_get (D := (dC, dI)) (ci := 7) (v := .int (nI (gN u 3))) (C := R_Po) (T := F_Po) (N := 5) hx hb hts in_Po hown hK hP 7 rfl rfl 1 (by decide) (hts _ m_3_32) (fun _ h9 => h9) rfl d_Po_takeIn_5 ?_
  refine rn_lt (tgt := 13) hx hb (by omega) (by omega) d_Po_takeIn_8 (by decide) (fun c1 => ?_) (fun c1 => ?_)
  · skip
    refine lv_aload_n hx hb d_Po_takeIn_13 rfl (lv_at hl 0 rfl) ?_
    refine lv_dup hx hb d_Po_takeIn_14 rfl ?_
    refine va_get (D := (dC, dI)) (ci := 7) (v := .int (nI (gN u 4))) (C := R_Po) (T := F_Po) (N := 5) hx hb hts in_Po hown hK hP 7 rfl rfl 2 (by decide) (hts _ m_3_34) (fun _ h9 => h9) rfl d_Po_takeIn_15 ?_
    refine lv_iconst (v := nI 1) hx hb d_Po_takeIn_18 (by decide) ?_
    refine lv_iadd hx hb d_Po_takeIn_19 ?_
    refine rw_top (y := nI (gN u 4 + 1)) (nI_add (gN u 4) 1) ?_
    refine va_put (D := (dC, dI)) (ci := 7) (v := .int (nI (gN u 4 + 1))) (ty := .int) (C := R_Po) (T := F_Po) (N := 5) hx hb hts in_Po t_Po t_Po_ok n_Po hown hK hP hD hS 7 rfl rfl 2 (by decide) (hts _ m_3_34) (fun _ h9 => h9) rfl (by decide +kernel) rfl rfl (Nat.le_of_ble_eq_true rfl) d_Po_takeIn_20 (fun H locs hP hD hS => ?_)
    have hP : va_P (dC, dI) classes (wC cI ad (sN u 4 (gN u 4 + 1))) H := hP
    have hD : va_D A (wC cI ad (sN u 4 (gN u 4 + 1))) := hD
    refine lv_aload_n hx hb d_Po_takeIn_23 rfl (lv_at hl 0 rfl) ?_
    refine va_get (D := (dC, dI)) (ci := 7) (v := .ref (ad 20)) (C := R_Po) (T := F_Po) (N := 5) hx hb hts in_Po hown hK hP 7 rfl rfl 0 (by decide) (hts _ m_3_31) (fun _ h9 => h9) rfl d_Po_takeIn_24 ?_
    refine lv_aload_n hx hb d_Po_takeIn_27 rfl (lv_at hl 0 rfl) ?_
    refine va_get (D := (dC, dI)) (ci := 7) (v := .int (nI (gN u 4 + 1))) (C := R_Po) (T := F_Po) (N := 5) hx hb hts in_Po hown hK hP 7 rfl rfl 2 (by decide) (hts _ m_3_34) (fun _ h9 => h9) rfl d_Po_takeIn_28 ?_
    refine lv_iconst (v := nI 1) hx hb d_Po_takeIn_31 (by decide) ?_
    refine lv_isub hx hb d_Po_takeIn_32 ?_
    refine rw_top (y := nI (gN u 4 + 1 - 1)) (pk_sub (by omega)) ?_
    refine aldC_incoming (u := (sN u 4 (gN u 4 + 1))) (v := aI u 6 (gN u 4 + 1 - 1)) hx hb hK hP (by omega) rfl d_Po_takeIn_33 ?_
    have hE : res = (aI u 6 (gN u 4 + 1 - 1), sN u 4 (gN u 4 + 1)) := hq.trans ((if_pos c1).trans rfl)
    exact retWi (x := aI u 6 (gN u 4 + 1 - 1)) hx hb hr hP hK hD hS (congrArg Prod.fst hE).symm (congrArg Prod.snd hE).symm d_Po_takeIn_34 hlocks
  · skip
    refine lv_iconst (v := (-1)) hx hb d_Po_takeIn_11 (by decide) ?_
    have hE : res = ((-1), u) := hq.trans ((if_neg (Nat.not_lt.mpr c1)).trans rfl)
    exact retWi (x := (-1)) hx hb hr hP hK hD hS (congrArg Prod.fst hE).symm (congrArg Prod.snd hE).symm d_Po_takeIn_12 hlocks
def w_Po_putOut : List Cond := .code y_Po_putOut b_Po_putOut 2 none :: ALLW
def rm_Po_putOut : Room := { frames := 20, cells := 0, slots := 0, locals := 600 }
theorem d_Po_putOut_0 : decode b_Po_putOut 0 = .ok (.aload_n 0, 1) := by decide +kernel
theorem d_Po_putOut_1 : decode b_Po_putOut 1 = .ok (.getfield 20, 3) := by decide +kernel
theorem d_Po_putOut_4 : decode b_Po_putOut 4 = .ok (.sipush 4096, 3) := by decide +kernel
theorem d_Po_putOut_7 : decode b_Po_putOut 7 = .ok (.if_icmp .ge 23, 3) := by decide +kernel
theorem d_Po_putOut_10 : decode b_Po_putOut 10 = .ok (.aload_n 0, 1) := by decide +kernel
theorem d_Po_putOut_11 : decode b_Po_putOut 11 = .ok (.getfield 13, 3) := by decide +kernel
theorem d_Po_putOut_14 : decode b_Po_putOut 14 = .ok (.aload_n 0, 1) := by decide +kernel
theorem d_Po_putOut_15 : decode b_Po_putOut 15 = .ok (.getfield 20, 3) := by decide +kernel
theorem d_Po_putOut_18 : decode b_Po_putOut 18 = .ok (.iload_n 1, 1) := by decide +kernel
theorem d_Po_putOut_19 : decode b_Po_putOut 19 = .ok (.iastore, 1) := by decide +kernel
theorem d_Po_putOut_20 : decode b_Po_putOut 20 = .ok (.aload_n 0, 1) := by decide +kernel
theorem d_Po_putOut_21 : decode b_Po_putOut 21 = .ok (.dup, 1) := by decide +kernel
theorem d_Po_putOut_22 : decode b_Po_putOut 22 = .ok (.getfield 20, 3) := by decide +kernel
theorem d_Po_putOut_25 : decode b_Po_putOut 25 = .ok (.iconst 1, 1) := by decide +kernel
theorem d_Po_putOut_26 : decode b_Po_putOut 26 = .ok (.iadd, 1) := by decide +kernel
theorem d_Po_putOut_27 : decode b_Po_putOut 27 = .ok (.putfield 20, 3) := by decide +kernel
theorem d_Po_putOut_30 : decode b_Po_putOut 30 = .ok (.return_, 1) := by decide +kernel
def f_Po_putOut (v : Int32) (u : S5) : S5 := if (gN u 5) < 4096 then sN (uI u 7 (gN u 5) v) 5 (gN u 5 + 1) else u
set_option maxHeartbeats 8000000 in
set_option maxRecDepth 100000 in
theorem c_Po_putOut (l : Launch) (dC : Nat → ClassId) (dI : Nat → Nat → Nat) (cI : ClassId) (ad : Nat → Nat) (u : S5) (v : Int32) (hs : gN u 5 ≤ 4096) (sz : Nat) : Met l y_Po_putOut w_Po_putOut rm_Po_putOut (PreW (dC, dI) classes [(cI, .int)] (wC cI ad) u sz [.ref (ad 7), .int v]) (QWv (dC, dI) classes [(cI, .int)] (wC cI ad) (va_A (wC cI ad u) sz) (f_Po_putOut v u)) 0 0 (va_A (wC cI ad u) sz) := by
  generalize hres : f_Po_putOut v u = res
  refine Met.ofW (cc := b_Po_putOut) (maxL := 2) (ret := none) (by decide) rfl ?_
  intro p e s m args below meth c s₁ B hml hv
  obtain ⟨rfl, rfl, hP, hK, hD0⟩ := hv
  have hx := B.exec
  have hb := B.bytes
  have hr := B.returns
  have hts : ∀ w9 ∈ ALLW, w9.before ([.ref (ad 7), .int v] : List Value).toArray s = true := fun w9 h => atoms_spec (ws := w_Po_putOut) B.pre w9 (List.mem_cons_of_mem _ h)
  have hown : s.vm.findClass R_Po = some m.cls := findClass_of_methodNamed B.named
  have hlocks := B.notSynchronized
  have hD := hD0.self (sz := s.heap.size)
  generalize hAe : va_A (wC cI ad u) s.heap.size = A at hD ⊢
  have hA : ∀ q : Nat, s.heap.size ≤ q → A q := fun q h => by rw [← hAe]; exact Or.inr h
  have hS : va_S A s.heap s.heap [] := va_S.rf
  have hl := lv_entry ([.ref (ad 7), .int v]) (n := 2) (Nat.le_of_ble_eq_true rfl)
  rw [lg_entry_eq]
  generalize (lg_sl ([.ref (ad 7), .int v]) ++ List.replicate (2 - (lg_sl ([.ref (ad 7), .int v])).length) Slot.unset).toArray = ls at hl ⊢
  have hl : lv_has ls 2 [(0, .ref (ad 7)), (1, .int v)] := hl
  have hq := hres.symm
  skip
  refine lv_aload_n hx hb d_Po_putOut_0 rfl (lv_at hl 0 rfl) ?_
  refine va_get (D := (dC, dI)) (ci := 7) (v := .int (nI (gN u 5))) (C := R_Po) (T := F_Po) (N := 5) hx hb hts in_Po hown hK hP 7 rfl rfl 4 (by decide) (hts _ m_3_37) (fun _ h9 => h9) rfl d_Po_putOut_1 ?_
  refine lv_sipush (v := nI 4096) hx hb d_Po_putOut_4 (by decide) ?_
  refine rn_ge (tgt := 30) hx hb (by omega) (by omega) d_Po_putOut_7 (by decide) (fun c1 => ?_) (fun c1 => ?_)
  · skip
    have hE : res = u := hq.trans ((if_neg (Nat.not_lt.mpr c1)).trans rfl)
    exact retWv hx hb hr hP hK hD hS hE.symm d_Po_putOut_30 hlocks
  · skip
    refine lv_aload_n hx hb d_Po_putOut_10 rfl (lv_at hl 0 rfl) ?_
    refine va_get (D := (dC, dI)) (ci := 7) (v := .ref (ad 21)) (C := R_Po) (T := F_Po) (N := 5) hx hb hts in_Po hown hK hP 7 rfl rfl 3 (by decide) (hts _ m_3_35) (fun _ h9 => h9) rfl d_Po_putOut_11 ?_
    refine lv_aload_n hx hb d_Po_putOut_14 rfl (lv_at hl 0 rfl) ?_
    refine va_get (D := (dC, dI)) (ci := 7) (v := .int (nI (gN u 5))) (C := R_Po) (T := F_Po) (N := 5) hx hb hts in_Po hown hK hP 7 rfl rfl 4 (by decide) (hts _ m_3_37) (fun _ h9 => h9) rfl d_Po_putOut_15 ?_
    refine lv_iload_n hx hb d_Po_putOut_18 rfl (lv_at hl 1 rfl) ?_
    refine astC_outgoing (u := u) (n := gN u 5) hx hb hK hP hD hS (by omega) d_Po_putOut_19 (fun H locs hP hD hS => ?_)
    refine lv_aload_n hx hb d_Po_putOut_20 rfl (lv_at hl 0 rfl) ?_
    refine lv_dup hx hb d_Po_putOut_21 rfl ?_
    refine va_get (D := (dC, dI)) (ci := 7) (v := .int (nI (gN u 5))) (C := R_Po) (T := F_Po) (N := 5) hx hb hts in_Po hown hK hP 7 rfl rfl 4 (by decide) (hts _ m_3_37) (fun _ h9 => h9) rfl d_Po_putOut_22 ?_
    refine lv_iconst (v := nI 1) hx hb d_Po_putOut_25 (by decide) ?_
    refine lv_iadd hx hb d_Po_putOut_26 ?_
    refine rw_top (y := nI (gN u 5 + 1)) (nI_add (gN u 5) 1) ?_
    refine va_put (D := (dC, dI)) (ci := 7) (v := .int (nI (gN u 5 + 1))) (ty := .int) (C := R_Po) (T := F_Po) (N := 5) hx hb hts in_Po t_Po t_Po_ok n_Po hown hK hP hD hS 7 rfl rfl 4 (by decide) (hts _ m_3_37) (fun _ h9 => h9) rfl (by decide +kernel) rfl rfl (Nat.le_of_ble_eq_true rfl) d_Po_putOut_27 (fun H locs hP hD hS => ?_)
    have hP : va_P (dC, dI) classes (wC cI ad (sN (uI u 7 (gN u 5) v) 5 (gN u 5 + 1))) H := hP
    have hD : va_D A (wC cI ad (sN (uI u 7 (gN u 5) v) 5 (gN u 5 + 1))) := hD
    have hE : res = sN (uI u 7 (gN u 5) v) 5 (gN u 5 + 1) := hq.trans ((if_pos c1).trans rfl)
    exact retWv hx hb hr hP hK hD hS hE.symm d_Po_putOut_30 hlocks
