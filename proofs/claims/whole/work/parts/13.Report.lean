def w_Rp_reset : List Cond := .code y_Rp_reset b_Rp_reset 1 none :: ALLW
def rm_Rp_reset : Room := { frames := 20, cells := 0, slots := 0, locals := 600 }
theorem d_Rp_reset_0 : decode b_Rp_reset 0 = .ok (.aload_n 0, 1) := by decide +kernel
theorem d_Rp_reset_1 : decode b_Rp_reset 1 = .ok (.iconst 0, 1) := by decide +kernel
theorem d_Rp_reset_2 : decode b_Rp_reset 2 = .ok (.putfield 16, 3) := by decide +kernel
theorem d_Rp_reset_5 : decode b_Rp_reset 5 = .ok (.aload_n 0, 1) := by decide +kernel
theorem d_Rp_reset_6 : decode b_Rp_reset 6 = .ok (.iconst 0, 1) := by decide +kernel
theorem d_Rp_reset_7 : decode b_Rp_reset 7 = .ok (.putfield 20, 3) := by decide +kernel
theorem d_Rp_reset_10 : decode b_Rp_reset 10 = .ok (.aload_n 0, 1) := by decide +kernel
theorem d_Rp_reset_11 : decode b_Rp_reset 11 = .ok (.iconst 0, 1) := by decide +kernel
theorem d_Rp_reset_12 : decode b_Rp_reset 12 = .ok (.putfield 23, 3) := by decide +kernel
theorem d_Rp_reset_15 : decode b_Rp_reset 15 = .ok (.aload_n 0, 1) := by decide +kernel
theorem d_Rp_reset_16 : decode b_Rp_reset 16 = .ok (.iconst 0, 1) := by decide +kernel
theorem d_Rp_reset_17 : decode b_Rp_reset 17 = .ok (.putfield 26, 3) := by decide +kernel
theorem d_Rp_reset_20 : decode b_Rp_reset 20 = .ok (.return_, 1) := by decide +kernel
def f_Rp_reset (u : S5) : S5 := sN (sN (sI (sN u 0 0) 6 0) 1 0) 2 0
set_option maxHeartbeats 8000000 in
set_option maxRecDepth 100000 in
theorem c_Rp_reset (l : Launch) (dC : Nat → ClassId) (dI : Nat → Nat → Nat) (cI : ClassId) (ad : Nat → Nat) (u : S5) (sz : Nat) : Met l y_Rp_reset w_Rp_reset rm_Rp_reset (PreW (dC, dI) classes [(cI, .int)] (wC cI ad) u sz [.ref (ad 4)]) (QWv (dC, dI) classes [(cI, .int)] (wC cI ad) (va_A (wC cI ad u) sz) (f_Rp_reset u)) 0 0 (va_A (wC cI ad u) sz) := by
  generalize hres : f_Rp_reset u = res
  refine Met.ofW (cc := b_Rp_reset) (maxL := 1) (ret := none) (by decide) rfl ?_
  intro p e s m args below meth c s₁ B hml hv
  obtain ⟨rfl, rfl, hP, hK, hD0⟩ := hv
  have hx := B.exec
  have hb := B.bytes
  have hr := B.returns
  have hts : ∀ w9 ∈ ALLW, w9.before ([.ref (ad 4)] : List Value).toArray s = true := fun w9 h => atoms_spec (ws := w_Rp_reset) B.pre w9 (List.mem_cons_of_mem _ h)
  have hown : s.vm.findClass R_Rp = some m.cls := findClass_of_methodNamed B.named
  have hlocks := B.notSynchronized
  have hD := hD0.self (sz := s.heap.size)
  generalize hAe : va_A (wC cI ad u) s.heap.size = A at hD ⊢
  have hA : ∀ q : Nat, s.heap.size ≤ q → A q := fun q h => by rw [← hAe]; exact Or.inr h
  have hS : va_S A s.heap s.heap [] := va_S.rf
  have hl := lv_entry ([.ref (ad 4)]) (n := 1) (Nat.le_of_ble_eq_true rfl)
  rw [lg_entry_eq]
  generalize (lg_sl ([.ref (ad 4)]) ++ List.replicate (1 - (lg_sl ([.ref (ad 4)])).length) Slot.unset).toArray = ls at hl ⊢
  have hl : lv_has ls 1 [(0, .ref (ad 4))] := hl
  have hq := hres.symm
  skip
  refine lv_aload_n hx hb d_Rp_reset_0 rfl (lv_at hl 0 rfl) ?_
  refine lv_iconst (v := nI 0) hx hb d_Rp_reset_1 (by decide) ?_
  refine va_put (D := (dC, dI)) (ci := 4) (v := .int (nI 0)) (ty := .int) (C := R_Rp) (T := F_Rp) (N := 6) hx hb hts in_Rp t_Rp t_Rp_ok n_Rp hown hK hP hD hS 4 rfl rfl 1 (by decide) (hts _ m_2_12) (fun _ h9 => h9) rfl (by decide +kernel) rfl rfl (Nat.le_of_ble_eq_true rfl) d_Rp_reset_2 (fun H locs hP hD hS => ?_)
  have hP : va_P (dC, dI) classes (wC cI ad (sN u 0 0)) H := hP
  have hD : va_D A (wC cI ad (sN u 0 0)) := hD
  refine lv_aload_n hx hb d_Rp_reset_5 rfl (lv_at hl 0 rfl) ?_
  refine lv_iconst (v := 0) hx hb d_Rp_reset_6 (by decide) ?_
  refine va_put (D := (dC, dI)) (ci := 4) (v := .int 0) (ty := .int) (C := R_Rp) (T := F_Rp) (N := 6) hx hb hts in_Rp t_Rp t_Rp_ok n_Rp hown hK hP hD hS 4 rfl rfl 2 (by decide) (hts _ m_2_14) (fun _ h9 => h9) rfl (by decide +kernel) rfl rfl (Nat.le_of_ble_eq_true rfl) d_Rp_reset_7 (fun H locs hP hD hS => ?_)
  have hP : va_P (dC, dI) classes (wC cI ad (sI (sN u 0 0) 6 0)) H := hP
  have hD : va_D A (wC cI ad (sI (sN u 0 0) 6 0)) := hD
  refine lv_aload_n hx hb d_Rp_reset_10 rfl (lv_at hl 0 rfl) ?_
  refine lv_iconst (v := nI 0) hx hb d_Rp_reset_11 (by decide) ?_
  refine va_put (D := (dC, dI)) (ci := 4) (v := .int (nI 0)) (ty := .int) (C := R_Rp) (T := F_Rp) (N := 6) hx hb hts in_Rp t_Rp t_Rp_ok n_Rp hown hK hP hD hS 4 rfl rfl 4 (by decide) (hts _ m_2_17) (fun _ h9 => h9) rfl (by decide +kernel) rfl rfl (Nat.le_of_ble_eq_true rfl) d_Rp_reset_12 (fun H locs hP hD hS => ?_)
  have hP : va_P (dC, dI) classes (wC cI ad (sN (sI (sN u 0 0) 6 0) 1 0)) H := hP
  have hD : va_D A (wC cI ad (sN (sI (sN u 0 0) 6 0) 1 0)) := hD
  refine lv_aload_n hx hb d_Rp_reset_15 rfl (lv_at hl 0 rfl) ?_
  refine lv_iconst (v := nI 0) hx hb d_Rp_reset_16 (by decide) ?_
  refine va_put (D := (dC, dI)) (ci := 4) (v := .int (nI 0)) (ty := .int) (C := R_Rp) (T := F_Rp) (N := 6) hx hb hts in_Rp t_Rp t_Rp_ok n_Rp hown hK hP hD hS 4 rfl rfl 5 (by decide) (hts _ m_2_18) (fun _ h9 => h9) rfl (by decide +kernel) rfl rfl (Nat.le_of_ble_eq_true rfl) d_Rp_reset_17 (fun H locs hP hD hS => ?_)
  have hP : va_P (dC, dI) classes (wC cI ad (sN (sN (sI (sN u 0 0) 6 0) 1 0) 2 0)) H := hP
  have hD : va_D A (wC cI ad (sN (sN (sI (sN u 0 0) 6 0) 1 0) 2 0)) := hD
  have hE : res = sN (sN (sI (sN u 0 0) 6 0) 1 0) 2 0 := hq.trans (rfl)
  exact retWv hx hb hr hP hK hD hS hE.symm d_Rp_reset_20 hlocks
def w_Rp_wasTold : List Cond := .code y_Rp_wasTold b_Rp_wasTold 4 (some .boolean) :: ALLW
def rm_Rp_wasTold : Room := { frames := 20, cells := 0, slots := 0, locals := 600 }
theorem d_Rp_wasTold_0 : decode b_Rp_wasTold 0 = .ok (.iconst 0, 1) := by decide +kernel
theorem d_Rp_wasTold_1 : decode b_Rp_wasTold 1 = .ok (.istore_n 3, 1) := by decide +kernel
theorem d_Rp_wasTold_2 : decode b_Rp_wasTold 2 = .ok (.iload_n 3, 1) := by decide +kernel
theorem d_Rp_wasTold_3 : decode b_Rp_wasTold 3 = .ok (.aload_n 0, 1) := by decide +kernel
theorem d_Rp_wasTold_4 : decode b_Rp_wasTold 4 = .ok (.getfield 16, 3) := by decide +kernel
theorem d_Rp_wasTold_7 : decode b_Rp_wasTold 7 = .ok (.if_icmp .ge 39, 3) := by decide +kernel
theorem d_Rp_wasTold_10 : decode b_Rp_wasTold 10 = .ok (.aload_n 0, 1) := by decide +kernel
theorem d_Rp_wasTold_11 : decode b_Rp_wasTold 11 = .ok (.getfield 9, 3) := by decide +kernel
theorem d_Rp_wasTold_14 : decode b_Rp_wasTold 14 = .ok (.iload_n 3, 1) := by decide +kernel
theorem d_Rp_wasTold_15 : decode b_Rp_wasTold 15 = .ok (.bipush 7, 2) := by decide +kernel
theorem d_Rp_wasTold_17 : decode b_Rp_wasTold 17 = .ok (.imul, 1) := by decide +kernel
theorem d_Rp_wasTold_18 : decode b_Rp_wasTold 18 = .ok (.iaload, 1) := by decide +kernel
theorem d_Rp_wasTold_19 : decode b_Rp_wasTold 19 = .ok (.iload_n 1, 1) := by decide +kernel
theorem d_Rp_wasTold_20 : decode b_Rp_wasTold 20 = .ok (.if_icmp .ne 20, 3) := by decide +kernel
theorem d_Rp_wasTold_23 : decode b_Rp_wasTold 23 = .ok (.aload_n 0, 1) := by decide +kernel
theorem d_Rp_wasTold_24 : decode b_Rp_wasTold 24 = .ok (.getfield 9, 3) := by decide +kernel
theorem d_Rp_wasTold_27 : decode b_Rp_wasTold 27 = .ok (.iload_n 3, 1) := by decide +kernel
theorem d_Rp_wasTold_28 : decode b_Rp_wasTold 28 = .ok (.bipush 7, 2) := by decide +kernel
theorem d_Rp_wasTold_30 : decode b_Rp_wasTold 30 = .ok (.imul, 1) := by decide +kernel
theorem d_Rp_wasTold_31 : decode b_Rp_wasTold 31 = .ok (.iconst 1, 1) := by decide +kernel
theorem d_Rp_wasTold_32 : decode b_Rp_wasTold 32 = .ok (.iadd, 1) := by decide +kernel
theorem d_Rp_wasTold_33 : decode b_Rp_wasTold 33 = .ok (.iaload, 1) := by decide +kernel
theorem d_Rp_wasTold_34 : decode b_Rp_wasTold 34 = .ok (.iload_n 2, 1) := by decide +kernel
theorem d_Rp_wasTold_35 : decode b_Rp_wasTold 35 = .ok (.if_icmp .ne 5, 3) := by decide +kernel
theorem d_Rp_wasTold_38 : decode b_Rp_wasTold 38 = .ok (.iconst 1, 1) := by decide +kernel
theorem d_Rp_wasTold_39 : decode b_Rp_wasTold 39 = .ok (.ireturn, 1) := by decide +kernel
theorem d_Rp_wasTold_40 : decode b_Rp_wasTold 40 = .ok (.iinc 3 1, 3) := by decide +kernel
theorem d_Rp_wasTold_43 : decode b_Rp_wasTold 43 = .ok (.goto (-41), 3) := by decide +kernel
theorem d_Rp_wasTold_46 : decode b_Rp_wasTold 46 = .ok (.iconst 0, 1) := by decide +kernel
theorem d_Rp_wasTold_47 : decode b_Rp_wasTold 47 = .ok (.ireturn, 1) := by decide +kernel
def f_Rp_wasTold_2 (w : Int32) (q : Int32) (u : S5) : Nat → Nat → Bool
  | 0, j => false
  | k2 + 1, j => if j < (gN u 0) then (if (aI u 4 (j * 7)) = w then (if (aI u 4 (j * 7 + 1)) = q then true else f_Rp_wasTold_2 w q u k2 (j + 1)) else f_Rp_wasTold_2 w q u k2 (j + 1)) else false
def f_Rp_wasTold (w : Int32) (q : Int32) (u : S5) : Bool := f_Rp_wasTold_2 w q u (gN u 0 + 1) 0
set_option maxHeartbeats 8000000 in
set_option maxRecDepth 100000 in
theorem c_Rp_wasTold (l : Launch) (dC : Nat → ClassId) (dI : Nat → Nat → Nat) (cI : ClassId) (ad : Nat → Nat) (u : S5) (w : Int32) (q : Int32) (hto : gN u 0 ≤ 60) (sz : Nat) : Met l y_Rp_wasTold w_Rp_wasTold rm_Rp_wasTold (PreW (dC, dI) classes [(cI, .int)] (wC cI ad) u sz [.ref (ad 4), .int w, .int q]) (QWi (dC, dI) classes [(cI, .int)] (wC cI ad) (va_A (wC cI ad u) sz) (b2i (f_Rp_wasTold w q u)) u) 0 0 (va_A (wC cI ad u) sz) := by
  generalize hres : f_Rp_wasTold w q u = res
  refine Met.ofW (cc := b_Rp_wasTold) (maxL := 4) (ret := (some .boolean)) (by decide) rfl ?_
  intro p e s m args below meth c s₁ B hml hv
  obtain ⟨rfl, rfl, hP, hK, hD0⟩ := hv
  have hx := B.exec
  have hb := B.bytes
  have hr := B.returns
  have hts : ∀ w9 ∈ ALLW, w9.before ([.ref (ad 4), .int w, .int q] : List Value).toArray s = true := fun w9 h => atoms_spec (ws := w_Rp_wasTold) B.pre w9 (List.mem_cons_of_mem _ h)
  have hown : s.vm.findClass R_Rp = some m.cls := findClass_of_methodNamed B.named
  have hlocks := B.notSynchronized
  have hD := hD0.self (sz := s.heap.size)
  generalize hAe : va_A (wC cI ad u) s.heap.size = A at hD ⊢
  have hA : ∀ q : Nat, s.heap.size ≤ q → A q := fun q h => by rw [← hAe]; exact Or.inr h
  have hS : va_S A s.heap s.heap [] := va_S.rf
  have hl := lv_entry ([.ref (ad 4), .int w, .int q]) (n := 4) (Nat.le_of_ble_eq_true rfl)
  rw [lg_entry_eq]
  generalize (lg_sl ([.ref (ad 4), .int w, .int q]) ++ List.replicate (4 - (lg_sl ([.ref (ad 4), .int w, .int q])).length) Slot.unset).toArray = ls at hl ⊢
  have hl : lv_has ls 4 [(0, .ref (ad 4)), (1, .int w), (2, .int q)] := hl
  have hq := hres.symm
  skip
  refine lv_iconst (v := nI 0) hx hb d_Rp_wasTold_0 (by decide) ?_
  refine lv_istore_n (lv' := [(3, .int (nI 0)), (0, .ref (ad 4)), (1, .int w), (2, .int q)]) hx hb d_Rp_wasTold_1 rfl hl (by decide) rfl (fun ls hl => ?_)
  have L2 : ∀ (k : Nat) (j : Nat) (H : Heap) (locs : List Loc) (ls : Array Slot), (j ≤ gN u 0) → (gN u 0 - j) < k → res = f_Rp_wasTold_2 w q u k j → va_P (dC, dI) classes (wC cI ad u) H → va_D A (wC cI ad u) → va_S A s.heap H locs → lv_has ls 4 [(3, .int (nI j)), (0, .ref (ad 4)), (1, .int w), (2, .int q)] → W p l e (headSpec w_Rp_wasTold rm_Rp_wasTold).room s m ([.ref (ad 4), .int w, .int q] : List Value).toArray below meth c H locs 0 0 (MQ below (QWi (dC, dI) classes [(cI, .int)] (wC cI ad) A (b2i res) u) ([.ref (ad 4), .int w, .int q] : List Value).toArray s 0 0 A) (F0 m 2 ls []) := by
    intro k
    induction k with
    | zero => intro j H locs ls hj hm; exact absurd hm (Nat.not_lt_zero _)
    | succ k2 ih2 =>
      intro j H locs ls hj hm hq2 hP hD hS hl
      refine lv_iload_n hx hb d_Rp_wasTold_2 rfl (lv_at hl 0 rfl) ?_
      refine lv_aload_n hx hb d_Rp_wasTold_3 rfl (lv_at hl 1 rfl) ?_
      refine va_get (D := (dC, dI)) (ci := 4) (v := .int (nI (gN u 0))) (C := R_Rp) (T := F_Rp) (N := 6) hx hb hts in_Rp hown hK hP 4 rfl rfl 1 (by decide) (hts _ m_2_12) (fun _ h9 => h9) rfl d_Rp_wasTold_4 ?_
      refine rn_ge (tgt := 46) hx hb (by omega) (by omega) d_Rp_wasTold_7 (by decide) (fun c1 => ?_) (fun c1 => ?_)
      · skip
        refine lv_iconst (v := 0) hx hb d_Rp_wasTold_46 (by decide) ?_
        have hE : res = false := hq2.trans ((if_neg (Nat.not_lt.mpr c1)).trans rfl)
        exact retWb (x := false) hx hb hr hP hK hD hS hE.symm rfl d_Rp_wasTold_47 hlocks
      · skip
        refine lv_aload_n hx hb d_Rp_wasTold_10 rfl (lv_at hl 1 rfl) ?_
        refine va_get (D := (dC, dI)) (ci := 4) (v := .ref (ad 12)) (C := R_Rp) (T := F_Rp) (N := 6) hx hb hts in_Rp hown hK hP 4 rfl rfl 0 (by decide) (hts _ m_2_10) (fun _ h9 => h9) rfl d_Rp_wasTold_11 ?_
        refine lv_iload_n hx hb d_Rp_wasTold_14 rfl (lv_at hl 0 rfl) ?_
        refine lv_bipush (v := nI 7) hx hb d_Rp_wasTold_15 (by decide) ?_
        refine lv_imul hx hb d_Rp_wasTold_17 ?_
        refine rw_top (y := nI (j * 7)) (pk_mul j 7) ?_
        refine aldC_rows (u := u) (v := aI u 4 (j * 7)) hx hb hK hP (by omega) rfl d_Rp_wasTold_18 ?_
        refine lv_iload_n hx hb d_Rp_wasTold_19 rfl (lv_at hl 2 rfl) ?_
        refine lv_icmp_ne (tgt := 40) hx hb d_Rp_wasTold_20 (by decide) (fun c2 => ?_) (fun c2 => ?_)
        · skip
          refine lv_iinc (v := nI (j + 1)) (lv' := [(3, .int (nI (j + 1))), (0, .ref (ad 4)), (1, .int w), (2, .int q)]) hx hb d_Rp_wasTold_40 hl (k := 0) rfl (rn_inc j 1 (by decide)) (by decide) rfl (fun ls hl => ?_)
          refine lv_goto (tgt := 2) hx hb d_Rp_wasTold_43 (by decide) ?_
          exact ih2 (j + 1) _ _ _ (by first | assumption | omega) (by omega) (hq2.trans ((if_pos c1).trans ((if_neg c2).trans rfl))) hP hD hS (lv_sub hl [0, 1, 2, 3] rfl)
        · skip
          refine lv_aload_n hx hb d_Rp_wasTold_23 rfl (lv_at hl 1 rfl) ?_
          refine va_get (D := (dC, dI)) (ci := 4) (v := .ref (ad 12)) (C := R_Rp) (T := F_Rp) (N := 6) hx hb hts in_Rp hown hK hP 4 rfl rfl 0 (by decide) (hts _ m_2_10) (fun _ h9 => h9) rfl d_Rp_wasTold_24 ?_
          refine lv_iload_n hx hb d_Rp_wasTold_27 rfl (lv_at hl 0 rfl) ?_
          refine lv_bipush (v := nI 7) hx hb d_Rp_wasTold_28 (by decide) ?_
          refine lv_imul hx hb d_Rp_wasTold_30 ?_
          refine rw_top (y := nI (j * 7)) (pk_mul j 7) ?_
          refine lv_iconst (v := nI 1) hx hb d_Rp_wasTold_31 (by decide) ?_
          refine lv_iadd hx hb d_Rp_wasTold_32 ?_
          refine rw_top (y := nI (j * 7 + 1)) (nI_add (j * 7) 1) ?_
          refine aldC_rows (u := u) (v := aI u 4 (j * 7 + 1)) hx hb hK hP (by omega) rfl d_Rp_wasTold_33 ?_
          refine lv_iload_n hx hb d_Rp_wasTold_34 rfl (lv_at hl 3 rfl) ?_
          refine lv_icmp_ne (tgt := 40) hx hb d_Rp_wasTold_35 (by decide) (fun c3 => ?_) (fun c3 => ?_)
          · skip
            refine lv_iinc (v := nI (j + 1)) (lv' := [(3, .int (nI (j + 1))), (0, .ref (ad 4)), (1, .int w), (2, .int q)]) hx hb d_Rp_wasTold_40 hl (k := 0) rfl (rn_inc j 1 (by decide)) (by decide) rfl (fun ls hl => ?_)
            refine lv_goto (tgt := 2) hx hb d_Rp_wasTold_43 (by decide) ?_
            exact ih2 (j + 1) _ _ _ (by first | assumption | omega) (by omega) (hq2.trans ((if_pos c1).trans ((if_pos c2).trans ((if_neg c3).trans rfl)))) hP hD hS (lv_sub hl [0, 1, 2, 3] rfl)
          · skip
            refine lv_iconst (v := 1) hx hb d_Rp_wasTold_38 (by decide) ?_
            have hE : res = true := hq2.trans ((if_pos c1).trans ((if_pos c2).trans ((if_pos c3).trans rfl)))
            exact retWb (x := true) hx hb hr hP hK hD hS hE.symm rfl d_Rp_wasTold_39 hlocks
  exact L2 (gN u 0 + 1) 0 _ _ _ (by first | assumption | omega) (by omega) (hq.trans (rfl)) hP hD hS (lv_sub hl [0, 1, 2, 3] rfl)
def w_Rp_tell : List Cond := .code y_Rp_tell b_Rp_tell 6 none :: ALLW
def rm_Rp_tell : Room := { frames := 20, cells := 0, slots := 0, locals := 600 }
theorem d_Rp_tell_0 : decode b_Rp_tell 0 = .ok (.aload_n 0, 1) := by decide +kernel
theorem d_Rp_tell_1 : decode b_Rp_tell 1 = .ok (.getfield 16, 3) := by decide +kernel
theorem d_Rp_tell_4 : decode b_Rp_tell 4 = .ok (.bipush 7, 2) := by decide +kernel
theorem d_Rp_tell_6 : decode b_Rp_tell 6 = .ok (.imul, 1) := by decide +kernel
theorem d_Rp_tell_7 : decode b_Rp_tell 7 = .ok (.istore 4, 2) := by decide +kernel
theorem d_Rp_tell_9 : decode b_Rp_tell 9 = .ok (.aload_n 0, 1) := by decide +kernel
theorem d_Rp_tell_10 : decode b_Rp_tell 10 = .ok (.getfield 9, 3) := by decide +kernel
theorem d_Rp_tell_13 : decode b_Rp_tell 13 = .ok (.iload 4, 2) := by decide +kernel
theorem d_Rp_tell_15 : decode b_Rp_tell 15 = .ok (.iload_n 1, 1) := by decide +kernel
theorem d_Rp_tell_16 : decode b_Rp_tell 16 = .ok (.iastore, 1) := by decide +kernel
theorem d_Rp_tell_17 : decode b_Rp_tell 17 = .ok (.aload_n 0, 1) := by decide +kernel
theorem d_Rp_tell_18 : decode b_Rp_tell 18 = .ok (.getfield 9, 3) := by decide +kernel
theorem d_Rp_tell_21 : decode b_Rp_tell 21 = .ok (.iload 4, 2) := by decide +kernel
theorem d_Rp_tell_23 : decode b_Rp_tell 23 = .ok (.iconst 1, 1) := by decide +kernel
theorem d_Rp_tell_24 : decode b_Rp_tell 24 = .ok (.iadd, 1) := by decide +kernel
theorem d_Rp_tell_25 : decode b_Rp_tell 25 = .ok (.iload_n 2, 1) := by decide +kernel
theorem d_Rp_tell_26 : decode b_Rp_tell 26 = .ok (.iastore, 1) := by decide +kernel
theorem d_Rp_tell_27 : decode b_Rp_tell 27 = .ok (.aload_n 0, 1) := by decide +kernel
theorem d_Rp_tell_28 : decode b_Rp_tell 28 = .ok (.getfield 9, 3) := by decide +kernel
theorem d_Rp_tell_31 : decode b_Rp_tell 31 = .ok (.iload 4, 2) := by decide +kernel
theorem d_Rp_tell_33 : decode b_Rp_tell 33 = .ok (.iconst 2, 1) := by decide +kernel
theorem d_Rp_tell_34 : decode b_Rp_tell 34 = .ok (.iadd, 1) := by decide +kernel
theorem d_Rp_tell_35 : decode b_Rp_tell 35 = .ok (.iload_n 3, 1) := by decide +kernel
theorem d_Rp_tell_36 : decode b_Rp_tell 36 = .ok (.iastore, 1) := by decide +kernel
theorem d_Rp_tell_37 : decode b_Rp_tell 37 = .ok (.iconst 0, 1) := by decide +kernel
theorem d_Rp_tell_38 : decode b_Rp_tell 38 = .ok (.istore 5, 2) := by decide +kernel
theorem d_Rp_tell_40 : decode b_Rp_tell 40 = .ok (.iload 5, 2) := by decide +kernel
theorem d_Rp_tell_42 : decode b_Rp_tell 42 = .ok (.iconst 4, 1) := by decide +kernel
theorem d_Rp_tell_43 : decode b_Rp_tell 43 = .ok (.if_icmp .ge 51, 3) := by decide +kernel
theorem d_Rp_tell_46 : decode b_Rp_tell 46 = .ok (.aload_n 0, 1) := by decide +kernel
theorem d_Rp_tell_47 : decode b_Rp_tell 47 = .ok (.getfield 9, 3) := by decide +kernel
theorem d_Rp_tell_50 : decode b_Rp_tell 50 = .ok (.iload 4, 2) := by decide +kernel
theorem d_Rp_tell_52 : decode b_Rp_tell 52 = .ok (.iconst 3, 1) := by decide +kernel
theorem d_Rp_tell_53 : decode b_Rp_tell 53 = .ok (.iadd, 1) := by decide +kernel
theorem d_Rp_tell_54 : decode b_Rp_tell 54 = .ok (.iload 5, 2) := by decide +kernel
theorem d_Rp_tell_56 : decode b_Rp_tell 56 = .ok (.iadd, 1) := by decide +kernel
theorem d_Rp_tell_57 : decode b_Rp_tell 57 = .ok (.iload 5, 2) := by decide +kernel
theorem d_Rp_tell_59 : decode b_Rp_tell 59 = .ok (.aload_n 0, 1) := by decide +kernel
theorem d_Rp_tell_60 : decode b_Rp_tell 60 = .ok (.getfield 26, 3) := by decide +kernel
theorem d_Rp_tell_63 : decode b_Rp_tell 63 = .ok (.if_icmp .ge 23, 3) := by decide +kernel
theorem d_Rp_tell_66 : decode b_Rp_tell 66 = .ok (.aload_n 0, 1) := by decide +kernel
theorem d_Rp_tell_67 : decode b_Rp_tell 67 = .ok (.getfield 13, 3) := by decide +kernel
theorem d_Rp_tell_70 : decode b_Rp_tell 70 = .ok (.aload_n 0, 1) := by decide +kernel
theorem d_Rp_tell_71 : decode b_Rp_tell 71 = .ok (.getfield 23, 3) := by decide +kernel
theorem d_Rp_tell_74 : decode b_Rp_tell 74 = .ok (.iconst 1, 1) := by decide +kernel
theorem d_Rp_tell_75 : decode b_Rp_tell 75 = .ok (.isub, 1) := by decide +kernel
theorem d_Rp_tell_76 : decode b_Rp_tell 76 = .ok (.iload 5, 2) := by decide +kernel
theorem d_Rp_tell_78 : decode b_Rp_tell 78 = .ok (.isub, 1) := by decide +kernel
theorem d_Rp_tell_79 : decode b_Rp_tell 79 = .ok (.bipush 31, 2) := by decide +kernel
theorem d_Rp_tell_81 : decode b_Rp_tell 81 = .ok (.iand, 1) := by decide +kernel
theorem d_Rp_tell_82 : decode b_Rp_tell 82 = .ok (.iaload, 1) := by decide +kernel
theorem d_Rp_tell_83 : decode b_Rp_tell 83 = .ok (.goto 4, 3) := by decide +kernel
theorem d_Rp_tell_86 : decode b_Rp_tell 86 = .ok (.iconst 0, 1) := by decide +kernel
theorem d_Rp_tell_87 : decode b_Rp_tell 87 = .ok (.iastore, 1) := by decide +kernel
theorem d_Rp_tell_88 : decode b_Rp_tell 88 = .ok (.iinc 5 1, 3) := by decide +kernel
theorem d_Rp_tell_91 : decode b_Rp_tell 91 = .ok (.goto (-51), 3) := by decide +kernel
theorem d_Rp_tell_94 : decode b_Rp_tell 94 = .ok (.aload_n 0, 1) := by decide +kernel
theorem d_Rp_tell_95 : decode b_Rp_tell 95 = .ok (.dup, 1) := by decide +kernel
theorem d_Rp_tell_96 : decode b_Rp_tell 96 = .ok (.getfield 16, 3) := by decide +kernel
theorem d_Rp_tell_99 : decode b_Rp_tell 99 = .ok (.iconst 1, 1) := by decide +kernel
theorem d_Rp_tell_100 : decode b_Rp_tell 100 = .ok (.iadd, 1) := by decide +kernel
theorem d_Rp_tell_101 : decode b_Rp_tell 101 = .ok (.putfield 16, 3) := by decide +kernel
theorem d_Rp_tell_104 : decode b_Rp_tell 104 = .ok (.return_, 1) := by decide +kernel
def f_Rp_tell_40 (w : Int32) (q : Int32) (v : Int32) (u : S5) : Nat → Nat → S5 → S5
  | 0, i, u1 => u1
  | k40 + 1, i, u1 => if i < 4 then (let x2 : Int32 := if i < (gN u1 2) then aI u1 5 ((gN u1 1 + 31 - i) % 32) else 0; f_Rp_tell_40 w q v u k40 (i + 1) (uI u1 4 ((gN u 0) * 7 + 3 + i) x2)) else sN u1 0 (gN u1 0 + 1)
def f_Rp_tell (w : Int32) (q : Int32) (v : Int32) (u : S5) : S5 := f_Rp_tell_40 w q v u 5 0 (uI (uI (uI u 4 ((gN u 0) * 7) w) 4 ((gN u 0) * 7 + 1) q) 4 ((gN u 0) * 7 + 2) v)
set_option maxHeartbeats 8000000 in
set_option maxRecDepth 100000 in
theorem c_Rp_tell (l : Launch) (dC : Nat → ClassId) (dI : Nat → Nat → Nat) (cI : ClassId) (ad : Nat → Nat) (u : S5) (w : Int32) (q : Int32) (v : Int32) (hto : gN u 0 < 60) (htp : gN u 1 < 32) (hre : gN u 2 ≤ 32) (sz : Nat) : Met l y_Rp_tell w_Rp_tell rm_Rp_tell (PreW (dC, dI) classes [(cI, .int)] (wC cI ad) u sz [.ref (ad 4), .int w, .int q, .int v]) (QWv (dC, dI) classes [(cI, .int)] (wC cI ad) (va_A (wC cI ad u) sz) (f_Rp_tell w q v u)) 0 0 (va_A (wC cI ad u) sz) := by
  generalize hres : f_Rp_tell w q v u = res
  refine Met.ofW (cc := b_Rp_tell) (maxL := 6) (ret := none) (by decide) rfl ?_
  intro p e s m args below meth c s₁ B hml hv
  obtain ⟨rfl, rfl, hP, hK, hD0⟩ := hv
  have hx := B.exec
  have hb := B.bytes
  have hr := B.returns
  have hts : ∀ w9 ∈ ALLW, w9.before ([.ref (ad 4), .int w, .int q, .int v] : List Value).toArray s = true := fun w9 h => atoms_spec (ws := w_Rp_tell) B.pre w9 (List.mem_cons_of_mem _ h)
  have hown : s.vm.findClass R_Rp = some m.cls := findClass_of_methodNamed B.named
  have hlocks := B.notSynchronized
  have hD := hD0.self (sz := s.heap.size)
  generalize hAe : va_A (wC cI ad u) s.heap.size = A at hD ⊢
  have hA : ∀ q : Nat, s.heap.size ≤ q → A q := fun q h => by rw [← hAe]; exact Or.inr h
  have hS : va_S A s.heap s.heap [] := va_S.rf
  have hl := lv_entry ([.ref (ad 4), .int w, .int q, .int v]) (n := 6) (Nat.le_of_ble_eq_true rfl)
  rw [lg_entry_eq]
  generalize (lg_sl ([.ref (ad 4), .int w, .int q, .int v]) ++ List.replicate (6 - (lg_sl ([.ref (ad 4), .int w, .int q, .int v])).length) Slot.unset).toArray = ls at hl ⊢
  have hl : lv_has ls 6 [(0, .ref (ad 4)), (1, .int w), (2, .int q), (3, .int v)] := hl
  have hq := hres.symm
  skip
  refine lv_aload_n hx hb d_Rp_tell_0 rfl (lv_at hl 0 rfl) ?_
  refine va_get (D := (dC, dI)) (ci := 4) (v := .int (nI (gN u 0))) (C := R_Rp) (T := F_Rp) (N := 6) hx hb hts in_Rp hown hK hP 4 rfl rfl 1 (by decide) (hts _ m_2_12) (fun _ h9 => h9) rfl d_Rp_tell_1 ?_
  refine lv_bipush (v := nI 7) hx hb d_Rp_tell_4 (by decide) ?_
  refine lv_imul hx hb d_Rp_tell_6 ?_
  refine rw_top (y := nI ((gN u 0) * 7)) (pk_mul (gN u 0) 7) ?_
  refine lv_istore (lv' := [(4, .int (nI ((gN u 0) * 7))), (0, .ref (ad 4)), (1, .int w), (2, .int q), (3, .int v)]) hx hb d_Rp_tell_7 hl (by decide) rfl (fun ls hl => ?_)
  refine lv_aload_n hx hb d_Rp_tell_9 rfl (lv_at hl 1 rfl) ?_
  refine va_get (D := (dC, dI)) (ci := 4) (v := .ref (ad 12)) (C := R_Rp) (T := F_Rp) (N := 6) hx hb hts in_Rp hown hK hP 4 rfl rfl 0 (by decide) (hts _ m_2_10) (fun _ h9 => h9) rfl d_Rp_tell_10 ?_
  refine lv_iload hx hb d_Rp_tell_13 (lv_at hl 0 rfl) ?_
  refine lv_iload_n hx hb d_Rp_tell_15 rfl (lv_at hl 2 rfl) ?_
  refine astC_rows (u := u) (n := (gN u 0) * 7) hx hb hK hP hD hS (by omega) d_Rp_tell_16 (fun H locs hP hD hS => ?_)
  refine lv_aload_n hx hb d_Rp_tell_17 rfl (lv_at hl 1 rfl) ?_
  refine va_get (D := (dC, dI)) (ci := 4) (v := .ref (ad 12)) (C := R_Rp) (T := F_Rp) (N := 6) hx hb hts in_Rp hown hK hP 4 rfl rfl 0 (by decide) (hts _ m_2_10) (fun _ h9 => h9) rfl d_Rp_tell_18 ?_
  refine lv_iload hx hb d_Rp_tell_21 (lv_at hl 0 rfl) ?_
  refine lv_iconst (v := nI 1) hx hb d_Rp_tell_23 (by decide) ?_
  refine lv_iadd hx hb d_Rp_tell_24 ?_
  refine rw_top (y := nI ((gN u 0) * 7 + 1)) (nI_add ((gN u 0) * 7) 1) ?_
  refine lv_iload_n hx hb d_Rp_tell_25 rfl (lv_at hl 3 rfl) ?_
  refine astC_rows (u := (uI u 4 ((gN u 0) * 7) w)) (n := (gN u 0) * 7 + 1) hx hb hK hP hD hS (by omega) d_Rp_tell_26 (fun H locs hP hD hS => ?_)
  refine lv_aload_n hx hb d_Rp_tell_27 rfl (lv_at hl 1 rfl) ?_
  refine va_get (D := (dC, dI)) (ci := 4) (v := .ref (ad 12)) (C := R_Rp) (T := F_Rp) (N := 6) hx hb hts in_Rp hown hK hP 4 rfl rfl 0 (by decide) (hts _ m_2_10) (fun _ h9 => h9) rfl d_Rp_tell_28 ?_
  refine lv_iload hx hb d_Rp_tell_31 (lv_at hl 0 rfl) ?_
  refine lv_iconst (v := nI 2) hx hb d_Rp_tell_33 (by decide) ?_
  refine lv_iadd hx hb d_Rp_tell_34 ?_
  refine rw_top (y := nI ((gN u 0) * 7 + 2)) (nI_add ((gN u 0) * 7) 2) ?_
  refine lv_iload_n hx hb d_Rp_tell_35 rfl (lv_at hl 4 rfl) ?_
  refine astC_rows (u := (uI (uI u 4 ((gN u 0) * 7) w) 4 ((gN u 0) * 7 + 1) q)) (n := (gN u 0) * 7 + 2) hx hb hK hP hD hS (by omega) d_Rp_tell_36 (fun H locs hP hD hS => ?_)
  refine lv_iconst (v := nI 0) hx hb d_Rp_tell_37 (by decide) ?_
  refine lv_istore (lv' := [(5, .int (nI 0)), (4, .int (nI ((gN u 0) * 7))), (0, .ref (ad 4)), (1, .int w), (2, .int q), (3, .int v)]) hx hb d_Rp_tell_38 hl (by decide) rfl (fun ls hl => ?_)
  have L40 : ∀ (k : Nat) (i : Nat) (u1 : S5) (H : Heap) (locs : List Loc) (ls : Array Slot), (i ≤ 4) → (gN u1 0 = gN u 0) → (gN u1 1 = gN u 1) → (gN u1 2 = gN u 2) → (4 - i) < k → res = f_Rp_tell_40 w q v u k i u1 → va_P (dC, dI) classes (wC cI ad u1) H → va_D A (wC cI ad u1) → va_S A s.heap H locs → lv_has ls 6 [(5, .int (nI i)), (4, .int (nI ((gN u 0) * 7))), (0, .ref (ad 4)), (1, .int w), (2, .int q), (3, .int v)] → W p l e (headSpec w_Rp_tell rm_Rp_tell).room s m ([.ref (ad 4), .int w, .int q, .int v] : List Value).toArray below meth c H locs 0 0 (MQ below (QWv (dC, dI) classes [(cI, .int)] (wC cI ad) A res) ([.ref (ad 4), .int w, .int q, .int v] : List Value).toArray s 0 0 A) (F0 m 40 ls []) := by
    intro k
    induction k with
    | zero => intro i u1 H locs ls hi g0 g1 g2 hm; exact absurd hm (Nat.not_lt_zero _)
    | succ k40 ih40 =>
      intro i u1 H locs ls hi g0 g1 g2 hm hq40 hP hD hS hl
      refine lv_iload hx hb d_Rp_tell_40 (lv_at hl 0 rfl) ?_
      refine lv_iconst (v := nI 4) hx hb d_Rp_tell_42 (by decide) ?_
      refine rn_ge (tgt := 94) hx hb (by omega) (by omega) d_Rp_tell_43 (by decide) (fun c1 => ?_) (fun c1 => ?_)
      · skip
        refine lv_aload_n hx hb d_Rp_tell_94 rfl (lv_at hl 2 rfl) ?_
        refine lv_dup hx hb d_Rp_tell_95 rfl ?_
        refine va_get (D := (dC, dI)) (ci := 4) (v := .int (nI (gN u1 0))) (C := R_Rp) (T := F_Rp) (N := 6) hx hb hts in_Rp hown hK hP 4 rfl rfl 1 (by decide) (hts _ m_2_12) (fun _ h9 => h9) rfl d_Rp_tell_96 ?_
        refine lv_iconst (v := nI 1) hx hb d_Rp_tell_99 (by decide) ?_
        refine lv_iadd hx hb d_Rp_tell_100 ?_
        refine rw_top (y := nI (gN u1 0 + 1)) (nI_add (gN u1 0) 1) ?_
        refine va_put (D := (dC, dI)) (ci := 4) (v := .int (nI (gN u1 0 + 1))) (ty := .int) (C := R_Rp) (T := F_Rp) (N := 6) hx hb hts in_Rp t_Rp t_Rp_ok n_Rp hown hK hP hD hS 4 rfl rfl 1 (by decide) (hts _ m_2_12) (fun _ h9 => h9) rfl (by decide +kernel) rfl rfl (Nat.le_of_ble_eq_true rfl) d_Rp_tell_101 (fun H locs hP hD hS => ?_)
        have hP : va_P (dC, dI) classes (wC cI ad (sN u1 0 (gN u1 0 + 1))) H := hP
        have hD : va_D A (wC cI ad (sN u1 0 (gN u1 0 + 1))) := hD
        have hE : res = sN u1 0 (gN u1 0 + 1) := hq40.trans ((if_neg (Nat.not_lt.mpr c1)).trans rfl)
        exact retWv hx hb hr hP hK hD hS hE.symm d_Rp_tell_104 hlocks
      · skip
        refine lv_aload_n hx hb d_Rp_tell_46 rfl (lv_at hl 2 rfl) ?_
        refine va_get (D := (dC, dI)) (ci := 4) (v := .ref (ad 12)) (C := R_Rp) (T := F_Rp) (N := 6) hx hb hts in_Rp hown hK hP 4 rfl rfl 0 (by decide) (hts _ m_2_10) (fun _ h9 => h9) rfl d_Rp_tell_47 ?_
        refine lv_iload hx hb d_Rp_tell_50 (lv_at hl 1 rfl) ?_
        refine lv_iconst (v := nI 3) hx hb d_Rp_tell_52 (by decide) ?_
        refine lv_iadd hx hb d_Rp_tell_53 ?_
        refine rw_top (y := nI ((gN u 0) * 7 + 3)) (nI_add ((gN u 0) * 7) 3) ?_
        refine lv_iload hx hb d_Rp_tell_54 (lv_at hl 0 rfl) ?_
        refine lv_iadd hx hb d_Rp_tell_56 ?_
        refine rw_top (y := nI ((gN u 0) * 7 + 3 + i)) (nI_add ((gN u 0) * 7 + 3) i) ?_
        refine lv_iload hx hb d_Rp_tell_57 (lv_at hl 0 rfl) ?_
        refine lv_aload_n hx hb d_Rp_tell_59 rfl (lv_at hl 2 rfl) ?_
        refine va_get (D := (dC, dI)) (ci := 4) (v := .int (nI (gN u1 2))) (C := R_Rp) (T := F_Rp) (N := 6) hx hb hts in_Rp hown hK hP 4 rfl rfl 5 (by decide) (hts _ m_2_18) (fun _ h9 => h9) rfl d_Rp_tell_60 ?_
        have J87 : ∀ (x2 : Int32) (H : Heap) (locs : List Loc), x2 = (if i < (gN u1 2) then aI u1 5 ((gN u1 1 + 31 - i) % 32) else 0) → va_P (dC, dI) classes (wC cI ad u1) H → va_D A (wC cI ad u1) → va_S A s.heap H locs → W p l e (headSpec w_Rp_tell rm_Rp_tell).room s m ([.ref (ad 4), .int w, .int q, .int v] : List Value).toArray below meth c H locs 0 0 (MQ below (QWv (dC, dI) classes [(cI, .int)] (wC cI ad) A res) ([.ref (ad 4), .int w, .int q, .int v] : List Value).toArray s 0 0 A) (F0 m 87 ls [.int x2, .int (nI ((gN u 0) * 7 + 3 + i)), .ref (ad 12)]) := by
          intro x2 H locs ex2 hP hD hS
          refine astC_rows (u := u1) (n := (gN u 0) * 7 + 3 + i) hx hb hK hP hD hS (by omega) d_Rp_tell_87 (fun H locs hP hD hS => ?_)
          refine lv_iinc (v := nI (i + 1)) (lv' := [(5, .int (nI (i + 1))), (4, .int (nI ((gN u 0) * 7))), (0, .ref (ad 4)), (1, .int w), (2, .int q), (3, .int v)]) hx hb d_Rp_tell_88 hl (k := 0) rfl (rn_inc i 1 (by decide)) (by decide) rfl (fun ls hl => ?_)
          refine lv_goto (tgt := 40) hx hb d_Rp_tell_91 (by decide) ?_
          exact ih40 (i + 1) (uI u1 4 ((gN u 0) * 7 + 3 + i) x2) _ _ _ (by first | assumption | omega) g0 g1 g2 (by omega) ((by subst ex2; exact hq40.trans ((if_pos c1).trans rfl))) hP hD hS (lv_sub hl [0, 1, 2, 3, 4, 5] rfl)
        refine rn_ge (tgt := 86) hx hb (by omega) (by omega) d_Rp_tell_63 (by decide) (fun c3 => ?_) (fun c3 => ?_)
        · skip
          refine lv_iconst (v := 0) hx hb d_Rp_tell_86 (by decide) ?_
          exact J87 0 _ _ (Eq.symm ((if_neg (Nat.not_lt.mpr c3)).trans (rfl))) hP hD hS
        · skip
          refine lv_aload_n hx hb d_Rp_tell_66 rfl (lv_at hl 2 rfl) ?_
          refine va_get (D := (dC, dI)) (ci := 4) (v := .ref (ad 13)) (C := R_Rp) (T := F_Rp) (N := 6) hx hb hts in_Rp hown hK hP 4 rfl rfl 3 (by decide) (hts _ m_2_16) (fun _ h9 => h9) rfl d_Rp_tell_67 ?_
          refine lv_aload_n hx hb d_Rp_tell_70 rfl (lv_at hl 2 rfl) ?_
          refine va_get (D := (dC, dI)) (ci := 4) (v := .int (nI (gN u1 1))) (C := R_Rp) (T := F_Rp) (N := 6) hx hb hts in_Rp hown hK hP 4 rfl rfl 4 (by decide) (hts _ m_2_17) (fun _ h9 => h9) rfl d_Rp_tell_71 ?_
          refine lv_iconst (v := 1) hx hb d_Rp_tell_74 (by decide) ?_
          refine lv_isub hx hb d_Rp_tell_75 ?_
          refine lv_iload hx hb d_Rp_tell_76 (lv_at hl 0 rfl) ?_
          refine lv_isub hx hb d_Rp_tell_78 ?_
          refine lv_bipush (v := 31) hx hb d_Rp_tell_79 (by decide) ?_
          refine lv_iand hx hb d_Rp_tell_81 ?_
          refine rw_top (y := nI ((gN u1 1 + 31 - i) % 32)) (rg_2 _ (by omega) _ (by omega)) ?_
          refine aldC_ring (u := u1) (v := aI u1 5 ((gN u1 1 + 31 - i) % 32)) hx hb hK hP (by omega) rfl d_Rp_tell_82 ?_
          refine lv_goto (tgt := 87) hx hb d_Rp_tell_83 (by decide) ?_
          exact J87 (aI u1 5 ((gN u1 1 + 31 - i) % 32)) _ _ (Eq.symm ((if_pos c3).trans (rfl))) hP hD hS
  exact L40 5 0 (uI (uI (uI u 4 ((gN u 0) * 7) w) 4 ((gN u 0) * 7 + 1) q) 4 ((gN u 0) * 7 + 2) v) _ _ _ (by first | assumption | omega) rfl rfl rfl (by omega) (hq.trans (rfl)) hP hD hS (lv_sub hl [0, 1, 2, 3, 4, 5] rfl)
theorem tl_loop (w q v : Int32) (u : S5) : ∀ (k i : Nat) (u1 : S5), FrS [] [0] [4] [] u1 (f_Rp_tell_40 w q v u k i u1) ∧ gN (f_Rp_tell_40 w q v u k i u1) 0 ≤ gN u1 0 + 1 := by
  intro k
  induction k with
  | zero => intro i u1; exact ⟨FrS.rf, Nat.le_succ _⟩
  | succ k ih =>
    intro i u1
    unfold f_Rp_tell_40
    split
    · dsimp only
      exact ⟨FrS.tr (FrS.uI _ _ _ _ (by decide)) (ih _ _).1, (ih _ _).2⟩
    · exact ⟨FrS.sN _ _ _ (by decide), Nat.le_refl _⟩
theorem tl_fr (w q v : Int32) (u : S5) : FrS [] [0] [4] [] u (f_Rp_tell w q v u) := by
  unfold f_Rp_tell
  exact FrS.tr (FrS.uI _ _ _ _ (by decide)) (FrS.tr (FrS.uI _ _ _ _ (by decide)) (FrS.tr (FrS.uI _ _ _ _ (by decide)) (tl_loop _ _ _ _ _ _ _).1))
theorem tl_0 (w q v : Int32) (u : S5) : gN (f_Rp_tell w q v u) 0 ≤ gN u 0 + 1 := by
  unfold f_Rp_tell
  exact (tl_loop _ _ _ _ _ _ _).2
def w_Rp_note : List Cond := .code y_Rp_note b_Rp_note 4 none :: ALLW
def rm_Rp_note : Room := { frames := 21, cells := 0, slots := 0, locals := 625 }
theorem d_Rp_note_0 : decode b_Rp_note 0 = .ok (.aload_n 0, 1) := by decide +kernel
theorem d_Rp_note_1 : decode b_Rp_note 1 = .ok (.dup, 1) := by decide +kernel
theorem d_Rp_note_2 : decode b_Rp_note 2 = .ok (.getfield 20, 3) := by decide +kernel
theorem d_Rp_note_5 : decode b_Rp_note 5 = .ok (.iconst 1, 1) := by decide +kernel
theorem d_Rp_note_6 : decode b_Rp_note 6 = .ok (.iadd, 1) := by decide +kernel
theorem d_Rp_note_7 : decode b_Rp_note 7 = .ok (.putfield 20, 3) := by decide +kernel
theorem d_Rp_note_10 : decode b_Rp_note 10 = .ok (.aload_n 0, 1) := by decide +kernel
theorem d_Rp_note_11 : decode b_Rp_note 11 = .ok (.getfield 16, 3) := by decide +kernel
theorem d_Rp_note_14 : decode b_Rp_note 14 = .ok (.bipush 60, 2) := by decide +kernel
theorem d_Rp_note_16 : decode b_Rp_note 16 = .ok (.if_icmp .ge 19, 3) := by decide +kernel
theorem d_Rp_note_19 : decode b_Rp_note 19 = .ok (.aload_n 0, 1) := by decide +kernel
theorem d_Rp_note_20 : decode b_Rp_note 20 = .ok (.iload_n 1, 1) := by decide +kernel
theorem d_Rp_note_21 : decode b_Rp_note 21 = .ok (.iload_n 2, 1) := by decide +kernel
theorem d_Rp_note_22 : decode b_Rp_note 22 = .ok (.invokevirtual 29, 3) := by decide +kernel
theorem d_Rp_note_25 : decode b_Rp_note 25 = .ok (.ifCond .ne 10, 3) := by decide +kernel
theorem d_Rp_note_28 : decode b_Rp_note 28 = .ok (.aload_n 0, 1) := by decide +kernel
theorem d_Rp_note_29 : decode b_Rp_note 29 = .ok (.iload_n 1, 1) := by decide +kernel
theorem d_Rp_note_30 : decode b_Rp_note 30 = .ok (.iload_n 2, 1) := by decide +kernel
theorem d_Rp_note_31 : decode b_Rp_note 31 = .ok (.iload_n 3, 1) := by decide +kernel
theorem d_Rp_note_32 : decode b_Rp_note 32 = .ok (.invokevirtual 33, 3) := by decide +kernel
theorem d_Rp_note_35 : decode b_Rp_note 35 = .ok (.return_, 1) := by decide +kernel
def f_Rp_note (w : Int32) (q : Int32) (v : Int32) (u : S5) : S5 := if (gN u 0) < 60 then (if (f_Rp_wasTold w q (sI u 6 ((gI u 6) + (1 : Int32)))) = true then sI u 6 ((gI u 6) + (1 : Int32)) else f_Rp_tell w q v (sI u 6 ((gI u 6) + (1 : Int32)))) else sI u 6 ((gI u 6) + (1 : Int32))
set_option maxHeartbeats 8000000 in
set_option maxRecDepth 100000 in
theorem c_Rp_note (l : Launch) (dC : Nat → ClassId) (dI : Nat → Nat → Nat) (cI : ClassId) (ad : Nat → Nat) (u : S5) (w : Int32) (q : Int32) (v : Int32) (hto : gN u 0 ≤ 60) (htp : gN u 1 < 32) (hre : gN u 2 ≤ 32) (sz : Nat) : Met l y_Rp_note w_Rp_note rm_Rp_note (PreW (dC, dI) classes [(cI, .int)] (wC cI ad) u sz [.ref (ad 4), .int w, .int q, .int v]) (QWv (dC, dI) classes [(cI, .int)] (wC cI ad) (va_A (wC cI ad u) sz) (f_Rp_note w q v u)) 0 0 (va_A (wC cI ad u) sz) := by
  generalize hres : f_Rp_note w q v u = res
  refine Met.ofW (cc := b_Rp_note) (maxL := 4) (ret := none) (by decide) rfl ?_
  intro p e s m args below meth c s₁ B hml hv
  obtain ⟨rfl, rfl, hP, hK, hD0⟩ := hv
  have hx := B.exec
  have hb := B.bytes
  have hr := B.returns
  have hts : ∀ w9 ∈ ALLW, w9.before ([.ref (ad 4), .int w, .int q, .int v] : List Value).toArray s = true := fun w9 h => atoms_spec (ws := w_Rp_note) B.pre w9 (List.mem_cons_of_mem _ h)
  have hown : s.vm.findClass R_Rp = some m.cls := findClass_of_methodNamed B.named
  have hlocks := B.notSynchronized
  have hD := hD0.self (sz := s.heap.size)
  generalize hAe : va_A (wC cI ad u) s.heap.size = A at hD ⊢
  have hA : ∀ q : Nat, s.heap.size ≤ q → A q := fun q h => by rw [← hAe]; exact Or.inr h
  have hS : va_S A s.heap s.heap [] := va_S.rf
  have hl := lv_entry ([.ref (ad 4), .int w, .int q, .int v]) (n := 4) (Nat.le_of_ble_eq_true rfl)
  rw [lg_entry_eq]
  generalize (lg_sl ([.ref (ad 4), .int w, .int q, .int v]) ++ List.replicate (4 - (lg_sl ([.ref (ad 4), .int w, .int q, .int v])).length) Slot.unset).toArray = ls at hl ⊢
  have hl : lv_has ls 4 [(0, .ref (ad 4)), (1, .int w), (2, .int q), (3, .int v)] := hl
  have hq := hres.symm
  skip
  refine lv_aload_n hx hb d_Rp_note_0 rfl (lv_at hl 0 rfl) ?_
  refine lv_dup hx hb d_Rp_note_1 rfl ?_
  refine va_get (D := (dC, dI)) (ci := 4) (v := .int (gI u 6)) (C := R_Rp) (T := F_Rp) (N := 6) hx hb hts in_Rp hown hK hP 4 rfl rfl 2 (by decide) (hts _ m_2_14) (fun _ h9 => h9) rfl d_Rp_note_2 ?_
  refine lv_iconst (v := 1) hx hb d_Rp_note_5 (by decide) ?_
  refine lv_iadd hx hb d_Rp_note_6 ?_
  refine va_put (D := (dC, dI)) (ci := 4) (v := .int ((gI u 6) + (1 : Int32))) (ty := .int) (C := R_Rp) (T := F_Rp) (N := 6) hx hb hts in_Rp t_Rp t_Rp_ok n_Rp hown hK hP hD hS 4 rfl rfl 2 (by decide) (hts _ m_2_14) (fun _ h9 => h9) rfl (by decide +kernel) rfl rfl (Nat.le_of_ble_eq_true rfl) d_Rp_note_7 (fun H locs hP hD hS => ?_)
  have hP : va_P (dC, dI) classes (wC cI ad (sI u 6 ((gI u 6) + (1 : Int32)))) H := hP
  have hD : va_D A (wC cI ad (sI u 6 ((gI u 6) + (1 : Int32)))) := hD
  refine lv_aload_n hx hb d_Rp_note_10 rfl (lv_at hl 0 rfl) ?_
  refine va_get (D := (dC, dI)) (ci := 4) (v := .int (nI (gN u 0))) (C := R_Rp) (T := F_Rp) (N := 6) hx hb hts in_Rp hown hK hP 4 rfl rfl 1 (by decide) (hts _ m_2_12) (fun _ h9 => h9) rfl d_Rp_note_11 ?_
  refine lv_bipush (v := nI 60) hx hb d_Rp_note_14 (by decide) ?_
  refine rn_ge (tgt := 35) hx hb (by omega) (by omega) d_Rp_note_16 (by decide) (fun c1 => ?_) (fun c1 => ?_)
  · skip
    have hE : res = sI u 6 ((gI u 6) + (1 : Int32)) := hq.trans ((if_neg (Nat.not_lt.mpr c1)).trans rfl)
    exact retWv hx hb hr hP hK hD hS hE.symm d_Rp_note_35 hlocks
  · skip
    refine lv_aload_n hx hb d_Rp_note_19 rfl (lv_at hl 0 rfl) ?_
    refine lv_iload_n hx hb d_Rp_note_20 rfl (lv_at hl 1 rfl) ?_
    refine lv_iload_n hx hb d_Rp_note_21 rfl (lv_at hl 2 rfl) ?_
    refine callWi (va_runV (As := [.int w, .int q]) (rest := []) ⟨hx, hb, hml, hown, hts⟩ (c_Rp_wasTold l dC dI cI ad (sI u 6 ((gI u 6) + (1 : Int32))) w q (by first | assumption | omega) H.size) (cwV 2 hts (goodV m_6_34 m_6_35 m_18_38 m_0_8 m_6_36) rfl rfl rfl (by decide +kernel) ⟨Nat.le_of_ble_eq_true rfl, Nat.le_of_ble_eq_true rfl⟩) ⟨preW_blind, va_recv hK hP (ci := 4) (q0 := 4) rfl rfl, preW_ok hP hD hK⟩ rfl rfl hl.1 rfl (lv_room (Nat.le_of_ble_eq_true rfl)) d_Rp_note_22 ⟨Nat.zero_le _, Nat.zero_le _⟩) hP hD hS hA (fun H locs hP hD hS => ?_)
    refine rb_ne (tgt := 35) hx hb d_Rp_note_25 (by decide) (fun c2 => ?_) (fun c2 => ?_)
    · skip
      have hE : res = sI u 6 ((gI u 6) + (1 : Int32)) := hq.trans ((if_pos c1).trans ((if_pos c2).trans rfl))
      exact retWv hx hb hr hP hK hD hS hE.symm d_Rp_note_35 hlocks
    · skip
      refine lv_aload_n hx hb d_Rp_note_28 rfl (lv_at hl 0 rfl) ?_
      refine lv_iload_n hx hb d_Rp_note_29 rfl (lv_at hl 1 rfl) ?_
      refine lv_iload_n hx hb d_Rp_note_30 rfl (lv_at hl 2 rfl) ?_
      refine lv_iload_n hx hb d_Rp_note_31 rfl (lv_at hl 3 rfl) ?_
      refine callWv (va_runV (As := [.int w, .int q, .int v]) (rest := []) ⟨hx, hb, hml, hown, hts⟩ (c_Rp_tell l dC dI cI ad (sI u 6 ((gI u 6) + (1 : Int32))) w q v (by first | assumption | omega) (by first | assumption | omega) (by first | assumption | omega) H.size) (cwV 3 hts (goodV m_6_37 m_6_38 m_18_39 m_0_8 m_6_39) rfl rfl rfl (by decide +kernel) ⟨Nat.le_of_ble_eq_true rfl, Nat.le_of_ble_eq_true rfl⟩) ⟨preW_blind, va_recv hK hP (ci := 4) (q0 := 4) rfl rfl, preW_ok hP hD hK⟩ rfl rfl hl.1 rfl (lv_room (Nat.le_of_ble_eq_true rfl)) d_Rp_note_32 ⟨Nat.zero_le _, Nat.zero_le _⟩) hP hD hS hA (fun H locs hP hD hS => ?_)
      have hE : res = f_Rp_tell w q v (sI u 6 ((gI u 6) + (1 : Int32))) := hq.trans ((if_pos c1).trans ((if_neg c2).trans rfl))
      exact retWv hx hb hr hP hK hD hS hE.symm d_Rp_note_35 hlocks
theorem nt_fr (w q v : Int32) (u : S5) : FrS [6] [0] [4] [] u (f_Rp_note w q v u) := by
  unfold f_Rp_note
  have h1 : FrS [6] [0] [4] [] u (sI u 6 (gI u 6 + (1 : Int32))) := FrS.sI _ _ _ (by decide)
  split
  · split
    · exact h1
    · exact FrS.tr h1 ((tl_fr _ _ _ _).wk (by simp) (by simp) (by simp) (by simp))
  · exact h1
theorem nt_ok (w q v : Int32) {u : S5} (h : OkR u) : OkR (f_Rp_note w q v u) := by
  have hf := nt_fr w q v u
  refine ⟨?_, by rw [hf.2.1 1 (by decide)]; exact h.2.1, by rw [hf.2.1 2 (by decide)]; exact h.2.2⟩
  unfold f_Rp_note
  split
  · split
    · exact h.1
    · have := tl_0 w q v (sI u 6 (gI u 6 + (1 : Int32)))
      have e : gN (sI u 6 (gI u 6 + (1 : Int32))) 0 = gN u 0 := rfl
      omega
  · exact h.1
def w_Rp_noteLost : List Cond := .code y_Rp_noteLost b_Rp_noteLost 3 none :: ALLW
def rm_Rp_noteLost : Room := { frames := 21, cells := 0, slots := 0, locals := 625 }
theorem d_Rp_noteLost_0 : decode b_Rp_noteLost 0 = .ok (.aload_n 0, 1) := by decide +kernel
theorem d_Rp_noteLost_1 : decode b_Rp_noteLost 1 = .ok (.dup, 1) := by decide +kernel
theorem d_Rp_noteLost_2 : decode b_Rp_noteLost 2 = .ok (.getfield 20, 3) := by decide +kernel
theorem d_Rp_noteLost_5 : decode b_Rp_noteLost 5 = .ok (.iconst 1, 1) := by decide +kernel
theorem d_Rp_noteLost_6 : decode b_Rp_noteLost 6 = .ok (.iadd, 1) := by decide +kernel
theorem d_Rp_noteLost_7 : decode b_Rp_noteLost 7 = .ok (.putfield 20, 3) := by decide +kernel
theorem d_Rp_noteLost_10 : decode b_Rp_noteLost 10 = .ok (.aload_n 0, 1) := by decide +kernel
theorem d_Rp_noteLost_11 : decode b_Rp_noteLost 11 = .ok (.getfield 16, 3) := by decide +kernel
theorem d_Rp_noteLost_14 : decode b_Rp_noteLost 14 = .ok (.bipush 60, 2) := by decide +kernel
theorem d_Rp_noteLost_16 : decode b_Rp_noteLost 16 = .ok (.if_icmp .ge 11, 3) := by decide +kernel
theorem d_Rp_noteLost_19 : decode b_Rp_noteLost 19 = .ok (.aload_n 0, 1) := by decide +kernel
theorem d_Rp_noteLost_20 : decode b_Rp_noteLost 20 = .ok (.bipush 8, 2) := by decide +kernel
theorem d_Rp_noteLost_22 : decode b_Rp_noteLost 22 = .ok (.iload_n 1, 1) := by decide +kernel
theorem d_Rp_noteLost_23 : decode b_Rp_noteLost 23 = .ok (.iload_n 2, 1) := by decide +kernel
theorem d_Rp_noteLost_24 : decode b_Rp_noteLost 24 = .ok (.invokevirtual 33, 3) := by decide +kernel
theorem d_Rp_noteLost_27 : decode b_Rp_noteLost 27 = .ok (.return_, 1) := by decide +kernel
def f_Rp_noteLost (q : Int32) (v : Int32) (u : S5) : S5 := if (gN u 0) < 60 then f_Rp_tell 8 q v (sI u 6 ((gI u 6) + (1 : Int32))) else sI u 6 ((gI u 6) + (1 : Int32))
set_option maxHeartbeats 8000000 in
set_option maxRecDepth 100000 in
theorem c_Rp_noteLost (l : Launch) (dC : Nat → ClassId) (dI : Nat → Nat → Nat) (cI : ClassId) (ad : Nat → Nat) (u : S5) (q : Int32) (v : Int32) (hto : gN u 0 ≤ 60) (htp : gN u 1 < 32) (hre : gN u 2 ≤ 32) (sz : Nat) : Met l y_Rp_noteLost w_Rp_noteLost rm_Rp_noteLost (PreW (dC, dI) classes [(cI, .int)] (wC cI ad) u sz [.ref (ad 4), .int q, .int v]) (QWv (dC, dI) classes [(cI, .int)] (wC cI ad) (va_A (wC cI ad u) sz) (f_Rp_noteLost q v u)) 0 0 (va_A (wC cI ad u) sz) := by
  generalize hres : f_Rp_noteLost q v u = res
  refine Met.ofW (cc := b_Rp_noteLost) (maxL := 3) (ret := none) (by decide) rfl ?_
  intro p e s m args below meth c s₁ B hml hv
  obtain ⟨rfl, rfl, hP, hK, hD0⟩ := hv
  have hx := B.exec
  have hb := B.bytes
  have hr := B.returns
  have hts : ∀ w9 ∈ ALLW, w9.before ([.ref (ad 4), .int q, .int v] : List Value).toArray s = true := fun w9 h => atoms_spec (ws := w_Rp_noteLost) B.pre w9 (List.mem_cons_of_mem _ h)
  have hown : s.vm.findClass R_Rp = some m.cls := findClass_of_methodNamed B.named
  have hlocks := B.notSynchronized
  have hD := hD0.self (sz := s.heap.size)
  generalize hAe : va_A (wC cI ad u) s.heap.size = A at hD ⊢
  have hA : ∀ q : Nat, s.heap.size ≤ q → A q := fun q h => by rw [← hAe]; exact Or.inr h
  have hS : va_S A s.heap s.heap [] := va_S.rf
  have hl := lv_entry ([.ref (ad 4), .int q, .int v]) (n := 3) (Nat.le_of_ble_eq_true rfl)
  rw [lg_entry_eq]
  generalize (lg_sl ([.ref (ad 4), .int q, .int v]) ++ List.replicate (3 - (lg_sl ([.ref (ad 4), .int q, .int v])).length) Slot.unset).toArray = ls at hl ⊢
  have hl : lv_has ls 3 [(0, .ref (ad 4)), (1, .int q), (2, .int v)] := hl
  have hq := hres.symm
  skip
  refine lv_aload_n hx hb d_Rp_noteLost_0 rfl (lv_at hl 0 rfl) ?_
  refine lv_dup hx hb d_Rp_noteLost_1 rfl ?_
  refine va_get (D := (dC, dI)) (ci := 4) (v := .int (gI u 6)) (C := R_Rp) (T := F_Rp) (N := 6) hx hb hts in_Rp hown hK hP 4 rfl rfl 2 (by decide) (hts _ m_2_14) (fun _ h9 => h9) rfl d_Rp_noteLost_2 ?_
  refine lv_iconst (v := 1) hx hb d_Rp_noteLost_5 (by decide) ?_
  refine lv_iadd hx hb d_Rp_noteLost_6 ?_
  refine va_put (D := (dC, dI)) (ci := 4) (v := .int ((gI u 6) + (1 : Int32))) (ty := .int) (C := R_Rp) (T := F_Rp) (N := 6) hx hb hts in_Rp t_Rp t_Rp_ok n_Rp hown hK hP hD hS 4 rfl rfl 2 (by decide) (hts _ m_2_14) (fun _ h9 => h9) rfl (by decide +kernel) rfl rfl (Nat.le_of_ble_eq_true rfl) d_Rp_noteLost_7 (fun H locs hP hD hS => ?_)
  have hP : va_P (dC, dI) classes (wC cI ad (sI u 6 ((gI u 6) + (1 : Int32)))) H := hP
  have hD : va_D A (wC cI ad (sI u 6 ((gI u 6) + (1 : Int32)))) := hD
  refine lv_aload_n hx hb d_Rp_noteLost_10 rfl (lv_at hl 0 rfl) ?_
  refine va_get (D := (dC, dI)) (ci := 4) (v := .int (nI (gN u 0))) (C := R_Rp) (T := F_Rp) (N := 6) hx hb hts in_Rp hown hK hP 4 rfl rfl 1 (by decide) (hts _ m_2_12) (fun _ h9 => h9) rfl d_Rp_noteLost_11 ?_
  refine lv_bipush (v := nI 60) hx hb d_Rp_noteLost_14 (by decide) ?_
  refine rn_ge (tgt := 27) hx hb (by omega) (by omega) d_Rp_noteLost_16 (by decide) (fun c1 => ?_) (fun c1 => ?_)
  · skip
    have hE : res = sI u 6 ((gI u 6) + (1 : Int32)) := hq.trans ((if_neg (Nat.not_lt.mpr c1)).trans rfl)
    exact retWv hx hb hr hP hK hD hS hE.symm d_Rp_noteLost_27 hlocks
  · skip
    refine lv_aload_n hx hb d_Rp_noteLost_19 rfl (lv_at hl 0 rfl) ?_
    refine lv_bipush (v := 8) hx hb d_Rp_noteLost_20 (by decide) ?_
    refine lv_iload_n hx hb d_Rp_noteLost_22 rfl (lv_at hl 1 rfl) ?_
    refine lv_iload_n hx hb d_Rp_noteLost_23 rfl (lv_at hl 2 rfl) ?_
    refine callWv (va_runV (As := [.int 8, .int q, .int v]) (rest := []) ⟨hx, hb, hml, hown, hts⟩ (c_Rp_tell l dC dI cI ad (sI u 6 ((gI u 6) + (1 : Int32))) 8 q v (by first | assumption | omega) (by first | assumption | omega) (by first | assumption | omega) H.size) (cwV 3 hts (goodV m_6_37 m_6_38 m_18_39 m_0_8 m_6_39) rfl rfl rfl (by decide +kernel) ⟨Nat.le_of_ble_eq_true rfl, Nat.le_of_ble_eq_true rfl⟩) ⟨preW_blind, va_recv hK hP (ci := 4) (q0 := 4) rfl rfl, preW_ok hP hD hK⟩ rfl rfl hl.1 rfl (lv_room (Nat.le_of_ble_eq_true rfl)) d_Rp_noteLost_24 ⟨Nat.zero_le _, Nat.zero_le _⟩) hP hD hS hA (fun H locs hP hD hS => ?_)
    have hE : res = f_Rp_tell 8 q v (sI u 6 ((gI u 6) + (1 : Int32))) := hq.trans ((if_pos c1).trans rfl)
    exact retWv hx hb hr hP hK hD hS hE.symm d_Rp_noteLost_27 hlocks
theorem nl_fr (q v : Int32) (u : S5) : FrS [6] [0] [4] [] u (f_Rp_noteLost q v u) := by
  unfold f_Rp_noteLost
  have h1 : FrS [6] [0] [4] [] u (sI u 6 (gI u 6 + (1 : Int32))) := FrS.sI _ _ _ (by decide)
  split
  · exact FrS.tr h1 ((tl_fr _ _ _ _).wk (by simp) (by simp) (by simp) (by simp))
  · exact h1
theorem nl_ok (q v : Int32) {u : S5} (h : OkR u) : OkR (f_Rp_noteLost q v u) := by
  have hf := nl_fr q v u
  refine ⟨?_, by rw [hf.2.1 1 (by decide)]; exact h.2.1, by rw [hf.2.1 2 (by decide)]; exact h.2.2⟩
  unfold f_Rp_noteLost
  split
  · have := tl_0 8 q v (sI u 6 (gI u 6 + (1 : Int32)))
    have e : gN (sI u 6 (gI u 6 + (1 : Int32))) 0 = gN u 0 := rfl
    omega
  · exact h.1
def w_Rp_pushReturn : List Cond := .code y_Rp_pushReturn b_Rp_pushReturn 2 none :: ALLW
def rm_Rp_pushReturn : Room := { frames := 20, cells := 0, slots := 0, locals := 600 }
theorem d_Rp_pushReturn_0 : decode b_Rp_pushReturn 0 = .ok (.aload_n 0, 1) := by decide +kernel
theorem d_Rp_pushReturn_1 : decode b_Rp_pushReturn 1 = .ok (.getfield 13, 3) := by decide +kernel
theorem d_Rp_pushReturn_4 : decode b_Rp_pushReturn 4 = .ok (.aload_n 0, 1) := by decide +kernel
theorem d_Rp_pushReturn_5 : decode b_Rp_pushReturn 5 = .ok (.getfield 23, 3) := by decide +kernel
theorem d_Rp_pushReturn_8 : decode b_Rp_pushReturn 8 = .ok (.iload_n 1, 1) := by decide +kernel
theorem d_Rp_pushReturn_9 : decode b_Rp_pushReturn 9 = .ok (.iastore, 1) := by decide +kernel
theorem d_Rp_pushReturn_10 : decode b_Rp_pushReturn 10 = .ok (.aload_n 0, 1) := by decide +kernel
theorem d_Rp_pushReturn_11 : decode b_Rp_pushReturn 11 = .ok (.aload_n 0, 1) := by decide +kernel
theorem d_Rp_pushReturn_12 : decode b_Rp_pushReturn 12 = .ok (.getfield 23, 3) := by decide +kernel
theorem d_Rp_pushReturn_15 : decode b_Rp_pushReturn 15 = .ok (.iconst 1, 1) := by decide +kernel
theorem d_Rp_pushReturn_16 : decode b_Rp_pushReturn 16 = .ok (.iadd, 1) := by decide +kernel
theorem d_Rp_pushReturn_17 : decode b_Rp_pushReturn 17 = .ok (.bipush 31, 2) := by decide +kernel
theorem d_Rp_pushReturn_19 : decode b_Rp_pushReturn 19 = .ok (.iand, 1) := by decide +kernel
theorem d_Rp_pushReturn_20 : decode b_Rp_pushReturn 20 = .ok (.putfield 23, 3) := by decide +kernel
theorem d_Rp_pushReturn_23 : decode b_Rp_pushReturn 23 = .ok (.aload_n 0, 1) := by decide +kernel
theorem d_Rp_pushReturn_24 : decode b_Rp_pushReturn 24 = .ok (.getfield 26, 3) := by decide +kernel
theorem d_Rp_pushReturn_27 : decode b_Rp_pushReturn 27 = .ok (.bipush 32, 2) := by decide +kernel
theorem d_Rp_pushReturn_29 : decode b_Rp_pushReturn 29 = .ok (.if_icmp .ge 13, 3) := by decide +kernel
theorem d_Rp_pushReturn_32 : decode b_Rp_pushReturn 32 = .ok (.aload_n 0, 1) := by decide +kernel
theorem d_Rp_pushReturn_33 : decode b_Rp_pushReturn 33 = .ok (.dup, 1) := by decide +kernel
theorem d_Rp_pushReturn_34 : decode b_Rp_pushReturn 34 = .ok (.getfield 26, 3) := by decide +kernel
theorem d_Rp_pushReturn_37 : decode b_Rp_pushReturn 37 = .ok (.iconst 1, 1) := by decide +kernel
theorem d_Rp_pushReturn_38 : decode b_Rp_pushReturn 38 = .ok (.iadd, 1) := by decide +kernel
theorem d_Rp_pushReturn_39 : decode b_Rp_pushReturn 39 = .ok (.putfield 26, 3) := by decide +kernel
theorem d_Rp_pushReturn_42 : decode b_Rp_pushReturn 42 = .ok (.return_, 1) := by decide +kernel
def f_Rp_pushReturn (v : Int32) (u : S5) : S5 := if (gN u 2) < 32 then sN (sN (uI u 5 (gN u 1) v) 1 ((gN u 1 + 1) % 32)) 2 (gN u 2 + 1) else sN (uI u 5 (gN u 1) v) 1 ((gN u 1 + 1) % 32)
set_option maxHeartbeats 8000000 in
set_option maxRecDepth 100000 in
theorem c_Rp_pushReturn (l : Launch) (dC : Nat → ClassId) (dI : Nat → Nat → Nat) (cI : ClassId) (ad : Nat → Nat) (u : S5) (v : Int32) (htp : gN u 1 < 32) (hre : gN u 2 ≤ 32) (sz : Nat) : Met l y_Rp_pushReturn w_Rp_pushReturn rm_Rp_pushReturn (PreW (dC, dI) classes [(cI, .int)] (wC cI ad) u sz [.ref (ad 4), .int v]) (QWv (dC, dI) classes [(cI, .int)] (wC cI ad) (va_A (wC cI ad u) sz) (f_Rp_pushReturn v u)) 0 0 (va_A (wC cI ad u) sz) := by
  generalize hres : f_Rp_pushReturn v u = res
  refine Met.ofW (cc := b_Rp_pushReturn) (maxL := 2) (ret := none) (by decide) rfl ?_
  intro p e s m args below meth c s₁ B hml hv
  obtain ⟨rfl, rfl, hP, hK, hD0⟩ := hv
  have hx := B.exec
  have hb := B.bytes
  have hr := B.returns
  have hts : ∀ w9 ∈ ALLW, w9.before ([.ref (ad 4), .int v] : List Value).toArray s = true := fun w9 h => atoms_spec (ws := w_Rp_pushReturn) B.pre w9 (List.mem_cons_of_mem _ h)
  have hown : s.vm.findClass R_Rp = some m.cls := findClass_of_methodNamed B.named
  have hlocks := B.notSynchronized
  have hD := hD0.self (sz := s.heap.size)
  generalize hAe : va_A (wC cI ad u) s.heap.size = A at hD ⊢
  have hA : ∀ q : Nat, s.heap.size ≤ q → A q := fun q h => by rw [← hAe]; exact Or.inr h
  have hS : va_S A s.heap s.heap [] := va_S.rf
  have hl := lv_entry ([.ref (ad 4), .int v]) (n := 2) (Nat.le_of_ble_eq_true rfl)
  rw [lg_entry_eq]
  generalize (lg_sl ([.ref (ad 4), .int v]) ++ List.replicate (2 - (lg_sl ([.ref (ad 4), .int v])).length) Slot.unset).toArray = ls at hl ⊢
  have hl : lv_has ls 2 [(0, .ref (ad 4)), (1, .int v)] := hl
  have hq := hres.symm
  skip
  refine lv_aload_n hx hb d_Rp_pushReturn_0 rfl (lv_at hl 0 rfl) ?_
  refine va_get (D := (dC, dI)) (ci := 4) (v := .ref (ad 13)) (C := R_Rp) (T := F_Rp) (N := 6) hx hb hts in_Rp hown hK hP 4 rfl rfl 3 (by decide) (hts _ m_2_16) (fun _ h9 => h9) rfl d_Rp_pushReturn_1 ?_
  refine lv_aload_n hx hb d_Rp_pushReturn_4 rfl (lv_at hl 0 rfl) ?_
  refine va_get (D := (dC, dI)) (ci := 4) (v := .int (nI (gN u 1))) (C := R_Rp) (T := F_Rp) (N := 6) hx hb hts in_Rp hown hK hP 4 rfl rfl 4 (by decide) (hts _ m_2_17) (fun _ h9 => h9) rfl d_Rp_pushReturn_5 ?_
  refine lv_iload_n hx hb d_Rp_pushReturn_8 rfl (lv_at hl 1 rfl) ?_
  refine astC_ring (u := u) (n := gN u 1) hx hb hK hP hD hS (by omega) d_Rp_pushReturn_9 (fun H locs hP hD hS => ?_)
  refine lv_aload_n hx hb d_Rp_pushReturn_10 rfl (lv_at hl 0 rfl) ?_
  refine lv_aload_n hx hb d_Rp_pushReturn_11 rfl (lv_at hl 0 rfl) ?_
  refine va_get (D := (dC, dI)) (ci := 4) (v := .int (nI (gN u 1))) (C := R_Rp) (T := F_Rp) (N := 6) hx hb hts in_Rp hown hK hP 4 rfl rfl 4 (by decide) (hts _ m_2_17) (fun _ h9 => h9) rfl d_Rp_pushReturn_12 ?_
  refine lv_iconst (v := nI 1) hx hb d_Rp_pushReturn_15 (by decide) ?_
  refine lv_iadd hx hb d_Rp_pushReturn_16 ?_
  refine rw_top (y := nI (gN u 1 + 1)) (nI_add (gN u 1) 1) ?_
  refine lv_bipush (v := 31) hx hb d_Rp_pushReturn_17 (by decide) ?_
  refine lv_iand hx hb d_Rp_pushReturn_19 ?_
  refine rw_top (y := nI ((gN u 1 + 1) % 32)) (rg_p _ (by omega)) ?_
  refine va_put (D := (dC, dI)) (ci := 4) (v := .int (nI ((gN u 1 + 1) % 32))) (ty := .int) (C := R_Rp) (T := F_Rp) (N := 6) hx hb hts in_Rp t_Rp t_Rp_ok n_Rp hown hK hP hD hS 4 rfl rfl 4 (by decide) (hts _ m_2_17) (fun _ h9 => h9) rfl (by decide +kernel) rfl rfl (Nat.le_of_ble_eq_true rfl) d_Rp_pushReturn_20 (fun H locs hP hD hS => ?_)
  have hP : va_P (dC, dI) classes (wC cI ad (sN (uI u 5 (gN u 1) v) 1 ((gN u 1 + 1) % 32))) H := hP
  have hD : va_D A (wC cI ad (sN (uI u 5 (gN u 1) v) 1 ((gN u 1 + 1) % 32))) := hD
  refine lv_aload_n hx hb d_Rp_pushReturn_23 rfl (lv_at hl 0 rfl) ?_
  refine va_get (D := (dC, dI)) (ci := 4) (v := .int (nI (gN u 2))) (C := R_Rp) (T := F_Rp) (N := 6) hx hb hts in_Rp hown hK hP 4 rfl rfl 5 (by decide) (hts _ m_2_18) (fun _ h9 => h9) rfl d_Rp_pushReturn_24 ?_
  refine lv_bipush (v := nI 32) hx hb d_Rp_pushReturn_27 (by decide) ?_
  refine rn_ge (tgt := 42) hx hb (by omega) (by omega) d_Rp_pushReturn_29 (by decide) (fun c1 => ?_) (fun c1 => ?_)
  · skip
    have hE : res = sN (uI u 5 (gN u 1) v) 1 ((gN u 1 + 1) % 32) := hq.trans ((if_neg (Nat.not_lt.mpr c1)).trans rfl)
    exact retWv hx hb hr hP hK hD hS hE.symm d_Rp_pushReturn_42 hlocks
  · skip
    refine lv_aload_n hx hb d_Rp_pushReturn_32 rfl (lv_at hl 0 rfl) ?_
    refine lv_dup hx hb d_Rp_pushReturn_33 rfl ?_
    refine va_get (D := (dC, dI)) (ci := 4) (v := .int (nI (gN u 2))) (C := R_Rp) (T := F_Rp) (N := 6) hx hb hts in_Rp hown hK hP 4 rfl rfl 5 (by decide) (hts _ m_2_18) (fun _ h9 => h9) rfl d_Rp_pushReturn_34 ?_
    refine lv_iconst (v := nI 1) hx hb d_Rp_pushReturn_37 (by decide) ?_
    refine lv_iadd hx hb d_Rp_pushReturn_38 ?_
    refine rw_top (y := nI (gN u 2 + 1)) (nI_add (gN u 2) 1) ?_
    refine va_put (D := (dC, dI)) (ci := 4) (v := .int (nI (gN u 2 + 1))) (ty := .int) (C := R_Rp) (T := F_Rp) (N := 6) hx hb hts in_Rp t_Rp t_Rp_ok n_Rp hown hK hP hD hS 4 rfl rfl 5 (by decide) (hts _ m_2_18) (fun _ h9 => h9) rfl (by decide +kernel) rfl rfl (Nat.le_of_ble_eq_true rfl) d_Rp_pushReturn_39 (fun H locs hP hD hS => ?_)
    have hP : va_P (dC, dI) classes (wC cI ad (sN (sN (uI u 5 (gN u 1) v) 1 ((gN u 1 + 1) % 32)) 2 (gN u 2 + 1))) H := hP
    have hD : va_D A (wC cI ad (sN (sN (uI u 5 (gN u 1) v) 1 ((gN u 1 + 1) % 32)) 2 (gN u 2 + 1))) := hD
    have hE : res = sN (sN (uI u 5 (gN u 1) v) 1 ((gN u 1 + 1) % 32)) 2 (gN u 2 + 1) := hq.trans ((if_pos c1).trans rfl)
    exact retWv hx hb hr hP hK hD hS hE.symm d_Rp_pushReturn_42 hlocks
theorem pu_fr (v : Int32) (u : S5) : FrS [] [1, 2] [5] [] u (f_Rp_pushReturn v u) := by
  unfold f_Rp_pushReturn
  have h1 : FrS [] [1, 2] [5] [] u (sN (uI u 5 (gN u 1) v) 1 ((gN u 1 + 1) % 32)) := FrS.tr (FrS.uI _ _ _ _ (by decide)) (FrS.sN _ _ _ (by decide))
  split
  · exact FrS.tr h1 (FrS.sN _ _ _ (by decide))
  · exact h1
theorem pu_ok (v : Int32) {u : S5} (h : OkR u) : OkR (f_Rp_pushReturn v u) := by
  refine ⟨by rw [(pu_fr v u).2.1 0 (by decide)]; exact h.1, ?_, ?_⟩
  · unfold f_Rp_pushReturn
    split
    · show (gN u 1 + 1) % 32 < 32; omega
    · show (gN u 1 + 1) % 32 < 32; omega
  · unfold f_Rp_pushReturn
    split
    · show gN u 2 + 1 ≤ 32; omega
    · exact h.2.2
def w_Rp_popReturn : List Cond := .code y_Rp_popReturn b_Rp_popReturn 1 none :: ALLW
def rm_Rp_popReturn : Room := { frames := 20, cells := 0, slots := 0, locals := 600 }
theorem d_Rp_popReturn_0 : decode b_Rp_popReturn 0 = .ok (.aload_n 0, 1) := by decide +kernel
theorem d_Rp_popReturn_1 : decode b_Rp_popReturn 1 = .ok (.getfield 26, 3) := by decide +kernel
theorem d_Rp_popReturn_4 : decode b_Rp_popReturn 4 = .ok (.ifCond .le 26, 3) := by decide +kernel
theorem d_Rp_popReturn_7 : decode b_Rp_popReturn 7 = .ok (.aload_n 0, 1) := by decide +kernel
theorem d_Rp_popReturn_8 : decode b_Rp_popReturn 8 = .ok (.aload_n 0, 1) := by decide +kernel
theorem d_Rp_popReturn_9 : decode b_Rp_popReturn 9 = .ok (.getfield 23, 3) := by decide +kernel
theorem d_Rp_popReturn_12 : decode b_Rp_popReturn 12 = .ok (.iconst 1, 1) := by decide +kernel
theorem d_Rp_popReturn_13 : decode b_Rp_popReturn 13 = .ok (.isub, 1) := by decide +kernel
theorem d_Rp_popReturn_14 : decode b_Rp_popReturn 14 = .ok (.bipush 31, 2) := by decide +kernel
theorem d_Rp_popReturn_16 : decode b_Rp_popReturn 16 = .ok (.iand, 1) := by decide +kernel
theorem d_Rp_popReturn_17 : decode b_Rp_popReturn 17 = .ok (.putfield 23, 3) := by decide +kernel
theorem d_Rp_popReturn_20 : decode b_Rp_popReturn 20 = .ok (.aload_n 0, 1) := by decide +kernel
theorem d_Rp_popReturn_21 : decode b_Rp_popReturn 21 = .ok (.dup, 1) := by decide +kernel
theorem d_Rp_popReturn_22 : decode b_Rp_popReturn 22 = .ok (.getfield 26, 3) := by decide +kernel
theorem d_Rp_popReturn_25 : decode b_Rp_popReturn 25 = .ok (.iconst 1, 1) := by decide +kernel
theorem d_Rp_popReturn_26 : decode b_Rp_popReturn 26 = .ok (.isub, 1) := by decide +kernel
theorem d_Rp_popReturn_27 : decode b_Rp_popReturn 27 = .ok (.putfield 26, 3) := by decide +kernel
theorem d_Rp_popReturn_30 : decode b_Rp_popReturn 30 = .ok (.return_, 1) := by decide +kernel
def f_Rp_popReturn (u : S5) : S5 := if (gN u 2) = 0 then u else sN (sN u 1 ((gN u 1 + 31) % 32)) 2 (gN u 2 - 1)
set_option maxHeartbeats 8000000 in
set_option maxRecDepth 100000 in
theorem c_Rp_popReturn (l : Launch) (dC : Nat → ClassId) (dI : Nat → Nat → Nat) (cI : ClassId) (ad : Nat → Nat) (u : S5) (htp : gN u 1 < 32) (hre : gN u 2 ≤ 32) (sz : Nat) : Met l y_Rp_popReturn w_Rp_popReturn rm_Rp_popReturn (PreW (dC, dI) classes [(cI, .int)] (wC cI ad) u sz [.ref (ad 4)]) (QWv (dC, dI) classes [(cI, .int)] (wC cI ad) (va_A (wC cI ad u) sz) (f_Rp_popReturn u)) 0 0 (va_A (wC cI ad u) sz) := by
  generalize hres : f_Rp_popReturn u = res
  refine Met.ofW (cc := b_Rp_popReturn) (maxL := 1) (ret := none) (by decide) rfl ?_
  intro p e s m args below meth c s₁ B hml hv
  obtain ⟨rfl, rfl, hP, hK, hD0⟩ := hv
  have hx := B.exec
  have hb := B.bytes
  have hr := B.returns
  have hts : ∀ w9 ∈ ALLW, w9.before ([.ref (ad 4)] : List Value).toArray s = true := fun w9 h => atoms_spec (ws := w_Rp_popReturn) B.pre w9 (List.mem_cons_of_mem _ h)
  have hown : s.vm.findClass R_Rp = some m.cls := findClass_of_methodNamed B.named
  have hlocks := B.notSynchronized
  have hD := hD0.self (sz := s.heap.size)
  generalize hAe : va_A (wC cI ad u) s.heap.size = A at hD ⊢
  have hA : ∀ q : Nat, s.heap.size ≤ q → A q := fun q h => by rw [← hAe]; exact Or.inr h
  have hS : va_S A s.heap s.heap [] := va_S.rf
  have hl := lv_entry ([.ref (ad 4)]) (n := 1) (Nat.le_of_ble_eq_true rfl)
  rw [lg_entry_eq]
  generalize (lg_sl ([.ref (ad 4)]) ++ List.replicate (1 - (lg_sl ([.ref (ad 4)])).length) Slot.unset).toArray = ls at hl ⊢
  have hl : lv_has ls 1 [(0, .ref (ad 4))] := hl
  have hq := hres.symm
  skip
  refine lv_aload_n hx hb d_Rp_popReturn_0 rfl (lv_at hl 0 rfl) ?_
  refine va_get (D := (dC, dI)) (ci := 4) (v := .int (nI (gN u 2))) (C := R_Rp) (T := F_Rp) (N := 6) hx hb hts in_Rp hown hK hP 4 rfl rfl 5 (by decide) (hts _ m_2_18) (fun _ h9 => h9) rfl d_Rp_popReturn_1 ?_
  refine rz_le (tgt := 30) hx hb (by omega) d_Rp_popReturn_4 (by decide) (fun c1 => ?_) (fun c1 => ?_)
  · skip
    have hE : res = u := hq.trans ((if_pos c1).trans rfl)
    exact retWv hx hb hr hP hK hD hS hE.symm d_Rp_popReturn_30 hlocks
  · skip
    refine lv_aload_n hx hb d_Rp_popReturn_7 rfl (lv_at hl 0 rfl) ?_
    refine lv_aload_n hx hb d_Rp_popReturn_8 rfl (lv_at hl 0 rfl) ?_
    refine va_get (D := (dC, dI)) (ci := 4) (v := .int (nI (gN u 1))) (C := R_Rp) (T := F_Rp) (N := 6) hx hb hts in_Rp hown hK hP 4 rfl rfl 4 (by decide) (hts _ m_2_17) (fun _ h9 => h9) rfl d_Rp_popReturn_9 ?_
    refine lv_iconst (v := 1) hx hb d_Rp_popReturn_12 (by decide) ?_
    refine lv_isub hx hb d_Rp_popReturn_13 ?_
    refine lv_bipush (v := 31) hx hb d_Rp_popReturn_14 (by decide) ?_
    refine lv_iand hx hb d_Rp_popReturn_16 ?_
    refine rw_top (y := nI ((gN u 1 + 31) % 32)) (rg_1 _ (by omega)) ?_
    refine va_put (D := (dC, dI)) (ci := 4) (v := .int (nI ((gN u 1 + 31) % 32))) (ty := .int) (C := R_Rp) (T := F_Rp) (N := 6) hx hb hts in_Rp t_Rp t_Rp_ok n_Rp hown hK hP hD hS 4 rfl rfl 4 (by decide) (hts _ m_2_17) (fun _ h9 => h9) rfl (by decide +kernel) rfl rfl (Nat.le_of_ble_eq_true rfl) d_Rp_popReturn_17 (fun H locs hP hD hS => ?_)
    have hP : va_P (dC, dI) classes (wC cI ad (sN u 1 ((gN u 1 + 31) % 32))) H := hP
    have hD : va_D A (wC cI ad (sN u 1 ((gN u 1 + 31) % 32))) := hD
    refine lv_aload_n hx hb d_Rp_popReturn_20 rfl (lv_at hl 0 rfl) ?_
    refine lv_dup hx hb d_Rp_popReturn_21 rfl ?_
    refine va_get (D := (dC, dI)) (ci := 4) (v := .int (nI (gN u 2))) (C := R_Rp) (T := F_Rp) (N := 6) hx hb hts in_Rp hown hK hP 4 rfl rfl 5 (by decide) (hts _ m_2_18) (fun _ h9 => h9) rfl d_Rp_popReturn_22 ?_
    refine lv_iconst (v := nI 1) hx hb d_Rp_popReturn_25 (by decide) ?_
    refine lv_isub hx hb d_Rp_popReturn_26 ?_
    refine rw_top (y := nI (gN u 2 - 1)) (pk_sub (by omega)) ?_
    refine va_put (D := (dC, dI)) (ci := 4) (v := .int (nI (gN u 2 - 1))) (ty := .int) (C := R_Rp) (T := F_Rp) (N := 6) hx hb hts in_Rp t_Rp t_Rp_ok n_Rp hown hK hP hD hS 4 rfl rfl 5 (by decide) (hts _ m_2_18) (fun _ h9 => h9) rfl (by decide +kernel) rfl rfl (Nat.le_of_ble_eq_true rfl) d_Rp_popReturn_27 (fun H locs hP hD hS => ?_)
    have hP : va_P (dC, dI) classes (wC cI ad (sN (sN u 1 ((gN u 1 + 31) % 32)) 2 (gN u 2 - 1))) H := hP
    have hD : va_D A (wC cI ad (sN (sN u 1 ((gN u 1 + 31) % 32)) 2 (gN u 2 - 1))) := hD
    have hE : res = sN (sN u 1 ((gN u 1 + 31) % 32)) 2 (gN u 2 - 1) := hq.trans ((if_neg (by omega)).trans rfl)
    exact retWv hx hb hr hP hK hD hS hE.symm d_Rp_popReturn_30 hlocks
theorem po_fr (u : S5) : FrS [] [1, 2] [5] [] u (f_Rp_popReturn u) := by
  unfold f_Rp_popReturn
  split
  · exact FrS.rf
  · exact FrS.tr (FrS.sN _ _ _ (by decide)) (FrS.sN _ _ _ (by decide))
theorem po_ok {u : S5} (h : OkR u) : OkR (f_Rp_popReturn u) := by
  refine ⟨by rw [(po_fr u).2.1 0 (by decide)]; exact h.1, ?_, ?_⟩
  · unfold f_Rp_popReturn
    split
    · exact h.2.1
    · show (gN u 1 + 31) % 32 < 32; omega
  · unfold f_Rp_popReturn
    split
    · exact h.2.2
    · show gN u 2 - 1 ≤ 32; have := h.2.2; omega
