def w_He_reset : List Cond := .code y_He_reset b_He_reset 1 none :: ALLW
def rm_He_reset : Room := { frames := 21, cells := 0, slots := 0, locals := 623 }
theorem d_He_reset_0 : decode b_He_reset 0 = .ok (.aload_n 0, 1) := by decide +kernel
theorem d_He_reset_1 : decode b_He_reset 1 = .ok (.getfield 11, 3) := by decide +kernel
theorem d_He_reset_4 : decode b_He_reset 4 = .ok (.iconst 0, 1) := by decide +kernel
theorem d_He_reset_5 : decode b_He_reset 5 = .ok (.invokestatic 30, 3) := by decide +kernel
theorem d_He_reset_8 : decode b_He_reset 8 = .ok (.aload_n 0, 1) := by decide +kernel
theorem d_He_reset_9 : decode b_He_reset 9 = .ok (.getfield 18, 3) := by decide +kernel
theorem d_He_reset_12 : decode b_He_reset 12 = .ok (.iconst 0, 1) := by decide +kernel
theorem d_He_reset_13 : decode b_He_reset 13 = .ok (.invokestatic 30, 3) := by decide +kernel
theorem d_He_reset_16 : decode b_He_reset 16 = .ok (.aload_n 0, 1) := by decide +kernel
theorem d_He_reset_17 : decode b_He_reset 17 = .ok (.iconst 0, 1) := by decide +kernel
theorem d_He_reset_18 : decode b_He_reset 18 = .ok (.putfield 36, 3) := by decide +kernel
theorem d_He_reset_21 : decode b_He_reset 21 = .ok (.aload_n 0, 1) := by decide +kernel
theorem d_He_reset_22 : decode b_He_reset 22 = .ok (.iconst 0, 1) := by decide +kernel
theorem d_He_reset_23 : decode b_He_reset 23 = .ok (.putfield 40, 3) := by decide +kernel
theorem d_He_reset_26 : decode b_He_reset 26 = .ok (.aload_n 0, 1) := by decide +kernel
theorem d_He_reset_27 : decode b_He_reset 27 = .ok (.iconst 0, 1) := by decide +kernel
theorem d_He_reset_28 : decode b_He_reset 28 = .ok (.putfield 43, 3) := by decide +kernel
theorem d_He_reset_31 : decode b_He_reset 31 = .ok (.aload_n 0, 1) := by decide +kernel
theorem d_He_reset_32 : decode b_He_reset 32 = .ok (.iconst 0, 1) := by decide +kernel
theorem d_He_reset_33 : decode b_He_reset 33 = .ok (.putfield 46, 3) := by decide +kernel
theorem d_He_reset_36 : decode b_He_reset 36 = .ok (.aload_n 0, 1) := by decide +kernel
theorem d_He_reset_37 : decode b_He_reset 37 = .ok (.iconst 0, 1) := by decide +kernel
theorem d_He_reset_38 : decode b_He_reset 38 = .ok (.putfield 49, 3) := by decide +kernel
theorem d_He_reset_41 : decode b_He_reset 41 = .ok (.return_, 1) := by decide +kernel
def f_He_reset (u : S5) : S5 := sI (sI (sN (sI (sN (fN (fN u 0 0 1536 0) 2 0 1536 0) 6 0) 7 0) 7 0) 8 0) 9 0
set_option maxHeartbeats 8000000 in
set_option maxRecDepth 100000 in
theorem c_He_reset (l : Launch) (dC : Nat → ClassId) (dI : Nat → Nat → Nat) (cI : ClassId) (ad : Nat → Nat) (u : S5) (sz : Nat) : Met l y_He_reset w_He_reset rm_He_reset (PreW (dC, dI) classes [(cI, .int)] (wC cI ad) u sz [.ref (ad 6)]) (QWv (dC, dI) classes [(cI, .int)] (wC cI ad) (va_A (wC cI ad u) sz) (f_He_reset u)) 0 0 (va_A (wC cI ad u) sz) := by
  generalize hres : f_He_reset u = res
  refine Met.ofW (cc := b_He_reset) (maxL := 1) (ret := none) (by decide) rfl ?_
  intro p e s m args below meth c s₁ B hml hv
  obtain ⟨rfl, rfl, hP, hK, hD0⟩ := hv
  have hx := B.exec
  have hb := B.bytes
  have hr := B.returns
  have hts : ∀ w9 ∈ ALLW, w9.before ([.ref (ad 6)] : List Value).toArray s = true := fun w9 h => atoms_spec (ws := w_He_reset) B.pre w9 (List.mem_cons_of_mem _ h)
  have hown : s.vm.findClass R_He = some m.cls := findClass_of_methodNamed B.named
  have hlocks := B.notSynchronized
  have hD := hD0.self (sz := s.heap.size)
  generalize hAe : va_A (wC cI ad u) s.heap.size = A at hD ⊢
  have hA : ∀ q : Nat, s.heap.size ≤ q → A q := fun q h => by rw [← hAe]; exact Or.inr h
  have hS : va_S A s.heap s.heap [] := va_S.rf
  have hl := lv_entry ([.ref (ad 6)]) (n := 1) (Nat.le_of_ble_eq_true rfl)
  rw [lg_entry_eq]
  generalize (lg_sl ([.ref (ad 6)]) ++ List.replicate (1 - (lg_sl ([.ref (ad 6)])).length) Slot.unset).toArray = ls at hl ⊢
  have hl : lv_has ls 1 [(0, .ref (ad 6))] := hl
  have hq := hres.symm
  skip
  refine lv_aload_n hx hb d_He_reset_0 rfl (lv_at hl 0 rfl) ?_
  refine va_get (D := (dC, dI)) (ci := 6) (v := .ref (ad 14)) (C := R_He) (T := F_He) (N := 12) hx hb hts in_He hown hK hP 6 rfl rfl 0 (by decide) (hts _ m_2_36) (fun _ h9 => h9) rfl d_He_reset_1 ?_
  refine lv_iconst (v := nI 0) hx hb d_He_reset_4 (by decide) ?_
  refine callZv (va_runS (As := [.ref (ad 14), .int (nI 0)]) (rest := []) ⟨hx, hb, hml, hown, hts⟩ (c_Ar_fill1 l (dC, dI) classes [(cI, .int)] cI 0 rfl (wC cI ad u) 14 (ad 14) 1536 (fun j => nI (aN u 0 j)) rfl (by decide) (nI 0) s.heap.size) (va_cwS 2 hts (goodS m_5_22 m_0_36 m_0_4 m_0_37) rfl rfl rfl (by decide +kernel) ⟨Nat.le_of_ble_eq_true rfl, Nat.le_of_ble_eq_true rfl⟩) ⟨preZ_blind, preZ_ok hP hD hK⟩ rfl rfl hl.1 rfl (lv_room (Nat.le_of_ble_eq_true rfl)) d_He_reset_5 ⟨Nat.zero_le _, Nat.zero_le _⟩) hP hD hS hA (fun H locs hP hD hS => ?_)
  rw [fillI_nI] at hP hD
  have hP : va_P (dC, dI) classes (wC cI ad (fN u 0 0 1536 0)) H := hP
  have hD : va_D A (wC cI ad (fN u 0 0 1536 0)) := hD
  refine lv_aload_n hx hb d_He_reset_8 rfl (lv_at hl 0 rfl) ?_
  refine va_get (D := (dC, dI)) (ci := 6) (v := .ref (ad 16)) (C := R_He) (T := F_He) (N := 12) hx hb hts in_He hown hK hP 6 rfl rfl 2 (by decide) (hts _ m_2_38) (fun _ h9 => h9) rfl d_He_reset_9 ?_
  refine lv_iconst (v := nI 0) hx hb d_He_reset_12 (by decide) ?_
  refine callZv (va_runS (As := [.ref (ad 16), .int (nI 0)]) (rest := []) ⟨hx, hb, hml, hown, hts⟩ (c_Ar_fill1 l (dC, dI) classes [(cI, .int)] cI 0 rfl (wC cI ad (fN u 0 0 1536 0)) 16 (ad 16) 1536 (fun j => nI (aN u 2 j)) rfl (by decide) (nI 0) H.size) (va_cwS 2 hts (goodS m_5_22 m_0_36 m_0_4 m_0_37) rfl rfl rfl (by decide +kernel) ⟨Nat.le_of_ble_eq_true rfl, Nat.le_of_ble_eq_true rfl⟩) ⟨preZ_blind, preZ_ok hP hD hK⟩ rfl rfl hl.1 rfl (lv_room (Nat.le_of_ble_eq_true rfl)) d_He_reset_13 ⟨Nat.zero_le _, Nat.zero_le _⟩) hP hD hS hA (fun H locs hP hD hS => ?_)
  rw [fillI_nI] at hP hD
  have hP : va_P (dC, dI) classes (wC cI ad (fN (fN u 0 0 1536 0) 2 0 1536 0)) H := hP
  have hD : va_D A (wC cI ad (fN (fN u 0 0 1536 0) 2 0 1536 0)) := hD
  refine lv_aload_n hx hb d_He_reset_16 rfl (lv_at hl 0 rfl) ?_
  refine lv_iconst (v := nI 0) hx hb d_He_reset_17 (by decide) ?_
  refine va_put (D := (dC, dI)) (ci := 6) (v := .int (nI 0)) (ty := .int) (C := R_He) (T := F_He) (N := 12) hx hb hts in_He t_He t_He_ok n_He hown hK hP hD hS 6 rfl rfl 4 (by decide) (hts _ m_3_0) (fun _ h9 => h9) rfl (by decide +kernel) rfl rfl (Nat.le_of_ble_eq_true rfl) d_He_reset_18 (fun H locs hP hD hS => ?_)
  have hP : va_P (dC, dI) classes (wC cI ad (sN (fN (fN u 0 0 1536 0) 2 0 1536 0) 6 0)) H := hP
  have hD : va_D A (wC cI ad (sN (fN (fN u 0 0 1536 0) 2 0 1536 0) 6 0)) := hD
  refine lv_aload_n hx hb d_He_reset_21 rfl (lv_at hl 0 rfl) ?_
  refine lv_iconst (v := 0) hx hb d_He_reset_22 (by decide) ?_
  refine va_put (D := (dC, dI)) (ci := 6) (v := .int 0) (ty := .int) (C := R_He) (T := F_He) (N := 12) hx hb hts in_He t_He t_He_ok n_He hown hK hP hD hS 6 rfl rfl 5 (by decide) (hts _ m_3_1) (fun _ h9 => h9) rfl (by decide +kernel) rfl rfl (Nat.le_of_ble_eq_true rfl) d_He_reset_23 (fun H locs hP hD hS => ?_)
  have hP : va_P (dC, dI) classes (wC cI ad (sI (sN (fN (fN u 0 0 1536 0) 2 0 1536 0) 6 0) 7 0)) H := hP
  have hD : va_D A (wC cI ad (sI (sN (fN (fN u 0 0 1536 0) 2 0 1536 0) 6 0) 7 0)) := hD
  refine lv_aload_n hx hb d_He_reset_26 rfl (lv_at hl 0 rfl) ?_
  refine lv_iconst (v := nI 0) hx hb d_He_reset_27 (by decide) ?_
  refine va_put (D := (dC, dI)) (ci := 6) (v := .int (nI 0)) (ty := .int) (C := R_He) (T := F_He) (N := 12) hx hb hts in_He t_He t_He_ok n_He hown hK hP hD hS 6 rfl rfl 6 (by decide) (hts _ m_3_2) (fun _ h9 => h9) rfl (by decide +kernel) rfl rfl (Nat.le_of_ble_eq_true rfl) d_He_reset_28 (fun H locs hP hD hS => ?_)
  have hP : va_P (dC, dI) classes (wC cI ad (sN (sI (sN (fN (fN u 0 0 1536 0) 2 0 1536 0) 6 0) 7 0) 7 0)) H := hP
  have hD : va_D A (wC cI ad (sN (sI (sN (fN (fN u 0 0 1536 0) 2 0 1536 0) 6 0) 7 0) 7 0)) := hD
  refine lv_aload_n hx hb d_He_reset_31 rfl (lv_at hl 0 rfl) ?_
  refine lv_iconst (v := 0) hx hb d_He_reset_32 (by decide) ?_
  refine va_put (D := (dC, dI)) (ci := 6) (v := .int 0) (ty := .int) (C := R_He) (T := F_He) (N := 12) hx hb hts in_He t_He t_He_ok n_He hown hK hP hD hS 6 rfl rfl 7 (by decide) (hts _ m_3_4) (fun _ h9 => h9) rfl (by decide +kernel) rfl rfl (Nat.le_of_ble_eq_true rfl) d_He_reset_33 (fun H locs hP hD hS => ?_)
  have hP : va_P (dC, dI) classes (wC cI ad (sI (sN (sI (sN (fN (fN u 0 0 1536 0) 2 0 1536 0) 6 0) 7 0) 7 0) 8 0)) H := hP
  have hD : va_D A (wC cI ad (sI (sN (sI (sN (fN (fN u 0 0 1536 0) 2 0 1536 0) 6 0) 7 0) 7 0) 8 0)) := hD
  refine lv_aload_n hx hb d_He_reset_36 rfl (lv_at hl 0 rfl) ?_
  refine lv_iconst (v := 0) hx hb d_He_reset_37 (by decide) ?_
  refine va_put (D := (dC, dI)) (ci := 6) (v := .int 0) (ty := .int) (C := R_He) (T := F_He) (N := 12) hx hb hts in_He t_He t_He_ok n_He hown hK hP hD hS 6 rfl rfl 8 (by decide) (hts _ m_3_7) (fun _ h9 => h9) rfl (by decide +kernel) rfl rfl (Nat.le_of_ble_eq_true rfl) d_He_reset_38 (fun H locs hP hD hS => ?_)
  have hP : va_P (dC, dI) classes (wC cI ad (sI (sI (sN (sI (sN (fN (fN u 0 0 1536 0) 2 0 1536 0) 6 0) 7 0) 7 0) 8 0) 9 0)) H := hP
  have hD : va_D A (wC cI ad (sI (sI (sN (sI (sN (fN (fN u 0 0 1536 0) 2 0 1536 0) 6 0) 7 0) 7 0) 8 0) 9 0)) := hD
  have hE : res = sI (sI (sN (sI (sN (fN (fN u 0 0 1536 0) 2 0 1536 0) 6 0) 7 0) 7 0) 8 0) 9 0 := hq.trans (rfl)
  exact retWv hx hb hr hP hK hD hS hE.symm d_He_reset_41 hlocks
def w_He_findRoom : List Cond := .code y_He_findRoom b_He_findRoom 4 (some .int) :: ALLW
def rm_He_findRoom : Room := { frames := 20, cells := 0, slots := 0, locals := 600 }
theorem d_He_findRoom_0 : decode b_He_findRoom 0 = .ok (.iconst 0, 1) := by decide +kernel
theorem d_He_findRoom_1 : decode b_He_findRoom 1 = .ok (.istore_n 2, 1) := by decide +kernel
theorem d_He_findRoom_2 : decode b_He_findRoom 2 = .ok (.iconst 0, 1) := by decide +kernel
theorem d_He_findRoom_3 : decode b_He_findRoom 3 = .ok (.istore_n 3, 1) := by decide +kernel
theorem d_He_findRoom_4 : decode b_He_findRoom 4 = .ok (.iload_n 3, 1) := by decide +kernel
theorem d_He_findRoom_5 : decode b_He_findRoom 5 = .ok (.sipush 1536, 3) := by decide +kernel
theorem d_He_findRoom_8 : decode b_He_findRoom 8 = .ok (.if_icmp .ge 37, 3) := by decide +kernel
theorem d_He_findRoom_11 : decode b_He_findRoom 11 = .ok (.aload_n 0, 1) := by decide +kernel
theorem d_He_findRoom_12 : decode b_He_findRoom 12 = .ok (.getfield 11, 3) := by decide +kernel
theorem d_He_findRoom_15 : decode b_He_findRoom 15 = .ok (.iload_n 3, 1) := by decide +kernel
theorem d_He_findRoom_16 : decode b_He_findRoom 16 = .ok (.iaload, 1) := by decide +kernel
theorem d_He_findRoom_17 : decode b_He_findRoom 17 = .ok (.ifCond .ne 9, 3) := by decide +kernel
theorem d_He_findRoom_20 : decode b_He_findRoom 20 = .ok (.iload_n 2, 1) := by decide +kernel
theorem d_He_findRoom_21 : decode b_He_findRoom 21 = .ok (.iconst 1, 1) := by decide +kernel
theorem d_He_findRoom_22 : decode b_He_findRoom 22 = .ok (.iadd, 1) := by decide +kernel
theorem d_He_findRoom_23 : decode b_He_findRoom 23 = .ok (.goto 4, 3) := by decide +kernel
theorem d_He_findRoom_26 : decode b_He_findRoom 26 = .ok (.iconst 0, 1) := by decide +kernel
theorem d_He_findRoom_27 : decode b_He_findRoom 27 = .ok (.istore_n 2, 1) := by decide +kernel
theorem d_He_findRoom_28 : decode b_He_findRoom 28 = .ok (.iload_n 2, 1) := by decide +kernel
theorem d_He_findRoom_29 : decode b_He_findRoom 29 = .ok (.iload_n 1, 1) := by decide +kernel
theorem d_He_findRoom_30 : decode b_He_findRoom 30 = .ok (.iconst 2, 1) := by decide +kernel
theorem d_He_findRoom_31 : decode b_He_findRoom 31 = .ok (.iadd, 1) := by decide +kernel
theorem d_He_findRoom_32 : decode b_He_findRoom 32 = .ok (.if_icmp .ne 7, 3) := by decide +kernel
theorem d_He_findRoom_35 : decode b_He_findRoom 35 = .ok (.iload_n 3, 1) := by decide +kernel
theorem d_He_findRoom_36 : decode b_He_findRoom 36 = .ok (.iload_n 1, 1) := by decide +kernel
theorem d_He_findRoom_37 : decode b_He_findRoom 37 = .ok (.isub, 1) := by decide +kernel
theorem d_He_findRoom_38 : decode b_He_findRoom 38 = .ok (.ireturn, 1) := by decide +kernel
theorem d_He_findRoom_39 : decode b_He_findRoom 39 = .ok (.iinc 3 1, 3) := by decide +kernel
theorem d_He_findRoom_42 : decode b_He_findRoom 42 = .ok (.goto (-38), 3) := by decide +kernel
theorem d_He_findRoom_45 : decode b_He_findRoom 45 = .ok (.iconst 0, 1) := by decide +kernel
theorem d_He_findRoom_46 : decode b_He_findRoom 46 = .ok (.ireturn, 1) := by decide +kernel
def f_He_findRoom_4 (n : Nat) (u : S5) : Nat → Nat → Nat → Nat
  | 0, q, j => 0
  | k4 + 1, q, j => if j < 1536 then (let y : Nat := if (aN u 0 j) = 0 then q + 1 else 0; if y = (n + 2) then j - n else f_He_findRoom_4 n u k4 y (j + 1)) else 0
def f_He_findRoom (n : Nat) (u : S5) : Nat := f_He_findRoom_4 n u 1537 0 0
set_option maxHeartbeats 8000000 in
set_option maxRecDepth 100000 in
theorem c_He_findRoom (l : Launch) (dC : Nat → ClassId) (dI : Nat → Nat → Nat) (cI : ClassId) (ad : Nat → Nat) (u : S5) (n : Nat) (hn : n ≤ 1536) (hO : ∀ j, j < 1536 → aN u 0 j ≤ 1536) (sz : Nat) : Met l y_He_findRoom w_He_findRoom rm_He_findRoom (PreW (dC, dI) classes [(cI, .int)] (wC cI ad) u sz [.ref (ad 6), .int (nI n)]) (QWi (dC, dI) classes [(cI, .int)] (wC cI ad) (va_A (wC cI ad u) sz) (nI (f_He_findRoom n u)) u) 0 0 (va_A (wC cI ad u) sz) := by
  generalize hres : f_He_findRoom n u = res
  refine Met.ofW (cc := b_He_findRoom) (maxL := 4) (ret := (some .int)) (by decide) rfl ?_
  intro p e s m args below meth c s₁ B hml hv
  obtain ⟨rfl, rfl, hP, hK, hD0⟩ := hv
  have hx := B.exec
  have hb := B.bytes
  have hr := B.returns
  have hts : ∀ w9 ∈ ALLW, w9.before ([.ref (ad 6), .int (nI n)] : List Value).toArray s = true := fun w9 h => atoms_spec (ws := w_He_findRoom) B.pre w9 (List.mem_cons_of_mem _ h)
  have hown : s.vm.findClass R_He = some m.cls := findClass_of_methodNamed B.named
  have hlocks := B.notSynchronized
  have hD := hD0.self (sz := s.heap.size)
  generalize hAe : va_A (wC cI ad u) s.heap.size = A at hD ⊢
  have hA : ∀ q : Nat, s.heap.size ≤ q → A q := fun q h => by rw [← hAe]; exact Or.inr h
  have hS : va_S A s.heap s.heap [] := va_S.rf
  have hl := lv_entry ([.ref (ad 6), .int (nI n)]) (n := 4) (Nat.le_of_ble_eq_true rfl)
  rw [lg_entry_eq]
  generalize (lg_sl ([.ref (ad 6), .int (nI n)]) ++ List.replicate (4 - (lg_sl ([.ref (ad 6), .int (nI n)])).length) Slot.unset).toArray = ls at hl ⊢
  have hl : lv_has ls 4 [(0, .ref (ad 6)), (1, .int (nI n))] := hl
  have hq := hres.symm
  skip
  refine lv_iconst (v := nI 0) hx hb d_He_findRoom_0 (by decide) ?_
  refine lv_istore_n (lv' := [(2, .int (nI 0)), (0, .ref (ad 6)), (1, .int (nI n))]) hx hb d_He_findRoom_1 rfl hl (by decide) rfl (fun ls hl => ?_)
  refine lv_iconst (v := nI 0) hx hb d_He_findRoom_2 (by decide) ?_
  refine lv_istore_n (lv' := [(3, .int (nI 0)), (2, .int (nI 0)), (0, .ref (ad 6)), (1, .int (nI n))]) hx hb d_He_findRoom_3 rfl hl (by decide) rfl (fun ls hl => ?_)
  have L4 : ∀ (k : Nat) (q : Nat) (j : Nat) (H : Heap) (locs : List Loc) (ls : Array Slot), (j ≤ 1536) → (q ≤ j) → (1536 - j) < k → res = f_He_findRoom_4 n u k q j → va_P (dC, dI) classes (wC cI ad u) H → va_D A (wC cI ad u) → va_S A s.heap H locs → lv_has ls 4 [(3, .int (nI j)), (2, .int (nI q)), (0, .ref (ad 6)), (1, .int (nI n))] → W p l e (headSpec w_He_findRoom rm_He_findRoom).room s m ([.ref (ad 6), .int (nI n)] : List Value).toArray below meth c H locs 0 0 (MQ below (QWi (dC, dI) classes [(cI, .int)] (wC cI ad) A (nI res) u) ([.ref (ad 6), .int (nI n)] : List Value).toArray s 0 0 A) (F0 m 4 ls []) := by
    intro k
    induction k with
    | zero => intro q j H locs ls hj hq hm; exact absurd hm (Nat.not_lt_zero _)
    | succ k4 ih4 =>
      intro q j H locs ls hj hq hm hq4 hP hD hS hl
      refine lv_iload_n hx hb d_He_findRoom_4 rfl (lv_at hl 0 rfl) ?_
      refine lv_sipush (v := nI 1536) hx hb d_He_findRoom_5 (by decide) ?_
      refine rn_ge (tgt := 45) hx hb (by omega) (by omega) d_He_findRoom_8 (by decide) (fun c1 => ?_) (fun c1 => ?_)
      · skip
        refine lv_iconst (v := nI 0) hx hb d_He_findRoom_45 (by decide) ?_
        have hE : res = 0 := hq4.trans ((if_neg (Nat.not_lt.mpr c1)).trans rfl)
        exact retWn (x := 0) hx hb hr hP hK hD hS hE.symm rfl d_He_findRoom_46 hlocks
      · skip
        refine lv_aload_n hx hb d_He_findRoom_11 rfl (lv_at hl 2 rfl) ?_
        refine va_get (D := (dC, dI)) (ci := 6) (v := .ref (ad 14)) (C := R_He) (T := F_He) (N := 12) hx hb hts in_He hown hK hP 6 rfl rfl 0 (by decide) (hts _ m_2_36) (fun _ h9 => h9) rfl d_He_findRoom_12 ?_
        refine lv_iload_n hx hb d_He_findRoom_15 rfl (lv_at hl 0 rfl) ?_
        refine aldC_owner (u := u) (v := aN u 0 j) hx hb hK hP (by omega) rfl d_He_findRoom_16 ?_
        have J27 : ∀ (y : Nat) (H : Heap) (locs : List Loc), y = (if (aN u 0 j) = 0 then q + 1 else 0) → va_P (dC, dI) classes (wC cI ad u) H → va_D A (wC cI ad u) → va_S A s.heap H locs → W p l e (headSpec w_He_findRoom rm_He_findRoom).room s m ([.ref (ad 6), .int (nI n)] : List Value).toArray below meth c H locs 0 0 (MQ below (QWi (dC, dI) classes [(cI, .int)] (wC cI ad) A (nI res) u) ([.ref (ad 6), .int (nI n)] : List Value).toArray s 0 0 A) (F0 m 27 ls [.int (nI y)]) := by
          intro y H locs ey hP hD hS
          have hy : y ≤ j + 1 := by rw [ey]; split <;> omega
          refine lv_istore_n (lv' := [(2, .int (nI y)), (3, .int (nI j)), (0, .ref (ad 6)), (1, .int (nI n))]) hx hb d_He_findRoom_27 rfl hl (by decide) rfl (fun ls hl => ?_)
          refine lv_iload_n hx hb d_He_findRoom_28 rfl (lv_at hl 0 rfl) ?_
          refine lv_iload_n hx hb d_He_findRoom_29 rfl (lv_at hl 3 rfl) ?_
          refine lv_iconst (v := nI 2) hx hb d_He_findRoom_30 (by decide) ?_
          refine lv_iadd hx hb d_He_findRoom_31 ?_
          refine rw_top (y := nI (n + 2)) (nI_add n 2) ?_
          refine rn_ne (tgt := 39) hx hb (by omega) (by omega) d_He_findRoom_32 (by decide) (fun c2 => ?_) (fun c2 => ?_)
          · skip
            refine lv_iinc (v := nI (j + 1)) (lv' := [(3, .int (nI (j + 1))), (2, .int (nI y)), (0, .ref (ad 6)), (1, .int (nI n))]) hx hb d_He_findRoom_39 hl (k := 1) rfl (rn_inc j 1 (by decide)) (by decide) rfl (fun ls hl => ?_)
            refine lv_goto (tgt := 4) hx hb d_He_findRoom_42 (by decide) ?_
            exact ih4 y (j + 1) _ _ _ (by first | assumption | omega) (by first | assumption | omega) (by omega) ((by subst ey; exact hq4.trans ((if_pos c1).trans ((if_neg c2).trans rfl)))) hP hD hS (lv_sub hl [0, 1, 2, 3] rfl)
          · skip
            refine lv_iload_n hx hb d_He_findRoom_35 rfl (lv_at hl 1 rfl) ?_
            refine lv_iload_n hx hb d_He_findRoom_36 rfl (lv_at hl 3 rfl) ?_
            refine lv_isub hx hb d_He_findRoom_37 ?_
            refine rw_top (y := nI (j - n)) (pk_sub (by omega)) ?_
            have hE : res = j - n := (by subst ey; exact hq4.trans ((if_pos c1).trans ((if_pos c2).trans rfl)))
            exact retWn (x := j - n) hx hb hr hP hK hD hS hE.symm rfl d_He_findRoom_38 hlocks
        have hw := hO j (by omega)
        refine rz_ne (tgt := 26) hx hb (by omega) d_He_findRoom_17 (by decide) (fun c3 => ?_) (fun c3 => ?_)
        · skip
          refine lv_iconst (v := nI 0) hx hb d_He_findRoom_26 (by decide) ?_
          exact J27 0 _ _ (Eq.symm ((if_neg c3).trans (rfl))) hP hD hS
        · skip
          refine lv_iload_n hx hb d_He_findRoom_20 rfl (lv_at hl 1 rfl) ?_
          refine lv_iconst (v := nI 1) hx hb d_He_findRoom_21 (by decide) ?_
          refine lv_iadd hx hb d_He_findRoom_22 ?_
          refine rw_top (y := nI (q + 1)) (nI_add q 1) ?_
          refine lv_goto (tgt := 27) hx hb d_He_findRoom_23 (by decide) ?_
          exact J27 (q + 1) _ _ (Eq.symm ((if_pos c3).trans (rfl))) hP hD hS
  exact L4 1537 0 0 _ _ _ (by first | assumption | omega) (by first | assumption | omega) (by omega) (hq.trans (rfl)) hP hD hS (lv_sub hl [0, 1, 2, 3] rfl)
theorem fr_loop (n : Nat) (u : S5) : ∀ (k q j : Nat), q ≤ j → j ≤ 1536 → f_He_findRoom_4 n u k q j = 0 ∨ (1 ≤ f_He_findRoom_4 n u k q j ∧ f_He_findRoom_4 n u k q j + n ≤ 1535) := by
  intro k
  induction k with
  | zero => intro q j _ _; exact Or.inl rfl
  | succ k ih =>
    intro q j hq hj
    unfold f_He_findRoom_4
    split
    · generalize hy : (if aN u 0 j = 0 then q + 1 else 0) = y
      have hy2 : y ≤ j + 1 := by rw [← hy]; split <;> omega
      dsimp only
      split
      · exact Or.inr ⟨by omega, by omega⟩
      · exact ih y (j + 1) hy2 (by omega)
    · exact Or.inl rfl
theorem fr_ok (n : Nat) (u : S5) : f_He_findRoom n u = 0 ∨ (1 ≤ f_He_findRoom n u ∧ f_He_findRoom n u + n ≤ 1535) := fr_loop n u 1537 0 0 (by omega) (by omega)
def w_He_take : List Cond := .code y_He_take b_He_take 4 (some .int) :: ALLW
def rm_He_take : Room := { frames := 22, cells := 0, slots := 0, locals := 646 }
theorem d_He_take_0 : decode b_He_take 0 = .ok (.iload_n 1, 1) := by decide +kernel
theorem d_He_take_1 : decode b_He_take 1 = .ok (.ifCond .lt 10, 3) := by decide +kernel
theorem d_He_take_4 : decode b_He_take 4 = .ok (.iload_n 1, 1) := by decide +kernel
theorem d_He_take_5 : decode b_He_take 5 = .ok (.sipush 16384, 3) := by decide +kernel
theorem d_He_take_8 : decode b_He_take 8 = .ok (.if_icmp .le 5, 3) := by decide +kernel
theorem d_He_take_11 : decode b_He_take 11 = .ok (.iconst 0, 1) := by decide +kernel
theorem d_He_take_12 : decode b_He_take 12 = .ok (.ireturn, 1) := by decide +kernel
theorem d_He_take_13 : decode b_He_take 13 = .ok (.iload_n 1, 1) := by decide +kernel
theorem d_He_take_14 : decode b_He_take 14 = .ok (.ifCond .ne 7, 3) := by decide +kernel
theorem d_He_take_17 : decode b_He_take 17 = .ok (.iconst 1, 1) := by decide +kernel
theorem d_He_take_18 : decode b_He_take 18 = .ok (.goto 12, 3) := by decide +kernel
theorem d_He_take_21 : decode b_He_take 21 = .ok (.iload_n 1, 1) := by decide +kernel
theorem d_He_take_22 : decode b_He_take 22 = .ok (.bipush 16, 2) := by decide +kernel
theorem d_He_take_24 : decode b_He_take 24 = .ok (.iadd, 1) := by decide +kernel
theorem d_He_take_25 : decode b_He_take 25 = .ok (.iconst 1, 1) := by decide +kernel
theorem d_He_take_26 : decode b_He_take 26 = .ok (.isub, 1) := by decide +kernel
theorem d_He_take_27 : decode b_He_take 27 = .ok (.bipush 16, 2) := by decide +kernel
theorem d_He_take_29 : decode b_He_take 29 = .ok (.idiv, 1) := by decide +kernel
theorem d_He_take_30 : decode b_He_take 30 = .ok (.istore_n 2, 1) := by decide +kernel
theorem d_He_take_31 : decode b_He_take 31 = .ok (.aload_n 0, 1) := by decide +kernel
theorem d_He_take_32 : decode b_He_take 32 = .ok (.iload_n 2, 1) := by decide +kernel
theorem d_He_take_33 : decode b_He_take 33 = .ok (.invokevirtual 52, 3) := by decide +kernel
theorem d_He_take_36 : decode b_He_take 36 = .ok (.istore_n 3, 1) := by decide +kernel
theorem d_He_take_37 : decode b_He_take 37 = .ok (.iload_n 3, 1) := by decide +kernel
theorem d_He_take_38 : decode b_He_take 38 = .ok (.ifCond .ne 5, 3) := by decide +kernel
theorem d_He_take_41 : decode b_He_take 41 = .ok (.iconst 0, 1) := by decide +kernel
theorem d_He_take_42 : decode b_He_take 42 = .ok (.ireturn, 1) := by decide +kernel
theorem d_He_take_43 : decode b_He_take 43 = .ok (.aload_n 0, 1) := by decide +kernel
theorem d_He_take_44 : decode b_He_take 44 = .ok (.getfield 11, 3) := by decide +kernel
theorem d_He_take_47 : decode b_He_take 47 = .ok (.iload_n 3, 1) := by decide +kernel
theorem d_He_take_48 : decode b_He_take 48 = .ok (.iload_n 3, 1) := by decide +kernel
theorem d_He_take_49 : decode b_He_take 49 = .ok (.iload_n 2, 1) := by decide +kernel
theorem d_He_take_50 : decode b_He_take 50 = .ok (.iadd, 1) := by decide +kernel
theorem d_He_take_51 : decode b_He_take 51 = .ok (.iload_n 3, 1) := by decide +kernel
theorem d_He_take_52 : decode b_He_take 52 = .ok (.iconst 1, 1) := by decide +kernel
theorem d_He_take_53 : decode b_He_take 53 = .ok (.iadd, 1) := by decide +kernel
theorem d_He_take_54 : decode b_He_take 54 = .ok (.invokestatic 56, 3) := by decide +kernel
theorem d_He_take_57 : decode b_He_take 57 = .ok (.aload_n 0, 1) := by decide +kernel
theorem d_He_take_58 : decode b_He_take 58 = .ok (.getfield 15, 3) := by decide +kernel
theorem d_He_take_61 : decode b_He_take 61 = .ok (.iload_n 3, 1) := by decide +kernel
theorem d_He_take_62 : decode b_He_take 62 = .ok (.iload_n 1, 1) := by decide +kernel
theorem d_He_take_63 : decode b_He_take 63 = .ok (.iastore, 1) := by decide +kernel
theorem d_He_take_64 : decode b_He_take 64 = .ok (.aload_n 0, 1) := by decide +kernel
theorem d_He_take_65 : decode b_He_take 65 = .ok (.getfield 18, 3) := by decide +kernel
theorem d_He_take_68 : decode b_He_take 68 = .ok (.iload_n 3, 1) := by decide +kernel
theorem d_He_take_69 : decode b_He_take 69 = .ok (.iconst 1, 1) := by decide +kernel
theorem d_He_take_70 : decode b_He_take 70 = .ok (.iastore, 1) := by decide +kernel
theorem d_He_take_71 : decode b_He_take 71 = .ok (.aload_n 0, 1) := by decide +kernel
theorem d_He_take_72 : decode b_He_take 72 = .ok (.dup, 1) := by decide +kernel
theorem d_He_take_73 : decode b_He_take 73 = .ok (.getfield 46, 3) := by decide +kernel
theorem d_He_take_76 : decode b_He_take 76 = .ok (.iconst 1, 1) := by decide +kernel
theorem d_He_take_77 : decode b_He_take 77 = .ok (.iadd, 1) := by decide +kernel
theorem d_He_take_78 : decode b_He_take 78 = .ok (.putfield 46, 3) := by decide +kernel
theorem d_He_take_81 : decode b_He_take 81 = .ok (.aload_n 0, 1) := by decide +kernel
theorem d_He_take_82 : decode b_He_take 82 = .ok (.dup, 1) := by decide +kernel
theorem d_He_take_83 : decode b_He_take 83 = .ok (.getfield 49, 3) := by decide +kernel
theorem d_He_take_86 : decode b_He_take 86 = .ok (.iload_n 1, 1) := by decide +kernel
theorem d_He_take_87 : decode b_He_take 87 = .ok (.iadd, 1) := by decide +kernel
theorem d_He_take_88 : decode b_He_take 88 = .ok (.putfield 49, 3) := by decide +kernel
theorem d_He_take_91 : decode b_He_take 91 = .ok (.ldc 59, 2) := by decide +kernel
theorem d_He_take_93 : decode b_He_take 93 = .ok (.iload_n 3, 1) := by decide +kernel
theorem d_He_take_94 : decode b_He_take 94 = .ok (.bipush 16, 2) := by decide +kernel
theorem d_He_take_96 : decode b_He_take 96 = .ok (.imul, 1) := by decide +kernel
theorem d_He_take_97 : decode b_He_take 97 = .ok (.iadd, 1) := by decide +kernel
theorem d_He_take_98 : decode b_He_take 98 = .ok (.ireturn, 1) := by decide +kernel
def f_He_take (n : Int32) (u : S5) : Nat × S5 := if n < 0 then (0, u) else if n ≤ 16384 then (let y : Nat := if n.toNatClampNeg = 0 then 1 else (n.toNatClampNeg + 16 - 1) / 16; if (f_He_findRoom y u) = 0 then (0, u) else (32768 + ((f_He_findRoom y u) * 16), sI (sI (uN (uN (fN u 0 (f_He_findRoom y u) (f_He_findRoom y u + y) (f_He_findRoom y u + 1)) 1 (f_He_findRoom y u) n.toNatClampNeg) 2 (f_He_findRoom y u) 1) 8 ((gI u 8) + (1 : Int32))) 9 ((gI u 9) + (nI n.toNatClampNeg)))) else (0, u)
set_option maxHeartbeats 8000000 in
set_option maxRecDepth 100000 in
theorem c_He_take (l : Launch) (dC : Nat → ClassId) (dI : Nat → Nat → Nat) (cI : ClassId) (ad : Nat → Nat) (u : S5) (n : Int32) (hO : ∀ j, j < 1536 → aN u 0 j ≤ 1536) (sz : Nat) : Met l y_He_take w_He_take rm_He_take (PreW (dC, dI) classes [(cI, .int)] (wC cI ad) u sz [.ref (ad 6), .int n]) (QWi (dC, dI) classes [(cI, .int)] (wC cI ad) (va_A (wC cI ad u) sz) (nI (f_He_take n u).1) (f_He_take n u).2) 0 0 (va_A (wC cI ad u) sz) := by
  generalize hres : f_He_take n u = res
  refine Met.ofW (cc := b_He_take) (maxL := 4) (ret := (some .int)) (by decide) rfl ?_
  intro p e s m args below meth c s₁ B hml hv
  obtain ⟨rfl, rfl, hP, hK, hD0⟩ := hv
  have hx := B.exec
  have hb := B.bytes
  have hr := B.returns
  have hts : ∀ w9 ∈ ALLW, w9.before ([.ref (ad 6), .int n] : List Value).toArray s = true := fun w9 h => atoms_spec (ws := w_He_take) B.pre w9 (List.mem_cons_of_mem _ h)
  have hown : s.vm.findClass R_He = some m.cls := findClass_of_methodNamed B.named
  have hlocks := B.notSynchronized
  have hD := hD0.self (sz := s.heap.size)
  generalize hAe : va_A (wC cI ad u) s.heap.size = A at hD ⊢
  have hA : ∀ q : Nat, s.heap.size ≤ q → A q := fun q h => by rw [← hAe]; exact Or.inr h
  have hS : va_S A s.heap s.heap [] := va_S.rf
  have hl := lv_entry ([.ref (ad 6), .int n]) (n := 4) (Nat.le_of_ble_eq_true rfl)
  rw [lg_entry_eq]
  generalize (lg_sl ([.ref (ad 6), .int n]) ++ List.replicate (4 - (lg_sl ([.ref (ad 6), .int n])).length) Slot.unset).toArray = ls at hl ⊢
  have hl : lv_has ls 4 [(0, .ref (ad 6)), (1, .int n)] := hl
  have hq := hres.symm
  skip
  refine lv_iload_n hx hb d_He_take_0 rfl (lv_at hl 1 rfl) ?_
  refine lv_if_lt (tgt := 11) hx hb d_He_take_1 (by decide) (fun c1 => ?_) (fun c1 => ?_)
  · skip
    refine lv_iconst (v := nI 0) hx hb d_He_take_11 (by decide) ?_
    have hE : res = (0, u) := hq.trans ((if_pos c1).trans rfl)
    exact retWn (x := 0) hx hb hr hP hK hD hS (congrArg Prod.fst hE).symm (congrArg Prod.snd hE).symm d_He_take_12 hlocks
  · skip
    refine lv_iload_n hx hb d_He_take_4 rfl (lv_at hl 1 rfl) ?_
    refine lv_sipush (v := 16384) hx hb d_He_take_5 (by decide) ?_
    refine lv_icmp_le (tgt := 13) hx hb d_He_take_8 (by decide) (fun c2 => ?_) (fun c2 => ?_)
    · skip
      refine lv_iload_n hx hb d_He_take_13 rfl (lv_at hl 1 rfl) ?_
      refine rw_top (y := nI n.toNatClampNeg) (hp_n c1) ?_
      have hn1 : n.toNatClampNeg ≤ 16384 := hp_nle (by decide) (by decide) c1 c2
      have J30 : ∀ (y : Nat) (H : Heap) (locs : List Loc), y = (if n.toNatClampNeg = 0 then 1 else (n.toNatClampNeg + 16 - 1) / 16) → va_P (dC, dI) classes (wC cI ad u) H → va_D A (wC cI ad u) → va_S A s.heap H locs → W p l e (headSpec w_He_take rm_He_take).room s m ([.ref (ad 6), .int n] : List Value).toArray below meth c H locs 0 0 (MQ below (QWi (dC, dI) classes [(cI, .int)] (wC cI ad) A (nI res.1) res.2) ([.ref (ad 6), .int n] : List Value).toArray s 0 0 A) (F0 m 30 ls [.int (nI y)]) := by
        intro y H locs ey hP hD hS
        have hy : 1 ≤ y ∧ y ≤ 1024 := by rw [ey]; split <;> omega
        refine lv_istore_n (lv' := [(2, .int (nI y)), (0, .ref (ad 6)), (1, .int n)]) hx hb d_He_take_30 rfl hl (by decide) rfl (fun ls hl => ?_)
        refine lv_aload_n hx hb d_He_take_31 rfl (lv_at hl 1 rfl) ?_
        refine lv_iload_n hx hb d_He_take_32 rfl (lv_at hl 0 rfl) ?_
        refine callWi (va_runV (As := [.int (nI y)]) (rest := []) ⟨hx, hb, hml, hown, hts⟩ (c_He_findRoom l dC dI cI ad u y (by first | assumption | omega) (by first | assumption | omega) H.size) (cwV 1 hts (goodV m_11_27 m_11_28 m_19_13 m_0_10 m_11_29) rfl rfl rfl (by decide +kernel) ⟨Nat.le_of_ble_eq_true rfl, Nat.le_of_ble_eq_true rfl⟩) ⟨preW_blind, va_recv hK hP (ci := 6) (q0 := 6) rfl rfl, preW_ok hP hD hK⟩ rfl rfl hl.1 rfl (lv_room (Nat.le_of_ble_eq_true rfl)) d_He_take_33 ⟨Nat.zero_le _, Nat.zero_le _⟩) hP hD hS hA (fun H locs hP hD hS => ?_)
        have hfr := fr_ok y u
        refine lv_istore_n (lv' := [(3, .int (nI (f_He_findRoom y u))), (2, .int (nI y)), (0, .ref (ad 6)), (1, .int n)]) hx hb d_He_take_36 rfl hl (by decide) rfl (fun ls hl => ?_)
        refine lv_iload_n hx hb d_He_take_37 rfl (lv_at hl 0 rfl) ?_
        refine rz_ne (tgt := 43) hx hb (by omega) d_He_take_38 (by decide) (fun c3 => ?_) (fun c3 => ?_)
        · skip
          refine lv_aload_n hx hb d_He_take_43 rfl (lv_at hl 2 rfl) ?_
          refine va_get (D := (dC, dI)) (ci := 6) (v := .ref (ad 14)) (C := R_He) (T := F_He) (N := 12) hx hb hts in_He hown hK hP 6 rfl rfl 0 (by decide) (hts _ m_2_36) (fun _ h9 => h9) rfl d_He_take_44 ?_
          refine lv_iload_n hx hb d_He_take_47 rfl (lv_at hl 0 rfl) ?_
          refine lv_iload_n hx hb d_He_take_48 rfl (lv_at hl 0 rfl) ?_
          refine lv_iload_n hx hb d_He_take_49 rfl (lv_at hl 1 rfl) ?_
          refine lv_iadd hx hb d_He_take_50 ?_
          refine rw_top (y := nI (f_He_findRoom y u + y)) (nI_add (f_He_findRoom y u) y) ?_
          refine lv_iload_n hx hb d_He_take_51 rfl (lv_at hl 0 rfl) ?_
          refine lv_iconst (v := nI 1) hx hb d_He_take_52 (by decide) ?_
          refine lv_iadd hx hb d_He_take_53 ?_
          refine rw_top (y := nI (f_He_findRoom y u + 1)) (nI_add (f_He_findRoom y u) 1) ?_
          refine callZv (va_runS (As := [.ref (ad 14), .int (nI (f_He_findRoom y u)), .int (nI (f_He_findRoom y u + y)), .int (nI (f_He_findRoom y u + 1))]) (rest := []) ⟨hx, hb, hml, hown, hts⟩ (c_Ar_fill2 l (dC, dI) classes [(cI, .int)] cI 0 rfl (wC cI ad u) 14 (ad 14) 1536 (fun j => nI (aN u 0 j)) rfl (by decide) (f_He_findRoom y u) (f_He_findRoom y u + y) (by omega) (by omega) (nI (f_He_findRoom y u + 1)) H.size) (va_cwS 4 hts (goodS m_11_30 m_1_7 m_0_4 m_1_8) rfl rfl rfl (by decide +kernel) ⟨Nat.le_of_ble_eq_true rfl, Nat.le_of_ble_eq_true rfl⟩) ⟨preZ_blind, preZ_ok hP hD hK⟩ rfl rfl hl.1 rfl (lv_room (Nat.le_of_ble_eq_true rfl)) d_He_take_54 ⟨Nat.zero_le _, Nat.zero_le _⟩) hP hD hS hA (fun H locs hP hD hS => ?_)
          rw [fillI_nI] at hP hD
          have hP : va_P (dC, dI) classes (wC cI ad (fN u 0 (f_He_findRoom y u) (f_He_findRoom y u + y) (f_He_findRoom y u + 1))) H := hP
          have hD : va_D A (wC cI ad (fN u 0 (f_He_findRoom y u) (f_He_findRoom y u + y) (f_He_findRoom y u + 1))) := hD
          refine lv_aload_n hx hb d_He_take_57 rfl (lv_at hl 2 rfl) ?_
          refine va_get (D := (dC, dI)) (ci := 6) (v := .ref (ad 15)) (C := R_He) (T := F_He) (N := 12) hx hb hts in_He hown hK hP 6 rfl rfl 1 (by decide) (hts _ m_2_37) (fun _ h9 => h9) rfl d_He_take_58 ?_
          refine lv_iload_n hx hb d_He_take_61 rfl (lv_at hl 0 rfl) ?_
          refine lv_iload_n hx hb d_He_take_62 rfl (lv_at hl 3 rfl) ?_
          refine rw_top (y := nI n.toNatClampNeg) (hp_n c1) ?_
          refine astC_size (u := (fN u 0 (f_He_findRoom y u) (f_He_findRoom y u + y) (f_He_findRoom y u + 1))) (n := f_He_findRoom y u) hx hb hK hP hD hS (by omega) d_He_take_63 (fun H locs hP hD hS => ?_)
          refine lv_aload_n hx hb d_He_take_64 rfl (lv_at hl 2 rfl) ?_
          refine va_get (D := (dC, dI)) (ci := 6) (v := .ref (ad 16)) (C := R_He) (T := F_He) (N := 12) hx hb hts in_He hown hK hP 6 rfl rfl 2 (by decide) (hts _ m_2_38) (fun _ h9 => h9) rfl d_He_take_65 ?_
          refine lv_iload_n hx hb d_He_take_68 rfl (lv_at hl 0 rfl) ?_
          refine lv_iconst (v := nI 1) hx hb d_He_take_69 (by decide) ?_
          refine astC_state (u := (uN (fN u 0 (f_He_findRoom y u) (f_He_findRoom y u + y) (f_He_findRoom y u + 1)) 1 (f_He_findRoom y u) n.toNatClampNeg)) (n := f_He_findRoom y u) hx hb hK hP hD hS (by omega) d_He_take_70 (fun H locs hP hD hS => ?_)
          refine lv_aload_n hx hb d_He_take_71 rfl (lv_at hl 2 rfl) ?_
          refine lv_dup hx hb d_He_take_72 rfl ?_
          refine va_get (D := (dC, dI)) (ci := 6) (v := .int (gI u 8)) (C := R_He) (T := F_He) (N := 12) hx hb hts in_He hown hK hP 6 rfl rfl 7 (by decide) (hts _ m_3_4) (fun _ h9 => h9) rfl d_He_take_73 ?_
          refine lv_iconst (v := 1) hx hb d_He_take_76 (by decide) ?_
          refine lv_iadd hx hb d_He_take_77 ?_
          refine va_put (D := (dC, dI)) (ci := 6) (v := .int ((gI u 8) + (1 : Int32))) (ty := .int) (C := R_He) (T := F_He) (N := 12) hx hb hts in_He t_He t_He_ok n_He hown hK hP hD hS 6 rfl rfl 7 (by decide) (hts _ m_3_4) (fun _ h9 => h9) rfl (by decide +kernel) rfl rfl (Nat.le_of_ble_eq_true rfl) d_He_take_78 (fun H locs hP hD hS => ?_)
          have hP : va_P (dC, dI) classes (wC cI ad (sI (uN (uN (fN u 0 (f_He_findRoom y u) (f_He_findRoom y u + y) (f_He_findRoom y u + 1)) 1 (f_He_findRoom y u) n.toNatClampNeg) 2 (f_He_findRoom y u) 1) 8 ((gI u 8) + (1 : Int32)))) H := hP
          have hD : va_D A (wC cI ad (sI (uN (uN (fN u 0 (f_He_findRoom y u) (f_He_findRoom y u + y) (f_He_findRoom y u + 1)) 1 (f_He_findRoom y u) n.toNatClampNeg) 2 (f_He_findRoom y u) 1) 8 ((gI u 8) + (1 : Int32)))) := hD
          refine lv_aload_n hx hb d_He_take_81 rfl (lv_at hl 2 rfl) ?_
          refine lv_dup hx hb d_He_take_82 rfl ?_
          refine va_get (D := (dC, dI)) (ci := 6) (v := .int (gI u 9)) (C := R_He) (T := F_He) (N := 12) hx hb hts in_He hown hK hP 6 rfl rfl 8 (by decide) (hts _ m_3_7) (fun _ h9 => h9) rfl d_He_take_83 ?_
          refine lv_iload_n hx hb d_He_take_86 rfl (lv_at hl 3 rfl) ?_
          refine rw_top (y := nI n.toNatClampNeg) (hp_n c1) ?_
          refine lv_iadd hx hb d_He_take_87 ?_
          refine va_put (D := (dC, dI)) (ci := 6) (v := .int ((gI u 9) + (nI n.toNatClampNeg))) (ty := .int) (C := R_He) (T := F_He) (N := 12) hx hb hts in_He t_He t_He_ok n_He hown hK hP hD hS 6 rfl rfl 8 (by decide) (hts _ m_3_7) (fun _ h9 => h9) rfl (by decide +kernel) rfl rfl (Nat.le_of_ble_eq_true rfl) d_He_take_88 (fun H locs hP hD hS => ?_)
          have hP : va_P (dC, dI) classes (wC cI ad (sI (sI (uN (uN (fN u 0 (f_He_findRoom y u) (f_He_findRoom y u + y) (f_He_findRoom y u + 1)) 1 (f_He_findRoom y u) n.toNatClampNeg) 2 (f_He_findRoom y u) 1) 8 ((gI u 8) + (1 : Int32))) 9 ((gI u 9) + (nI n.toNatClampNeg)))) H := hP
          have hD : va_D A (wC cI ad (sI (sI (uN (uN (fN u 0 (f_He_findRoom y u) (f_He_findRoom y u + y) (f_He_findRoom y u + 1)) 1 (f_He_findRoom y u) n.toNatClampNeg) 2 (f_He_findRoom y u) 1) 8 ((gI u 8) + (1 : Int32))) 9 ((gI u 9) + (nI n.toNatClampNeg)))) := hD
          refine lv_ldc (v := 32768) hx hb hown (hts _ m_10_21) d_He_take_91 ?_
          refine rw_top (y := nI 32768) (by decide) ?_
          refine lv_iload_n hx hb d_He_take_93 rfl (lv_at hl 0 rfl) ?_
          refine lv_bipush (v := nI 16) hx hb d_He_take_94 (by decide) ?_
          refine lv_imul hx hb d_He_take_96 ?_
          refine rw_top (y := nI ((f_He_findRoom y u) * 16)) (pk_mul (f_He_findRoom y u) 16) ?_
          refine lv_iadd hx hb d_He_take_97 ?_
          refine rw_top (y := nI (32768 + ((f_He_findRoom y u) * 16))) (nI_add 32768 ((f_He_findRoom y u) * 16)) ?_
          have hE : res = (32768 + ((f_He_findRoom y u) * 16), sI (sI (uN (uN (fN u 0 (f_He_findRoom y u) (f_He_findRoom y u + y) (f_He_findRoom y u + 1)) 1 (f_He_findRoom y u) n.toNatClampNeg) 2 (f_He_findRoom y u) 1) 8 ((gI u 8) + (1 : Int32))) 9 ((gI u 9) + (nI n.toNatClampNeg))) := (by subst ey; exact hq.trans ((if_neg c1).trans ((if_pos c2).trans ((if_neg c3).trans rfl))))
          exact retWn (x := 32768 + ((f_He_findRoom y u) * 16)) hx hb hr hP hK hD hS (congrArg Prod.fst hE).symm (congrArg Prod.snd hE).symm d_He_take_98 hlocks
        · skip
          refine lv_iconst (v := nI 0) hx hb d_He_take_41 (by decide) ?_
          have hE : res = (0, u) := (by subst ey; exact hq.trans ((if_neg c1).trans ((if_pos c2).trans ((if_pos c3).trans rfl))))
          exact retWn (x := 0) hx hb hr hP hK hD hS (congrArg Prod.fst hE).symm (congrArg Prod.snd hE).symm d_He_take_42 hlocks
      refine rz_ne (tgt := 21) hx hb (by omega) d_He_take_14 (by decide) (fun c4 => ?_) (fun c4 => ?_)
      · skip
        refine lv_iload_n hx hb d_He_take_21 rfl (lv_at hl 1 rfl) ?_
        refine rw_top (y := nI n.toNatClampNeg) (hp_n c1) ?_
        refine lv_bipush (v := nI 16) hx hb d_He_take_22 (by decide) ?_
        refine lv_iadd hx hb d_He_take_24 ?_
        refine rw_top (y := nI (n.toNatClampNeg + 16)) (nI_add n.toNatClampNeg 16) ?_
        refine lv_iconst (v := nI 1) hx hb d_He_take_25 (by decide) ?_
        refine lv_isub hx hb d_He_take_26 ?_
        refine rw_top (y := nI (n.toNatClampNeg + 16 - 1)) (pk_sub (by omega)) ?_
        refine lv_bipush (v := nI 16) hx hb d_He_take_27 (by decide) ?_
        refine lv_idiv hx hb d_He_take_29 (by decide) ?_
        refine rw_top (y := nI ((n.toNatClampNeg + 16 - 1) / 16)) (pk_div (by omega) (by omega) (by omega)) ?_
        exact J30 ((n.toNatClampNeg + 16 - 1) / 16) _ _ (Eq.symm ((if_neg c4).trans (rfl))) hP hD hS
      · skip
        refine lv_iconst (v := nI 1) hx hb d_He_take_17 (by decide) ?_
        refine lv_goto (tgt := 30) hx hb d_He_take_18 (by decide) ?_
        exact J30 1 _ _ (Eq.symm ((if_pos c4).trans (rfl))) hP hD hS
    · skip
      refine lv_iconst (v := nI 0) hx hb d_He_take_11 (by decide) ?_
      have hE : res = (0, u) := hq.trans ((if_neg c1).trans ((if_neg c2).trans rfl))
      exact retWn (x := 0) hx hb hr hP hK hD hS (congrArg Prod.fst hE).symm (congrArg Prod.snd hE).symm d_He_take_12 hlocks
def w_He_stateAt : List Cond := .code y_He_stateAt b_He_stateAt 2 (some .int) :: ALLW
def rm_He_stateAt : Room := { frames := 20, cells := 0, slots := 0, locals := 600 }
theorem d_He_stateAt_0 : decode b_He_stateAt 0 = .ok (.iload_n 1, 1) := by decide +kernel
theorem d_He_stateAt_1 : decode b_He_stateAt 1 = .ok (.ldc 59, 2) := by decide +kernel
theorem d_He_stateAt_3 : decode b_He_stateAt 3 = .ok (.if_icmp .lt 16, 3) := by decide +kernel
theorem d_He_stateAt_6 : decode b_He_stateAt 6 = .ok (.iload_n 1, 1) := by decide +kernel
theorem d_He_stateAt_7 : decode b_He_stateAt 7 = .ok (.ldc 60, 2) := by decide +kernel
theorem d_He_stateAt_9 : decode b_He_stateAt 9 = .ok (.if_icmp .ge 10, 3) := by decide +kernel
theorem d_He_stateAt_12 : decode b_He_stateAt 12 = .ok (.iload_n 1, 1) := by decide +kernel
theorem d_He_stateAt_13 : decode b_He_stateAt 13 = .ok (.bipush 16, 2) := by decide +kernel
theorem d_He_stateAt_15 : decode b_He_stateAt 15 = .ok (.irem, 1) := by decide +kernel
theorem d_He_stateAt_16 : decode b_He_stateAt 16 = .ok (.ifCond .eq 5, 3) := by decide +kernel
theorem d_He_stateAt_19 : decode b_He_stateAt 19 = .ok (.iconst 0, 1) := by decide +kernel
theorem d_He_stateAt_20 : decode b_He_stateAt 20 = .ok (.ireturn, 1) := by decide +kernel
theorem d_He_stateAt_21 : decode b_He_stateAt 21 = .ok (.aload_n 0, 1) := by decide +kernel
theorem d_He_stateAt_22 : decode b_He_stateAt 22 = .ok (.getfield 18, 3) := by decide +kernel
theorem d_He_stateAt_25 : decode b_He_stateAt 25 = .ok (.iload_n 1, 1) := by decide +kernel
theorem d_He_stateAt_26 : decode b_He_stateAt 26 = .ok (.ldc 59, 2) := by decide +kernel
theorem d_He_stateAt_28 : decode b_He_stateAt 28 = .ok (.isub, 1) := by decide +kernel
theorem d_He_stateAt_29 : decode b_He_stateAt 29 = .ok (.bipush 16, 2) := by decide +kernel
theorem d_He_stateAt_31 : decode b_He_stateAt 31 = .ok (.idiv, 1) := by decide +kernel
theorem d_He_stateAt_32 : decode b_He_stateAt 32 = .ok (.iaload, 1) := by decide +kernel
theorem d_He_stateAt_33 : decode b_He_stateAt 33 = .ok (.ireturn, 1) := by decide +kernel
def f_He_stateAt (a : Int32) (u : S5) : Nat := if a < 32768 then 0 else if 57344 ≤ a then 0 else if (a - a / (16 : Int32) * (16 : Int32)) = 0 then aN u 2 (hu a) else 0
set_option maxHeartbeats 8000000 in
set_option maxRecDepth 100000 in
theorem c_He_stateAt (l : Launch) (dC : Nat → ClassId) (dI : Nat → Nat → Nat) (cI : ClassId) (ad : Nat → Nat) (u : S5) (a : Int32) (sz : Nat) : Met l y_He_stateAt w_He_stateAt rm_He_stateAt (PreW (dC, dI) classes [(cI, .int)] (wC cI ad) u sz [.ref (ad 6), .int a]) (QWi (dC, dI) classes [(cI, .int)] (wC cI ad) (va_A (wC cI ad u) sz) (nI (f_He_stateAt a u)) u) 0 0 (va_A (wC cI ad u) sz) := by
  generalize hres : f_He_stateAt a u = res
  refine Met.ofW (cc := b_He_stateAt) (maxL := 2) (ret := (some .int)) (by decide) rfl ?_
  intro p e s m args below meth c s₁ B hml hv
  obtain ⟨rfl, rfl, hP, hK, hD0⟩ := hv
  have hx := B.exec
  have hb := B.bytes
  have hr := B.returns
  have hts : ∀ w9 ∈ ALLW, w9.before ([.ref (ad 6), .int a] : List Value).toArray s = true := fun w9 h => atoms_spec (ws := w_He_stateAt) B.pre w9 (List.mem_cons_of_mem _ h)
  have hown : s.vm.findClass R_He = some m.cls := findClass_of_methodNamed B.named
  have hlocks := B.notSynchronized
  have hD := hD0.self (sz := s.heap.size)
  generalize hAe : va_A (wC cI ad u) s.heap.size = A at hD ⊢
  have hA : ∀ q : Nat, s.heap.size ≤ q → A q := fun q h => by rw [← hAe]; exact Or.inr h
  have hS : va_S A s.heap s.heap [] := va_S.rf
  have hl := lv_entry ([.ref (ad 6), .int a]) (n := 2) (Nat.le_of_ble_eq_true rfl)
  rw [lg_entry_eq]
  generalize (lg_sl ([.ref (ad 6), .int a]) ++ List.replicate (2 - (lg_sl ([.ref (ad 6), .int a])).length) Slot.unset).toArray = ls at hl ⊢
  have hl : lv_has ls 2 [(0, .ref (ad 6)), (1, .int a)] := hl
  have hq := hres.symm
  skip
  refine lv_iload_n hx hb d_He_stateAt_0 rfl (lv_at hl 1 rfl) ?_
  refine lv_ldc (v := 32768) hx hb hown (hts _ m_10_21) d_He_stateAt_1 ?_
  refine lv_icmp_lt (tgt := 19) hx hb d_He_stateAt_3 (by decide) (fun c1 => ?_) (fun c1 => ?_)
  · skip
    refine lv_iconst (v := nI 0) hx hb d_He_stateAt_19 (by decide) ?_
    have hE : res = 0 := hq.trans ((if_pos c1).trans rfl)
    exact retWn (x := 0) hx hb hr hP hK hD hS hE.symm rfl d_He_stateAt_20 hlocks
  · skip
    refine lv_iload_n hx hb d_He_stateAt_6 rfl (lv_at hl 1 rfl) ?_
    refine lv_ldc (v := 57344) hx hb hown (hts _ m_10_22) d_He_stateAt_7 ?_
    refine lv_icmp_ge (tgt := 19) hx hb d_He_stateAt_9 (by decide) (fun c2 => ?_) (fun c2 => ?_)
    · skip
      refine lv_iconst (v := nI 0) hx hb d_He_stateAt_19 (by decide) ?_
      have hE : res = 0 := hq.trans ((if_neg c1).trans ((if_pos c2).trans rfl))
      exact retWn (x := 0) hx hb hr hP hK hD hS hE.symm rfl d_He_stateAt_20 hlocks
    · skip
      refine lv_iload_n hx hb d_He_stateAt_12 rfl (lv_at hl 1 rfl) ?_
      refine lv_bipush (v := 16) hx hb d_He_stateAt_13 (by decide) ?_
      refine lv_irem hx hb d_He_stateAt_15 (by decide) ?_
      refine lv_if_eq (tgt := 21) hx hb d_He_stateAt_16 (by decide) (fun c3 => ?_) (fun c3 => ?_)
      · skip
        refine lv_aload_n hx hb d_He_stateAt_21 rfl (lv_at hl 0 rfl) ?_
        refine va_get (D := (dC, dI)) (ci := 6) (v := .ref (ad 16)) (C := R_He) (T := F_He) (N := 12) hx hb hts in_He hown hK hP 6 rfl rfl 2 (by decide) (hts _ m_2_38) (fun _ h9 => h9) rfl d_He_stateAt_22 ?_
        refine lv_iload_n hx hb d_He_stateAt_25 rfl (lv_at hl 1 rfl) ?_
        refine lv_ldc (v := 32768) hx hb hown (hts _ m_10_21) d_He_stateAt_26 ?_
        refine lv_isub hx hb d_He_stateAt_28 ?_
        refine lv_bipush (v := 16) hx hb d_He_stateAt_29 (by decide) ?_
        refine lv_idiv hx hb d_He_stateAt_31 (by decide) ?_
        refine rw_top (y := nI (hu a)) (hp_q c1 c2) ?_
        refine aldC_state (u := u) (v := aN u 2 (hu a)) hx hb hK hP (hp_b c1 c2) rfl d_He_stateAt_32 ?_
        have hE : res = aN u 2 (hu a) := hq.trans ((if_neg c1).trans ((if_neg c2).trans ((if_pos c3).trans rfl)))
        exact retWn (x := aN u 2 (hu a)) hx hb hr hP hK hD hS hE.symm rfl d_He_stateAt_33 hlocks
      · skip
        refine lv_iconst (v := nI 0) hx hb d_He_stateAt_19 (by decide) ?_
        have hE : res = 0 := hq.trans ((if_neg c1).trans ((if_neg c2).trans ((if_neg c3).trans rfl)))
        exact retWn (x := 0) hx hb hr hP hK hD hS hE.symm rfl d_He_stateAt_20 hlocks
theorem st_le {u : S5} (a : Int32) (hT : ∀ j, j < 1536 → aN u 2 j ≤ 2) : f_He_stateAt a u ≤ 2 := by
  unfold f_He_stateAt
  split
  · omega
  · rename_i h1
    split
    · omega
    · rename_i h2
      split
      · exact hT _ (hp_b h1 h2)
      · omega
theorem st_in {u : S5} {a : Int32} (h : ¬ f_He_stateAt a u = 0) : ¬ a < 32768 ∧ ¬ 57344 ≤ a ∧ f_He_stateAt a u = aN u 2 (hu a) ∧ a - a / (16 : Int32) * (16 : Int32) = 0 := by
  unfold f_He_stateAt at h ⊢
  by_cases h1 : a < 32768
  · rw [if_pos h1] at h; exact absurd rfl h
  · rw [if_neg h1] at h ⊢
    by_cases h2 : 57344 ≤ a
    · rw [if_pos h2] at h; exact absurd rfl h
    · rw [if_neg h2] at h ⊢
      by_cases h3 : a - a / (16 : Int32) * (16 : Int32) = 0
      · rw [if_pos h3]; exact ⟨h1, h2, rfl, h3⟩
      · rw [if_neg h3] at h; exact absurd rfl h
def w_He_sizeAt : List Cond := .code y_He_sizeAt b_He_sizeAt 2 (some .int) :: ALLW
def rm_He_sizeAt : Room := { frames := 21, cells := 0, slots := 0, locals := 621 }
theorem d_He_sizeAt_0 : decode b_He_sizeAt 0 = .ok (.aload_n 0, 1) := by decide +kernel
theorem d_He_sizeAt_1 : decode b_He_sizeAt 1 = .ok (.iload_n 1, 1) := by decide +kernel
theorem d_He_sizeAt_2 : decode b_He_sizeAt 2 = .ok (.invokevirtual 61, 3) := by decide +kernel
theorem d_He_sizeAt_5 : decode b_He_sizeAt 5 = .ok (.ifCond .ne 7, 3) := by decide +kernel
theorem d_He_sizeAt_8 : decode b_He_sizeAt 8 = .ok (.iconst 0, 1) := by decide +kernel
theorem d_He_sizeAt_9 : decode b_He_sizeAt 9 = .ok (.goto 15, 3) := by decide +kernel
theorem d_He_sizeAt_12 : decode b_He_sizeAt 12 = .ok (.aload_n 0, 1) := by decide +kernel
theorem d_He_sizeAt_13 : decode b_He_sizeAt 13 = .ok (.getfield 15, 3) := by decide +kernel
theorem d_He_sizeAt_16 : decode b_He_sizeAt 16 = .ok (.iload_n 1, 1) := by decide +kernel
theorem d_He_sizeAt_17 : decode b_He_sizeAt 17 = .ok (.ldc 59, 2) := by decide +kernel
theorem d_He_sizeAt_19 : decode b_He_sizeAt 19 = .ok (.isub, 1) := by decide +kernel
theorem d_He_sizeAt_20 : decode b_He_sizeAt 20 = .ok (.bipush 16, 2) := by decide +kernel
theorem d_He_sizeAt_22 : decode b_He_sizeAt 22 = .ok (.idiv, 1) := by decide +kernel
theorem d_He_sizeAt_23 : decode b_He_sizeAt 23 = .ok (.iaload, 1) := by decide +kernel
theorem d_He_sizeAt_24 : decode b_He_sizeAt 24 = .ok (.ireturn, 1) := by decide +kernel
def f_He_sizeAt (a : Int32) (u : S5) : Nat := if (f_He_stateAt a u) = 0 then 0 else aN u 1 (hu a)
set_option maxHeartbeats 8000000 in
set_option maxRecDepth 100000 in
theorem c_He_sizeAt (l : Launch) (dC : Nat → ClassId) (dI : Nat → Nat → Nat) (cI : ClassId) (ad : Nat → Nat) (u : S5) (a : Int32) (hT : ∀ j, j < 1536 → aN u 2 j ≤ 2) (sz : Nat) : Met l y_He_sizeAt w_He_sizeAt rm_He_sizeAt (PreW (dC, dI) classes [(cI, .int)] (wC cI ad) u sz [.ref (ad 6), .int a]) (QWi (dC, dI) classes [(cI, .int)] (wC cI ad) (va_A (wC cI ad u) sz) (nI (f_He_sizeAt a u)) u) 0 0 (va_A (wC cI ad u) sz) := by
  generalize hres : f_He_sizeAt a u = res
  refine Met.ofW (cc := b_He_sizeAt) (maxL := 2) (ret := (some .int)) (by decide) rfl ?_
  intro p e s m args below meth c s₁ B hml hv
  obtain ⟨rfl, rfl, hP, hK, hD0⟩ := hv
  have hx := B.exec
  have hb := B.bytes
  have hr := B.returns
  have hts : ∀ w9 ∈ ALLW, w9.before ([.ref (ad 6), .int a] : List Value).toArray s = true := fun w9 h => atoms_spec (ws := w_He_sizeAt) B.pre w9 (List.mem_cons_of_mem _ h)
  have hown : s.vm.findClass R_He = some m.cls := findClass_of_methodNamed B.named
  have hlocks := B.notSynchronized
  have hD := hD0.self (sz := s.heap.size)
  generalize hAe : va_A (wC cI ad u) s.heap.size = A at hD ⊢
  have hA : ∀ q : Nat, s.heap.size ≤ q → A q := fun q h => by rw [← hAe]; exact Or.inr h
  have hS : va_S A s.heap s.heap [] := va_S.rf
  have hl := lv_entry ([.ref (ad 6), .int a]) (n := 2) (Nat.le_of_ble_eq_true rfl)
  rw [lg_entry_eq]
  generalize (lg_sl ([.ref (ad 6), .int a]) ++ List.replicate (2 - (lg_sl ([.ref (ad 6), .int a])).length) Slot.unset).toArray = ls at hl ⊢
  have hl : lv_has ls 2 [(0, .ref (ad 6)), (1, .int a)] := hl
  have hq := hres.symm
  skip
  refine lv_aload_n hx hb d_He_sizeAt_0 rfl (lv_at hl 0 rfl) ?_
  refine lv_iload_n hx hb d_He_sizeAt_1 rfl (lv_at hl 1 rfl) ?_
  refine callWi (va_runV (As := [.int a]) (rest := []) ⟨hx, hb, hml, hown, hts⟩ (c_He_stateAt l dC dI cI ad u a s.heap.size) (cwV 1 hts (goodV m_10_39 m_11_0 m_11_1 m_0_10 m_11_2) rfl rfl rfl (by decide +kernel) ⟨Nat.le_of_ble_eq_true rfl, Nat.le_of_ble_eq_true rfl⟩) ⟨preW_blind, va_recv hK hP (ci := 6) (q0 := 6) rfl rfl, preW_ok hP hD hK⟩ rfl rfl hl.1 rfl (lv_room (Nat.le_of_ble_eq_true rfl)) d_He_sizeAt_2 ⟨Nat.zero_le _, Nat.zero_le _⟩) hP hD hS hA (fun H locs hP hD hS => ?_)
  have hsl := st_le a hT
  refine rz_ne (tgt := 12) hx hb (by omega) d_He_sizeAt_5 (by decide) (fun c1 => ?_) (fun c1 => ?_)
  · skip
    refine lv_aload_n hx hb d_He_sizeAt_12 rfl (lv_at hl 0 rfl) ?_
    refine va_get (D := (dC, dI)) (ci := 6) (v := .ref (ad 15)) (C := R_He) (T := F_He) (N := 12) hx hb hts in_He hown hK hP 6 rfl rfl 1 (by decide) (hts _ m_2_37) (fun _ h9 => h9) rfl d_He_sizeAt_13 ?_
    refine lv_iload_n hx hb d_He_sizeAt_16 rfl (lv_at hl 1 rfl) ?_
    refine lv_ldc (v := 32768) hx hb hown (hts _ m_10_21) d_He_sizeAt_17 ?_
    refine lv_isub hx hb d_He_sizeAt_19 ?_
    refine lv_bipush (v := 16) hx hb d_He_sizeAt_20 (by decide) ?_
    have hin := st_in c1
    refine lv_idiv hx hb d_He_sizeAt_22 (by decide) ?_
    refine rw_top (y := nI (hu a)) (hp_q hin.1 hin.2.1) ?_
    refine aldC_size (u := u) (v := aN u 1 (hu a)) hx hb hK hP (hp_b hin.1 hin.2.1) rfl d_He_sizeAt_23 ?_
    have hE : res = aN u 1 (hu a) := hq.trans ((if_neg c1).trans rfl)
    exact retWn (x := aN u 1 (hu a)) hx hb hr hP hK hD hS hE.symm rfl d_He_sizeAt_24 hlocks
  · skip
    refine lv_iconst (v := nI 0) hx hb d_He_sizeAt_8 (by decide) ?_
    refine lv_goto (tgt := 24) hx hb d_He_sizeAt_9 (by decide) ?_
    have hE : res = 0 := hq.trans ((if_pos c1).trans rfl)
    exact retWn (x := 0) hx hb hr hP hK hD hS hE.symm rfl d_He_sizeAt_24 hlocks
def w_He_freeOldest : List Cond := .code y_He_freeOldest b_He_freeOldest 3 none :: ALLW
def rm_He_freeOldest : Room := { frames := 20, cells := 0, slots := 0, locals := 600 }
theorem d_He_freeOldest_0 : decode b_He_freeOldest 0 = .ok (.aload_n 0, 1) := by decide +kernel
theorem d_He_freeOldest_1 : decode b_He_freeOldest 1 = .ok (.getfield 21, 3) := by decide +kernel
theorem d_He_freeOldest_4 : decode b_He_freeOldest 4 = .ok (.aload_n 0, 1) := by decide +kernel
theorem d_He_freeOldest_5 : decode b_He_freeOldest 5 = .ok (.getfield 36, 3) := by decide +kernel
theorem d_He_freeOldest_8 : decode b_He_freeOldest 8 = .ok (.iaload, 1) := by decide +kernel
theorem d_He_freeOldest_9 : decode b_He_freeOldest 9 = .ok (.istore_n 1, 1) := by decide +kernel
theorem d_He_freeOldest_10 : decode b_He_freeOldest 10 = .ok (.aload_n 0, 1) := by decide +kernel
theorem d_He_freeOldest_11 : decode b_He_freeOldest 11 = .ok (.aload_n 0, 1) := by decide +kernel
theorem d_He_freeOldest_12 : decode b_He_freeOldest 12 = .ok (.getfield 36, 3) := by decide +kernel
theorem d_He_freeOldest_15 : decode b_He_freeOldest 15 = .ok (.iconst 1, 1) := by decide +kernel
theorem d_He_freeOldest_16 : decode b_He_freeOldest 16 = .ok (.iadd, 1) := by decide +kernel
theorem d_He_freeOldest_17 : decode b_He_freeOldest 17 = .ok (.sipush 1536, 3) := by decide +kernel
theorem d_He_freeOldest_20 : decode b_He_freeOldest 20 = .ok (.irem, 1) := by decide +kernel
theorem d_He_freeOldest_21 : decode b_He_freeOldest 21 = .ok (.putfield 36, 3) := by decide +kernel
theorem d_He_freeOldest_24 : decode b_He_freeOldest 24 = .ok (.aload_n 0, 1) := by decide +kernel
theorem d_He_freeOldest_25 : decode b_He_freeOldest 25 = .ok (.dup, 1) := by decide +kernel
theorem d_He_freeOldest_26 : decode b_He_freeOldest 26 = .ok (.getfield 43, 3) := by decide +kernel
theorem d_He_freeOldest_29 : decode b_He_freeOldest 29 = .ok (.iconst 1, 1) := by decide +kernel
theorem d_He_freeOldest_30 : decode b_He_freeOldest 30 = .ok (.isub, 1) := by decide +kernel
theorem d_He_freeOldest_31 : decode b_He_freeOldest 31 = .ok (.putfield 43, 3) := by decide +kernel
theorem d_He_freeOldest_34 : decode b_He_freeOldest 34 = .ok (.aload_n 0, 1) := by decide +kernel
theorem d_He_freeOldest_35 : decode b_He_freeOldest 35 = .ok (.dup, 1) := by decide +kernel
theorem d_He_freeOldest_36 : decode b_He_freeOldest 36 = .ok (.getfield 40, 3) := by decide +kernel
theorem d_He_freeOldest_39 : decode b_He_freeOldest 39 = .ok (.aload_n 0, 1) := by decide +kernel
theorem d_He_freeOldest_40 : decode b_He_freeOldest 40 = .ok (.getfield 15, 3) := by decide +kernel
theorem d_He_freeOldest_43 : decode b_He_freeOldest 43 = .ok (.iload_n 1, 1) := by decide +kernel
theorem d_He_freeOldest_44 : decode b_He_freeOldest 44 = .ok (.iaload, 1) := by decide +kernel
theorem d_He_freeOldest_45 : decode b_He_freeOldest 45 = .ok (.isub, 1) := by decide +kernel
theorem d_He_freeOldest_46 : decode b_He_freeOldest 46 = .ok (.putfield 40, 3) := by decide +kernel
theorem d_He_freeOldest_49 : decode b_He_freeOldest 49 = .ok (.aload_n 0, 1) := by decide +kernel
theorem d_He_freeOldest_50 : decode b_He_freeOldest 50 = .ok (.getfield 18, 3) := by decide +kernel
theorem d_He_freeOldest_53 : decode b_He_freeOldest 53 = .ok (.iload_n 1, 1) := by decide +kernel
theorem d_He_freeOldest_54 : decode b_He_freeOldest 54 = .ok (.iconst 0, 1) := by decide +kernel
theorem d_He_freeOldest_55 : decode b_He_freeOldest 55 = .ok (.iastore, 1) := by decide +kernel
theorem d_He_freeOldest_56 : decode b_He_freeOldest 56 = .ok (.iload_n 1, 1) := by decide +kernel
theorem d_He_freeOldest_57 : decode b_He_freeOldest 57 = .ok (.istore_n 2, 1) := by decide +kernel
theorem d_He_freeOldest_58 : decode b_He_freeOldest 58 = .ok (.iload_n 2, 1) := by decide +kernel
theorem d_He_freeOldest_59 : decode b_He_freeOldest 59 = .ok (.sipush 1536, 3) := by decide +kernel
theorem d_He_freeOldest_62 : decode b_He_freeOldest 62 = .ok (.if_icmp .ge 28, 3) := by decide +kernel
theorem d_He_freeOldest_65 : decode b_He_freeOldest 65 = .ok (.aload_n 0, 1) := by decide +kernel
theorem d_He_freeOldest_66 : decode b_He_freeOldest 66 = .ok (.getfield 11, 3) := by decide +kernel
theorem d_He_freeOldest_69 : decode b_He_freeOldest 69 = .ok (.iload_n 2, 1) := by decide +kernel
theorem d_He_freeOldest_70 : decode b_He_freeOldest 70 = .ok (.iaload, 1) := by decide +kernel
theorem d_He_freeOldest_71 : decode b_He_freeOldest 71 = .ok (.iload_n 1, 1) := by decide +kernel
theorem d_He_freeOldest_72 : decode b_He_freeOldest 72 = .ok (.iconst 1, 1) := by decide +kernel
theorem d_He_freeOldest_73 : decode b_He_freeOldest 73 = .ok (.iadd, 1) := by decide +kernel
theorem d_He_freeOldest_74 : decode b_He_freeOldest 74 = .ok (.if_icmp .ne 16, 3) := by decide +kernel
theorem d_He_freeOldest_77 : decode b_He_freeOldest 77 = .ok (.aload_n 0, 1) := by decide +kernel
theorem d_He_freeOldest_78 : decode b_He_freeOldest 78 = .ok (.getfield 11, 3) := by decide +kernel
theorem d_He_freeOldest_81 : decode b_He_freeOldest 81 = .ok (.iload_n 2, 1) := by decide +kernel
theorem d_He_freeOldest_82 : decode b_He_freeOldest 82 = .ok (.iconst 0, 1) := by decide +kernel
theorem d_He_freeOldest_83 : decode b_He_freeOldest 83 = .ok (.iastore, 1) := by decide +kernel
theorem d_He_freeOldest_84 : decode b_He_freeOldest 84 = .ok (.iinc 2 1, 3) := by decide +kernel
theorem d_He_freeOldest_87 : decode b_He_freeOldest 87 = .ok (.goto (-29), 3) := by decide +kernel
theorem d_He_freeOldest_90 : decode b_He_freeOldest 90 = .ok (.return_, 1) := by decide +kernel
def f_He_freeOldest_58 (u : S5) : Nat → Nat → S5 → S5
  | 0, j, u1 => u1
  | k58 + 1, j, u1 => if j < 1536 then (if (aN u1 0 j) = (aN u 3 (gN u 6) + 1) then f_He_freeOldest_58 u k58 (j + 1) (uN u1 0 j 0) else u1) else u1
def f_He_freeOldest (u : S5) : S5 := f_He_freeOldest_58 u 1537 (aN u 3 (gN u 6)) (uN (sI (sN (sN u 6 ((gN u 6 + 1) % 1536)) 7 (gN u 7 - 1)) 7 ((gI u 7) - (nI (aN u 1 (aN u 3 (gN u 6)))))) 2 (aN u 3 (gN u 6)) 0)
set_option maxHeartbeats 8000000 in
set_option maxRecDepth 100000 in
theorem c_He_freeOldest (l : Launch) (dC : Nat → ClassId) (dI : Nat → Nat → Nat) (cI : ClassId) (ad : Nat → Nat) (u : S5) (h6 : gN u 6 < 1536) (h7 : 1 ≤ gN u 7) (h7b : gN u 7 ≤ 2000) (hO : ∀ j, j < 1536 → aN u 0 j ≤ 1536) (hL : ∀ j, j < 1536 → aN u 3 j < 1536) (sz : Nat) : Met l y_He_freeOldest w_He_freeOldest rm_He_freeOldest (PreW (dC, dI) classes [(cI, .int)] (wC cI ad) u sz [.ref (ad 6)]) (QWv (dC, dI) classes [(cI, .int)] (wC cI ad) (va_A (wC cI ad u) sz) (f_He_freeOldest u)) 0 0 (va_A (wC cI ad u) sz) := by
  generalize hres : f_He_freeOldest u = res
  refine Met.ofW (cc := b_He_freeOldest) (maxL := 3) (ret := none) (by decide) rfl ?_
  intro p e s m args below meth c s₁ B hml hv
  obtain ⟨rfl, rfl, hP, hK, hD0⟩ := hv
  have hx := B.exec
  have hb := B.bytes
  have hr := B.returns
  have hts : ∀ w9 ∈ ALLW, w9.before ([.ref (ad 6)] : List Value).toArray s = true := fun w9 h => atoms_spec (ws := w_He_freeOldest) B.pre w9 (List.mem_cons_of_mem _ h)
  have hown : s.vm.findClass R_He = some m.cls := findClass_of_methodNamed B.named
  have hlocks := B.notSynchronized
  have hD := hD0.self (sz := s.heap.size)
  generalize hAe : va_A (wC cI ad u) s.heap.size = A at hD ⊢
  have hA : ∀ q : Nat, s.heap.size ≤ q → A q := fun q h => by rw [← hAe]; exact Or.inr h
  have hS : va_S A s.heap s.heap [] := va_S.rf
  have hl := lv_entry ([.ref (ad 6)]) (n := 3) (Nat.le_of_ble_eq_true rfl)
  rw [lg_entry_eq]
  generalize (lg_sl ([.ref (ad 6)]) ++ List.replicate (3 - (lg_sl ([.ref (ad 6)])).length) Slot.unset).toArray = ls at hl ⊢
  have hl : lv_has ls 3 [(0, .ref (ad 6))] := hl
  have hq := hres.symm
  skip
  have hl6 := hL _ h6
  refine lv_aload_n hx hb d_He_freeOldest_0 rfl (lv_at hl 0 rfl) ?_
  refine va_get (D := (dC, dI)) (ci := 6) (v := .ref (ad 17)) (C := R_He) (T := F_He) (N := 12) hx hb hts in_He hown hK hP 6 rfl rfl 3 (by decide) (hts _ m_2_39) (fun _ h9 => h9) rfl d_He_freeOldest_1 ?_
  refine lv_aload_n hx hb d_He_freeOldest_4 rfl (lv_at hl 0 rfl) ?_
  refine va_get (D := (dC, dI)) (ci := 6) (v := .int (nI (gN u 6))) (C := R_He) (T := F_He) (N := 12) hx hb hts in_He hown hK hP 6 rfl rfl 4 (by decide) (hts _ m_3_0) (fun _ h9 => h9) rfl d_He_freeOldest_5 ?_
  refine aldC_line (u := u) (v := aN u 3 (gN u 6)) hx hb hK hP (by omega) rfl d_He_freeOldest_8 ?_
  refine lv_istore_n (lv' := [(1, .int (nI (aN u 3 (gN u 6)))), (0, .ref (ad 6))]) hx hb d_He_freeOldest_9 rfl hl (by decide) rfl (fun ls hl => ?_)
  refine lv_aload_n hx hb d_He_freeOldest_10 rfl (lv_at hl 1 rfl) ?_
  refine lv_aload_n hx hb d_He_freeOldest_11 rfl (lv_at hl 1 rfl) ?_
  refine va_get (D := (dC, dI)) (ci := 6) (v := .int (nI (gN u 6))) (C := R_He) (T := F_He) (N := 12) hx hb hts in_He hown hK hP 6 rfl rfl 4 (by decide) (hts _ m_3_0) (fun _ h9 => h9) rfl d_He_freeOldest_12 ?_
  refine lv_iconst (v := nI 1) hx hb d_He_freeOldest_15 (by decide) ?_
  refine lv_iadd hx hb d_He_freeOldest_16 ?_
  refine rw_top (y := nI (gN u 6 + 1)) (nI_add (gN u 6) 1) ?_
  refine lv_sipush (v := nI 1536) hx hb d_He_freeOldest_17 (by decide) ?_
  refine lv_irem hx hb d_He_freeOldest_20 (by decide) ?_
  refine rw_top (y := nI ((gN u 6 + 1) % 1536)) (pk_rem (by omega) (by omega) (by omega)) ?_
  refine va_put (D := (dC, dI)) (ci := 6) (v := .int (nI ((gN u 6 + 1) % 1536))) (ty := .int) (C := R_He) (T := F_He) (N := 12) hx hb hts in_He t_He t_He_ok n_He hown hK hP hD hS 6 rfl rfl 4 (by decide) (hts _ m_3_0) (fun _ h9 => h9) rfl (by decide +kernel) rfl rfl (Nat.le_of_ble_eq_true rfl) d_He_freeOldest_21 (fun H locs hP hD hS => ?_)
  have hP : va_P (dC, dI) classes (wC cI ad (sN u 6 ((gN u 6 + 1) % 1536))) H := hP
  have hD : va_D A (wC cI ad (sN u 6 ((gN u 6 + 1) % 1536))) := hD
  refine lv_aload_n hx hb d_He_freeOldest_24 rfl (lv_at hl 1 rfl) ?_
  refine lv_dup hx hb d_He_freeOldest_25 rfl ?_
  refine va_get (D := (dC, dI)) (ci := 6) (v := .int (nI (gN u 7))) (C := R_He) (T := F_He) (N := 12) hx hb hts in_He hown hK hP 6 rfl rfl 6 (by decide) (hts _ m_3_2) (fun _ h9 => h9) rfl d_He_freeOldest_26 ?_
  refine lv_iconst (v := nI 1) hx hb d_He_freeOldest_29 (by decide) ?_
  refine lv_isub hx hb d_He_freeOldest_30 ?_
  refine rw_top (y := nI (gN u 7 - 1)) (pk_sub (by omega)) ?_
  refine va_put (D := (dC, dI)) (ci := 6) (v := .int (nI (gN u 7 - 1))) (ty := .int) (C := R_He) (T := F_He) (N := 12) hx hb hts in_He t_He t_He_ok n_He hown hK hP hD hS 6 rfl rfl 6 (by decide) (hts _ m_3_2) (fun _ h9 => h9) rfl (by decide +kernel) rfl rfl (Nat.le_of_ble_eq_true rfl) d_He_freeOldest_31 (fun H locs hP hD hS => ?_)
  have hP : va_P (dC, dI) classes (wC cI ad (sN (sN u 6 ((gN u 6 + 1) % 1536)) 7 (gN u 7 - 1))) H := hP
  have hD : va_D A (wC cI ad (sN (sN u 6 ((gN u 6 + 1) % 1536)) 7 (gN u 7 - 1))) := hD
  refine lv_aload_n hx hb d_He_freeOldest_34 rfl (lv_at hl 1 rfl) ?_
  refine lv_dup hx hb d_He_freeOldest_35 rfl ?_
  refine va_get (D := (dC, dI)) (ci := 6) (v := .int (gI u 7)) (C := R_He) (T := F_He) (N := 12) hx hb hts in_He hown hK hP 6 rfl rfl 5 (by decide) (hts _ m_3_1) (fun _ h9 => h9) rfl d_He_freeOldest_36 ?_
  refine lv_aload_n hx hb d_He_freeOldest_39 rfl (lv_at hl 1 rfl) ?_
  refine va_get (D := (dC, dI)) (ci := 6) (v := .ref (ad 15)) (C := R_He) (T := F_He) (N := 12) hx hb hts in_He hown hK hP 6 rfl rfl 1 (by decide) (hts _ m_2_37) (fun _ h9 => h9) rfl d_He_freeOldest_40 ?_
  refine lv_iload_n hx hb d_He_freeOldest_43 rfl (lv_at hl 0 rfl) ?_
  refine aldC_size (u := (sN (sN u 6 ((gN u 6 + 1) % 1536)) 7 (gN u 7 - 1))) (v := aN u 1 (aN u 3 (gN u 6))) hx hb hK hP (by omega) rfl d_He_freeOldest_44 ?_
  refine lv_isub hx hb d_He_freeOldest_45 ?_
  refine va_put (D := (dC, dI)) (ci := 6) (v := .int ((gI u 7) - (nI (aN u 1 (aN u 3 (gN u 6)))))) (ty := .int) (C := R_He) (T := F_He) (N := 12) hx hb hts in_He t_He t_He_ok n_He hown hK hP hD hS 6 rfl rfl 5 (by decide) (hts _ m_3_1) (fun _ h9 => h9) rfl (by decide +kernel) rfl rfl (Nat.le_of_ble_eq_true rfl) d_He_freeOldest_46 (fun H locs hP hD hS => ?_)
  have hP : va_P (dC, dI) classes (wC cI ad (sI (sN (sN u 6 ((gN u 6 + 1) % 1536)) 7 (gN u 7 - 1)) 7 ((gI u 7) - (nI (aN u 1 (aN u 3 (gN u 6))))))) H := hP
  have hD : va_D A (wC cI ad (sI (sN (sN u 6 ((gN u 6 + 1) % 1536)) 7 (gN u 7 - 1)) 7 ((gI u 7) - (nI (aN u 1 (aN u 3 (gN u 6))))))) := hD
  refine lv_aload_n hx hb d_He_freeOldest_49 rfl (lv_at hl 1 rfl) ?_
  refine va_get (D := (dC, dI)) (ci := 6) (v := .ref (ad 16)) (C := R_He) (T := F_He) (N := 12) hx hb hts in_He hown hK hP 6 rfl rfl 2 (by decide) (hts _ m_2_38) (fun _ h9 => h9) rfl d_He_freeOldest_50 ?_
  refine lv_iload_n hx hb d_He_freeOldest_53 rfl (lv_at hl 0 rfl) ?_
  refine lv_iconst (v := nI 0) hx hb d_He_freeOldest_54 (by decide) ?_
  refine astC_state (u := (sI (sN (sN u 6 ((gN u 6 + 1) % 1536)) 7 (gN u 7 - 1)) 7 ((gI u 7) - (nI (aN u 1 (aN u 3 (gN u 6))))))) (n := aN u 3 (gN u 6)) hx hb hK hP hD hS (by omega) d_He_freeOldest_55 (fun H locs hP hD hS => ?_)
  refine lv_iload_n hx hb d_He_freeOldest_56 rfl (lv_at hl 0 rfl) ?_
  refine lv_istore_n (lv' := [(2, .int (nI (aN u 3 (gN u 6)))), (1, .int (nI (aN u 3 (gN u 6)))), (0, .ref (ad 6))]) hx hb d_He_freeOldest_57 rfl hl (by decide) rfl (fun ls hl => ?_)
  have L58 : ∀ (k : Nat) (j : Nat) (u1 : S5) (H : Heap) (locs : List Loc) (ls : Array Slot), (j ≤ 1536) → (∀ j, j < 1536 → aN u1 0 j ≤ 1536) → (1536 - j) < k → res = f_He_freeOldest_58 u k j u1 → va_P (dC, dI) classes (wC cI ad u1) H → va_D A (wC cI ad u1) → va_S A s.heap H locs → lv_has ls 3 [(2, .int (nI j)), (1, .int (nI (aN u 3 (gN u 6)))), (0, .ref (ad 6))] → W p l e (headSpec w_He_freeOldest rm_He_freeOldest).room s m ([.ref (ad 6)] : List Value).toArray below meth c H locs 0 0 (MQ below (QWv (dC, dI) classes [(cI, .int)] (wC cI ad) A res) ([.ref (ad 6)] : List Value).toArray s 0 0 A) (F0 m 58 ls []) := by
    intro k
    induction k with
    | zero => intro j u1 H locs ls hj hO1 hm; exact absurd hm (Nat.not_lt_zero _)
    | succ k58 ih58 =>
      intro j u1 H locs ls hj hO1 hm hq58 hP hD hS hl
      have hl6 := hl6
      refine lv_iload_n hx hb d_He_freeOldest_58 rfl (lv_at hl 0 rfl) ?_
      refine lv_sipush (v := nI 1536) hx hb d_He_freeOldest_59 (by decide) ?_
      refine rn_ge (tgt := 90) hx hb (by omega) (by omega) d_He_freeOldest_62 (by decide) (fun c1 => ?_) (fun c1 => ?_)
      · skip
        have hE : res = u1 := hq58.trans ((if_neg (Nat.not_lt.mpr c1)).trans rfl)
        exact retWv hx hb hr hP hK hD hS hE.symm d_He_freeOldest_90 hlocks
      · skip
        refine lv_aload_n hx hb d_He_freeOldest_65 rfl (lv_at hl 2 rfl) ?_
        refine va_get (D := (dC, dI)) (ci := 6) (v := .ref (ad 14)) (C := R_He) (T := F_He) (N := 12) hx hb hts in_He hown hK hP 6 rfl rfl 0 (by decide) (hts _ m_2_36) (fun _ h9 => h9) rfl d_He_freeOldest_66 ?_
        refine lv_iload_n hx hb d_He_freeOldest_69 rfl (lv_at hl 0 rfl) ?_
        refine aldC_owner (u := u1) (v := aN u1 0 j) hx hb hK hP (by omega) rfl d_He_freeOldest_70 ?_
        refine lv_iload_n hx hb d_He_freeOldest_71 rfl (lv_at hl 1 rfl) ?_
        refine lv_iconst (v := nI 1) hx hb d_He_freeOldest_72 (by decide) ?_
        refine lv_iadd hx hb d_He_freeOldest_73 ?_
        refine rw_top (y := nI (aN u 3 (gN u 6) + 1)) (nI_add (aN u 3 (gN u 6)) 1) ?_
        have hw := hO1 j (by omega)
        refine rn_ne (tgt := 90) hx hb (by omega) (by omega) d_He_freeOldest_74 (by decide) (fun c2 => ?_) (fun c2 => ?_)
        · skip
          have hE : res = u1 := hq58.trans ((if_pos c1).trans ((if_neg c2).trans rfl))
          exact retWv hx hb hr hP hK hD hS hE.symm d_He_freeOldest_90 hlocks
        · skip
          refine lv_aload_n hx hb d_He_freeOldest_77 rfl (lv_at hl 2 rfl) ?_
          refine va_get (D := (dC, dI)) (ci := 6) (v := .ref (ad 14)) (C := R_He) (T := F_He) (N := 12) hx hb hts in_He hown hK hP 6 rfl rfl 0 (by decide) (hts _ m_2_36) (fun _ h9 => h9) rfl d_He_freeOldest_78 ?_
          refine lv_iload_n hx hb d_He_freeOldest_81 rfl (lv_at hl 0 rfl) ?_
          refine lv_iconst (v := nI 0) hx hb d_He_freeOldest_82 (by decide) ?_
          refine astC_owner (u := u1) (n := j) hx hb hK hP hD hS (by omega) d_He_freeOldest_83 (fun H locs hP hD hS => ?_)
          refine lv_iinc (v := nI (j + 1)) (lv' := [(2, .int (nI (j + 1))), (1, .int (nI (aN u 3 (gN u 6)))), (0, .ref (ad 6))]) hx hb d_He_freeOldest_84 hl (k := 0) rfl (rn_inc j 1 (by decide)) (by decide) rfl (fun ls hl => ?_)
          refine lv_goto (tgt := 58) hx hb d_He_freeOldest_87 (by decide) ?_
          exact ih58 (j + 1) (uN u1 0 j 0) _ _ _ (by first | assumption | omega) (by intro q hq; show va_up (aN u1 0) j 0 q ≤ 1536; unfold va_up; split; omega; exact hO1 q hq) (by omega) (hq58.trans ((if_pos c1).trans ((if_pos c2).trans rfl))) hP hD hS (lv_sub hl [0, 1, 2] rfl)
  exact L58 1537 (aN u 3 (gN u 6)) (uN (sI (sN (sN u 6 ((gN u 6 + 1) % 1536)) 7 (gN u 7 - 1)) 7 ((gI u 7) - (nI (aN u 1 (aN u 3 (gN u 6)))))) 2 (aN u 3 (gN u 6)) 0) _ _ _ (Nat.le_of_lt hl6) (by first | assumption | omega) (by omega) (hq.trans (rfl)) hP hD hS (lv_sub hl [0, 1, 2] rfl)
theorem fo_loop (u : S5) : ∀ (k j : Nat) (u1 : S5), (∀ x, gN (f_He_freeOldest_58 u k j u1) x = gN u1 x) ∧ (∀ x, gI (f_He_freeOldest_58 u k j u1) x = gI u1 x) ∧ (∀ x, aI (f_He_freeOldest_58 u k j u1) x = aI u1 x) ∧ (∀ x, ¬ x = 0 → aN (f_He_freeOldest_58 u k j u1) x = aN u1 x) ∧ ((∀ q, q < 1536 → aN u1 0 q ≤ 1536) → ∀ q, q < 1536 → aN (f_He_freeOldest_58 u k j u1) 0 q ≤ 1536) := by
  intro k
  induction k with
  | zero => intro j u1; exact ⟨fun _ => rfl, fun _ => rfl, fun _ => rfl, fun _ _ => rfl, fun h => h⟩
  | succ k ih =>
    intro j u1
    unfold f_He_freeOldest_58
    split
    · split
      · obtain ⟨h1, h2, h3, h4, h5⟩ := ih (j + 1) (uN u1 0 j 0)
        refine ⟨fun x => (h1 x).trans rfl, fun x => (h2 x).trans rfl, fun x => (h3 x).trans rfl, fun x hx => (h4 x hx).trans ?_, fun h => h5 ?_⟩
        · rw [aN_uN, if_neg hx]
        · intro q hq
          rw [aN_uN, if_pos rfl]
          unfold va_up
          split
          · omega
          · exact h q hq
      · exact ⟨fun _ => rfl, fun _ => rfl, fun _ => rfl, fun _ _ => rfl, fun h => h⟩
    · exact ⟨fun _ => rfl, fun _ => rfl, fun _ => rfl, fun _ _ => rfl, fun h => h⟩
theorem fo_7 (u : S5) : gN (f_He_freeOldest u) 7 = gN u 7 - 1 := by
  unfold f_He_freeOldest; rw [(fo_loop u _ _ _).1]; rfl
theorem fo_6 (u : S5) : gN (f_He_freeOldest u) 6 = (gN u 6 + 1) % 1536 := by
  unfold f_He_freeOldest; rw [(fo_loop u _ _ _).1]; rfl
theorem fo_3 (u : S5) : aN (f_He_freeOldest u) 3 = aN u 3 := by
  unfold f_He_freeOldest; rw [(fo_loop u _ _ _).2.2.2.1 3 (by decide)]; rfl
theorem fo_1 (u : S5) : aN (f_He_freeOldest u) 1 = aN u 1 := by
  unfold f_He_freeOldest; rw [(fo_loop u _ _ _).2.2.2.1 1 (by decide)]; rfl
theorem fo_O (u : S5) (h : ∀ q, q < 1536 → aN u 0 q ≤ 1536) : ∀ q, q < 1536 → aN (f_He_freeOldest u) 0 q ≤ 1536 := by
  unfold f_He_freeOldest; exact (fo_loop u _ _ _).2.2.2.2 h
def w_He_keep : List Cond := .code y_He_keep b_He_keep 4 (some .int) :: ALLW
def rm_He_keep : Room := { frames := 21, cells := 0, slots := 0, locals := 622 }
theorem d_He_keep_0 : decode b_He_keep 0 = .ok (.aload_n 0, 1) := by decide +kernel
theorem d_He_keep_1 : decode b_He_keep 1 = .ok (.iload_n 1, 1) := by decide +kernel
theorem d_He_keep_2 : decode b_He_keep 2 = .ok (.invokevirtual 61, 3) := by decide +kernel
theorem d_He_keep_5 : decode b_He_keep 5 = .ok (.iconst 1, 1) := by decide +kernel
theorem d_He_keep_6 : decode b_He_keep 6 = .ok (.if_icmp .eq 5, 3) := by decide +kernel
theorem d_He_keep_9 : decode b_He_keep 9 = .ok (.iconst 0, 1) := by decide +kernel
theorem d_He_keep_10 : decode b_He_keep 10 = .ok (.ireturn, 1) := by decide +kernel
theorem d_He_keep_11 : decode b_He_keep 11 = .ok (.iload_n 1, 1) := by decide +kernel
theorem d_He_keep_12 : decode b_He_keep 12 = .ok (.ldc 59, 2) := by decide +kernel
theorem d_He_keep_14 : decode b_He_keep 14 = .ok (.isub, 1) := by decide +kernel
theorem d_He_keep_15 : decode b_He_keep 15 = .ok (.bipush 16, 2) := by decide +kernel
theorem d_He_keep_17 : decode b_He_keep 17 = .ok (.idiv, 1) := by decide +kernel
theorem d_He_keep_18 : decode b_He_keep 18 = .ok (.istore_n 2, 1) := by decide +kernel
theorem d_He_keep_19 : decode b_He_keep 19 = .ok (.aload_n 0, 1) := by decide +kernel
theorem d_He_keep_20 : decode b_He_keep 20 = .ok (.getfield 18, 3) := by decide +kernel
theorem d_He_keep_23 : decode b_He_keep 23 = .ok (.iload_n 2, 1) := by decide +kernel
theorem d_He_keep_24 : decode b_He_keep 24 = .ok (.iconst 2, 1) := by decide +kernel
theorem d_He_keep_25 : decode b_He_keep 25 = .ok (.iastore, 1) := by decide +kernel
theorem d_He_keep_26 : decode b_He_keep 26 = .ok (.aload_n 0, 1) := by decide +kernel
theorem d_He_keep_27 : decode b_He_keep 27 = .ok (.dup, 1) := by decide +kernel
theorem d_He_keep_28 : decode b_He_keep 28 = .ok (.getfield 46, 3) := by decide +kernel
theorem d_He_keep_31 : decode b_He_keep 31 = .ok (.iconst 1, 1) := by decide +kernel
theorem d_He_keep_32 : decode b_He_keep 32 = .ok (.isub, 1) := by decide +kernel
theorem d_He_keep_33 : decode b_He_keep 33 = .ok (.putfield 46, 3) := by decide +kernel
theorem d_He_keep_36 : decode b_He_keep 36 = .ok (.aload_n 0, 1) := by decide +kernel
theorem d_He_keep_37 : decode b_He_keep 37 = .ok (.dup, 1) := by decide +kernel
theorem d_He_keep_38 : decode b_He_keep 38 = .ok (.getfield 49, 3) := by decide +kernel
theorem d_He_keep_41 : decode b_He_keep 41 = .ok (.aload_n 0, 1) := by decide +kernel
theorem d_He_keep_42 : decode b_He_keep 42 = .ok (.getfield 15, 3) := by decide +kernel
theorem d_He_keep_45 : decode b_He_keep 45 = .ok (.iload_n 2, 1) := by decide +kernel
theorem d_He_keep_46 : decode b_He_keep 46 = .ok (.iaload, 1) := by decide +kernel
theorem d_He_keep_47 : decode b_He_keep 47 = .ok (.isub, 1) := by decide +kernel
theorem d_He_keep_48 : decode b_He_keep 48 = .ok (.putfield 49, 3) := by decide +kernel
theorem d_He_keep_51 : decode b_He_keep 51 = .ok (.aload_n 0, 1) := by decide +kernel
theorem d_He_keep_52 : decode b_He_keep 52 = .ok (.getfield 21, 3) := by decide +kernel
theorem d_He_keep_55 : decode b_He_keep 55 = .ok (.aload_n 0, 1) := by decide +kernel
theorem d_He_keep_56 : decode b_He_keep 56 = .ok (.getfield 36, 3) := by decide +kernel
theorem d_He_keep_59 : decode b_He_keep 59 = .ok (.aload_n 0, 1) := by decide +kernel
theorem d_He_keep_60 : decode b_He_keep 60 = .ok (.getfield 43, 3) := by decide +kernel
theorem d_He_keep_63 : decode b_He_keep 63 = .ok (.iadd, 1) := by decide +kernel
theorem d_He_keep_64 : decode b_He_keep 64 = .ok (.sipush 1536, 3) := by decide +kernel
theorem d_He_keep_67 : decode b_He_keep 67 = .ok (.irem, 1) := by decide +kernel
theorem d_He_keep_68 : decode b_He_keep 68 = .ok (.iload_n 2, 1) := by decide +kernel
theorem d_He_keep_69 : decode b_He_keep 69 = .ok (.iastore, 1) := by decide +kernel
theorem d_He_keep_70 : decode b_He_keep 70 = .ok (.aload_n 0, 1) := by decide +kernel
theorem d_He_keep_71 : decode b_He_keep 71 = .ok (.dup, 1) := by decide +kernel
theorem d_He_keep_72 : decode b_He_keep 72 = .ok (.getfield 43, 3) := by decide +kernel
theorem d_He_keep_75 : decode b_He_keep 75 = .ok (.iconst 1, 1) := by decide +kernel
theorem d_He_keep_76 : decode b_He_keep 76 = .ok (.iadd, 1) := by decide +kernel
theorem d_He_keep_77 : decode b_He_keep 77 = .ok (.putfield 43, 3) := by decide +kernel
theorem d_He_keep_80 : decode b_He_keep 80 = .ok (.aload_n 0, 1) := by decide +kernel
theorem d_He_keep_81 : decode b_He_keep 81 = .ok (.dup, 1) := by decide +kernel
theorem d_He_keep_82 : decode b_He_keep 82 = .ok (.getfield 40, 3) := by decide +kernel
theorem d_He_keep_85 : decode b_He_keep 85 = .ok (.aload_n 0, 1) := by decide +kernel
theorem d_He_keep_86 : decode b_He_keep 86 = .ok (.getfield 15, 3) := by decide +kernel
theorem d_He_keep_89 : decode b_He_keep 89 = .ok (.iload_n 2, 1) := by decide +kernel
theorem d_He_keep_90 : decode b_He_keep 90 = .ok (.iaload, 1) := by decide +kernel
theorem d_He_keep_91 : decode b_He_keep 91 = .ok (.iadd, 1) := by decide +kernel
theorem d_He_keep_92 : decode b_He_keep 92 = .ok (.putfield 40, 3) := by decide +kernel
theorem d_He_keep_95 : decode b_He_keep 95 = .ok (.aload_n 0, 1) := by decide +kernel
theorem d_He_keep_96 : decode b_He_keep 96 = .ok (.getfield 43, 3) := by decide +kernel
theorem d_He_keep_99 : decode b_He_keep 99 = .ok (.istore_n 3, 1) := by decide +kernel
theorem d_He_keep_100 : decode b_He_keep 100 = .ok (.iload_n 3, 1) := by decide +kernel
theorem d_He_keep_101 : decode b_He_keep 101 = .ok (.ifCond .le 23, 3) := by decide +kernel
theorem d_He_keep_104 : decode b_He_keep 104 = .ok (.aload_n 0, 1) := by decide +kernel
theorem d_He_keep_105 : decode b_He_keep 105 = .ok (.getfield 40, 3) := by decide +kernel
theorem d_He_keep_108 : decode b_He_keep 108 = .ok (.sipush 2048, 3) := by decide +kernel
theorem d_He_keep_111 : decode b_He_keep 111 = .ok (.if_icmp .le 13, 3) := by decide +kernel
theorem d_He_keep_114 : decode b_He_keep 114 = .ok (.aload_n 0, 1) := by decide +kernel
theorem d_He_keep_115 : decode b_He_keep 115 = .ok (.invokevirtual 64, 3) := by decide +kernel
theorem d_He_keep_118 : decode b_He_keep 118 = .ok (.iinc 3 (-1), 3) := by decide +kernel
theorem d_He_keep_121 : decode b_He_keep 121 = .ok (.goto (-21), 3) := by decide +kernel
theorem d_He_keep_124 : decode b_He_keep 124 = .ok (.aload_n 0, 1) := by decide +kernel
theorem d_He_keep_125 : decode b_He_keep 125 = .ok (.getfield 15, 3) := by decide +kernel
theorem d_He_keep_128 : decode b_He_keep 128 = .ok (.iload_n 2, 1) := by decide +kernel
theorem d_He_keep_129 : decode b_He_keep 129 = .ok (.iaload, 1) := by decide +kernel
theorem d_He_keep_130 : decode b_He_keep 130 = .ok (.ireturn, 1) := by decide +kernel
def f_He_keep_100 (a : Int32) (u : S5) : Nat → Nat → S5 → (Nat × S5)
  | 0, left, u1 => (0, u1)
  | k100 + 1, left, u1 => if left = 0 then (aN u1 1 (hu a), u1) else if (gI u1 7) ≤ 2048 then (aN u1 1 (hu a), u1) else f_He_keep_100 a u k100 (left - 1) (f_He_freeOldest u1)
def f_He_keep (a : Int32) (u : S5) : Nat × S5 := if (f_He_stateAt a u) = 1 then f_He_keep_100 a u (gN u 7 + 1 + 1) (gN u 7 + 1) (sI (sN (uN (sI (sI (uN u 2 (hu a) 2) 8 ((gI u 8) - (1 : Int32))) 9 ((gI u 9) - (nI (aN u 1 (hu a))))) 3 ((gN u 6 + (gN u 7)) % 1536) (hu a)) 7 (gN u 7 + 1)) 7 ((gI u 7) + (nI (aN u 1 (hu a))))) else (0, u)
set_option maxHeartbeats 8000000 in
set_option maxRecDepth 100000 in
theorem c_He_keep (l : Launch) (dC : Nat → ClassId) (dI : Nat → Nat → Nat) (cI : ClassId) (ad : Nat → Nat) (u : S5) (a : Int32) (h6 : gN u 6 < 1536) (h7 : gN u 7 ≤ 1999) (hO : ∀ j, j < 1536 → aN u 0 j ≤ 1536) (hT : ∀ j, j < 1536 → aN u 2 j ≤ 2) (hL : ∀ j, j < 1536 → aN u 3 j < 1536) (sz : Nat) : Met l y_He_keep w_He_keep rm_He_keep (PreW (dC, dI) classes [(cI, .int)] (wC cI ad) u sz [.ref (ad 6), .int a]) (QWi (dC, dI) classes [(cI, .int)] (wC cI ad) (va_A (wC cI ad u) sz) (nI (f_He_keep a u).1) (f_He_keep a u).2) 0 0 (va_A (wC cI ad u) sz) := by
  generalize hres : f_He_keep a u = res
  refine Met.ofW (cc := b_He_keep) (maxL := 4) (ret := (some .int)) (by decide) rfl ?_
  intro p e s m args below meth c s₁ B hml hv
  obtain ⟨rfl, rfl, hP, hK, hD0⟩ := hv
  have hx := B.exec
  have hb := B.bytes
  have hr := B.returns
  have hts : ∀ w9 ∈ ALLW, w9.before ([.ref (ad 6), .int a] : List Value).toArray s = true := fun w9 h => atoms_spec (ws := w_He_keep) B.pre w9 (List.mem_cons_of_mem _ h)
  have hown : s.vm.findClass R_He = some m.cls := findClass_of_methodNamed B.named
  have hlocks := B.notSynchronized
  have hD := hD0.self (sz := s.heap.size)
  generalize hAe : va_A (wC cI ad u) s.heap.size = A at hD ⊢
  have hA : ∀ q : Nat, s.heap.size ≤ q → A q := fun q h => by rw [← hAe]; exact Or.inr h
  have hS : va_S A s.heap s.heap [] := va_S.rf
  have hl := lv_entry ([.ref (ad 6), .int a]) (n := 4) (Nat.le_of_ble_eq_true rfl)
  rw [lg_entry_eq]
  generalize (lg_sl ([.ref (ad 6), .int a]) ++ List.replicate (4 - (lg_sl ([.ref (ad 6), .int a])).length) Slot.unset).toArray = ls at hl ⊢
  have hl : lv_has ls 4 [(0, .ref (ad 6)), (1, .int a)] := hl
  have hq := hres.symm
  skip
  have hsl := st_le a hT
  refine lv_aload_n hx hb d_He_keep_0 rfl (lv_at hl 0 rfl) ?_
  refine lv_iload_n hx hb d_He_keep_1 rfl (lv_at hl 1 rfl) ?_
  refine callWi (va_runV (As := [.int a]) (rest := []) ⟨hx, hb, hml, hown, hts⟩ (c_He_stateAt l dC dI cI ad u a s.heap.size) (cwV 1 hts (goodV m_10_39 m_11_0 m_11_1 m_0_10 m_11_2) rfl rfl rfl (by decide +kernel) ⟨Nat.le_of_ble_eq_true rfl, Nat.le_of_ble_eq_true rfl⟩) ⟨preW_blind, va_recv hK hP (ci := 6) (q0 := 6) rfl rfl, preW_ok hP hD hK⟩ rfl rfl hl.1 rfl (lv_room (Nat.le_of_ble_eq_true rfl)) d_He_keep_2 ⟨Nat.zero_le _, Nat.zero_le _⟩) hP hD hS hA (fun H locs hP hD hS => ?_)
  refine lv_iconst (v := nI 1) hx hb d_He_keep_5 (by decide) ?_
  refine rn_eq (tgt := 11) hx hb (by omega) (by omega) d_He_keep_6 (by decide) (fun c1 => ?_) (fun c1 => ?_)
  · skip
    refine lv_iload_n hx hb d_He_keep_11 rfl (lv_at hl 1 rfl) ?_
    refine lv_ldc (v := 32768) hx hb hown (hts _ m_10_21) d_He_keep_12 ?_
    refine lv_isub hx hb d_He_keep_14 ?_
    refine lv_bipush (v := 16) hx hb d_He_keep_15 (by decide) ?_
    have hin := st_in (a := a) (u := u) (by omega)
    have hub := hp_b hin.1 hin.2.1
    refine lv_idiv hx hb d_He_keep_17 (by decide) ?_
    refine rw_top (y := nI (hu a)) (hp_q hin.1 hin.2.1) ?_
    refine lv_istore_n (lv' := [(2, .int (nI (hu a))), (0, .ref (ad 6)), (1, .int a)]) hx hb d_He_keep_18 rfl hl (by decide) rfl (fun ls hl => ?_)
    refine lv_aload_n hx hb d_He_keep_19 rfl (lv_at hl 1 rfl) ?_
    refine va_get (D := (dC, dI)) (ci := 6) (v := .ref (ad 16)) (C := R_He) (T := F_He) (N := 12) hx hb hts in_He hown hK hP 6 rfl rfl 2 (by decide) (hts _ m_2_38) (fun _ h9 => h9) rfl d_He_keep_20 ?_
    refine lv_iload_n hx hb d_He_keep_23 rfl (lv_at hl 0 rfl) ?_
    refine lv_iconst (v := nI 2) hx hb d_He_keep_24 (by decide) ?_
    refine astC_state (u := u) (n := hu a) hx hb hK hP hD hS (by omega) d_He_keep_25 (fun H locs hP hD hS => ?_)
    refine lv_aload_n hx hb d_He_keep_26 rfl (lv_at hl 1 rfl) ?_
    refine lv_dup hx hb d_He_keep_27 rfl ?_
    refine va_get (D := (dC, dI)) (ci := 6) (v := .int (gI u 8)) (C := R_He) (T := F_He) (N := 12) hx hb hts in_He hown hK hP 6 rfl rfl 7 (by decide) (hts _ m_3_4) (fun _ h9 => h9) rfl d_He_keep_28 ?_
    refine lv_iconst (v := 1) hx hb d_He_keep_31 (by decide) ?_
    refine lv_isub hx hb d_He_keep_32 ?_
    refine va_put (D := (dC, dI)) (ci := 6) (v := .int ((gI u 8) - (1 : Int32))) (ty := .int) (C := R_He) (T := F_He) (N := 12) hx hb hts in_He t_He t_He_ok n_He hown hK hP hD hS 6 rfl rfl 7 (by decide) (hts _ m_3_4) (fun _ h9 => h9) rfl (by decide +kernel) rfl rfl (Nat.le_of_ble_eq_true rfl) d_He_keep_33 (fun H locs hP hD hS => ?_)
    have hP : va_P (dC, dI) classes (wC cI ad (sI (uN u 2 (hu a) 2) 8 ((gI u 8) - (1 : Int32)))) H := hP
    have hD : va_D A (wC cI ad (sI (uN u 2 (hu a) 2) 8 ((gI u 8) - (1 : Int32)))) := hD
    refine lv_aload_n hx hb d_He_keep_36 rfl (lv_at hl 1 rfl) ?_
    refine lv_dup hx hb d_He_keep_37 rfl ?_
    refine va_get (D := (dC, dI)) (ci := 6) (v := .int (gI u 9)) (C := R_He) (T := F_He) (N := 12) hx hb hts in_He hown hK hP 6 rfl rfl 8 (by decide) (hts _ m_3_7) (fun _ h9 => h9) rfl d_He_keep_38 ?_
    refine lv_aload_n hx hb d_He_keep_41 rfl (lv_at hl 1 rfl) ?_
    refine va_get (D := (dC, dI)) (ci := 6) (v := .ref (ad 15)) (C := R_He) (T := F_He) (N := 12) hx hb hts in_He hown hK hP 6 rfl rfl 1 (by decide) (hts _ m_2_37) (fun _ h9 => h9) rfl d_He_keep_42 ?_
    refine lv_iload_n hx hb d_He_keep_45 rfl (lv_at hl 0 rfl) ?_
    refine aldC_size (u := (sI (uN u 2 (hu a) 2) 8 ((gI u 8) - (1 : Int32)))) (v := aN u 1 (hu a)) hx hb hK hP (by omega) rfl d_He_keep_46 ?_
    refine lv_isub hx hb d_He_keep_47 ?_
    refine va_put (D := (dC, dI)) (ci := 6) (v := .int ((gI u 9) - (nI (aN u 1 (hu a))))) (ty := .int) (C := R_He) (T := F_He) (N := 12) hx hb hts in_He t_He t_He_ok n_He hown hK hP hD hS 6 rfl rfl 8 (by decide) (hts _ m_3_7) (fun _ h9 => h9) rfl (by decide +kernel) rfl rfl (Nat.le_of_ble_eq_true rfl) d_He_keep_48 (fun H locs hP hD hS => ?_)
    have hP : va_P (dC, dI) classes (wC cI ad (sI (sI (uN u 2 (hu a) 2) 8 ((gI u 8) - (1 : Int32))) 9 ((gI u 9) - (nI (aN u 1 (hu a)))))) H := hP
    have hD : va_D A (wC cI ad (sI (sI (uN u 2 (hu a) 2) 8 ((gI u 8) - (1 : Int32))) 9 ((gI u 9) - (nI (aN u 1 (hu a)))))) := hD
    refine lv_aload_n hx hb d_He_keep_51 rfl (lv_at hl 1 rfl) ?_
    refine va_get (D := (dC, dI)) (ci := 6) (v := .ref (ad 17)) (C := R_He) (T := F_He) (N := 12) hx hb hts in_He hown hK hP 6 rfl rfl 3 (by decide) (hts _ m_2_39) (fun _ h9 => h9) rfl d_He_keep_52 ?_
    refine lv_aload_n hx hb d_He_keep_55 rfl (lv_at hl 1 rfl) ?_
    refine va_get (D := (dC, dI)) (ci := 6) (v := .int (nI (gN u 6))) (C := R_He) (T := F_He) (N := 12) hx hb hts in_He hown hK hP 6 rfl rfl 4 (by decide) (hts _ m_3_0) (fun _ h9 => h9) rfl d_He_keep_56 ?_
    refine lv_aload_n hx hb d_He_keep_59 rfl (lv_at hl 1 rfl) ?_
    refine va_get (D := (dC, dI)) (ci := 6) (v := .int (nI (gN u 7))) (C := R_He) (T := F_He) (N := 12) hx hb hts in_He hown hK hP 6 rfl rfl 6 (by decide) (hts _ m_3_2) (fun _ h9 => h9) rfl d_He_keep_60 ?_
    refine lv_iadd hx hb d_He_keep_63 ?_
    refine rw_top (y := nI (gN u 6 + (gN u 7))) (nI_add (gN u 6) (gN u 7)) ?_
    refine lv_sipush (v := nI 1536) hx hb d_He_keep_64 (by decide) ?_
    refine lv_irem hx hb d_He_keep_67 (by decide) ?_
    refine rw_top (y := nI ((gN u 6 + (gN u 7)) % 1536)) (pk_rem (by omega) (by omega) (by omega)) ?_
    refine lv_iload_n hx hb d_He_keep_68 rfl (lv_at hl 0 rfl) ?_
    refine astC_line (u := (sI (sI (uN u 2 (hu a) 2) 8 ((gI u 8) - (1 : Int32))) 9 ((gI u 9) - (nI (aN u 1 (hu a)))))) (n := (gN u 6 + (gN u 7)) % 1536) hx hb hK hP hD hS (by omega) d_He_keep_69 (fun H locs hP hD hS => ?_)
    refine lv_aload_n hx hb d_He_keep_70 rfl (lv_at hl 1 rfl) ?_
    refine lv_dup hx hb d_He_keep_71 rfl ?_
    refine va_get (D := (dC, dI)) (ci := 6) (v := .int (nI (gN u 7))) (C := R_He) (T := F_He) (N := 12) hx hb hts in_He hown hK hP 6 rfl rfl 6 (by decide) (hts _ m_3_2) (fun _ h9 => h9) rfl d_He_keep_72 ?_
    refine lv_iconst (v := nI 1) hx hb d_He_keep_75 (by decide) ?_
    refine lv_iadd hx hb d_He_keep_76 ?_
    refine rw_top (y := nI (gN u 7 + 1)) (nI_add (gN u 7) 1) ?_
    refine va_put (D := (dC, dI)) (ci := 6) (v := .int (nI (gN u 7 + 1))) (ty := .int) (C := R_He) (T := F_He) (N := 12) hx hb hts in_He t_He t_He_ok n_He hown hK hP hD hS 6 rfl rfl 6 (by decide) (hts _ m_3_2) (fun _ h9 => h9) rfl (by decide +kernel) rfl rfl (Nat.le_of_ble_eq_true rfl) d_He_keep_77 (fun H locs hP hD hS => ?_)
    have hP : va_P (dC, dI) classes (wC cI ad (sN (uN (sI (sI (uN u 2 (hu a) 2) 8 ((gI u 8) - (1 : Int32))) 9 ((gI u 9) - (nI (aN u 1 (hu a))))) 3 ((gN u 6 + (gN u 7)) % 1536) (hu a)) 7 (gN u 7 + 1))) H := hP
    have hD : va_D A (wC cI ad (sN (uN (sI (sI (uN u 2 (hu a) 2) 8 ((gI u 8) - (1 : Int32))) 9 ((gI u 9) - (nI (aN u 1 (hu a))))) 3 ((gN u 6 + (gN u 7)) % 1536) (hu a)) 7 (gN u 7 + 1))) := hD
    refine lv_aload_n hx hb d_He_keep_80 rfl (lv_at hl 1 rfl) ?_
    refine lv_dup hx hb d_He_keep_81 rfl ?_
    refine va_get (D := (dC, dI)) (ci := 6) (v := .int (gI u 7)) (C := R_He) (T := F_He) (N := 12) hx hb hts in_He hown hK hP 6 rfl rfl 5 (by decide) (hts _ m_3_1) (fun _ h9 => h9) rfl d_He_keep_82 ?_
    refine lv_aload_n hx hb d_He_keep_85 rfl (lv_at hl 1 rfl) ?_
    refine va_get (D := (dC, dI)) (ci := 6) (v := .ref (ad 15)) (C := R_He) (T := F_He) (N := 12) hx hb hts in_He hown hK hP 6 rfl rfl 1 (by decide) (hts _ m_2_37) (fun _ h9 => h9) rfl d_He_keep_86 ?_
    refine lv_iload_n hx hb d_He_keep_89 rfl (lv_at hl 0 rfl) ?_
    refine aldC_size (u := (sN (uN (sI (sI (uN u 2 (hu a) 2) 8 ((gI u 8) - (1 : Int32))) 9 ((gI u 9) - (nI (aN u 1 (hu a))))) 3 ((gN u 6 + (gN u 7)) % 1536) (hu a)) 7 (gN u 7 + 1))) (v := aN u 1 (hu a)) hx hb hK hP (by omega) rfl d_He_keep_90 ?_
    refine lv_iadd hx hb d_He_keep_91 ?_
    refine va_put (D := (dC, dI)) (ci := 6) (v := .int ((gI u 7) + (nI (aN u 1 (hu a))))) (ty := .int) (C := R_He) (T := F_He) (N := 12) hx hb hts in_He t_He t_He_ok n_He hown hK hP hD hS 6 rfl rfl 5 (by decide) (hts _ m_3_1) (fun _ h9 => h9) rfl (by decide +kernel) rfl rfl (Nat.le_of_ble_eq_true rfl) d_He_keep_92 (fun H locs hP hD hS => ?_)
    have hP : va_P (dC, dI) classes (wC cI ad (sI (sN (uN (sI (sI (uN u 2 (hu a) 2) 8 ((gI u 8) - (1 : Int32))) 9 ((gI u 9) - (nI (aN u 1 (hu a))))) 3 ((gN u 6 + (gN u 7)) % 1536) (hu a)) 7 (gN u 7 + 1)) 7 ((gI u 7) + (nI (aN u 1 (hu a)))))) H := hP
    have hD : va_D A (wC cI ad (sI (sN (uN (sI (sI (uN u 2 (hu a) 2) 8 ((gI u 8) - (1 : Int32))) 9 ((gI u 9) - (nI (aN u 1 (hu a))))) 3 ((gN u 6 + (gN u 7)) % 1536) (hu a)) 7 (gN u 7 + 1)) 7 ((gI u 7) + (nI (aN u 1 (hu a)))))) := hD
    refine lv_aload_n hx hb d_He_keep_95 rfl (lv_at hl 1 rfl) ?_
    refine va_get (D := (dC, dI)) (ci := 6) (v := .int (nI (gN u 7 + 1))) (C := R_He) (T := F_He) (N := 12) hx hb hts in_He hown hK hP 6 rfl rfl 6 (by decide) (hts _ m_3_2) (fun _ h9 => h9) rfl d_He_keep_96 ?_
    refine lv_istore_n (lv' := [(3, .int (nI (gN u 7 + 1))), (2, .int (nI (hu a))), (0, .ref (ad 6)), (1, .int a)]) hx hb d_He_keep_99 rfl hl (by decide) rfl (fun ls hl => ?_)
    have L100 : ∀ (k : Nat) (left : Nat) (u1 : S5) (H : Heap) (locs : List Loc) (ls : Array Slot), (left ≤ gN u1 7) → (gN u1 6 < 1536) → (gN u1 7 ≤ 2000) → (∀ j, j < 1536 → aN u1 0 j ≤ 1536) → (∀ j, j < 1536 → aN u1 3 j < 1536) → left < k → res = f_He_keep_100 a u k left u1 → va_P (dC, dI) classes (wC cI ad u1) H → va_D A (wC cI ad u1) → va_S A s.heap H locs → lv_has ls 4 [(3, .int (nI left)), (2, .int (nI (hu a))), (0, .ref (ad 6)), (1, .int a)] → W p l e (headSpec w_He_keep rm_He_keep).room s m ([.ref (ad 6), .int a] : List Value).toArray below meth c H locs 0 0 (MQ below (QWi (dC, dI) classes [(cI, .int)] (wC cI ad) A (nI res.1) res.2) ([.ref (ad 6), .int a] : List Value).toArray s 0 0 A) (F0 m 100 ls []) := by
      intro k
      induction k with
      | zero => intro left u1 H locs ls hlf k6 k7 hO1 hL1 hm; exact absurd hm (Nat.not_lt_zero _)
      | succ k100 ih100 =>
        intro left u1 H locs ls hlf k6 k7 hO1 hL1 hm hq100 hP hD hS hl
        refine lv_iload_n hx hb d_He_keep_100 rfl (lv_at hl 0 rfl) ?_
        refine rz_le (tgt := 124) hx hb (by omega) d_He_keep_101 (by decide) (fun c2 => ?_) (fun c2 => ?_)
        · skip
          refine lv_aload_n hx hb d_He_keep_124 rfl (lv_at hl 2 rfl) ?_
          refine va_get (D := (dC, dI)) (ci := 6) (v := .ref (ad 15)) (C := R_He) (T := F_He) (N := 12) hx hb hts in_He hown hK hP 6 rfl rfl 1 (by decide) (hts _ m_2_37) (fun _ h9 => h9) rfl d_He_keep_125 ?_
          refine lv_iload_n hx hb d_He_keep_128 rfl (lv_at hl 1 rfl) ?_
          refine aldC_size (u := u1) (v := aN u1 1 (hu a)) hx hb hK hP (by omega) rfl d_He_keep_129 ?_
          have hE : res = (aN u1 1 (hu a), u1) := hq100.trans ((if_pos c2).trans rfl)
          exact retWn (x := aN u1 1 (hu a)) hx hb hr hP hK hD hS (congrArg Prod.fst hE).symm (congrArg Prod.snd hE).symm d_He_keep_130 hlocks
        · skip
          refine lv_aload_n hx hb d_He_keep_104 rfl (lv_at hl 2 rfl) ?_
          refine va_get (D := (dC, dI)) (ci := 6) (v := .int (gI u1 7)) (C := R_He) (T := F_He) (N := 12) hx hb hts in_He hown hK hP 6 rfl rfl 5 (by decide) (hts _ m_3_1) (fun _ h9 => h9) rfl d_He_keep_105 ?_
          refine lv_sipush (v := 2048) hx hb d_He_keep_108 (by decide) ?_
          refine lv_icmp_le (tgt := 124) hx hb d_He_keep_111 (by decide) (fun c3 => ?_) (fun c3 => ?_)
          · skip
            refine lv_aload_n hx hb d_He_keep_124 rfl (lv_at hl 2 rfl) ?_
            refine va_get (D := (dC, dI)) (ci := 6) (v := .ref (ad 15)) (C := R_He) (T := F_He) (N := 12) hx hb hts in_He hown hK hP 6 rfl rfl 1 (by decide) (hts _ m_2_37) (fun _ h9 => h9) rfl d_He_keep_125 ?_
            refine lv_iload_n hx hb d_He_keep_128 rfl (lv_at hl 1 rfl) ?_
            refine aldC_size (u := u1) (v := aN u1 1 (hu a)) hx hb hK hP (by omega) rfl d_He_keep_129 ?_
            have hE : res = (aN u1 1 (hu a), u1) := hq100.trans ((if_neg (by omega)).trans ((if_pos c3).trans rfl))
            exact retWn (x := aN u1 1 (hu a)) hx hb hr hP hK hD hS (congrArg Prod.fst hE).symm (congrArg Prod.snd hE).symm d_He_keep_130 hlocks
          · skip
            refine lv_aload_n hx hb d_He_keep_114 rfl (lv_at hl 2 rfl) ?_
            refine callWv (va_runV (As := []) (rest := []) ⟨hx, hb, hml, hown, hts⟩ (c_He_freeOldest l dC dI cI ad u1 (by first | assumption | omega) (by first | assumption | omega) (by first | assumption | omega) (by first | assumption | omega) (by first | assumption | omega) H.size) (cwV 0 hts (goodV m_12_4 m_12_5 m_19_14 m_0_10 m_12_6) rfl rfl rfl (by decide +kernel) ⟨Nat.le_of_ble_eq_true rfl, Nat.le_of_ble_eq_true rfl⟩) ⟨preW_blind, va_recv hK hP (ci := 6) (q0 := 6) rfl rfl, preW_ok hP hD hK⟩ rfl rfl hl.1 rfl (lv_room (Nat.le_of_ble_eq_true rfl)) d_He_keep_115 ⟨Nat.zero_le _, Nat.zero_le _⟩) hP hD hS hA (fun H locs hP hD hS => ?_)
            refine lv_iinc (v := nI (left - 1)) (lv' := [(3, .int (nI (left - 1))), (2, .int (nI (hu a))), (0, .ref (ad 6)), (1, .int a)]) hx hb d_He_keep_118 hl (k := 0) rfl (rn_dec left 1 (by decide) (by omega)) (by decide) rfl (fun ls hl => ?_)
            refine lv_goto (tgt := 100) hx hb d_He_keep_121 (by decide) ?_
            exact ih100 (left - 1) (f_He_freeOldest u1) _ _ _ (by rw [fo_7]; omega) (by rw [fo_6]; omega) (by rw [fo_7]; omega) (fo_O _ hO1) (by rw [fo_3]; exact hL1) (by omega) (hq100.trans ((if_neg (by omega)).trans ((if_neg c3).trans rfl))) hP hD hS (lv_sub hl [0, 1, 2, 3] rfl)
    exact L100 (gN u 7 + 1 + 1) (gN u 7 + 1) (sI (sN (uN (sI (sI (uN u 2 (hu a) 2) 8 ((gI u 8) - (1 : Int32))) 9 ((gI u 9) - (nI (aN u 1 (hu a))))) 3 ((gN u 6 + (gN u 7)) % 1536) (hu a)) 7 (gN u 7 + 1)) 7 ((gI u 7) + (nI (aN u 1 (hu a))))) _ _ _ (Nat.le_refl _) h6 (show gN u 7 + 1 ≤ 2000 by omega) hO (by intro q hq; show va_up (aN u 3) _ _ q < 1536; unfold va_up; split; exact hub; exact hL q hq) (by omega) (hq.trans ((if_pos c1).trans rfl)) hP hD hS (lv_sub hl [0, 1, 2, 3] rfl)
  · skip
    refine lv_iconst (v := nI 0) hx hb d_He_keep_9 (by decide) ?_
    have hE : res = (0, u) := hq.trans ((if_neg c1).trans rfl)
    exact retWn (x := 0) hx hb hr hP hK hD hS (congrArg Prod.fst hE).symm (congrArg Prod.snd hE).symm d_He_keep_10 hlocks
def w_He_forgetFound : List Cond := .code y_He_forgetFound b_He_forgetFound 1 none :: ALLW
def rm_He_forgetFound : Room := { frames := 21, cells := 0, slots := 0, locals := 623 }
theorem d_He_forgetFound_0 : decode b_He_forgetFound 0 = .ok (.aload_n 0, 1) := by decide +kernel
theorem d_He_forgetFound_1 : decode b_He_forgetFound 1 = .ok (.getfield 24, 3) := by decide +kernel
theorem d_He_forgetFound_4 : decode b_He_forgetFound 4 = .ok (.iconst 0, 1) := by decide +kernel
theorem d_He_forgetFound_5 : decode b_He_forgetFound 5 = .ok (.invokestatic 30, 3) := by decide +kernel
theorem d_He_forgetFound_8 : decode b_He_forgetFound 8 = .ok (.aload_n 0, 1) := by decide +kernel
theorem d_He_forgetFound_9 : decode b_He_forgetFound 9 = .ok (.iconst 0, 1) := by decide +kernel
theorem d_He_forgetFound_10 : decode b_He_forgetFound 10 = .ok (.putfield 67, 3) := by decide +kernel
theorem d_He_forgetFound_13 : decode b_He_forgetFound 13 = .ok (.return_, 1) := by decide +kernel
def f_He_forgetFound (u : S5) : S5 := sN (fN u 4 0 1536 0) 8 0
set_option maxHeartbeats 8000000 in
set_option maxRecDepth 100000 in
theorem c_He_forgetFound (l : Launch) (dC : Nat → ClassId) (dI : Nat → Nat → Nat) (cI : ClassId) (ad : Nat → Nat) (u : S5) (sz : Nat) : Met l y_He_forgetFound w_He_forgetFound rm_He_forgetFound (PreW (dC, dI) classes [(cI, .int)] (wC cI ad) u sz [.ref (ad 6)]) (QWv (dC, dI) classes [(cI, .int)] (wC cI ad) (va_A (wC cI ad u) sz) (f_He_forgetFound u)) 0 0 (va_A (wC cI ad u) sz) := by
  generalize hres : f_He_forgetFound u = res
  refine Met.ofW (cc := b_He_forgetFound) (maxL := 1) (ret := none) (by decide) rfl ?_
  intro p e s m args below meth c s₁ B hml hv
  obtain ⟨rfl, rfl, hP, hK, hD0⟩ := hv
  have hx := B.exec
  have hb := B.bytes
  have hr := B.returns
  have hts : ∀ w9 ∈ ALLW, w9.before ([.ref (ad 6)] : List Value).toArray s = true := fun w9 h => atoms_spec (ws := w_He_forgetFound) B.pre w9 (List.mem_cons_of_mem _ h)
  have hown : s.vm.findClass R_He = some m.cls := findClass_of_methodNamed B.named
  have hlocks := B.notSynchronized
  have hD := hD0.self (sz := s.heap.size)
  generalize hAe : va_A (wC cI ad u) s.heap.size = A at hD ⊢
  have hA : ∀ q : Nat, s.heap.size ≤ q → A q := fun q h => by rw [← hAe]; exact Or.inr h
  have hS : va_S A s.heap s.heap [] := va_S.rf
  have hl := lv_entry ([.ref (ad 6)]) (n := 1) (Nat.le_of_ble_eq_true rfl)
  rw [lg_entry_eq]
  generalize (lg_sl ([.ref (ad 6)]) ++ List.replicate (1 - (lg_sl ([.ref (ad 6)])).length) Slot.unset).toArray = ls at hl ⊢
  have hl : lv_has ls 1 [(0, .ref (ad 6))] := hl
  have hq := hres.symm
  skip
  refine lv_aload_n hx hb d_He_forgetFound_0 rfl (lv_at hl 0 rfl) ?_
  refine va_get (D := (dC, dI)) (ci := 6) (v := .ref (ad 18)) (C := R_He) (T := F_He) (N := 12) hx hb hts in_He hown hK hP 6 rfl rfl 9 (by decide) (hts _ m_3_9) (fun _ h9 => h9) rfl d_He_forgetFound_1 ?_
  refine lv_iconst (v := nI 0) hx hb d_He_forgetFound_4 (by decide) ?_
  refine callZv (va_runS (As := [.ref (ad 18), .int (nI 0)]) (rest := []) ⟨hx, hb, hml, hown, hts⟩ (c_Ar_fill1 l (dC, dI) classes [(cI, .int)] cI 0 rfl (wC cI ad u) 18 (ad 18) 1536 (fun j => nI (aN u 4 j)) rfl (by decide) (nI 0) s.heap.size) (va_cwS 2 hts (goodS m_5_22 m_0_36 m_0_4 m_0_37) rfl rfl rfl (by decide +kernel) ⟨Nat.le_of_ble_eq_true rfl, Nat.le_of_ble_eq_true rfl⟩) ⟨preZ_blind, preZ_ok hP hD hK⟩ rfl rfl hl.1 rfl (lv_room (Nat.le_of_ble_eq_true rfl)) d_He_forgetFound_5 ⟨Nat.zero_le _, Nat.zero_le _⟩) hP hD hS hA (fun H locs hP hD hS => ?_)
  rw [fillI_nI] at hP hD
  have hP : va_P (dC, dI) classes (wC cI ad (fN u 4 0 1536 0)) H := hP
  have hD : va_D A (wC cI ad (fN u 4 0 1536 0)) := hD
  refine lv_aload_n hx hb d_He_forgetFound_8 rfl (lv_at hl 0 rfl) ?_
  refine lv_iconst (v := nI 0) hx hb d_He_forgetFound_9 (by decide) ?_
  refine va_put (D := (dC, dI)) (ci := 6) (v := .int (nI 0)) (ty := .int) (C := R_He) (T := F_He) (N := 12) hx hb hts in_He t_He t_He_ok n_He hown hK hP hD hS 6 rfl rfl 11 (by decide) (hts _ m_3_13) (fun _ h9 => h9) rfl (by decide +kernel) rfl rfl (Nat.le_of_ble_eq_true rfl) d_He_forgetFound_10 (fun H locs hP hD hS => ?_)
  have hP : va_P (dC, dI) classes (wC cI ad (sN (fN u 4 0 1536 0) 8 0)) H := hP
  have hD : va_D A (wC cI ad (sN (fN u 4 0 1536 0) 8 0)) := hD
  have hE : res = sN (fN u 4 0 1536 0) 8 0 := hq.trans (rfl)
  exact retWv hx hb hr hP hK hD hS hE.symm d_He_forgetFound_13 hlocks
def w_He_find : List Cond := .code y_He_find b_He_find 4 none :: ALLW
def rm_He_find : Room := { frames := 20, cells := 0, slots := 0, locals := 600 }
theorem d_He_find_0 : decode b_He_find 0 = .ok (.iload_n 1, 1) := by decide +kernel
theorem d_He_find_1 : decode b_He_find 1 = .ok (.ldc 59, 2) := by decide +kernel
theorem d_He_find_3 : decode b_He_find 3 = .ok (.if_icmp .lt 9, 3) := by decide +kernel
theorem d_He_find_6 : decode b_He_find 6 = .ok (.iload_n 1, 1) := by decide +kernel
theorem d_He_find_7 : decode b_He_find 7 = .ok (.ldc 60, 2) := by decide +kernel
theorem d_He_find_9 : decode b_He_find 9 = .ok (.if_icmp .lt 4, 3) := by decide +kernel
theorem d_He_find_12 : decode b_He_find 12 = .ok (.return_, 1) := by decide +kernel
theorem d_He_find_13 : decode b_He_find 13 = .ok (.aload_n 0, 1) := by decide +kernel
theorem d_He_find_14 : decode b_He_find 14 = .ok (.getfield 11, 3) := by decide +kernel
theorem d_He_find_17 : decode b_He_find 17 = .ok (.iload_n 1, 1) := by decide +kernel
theorem d_He_find_18 : decode b_He_find 18 = .ok (.ldc 59, 2) := by decide +kernel
theorem d_He_find_20 : decode b_He_find 20 = .ok (.isub, 1) := by decide +kernel
theorem d_He_find_21 : decode b_He_find 21 = .ok (.bipush 16, 2) := by decide +kernel
theorem d_He_find_23 : decode b_He_find 23 = .ok (.idiv, 1) := by decide +kernel
theorem d_He_find_24 : decode b_He_find 24 = .ok (.iaload, 1) := by decide +kernel
theorem d_He_find_25 : decode b_He_find 25 = .ok (.iconst 1, 1) := by decide +kernel
theorem d_He_find_26 : decode b_He_find 26 = .ok (.isub, 1) := by decide +kernel
theorem d_He_find_27 : decode b_He_find 27 = .ok (.istore_n 2, 1) := by decide +kernel
theorem d_He_find_28 : decode b_He_find 28 = .ok (.iload_n 2, 1) := by decide +kernel
theorem d_He_find_29 : decode b_He_find 29 = .ok (.ifCond .lt 22, 3) := by decide +kernel
theorem d_He_find_32 : decode b_He_find 32 = .ok (.aload_n 0, 1) := by decide +kernel
theorem d_He_find_33 : decode b_He_find 33 = .ok (.getfield 18, 3) := by decide +kernel
theorem d_He_find_36 : decode b_He_find 36 = .ok (.iload_n 2, 1) := by decide +kernel
theorem d_He_find_37 : decode b_He_find 37 = .ok (.iaload, 1) := by decide +kernel
theorem d_He_find_38 : decode b_He_find 38 = .ok (.iconst 1, 1) := by decide +kernel
theorem d_He_find_39 : decode b_He_find 39 = .ok (.if_icmp .ne 12, 3) := by decide +kernel
theorem d_He_find_42 : decode b_He_find 42 = .ok (.aload_n 0, 1) := by decide +kernel
theorem d_He_find_43 : decode b_He_find 43 = .ok (.getfield 24, 3) := by decide +kernel
theorem d_He_find_46 : decode b_He_find 46 = .ok (.iload_n 2, 1) := by decide +kernel
theorem d_He_find_47 : decode b_He_find 47 = .ok (.iaload, 1) := by decide +kernel
theorem d_He_find_48 : decode b_He_find 48 = .ok (.ifCond .eq 4, 3) := by decide +kernel
theorem d_He_find_51 : decode b_He_find 51 = .ok (.return_, 1) := by decide +kernel
theorem d_He_find_52 : decode b_He_find 52 = .ok (.iload_n 1, 1) := by decide +kernel
theorem d_He_find_53 : decode b_He_find 53 = .ok (.ldc 59, 2) := by decide +kernel
theorem d_He_find_55 : decode b_He_find 55 = .ok (.isub, 1) := by decide +kernel
theorem d_He_find_56 : decode b_He_find 56 = .ok (.iload_n 2, 1) := by decide +kernel
theorem d_He_find_57 : decode b_He_find 57 = .ok (.bipush 16, 2) := by decide +kernel
theorem d_He_find_59 : decode b_He_find 59 = .ok (.imul, 1) := by decide +kernel
theorem d_He_find_60 : decode b_He_find 60 = .ok (.isub, 1) := by decide +kernel
theorem d_He_find_61 : decode b_He_find 61 = .ok (.istore_n 3, 1) := by decide +kernel
theorem d_He_find_62 : decode b_He_find 62 = .ok (.iload_n 3, 1) := by decide +kernel
theorem d_He_find_63 : decode b_He_find 63 = .ok (.aload_n 0, 1) := by decide +kernel
theorem d_He_find_64 : decode b_He_find 64 = .ok (.getfield 15, 3) := by decide +kernel
theorem d_He_find_67 : decode b_He_find 67 = .ok (.iload_n 2, 1) := by decide +kernel
theorem d_He_find_68 : decode b_He_find 68 = .ok (.iaload, 1) := by decide +kernel
theorem d_He_find_69 : decode b_He_find 69 = .ok (.if_icmp .lt 7, 3) := by decide +kernel
theorem d_He_find_72 : decode b_He_find 72 = .ok (.iload_n 3, 1) := by decide +kernel
theorem d_He_find_73 : decode b_He_find 73 = .ok (.ifCond .ne 36, 3) := by decide +kernel
theorem d_He_find_76 : decode b_He_find 76 = .ok (.aload_n 0, 1) := by decide +kernel
theorem d_He_find_77 : decode b_He_find 77 = .ok (.getfield 24, 3) := by decide +kernel
theorem d_He_find_80 : decode b_He_find 80 = .ok (.iload_n 2, 1) := by decide +kernel
theorem d_He_find_81 : decode b_He_find 81 = .ok (.iconst 1, 1) := by decide +kernel
theorem d_He_find_82 : decode b_He_find 82 = .ok (.iastore, 1) := by decide +kernel
theorem d_He_find_83 : decode b_He_find 83 = .ok (.aload_n 0, 1) := by decide +kernel
theorem d_He_find_84 : decode b_He_find 84 = .ok (.getfield 27, 3) := by decide +kernel
theorem d_He_find_87 : decode b_He_find 87 = .ok (.aload_n 0, 1) := by decide +kernel
theorem d_He_find_88 : decode b_He_find 88 = .ok (.getfield 67, 3) := by decide +kernel
theorem d_He_find_91 : decode b_He_find 91 = .ok (.ldc 59, 2) := by decide +kernel
theorem d_He_find_93 : decode b_He_find 93 = .ok (.iload_n 2, 1) := by decide +kernel
theorem d_He_find_94 : decode b_He_find 94 = .ok (.bipush 16, 2) := by decide +kernel
theorem d_He_find_96 : decode b_He_find 96 = .ok (.imul, 1) := by decide +kernel
theorem d_He_find_97 : decode b_He_find 97 = .ok (.iadd, 1) := by decide +kernel
theorem d_He_find_98 : decode b_He_find 98 = .ok (.iastore, 1) := by decide +kernel
theorem d_He_find_99 : decode b_He_find 99 = .ok (.aload_n 0, 1) := by decide +kernel
theorem d_He_find_100 : decode b_He_find 100 = .ok (.dup, 1) := by decide +kernel
theorem d_He_find_101 : decode b_He_find 101 = .ok (.getfield 67, 3) := by decide +kernel
theorem d_He_find_104 : decode b_He_find 104 = .ok (.iconst 1, 1) := by decide +kernel
theorem d_He_find_105 : decode b_He_find 105 = .ok (.iadd, 1) := by decide +kernel
theorem d_He_find_106 : decode b_He_find 106 = .ok (.putfield 67, 3) := by decide +kernel
theorem d_He_find_109 : decode b_He_find 109 = .ok (.return_, 1) := by decide +kernel
def f_He_find (a : Int32) (u : S5) : S5 := if a < 32768 then u else if a < 57344 then (if ((nI (aN u 0 (hu a))) - (1 : Int32)) < 0 then u else if (aN u 2 (aN u 0 (hu a) - 1)) = 1 then (if (aN u 4 (aN u 0 (hu a) - 1)) = 0 then (if ((a - (32768 : Int32)) - (nI ((aN u 0 (hu a) - 1) * 16))) < (nI (aN u 1 (aN u 0 (hu a) - 1))) then sN (uN (uN u 4 (aN u 0 (hu a) - 1) 1) 5 (gN u 8) (32768 + ((aN u 0 (hu a) - 1) * 16))) 8 (gN u 8 + 1) else if ((a - (32768 : Int32)) - (nI ((aN u 0 (hu a) - 1) * 16))) = 0 then sN (uN (uN u 4 (aN u 0 (hu a) - 1) 1) 5 (gN u 8) (32768 + ((aN u 0 (hu a) - 1) * 16))) 8 (gN u 8 + 1) else u) else u) else u) else u
set_option maxHeartbeats 8000000 in
set_option maxRecDepth 100000 in
theorem c_He_find (l : Launch) (dC : Nat → ClassId) (dI : Nat → Nat → Nat) (cI : ClassId) (ad : Nat → Nat) (u : S5) (a : Int32) (okb : OkB u) (okf : OkF u) (sz : Nat) : Met l y_He_find w_He_find rm_He_find (PreW (dC, dI) classes [(cI, .int)] (wC cI ad) u sz [.ref (ad 6), .int a]) (QWv (dC, dI) classes [(cI, .int)] (wC cI ad) (va_A (wC cI ad u) sz) (f_He_find a u)) 0 0 (va_A (wC cI ad u) sz) := by
  generalize hres : f_He_find a u = res
  refine Met.ofW (cc := b_He_find) (maxL := 4) (ret := none) (by decide) rfl ?_
  intro p e s m args below meth c s₁ B hml hv
  obtain ⟨rfl, rfl, hP, hK, hD0⟩ := hv
  have hx := B.exec
  have hb := B.bytes
  have hr := B.returns
  have hts : ∀ w9 ∈ ALLW, w9.before ([.ref (ad 6), .int a] : List Value).toArray s = true := fun w9 h => atoms_spec (ws := w_He_find) B.pre w9 (List.mem_cons_of_mem _ h)
  have hown : s.vm.findClass R_He = some m.cls := findClass_of_methodNamed B.named
  have hlocks := B.notSynchronized
  have hD := hD0.self (sz := s.heap.size)
  generalize hAe : va_A (wC cI ad u) s.heap.size = A at hD ⊢
  have hA : ∀ q : Nat, s.heap.size ≤ q → A q := fun q h => by rw [← hAe]; exact Or.inr h
  have hS : va_S A s.heap s.heap [] := va_S.rf
  have hl := lv_entry ([.ref (ad 6), .int a]) (n := 4) (Nat.le_of_ble_eq_true rfl)
  rw [lg_entry_eq]
  generalize (lg_sl ([.ref (ad 6), .int a]) ++ List.replicate (4 - (lg_sl ([.ref (ad 6), .int a])).length) Slot.unset).toArray = ls at hl ⊢
  have hl : lv_has ls 4 [(0, .ref (ad 6)), (1, .int a)] := hl
  have hq := hres.symm
  skip
  obtain ⟨hO, hT, hSz⟩ := id okb
  obtain ⟨hF, hC, hG⟩ := id okf
  refine lv_iload_n hx hb d_He_find_0 rfl (lv_at hl 1 rfl) ?_
  refine lv_ldc (v := 32768) hx hb hown (hts _ m_10_21) d_He_find_1 ?_
  refine lv_icmp_lt (tgt := 12) hx hb d_He_find_3 (by decide) (fun c1 => ?_) (fun c1 => ?_)
  · skip
    have hE : res = u := hq.trans ((if_pos c1).trans rfl)
    exact retWv hx hb hr hP hK hD hS hE.symm d_He_find_12 hlocks
  · skip
    refine lv_iload_n hx hb d_He_find_6 rfl (lv_at hl 1 rfl) ?_
    refine lv_ldc (v := 57344) hx hb hown (hts _ m_10_22) d_He_find_7 ?_
    refine lv_icmp_lt (tgt := 13) hx hb d_He_find_9 (by decide) (fun c2 => ?_) (fun c2 => ?_)
    · skip
      refine lv_aload_n hx hb d_He_find_13 rfl (lv_at hl 0 rfl) ?_
      refine va_get (D := (dC, dI)) (ci := 6) (v := .ref (ad 14)) (C := R_He) (T := F_He) (N := 12) hx hb hts in_He hown hK hP 6 rfl rfl 0 (by decide) (hts _ m_2_36) (fun _ h9 => h9) rfl d_He_find_14 ?_
      refine lv_iload_n hx hb d_He_find_17 rfl (lv_at hl 1 rfl) ?_
      refine lv_ldc (v := 32768) hx hb hown (hts _ m_10_21) d_He_find_18 ?_
      refine lv_isub hx hb d_He_find_20 ?_
      refine lv_bipush (v := 16) hx hb d_He_find_21 (by decide) ?_
      refine lv_idiv hx hb d_He_find_23 (by decide) ?_
      refine rw_top (y := nI (hu a)) (hp_q c1 (Int32.not_le.mpr c2)) ?_
      have hub := hp_b c1 (Int32.not_le.mpr c2)
      have hob := hO _ hub
      refine aldC_owner (u := u) (v := aN u 0 (hu a)) hx hb hK hP (by omega) rfl d_He_find_24 ?_
      refine lv_iconst (v := 1) hx hb d_He_find_25 (by decide) ?_
      refine lv_isub hx hb d_He_find_26 ?_
      refine lv_istore_n (lv' := [(2, .int ((nI (aN u 0 (hu a))) - (1 : Int32))), (0, .ref (ad 6)), (1, .int a)]) hx hb d_He_find_27 rfl hl (by decide) rfl (fun ls hl => ?_)
      refine lv_iload_n hx hb d_He_find_28 rfl (lv_at hl 0 rfl) ?_
      refine lv_if_lt (tgt := 51) hx hb d_He_find_29 (by decide) (fun c3 => ?_) (fun c3 => ?_)
      · skip
        have hE : res = u := hq.trans ((if_neg c1).trans ((if_pos c2).trans ((if_pos c3).trans rfl)))
        exact retWv hx hb hr hP hK hD hS hE.symm d_He_find_51 hlocks
      · skip
        have ho1 : 1 ≤ aN u 0 (hu a) := Nat.pos_of_ne_zero (fun q => c3 ((fd_n hob).mpr q))
        refine lv_aload_n hx hb d_He_find_32 rfl (lv_at hl 1 rfl) ?_
        refine va_get (D := (dC, dI)) (ci := 6) (v := .ref (ad 16)) (C := R_He) (T := F_He) (N := 12) hx hb hts in_He hown hK hP 6 rfl rfl 2 (by decide) (hts _ m_2_38) (fun _ h9 => h9) rfl d_He_find_33 ?_
        refine lv_iload_n hx hb d_He_find_36 rfl (lv_at hl 0 rfl) ?_
        refine rw_top (y := nI (aN u 0 (hu a) - 1)) (fd_s ho1) ?_
        refine aldC_state (u := u) (v := aN u 2 (aN u 0 (hu a) - 1)) hx hb hK hP (by omega) rfl d_He_find_37 ?_
        refine lv_iconst (v := nI 1) hx hb d_He_find_38 (by decide) ?_
        have htb := hT (aN u 0 (hu a) - 1) (by omega)
        refine rn_ne (tgt := 51) hx hb (by omega) (by omega) d_He_find_39 (by decide) (fun c4 => ?_) (fun c4 => ?_)
        · skip
          have hE : res = u := hq.trans ((if_neg c1).trans ((if_pos c2).trans ((if_neg c3).trans ((if_neg c4).trans rfl))))
          exact retWv hx hb hr hP hK hD hS hE.symm d_He_find_51 hlocks
        · skip
          refine lv_aload_n hx hb d_He_find_42 rfl (lv_at hl 1 rfl) ?_
          refine va_get (D := (dC, dI)) (ci := 6) (v := .ref (ad 18)) (C := R_He) (T := F_He) (N := 12) hx hb hts in_He hown hK hP 6 rfl rfl 9 (by decide) (hts _ m_3_9) (fun _ h9 => h9) rfl d_He_find_43 ?_
          refine lv_iload_n hx hb d_He_find_46 rfl (lv_at hl 0 rfl) ?_
          refine rw_top (y := nI (aN u 0 (hu a) - 1)) (fd_s ho1) ?_
          refine aldC_isFound (u := u) (v := aN u 4 (aN u 0 (hu a) - 1)) hx hb hK hP (by omega) rfl d_He_find_47 ?_
          have hfb := hF (aN u 0 (hu a) - 1) (by omega)
          refine rz_eq (tgt := 52) hx hb (by omega) d_He_find_48 (by decide) (fun c5 => ?_) (fun c5 => ?_)
          · skip
            refine lv_iload_n hx hb d_He_find_52 rfl (lv_at hl 2 rfl) ?_
            refine lv_ldc (v := 32768) hx hb hown (hts _ m_10_21) d_He_find_53 ?_
            refine lv_isub hx hb d_He_find_55 ?_
            refine lv_iload_n hx hb d_He_find_56 rfl (lv_at hl 0 rfl) ?_
            refine rw_top (y := nI (aN u 0 (hu a) - 1)) (fd_s ho1) ?_
            refine lv_bipush (v := nI 16) hx hb d_He_find_57 (by decide) ?_
            refine lv_imul hx hb d_He_find_59 ?_
            refine rw_top (y := nI ((aN u 0 (hu a) - 1) * 16)) (pk_mul (aN u 0 (hu a) - 1) 16) ?_
            refine lv_isub hx hb d_He_find_60 ?_
            refine lv_istore_n (lv' := [(3, .int ((a - (32768 : Int32)) - (nI ((aN u 0 (hu a) - 1) * 16)))), (2, .int ((nI (aN u 0 (hu a))) - (1 : Int32))), (0, .ref (ad 6)), (1, .int a)]) hx hb d_He_find_61 rfl hl (by decide) rfl (fun ls hl => ?_)
            refine lv_iload_n hx hb d_He_find_62 rfl (lv_at hl 0 rfl) ?_
            refine lv_aload_n hx hb d_He_find_63 rfl (lv_at hl 2 rfl) ?_
            refine va_get (D := (dC, dI)) (ci := 6) (v := .ref (ad 15)) (C := R_He) (T := F_He) (N := 12) hx hb hts in_He hown hK hP 6 rfl rfl 1 (by decide) (hts _ m_2_37) (fun _ h9 => h9) rfl d_He_find_64 ?_
            refine lv_iload_n hx hb d_He_find_67 rfl (lv_at hl 1 rfl) ?_
            refine rw_top (y := nI (aN u 0 (hu a) - 1)) (fd_s ho1) ?_
            refine aldC_size (u := u) (v := aN u 1 (aN u 0 (hu a) - 1)) hx hb hK hP (by omega) rfl d_He_find_68 ?_
            refine lv_icmp_lt (tgt := 76) hx hb d_He_find_69 (by decide) (fun c6 => ?_) (fun c6 => ?_)
            · skip
              have h8b : gN u 8 < 1536 := Nat.lt_of_le_of_lt hC (cnt_lt 1536 (aN u 0 (hu a) - 1) (by omega) (by assumption))
              refine lv_aload_n hx hb d_He_find_76 rfl (lv_at hl 2 rfl) ?_
              refine va_get (D := (dC, dI)) (ci := 6) (v := .ref (ad 18)) (C := R_He) (T := F_He) (N := 12) hx hb hts in_He hown hK hP 6 rfl rfl 9 (by decide) (hts _ m_3_9) (fun _ h9 => h9) rfl d_He_find_77 ?_
              refine lv_iload_n hx hb d_He_find_80 rfl (lv_at hl 1 rfl) ?_
              refine rw_top (y := nI (aN u 0 (hu a) - 1)) (fd_s ho1) ?_
              refine lv_iconst (v := nI 1) hx hb d_He_find_81 (by decide) ?_
              refine astC_isFound (u := u) (n := aN u 0 (hu a) - 1) hx hb hK hP hD hS (by omega) d_He_find_82 (fun H locs hP hD hS => ?_)
              refine lv_aload_n hx hb d_He_find_83 rfl (lv_at hl 2 rfl) ?_
              refine va_get (D := (dC, dI)) (ci := 6) (v := .ref (ad 19)) (C := R_He) (T := F_He) (N := 12) hx hb hts in_He hown hK hP 6 rfl rfl 10 (by decide) (hts _ m_3_10) (fun _ h9 => h9) rfl d_He_find_84 ?_
              refine lv_aload_n hx hb d_He_find_87 rfl (lv_at hl 2 rfl) ?_
              refine va_get (D := (dC, dI)) (ci := 6) (v := .int (nI (gN u 8))) (C := R_He) (T := F_He) (N := 12) hx hb hts in_He hown hK hP 6 rfl rfl 11 (by decide) (hts _ m_3_13) (fun _ h9 => h9) rfl d_He_find_88 ?_
              refine lv_ldc (v := 32768) hx hb hown (hts _ m_10_21) d_He_find_91 ?_
              refine rw_top (y := nI 32768) (by decide) ?_
              refine lv_iload_n hx hb d_He_find_93 rfl (lv_at hl 1 rfl) ?_
              refine rw_top (y := nI (aN u 0 (hu a) - 1)) (fd_s ho1) ?_
              refine lv_bipush (v := nI 16) hx hb d_He_find_94 (by decide) ?_
              refine lv_imul hx hb d_He_find_96 ?_
              refine rw_top (y := nI ((aN u 0 (hu a) - 1) * 16)) (pk_mul (aN u 0 (hu a) - 1) 16) ?_
              refine lv_iadd hx hb d_He_find_97 ?_
              refine rw_top (y := nI (32768 + ((aN u 0 (hu a) - 1) * 16))) (nI_add 32768 ((aN u 0 (hu a) - 1) * 16)) ?_
              refine astC_found (u := (uN u 4 (aN u 0 (hu a) - 1) 1)) (n := gN u 8) hx hb hK hP hD hS (by omega) d_He_find_98 (fun H locs hP hD hS => ?_)
              refine lv_aload_n hx hb d_He_find_99 rfl (lv_at hl 2 rfl) ?_
              refine lv_dup hx hb d_He_find_100 rfl ?_
              refine va_get (D := (dC, dI)) (ci := 6) (v := .int (nI (gN u 8))) (C := R_He) (T := F_He) (N := 12) hx hb hts in_He hown hK hP 6 rfl rfl 11 (by decide) (hts _ m_3_13) (fun _ h9 => h9) rfl d_He_find_101 ?_
              refine lv_iconst (v := nI 1) hx hb d_He_find_104 (by decide) ?_
              refine lv_iadd hx hb d_He_find_105 ?_
              refine rw_top (y := nI (gN u 8 + 1)) (nI_add (gN u 8) 1) ?_
              refine va_put (D := (dC, dI)) (ci := 6) (v := .int (nI (gN u 8 + 1))) (ty := .int) (C := R_He) (T := F_He) (N := 12) hx hb hts in_He t_He t_He_ok n_He hown hK hP hD hS 6 rfl rfl 11 (by decide) (hts _ m_3_13) (fun _ h9 => h9) rfl (by decide +kernel) rfl rfl (Nat.le_of_ble_eq_true rfl) d_He_find_106 (fun H locs hP hD hS => ?_)
              have hP : va_P (dC, dI) classes (wC cI ad (sN (uN (uN u 4 (aN u 0 (hu a) - 1) 1) 5 (gN u 8) (32768 + ((aN u 0 (hu a) - 1) * 16))) 8 (gN u 8 + 1))) H := hP
              have hD : va_D A (wC cI ad (sN (uN (uN u 4 (aN u 0 (hu a) - 1) 1) 5 (gN u 8) (32768 + ((aN u 0 (hu a) - 1) * 16))) 8 (gN u 8 + 1))) := hD
              have hE : res = sN (uN (uN u 4 (aN u 0 (hu a) - 1) 1) 5 (gN u 8) (32768 + ((aN u 0 (hu a) - 1) * 16))) 8 (gN u 8 + 1) := hq.trans ((if_neg c1).trans ((if_pos c2).trans ((if_neg c3).trans ((if_pos c4).trans ((if_pos c5).trans ((if_pos c6).trans rfl))))))
              exact retWv hx hb hr hP hK hD hS hE.symm d_He_find_109 hlocks
            · skip
              refine lv_iload_n hx hb d_He_find_72 rfl (lv_at hl 0 rfl) ?_
              refine lv_if_ne (tgt := 109) hx hb d_He_find_73 (by decide) (fun c7 => ?_) (fun c7 => ?_)
              · skip
                have hE : res = u := hq.trans ((if_neg c1).trans ((if_pos c2).trans ((if_neg c3).trans ((if_pos c4).trans ((if_pos c5).trans ((if_neg c6).trans ((if_neg c7).trans rfl)))))))
                exact retWv hx hb hr hP hK hD hS hE.symm d_He_find_109 hlocks
              · skip
                have h8b : gN u 8 < 1536 := Nat.lt_of_le_of_lt hC (cnt_lt 1536 (aN u 0 (hu a) - 1) (by omega) (by assumption))
                refine lv_aload_n hx hb d_He_find_76 rfl (lv_at hl 2 rfl) ?_
                refine va_get (D := (dC, dI)) (ci := 6) (v := .ref (ad 18)) (C := R_He) (T := F_He) (N := 12) hx hb hts in_He hown hK hP 6 rfl rfl 9 (by decide) (hts _ m_3_9) (fun _ h9 => h9) rfl d_He_find_77 ?_
                refine lv_iload_n hx hb d_He_find_80 rfl (lv_at hl 1 rfl) ?_
                refine rw_top (y := nI (aN u 0 (hu a) - 1)) (fd_s ho1) ?_
                refine lv_iconst (v := nI 1) hx hb d_He_find_81 (by decide) ?_
                refine astC_isFound (u := u) (n := aN u 0 (hu a) - 1) hx hb hK hP hD hS (by omega) d_He_find_82 (fun H locs hP hD hS => ?_)
                refine lv_aload_n hx hb d_He_find_83 rfl (lv_at hl 2 rfl) ?_
                refine va_get (D := (dC, dI)) (ci := 6) (v := .ref (ad 19)) (C := R_He) (T := F_He) (N := 12) hx hb hts in_He hown hK hP 6 rfl rfl 10 (by decide) (hts _ m_3_10) (fun _ h9 => h9) rfl d_He_find_84 ?_
                refine lv_aload_n hx hb d_He_find_87 rfl (lv_at hl 2 rfl) ?_
                refine va_get (D := (dC, dI)) (ci := 6) (v := .int (nI (gN u 8))) (C := R_He) (T := F_He) (N := 12) hx hb hts in_He hown hK hP 6 rfl rfl 11 (by decide) (hts _ m_3_13) (fun _ h9 => h9) rfl d_He_find_88 ?_
                refine lv_ldc (v := 32768) hx hb hown (hts _ m_10_21) d_He_find_91 ?_
                refine rw_top (y := nI 32768) (by decide) ?_
                refine lv_iload_n hx hb d_He_find_93 rfl (lv_at hl 1 rfl) ?_
                refine rw_top (y := nI (aN u 0 (hu a) - 1)) (fd_s ho1) ?_
                refine lv_bipush (v := nI 16) hx hb d_He_find_94 (by decide) ?_
                refine lv_imul hx hb d_He_find_96 ?_
                refine rw_top (y := nI ((aN u 0 (hu a) - 1) * 16)) (pk_mul (aN u 0 (hu a) - 1) 16) ?_
                refine lv_iadd hx hb d_He_find_97 ?_
                refine rw_top (y := nI (32768 + ((aN u 0 (hu a) - 1) * 16))) (nI_add 32768 ((aN u 0 (hu a) - 1) * 16)) ?_
                refine astC_found (u := (uN u 4 (aN u 0 (hu a) - 1) 1)) (n := gN u 8) hx hb hK hP hD hS (by omega) d_He_find_98 (fun H locs hP hD hS => ?_)
                refine lv_aload_n hx hb d_He_find_99 rfl (lv_at hl 2 rfl) ?_
                refine lv_dup hx hb d_He_find_100 rfl ?_
                refine va_get (D := (dC, dI)) (ci := 6) (v := .int (nI (gN u 8))) (C := R_He) (T := F_He) (N := 12) hx hb hts in_He hown hK hP 6 rfl rfl 11 (by decide) (hts _ m_3_13) (fun _ h9 => h9) rfl d_He_find_101 ?_
                refine lv_iconst (v := nI 1) hx hb d_He_find_104 (by decide) ?_
                refine lv_iadd hx hb d_He_find_105 ?_
                refine rw_top (y := nI (gN u 8 + 1)) (nI_add (gN u 8) 1) ?_
                refine va_put (D := (dC, dI)) (ci := 6) (v := .int (nI (gN u 8 + 1))) (ty := .int) (C := R_He) (T := F_He) (N := 12) hx hb hts in_He t_He t_He_ok n_He hown hK hP hD hS 6 rfl rfl 11 (by decide) (hts _ m_3_13) (fun _ h9 => h9) rfl (by decide +kernel) rfl rfl (Nat.le_of_ble_eq_true rfl) d_He_find_106 (fun H locs hP hD hS => ?_)
                have hP : va_P (dC, dI) classes (wC cI ad (sN (uN (uN u 4 (aN u 0 (hu a) - 1) 1) 5 (gN u 8) (32768 + ((aN u 0 (hu a) - 1) * 16))) 8 (gN u 8 + 1))) H := hP
                have hD : va_D A (wC cI ad (sN (uN (uN u 4 (aN u 0 (hu a) - 1) 1) 5 (gN u 8) (32768 + ((aN u 0 (hu a) - 1) * 16))) 8 (gN u 8 + 1))) := hD
                have hE : res = sN (uN (uN u 4 (aN u 0 (hu a) - 1) 1) 5 (gN u 8) (32768 + ((aN u 0 (hu a) - 1) * 16))) 8 (gN u 8 + 1) := hq.trans ((if_neg c1).trans ((if_pos c2).trans ((if_neg c3).trans ((if_pos c4).trans ((if_pos c5).trans ((if_neg c6).trans ((if_pos c7).trans rfl)))))))
                exact retWv hx hb hr hP hK hD hS hE.symm d_He_find_109 hlocks
          · skip
            have hE : res = u := hq.trans ((if_neg c1).trans ((if_pos c2).trans ((if_neg c3).trans ((if_pos c4).trans ((if_neg c5).trans rfl)))))
            exact retWv hx hb hr hP hK hD hS hE.symm d_He_find_51 hlocks
    · skip
      have hE : res = u := hq.trans ((if_neg c1).trans ((if_neg c2).trans rfl))
      exact retWv hx hb hr hP hK hD hS hE.symm d_He_find_12 hlocks
def w_He_lostAt : List Cond := .code y_He_lostAt b_He_lostAt 2 (some .int) :: ALLW
def rm_He_lostAt : Room := { frames := 20, cells := 0, slots := 0, locals := 600 }
theorem d_He_lostAt_0 : decode b_He_lostAt 0 = .ok (.aload_n 0, 1) := by decide +kernel
theorem d_He_lostAt_1 : decode b_He_lostAt 1 = .ok (.getfield 18, 3) := by decide +kernel
theorem d_He_lostAt_4 : decode b_He_lostAt 4 = .ok (.iload_n 1, 1) := by decide +kernel
theorem d_He_lostAt_5 : decode b_He_lostAt 5 = .ok (.iaload, 1) := by decide +kernel
theorem d_He_lostAt_6 : decode b_He_lostAt 6 = .ok (.iconst 1, 1) := by decide +kernel
theorem d_He_lostAt_7 : decode b_He_lostAt 7 = .ok (.if_icmp .ne 22, 3) := by decide +kernel
theorem d_He_lostAt_10 : decode b_He_lostAt 10 = .ok (.aload_n 0, 1) := by decide +kernel
theorem d_He_lostAt_11 : decode b_He_lostAt 11 = .ok (.getfield 24, 3) := by decide +kernel
theorem d_He_lostAt_14 : decode b_He_lostAt 14 = .ok (.iload_n 1, 1) := by decide +kernel
theorem d_He_lostAt_15 : decode b_He_lostAt 15 = .ok (.iaload, 1) := by decide +kernel
theorem d_He_lostAt_16 : decode b_He_lostAt 16 = .ok (.ifCond .ne 13, 3) := by decide +kernel
theorem d_He_lostAt_19 : decode b_He_lostAt 19 = .ok (.ldc 59, 2) := by decide +kernel
theorem d_He_lostAt_21 : decode b_He_lostAt 21 = .ok (.iload_n 1, 1) := by decide +kernel
theorem d_He_lostAt_22 : decode b_He_lostAt 22 = .ok (.bipush 16, 2) := by decide +kernel
theorem d_He_lostAt_24 : decode b_He_lostAt 24 = .ok (.imul, 1) := by decide +kernel
theorem d_He_lostAt_25 : decode b_He_lostAt 25 = .ok (.iadd, 1) := by decide +kernel
theorem d_He_lostAt_26 : decode b_He_lostAt 26 = .ok (.goto 4, 3) := by decide +kernel
theorem d_He_lostAt_29 : decode b_He_lostAt 29 = .ok (.iconst 0, 1) := by decide +kernel
theorem d_He_lostAt_30 : decode b_He_lostAt 30 = .ok (.ireturn, 1) := by decide +kernel
def f_He_lostAt (j : Nat) (u : S5) : Nat := if (aN u 2 j) = 1 then (if (aN u 4 j) = 0 then 32768 + (j * 16) else 0) else 0
set_option maxHeartbeats 8000000 in
set_option maxRecDepth 100000 in
theorem c_He_lostAt (l : Launch) (dC : Nat → ClassId) (dI : Nat → Nat → Nat) (cI : ClassId) (ad : Nat → Nat) (u : S5) (j : Nat) (hj : j < 1536) (hT : ∀ j, j < 1536 → aN u 2 j ≤ 2) (hF : ∀ j, j < 1536 → aN u 4 j ≤ 1) (sz : Nat) : Met l y_He_lostAt w_He_lostAt rm_He_lostAt (PreW (dC, dI) classes [(cI, .int)] (wC cI ad) u sz [.ref (ad 6), .int (nI j)]) (QWi (dC, dI) classes [(cI, .int)] (wC cI ad) (va_A (wC cI ad u) sz) (nI (f_He_lostAt j u)) u) 0 0 (va_A (wC cI ad u) sz) := by
  generalize hres : f_He_lostAt j u = res
  refine Met.ofW (cc := b_He_lostAt) (maxL := 2) (ret := (some .int)) (by decide) rfl ?_
  intro p e s m args below meth c s₁ B hml hv
  obtain ⟨rfl, rfl, hP, hK, hD0⟩ := hv
  have hx := B.exec
  have hb := B.bytes
  have hr := B.returns
  have hts : ∀ w9 ∈ ALLW, w9.before ([.ref (ad 6), .int (nI j)] : List Value).toArray s = true := fun w9 h => atoms_spec (ws := w_He_lostAt) B.pre w9 (List.mem_cons_of_mem _ h)
  have hown : s.vm.findClass R_He = some m.cls := findClass_of_methodNamed B.named
  have hlocks := B.notSynchronized
  have hD := hD0.self (sz := s.heap.size)
  generalize hAe : va_A (wC cI ad u) s.heap.size = A at hD ⊢
  have hA : ∀ q : Nat, s.heap.size ≤ q → A q := fun q h => by rw [← hAe]; exact Or.inr h
  have hS : va_S A s.heap s.heap [] := va_S.rf
  have hl := lv_entry ([.ref (ad 6), .int (nI j)]) (n := 2) (Nat.le_of_ble_eq_true rfl)
  rw [lg_entry_eq]
  generalize (lg_sl ([.ref (ad 6), .int (nI j)]) ++ List.replicate (2 - (lg_sl ([.ref (ad 6), .int (nI j)])).length) Slot.unset).toArray = ls at hl ⊢
  have hl : lv_has ls 2 [(0, .ref (ad 6)), (1, .int (nI j))] := hl
  have hq := hres.symm
  skip
  refine lv_aload_n hx hb d_He_lostAt_0 rfl (lv_at hl 0 rfl) ?_
  refine va_get (D := (dC, dI)) (ci := 6) (v := .ref (ad 16)) (C := R_He) (T := F_He) (N := 12) hx hb hts in_He hown hK hP 6 rfl rfl 2 (by decide) (hts _ m_2_38) (fun _ h9 => h9) rfl d_He_lostAt_1 ?_
  refine lv_iload_n hx hb d_He_lostAt_4 rfl (lv_at hl 1 rfl) ?_
  refine aldC_state (u := u) (v := aN u 2 j) hx hb hK hP (by omega) rfl d_He_lostAt_5 ?_
  refine lv_iconst (v := nI 1) hx hb d_He_lostAt_6 (by decide) ?_
  have htb := hT j hj
  refine rn_ne (tgt := 29) hx hb (by omega) (by omega) d_He_lostAt_7 (by decide) (fun c1 => ?_) (fun c1 => ?_)
  · skip
    refine lv_iconst (v := nI 0) hx hb d_He_lostAt_29 (by decide) ?_
    have hE : res = 0 := hq.trans ((if_neg c1).trans rfl)
    exact retWn (x := 0) hx hb hr hP hK hD hS hE.symm rfl d_He_lostAt_30 hlocks
  · skip
    refine lv_aload_n hx hb d_He_lostAt_10 rfl (lv_at hl 0 rfl) ?_
    refine va_get (D := (dC, dI)) (ci := 6) (v := .ref (ad 18)) (C := R_He) (T := F_He) (N := 12) hx hb hts in_He hown hK hP 6 rfl rfl 9 (by decide) (hts _ m_3_9) (fun _ h9 => h9) rfl d_He_lostAt_11 ?_
    refine lv_iload_n hx hb d_He_lostAt_14 rfl (lv_at hl 1 rfl) ?_
    refine aldC_isFound (u := u) (v := aN u 4 j) hx hb hK hP (by omega) rfl d_He_lostAt_15 ?_
    have hfb := hF j hj
    refine rz_ne (tgt := 29) hx hb (by omega) d_He_lostAt_16 (by decide) (fun c2 => ?_) (fun c2 => ?_)
    · skip
      refine lv_iconst (v := nI 0) hx hb d_He_lostAt_29 (by decide) ?_
      have hE : res = 0 := hq.trans ((if_pos c1).trans ((if_neg c2).trans rfl))
      exact retWn (x := 0) hx hb hr hP hK hD hS hE.symm rfl d_He_lostAt_30 hlocks
    · skip
      refine lv_ldc (v := 32768) hx hb hown (hts _ m_10_21) d_He_lostAt_19 ?_
      refine rw_top (y := nI 32768) (by decide) ?_
      refine lv_iload_n hx hb d_He_lostAt_21 rfl (lv_at hl 1 rfl) ?_
      refine lv_bipush (v := nI 16) hx hb d_He_lostAt_22 (by decide) ?_
      refine lv_imul hx hb d_He_lostAt_24 ?_
      refine rw_top (y := nI (j * 16)) (pk_mul j 16) ?_
      refine lv_iadd hx hb d_He_lostAt_25 ?_
      refine rw_top (y := nI (32768 + (j * 16))) (nI_add 32768 (j * 16)) ?_
      refine lv_goto (tgt := 30) hx hb d_He_lostAt_26 (by decide) ?_
      have hE : res = 32768 + (j * 16) := hq.trans ((if_pos c1).trans ((if_pos c2).trans rfl))
      exact retWn (x := 32768 + (j * 16)) hx hb hr hP hK hD hS hE.symm rfl d_He_lostAt_30 hlocks
