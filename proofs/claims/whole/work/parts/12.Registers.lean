def w_Rg_put : List Cond := .code y_Rg_put b_Rg_put 4 none :: ALLW
def rm_Rg_put : Room := { frames := 20, cells := 0, slots := 0, locals := 600 }
theorem d_Rg_put_0 : decode b_Rg_put 0 = .ok (.iload_n 1, 1) := by decide +kernel
theorem d_Rg_put_1 : decode b_Rg_put 1 = .ok (.ifCond .eq 17, 3) := by decide +kernel
theorem d_Rg_put_4 : decode b_Rg_put 4 = .ok (.aload_n 0, 1) := by decide +kernel
theorem d_Rg_put_5 : decode b_Rg_put 5 = .ok (.getfield 9, 3) := by decide +kernel
theorem d_Rg_put_8 : decode b_Rg_put 8 = .ok (.iload_n 1, 1) := by decide +kernel
theorem d_Rg_put_9 : decode b_Rg_put 9 = .ok (.iload_n 2, 1) := by decide +kernel
theorem d_Rg_put_10 : decode b_Rg_put 10 = .ok (.iastore, 1) := by decide +kernel
theorem d_Rg_put_11 : decode b_Rg_put 11 = .ok (.aload_n 0, 1) := by decide +kernel
theorem d_Rg_put_12 : decode b_Rg_put 12 = .ok (.getfield 15, 3) := by decide +kernel
theorem d_Rg_put_15 : decode b_Rg_put 15 = .ok (.iload_n 1, 1) := by decide +kernel
theorem d_Rg_put_16 : decode b_Rg_put 16 = .ok (.iload_n 3, 1) := by decide +kernel
theorem d_Rg_put_17 : decode b_Rg_put 17 = .ok (.iastore, 1) := by decide +kernel
theorem d_Rg_put_18 : decode b_Rg_put 18 = .ok (.return_, 1) := by decide +kernel
def f_Rg_put (d : Nat) (v : Int32) (w : Int32) (u : S5) : S5 := if d = 0 then u else uI (uI u 2 d v) 3 d w
set_option maxHeartbeats 8000000 in
set_option maxRecDepth 100000 in
theorem c_Rg_put (l : Launch) (dC : Nat → ClassId) (dI : Nat → Nat → Nat) (cI : ClassId) (ad : Nat → Nat) (u : S5) (d : Nat) (v : Int32) (w : Int32) (hd : d < 32) (sz : Nat) : Met l y_Rg_put w_Rg_put rm_Rg_put (PreW (dC, dI) classes [(cI, .int)] (wC cI ad) u sz [.ref (ad 3), .int (nI d), .int v, .int w]) (QWv (dC, dI) classes [(cI, .int)] (wC cI ad) (va_A (wC cI ad u) sz) (f_Rg_put d v w u)) 0 0 (va_A (wC cI ad u) sz) := by
  generalize hres : f_Rg_put d v w u = res
  refine Met.ofW (cc := b_Rg_put) (maxL := 4) (ret := none) (by decide) rfl ?_
  intro p e s m args below meth c s₁ B hml hv
  obtain ⟨rfl, rfl, hP, hK, hD0⟩ := hv
  have hx := B.exec
  have hb := B.bytes
  have hr := B.returns
  have hts : ∀ w9 ∈ ALLW, w9.before ([.ref (ad 3), .int (nI d), .int v, .int w] : List Value).toArray s = true := fun w9 h => atoms_spec (ws := w_Rg_put) B.pre w9 (List.mem_cons_of_mem _ h)
  have hown : s.vm.findClass R_Rg = some m.cls := findClass_of_methodNamed B.named
  have hlocks := B.notSynchronized
  have hD := hD0.self (sz := s.heap.size)
  generalize hAe : va_A (wC cI ad u) s.heap.size = A at hD ⊢
  have hA : ∀ q : Nat, s.heap.size ≤ q → A q := fun q h => by rw [← hAe]; exact Or.inr h
  have hS : va_S A s.heap s.heap [] := va_S.rf
  have hl := lv_entry ([.ref (ad 3), .int (nI d), .int v, .int w]) (n := 4) (Nat.le_of_ble_eq_true rfl)
  rw [lg_entry_eq]
  generalize (lg_sl ([.ref (ad 3), .int (nI d), .int v, .int w]) ++ List.replicate (4 - (lg_sl ([.ref (ad 3), .int (nI d), .int v, .int w])).length) Slot.unset).toArray = ls at hl ⊢
  have hl : lv_has ls 4 [(0, .ref (ad 3)), (1, .int (nI d)), (2, .int v), (3, .int w)] := hl
  have hq := hres.symm
  skip
  refine lv_iload_n hx hb d_Rg_put_0 rfl (lv_at hl 1 rfl) ?_
  refine rz_eq (tgt := 18) hx hb (by omega) d_Rg_put_1 (by decide) (fun c1 => ?_) (fun c1 => ?_)
  · skip
    have hE : res = u := hq.trans ((if_pos c1).trans rfl)
    exact retWv hx hb hr hP hK hD hS hE.symm d_Rg_put_18 hlocks
  · skip
    refine lv_aload_n hx hb d_Rg_put_4 rfl (lv_at hl 0 rfl) ?_
    refine va_get (D := (dC, dI)) (ci := 3) (v := .ref (ad 10)) (C := R_Rg) (T := F_Rg) (N := 2) hx hb hts in_Rg hown hK hP 3 rfl rfl 0 (by decide) (hts _ m_1_35) (fun _ h9 => h9) rfl d_Rg_put_5 ?_
    refine lv_iload_n hx hb d_Rg_put_8 rfl (lv_at hl 1 rfl) ?_
    refine lv_iload_n hx hb d_Rg_put_9 rfl (lv_at hl 2 rfl) ?_
    refine astC_value (u := u) (n := d) hx hb hK hP hD hS (by omega) d_Rg_put_10 (fun H locs hP hD hS => ?_)
    refine lv_aload_n hx hb d_Rg_put_11 rfl (lv_at hl 0 rfl) ?_
    refine va_get (D := (dC, dI)) (ci := 3) (v := .ref (ad 11)) (C := R_Rg) (T := F_Rg) (N := 2) hx hb hts in_Rg hown hK hP 3 rfl rfl 1 (by decide) (hts _ m_1_39) (fun _ h9 => h9) rfl d_Rg_put_12 ?_
    refine lv_iload_n hx hb d_Rg_put_15 rfl (lv_at hl 1 rfl) ?_
    refine lv_iload_n hx hb d_Rg_put_16 rfl (lv_at hl 3 rfl) ?_
    refine astC_ungiven (u := (uI u 2 d v)) (n := d) hx hb hK hP hD hS (by omega) d_Rg_put_17 (fun H locs hP hD hS => ?_)
    have hE : res = uI (uI u 2 d v) 3 d w := hq.trans ((if_neg c1).trans rfl)
    exact retWv hx hb hr hP hK hD hS hE.symm d_Rg_put_18 hlocks
def w_Rg_reset : List Cond := .code y_Rg_reset b_Rg_reset 1 none :: ALLW
def rm_Rg_reset : Room := { frames := 21, cells := 0, slots := 0, locals := 623 }
theorem d_Rg_reset_0 : decode b_Rg_reset 0 = .ok (.aload_n 0, 1) := by decide +kernel
theorem d_Rg_reset_1 : decode b_Rg_reset 1 = .ok (.getfield 9, 3) := by decide +kernel
theorem d_Rg_reset_4 : decode b_Rg_reset 4 = .ok (.iconst 0, 1) := by decide +kernel
theorem d_Rg_reset_5 : decode b_Rg_reset 5 = .ok (.invokestatic 21, 3) := by decide +kernel
theorem d_Rg_reset_8 : decode b_Rg_reset 8 = .ok (.aload_n 0, 1) := by decide +kernel
theorem d_Rg_reset_9 : decode b_Rg_reset 9 = .ok (.getfield 15, 3) := by decide +kernel
theorem d_Rg_reset_12 : decode b_Rg_reset 12 = .ok (.iconst (-1), 1) := by decide +kernel
theorem d_Rg_reset_13 : decode b_Rg_reset 13 = .ok (.invokestatic 21, 3) := by decide +kernel
theorem d_Rg_reset_16 : decode b_Rg_reset 16 = .ok (.aload_n 0, 1) := by decide +kernel
theorem d_Rg_reset_17 : decode b_Rg_reset 17 = .ok (.getfield 15, 3) := by decide +kernel
theorem d_Rg_reset_20 : decode b_Rg_reset 20 = .ok (.iconst 0, 1) := by decide +kernel
theorem d_Rg_reset_21 : decode b_Rg_reset 21 = .ok (.iconst 0, 1) := by decide +kernel
theorem d_Rg_reset_22 : decode b_Rg_reset 22 = .ok (.iastore, 1) := by decide +kernel
theorem d_Rg_reset_23 : decode b_Rg_reset 23 = .ok (.aload_n 0, 1) := by decide +kernel
theorem d_Rg_reset_24 : decode b_Rg_reset 24 = .ok (.getfield 9, 3) := by decide +kernel
theorem d_Rg_reset_27 : decode b_Rg_reset 27 = .ok (.iconst 2, 1) := by decide +kernel
theorem d_Rg_reset_28 : decode b_Rg_reset 28 = .ok (.ldc 27, 2) := by decide +kernel
theorem d_Rg_reset_30 : decode b_Rg_reset 30 = .ok (.iastore, 1) := by decide +kernel
theorem d_Rg_reset_31 : decode b_Rg_reset 31 = .ok (.aload_n 0, 1) := by decide +kernel
theorem d_Rg_reset_32 : decode b_Rg_reset 32 = .ok (.getfield 15, 3) := by decide +kernel
theorem d_Rg_reset_35 : decode b_Rg_reset 35 = .ok (.iconst 2, 1) := by decide +kernel
theorem d_Rg_reset_36 : decode b_Rg_reset 36 = .ok (.iconst 0, 1) := by decide +kernel
theorem d_Rg_reset_37 : decode b_Rg_reset 37 = .ok (.iastore, 1) := by decide +kernel
theorem d_Rg_reset_38 : decode b_Rg_reset 38 = .ok (.return_, 1) := by decide +kernel
def f_Rg_reset (u : S5) : S5 := uI (uI (uI (fI (fI u 2 0 32 0) 3 0 32 (-1)) 3 0 0) 2 2 65536) 3 2 0
set_option maxHeartbeats 8000000 in
set_option maxRecDepth 100000 in
theorem c_Rg_reset (l : Launch) (dC : Nat → ClassId) (dI : Nat → Nat → Nat) (cI : ClassId) (ad : Nat → Nat) (u : S5) (sz : Nat) : Met l y_Rg_reset w_Rg_reset rm_Rg_reset (PreW (dC, dI) classes [(cI, .int)] (wC cI ad) u sz [.ref (ad 3)]) (QWv (dC, dI) classes [(cI, .int)] (wC cI ad) (va_A (wC cI ad u) sz) (f_Rg_reset u)) 0 0 (va_A (wC cI ad u) sz) := by
  generalize hres : f_Rg_reset u = res
  refine Met.ofW (cc := b_Rg_reset) (maxL := 1) (ret := none) (by decide) rfl ?_
  intro p e s m args below meth c s₁ B hml hv
  obtain ⟨rfl, rfl, hP, hK, hD0⟩ := hv
  have hx := B.exec
  have hb := B.bytes
  have hr := B.returns
  have hts : ∀ w9 ∈ ALLW, w9.before ([.ref (ad 3)] : List Value).toArray s = true := fun w9 h => atoms_spec (ws := w_Rg_reset) B.pre w9 (List.mem_cons_of_mem _ h)
  have hown : s.vm.findClass R_Rg = some m.cls := findClass_of_methodNamed B.named
  have hlocks := B.notSynchronized
  have hD := hD0.self (sz := s.heap.size)
  generalize hAe : va_A (wC cI ad u) s.heap.size = A at hD ⊢
  have hA : ∀ q : Nat, s.heap.size ≤ q → A q := fun q h => by rw [← hAe]; exact Or.inr h
  have hS : va_S A s.heap s.heap [] := va_S.rf
  have hl := lv_entry ([.ref (ad 3)]) (n := 1) (Nat.le_of_ble_eq_true rfl)
  rw [lg_entry_eq]
  generalize (lg_sl ([.ref (ad 3)]) ++ List.replicate (1 - (lg_sl ([.ref (ad 3)])).length) Slot.unset).toArray = ls at hl ⊢
  have hl : lv_has ls 1 [(0, .ref (ad 3))] := hl
  have hq := hres.symm
  skip
  refine lv_aload_n hx hb d_Rg_reset_0 rfl (lv_at hl 0 rfl) ?_
  refine va_get (D := (dC, dI)) (ci := 3) (v := .ref (ad 10)) (C := R_Rg) (T := F_Rg) (N := 2) hx hb hts in_Rg hown hK hP 3 rfl rfl 0 (by decide) (hts _ m_1_35) (fun _ h9 => h9) rfl d_Rg_reset_1 ?_
  refine lv_iconst (v := 0) hx hb d_Rg_reset_4 (by decide) ?_
  refine callZv (va_runS (As := [.ref (ad 10), .int 0]) (rest := []) ⟨hx, hb, hml, hown, hts⟩ (c_Ar_fill1 l (dC, dI) classes [(cI, .int)] cI 0 rfl (wC cI ad u) 10 (ad 10) 32 (aI u 2) rfl (by decide) 0 s.heap.size) (va_cwS 2 hts (goodS m_1_33 m_0_36 m_0_4 m_0_37) rfl rfl rfl (by decide +kernel) ⟨Nat.le_of_ble_eq_true rfl, Nat.le_of_ble_eq_true rfl⟩) ⟨preZ_blind, preZ_ok hP hD hK⟩ rfl rfl hl.1 rfl (lv_room (Nat.le_of_ble_eq_true rfl)) d_Rg_reset_5 ⟨Nat.zero_le _, Nat.zero_le _⟩) hP hD hS hA (fun H locs hP hD hS => ?_)
  have hP : va_P (dC, dI) classes (wC cI ad (fI u 2 0 32 0)) H := hP
  have hD : va_D A (wC cI ad (fI u 2 0 32 0)) := hD
  refine lv_aload_n hx hb d_Rg_reset_8 rfl (lv_at hl 0 rfl) ?_
  refine va_get (D := (dC, dI)) (ci := 3) (v := .ref (ad 11)) (C := R_Rg) (T := F_Rg) (N := 2) hx hb hts in_Rg hown hK hP 3 rfl rfl 1 (by decide) (hts _ m_1_39) (fun _ h9 => h9) rfl d_Rg_reset_9 ?_
  refine lv_iconst (v := (-1)) hx hb d_Rg_reset_12 (by decide) ?_
  refine callZv (va_runS (As := [.ref (ad 11), .int (-1)]) (rest := []) ⟨hx, hb, hml, hown, hts⟩ (c_Ar_fill1 l (dC, dI) classes [(cI, .int)] cI 0 rfl (wC cI ad (fI u 2 0 32 0)) 11 (ad 11) 32 (aI u 3) rfl (by decide) (-1) H.size) (va_cwS 2 hts (goodS m_1_33 m_0_36 m_0_4 m_0_37) rfl rfl rfl (by decide +kernel) ⟨Nat.le_of_ble_eq_true rfl, Nat.le_of_ble_eq_true rfl⟩) ⟨preZ_blind, preZ_ok hP hD hK⟩ rfl rfl hl.1 rfl (lv_room (Nat.le_of_ble_eq_true rfl)) d_Rg_reset_13 ⟨Nat.zero_le _, Nat.zero_le _⟩) hP hD hS hA (fun H locs hP hD hS => ?_)
  have hP : va_P (dC, dI) classes (wC cI ad (fI (fI u 2 0 32 0) 3 0 32 (-1))) H := hP
  have hD : va_D A (wC cI ad (fI (fI u 2 0 32 0) 3 0 32 (-1))) := hD
  refine lv_aload_n hx hb d_Rg_reset_16 rfl (lv_at hl 0 rfl) ?_
  refine va_get (D := (dC, dI)) (ci := 3) (v := .ref (ad 11)) (C := R_Rg) (T := F_Rg) (N := 2) hx hb hts in_Rg hown hK hP 3 rfl rfl 1 (by decide) (hts _ m_1_39) (fun _ h9 => h9) rfl d_Rg_reset_17 ?_
  refine lv_iconst (v := nI 0) hx hb d_Rg_reset_20 (by decide) ?_
  refine lv_iconst (v := 0) hx hb d_Rg_reset_21 (by decide) ?_
  refine astC_ungiven (u := (fI (fI u 2 0 32 0) 3 0 32 (-1))) (n := 0) hx hb hK hP hD hS (by omega) d_Rg_reset_22 (fun H locs hP hD hS => ?_)
  refine lv_aload_n hx hb d_Rg_reset_23 rfl (lv_at hl 0 rfl) ?_
  refine va_get (D := (dC, dI)) (ci := 3) (v := .ref (ad 10)) (C := R_Rg) (T := F_Rg) (N := 2) hx hb hts in_Rg hown hK hP 3 rfl rfl 0 (by decide) (hts _ m_1_35) (fun _ h9 => h9) rfl d_Rg_reset_24 ?_
  refine lv_iconst (v := nI 2) hx hb d_Rg_reset_27 (by decide) ?_
  refine lv_ldc (v := 65536) hx hb hown (hts _ m_1_34) d_Rg_reset_28 ?_
  refine astC_value (u := (uI (fI (fI u 2 0 32 0) 3 0 32 (-1)) 3 0 0)) (n := 2) hx hb hK hP hD hS (by omega) d_Rg_reset_30 (fun H locs hP hD hS => ?_)
  refine lv_aload_n hx hb d_Rg_reset_31 rfl (lv_at hl 0 rfl) ?_
  refine va_get (D := (dC, dI)) (ci := 3) (v := .ref (ad 11)) (C := R_Rg) (T := F_Rg) (N := 2) hx hb hts in_Rg hown hK hP 3 rfl rfl 1 (by decide) (hts _ m_1_39) (fun _ h9 => h9) rfl d_Rg_reset_32 ?_
  refine lv_iconst (v := nI 2) hx hb d_Rg_reset_35 (by decide) ?_
  refine lv_iconst (v := 0) hx hb d_Rg_reset_36 (by decide) ?_
  refine astC_ungiven (u := (uI (uI (fI (fI u 2 0 32 0) 3 0 32 (-1)) 3 0 0) 2 2 65536)) (n := 2) hx hb hK hP hD hS (by omega) d_Rg_reset_37 (fun H locs hP hD hS => ?_)
  have hE : res = uI (uI (uI (fI (fI u 2 0 32 0) 3 0 32 (-1)) 3 0 0) 2 2 65536) 3 2 0 := hq.trans (rfl)
  exact retWv hx hb hr hP hK hD hS hE.symm d_Rg_reset_38 hlocks
