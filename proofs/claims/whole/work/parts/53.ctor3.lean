theorem d_Me_init_0 : decode b_Me_init 0 = .ok (.aload_n 0, 1) := by decide +kernel
theorem d_Me_init_1 : decode b_Me_init 1 = .ok (.invokespecial 3, 3) := by decide +kernel
theorem d_Me_init_4 : decode b_Me_init 4 = .ok (.aload_n 0, 1) := by decide +kernel
theorem d_Me_init_5 : decode b_Me_init 5 = .ok (.ldc 9, 2) := by decide +kernel
theorem d_Me_init_7 : decode b_Me_init 7 = .ok (.newarray .int, 2) := by decide +kernel
theorem d_Me_init_9 : decode b_Me_init 9 = .ok (.putfield 10, 3) := by decide +kernel
theorem d_Me_init_12 : decode b_Me_init 12 = .ok (.aload_n 0, 1) := by decide +kernel
theorem d_Me_init_13 : decode b_Me_init 13 = .ok (.sipush 16384, 3) := by decide +kernel
theorem d_Me_init_16 : decode b_Me_init 16 = .ok (.newarray .int, 2) := by decide +kernel
theorem d_Me_init_18 : decode b_Me_init 18 = .ok (.putfield 16, 3) := by decide +kernel
theorem d_Me_init_21 : decode b_Me_init 21 = .ok (.aload_n 0, 1) := by decide +kernel
theorem d_Me_init_22 : decode b_Me_init 22 = .ok (.getfield 16, 3) := by decide +kernel
theorem d_Me_init_25 : decode b_Me_init 25 = .ok (.ldc 9, 2) := by decide +kernel
theorem d_Me_init_27 : decode b_Me_init 27 = .ok (.invokestatic 19, 3) := by decide +kernel
theorem d_Me_init_30 : decode b_Me_init 30 = .ok (.aload_n 0, 1) := by decide +kernel
theorem d_Me_init_31 : decode b_Me_init 31 = .ok (.invokevirtual 25, 3) := by decide +kernel
theorem d_Me_init_34 : decode b_Me_init 34 = .ok (.return_, 1) := by decide +kernel
def wI_Me (cI : ClassId) (q : Nat) (h : Nat → Nat) : va_W := [(q, .inr (2, [.ref (h 0), .ref (h 1)])), (h 0, .inl (cI, 65536, .inl (fun _ => 0))), (h 1, .inl (cI, 16384, .inl (fun _ => 0)))]
def w_Me_init : List Cond := .code y_Me_init b_Me_init 1 none :: ALLW
def rm_Me_init : Room := { frames := 40, cells := 2, slots := 81920, locals := 1500 }
set_option maxHeartbeats 400000 in
set_option maxRecDepth 100000 in
theorem c_Me_init (l : Launch) (dC : Nat → ClassId) (dI : Nat → Nat → Nat) (cI : ClassId) (q sz : Nat) : Met l y_Me_init w_Me_init rm_Me_init (va_Pc [.ref q] (fun U => U.heap.size = sz ∧ va_P (dC, dI) classes [(q, .inr (2, [.null, .null]))] U.heap ∧ va_K (dC, dI) classes [(cI, .int)] U ∧ va_D (fun _ => True) ([(q, .inr (2, [.null, .null]))] : va_W))) (va_Qv (fun ad : Nat → Nat => ad 0 = q) (BG (dC, dI) classes [(cI, .int)] (fun ad => wE cI ad (fE_Me_reset (fI u0 1 0 16384 65536))) (va_A [(q, .inr (2, [.null, .null]))] sz)) (va_A [(q, .inr (2, [.null, .null]))] sz)) 2 81920 (va_A [(q, .inr (2, [.null, .null]))] sz) := by
  refine Met.ofW (cc := b_Me_init) (maxL := 1) (ret := none) (by decide) rfl ?_
  intro p e s m args below meth c s₁ B hml hv
  obtain ⟨rfl, rfl, hP, hK, hD0⟩ := hv
  have hx := B.exec
  have hb := B.bytes
  have hr := B.returns
  have hts : ∀ w9 ∈ ALLW, w9.before ([.ref q] : List Value).toArray s = true := fun w9 h => atoms_spec (ws := w_Me_init) B.pre w9 (List.mem_cons_of_mem _ h)
  have hown : s.vm.findClass R_Me = some m.cls := findClass_of_methodNamed B.named
  have hlocks := B.notSynchronized
  have hin : meth.name = "<init>" := (name_of_methodNamed B.named B.method).1
  have hD := hD0.self (sz := s.heap.size)
  generalize hAe : va_A ([(q, .inr (2, [.null, .null]))] : va_W) s.heap.size = A at hD ⊢
  have hA : ∀ q : Nat, s.heap.size ≤ q → A q := fun q h => by rw [← hAe]; exact Or.inr h
  have hS : va_S A s.heap s.heap [] := va_S.rf
  have hP : va_P (dC, dI) classes [(q, .inr (2, [.null, .null]))] s.heap := hP
  have hl := lv_entry ([.ref q]) (n := 1) (Nat.le_of_ble_eq_true rfl)
  rw [lg_entry_eq]
  generalize (lg_sl ([.ref q]) ++ List.replicate (1 - (lg_sl ([.ref q])).length) Slot.unset).toArray = ls at hl ⊢
  have hl : lv_has ls 1 [(0, .ref q)] := hl
  refine lv_aload_n hx hb d_Me_init_0 rfl (lv_at hl 0 rfl) ?_
  refine W.objInit hx hb hown (hts _ m_0_33) (hts _ m_0_21) (hts _ m_0_22) rfl (by rw [hml]; exact hl.1) rfl d_Me_init_1 (Nat.le_of_ble_eq_true rfl) (Nat.le_of_ble_eq_true rfl) ?_
  refine W.eq (g2 := F0 m 4 ls []) rfl ?_
  refine lv_aload_n hx hb d_Me_init_4 rfl (lv_at hl 0 rfl) ?_
  refine lv_ldc (v := 65536) hx hb hown (hts _ m_0_34) d_Me_init_5 ?_
  refine newI (atype := .int) (ty := .int) (a0 := (65536, .inl (fun _ => 0))) (N' := 65536) hx hb (hts _ m_1_12) rfl hK hP hD hS hA 0 rfl ra_int (fun _ => rfl) (by decide) (by decide) (Nat.le_of_ble_eq_true rfl) (Nat.le_of_ble_eq_true rfl) (Nat.le_of_ble_eq_true rfl) d_Me_init_7 (fun q0 H hP hD hS => ?_)
  have hP : va_P (dC, dI) classes [(q, .inr (2, [.null, .null])), (q0, .inl (cI, 65536, .inl (fun _ => 0)))] H := hP
  have hD : va_D A ([(q, .inr (2, [.null, .null])), (q0, .inl (cI, 65536, .inl (fun _ => 0)))] : va_W) := hD
  refine va_putF (D := (dC, dI)) (ci := 2) (v := .ref q0) (ty := .array .int) (C := R_Me) (T := F_Me) (N := 2) hx hb hts in_Me t_Me t_Me_ok n_Me hown hK hP hD hS 0 rfl rfl 0 (by decide) (hts _ m_1_18) (fun _ h9 => h9) rfl hin rfl (by decide +kernel) rfl rfl (Nat.le_of_ble_eq_true rfl) d_Me_init_9 (fun H locs hP hD hS => ?_)
  have hP : va_P (dC, dI) classes [(q, .inr (2, [.ref q0, .null])), (q0, .inl (cI, 65536, .inl (fun _ => 0)))] H := hP
  have hD : va_D A ([(q, .inr (2, [.ref q0, .null])), (q0, .inl (cI, 65536, .inl (fun _ => 0)))] : va_W) := hD
  refine lv_aload_n hx hb d_Me_init_12 rfl (lv_at hl 0 rfl) ?_
  refine lv_sipush (v := 16384) hx hb d_Me_init_13 (by decide) ?_
  refine newI (atype := .int) (ty := .int) (a0 := (16384, .inl (fun _ => 0))) (N' := 16384) hx hb (hts _ m_1_12) rfl hK hP hD hS hA 0 rfl ra_int (fun _ => rfl) (by decide) (by decide) (Nat.le_of_ble_eq_true rfl) (Nat.le_of_ble_eq_true rfl) (Nat.le_of_ble_eq_true rfl) d_Me_init_16 (fun q1 H hP hD hS => ?_)
  have hP : va_P (dC, dI) classes [(q, .inr (2, [.ref q0, .null])), (q0, .inl (cI, 65536, .inl (fun _ => 0))), (q1, .inl (cI, 16384, .inl (fun _ => 0)))] H := hP
  have hD : va_D A ([(q, .inr (2, [.ref q0, .null])), (q0, .inl (cI, 65536, .inl (fun _ => 0))), (q1, .inl (cI, 16384, .inl (fun _ => 0)))] : va_W) := hD
  refine va_putF (D := (dC, dI)) (ci := 2) (v := .ref q1) (ty := .array .int) (C := R_Me) (T := F_Me) (N := 2) hx hb hts in_Me t_Me t_Me_ok n_Me hown hK hP hD hS 0 rfl rfl 1 (by decide) (hts _ m_1_20) (fun _ h9 => h9) rfl hin rfl (by decide +kernel) rfl rfl (Nat.le_of_ble_eq_true rfl) d_Me_init_18 (fun H locs hP hD hS => ?_)
  have hP : va_P (dC, dI) classes [(q, .inr (2, [.ref q0, .ref q1])), (q0, .inl (cI, 65536, .inl (fun _ => 0))), (q1, .inl (cI, 16384, .inl (fun _ => 0)))] H := hP
  have hD : va_D A ([(q, .inr (2, [.ref q0, .ref q1])), (q0, .inl (cI, 65536, .inl (fun _ => 0))), (q1, .inl (cI, 16384, .inl (fun _ => 0)))] : va_W) := hD
  refine lv_aload_n hx hb d_Me_init_21 rfl (lv_at hl 0 rfl) ?_
  have hP : va_P (dC, dI) classes (wE cI (fun k => match k with | 0 => q | 1 => q0 | _ => q1) u0) H := hP
  have hD : va_D A (wE cI (fun k => match k with | 0 => q | 1 => q0 | _ => q1) u0) := hD
  refine va_get (D := (dC, dI)) (ci := 2) (v := .ref q1) (C := R_Me) (T := F_Me) (N := 2) hx hb hts in_Me hown hK hP 0 rfl rfl 1 (by decide) (hts _ m_1_20) (fun _ h9 => h9) rfl d_Me_init_22 ?_
  refine lv_ldc (v := 65536) hx hb hown (hts _ m_0_34) d_Me_init_25 ?_
  refine W.widen (k := 2) (n := 81920) (Nat.le_of_ble_eq_true rfl) (Nat.le_of_ble_eq_true rfl) ?_
  refine callZv (va_runS (As := [.ref q1, .int 65536]) (rest := []) ⟨hx, hb, hml, hown, hts⟩ (c_Ar_fill1 l (dC, dI) classes [(cI, .int)] cI 0 rfl (wE cI (fun k => match k with | 0 => q | 1 => q0 | _ => q1) u0) 2 q1 16384 (aI u0 1) rfl (by decide) 65536 H.size) (va_cwS 2 hts (goodS m_0_35 m_0_36 m_0_4 m_0_37) rfl rfl rfl (by decide +kernel) ⟨Nat.le_of_ble_eq_true rfl, Nat.le_of_ble_eq_true rfl⟩) ⟨preZ_blind, preZ_ok hP hD hK⟩ rfl rfl hl.1 rfl (lv_room (Nat.le_of_ble_eq_true rfl)) d_Me_init_27 ⟨Nat.le_of_ble_eq_true rfl, Nat.le_of_ble_eq_true rfl⟩) hP hD hS hA (fun H locs hP hD hS => ?_)
  refine lv_aload_n hx hb d_Me_init_30 rfl (lv_at hl 0 rfl) ?_
  have hP : va_P (dC, dI) classes (wE cI (fun k => match k with | 0 => q | 1 => q0 | _ => q1) (fI u0 1 0 16384 65536)) H := hP
  have hD : va_D A (wE cI (fun k => match k with | 0 => q | 1 => q0 | _ => q1) (fI u0 1 0 16384 65536)) := hD
  refine W.widen (k := 2) (n := 81920) (Nat.le_of_ble_eq_true rfl) (Nat.le_of_ble_eq_true rfl) ?_
  refine callWv (Wd := wE cI (fun k => match k with | 0 => q | 1 => q0 | _ => q1)) (u := (fI u0 1 0 16384 65536)) (u' := fE_Me_reset (fI u0 1 0 16384 65536)) (va_runV (As := []) (rest := []) ⟨hx, hb, hml, hown, hts⟩ (cE_Me_reset l dC dI cI (fun k => match k with | 0 => q | 1 => q0 | _ => q1) (fI u0 1 0 16384 65536) H.size) (cwV 0 hts (goodV m_0_38 m_0_39 m_1_0 m_0_3 m_1_1) rfl rfl rfl (by decide +kernel) ⟨Nat.le_of_ble_eq_true rfl, Nat.le_of_ble_eq_true rfl⟩) ⟨preW_blind, va_recv hK hP (ci := 2) (q0 := 0) rfl rfl, preW_ok hP hD hK⟩ rfl rfl hl.1 rfl (lv_room (Nat.le_of_ble_eq_true rfl)) d_Me_init_31 ⟨Nat.le_of_ble_eq_true rfl, Nat.le_of_ble_eq_true rfl⟩) hP hD hS hA (fun H locs hP hD hS => ?_)
  exact W.vret hx hb hr (fun t ht hW => ⟨⟨(fun k => match k with | 0 => q | 1 => q0 | _ => q1), rfl, rfl, by rw [ht]; exact hP, va_K.moved hW.alike hK, hD⟩, hS.F ht⟩) hS.2.2 d_Me_init_34 hlocks
