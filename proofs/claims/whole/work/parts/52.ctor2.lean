def u0 : S5 := (fun _ => 0, fun _ => 0, fun _ _ => 0, fun _ _ => 0, fun _ _ => false)
theorem d_Rg_init_0 : decode b_Rg_init 0 = .ok (.aload_n 0, 1) := by decide +kernel
theorem d_Rg_init_1 : decode b_Rg_init 1 = .ok (.invokespecial 3, 3) := by decide +kernel
theorem d_Rg_init_4 : decode b_Rg_init 4 = .ok (.aload_n 0, 1) := by decide +kernel
theorem d_Rg_init_5 : decode b_Rg_init 5 = .ok (.bipush 32, 2) := by decide +kernel
theorem d_Rg_init_7 : decode b_Rg_init 7 = .ok (.newarray .int, 2) := by decide +kernel
theorem d_Rg_init_9 : decode b_Rg_init 9 = .ok (.putfield 9, 3) := by decide +kernel
theorem d_Rg_init_12 : decode b_Rg_init 12 = .ok (.aload_n 0, 1) := by decide +kernel
theorem d_Rg_init_13 : decode b_Rg_init 13 = .ok (.bipush 32, 2) := by decide +kernel
theorem d_Rg_init_15 : decode b_Rg_init 15 = .ok (.newarray .int, 2) := by decide +kernel
theorem d_Rg_init_17 : decode b_Rg_init 17 = .ok (.putfield 15, 3) := by decide +kernel
theorem d_Rg_init_20 : decode b_Rg_init 20 = .ok (.aload_n 0, 1) := by decide +kernel
theorem d_Rg_init_21 : decode b_Rg_init 21 = .ok (.invokevirtual 18, 3) := by decide +kernel
theorem d_Rg_init_24 : decode b_Rg_init 24 = .ok (.return_, 1) := by decide +kernel
def wI_Rg (cI : ClassId) (q : Nat) (h : Nat → Nat) : va_W := [(q, .inr (3, [.ref (h 0), .ref (h 1)])), (h 0, .inl (cI, 32, .inl (fun _ => 0))), (h 1, .inl (cI, 32, .inl (fun _ => 0)))]
def w_Rg_init : List Cond := .code y_Rg_init b_Rg_init 1 none :: ALLW
def rm_Rg_init : Room := { frames := 40, cells := 2, slots := 64, locals := 1500 }
set_option maxHeartbeats 400000 in
set_option maxRecDepth 100000 in
theorem c_Rg_init (l : Launch) (dC : Nat → ClassId) (dI : Nat → Nat → Nat) (cI : ClassId) (q sz : Nat) : Met l y_Rg_init w_Rg_init rm_Rg_init (va_Pc [.ref q] (fun U => U.heap.size = sz ∧ va_P (dC, dI) classes [(q, .inr (3, [.null, .null]))] U.heap ∧ va_K (dC, dI) classes [(cI, .int)] U ∧ va_D (fun _ => True) ([(q, .inr (3, [.null, .null]))] : va_W))) (va_Qv (fun ad : Nat → Nat => ad 0 = q) (BG (dC, dI) classes [(cI, .int)] (fun ad => wG cI ad (fG_Rg_reset u0)) (va_A [(q, .inr (3, [.null, .null]))] sz)) (va_A [(q, .inr (3, [.null, .null]))] sz)) 2 64 (va_A [(q, .inr (3, [.null, .null]))] sz) := by
  refine Met.ofW (cc := b_Rg_init) (maxL := 1) (ret := none) (by decide) rfl ?_
  intro p e s m args below meth c s₁ B hml hv
  obtain ⟨rfl, rfl, hP, hK, hD0⟩ := hv
  have hx := B.exec
  have hb := B.bytes
  have hr := B.returns
  have hts : ∀ w9 ∈ ALLW, w9.before ([.ref q] : List Value).toArray s = true := fun w9 h => atoms_spec (ws := w_Rg_init) B.pre w9 (List.mem_cons_of_mem _ h)
  have hown : s.vm.findClass R_Rg = some m.cls := findClass_of_methodNamed B.named
  have hlocks := B.notSynchronized
  have hin : meth.name = "<init>" := (name_of_methodNamed B.named B.method).1
  have hD := hD0.self (sz := s.heap.size)
  generalize hAe : va_A ([(q, .inr (3, [.null, .null]))] : va_W) s.heap.size = A at hD ⊢
  have hA : ∀ q : Nat, s.heap.size ≤ q → A q := fun q h => by rw [← hAe]; exact Or.inr h
  have hS : va_S A s.heap s.heap [] := va_S.rf
  have hP : va_P (dC, dI) classes [(q, .inr (3, [.null, .null]))] s.heap := hP
  have hl := lv_entry ([.ref q]) (n := 1) (Nat.le_of_ble_eq_true rfl)
  rw [lg_entry_eq]
  generalize (lg_sl ([.ref q]) ++ List.replicate (1 - (lg_sl ([.ref q])).length) Slot.unset).toArray = ls at hl ⊢
  have hl : lv_has ls 1 [(0, .ref q)] := hl
  refine lv_aload_n hx hb d_Rg_init_0 rfl (lv_at hl 0 rfl) ?_
  refine W.objInit hx hb hown (hts _ m_1_28) (hts _ m_0_21) (hts _ m_0_22) rfl (by rw [hml]; exact hl.1) rfl d_Rg_init_1 (Nat.le_of_ble_eq_true rfl) (Nat.le_of_ble_eq_true rfl) ?_
  refine W.eq (g2 := F0 m 4 ls []) rfl ?_
  refine lv_aload_n hx hb d_Rg_init_4 rfl (lv_at hl 0 rfl) ?_
  refine lv_bipush (v := 32) hx hb d_Rg_init_5 (by decide) ?_
  refine newI (atype := .int) (ty := .int) (a0 := (32, .inl (fun _ => 0))) (N' := 32) hx hb (hts _ m_1_12) rfl hK hP hD hS hA 0 rfl ra_int (fun _ => rfl) (by decide) (by decide) (Nat.le_of_ble_eq_true rfl) (Nat.le_of_ble_eq_true rfl) (Nat.le_of_ble_eq_true rfl) d_Rg_init_7 (fun q0 H hP hD hS => ?_)
  have hP : va_P (dC, dI) classes [(q, .inr (3, [.null, .null])), (q0, .inl (cI, 32, .inl (fun _ => 0)))] H := hP
  have hD : va_D A ([(q, .inr (3, [.null, .null])), (q0, .inl (cI, 32, .inl (fun _ => 0)))] : va_W) := hD
  refine va_putF (D := (dC, dI)) (ci := 3) (v := .ref q0) (ty := .array .int) (C := R_Rg) (T := F_Rg) (N := 2) hx hb hts in_Rg t_Rg t_Rg_ok n_Rg hown hK hP hD hS 0 rfl rfl 0 (by decide) (hts _ m_1_35) (fun _ h9 => h9) rfl hin rfl (by decide +kernel) rfl rfl (Nat.le_of_ble_eq_true rfl) d_Rg_init_9 (fun H locs hP hD hS => ?_)
  have hP : va_P (dC, dI) classes [(q, .inr (3, [.ref q0, .null])), (q0, .inl (cI, 32, .inl (fun _ => 0)))] H := hP
  have hD : va_D A ([(q, .inr (3, [.ref q0, .null])), (q0, .inl (cI, 32, .inl (fun _ => 0)))] : va_W) := hD
  refine lv_aload_n hx hb d_Rg_init_12 rfl (lv_at hl 0 rfl) ?_
  refine lv_bipush (v := 32) hx hb d_Rg_init_13 (by decide) ?_
  refine newI (atype := .int) (ty := .int) (a0 := (32, .inl (fun _ => 0))) (N' := 32) hx hb (hts _ m_1_12) rfl hK hP hD hS hA 0 rfl ra_int (fun _ => rfl) (by decide) (by decide) (Nat.le_of_ble_eq_true rfl) (Nat.le_of_ble_eq_true rfl) (Nat.le_of_ble_eq_true rfl) d_Rg_init_15 (fun q1 H hP hD hS => ?_)
  have hP : va_P (dC, dI) classes [(q, .inr (3, [.ref q0, .null])), (q0, .inl (cI, 32, .inl (fun _ => 0))), (q1, .inl (cI, 32, .inl (fun _ => 0)))] H := hP
  have hD : va_D A ([(q, .inr (3, [.ref q0, .null])), (q0, .inl (cI, 32, .inl (fun _ => 0))), (q1, .inl (cI, 32, .inl (fun _ => 0)))] : va_W) := hD
  refine va_putF (D := (dC, dI)) (ci := 3) (v := .ref q1) (ty := .array .int) (C := R_Rg) (T := F_Rg) (N := 2) hx hb hts in_Rg t_Rg t_Rg_ok n_Rg hown hK hP hD hS 0 rfl rfl 1 (by decide) (hts _ m_1_39) (fun _ h9 => h9) rfl hin rfl (by decide +kernel) rfl rfl (Nat.le_of_ble_eq_true rfl) d_Rg_init_17 (fun H locs hP hD hS => ?_)
  have hP : va_P (dC, dI) classes [(q, .inr (3, [.ref q0, .ref q1])), (q0, .inl (cI, 32, .inl (fun _ => 0))), (q1, .inl (cI, 32, .inl (fun _ => 0)))] H := hP
  have hD : va_D A ([(q, .inr (3, [.ref q0, .ref q1])), (q0, .inl (cI, 32, .inl (fun _ => 0))), (q1, .inl (cI, 32, .inl (fun _ => 0)))] : va_W) := hD
  refine lv_aload_n hx hb d_Rg_init_20 rfl (lv_at hl 0 rfl) ?_
  have hP : va_P (dC, dI) classes (wG cI (fun k => match k with | 0 => q | 1 => q0 | _ => q1) u0) H := hP
  have hD : va_D A (wG cI (fun k => match k with | 0 => q | 1 => q0 | _ => q1) u0) := hD
  refine W.widen (k := 2) (n := 64) (Nat.le_of_ble_eq_true rfl) (Nat.le_of_ble_eq_true rfl) ?_
  refine callWv (Wd := wG cI (fun k => match k with | 0 => q | 1 => q0 | _ => q1)) (u := u0) (u' := fG_Rg_reset u0) (va_runV (As := []) (rest := []) ⟨hx, hb, hml, hown, hts⟩ (cG_Rg_reset l dC dI cI (fun k => match k with | 0 => q | 1 => q0 | _ => q1) u0 H.size) (cwV 0 hts (goodV m_1_29 m_1_30 m_1_31 m_0_7 m_1_32) rfl rfl rfl (by decide +kernel) ⟨Nat.le_of_ble_eq_true rfl, Nat.le_of_ble_eq_true rfl⟩) ⟨preW_blind, va_recv hK hP (ci := 3) (q0 := 0) rfl rfl, preW_ok hP hD hK⟩ rfl rfl hl.1 rfl (lv_room (Nat.le_of_ble_eq_true rfl)) d_Rg_init_21 ⟨Nat.le_of_ble_eq_true rfl, Nat.le_of_ble_eq_true rfl⟩) hP hD hS hA (fun H locs hP hD hS => ?_)
  exact W.vret hx hb hr (fun t ht hW => ⟨⟨(fun k => match k with | 0 => q | 1 => q0 | _ => q1), rfl, rfl, by rw [ht]; exact hP, va_K.moved hW.alike hK, hD⟩, hS.F ht⟩) hS.2.2 d_Rg_init_24 hlocks
