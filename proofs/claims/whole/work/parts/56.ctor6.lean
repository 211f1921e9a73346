theorem d_Ma_init_0 : decode b_Ma_init 0 = .ok (.aload_n 0, 1) := by decide +kernel
theorem d_Ma_init_1 : decode b_Ma_init 1 = .ok (.invokespecial 3, 3) := by decide +kernel
theorem d_Ma_init_4 : decode b_Ma_init 4 = .ok (.aload_n 0, 1) := by decide +kernel
theorem d_Ma_init_5 : decode b_Ma_init 5 = .ok (.new 9, 3) := by decide +kernel
theorem d_Ma_init_8 : decode b_Ma_init 8 = .ok (.dup, 1) := by decide +kernel
theorem d_Ma_init_9 : decode b_Ma_init 9 = .ok (.invokespecial 11, 3) := by decide +kernel
theorem d_Ma_init_12 : decode b_Ma_init 12 = .ok (.putfield 12, 3) := by decide +kernel
theorem d_Ma_init_15 : decode b_Ma_init 15 = .ok (.aload_n 0, 1) := by decide +kernel
theorem d_Ma_init_16 : decode b_Ma_init 16 = .ok (.new 18, 3) := by decide +kernel
theorem d_Ma_init_19 : decode b_Ma_init 19 = .ok (.dup, 1) := by decide +kernel
theorem d_Ma_init_20 : decode b_Ma_init 20 = .ok (.invokespecial 20, 3) := by decide +kernel
theorem d_Ma_init_23 : decode b_Ma_init 23 = .ok (.putfield 21, 3) := by decide +kernel
theorem d_Ma_init_26 : decode b_Ma_init 26 = .ok (.aload_n 0, 1) := by decide +kernel
theorem d_Ma_init_27 : decode b_Ma_init 27 = .ok (.new 25, 3) := by decide +kernel
theorem d_Ma_init_30 : decode b_Ma_init 30 = .ok (.dup, 1) := by decide +kernel
theorem d_Ma_init_31 : decode b_Ma_init 31 = .ok (.invokespecial 27, 3) := by decide +kernel
theorem d_Ma_init_34 : decode b_Ma_init 34 = .ok (.putfield 28, 3) := by decide +kernel
theorem d_Ma_init_37 : decode b_Ma_init 37 = .ok (.aload_n 0, 1) := by decide +kernel
theorem d_Ma_init_38 : decode b_Ma_init 38 = .ok (.new 32, 3) := by decide +kernel
theorem d_Ma_init_41 : decode b_Ma_init 41 = .ok (.dup, 1) := by decide +kernel
theorem d_Ma_init_42 : decode b_Ma_init 42 = .ok (.invokespecial 34, 3) := by decide +kernel
theorem d_Ma_init_45 : decode b_Ma_init 45 = .ok (.putfield 35, 3) := by decide +kernel
theorem d_Ma_init_48 : decode b_Ma_init 48 = .ok (.return_, 1) := by decide +kernel
abbrev ZM : Type := (Nat → Nat) × (Nat → Nat) × (Nat × (Nat → Nat)) × (Nat × (Nat → Nat))
def wI_Ma (cI : ClassId) (q : Nat) (z : ZM) : va_W := wI_Ho cI z.2.2.2.1 z.2.2.2.2 ++ (wI_Rp cI z.2.2.1.1 z.2.2.1.2 ++ (wG cI z.2.1 (fG_Rg_reset u0) ++ (wE cI z.1 (fE_Me_reset (fI u0 1 0 16384 65536)) ++ [(q, .inr (1, [.ref (z.1 0), .ref (z.2.1 0), .ref z.2.2.1.1, .ref z.2.2.2.1, .int 0, .int 0, .int 0, .int 0, .int 0, .int 0]))])))
def w_Ma_init : List Cond := .code y_Ma_init b_Ma_init 1 none :: ALLW
def rm_Ma_init : Room := { frames := 60, cells := 20, slots := 96801, locals := 2500 }
set_option maxHeartbeats 400000 in
set_option maxRecDepth 100000 in
theorem c_Ma_init (l : Launch) (dC : Nat → ClassId) (dI : Nat → Nat → Nat) (cI : ClassId) (q sz : Nat) : Met l y_Ma_init w_Ma_init rm_Ma_init (fun a U => PreC (dC, dI) classes [(cI, .int)] [(q, .inr (1, [.null, .null, .null, .null, .int 0, .int 0, .int 0, .int 0, .int 0, .int 0]))] q sz a U ∧ nwS U) (va_Qv (fun _ : ZM => True) (BG (dC, dI) classes [(cI, .int)] (wI_Ma cI q) (va_A [(q, .inr (1, [.null, .null, .null, .null, .int 0, .int 0, .int 0, .int 0, .int 0, .int 0]))] sz)) (va_A [(q, .inr (1, [.null, .null, .null, .null, .int 0, .int 0, .int 0, .int 0, .int 0, .int 0]))] sz)) 20 96801 (va_A [(q, .inr (1, [.null, .null, .null, .null, .int 0, .int 0, .int 0, .int 0, .int 0, .int 0]))] sz) := by
  refine Met.ofW (cc := b_Ma_init) (maxL := 1) (ret := none) (by decide) rfl ?_
  intro p e s m args below meth c s₁ B hml hv
  obtain ⟨⟨rfl, rfl, hP, hK, hD0⟩, hnw⟩ := hv
  have hx := B.exec
  have hb := B.bytes
  have hr := B.returns
  have hts : ∀ w9 ∈ ALLW, w9.before ([.ref q] : List Value).toArray s = true := fun w9 h => atoms_spec (ws := w_Ma_init) B.pre w9 (List.mem_cons_of_mem _ h)
  have hown : s.vm.findClass R_Ma = some m.cls := findClass_of_methodNamed B.named
  have hlocks := B.notSynchronized
  have hin : meth.name = "<init>" := (name_of_methodNamed B.named B.method).1
  have hD := hD0.self (sz := s.heap.size)
  generalize hAe : va_A ([(q, .inr (1, [.null, .null, .null, .null, .int 0, .int 0, .int 0, .int 0, .int 0, .int 0]))] : va_W) s.heap.size = A at hD ⊢
  have hA : ∀ q : Nat, s.heap.size ≤ q → A q := fun q h => by rw [← hAe]; exact Or.inr h
  have hS : va_S A s.heap s.heap [] := va_S.rf
  have hP : va_P (dC, dI) classes [(q, .inr (1, [.null, .null, .null, .null, .int 0, .int 0, .int 0, .int 0, .int 0, .int 0]))] s.heap := hP
  have hl := lv_entry ([.ref q]) (n := 1) (Nat.le_of_ble_eq_true rfl)
  rw [lg_entry_eq]
  generalize (lg_sl ([.ref q]) ++ List.replicate (1 - (lg_sl ([.ref q])).length) Slot.unset).toArray = ls at hl ⊢
  have hl : lv_has ls 1 [(0, .ref q)] := hl
  refine lv_aload_n hx hb d_Ma_init_0 rfl (lv_at hl 0 rfl) ?_
  refine W.objInit hx hb hown (hts _ m_0_27) (hts _ m_0_21) (hts _ m_0_22) rfl (by rw [hml]; exact hl.1) rfl d_Ma_init_1 (Nat.le_of_ble_eq_true rfl) (Nat.le_of_ble_eq_true rfl) ?_
  refine W.eq (g2 := F0 m 4 ls []) rfl ?_
  refine lv_aload_n hx hb d_Ma_init_4 rfl (lv_at hl 0 rfl) ?_
  refine va_new (D := (dC, dI)) (ci := 2) (fs := [.null, .null]) (C := R_Me) (T := F_Me) (N := 2) hx hb hts in_Me t_Me t_Me_ok hown (hts _ m_0_28) (hts _ m_0_29) (hts _ m_0_3) hK hP hD hS hA rfl (fun j hj => by rcases (show j = 0 ∨ j = 1 by omega) with rfl | rfl <;> rfl) (Nat.le_of_ble_eq_true rfl) (Nat.le_of_ble_eq_true rfl) d_Ma_init_5 (fun b0 H hP hD hS => ?_)
  refine lv_dup hx hb d_Ma_init_8 rfl ?_
  have hP := pv_swap hP
  have hD := dv_swap hD
  refine W.widen (k := 1) (n := 2) (Nat.le_of_ble_eq_true rfl) (Nat.le_of_ble_eq_true rfl) ?_
  refine callCv (Wd := fun ad => wE cI ad (fE_Me_reset (fI u0 1 0 16384 65536))) (W0 := [(b0, .inr (2, [.null, .null]))]) (tys := [(cI, .int)]) (va_runI (As := []) (rest := [.ref b0, .ref q]) ⟨hx, hb, hml, hown, hts⟩ (c_Me_init l dC dI cI b0 H.size) (cwI 0 hts (goodA (c1 := .tt) m_0_32) rfl rfl rfl (hts _ m_0_3) (hts _ m_0_30) (hts _ m_0_31) rfl (by decide +kernel) ⟨Nat.le_of_ble_eq_true rfl, Nat.le_of_ble_eq_true rfl⟩) ⟨preC_blind, preC_ok (pv_l hP) (dv_l hD) hK⟩ rfl rfl hl.1 rfl (lv_room (Nat.le_of_ble_eq_true rfl)) d_Ma_init_9 ⟨Nat.le_of_ble_eq_true rfl, Nat.le_of_ble_eq_true rfl⟩) hP hD hS hA (fun h0 H locs e0 hP9 hD9 hS9 => ?_)
  subst e0
  have hP : va_P (dC, dI) classes (wE cI h0 (fE_Me_reset (fI u0 1 0 16384 65536)) ++ [(q, .inr (1, [.null, .null, .null, .null, .int 0, .int 0, .int 0, .int 0, .int 0, .int 0]))]) H := hP9
  have hD : va_D A (wE cI h0 (fE_Me_reset (fI u0 1 0 16384 65536)) ++ [(q, .inr (1, [.null, .null, .null, .null, .int 0, .int 0, .int 0, .int 0, .int 0, .int 0]))]) := hD9
  have hS := hS9
  refine va_putF (D := (dC, dI)) (ci := 1) (v := .ref (h0 0)) (ty := .object "ShadowHost$Memory") (C := R_Ma) (T := F_Ma) (N := 10) hx hb hts in_Ma t_Ma t_Ma_ok n_Ma hown hK hP hD hS 3 rfl rfl 0 (by decide) (hts _ m_4_10) (fun _ h9 => h9) rfl hin rfl (by decide +kernel) rfl rfl (Nat.le_of_ble_eq_true rfl) d_Ma_init_12 (fun H locs hP hD hS => ?_)
  have hP : va_P (dC, dI) classes (wE cI h0 (fE_Me_reset (fI u0 1 0 16384 65536)) ++ [(q, .inr (1, [.ref (h0 0), .null, .null, .null, .int 0, .int 0, .int 0, .int 0, .int 0, .int 0]))]) H := hP
  have hD : va_D A (wE cI h0 (fE_Me_reset (fI u0 1 0 16384 65536)) ++ [(q, .inr (1, [.ref (h0 0), .null, .null, .null, .int 0, .int 0, .int 0, .int 0, .int 0, .int 0]))]) := hD
  refine lv_aload_n hx hb d_Ma_init_15 rfl (lv_at hl 0 rfl) ?_
  refine va_new (D := (dC, dI)) (ci := 3) (fs := [.null, .null]) (C := R_Rg) (T := F_Rg) (N := 2) hx hb hts in_Rg t_Rg t_Rg_ok hown (hts _ m_1_23) (hts _ m_1_24) (hts _ m_0_7) hK hP hD hS hA rfl (fun j hj => by rcases (show j = 0 ∨ j = 1 by omega) with rfl | rfl <;> rfl) (Nat.le_of_ble_eq_true rfl) (Nat.le_of_ble_eq_true rfl) d_Ma_init_16 (fun b1 H hP hD hS => ?_)
  refine lv_dup hx hb d_Ma_init_19 rfl ?_
  have hP := pv_swap hP
  have hD := dv_swap hD
  refine W.widen (k := 4) (n := 81924) (Nat.le_of_ble_eq_true rfl) (Nat.le_of_ble_eq_true rfl) ?_
  refine callCv (Wd := fun ad => wG cI ad (fG_Rg_reset u0)) (W0 := [(b1, .inr (3, [.null, .null]))]) (tys := [(cI, .int)]) (va_runI (As := []) (rest := [.ref b1, .ref q]) ⟨hx, hb, hml, hown, hts⟩ (c_Rg_init l dC dI cI b1 H.size) (cwI 0 hts (goodA (c1 := .tt) m_1_27) rfl rfl rfl (hts _ m_0_7) (hts _ m_1_25) (hts _ m_1_26) rfl (by decide +kernel) ⟨Nat.le_of_ble_eq_true rfl, Nat.le_of_ble_eq_true rfl⟩) ⟨preC_blind, preC_ok (pv_l hP) (dv_l hD) hK⟩ rfl rfl hl.1 rfl (lv_room (Nat.le_of_ble_eq_true rfl)) d_Ma_init_20 ⟨Nat.le_of_ble_eq_true rfl, Nat.le_of_ble_eq_true rfl⟩) hP hD hS hA (fun h1 H locs e1 hP9 hD9 hS9 => ?_)
  subst e1
  have hP : va_P (dC, dI) classes (wG cI h1 (fG_Rg_reset u0) ++ (wE cI h0 (fE_Me_reset (fI u0 1 0 16384 65536)) ++ [(q, .inr (1, [.ref (h0 0), .null, .null, .null, .int 0, .int 0, .int 0, .int 0, .int 0, .int 0]))])) H := hP9
  have hD : va_D A (wG cI h1 (fG_Rg_reset u0) ++ (wE cI h0 (fE_Me_reset (fI u0 1 0 16384 65536)) ++ [(q, .inr (1, [.ref (h0 0), .null, .null, .null, .int 0, .int 0, .int 0, .int 0, .int 0, .int 0]))])) := hD9
  have hS := hS9
  refine va_putF (D := (dC, dI)) (ci := 1) (v := .ref (h1 0)) (ty := .object "ShadowHost$Registers") (C := R_Ma) (T := F_Ma) (N := 10) hx hb hts in_Ma t_Ma t_Ma_ok n_Ma hown hK hP hD hS 6 rfl rfl 1 (by decide) (hts _ m_4_12) (fun _ h9 => h9) rfl hin rfl (by decide +kernel) rfl rfl (Nat.le_of_ble_eq_true rfl) d_Ma_init_23 (fun H locs hP hD hS => ?_)
  have hP : va_P (dC, dI) classes (wG cI h1 (fG_Rg_reset u0) ++ (wE cI h0 (fE_Me_reset (fI u0 1 0 16384 65536)) ++ [(q, .inr (1, [.ref (h0 0), .ref (h1 0), .null, .null, .int 0, .int 0, .int 0, .int 0, .int 0, .int 0]))])) H := hP
  have hD : va_D A (wG cI h1 (fG_Rg_reset u0) ++ (wE cI h0 (fE_Me_reset (fI u0 1 0 16384 65536)) ++ [(q, .inr (1, [.ref (h0 0), .ref (h1 0), .null, .null, .int 0, .int 0, .int 0, .int 0, .int 0, .int 0]))])) := hD
  refine lv_aload_n hx hb d_Ma_init_26 rfl (lv_at hl 0 rfl) ?_
  refine va_new (D := (dC, dI)) (ci := 4) (fs := [.null, .int 0, .int 0, .null, .int 0, .int 0]) (C := R_Rp) (T := F_Rp) (N := 6) hx hb hts in_Rp t_Rp t_Rp_ok hown (hts _ m_2_5) (hts _ m_2_6) (hts _ m_0_8) hK hP hD hS hA rfl (fun j hj => by rcases (show j = 0 ∨ j = 1 ∨ j = 2 ∨ j = 3 ∨ j = 4 ∨ j = 5 by omega) with rfl | rfl | rfl | rfl | rfl | rfl <;> rfl) (Nat.le_of_ble_eq_true rfl) (Nat.le_of_ble_eq_true rfl) d_Ma_init_27 (fun b2 H hP hD hS => ?_)
  refine lv_dup hx hb d_Ma_init_30 rfl ?_
  have hP := pv_swap hP
  have hD := dv_swap hD
  refine W.widen (k := 7) (n := 81994) (Nat.le_of_ble_eq_true rfl) (Nat.le_of_ble_eq_true rfl) ?_
  refine callCv (Wd := wI_Rp cI b2) (W0 := [(b2, .inr (4, [.null, .int 0, .int 0, .null, .int 0, .int 0]))]) (tys := [(cI, .int)]) (va_runIN (As := []) (rest := [.ref b2, .ref q]) ⟨hx, hb, hml, hown, hts⟩ (c_Rp_init l dC dI cI b2 H.size) ⟨va_cnB (host := "ShadowHost") 0 hts (goodA (c1 := .tt) m_2_8) rfl rfl rfl (hnw _ (by simp [NWW])) (hts _ m_0_8) (by decide +kernel) ⟨Nat.le_of_ble_eq_true rfl, Nat.le_of_ble_eq_true rfl⟩, rfl, hts _ m_2_7⟩ ⟨preC_blind, preC_ok (pv_l hP) (dv_l hD) hK⟩ rfl rfl hl.1 rfl (lv_room (Nat.le_of_ble_eq_true rfl)) d_Ma_init_31 ⟨Nat.le_of_ble_eq_true rfl, Nat.le_of_ble_eq_true rfl⟩) hP hD hS hA (fun h2 H locs e2 hP9 hD9 hS9 => ?_)
  have hP : va_P (dC, dI) classes (wI_Rp cI b2 h2 ++ (wG cI h1 (fG_Rg_reset u0) ++ (wE cI h0 (fE_Me_reset (fI u0 1 0 16384 65536)) ++ [(q, .inr (1, [.ref (h0 0), .ref (h1 0), .null, .null, .int 0, .int 0, .int 0, .int 0, .int 0, .int 0]))]))) H := hP9
  have hD : va_D A (wI_Rp cI b2 h2 ++ (wG cI h1 (fG_Rg_reset u0) ++ (wE cI h0 (fE_Me_reset (fI u0 1 0 16384 65536)) ++ [(q, .inr (1, [.ref (h0 0), .ref (h1 0), .null, .null, .int 0, .int 0, .int 0, .int 0, .int 0, .int 0]))]))) := hD9
  have hS := hS9
  refine va_putF (D := (dC, dI)) (ci := 1) (v := .ref (b2)) (ty := .object "ShadowHost$Report") (C := R_Ma) (T := F_Ma) (N := 10) hx hb hts in_Ma t_Ma t_Ma_ok n_Ma hown hK hP hD hS 9 rfl rfl 2 (by decide) (hts _ m_4_14) (fun _ h9 => h9) rfl hin rfl (by decide +kernel) rfl rfl (Nat.le_of_ble_eq_true rfl) d_Ma_init_34 (fun H locs hP hD hS => ?_)
  have hP : va_P (dC, dI) classes (wI_Rp cI b2 h2 ++ (wG cI h1 (fG_Rg_reset u0) ++ (wE cI h0 (fE_Me_reset (fI u0 1 0 16384 65536)) ++ [(q, .inr (1, [.ref (h0 0), .ref (h1 0), .ref (b2), .null, .int 0, .int 0, .int 0, .int 0, .int 0, .int 0]))]))) H := hP
  have hD : va_D A (wI_Rp cI b2 h2 ++ (wG cI h1 (fG_Rg_reset u0) ++ (wE cI h0 (fE_Me_reset (fI u0 1 0 16384 65536)) ++ [(q, .inr (1, [.ref (h0 0), .ref (h1 0), .ref (b2), .null, .int 0, .int 0, .int 0, .int 0, .int 0, .int 0]))]))) := hD
  refine lv_aload_n hx hb d_Ma_init_37 rfl (lv_at hl 0 rfl) ?_
  refine va_new (D := (dC, dI)) (ci := 5) (fs := [.null, .null]) (C := R_Ho) (T := F_Ho) (N := 2) hx hb hts in_Ho t_Ho t_Ho_ok hown (hts _ m_2_26) (hts _ m_2_27) (hts _ m_0_9) hK hP hD hS hA rfl (fun j hj => by rcases (show j = 0 ∨ j = 1 by omega) with rfl | rfl <;> rfl) (Nat.le_of_ble_eq_true rfl) (Nat.le_of_ble_eq_true rfl) d_Ma_init_38 (fun b3 H hP hD hS => ?_)
  refine lv_dup hx hb d_Ma_init_41 rfl ?_
  have hP := pv_swap hP
  have hD := dv_swap hD
  refine W.widen (k := 10) (n := 82448) (Nat.le_of_ble_eq_true rfl) (Nat.le_of_ble_eq_true rfl) ?_
  refine callCv (Wd := wI_Ho cI b3) (W0 := [(b3, .inr (5, [.null, .null]))]) (tys := [(cI, .int)]) (va_runIN (As := []) (rest := [.ref b3, .ref q]) ⟨hx, hb, hml, hown, hts⟩ (c_Ho_init l dC dI cI b3 H.size) ⟨va_cnB (host := "ShadowHost") 0 hts (goodA (c1 := .tt) m_2_29) rfl rfl rfl (hnw _ (by simp [NWW])) (hts _ m_0_9) (by decide +kernel) ⟨Nat.le_of_ble_eq_true rfl, Nat.le_of_ble_eq_true rfl⟩, rfl, hts _ m_2_28⟩ ⟨fun a U g mk q9 => ⟨preC_blind a U g mk q9.1, q9.2.calling⟩, fun U hU hW => ⟨preC_ok (pv_l hP) (dv_l hD) hK U hU hW, hnw.warm hW⟩⟩ rfl rfl hl.1 rfl (lv_room (Nat.le_of_ble_eq_true rfl)) d_Ma_init_42 ⟨Nat.le_of_ble_eq_true rfl, Nat.le_of_ble_eq_true rfl⟩) hP hD hS hA (fun h3 H locs e3 hP9 hD9 hS9 => ?_)
  have hP : va_P (dC, dI) classes (wI_Ho cI b3 h3 ++ (wI_Rp cI b2 h2 ++ (wG cI h1 (fG_Rg_reset u0) ++ (wE cI h0 (fE_Me_reset (fI u0 1 0 16384 65536)) ++ [(q, .inr (1, [.ref (h0 0), .ref (h1 0), .ref (b2), .null, .int 0, .int 0, .int 0, .int 0, .int 0, .int 0]))])))) H := hP9
  have hD : va_D A (wI_Ho cI b3 h3 ++ (wI_Rp cI b2 h2 ++ (wG cI h1 (fG_Rg_reset u0) ++ (wE cI h0 (fE_Me_reset (fI u0 1 0 16384 65536)) ++ [(q, .inr (1, [.ref (h0 0), .ref (h1 0), .ref (b2), .null, .int 0, .int 0, .int 0, .int 0, .int 0, .int 0]))])))) := hD9
  have hS := hS9
  refine va_putF (D := (dC, dI)) (ci := 1) (v := .ref (b3)) (ty := .object "ShadowHost$Host") (C := R_Ma) (T := F_Ma) (N := 10) hx hb hts in_Ma t_Ma t_Ma_ok n_Ma hown hK hP hD hS 20 rfl rfl 3 (by decide) (hts _ m_4_16) (fun _ h9 => h9) rfl hin rfl (by decide +kernel) rfl rfl (Nat.le_of_ble_eq_true rfl) d_Ma_init_45 (fun H locs hP hD hS => ?_)
  have hP : va_P (dC, dI) classes (wI_Ho cI b3 h3 ++ (wI_Rp cI b2 h2 ++ (wG cI h1 (fG_Rg_reset u0) ++ (wE cI h0 (fE_Me_reset (fI u0 1 0 16384 65536)) ++ [(q, .inr (1, [.ref (h0 0), .ref (h1 0), .ref (b2), .ref (b3), .int 0, .int 0, .int 0, .int 0, .int 0, .int 0]))])))) H := hP
  have hD : va_D A (wI_Ho cI b3 h3 ++ (wI_Rp cI b2 h2 ++ (wG cI h1 (fG_Rg_reset u0) ++ (wE cI h0 (fE_Me_reset (fI u0 1 0 16384 65536)) ++ [(q, .inr (1, [.ref (h0 0), .ref (h1 0), .ref (b2), .ref (b3), .int 0, .int 0, .int 0, .int 0, .int 0, .int 0]))])))) := hD
  refine W.widen (k := 20) (n := 96801) (Nat.le_of_ble_eq_true rfl) (Nat.le_of_ble_eq_true rfl) ?_
  exact W.vret hx hb hr (fun t ht hW => ⟨⟨(h0, h1, (b2, h2), (b3, h3)), rfl, trivial, by rw [ht]; exact hP, va_K.moved hW.alike hK, hD⟩, hS.F ht⟩) hS.2.2 d_Ma_init_48 hlocks
