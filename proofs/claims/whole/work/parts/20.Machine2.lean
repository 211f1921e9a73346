def w_Ma_reset : List Cond := .code y_Ma_reset b_Ma_reset 1 none :: ALLW
def rm_Ma_reset : Room := { frames := 23, cells := 0, slots := 0, locals := 666 }
theorem d_Ma_reset_0 : decode b_Ma_reset 0 = .ok (.aload_n 0, 1) := by decide +kernel
theorem d_Ma_reset_1 : decode b_Ma_reset 1 = .ok (.getfield 12, 3) := by decide +kernel
theorem d_Ma_reset_4 : decode b_Ma_reset 4 = .ok (.invokevirtual 39, 3) := by decide +kernel
theorem d_Ma_reset_7 : decode b_Ma_reset 7 = .ok (.aload_n 0, 1) := by decide +kernel
theorem d_Ma_reset_8 : decode b_Ma_reset 8 = .ok (.getfield 21, 3) := by decide +kernel
theorem d_Ma_reset_11 : decode b_Ma_reset 11 = .ok (.invokevirtual 42, 3) := by decide +kernel
theorem d_Ma_reset_14 : decode b_Ma_reset 14 = .ok (.aload_n 0, 1) := by decide +kernel
theorem d_Ma_reset_15 : decode b_Ma_reset 15 = .ok (.getfield 28, 3) := by decide +kernel
theorem d_Ma_reset_18 : decode b_Ma_reset 18 = .ok (.invokevirtual 43, 3) := by decide +kernel
theorem d_Ma_reset_21 : decode b_Ma_reset 21 = .ok (.aload_n 0, 1) := by decide +kernel
theorem d_Ma_reset_22 : decode b_Ma_reset 22 = .ok (.getfield 35, 3) := by decide +kernel
theorem d_Ma_reset_25 : decode b_Ma_reset 25 = .ok (.invokevirtual 44, 3) := by decide +kernel
theorem d_Ma_reset_28 : decode b_Ma_reset 28 = .ok (.aload_n 0, 1) := by decide +kernel
theorem d_Ma_reset_29 : decode b_Ma_reset 29 = .ok (.iconst 0, 1) := by decide +kernel
theorem d_Ma_reset_30 : decode b_Ma_reset 30 = .ok (.putfield 45, 3) := by decide +kernel
theorem d_Ma_reset_33 : decode b_Ma_reset 33 = .ok (.aload_n 0, 1) := by decide +kernel
theorem d_Ma_reset_34 : decode b_Ma_reset 34 = .ok (.iconst 0, 1) := by decide +kernel
theorem d_Ma_reset_35 : decode b_Ma_reset 35 = .ok (.putfield 49, 3) := by decide +kernel
theorem d_Ma_reset_38 : decode b_Ma_reset 38 = .ok (.aload_n 0, 1) := by decide +kernel
theorem d_Ma_reset_39 : decode b_Ma_reset 39 = .ok (.iconst 0, 1) := by decide +kernel
theorem d_Ma_reset_40 : decode b_Ma_reset 40 = .ok (.putfield 52, 3) := by decide +kernel
theorem d_Ma_reset_43 : decode b_Ma_reset 43 = .ok (.aload_n 0, 1) := by decide +kernel
theorem d_Ma_reset_44 : decode b_Ma_reset 44 = .ok (.iconst 0, 1) := by decide +kernel
theorem d_Ma_reset_45 : decode b_Ma_reset 45 = .ok (.putfield 55, 3) := by decide +kernel
theorem d_Ma_reset_48 : decode b_Ma_reset 48 = .ok (.return_, 1) := by decide +kernel
def f_Ma_reset (u : S5) : S5 := sI (sI (sI (sI (f_Ho_reset (f_Rp_reset (f_Rg_reset (f_Me_reset u)))) 0 0) 3 0) 4 0) 5 0
set_option maxHeartbeats 8000000 in
set_option maxRecDepth 100000 in
theorem c_Ma_reset (l : Launch) (dC : Nat → ClassId) (dI : Nat → Nat → Nat) (cI : ClassId) (ad : Nat → Nat) (u : S5) (sz : Nat) : Met l y_Ma_reset w_Ma_reset rm_Ma_reset (PreW (dC, dI) classes [(cI, .int)] (wC cI ad) u sz [.ref (ad 1)]) (QWv (dC, dI) classes [(cI, .int)] (wC cI ad) (va_A (wC cI ad u) sz) (f_Ma_reset u)) 0 0 (va_A (wC cI ad u) sz) := by
  generalize hres : f_Ma_reset u = res
  refine Met.ofW (cc := b_Ma_reset) (maxL := 1) (ret := none) (by decide) rfl ?_
  intro p e s m args below meth c s₁ B hml hv
  obtain ⟨rfl, rfl, hP, hK, hD0⟩ := hv
  have hx := B.exec
  have hb := B.bytes
  have hr := B.returns
  have hts : ∀ w9 ∈ ALLW, w9.before ([.ref (ad 1)] : List Value).toArray s = true := fun w9 h => atoms_spec (ws := w_Ma_reset) B.pre w9 (List.mem_cons_of_mem _ h)
  have hown : s.vm.findClass R_Ma = some m.cls := findClass_of_methodNamed B.named
  have hlocks := B.notSynchronized
  have hD := hD0.self (sz := s.heap.size)
  generalize hAe : va_A (wC cI ad u) s.heap.size = A at hD ⊢
  have hA : ∀ q : Nat, s.heap.size ≤ q → A q := fun q h => by rw [← hAe]; exact Or.inr h
  have hS : va_S A s.heap s.heap [] := va_S.rf
  have hl := lv_entry ([.ref (ad 1)]) (n := 1) (Nat.le_of_ble_eq_true rfl)
  rw [lg_entry_eq]
  generalize (lg_sl ([.ref (ad 1)]) ++ List.replicate (1 - (lg_sl ([.ref (ad 1)])).length) Slot.unset).toArray = ls at hl ⊢
  have hl : lv_has ls 1 [(0, .ref (ad 1))] := hl
  have hq := hres.symm
  skip
  refine lv_aload_n hx hb d_Ma_reset_0 rfl (lv_at hl 0 rfl) ?_
  refine va_get (D := (dC, dI)) (ci := 1) (v := .ref (ad 2)) (C := R_Ma) (T := F_Ma) (N := 10) hx hb hts in_Ma hown hK hP 1 rfl rfl 0 (by decide) (hts _ m_4_10) (fun _ h9 => h9) rfl d_Ma_reset_1 ?_
  refine callWv (va_runV (As := []) (rest := []) ⟨hx, hb, hml, hown, hts⟩ (c_Me_reset l dC dI cI ad u  s.heap.size) (cwV 0 hts (goodV m_5_8 m_0_39 m_1_0 m_0_3 m_1_1) rfl rfl rfl (by decide +kernel) ⟨Nat.le_of_ble_eq_true rfl, Nat.le_of_ble_eq_true rfl⟩) ⟨preW_blind, va_recv hK hP (ci := 2) (q0 := 2) rfl rfl, preW_ok hP hD hK⟩ rfl rfl hl.1 rfl (lv_room (Nat.le_of_ble_eq_true rfl)) d_Ma_reset_4 ⟨Nat.zero_le _, Nat.zero_le _⟩) hP hD hS hA (fun H locs hP hD hS => ?_)
  refine lv_aload_n hx hb d_Ma_reset_7 rfl (lv_at hl 0 rfl) ?_
  refine va_get (D := (dC, dI)) (ci := 1) (v := .ref (ad 3)) (C := R_Ma) (T := F_Ma) (N := 10) hx hb hts in_Ma hown hK hP 1 rfl rfl 1 (by decide) (hts _ m_4_12) (fun _ h9 => h9) rfl d_Ma_reset_8 ?_
  refine callWv (va_runV (As := []) (rest := []) ⟨hx, hb, hml, hown, hts⟩ (c_Rg_reset l dC dI cI ad (f_Me_reset u)  H.size) (cwV 0 hts (goodV m_5_9 m_1_30 m_1_31 m_0_7 m_1_32) rfl rfl rfl (by decide +kernel) ⟨Nat.le_of_ble_eq_true rfl, Nat.le_of_ble_eq_true rfl⟩) ⟨preW_blind, va_recv hK hP (ci := 3) (q0 := 3) rfl rfl, preW_ok hP hD hK⟩ rfl rfl hl.1 rfl (lv_room (Nat.le_of_ble_eq_true rfl)) d_Ma_reset_11 ⟨Nat.zero_le _, Nat.zero_le _⟩) hP hD hS hA (fun H locs hP hD hS => ?_)
  refine lv_aload_n hx hb d_Ma_reset_14 rfl (lv_at hl 0 rfl) ?_
  refine va_get (D := (dC, dI)) (ci := 1) (v := .ref (ad 4)) (C := R_Ma) (T := F_Ma) (N := 10) hx hb hts in_Ma hown hK hP 1 rfl rfl 2 (by decide) (hts _ m_4_14) (fun _ h9 => h9) rfl d_Ma_reset_15 ?_
  refine callWv (va_runV (As := []) (rest := []) ⟨hx, hb, hml, hown, hts⟩ (c_Rp_reset l dC dI cI ad (f_Rg_reset (f_Me_reset u))  H.size) (cwV 0 hts (goodV m_5_10 m_5_11 m_5_12 m_0_8 m_5_13) rfl rfl rfl (by decide +kernel) ⟨Nat.le_of_ble_eq_true rfl, Nat.le_of_ble_eq_true rfl⟩) ⟨preW_blind, va_recv hK hP (ci := 4) (q0 := 4) rfl rfl, preW_ok hP hD hK⟩ rfl rfl hl.1 rfl (lv_room (Nat.le_of_ble_eq_true rfl)) d_Ma_reset_18 ⟨Nat.zero_le _, Nat.zero_le _⟩) hP hD hS hA (fun H locs hP hD hS => ?_)
  refine lv_aload_n hx hb d_Ma_reset_21 rfl (lv_at hl 0 rfl) ?_
  refine va_get (D := (dC, dI)) (ci := 1) (v := .ref (ad 5)) (C := R_Ma) (T := F_Ma) (N := 10) hx hb hts in_Ma hown hK hP 1 rfl rfl 3 (by decide) (hts _ m_4_16) (fun _ h9 => h9) rfl d_Ma_reset_22 ?_
  refine callWv (va_runV (As := []) (rest := []) ⟨hx, hb, hml, hown, hts⟩ (c_Ho_reset l dC dI cI ad (f_Rp_reset (f_Rg_reset (f_Me_reset u)))  H.size) (cwV 0 hts (goodV m_5_14 m_5_15 m_5_16 m_0_9 m_5_17) rfl rfl rfl (by decide +kernel) ⟨Nat.le_of_ble_eq_true rfl, Nat.le_of_ble_eq_true rfl⟩) ⟨preW_blind, va_recv hK hP (ci := 5) (q0 := 5) rfl rfl, preW_ok hP hD hK⟩ rfl rfl hl.1 rfl (lv_room (Nat.le_of_ble_eq_true rfl)) d_Ma_reset_25 ⟨Nat.zero_le _, Nat.zero_le _⟩) hP hD hS hA (fun H locs hP hD hS => ?_)
  refine lv_aload_n hx hb d_Ma_reset_28 rfl (lv_at hl 0 rfl) ?_
  refine lv_iconst (v := 0) hx hb d_Ma_reset_29 (by decide) ?_
  refine va_put (D := (dC, dI)) (ci := 1) (v := .int 0) (ty := .int) (C := R_Ma) (T := F_Ma) (N := 10) hx hb hts in_Ma t_Ma t_Ma_ok n_Ma hown hK hP hD hS 1 rfl rfl 4 (by decide) (hts _ m_4_18) (fun _ h9 => h9) rfl (by decide +kernel) rfl rfl (Nat.le_of_ble_eq_true rfl) d_Ma_reset_30 (fun H locs hP hD hS => ?_)
  have hP : va_P (dC, dI) classes (wC cI ad (sI (f_Ho_reset (f_Rp_reset (f_Rg_reset (f_Me_reset u)))) 0 0)) H := hP
  have hD : va_D A (wC cI ad (sI (f_Ho_reset (f_Rp_reset (f_Rg_reset (f_Me_reset u)))) 0 0)) := hD
  refine lv_aload_n hx hb d_Ma_reset_33 rfl (lv_at hl 0 rfl) ?_
  refine lv_iconst (v := 0) hx hb d_Ma_reset_34 (by decide) ?_
  refine va_put (D := (dC, dI)) (ci := 1) (v := .int 0) (ty := .int) (C := R_Ma) (T := F_Ma) (N := 10) hx hb hts in_Ma t_Ma t_Ma_ok n_Ma hown hK hP hD hS 1 rfl rfl 7 (by decide) (hts _ m_4_22) (fun _ h9 => h9) rfl (by decide +kernel) rfl rfl (Nat.le_of_ble_eq_true rfl) d_Ma_reset_35 (fun H locs hP hD hS => ?_)
  have hP : va_P (dC, dI) classes (wC cI ad (sI (sI (f_Ho_reset (f_Rp_reset (f_Rg_reset (f_Me_reset u)))) 0 0) 3 0)) H := hP
  have hD : va_D A (wC cI ad (sI (sI (f_Ho_reset (f_Rp_reset (f_Rg_reset (f_Me_reset u)))) 0 0) 3 0)) := hD
  refine lv_aload_n hx hb d_Ma_reset_38 rfl (lv_at hl 0 rfl) ?_
  refine lv_iconst (v := 0) hx hb d_Ma_reset_39 (by decide) ?_
  refine va_put (D := (dC, dI)) (ci := 1) (v := .int 0) (ty := .int) (C := R_Ma) (T := F_Ma) (N := 10) hx hb hts in_Ma t_Ma t_Ma_ok n_Ma hown hK hP hD hS 1 rfl rfl 8 (by decide) (hts _ m_4_24) (fun _ h9 => h9) rfl (by decide +kernel) rfl rfl (Nat.le_of_ble_eq_true rfl) d_Ma_reset_40 (fun H locs hP hD hS => ?_)
  have hP : va_P (dC, dI) classes (wC cI ad (sI (sI (sI (f_Ho_reset (f_Rp_reset (f_Rg_reset (f_Me_reset u)))) 0 0) 3 0) 4 0)) H := hP
  have hD : va_D A (wC cI ad (sI (sI (sI (f_Ho_reset (f_Rp_reset (f_Rg_reset (f_Me_reset u)))) 0 0) 3 0) 4 0)) := hD
  refine lv_aload_n hx hb d_Ma_reset_43 rfl (lv_at hl 0 rfl) ?_
  refine lv_iconst (v := 0) hx hb d_Ma_reset_44 (by decide) ?_
  refine va_put (D := (dC, dI)) (ci := 1) (v := .int 0) (ty := .int) (C := R_Ma) (T := F_Ma) (N := 10) hx hb hts in_Ma t_Ma t_Ma_ok n_Ma hown hK hP hD hS 1 rfl rfl 9 (by decide) (hts _ m_4_26) (fun _ h9 => h9) rfl (by decide +kernel) rfl rfl (Nat.le_of_ble_eq_true rfl) d_Ma_reset_45 (fun H locs hP hD hS => ?_)
  have hP : va_P (dC, dI) classes (wC cI ad (sI (sI (sI (sI (f_Ho_reset (f_Rp_reset (f_Rg_reset (f_Me_reset u)))) 0 0) 3 0) 4 0) 5 0)) H := hP
  have hD : va_D A (wC cI ad (sI (sI (sI (sI (f_Ho_reset (f_Rp_reset (f_Rg_reset (f_Me_reset u)))) 0 0) 3 0) 4 0) 5 0)) := hD
  have hE : res = sI (sI (sI (sI (f_Ho_reset (f_Rp_reset (f_Rg_reset (f_Me_reset u)))) 0 0) 3 0) 4 0) 5 0 := hq.trans (rfl)
  exact retWv hx hb hr hP hK hD hS hE.symm d_Ma_reset_48 hlocks
def w_Ma_callOrBreak : List Cond := .code y_Ma_callOrBreak b_Ma_callOrBreak 3 none :: ALLW
def rm_Ma_callOrBreak : Room := { frames := 25, cells := 0, slots := 0, locals := 723 }
theorem d_Ma_callOrBreak_0 : decode b_Ma_callOrBreak 0 = .ok (.iload_n 1, 1) := by decide +kernel
theorem d_Ma_callOrBreak_1 : decode b_Ma_callOrBreak 1 = .ok (.bipush 115, 2) := by decide +kernel
theorem d_Ma_callOrBreak_3 : decode b_Ma_callOrBreak 3 = .ok (.if_icmp .eq 19, 3) := by decide +kernel
theorem d_Ma_callOrBreak_6 : decode b_Ma_callOrBreak 6 = .ok (.aload_n 0, 1) := by decide +kernel
theorem d_Ma_callOrBreak_7 : decode b_Ma_callOrBreak 7 = .ok (.iload_n 1, 1) := by decide +kernel
theorem d_Ma_callOrBreak_8 : decode b_Ma_callOrBreak 8 = .ok (.ldc 195, 2) := by decide +kernel
theorem d_Ma_callOrBreak_10 : decode b_Ma_callOrBreak 10 = .ok (.if_icmp .ne 7, 3) := by decide +kernel
theorem d_Ma_callOrBreak_13 : decode b_Ma_callOrBreak 13 = .ok (.iconst 3, 1) := by decide +kernel
theorem d_Ma_callOrBreak_14 : decode b_Ma_callOrBreak 14 = .ok (.goto 4, 3) := by decide +kernel
theorem d_Ma_callOrBreak_17 : decode b_Ma_callOrBreak 17 = .ok (.iconst 1, 1) := by decide +kernel
theorem d_Ma_callOrBreak_18 : decode b_Ma_callOrBreak 18 = .ok (.invokevirtual 59, 3) := by decide +kernel
theorem d_Ma_callOrBreak_21 : decode b_Ma_callOrBreak 21 = .ok (.return_, 1) := by decide +kernel
theorem d_Ma_callOrBreak_22 : decode b_Ma_callOrBreak 22 = .ok (.aload_n 0, 1) := by decide +kernel
theorem d_Ma_callOrBreak_23 : decode b_Ma_callOrBreak 23 = .ok (.getfield 21, 3) := by decide +kernel
theorem d_Ma_callOrBreak_26 : decode b_Ma_callOrBreak 26 = .ok (.invokestatic 196, 3) := by decide +kernel
theorem d_Ma_callOrBreak_29 : decode b_Ma_callOrBreak 29 = .ok (.istore_n 2, 1) := by decide +kernel
theorem d_Ma_callOrBreak_30 : decode b_Ma_callOrBreak 30 = .ok (.iload_n 2, 1) := by decide +kernel
theorem d_Ma_callOrBreak_31 : decode b_Ma_callOrBreak 31 = .ok (.ifCond .eq 16, 3) := by decide +kernel
theorem d_Ma_callOrBreak_34 : decode b_Ma_callOrBreak 34 = .ok (.aload_n 0, 1) := by decide +kernel
theorem d_Ma_callOrBreak_35 : decode b_Ma_callOrBreak 35 = .ok (.getfield 28, 3) := by decide +kernel
theorem d_Ma_callOrBreak_38 : decode b_Ma_callOrBreak 38 = .ok (.iconst 5, 1) := by decide +kernel
theorem d_Ma_callOrBreak_39 : decode b_Ma_callOrBreak 39 = .ok (.aload_n 0, 1) := by decide +kernel
theorem d_Ma_callOrBreak_40 : decode b_Ma_callOrBreak 40 = .ok (.getfield 45, 3) := by decide +kernel
theorem d_Ma_callOrBreak_43 : decode b_Ma_callOrBreak 43 = .ok (.iload_n 2, 1) := by decide +kernel
theorem d_Ma_callOrBreak_44 : decode b_Ma_callOrBreak 44 = .ok (.invokevirtual 71, 3) := by decide +kernel
theorem d_Ma_callOrBreak_47 : decode b_Ma_callOrBreak 47 = .ok (.aload_n 0, 1) := by decide +kernel
theorem d_Ma_callOrBreak_48 : decode b_Ma_callOrBreak 48 = .ok (.getfield 21, 3) := by decide +kernel
theorem d_Ma_callOrBreak_51 : decode b_Ma_callOrBreak 51 = .ok (.getfield 124, 3) := by decide +kernel
theorem d_Ma_callOrBreak_54 : decode b_Ma_callOrBreak 54 = .ok (.bipush 17, 2) := by decide +kernel
theorem d_Ma_callOrBreak_56 : decode b_Ma_callOrBreak 56 = .ok (.iaload, 1) := by decide +kernel
theorem d_Ma_callOrBreak_57 : decode b_Ma_callOrBreak 57 = .ok (.iconst 1, 1) := by decide +kernel
theorem d_Ma_callOrBreak_58 : decode b_Ma_callOrBreak 58 = .ok (.if_icmp .ne 56, 3) := by decide +kernel
theorem d_Ma_callOrBreak_61 : decode b_Ma_callOrBreak 61 = .ok (.aload_n 0, 1) := by decide +kernel
theorem d_Ma_callOrBreak_62 : decode b_Ma_callOrBreak 62 = .ok (.getfield 35, 3) := by decide +kernel
theorem d_Ma_callOrBreak_65 : decode b_Ma_callOrBreak 65 = .ok (.aload_n 0, 1) := by decide +kernel
theorem d_Ma_callOrBreak_66 : decode b_Ma_callOrBreak 66 = .ok (.getfield 45, 3) := by decide +kernel
theorem d_Ma_callOrBreak_69 : decode b_Ma_callOrBreak 69 = .ok (.aload_n 0, 1) := by decide +kernel
theorem d_Ma_callOrBreak_70 : decode b_Ma_callOrBreak 70 = .ok (.getfield 21, 3) := by decide +kernel
theorem d_Ma_callOrBreak_73 : decode b_Ma_callOrBreak 73 = .ok (.aload_n 0, 1) := by decide +kernel
theorem d_Ma_callOrBreak_74 : decode b_Ma_callOrBreak 74 = .ok (.getfield 12, 3) := by decide +kernel
theorem d_Ma_callOrBreak_77 : decode b_Ma_callOrBreak 77 = .ok (.aload_n 0, 1) := by decide +kernel
theorem d_Ma_callOrBreak_78 : decode b_Ma_callOrBreak 78 = .ok (.getfield 28, 3) := by decide +kernel
theorem d_Ma_callOrBreak_81 : decode b_Ma_callOrBreak 81 = .ok (.invokevirtual 200, 3) := by decide +kernel
theorem d_Ma_callOrBreak_84 : decode b_Ma_callOrBreak 84 = .ok (.aload_n 0, 1) := by decide +kernel
theorem d_Ma_callOrBreak_85 : decode b_Ma_callOrBreak 85 = .ok (.iconst 1, 1) := by decide +kernel
theorem d_Ma_callOrBreak_86 : decode b_Ma_callOrBreak 86 = .ok (.putfield 49, 3) := by decide +kernel
theorem d_Ma_callOrBreak_89 : decode b_Ma_callOrBreak 89 = .ok (.aload_n 0, 1) := by decide +kernel
theorem d_Ma_callOrBreak_90 : decode b_Ma_callOrBreak 90 = .ok (.aload_n 0, 1) := by decide +kernel
theorem d_Ma_callOrBreak_91 : decode b_Ma_callOrBreak 91 = .ok (.getfield 21, 3) := by decide +kernel
theorem d_Ma_callOrBreak_94 : decode b_Ma_callOrBreak 94 = .ok (.getfield 124, 3) := by decide +kernel
theorem d_Ma_callOrBreak_97 : decode b_Ma_callOrBreak 97 = .ok (.bipush 10, 2) := by decide +kernel
theorem d_Ma_callOrBreak_99 : decode b_Ma_callOrBreak 99 = .ok (.iaload, 1) := by decide +kernel
theorem d_Ma_callOrBreak_100 : decode b_Ma_callOrBreak 100 = .ok (.putfield 52, 3) := by decide +kernel
theorem d_Ma_callOrBreak_103 : decode b_Ma_callOrBreak 103 = .ok (.aload_n 0, 1) := by decide +kernel
theorem d_Ma_callOrBreak_104 : decode b_Ma_callOrBreak 104 = .ok (.aload_n 0, 1) := by decide +kernel
theorem d_Ma_callOrBreak_105 : decode b_Ma_callOrBreak 105 = .ok (.getfield 45, 3) := by decide +kernel
theorem d_Ma_callOrBreak_108 : decode b_Ma_callOrBreak 108 = .ok (.putfield 81, 3) := by decide +kernel
theorem d_Ma_callOrBreak_111 : decode b_Ma_callOrBreak 111 = .ok (.goto 26, 3) := by decide +kernel
theorem d_Ma_callOrBreak_114 : decode b_Ma_callOrBreak 114 = .ok (.aload_n 0, 1) := by decide +kernel
theorem d_Ma_callOrBreak_115 : decode b_Ma_callOrBreak 115 = .ok (.getfield 35, 3) := by decide +kernel
theorem d_Ma_callOrBreak_118 : decode b_Ma_callOrBreak 118 = .ok (.aload_n 0, 1) := by decide +kernel
theorem d_Ma_callOrBreak_119 : decode b_Ma_callOrBreak 119 = .ok (.getfield 45, 3) := by decide +kernel
theorem d_Ma_callOrBreak_122 : decode b_Ma_callOrBreak 122 = .ok (.aload_n 0, 1) := by decide +kernel
theorem d_Ma_callOrBreak_123 : decode b_Ma_callOrBreak 123 = .ok (.getfield 21, 3) := by decide +kernel
theorem d_Ma_callOrBreak_126 : decode b_Ma_callOrBreak 126 = .ok (.aload_n 0, 1) := by decide +kernel
theorem d_Ma_callOrBreak_127 : decode b_Ma_callOrBreak 127 = .ok (.getfield 12, 3) := by decide +kernel
theorem d_Ma_callOrBreak_130 : decode b_Ma_callOrBreak 130 = .ok (.aload_n 0, 1) := by decide +kernel
theorem d_Ma_callOrBreak_131 : decode b_Ma_callOrBreak 131 = .ok (.getfield 28, 3) := by decide +kernel
theorem d_Ma_callOrBreak_134 : decode b_Ma_callOrBreak 134 = .ok (.invokevirtual 204, 3) := by decide +kernel
theorem d_Ma_callOrBreak_137 : decode b_Ma_callOrBreak 137 = .ok (.return_, 1) := by decide +kernel
def f_Ma_callOrBreak_47 (w : Int32) (u : S5) (u1 : S5) : S5 := if (aI u1 2 17) = 1 then sI (sI (sI (f_Ho_tellLost (gI u1 0) u1) 3 1) 4 (aI (f_Ho_tellLost (gI u1 0) u1) 2 10)) 2 (gI (f_Ho_tellLost (gI u1 0) u1) 0) else f_Ho_serve (gI u1 0) u1
def f_Ma_callOrBreak (w : Int32) (u : S5) : S5 := if w = 115 then (if (f_Ho_ungivenRegister u) = 0 then f_Ma_callOrBreak_47 w u u else f_Ma_callOrBreak_47 w u (f_Rp_note 5 (gI u 0) (f_Ho_ungivenRegister u) u)) else let x4 : Int32 := if w = 1048691 then 3 else 1; f_Ma_trap x4 u
set_option maxHeartbeats 8000000 in
set_option maxRecDepth 100000 in
theorem c_Ma_callOrBreak (l : Launch) (dC : Nat → ClassId) (dI : Nat → Nat → Nat) (cI : ClassId) (ad : Nat → Nat) (u : S5) (w : Int32) (ok : OkR u) (okh : OkH u) (okp : OkP u) (sz : Nat) : Met l y_Ma_callOrBreak w_Ma_callOrBreak rm_Ma_callOrBreak (PreW (dC, dI) classes [(cI, .int)] (wC cI ad) u sz [.ref (ad 1), .int w]) (QWv (dC, dI) classes [(cI, .int)] (wC cI ad) (va_A (wC cI ad u) sz) (f_Ma_callOrBreak w u)) 0 0 (va_A (wC cI ad u) sz) := by
  generalize hres : f_Ma_callOrBreak w u = res
  refine Met.ofW (cc := b_Ma_callOrBreak) (maxL := 3) (ret := none) (by decide) rfl ?_
  intro p e s m args below meth c s₁ B hml hv
  obtain ⟨rfl, rfl, hP, hK, hD0⟩ := hv
  have hx := B.exec
  have hb := B.bytes
  have hr := B.returns
  have hts : ∀ w9 ∈ ALLW, w9.before ([.ref (ad 1), .int w] : List Value).toArray s = true := fun w9 h => atoms_spec (ws := w_Ma_callOrBreak) B.pre w9 (List.mem_cons_of_mem _ h)
  have hown : s.vm.findClass R_Ma = some m.cls := findClass_of_methodNamed B.named
  have hlocks := B.notSynchronized
  have hD := hD0.self (sz := s.heap.size)
  generalize hAe : va_A (wC cI ad u) s.heap.size = A at hD ⊢
  have hA : ∀ q : Nat, s.heap.size ≤ q → A q := fun q h => by rw [← hAe]; exact Or.inr h
  have hS : va_S A s.heap s.heap [] := va_S.rf
  have hl := lv_entry ([.ref (ad 1), .int w]) (n := 3) (Nat.le_of_ble_eq_true rfl)
  rw [lg_entry_eq]
  generalize (lg_sl ([.ref (ad 1), .int w]) ++ List.replicate (3 - (lg_sl ([.ref (ad 1), .int w])).length) Slot.unset).toArray = ls at hl ⊢
  have hl : lv_has ls 3 [(0, .ref (ad 1)), (1, .int w)] := hl
  have hq := hres.symm
  skip
  obtain ⟨ok0, ok1, ok2⟩ := id ok
  refine lv_iload_n hx hb d_Ma_callOrBreak_0 rfl (lv_at hl 1 rfl) ?_
  refine lv_bipush (v := 115) hx hb d_Ma_callOrBreak_1 (by decide) ?_
  refine lv_icmp_eq (tgt := 22) hx hb d_Ma_callOrBreak_3 (by decide) (fun c1 => ?_) (fun c1 => ?_)
  · skip
    refine lv_aload_n hx hb d_Ma_callOrBreak_22 rfl (lv_at hl 0 rfl) ?_
    refine va_get (D := (dC, dI)) (ci := 1) (v := .ref (ad 3)) (C := R_Ma) (T := F_Ma) (N := 10) hx hb hts in_Ma hown hK hP 1 rfl rfl 1 (by decide) (hts _ m_4_12) (fun _ h9 => h9) rfl d_Ma_callOrBreak_23 ?_
    refine callWi (va_runS (As := [.ref (ad 3)]) (rest := []) ⟨hx, hb, hml, hown, hts⟩ (c_Ho_ungivenRegister l dC dI cI ad u  s.heap.size) (va_cwS 1 hts (goodS m_10_3 m_10_4 m_0_9 m_10_5) rfl rfl rfl (by decide +kernel) ⟨Nat.le_of_ble_eq_true rfl, Nat.le_of_ble_eq_true rfl⟩) ⟨preW_blind, preW_ok hP hD hK⟩ rfl rfl hl.1 rfl (lv_room (Nat.le_of_ble_eq_true rfl)) d_Ma_callOrBreak_26 ⟨Nat.zero_le _, Nat.zero_le _⟩) hP hD hS hA (fun H locs hP hD hS => ?_)
    refine lv_istore_n (lv' := [(2, .int (f_Ho_ungivenRegister u)), (0, .ref (ad 1)), (1, .int w)]) hx hb d_Ma_callOrBreak_29 rfl hl (by decide) rfl (fun ls hl => ?_)
    refine lv_iload_n hx hb d_Ma_callOrBreak_30 rfl (lv_at hl 0 rfl) ?_
    have J47 : ∀ (u1 : S5) (H : Heap) (locs : List Loc) (ls : Array Slot), res = f_Ma_callOrBreak_47 w u u1 → (OkR u1) → (OkH u1) → (OkP u1) → va_P (dC, dI) classes (wC cI ad u1) H → va_D A (wC cI ad u1) → va_S A s.heap H locs → lv_has ls 3 [(2, .int (f_Ho_ungivenRegister u)), (0, .ref (ad 1)), (1, .int w)] → W p l e (headSpec w_Ma_callOrBreak rm_Ma_callOrBreak).room s m ([.ref (ad 1), .int w] : List Value).toArray below meth c H locs 0 0 (MQ below (QWv (dC, dI) classes [(cI, .int)] (wC cI ad) A res) ([.ref (ad 1), .int w] : List Value).toArray s 0 0 A) (F0 m 47 ls []) := by
      intro u1 H locs ls hq okr1 okh1 okp1 hP hD hS hl
      obtain ⟨j0, j1, j2⟩ := id okr1
      refine lv_aload_n hx hb d_Ma_callOrBreak_47 rfl (lv_at hl 1 rfl) ?_
      refine va_get (D := (dC, dI)) (ci := 1) (v := .ref (ad 3)) (C := R_Ma) (T := F_Ma) (N := 10) hx hb hts in_Ma hown hK hP 1 rfl rfl 1 (by decide) (hts _ m_4_12) (fun _ h9 => h9) rfl d_Ma_callOrBreak_48 ?_
      refine va_get (D := (dC, dI)) (ci := 3) (v := .ref (ad 10)) (C := R_Rg) (T := F_Rg) (N := 2) hx hb hts in_Rg hown hK hP 3 rfl rfl 0 (by decide) (hts _ m_1_37) (fun _ h9 => h9) rfl d_Ma_callOrBreak_51 ?_
      refine lv_bipush (v := nI 17) hx hb d_Ma_callOrBreak_54 (by decide) ?_
      refine aldC_value (u := u1) (v := aI u1 2 17) hx hb hK hP (by omega) rfl d_Ma_callOrBreak_56 ?_
      refine lv_iconst (v := 1) hx hb d_Ma_callOrBreak_57 (by decide) ?_
      refine lv_icmp_ne (tgt := 114) hx hb d_Ma_callOrBreak_58 (by decide) (fun c2 => ?_) (fun c2 => ?_)
      · skip
        refine lv_aload_n hx hb d_Ma_callOrBreak_114 rfl (lv_at hl 1 rfl) ?_
        refine va_get (D := (dC, dI)) (ci := 1) (v := .ref (ad 5)) (C := R_Ma) (T := F_Ma) (N := 10) hx hb hts in_Ma hown hK hP 1 rfl rfl 3 (by decide) (hts _ m_4_16) (fun _ h9 => h9) rfl d_Ma_callOrBreak_115 ?_
        refine lv_aload_n hx hb d_Ma_callOrBreak_118 rfl (lv_at hl 1 rfl) ?_
        refine va_get (D := (dC, dI)) (ci := 1) (v := .int (gI u1 0)) (C := R_Ma) (T := F_Ma) (N := 10) hx hb hts in_Ma hown hK hP 1 rfl rfl 4 (by decide) (hts _ m_4_18) (fun _ h9 => h9) rfl d_Ma_callOrBreak_119 ?_
        refine lv_aload_n hx hb d_Ma_callOrBreak_122 rfl (lv_at hl 1 rfl) ?_
        refine va_get (D := (dC, dI)) (ci := 1) (v := .ref (ad 3)) (C := R_Ma) (T := F_Ma) (N := 10) hx hb hts in_Ma hown hK hP 1 rfl rfl 1 (by decide) (hts _ m_4_12) (fun _ h9 => h9) rfl d_Ma_callOrBreak_123 ?_
        refine lv_aload_n hx hb d_Ma_callOrBreak_126 rfl (lv_at hl 1 rfl) ?_
        refine va_get (D := (dC, dI)) (ci := 1) (v := .ref (ad 2)) (C := R_Ma) (T := F_Ma) (N := 10) hx hb hts in_Ma hown hK hP 1 rfl rfl 0 (by decide) (hts _ m_4_10) (fun _ h9 => h9) rfl d_Ma_callOrBreak_127 ?_
        refine lv_aload_n hx hb d_Ma_callOrBreak_130 rfl (lv_at hl 1 rfl) ?_
        refine va_get (D := (dC, dI)) (ci := 1) (v := .ref (ad 4)) (C := R_Ma) (T := F_Ma) (N := 10) hx hb hts in_Ma hown hK hP 1 rfl rfl 2 (by decide) (hts _ m_4_14) (fun _ h9 => h9) rfl d_Ma_callOrBreak_131 ?_
        refine callWv (va_runV (As := [.int (gI u1 0), .ref (ad 3), .ref (ad 2), .ref (ad 4)]) (rest := []) ⟨hx, hb, hml, hown, hts⟩ (c_Ho_serve l dC dI cI ad u1 (gI u1 0) (by first | assumption | omega) (by first | assumption | omega) (by first | assumption | omega) H.size) (cwV 4 hts (goodV m_11_11 m_11_12 m_11_13 m_0_9 m_11_14) rfl rfl rfl (by decide +kernel) ⟨Nat.le_of_ble_eq_true rfl, Nat.le_of_ble_eq_true rfl⟩) ⟨preW_blind, va_recv hK hP (ci := 5) (q0 := 5) rfl rfl, preW_ok hP hD hK⟩ rfl rfl hl.1 rfl (lv_room (Nat.le_of_ble_eq_true rfl)) d_Ma_callOrBreak_134 ⟨Nat.zero_le _, Nat.zero_le _⟩) hP hD hS hA (fun H locs hP hD hS => ?_)
        have hE : res = f_Ho_serve (gI u1 0) u1 := hq.trans ((if_neg c2).trans rfl)
        exact retWv hx hb hr hP hK hD hS hE.symm d_Ma_callOrBreak_137 hlocks
      · skip
        refine lv_aload_n hx hb d_Ma_callOrBreak_61 rfl (lv_at hl 1 rfl) ?_
        refine va_get (D := (dC, dI)) (ci := 1) (v := .ref (ad 5)) (C := R_Ma) (T := F_Ma) (N := 10) hx hb hts in_Ma hown hK hP 1 rfl rfl 3 (by decide) (hts _ m_4_16) (fun _ h9 => h9) rfl d_Ma_callOrBreak_62 ?_
        refine lv_aload_n hx hb d_Ma_callOrBreak_65 rfl (lv_at hl 1 rfl) ?_
        refine va_get (D := (dC, dI)) (ci := 1) (v := .int (gI u1 0)) (C := R_Ma) (T := F_Ma) (N := 10) hx hb hts in_Ma hown hK hP 1 rfl rfl 4 (by decide) (hts _ m_4_18) (fun _ h9 => h9) rfl d_Ma_callOrBreak_66 ?_
        refine lv_aload_n hx hb d_Ma_callOrBreak_69 rfl (lv_at hl 1 rfl) ?_
        refine va_get (D := (dC, dI)) (ci := 1) (v := .ref (ad 3)) (C := R_Ma) (T := F_Ma) (N := 10) hx hb hts in_Ma hown hK hP 1 rfl rfl 1 (by decide) (hts _ m_4_12) (fun _ h9 => h9) rfl d_Ma_callOrBreak_70 ?_
        refine lv_aload_n hx hb d_Ma_callOrBreak_73 rfl (lv_at hl 1 rfl) ?_
        refine va_get (D := (dC, dI)) (ci := 1) (v := .ref (ad 2)) (C := R_Ma) (T := F_Ma) (N := 10) hx hb hts in_Ma hown hK hP 1 rfl rfl 0 (by decide) (hts _ m_4_10) (fun _ h9 => h9) rfl d_Ma_callOrBreak_74 ?_
        refine lv_aload_n hx hb d_Ma_callOrBreak_77 rfl (lv_at hl 1 rfl) ?_
        refine va_get (D := (dC, dI)) (ci := 1) (v := .ref (ad 4)) (C := R_Ma) (T := F_Ma) (N := 10) hx hb hts in_Ma hown hK hP 1 rfl rfl 2 (by decide) (hts _ m_4_14) (fun _ h9 => h9) rfl d_Ma_callOrBreak_78 ?_
        refine callWv (va_runV (As := [.int (gI u1 0), .ref (ad 3), .ref (ad 2), .ref (ad 4)]) (rest := []) ⟨hx, hb, hml, hown, hts⟩ (c_Ho_tellLost l dC dI cI ad u1 (gI u1 0) okr1 okh1.b H.size) (cwV 4 hts (goodV m_10_6 m_10_7 m_10_8 m_0_9 m_10_9) rfl rfl rfl (by decide +kernel) ⟨Nat.le_of_ble_eq_true rfl, Nat.le_of_ble_eq_true rfl⟩) ⟨preW_blind, va_recv hK hP (ci := 5) (q0 := 5) rfl rfl, preW_ok hP hD hK⟩ rfl rfl hl.1 rfl (lv_room (Nat.le_of_ble_eq_true rfl)) d_Ma_callOrBreak_81 ⟨Nat.zero_le _, Nat.zero_le _⟩) hP hD hS hA (fun H locs hP hD hS => ?_)
        refine lv_aload_n hx hb d_Ma_callOrBreak_84 rfl (lv_at hl 1 rfl) ?_
        refine lv_iconst (v := 1) hx hb d_Ma_callOrBreak_85 (by decide) ?_
        refine va_put (D := (dC, dI)) (ci := 1) (v := .int 1) (ty := .int) (C := R_Ma) (T := F_Ma) (N := 10) hx hb hts in_Ma t_Ma t_Ma_ok n_Ma hown hK hP hD hS 1 rfl rfl 7 (by decide) (hts _ m_4_22) (fun _ h9 => h9) rfl (by decide +kernel) rfl rfl (Nat.le_of_ble_eq_true rfl) d_Ma_callOrBreak_86 (fun H locs hP hD hS => ?_)
        have hP : va_P (dC, dI) classes (wC cI ad (sI (f_Ho_tellLost (gI u1 0) u1) 3 1)) H := hP
        have hD : va_D A (wC cI ad (sI (f_Ho_tellLost (gI u1 0) u1) 3 1)) := hD
        refine lv_aload_n hx hb d_Ma_callOrBreak_89 rfl (lv_at hl 1 rfl) ?_
        refine lv_aload_n hx hb d_Ma_callOrBreak_90 rfl (lv_at hl 1 rfl) ?_
        refine va_get (D := (dC, dI)) (ci := 1) (v := .ref (ad 3)) (C := R_Ma) (T := F_Ma) (N := 10) hx hb hts in_Ma hown hK hP 1 rfl rfl 1 (by decide) (hts _ m_4_12) (fun _ h9 => h9) rfl d_Ma_callOrBreak_91 ?_
        refine va_get (D := (dC, dI)) (ci := 3) (v := .ref (ad 10)) (C := R_Rg) (T := F_Rg) (N := 2) hx hb hts in_Rg hown hK hP 3 rfl rfl 0 (by decide) (hts _ m_1_37) (fun _ h9 => h9) rfl d_Ma_callOrBreak_94 ?_
        refine lv_bipush (v := nI 10) hx hb d_Ma_callOrBreak_97 (by decide) ?_
        refine aldC_value (u := (sI (f_Ho_tellLost (gI u1 0) u1) 3 1)) (v := aI (f_Ho_tellLost (gI u1 0) u1) 2 10) hx hb hK hP (by omega) rfl d_Ma_callOrBreak_99 ?_
        refine va_put (D := (dC, dI)) (ci := 1) (v := .int (aI (f_Ho_tellLost (gI u1 0) u1) 2 10)) (ty := .int) (C := R_Ma) (T := F_Ma) (N := 10) hx hb hts in_Ma t_Ma t_Ma_ok n_Ma hown hK hP hD hS 1 rfl rfl 8 (by decide) (hts _ m_4_24) (fun _ h9 => h9) rfl (by decide +kernel) rfl rfl (Nat.le_of_ble_eq_true rfl) d_Ma_callOrBreak_100 (fun H locs hP hD hS => ?_)
        have hP : va_P (dC, dI) classes (wC cI ad (sI (sI (f_Ho_tellLost (gI u1 0) u1) 3 1) 4 (aI (f_Ho_tellLost (gI u1 0) u1) 2 10))) H := hP
        have hD : va_D A (wC cI ad (sI (sI (f_Ho_tellLost (gI u1 0) u1) 3 1) 4 (aI (f_Ho_tellLost (gI u1 0) u1) 2 10))) := hD
        refine lv_aload_n hx hb d_Ma_callOrBreak_103 rfl (lv_at hl 1 rfl) ?_
        refine lv_aload_n hx hb d_Ma_callOrBreak_104 rfl (lv_at hl 1 rfl) ?_
        refine va_get (D := (dC, dI)) (ci := 1) (v := .int (gI (f_Ho_tellLost (gI u1 0) u1) 0)) (C := R_Ma) (T := F_Ma) (N := 10) hx hb hts in_Ma hown hK hP 1 rfl rfl 4 (by decide) (hts _ m_4_18) (fun _ h9 => h9) rfl d_Ma_callOrBreak_105 ?_
        refine va_put (D := (dC, dI)) (ci := 1) (v := .int (gI (f_Ho_tellLost (gI u1 0) u1) 0)) (ty := .int) (C := R_Ma) (T := F_Ma) (N := 10) hx hb hts in_Ma t_Ma t_Ma_ok n_Ma hown hK hP hD hS 1 rfl rfl 6 (by decide) (hts _ m_4_21) (fun _ h9 => h9) rfl (by decide +kernel) rfl rfl (Nat.le_of_ble_eq_true rfl) d_Ma_callOrBreak_108 (fun H locs hP hD hS => ?_)
        have hP : va_P (dC, dI) classes (wC cI ad (sI (sI (sI (f_Ho_tellLost (gI u1 0) u1) 3 1) 4 (aI (f_Ho_tellLost (gI u1 0) u1) 2 10)) 2 (gI (f_Ho_tellLost (gI u1 0) u1) 0))) H := hP
        have hD : va_D A (wC cI ad (sI (sI (sI (f_Ho_tellLost (gI u1 0) u1) 3 1) 4 (aI (f_Ho_tellLost (gI u1 0) u1) 2 10)) 2 (gI (f_Ho_tellLost (gI u1 0) u1) 0))) := hD
        refine lv_goto (tgt := 137) hx hb d_Ma_callOrBreak_111 (by decide) ?_
        have hE : res = sI (sI (sI (f_Ho_tellLost (gI u1 0) u1) 3 1) 4 (aI (f_Ho_tellLost (gI u1 0) u1) 2 10)) 2 (gI (f_Ho_tellLost (gI u1 0) u1) 0) := hq.trans ((if_pos c2).trans rfl)
        exact retWv hx hb hr hP hK hD hS hE.symm d_Ma_callOrBreak_137 hlocks
    refine lv_if_eq (tgt := 47) hx hb d_Ma_callOrBreak_31 (by decide) (fun c3 => ?_) (fun c3 => ?_)
    · skip
      exact J47 u _ _ _ (hq.trans ((if_pos c1).trans ((if_pos c3).trans rfl))) (by first | assumption | exact nt_ok _ _ _ ok) (by first | assumption | exact OkH.fr okh (nt_fr _ _ _ _) (by decide)) (by first | assumption | exact OkP.fr okp (nt_fr _ _ _ _) (by decide)) hP hD hS (lv_sub hl [0, 1, 2] rfl)
    · skip
      refine lv_aload_n hx hb d_Ma_callOrBreak_34 rfl (lv_at hl 1 rfl) ?_
      refine va_get (D := (dC, dI)) (ci := 1) (v := .ref (ad 4)) (C := R_Ma) (T := F_Ma) (N := 10) hx hb hts in_Ma hown hK hP 1 rfl rfl 2 (by decide) (hts _ m_4_14) (fun _ h9 => h9) rfl d_Ma_callOrBreak_35 ?_
      refine lv_iconst (v := 5) hx hb d_Ma_callOrBreak_38 (by decide) ?_
      refine lv_aload_n hx hb d_Ma_callOrBreak_39 rfl (lv_at hl 1 rfl) ?_
      refine va_get (D := (dC, dI)) (ci := 1) (v := .int (gI u 0)) (C := R_Ma) (T := F_Ma) (N := 10) hx hb hts in_Ma hown hK hP 1 rfl rfl 4 (by decide) (hts _ m_4_18) (fun _ h9 => h9) rfl d_Ma_callOrBreak_40 ?_
      refine lv_iload_n hx hb d_Ma_callOrBreak_43 rfl (lv_at hl 0 rfl) ?_
      refine callWv (va_runV (As := [.int 5, .int (gI u 0), .int (f_Ho_ungivenRegister u)]) (rest := []) ⟨hx, hb, hml, hown, hts⟩ (c_Rp_note l dC dI cI ad u 5 (gI u 0) (f_Ho_ungivenRegister u) (by first | assumption | omega) (by first | assumption | omega) (by first | assumption | omega) H.size) (cwV 3 hts (goodV m_6_30 m_6_31 m_6_32 m_0_8 m_6_33) rfl rfl rfl (by decide +kernel) ⟨Nat.le_of_ble_eq_true rfl, Nat.le_of_ble_eq_true rfl⟩) ⟨preW_blind, va_recv hK hP (ci := 4) (q0 := 4) rfl rfl, preW_ok hP hD hK⟩ rfl rfl hl.1 rfl (lv_room (Nat.le_of_ble_eq_true rfl)) d_Ma_callOrBreak_44 ⟨Nat.zero_le _, Nat.zero_le _⟩) hP hD hS hA (fun H locs hP hD hS => ?_)
      exact J47 (f_Rp_note 5 (gI u 0) (f_Ho_ungivenRegister u) u) _ _ _ (hq.trans ((if_pos c1).trans ((if_neg c3).trans rfl))) (by first | assumption | exact nt_ok _ _ _ ok) (by first | assumption | exact OkH.fr okh (nt_fr _ _ _ _) (by decide)) (by first | assumption | exact OkP.fr okp (nt_fr _ _ _ _) (by decide)) hP hD hS (lv_sub hl [0, 1, 2] rfl)
  · skip
    refine lv_aload_n hx hb d_Ma_callOrBreak_6 rfl (lv_at hl 0 rfl) ?_
    refine lv_iload_n hx hb d_Ma_callOrBreak_7 rfl (lv_at hl 1 rfl) ?_
    refine lv_ldc (v := 1048691) hx hb hown (hts _ m_10_2) d_Ma_callOrBreak_8 ?_
    have J18 : ∀ (x4 : Int32) (H : Heap) (locs : List Loc), x4 = (if w = 1048691 then 3 else 1) → va_P (dC, dI) classes (wC cI ad u) H → va_D A (wC cI ad u) → va_S A s.heap H locs → W p l e (headSpec w_Ma_callOrBreak rm_Ma_callOrBreak).room s m ([.ref (ad 1), .int w] : List Value).toArray below meth c H locs 0 0 (MQ below (QWv (dC, dI) classes [(cI, .int)] (wC cI ad) A res) ([.ref (ad 1), .int w] : List Value).toArray s 0 0 A) (F0 m 18 ls [.int x4, .ref (ad 1)]) := by
      intro x4 H locs ex4 hP hD hS
      refine callWv (va_runV (As := [.int x4]) (rest := []) ⟨hx, hb, hml, hown, hts⟩ (c_Ma_trap l dC dI cI ad u x4 H.size) (cwV 1 hts (goodV m_6_19 m_6_20 m_18_37 m_0_2 m_6_21) rfl rfl rfl (by decide +kernel) ⟨Nat.le_of_ble_eq_true rfl, Nat.le_of_ble_eq_true rfl⟩) ⟨preW_blind, va_recv hK hP (ci := 1) (q0 := 1) rfl rfl, preW_ok hP hD hK⟩ rfl rfl hl.1 rfl (lv_room (Nat.le_of_ble_eq_true rfl)) d_Ma_callOrBreak_18 ⟨Nat.zero_le _, Nat.zero_le _⟩) hP hD hS hA (fun H locs hP hD hS => ?_)
      have hE : res = f_Ma_trap x4 u := (by subst ex4; exact hq.trans ((if_neg c1).trans rfl))
      exact retWv hx hb hr hP hK hD hS hE.symm d_Ma_callOrBreak_21 hlocks
    refine lv_icmp_ne (tgt := 17) hx hb d_Ma_callOrBreak_10 (by decide) (fun c5 => ?_) (fun c5 => ?_)
    · skip
      refine lv_iconst (v := 1) hx hb d_Ma_callOrBreak_17 (by decide) ?_
      exact J18 1 _ _ (Eq.symm ((if_neg c5).trans (rfl))) hP hD hS
    · skip
      refine lv_iconst (v := 3) hx hb d_Ma_callOrBreak_13 (by decide) ?_
      refine lv_goto (tgt := 18) hx hb d_Ma_callOrBreak_14 (by decide) ?_
      exact J18 3 _ _ (Eq.symm ((if_pos c5).trans (rfl))) hP hD hS
def w_Ma_perform : List Cond := .code y_Ma_perform b_Ma_perform 2 none :: ALLW
def rm_Ma_perform : Room := { frames := 26, cells := 0, slots := 0, locals := 745 }
theorem d_Ma_perform_0 : decode b_Ma_perform 0 = .ok (.aload_n 0, 1) := by decide +kernel
theorem d_Ma_perform_1 : decode b_Ma_perform 1 = .ok (.getfield 79, 3) := by decide +kernel
theorem d_Ma_perform_4 : decode b_Ma_perform 4 = .ok (.istore_n 1, 1) := by decide +kernel
theorem d_Ma_perform_5 : decode b_Ma_perform 5 = .ok (.iload_n 1, 1) := by decide +kernel
theorem d_Ma_perform_6 : decode b_Ma_perform 6 = .ok (.bipush 127, 2) := by decide +kernel
theorem d_Ma_perform_8 : decode b_Ma_perform 8 = .ok (.iand, 1) := by decide +kernel
theorem d_Ma_perform_9 : decode b_Ma_perform 9 = .ok (.lookupswitch 244 #[(3, 166), (15, 233), (19, 182), (23, 118), (35, 174), (51, 190), (55, 99), (99, 158), (103, 150), (111, 142), (115, 236)], 99) := by decide +kernel
theorem d_Ma_perform_108 : decode b_Ma_perform 108 = .ok (.aload_n 0, 1) := by decide +kernel
theorem d_Ma_perform_109 : decode b_Ma_perform 109 = .ok (.getfield 21, 3) := by decide +kernel
theorem d_Ma_perform_112 : decode b_Ma_perform 112 = .ok (.iload_n 1, 1) := by decide +kernel
theorem d_Ma_perform_113 : decode b_Ma_perform 113 = .ok (.invokestatic 84, 3) := by decide +kernel
theorem d_Ma_perform_116 : decode b_Ma_perform 116 = .ok (.iload_n 1, 1) := by decide +kernel
theorem d_Ma_perform_117 : decode b_Ma_perform 117 = .ok (.invokestatic 89, 3) := by decide +kernel
theorem d_Ma_perform_120 : decode b_Ma_perform 120 = .ok (.iconst 0, 1) := by decide +kernel
theorem d_Ma_perform_121 : decode b_Ma_perform 121 = .ok (.invokevirtual 92, 3) := by decide +kernel
theorem d_Ma_perform_124 : decode b_Ma_perform 124 = .ok (.goto 134, 3) := by decide +kernel
theorem d_Ma_perform_127 : decode b_Ma_perform 127 = .ok (.aload_n 0, 1) := by decide +kernel
theorem d_Ma_perform_128 : decode b_Ma_perform 128 = .ok (.getfield 21, 3) := by decide +kernel
theorem d_Ma_perform_131 : decode b_Ma_perform 131 = .ok (.iload_n 1, 1) := by decide +kernel
theorem d_Ma_perform_132 : decode b_Ma_perform 132 = .ok (.invokestatic 84, 3) := by decide +kernel
theorem d_Ma_perform_135 : decode b_Ma_perform 135 = .ok (.iload_n 1, 1) := by decide +kernel
theorem d_Ma_perform_136 : decode b_Ma_perform 136 = .ok (.invokestatic 89, 3) := by decide +kernel
theorem d_Ma_perform_139 : decode b_Ma_perform 139 = .ok (.aload_n 0, 1) := by decide +kernel
theorem d_Ma_perform_140 : decode b_Ma_perform 140 = .ok (.getfield 45, 3) := by decide +kernel
theorem d_Ma_perform_143 : decode b_Ma_perform 143 = .ok (.iadd, 1) := by decide +kernel
theorem d_Ma_perform_144 : decode b_Ma_perform 144 = .ok (.iconst 0, 1) := by decide +kernel
theorem d_Ma_perform_145 : decode b_Ma_perform 145 = .ok (.invokevirtual 92, 3) := by decide +kernel
theorem d_Ma_perform_148 : decode b_Ma_perform 148 = .ok (.goto 110, 3) := by decide +kernel
theorem d_Ma_perform_151 : decode b_Ma_perform 151 = .ok (.aload_n 0, 1) := by decide +kernel
theorem d_Ma_perform_152 : decode b_Ma_perform 152 = .ok (.iload_n 1, 1) := by decide +kernel
theorem d_Ma_perform_153 : decode b_Ma_perform 153 = .ok (.invokevirtual 95, 3) := by decide +kernel
theorem d_Ma_perform_156 : decode b_Ma_perform 156 = .ok (.goto 102, 3) := by decide +kernel
theorem d_Ma_perform_159 : decode b_Ma_perform 159 = .ok (.aload_n 0, 1) := by decide +kernel
theorem d_Ma_perform_160 : decode b_Ma_perform 160 = .ok (.iload_n 1, 1) := by decide +kernel
theorem d_Ma_perform_161 : decode b_Ma_perform 161 = .ok (.invokevirtual 98, 3) := by decide +kernel
theorem d_Ma_perform_164 : decode b_Ma_perform 164 = .ok (.goto 94, 3) := by decide +kernel
theorem d_Ma_perform_167 : decode b_Ma_perform 167 = .ok (.aload_n 0, 1) := by decide +kernel
theorem d_Ma_perform_168 : decode b_Ma_perform 168 = .ok (.iload_n 1, 1) := by decide +kernel
theorem d_Ma_perform_169 : decode b_Ma_perform 169 = .ok (.invokevirtual 101, 3) := by decide +kernel
theorem d_Ma_perform_172 : decode b_Ma_perform 172 = .ok (.goto 86, 3) := by decide +kernel
theorem d_Ma_perform_175 : decode b_Ma_perform 175 = .ok (.aload_n 0, 1) := by decide +kernel
theorem d_Ma_perform_176 : decode b_Ma_perform 176 = .ok (.iload_n 1, 1) := by decide +kernel
theorem d_Ma_perform_177 : decode b_Ma_perform 177 = .ok (.invokevirtual 104, 3) := by decide +kernel
theorem d_Ma_perform_180 : decode b_Ma_perform 180 = .ok (.goto 78, 3) := by decide +kernel
theorem d_Ma_perform_183 : decode b_Ma_perform 183 = .ok (.aload_n 0, 1) := by decide +kernel
theorem d_Ma_perform_184 : decode b_Ma_perform 184 = .ok (.iload_n 1, 1) := by decide +kernel
theorem d_Ma_perform_185 : decode b_Ma_perform 185 = .ok (.invokevirtual 107, 3) := by decide +kernel
theorem d_Ma_perform_188 : decode b_Ma_perform 188 = .ok (.goto 70, 3) := by decide +kernel
theorem d_Ma_perform_191 : decode b_Ma_perform 191 = .ok (.aload_n 0, 1) := by decide +kernel
theorem d_Ma_perform_192 : decode b_Ma_perform 192 = .ok (.iload_n 1, 1) := by decide +kernel
theorem d_Ma_perform_193 : decode b_Ma_perform 193 = .ok (.invokevirtual 110, 3) := by decide +kernel
theorem d_Ma_perform_196 : decode b_Ma_perform 196 = .ok (.goto 62, 3) := by decide +kernel
theorem d_Ma_perform_199 : decode b_Ma_perform 199 = .ok (.aload_n 0, 1) := by decide +kernel
theorem d_Ma_perform_200 : decode b_Ma_perform 200 = .ok (.iload_n 1, 1) := by decide +kernel
theorem d_Ma_perform_201 : decode b_Ma_perform 201 = .ok (.invokestatic 113, 3) := by decide +kernel
theorem d_Ma_perform_204 : decode b_Ma_perform 204 = .ok (.iload_n 1, 1) := by decide +kernel
theorem d_Ma_perform_205 : decode b_Ma_perform 205 = .ok (.invokestatic 116, 3) := by decide +kernel
theorem d_Ma_perform_208 : decode b_Ma_perform 208 = .ok (.invokestatic 119, 3) := by decide +kernel
theorem d_Ma_perform_211 : decode b_Ma_perform 211 = .ok (.iload_n 1, 1) := by decide +kernel
theorem d_Ma_perform_212 : decode b_Ma_perform 212 = .ok (.aload_n 0, 1) := by decide +kernel
theorem d_Ma_perform_213 : decode b_Ma_perform 213 = .ok (.getfield 21, 3) := by decide +kernel
theorem d_Ma_perform_216 : decode b_Ma_perform 216 = .ok (.getfield 124, 3) := by decide +kernel
theorem d_Ma_perform_219 : decode b_Ma_perform 219 = .ok (.iload_n 1, 1) := by decide +kernel
theorem d_Ma_perform_220 : decode b_Ma_perform 220 = .ok (.invokestatic 128, 3) := by decide +kernel
theorem d_Ma_perform_223 : decode b_Ma_perform 223 = .ok (.iaload, 1) := by decide +kernel
theorem d_Ma_perform_224 : decode b_Ma_perform 224 = .ok (.aload_n 0, 1) := by decide +kernel
theorem d_Ma_perform_225 : decode b_Ma_perform 225 = .ok (.getfield 21, 3) := by decide +kernel
theorem d_Ma_perform_228 : decode b_Ma_perform 228 = .ok (.getfield 131, 3) := by decide +kernel
theorem d_Ma_perform_231 : decode b_Ma_perform 231 = .ok (.iload_n 1, 1) := by decide +kernel
theorem d_Ma_perform_232 : decode b_Ma_perform 232 = .ok (.invokestatic 128, 3) := by decide +kernel
theorem d_Ma_perform_235 : decode b_Ma_perform 235 = .ok (.iaload, 1) := by decide +kernel
theorem d_Ma_perform_236 : decode b_Ma_perform 236 = .ok (.invokevirtual 134, 3) := by decide +kernel
theorem d_Ma_perform_239 : decode b_Ma_perform 239 = .ok (.goto 19, 3) := by decide +kernel
theorem d_Ma_perform_242 : decode b_Ma_perform 242 = .ok (.goto 16, 3) := by decide +kernel
theorem d_Ma_perform_245 : decode b_Ma_perform 245 = .ok (.aload_n 0, 1) := by decide +kernel
theorem d_Ma_perform_246 : decode b_Ma_perform 246 = .ok (.iload_n 1, 1) := by decide +kernel
theorem d_Ma_perform_247 : decode b_Ma_perform 247 = .ok (.invokevirtual 138, 3) := by decide +kernel
theorem d_Ma_perform_250 : decode b_Ma_perform 250 = .ok (.goto 8, 3) := by decide +kernel
theorem d_Ma_perform_253 : decode b_Ma_perform 253 = .ok (.aload_n 0, 1) := by decide +kernel
theorem d_Ma_perform_254 : decode b_Ma_perform 254 = .ok (.iconst 1, 1) := by decide +kernel
theorem d_Ma_perform_255 : decode b_Ma_perform 255 = .ok (.invokevirtual 59, 3) := by decide +kernel
theorem d_Ma_perform_258 : decode b_Ma_perform 258 = .ok (.aload_n 0, 1) := by decide +kernel
theorem d_Ma_perform_259 : decode b_Ma_perform 259 = .ok (.getfield 49, 3) := by decide +kernel
theorem d_Ma_perform_262 : decode b_Ma_perform 262 = .ok (.iconst 2, 1) := by decide +kernel
theorem d_Ma_perform_263 : decode b_Ma_perform 263 = .ok (.if_icmp .eq 21, 3) := by decide +kernel
theorem d_Ma_perform_266 : decode b_Ma_perform 266 = .ok (.aload_n 0, 1) := by decide +kernel
theorem d_Ma_perform_267 : decode b_Ma_perform 267 = .ok (.aload_n 0, 1) := by decide +kernel
theorem d_Ma_perform_268 : decode b_Ma_perform 268 = .ok (.getfield 81, 3) := by decide +kernel
theorem d_Ma_perform_271 : decode b_Ma_perform 271 = .ok (.putfield 45, 3) := by decide +kernel
theorem d_Ma_perform_274 : decode b_Ma_perform 274 = .ok (.aload_n 0, 1) := by decide +kernel
theorem d_Ma_perform_275 : decode b_Ma_perform 275 = .ok (.dup, 1) := by decide +kernel
theorem d_Ma_perform_276 : decode b_Ma_perform 276 = .ok (.getfield 55, 3) := by decide +kernel
theorem d_Ma_perform_279 : decode b_Ma_perform 279 = .ok (.iconst 1, 1) := by decide +kernel
theorem d_Ma_perform_280 : decode b_Ma_perform 280 = .ok (.iadd, 1) := by decide +kernel
theorem d_Ma_perform_281 : decode b_Ma_perform 281 = .ok (.putfield 55, 3) := by decide +kernel
theorem d_Ma_perform_284 : decode b_Ma_perform 284 = .ok (.return_, 1) := by decide +kernel
def f_Ma_perform_258 (u : S5) (u1 : S5) : S5 := if (gI u1 3) = 2 then u1 else sI (sI u1 0 (gI u1 2)) 5 ((gI u1 5) + (1 : Int32))
def f_Ma_perform (u : S5) : S5 := if ((gI u 1) &&& (127 : Int32)) = 3 then f_Ma_perform_258 u (f_Ma_load (gI u 1) u) else if ((gI u 1) &&& (127 : Int32)) = 15 then f_Ma_perform_258 u u else if ((gI u 1) &&& (127 : Int32)) = 19 then f_Ma_perform_258 u (f_Ma_reckonImmediate (gI u 1) u) else if ((gI u 1) &&& (127 : Int32)) = 23 then f_Ma_perform_258 u (f_Rg_put (f_Wo_d (gI u 1)) ((f_Wo_upper (gI u 1)) + (gI u 0)) 0 u) else if ((gI u 1) &&& (127 : Int32)) = 35 then f_Ma_perform_258 u (f_Ma_store (gI u 1) u) else if ((gI u 1) &&& (127 : Int32)) = 51 then f_Ma_perform_258 u (f_Ma_reckon (f_Rk_kind (nI (f_Wo_f (gI u 1))) (f_Wo_g (gI u 1))) (gI u 1) (aI u 2 (f_Wo_b (gI u 1))) (aI u 3 (f_Wo_b (gI u 1))) u) else if ((gI u 1) &&& (127 : Int32)) = 55 then f_Ma_perform_258 u (f_Rg_put (f_Wo_d (gI u 1)) (f_Wo_upper (gI u 1)) 0 u) else if ((gI u 1) &&& (127 : Int32)) = 99 then f_Ma_perform_258 u (f_Ma_branch (gI u 1) u) else if ((gI u 1) &&& (127 : Int32)) = 103 then f_Ma_perform_258 u (f_Ma_jumpToRegister (gI u 1) u) else if ((gI u 1) &&& (127 : Int32)) = 111 then f_Ma_perform_258 u (f_Ma_jump (gI u 1) u) else if ((gI u 1) &&& (127 : Int32)) = 115 then f_Ma_perform_258 u (f_Ma_callOrBreak (gI u 1) u) else f_Ma_perform_258 u (f_Ma_trap 1 u)
set_option maxHeartbeats 8000000 in
set_option maxRecDepth 100000 in
theorem c_Ma_perform (l : Launch) (dC : Nat → ClassId) (dI : Nat → Nat → Nat) (cI : ClassId) (ad : Nat → Nat) (u : S5) (ok : OkR u) (okh : OkH u) (okp : OkP u) (sz : Nat) : Met l y_Ma_perform w_Ma_perform rm_Ma_perform (PreW (dC, dI) classes [(cI, .int)] (wC cI ad) u sz [.ref (ad 1)]) (QWv (dC, dI) classes [(cI, .int)] (wC cI ad) (va_A (wC cI ad u) sz) (f_Ma_perform u)) 0 0 (va_A (wC cI ad u) sz) := by
  generalize hres : f_Ma_perform u = res
  refine Met.ofW (cc := b_Ma_perform) (maxL := 2) (ret := none) (by decide) rfl ?_
  intro p e s m args below meth c s₁ B hml hv
  obtain ⟨rfl, rfl, hP, hK, hD0⟩ := hv
  have hx := B.exec
  have hb := B.bytes
  have hr := B.returns
  have hts : ∀ w9 ∈ ALLW, w9.before ([.ref (ad 1)] : List Value).toArray s = true := fun w9 h => atoms_spec (ws := w_Ma_perform) B.pre w9 (List.mem_cons_of_mem _ h)
  have hown : s.vm.findClass R_Ma = some m.cls := findClass_of_methodNamed B.named
  have hlocks := B.notSynchronized
  have hD := hD0.self (sz := s.heap.size)
  generalize hAe : va_A (wC cI ad u) s.heap.size = A at hD ⊢
  have hA : ∀ q : Nat, s.heap.size ≤ q → A q := fun q h => by rw [← hAe]; exact Or.inr h
  have hS : va_S A s.heap s.heap [] := va_S.rf
  have hl := lv_entry ([.ref (ad 1)]) (n := 2) (Nat.le_of_ble_eq_true rfl)
  rw [lg_entry_eq]
  generalize (lg_sl ([.ref (ad 1)]) ++ List.replicate (2 - (lg_sl ([.ref (ad 1)])).length) Slot.unset).toArray = ls at hl ⊢
  have hl : lv_has ls 2 [(0, .ref (ad 1))] := hl
  have hq := hres.symm
  skip
  obtain ⟨ok0, ok1, ok2⟩ := id ok
  have hf := bWo_f (gI u 1)
  have ha := bWo_a (gI u 1)
  have hd := bWo_d (gI u 1)
  have hbb := bWo_b (gI u 1)
  refine lv_aload_n hx hb d_Ma_perform_0 rfl (lv_at hl 0 rfl) ?_
  refine va_get (D := (dC, dI)) (ci := 1) (v := .int (gI u 1)) (C := R_Ma) (T := F_Ma) (N := 10) hx hb hts in_Ma hown hK hP 1 rfl rfl 5 (by decide) (hts _ m_4_20) (fun _ h9 => h9) rfl d_Ma_perform_1 ?_
  refine lv_istore_n (lv' := [(1, .int (gI u 1)), (0, .ref (ad 1))]) hx hb d_Ma_perform_4 rfl hl (by decide) rfl (fun ls hl => ?_)
  refine lv_iload_n hx hb d_Ma_perform_5 rfl (lv_at hl 0 rfl) ?_
  refine lv_bipush (v := 127) hx hb d_Ma_perform_6 (by decide) ?_
  refine lv_iand hx hb d_Ma_perform_8 ?_
  have J258 : ∀ (u1 : S5) (H : Heap) (locs : List Loc) (ls : Array Slot), res = f_Ma_perform_258 u u1 → va_P (dC, dI) classes (wC cI ad u1) H → va_D A (wC cI ad u1) → va_S A s.heap H locs → lv_has ls 2 [(1, .int (gI u 1)), (0, .ref (ad 1))] → W p l e (headSpec w_Ma_perform rm_Ma_perform).room s m ([.ref (ad 1)] : List Value).toArray below meth c H locs 0 0 (MQ below (QWv (dC, dI) classes [(cI, .int)] (wC cI ad) A res) ([.ref (ad 1)] : List Value).toArray s 0 0 A) (F0 m 258 ls []) := by
    intro u1 H locs ls hq hP hD hS hl
    refine lv_aload_n hx hb d_Ma_perform_258 rfl (lv_at hl 1 rfl) ?_
    refine va_get (D := (dC, dI)) (ci := 1) (v := .int (gI u1 3)) (C := R_Ma) (T := F_Ma) (N := 10) hx hb hts in_Ma hown hK hP 1 rfl rfl 7 (by decide) (hts _ m_4_22) (fun _ h9 => h9) rfl d_Ma_perform_259 ?_
    refine lv_iconst (v := 2) hx hb d_Ma_perform_262 (by decide) ?_
    refine lv_icmp_eq (tgt := 284) hx hb d_Ma_perform_263 (by decide) (fun c1 => ?_) (fun c1 => ?_)
    · skip
      have hE : res = u1 := hq.trans ((if_pos c1).trans rfl)
      exact retWv hx hb hr hP hK hD hS hE.symm d_Ma_perform_284 hlocks
    · skip
      refine lv_aload_n hx hb d_Ma_perform_266 rfl (lv_at hl 1 rfl) ?_
      refine lv_aload_n hx hb d_Ma_perform_267 rfl (lv_at hl 1 rfl) ?_
      refine va_get (D := (dC, dI)) (ci := 1) (v := .int (gI u1 2)) (C := R_Ma) (T := F_Ma) (N := 10) hx hb hts in_Ma hown hK hP 1 rfl rfl 6 (by decide) (hts _ m_4_21) (fun _ h9 => h9) rfl d_Ma_perform_268 ?_
      refine va_put (D := (dC, dI)) (ci := 1) (v := .int (gI u1 2)) (ty := .int) (C := R_Ma) (T := F_Ma) (N := 10) hx hb hts in_Ma t_Ma t_Ma_ok n_Ma hown hK hP hD hS 1 rfl rfl 4 (by decide) (hts _ m_4_18) (fun _ h9 => h9) rfl (by decide +kernel) rfl rfl (Nat.le_of_ble_eq_true rfl) d_Ma_perform_271 (fun H locs hP hD hS => ?_)
      have hP : va_P (dC, dI) classes (wC cI ad (sI u1 0 (gI u1 2))) H := hP
      have hD : va_D A (wC cI ad (sI u1 0 (gI u1 2))) := hD
      refine lv_aload_n hx hb d_Ma_perform_274 rfl (lv_at hl 1 rfl) ?_
      refine lv_dup hx hb d_Ma_perform_275 rfl ?_
      refine va_get (D := (dC, dI)) (ci := 1) (v := .int (gI u1 5)) (C := R_Ma) (T := F_Ma) (N := 10) hx hb hts in_Ma hown hK hP 1 rfl rfl 9 (by decide) (hts _ m_4_26) (fun _ h9 => h9) rfl d_Ma_perform_276 ?_
      refine lv_iconst (v := 1) hx hb d_Ma_perform_279 (by decide) ?_
      refine lv_iadd hx hb d_Ma_perform_280 ?_
      refine va_put (D := (dC, dI)) (ci := 1) (v := .int ((gI u1 5) + (1 : Int32))) (ty := .int) (C := R_Ma) (T := F_Ma) (N := 10) hx hb hts in_Ma t_Ma t_Ma_ok n_Ma hown hK hP hD hS 1 rfl rfl 9 (by decide) (hts _ m_4_26) (fun _ h9 => h9) rfl (by decide +kernel) rfl rfl (Nat.le_of_ble_eq_true rfl) d_Ma_perform_281 (fun H locs hP hD hS => ?_)
      have hP : va_P (dC, dI) classes (wC cI ad (sI (sI u1 0 (gI u1 2)) 5 ((gI u1 5) + (1 : Int32)))) H := hP
      have hD : va_D A (wC cI ad (sI (sI u1 0 (gI u1 2)) 5 ((gI u1 5) + (1 : Int32)))) := hD
      have hE : res = sI (sI u1 0 (gI u1 2)) 5 ((gI u1 5) + (1 : Int32)) := hq.trans ((if_neg c1).trans rfl)
      exact retWv hx hb hr hP hK hD hS hE.symm d_Ma_perform_284 hlocks
  by_cases c2 : ((gI u 1) &&& (127 : Int32)) = 3
  · skip
    refine lv_lookup (off := 166) (tgt := 175) hx hb d_Ma_perform_9 (by decide) (by rw [c2]; decide) (by decide) ?_
    refine lv_aload_n hx hb d_Ma_perform_175 rfl (lv_at hl 1 rfl) ?_
    refine lv_iload_n hx hb d_Ma_perform_176 rfl (lv_at hl 0 rfl) ?_
    refine callWv (va_runV (As := [.int (gI u 1)]) (rest := []) ⟨hx, hb, hml, hown, hts⟩ (c_Ma_load l dC dI cI ad u (gI u 1) (by first | assumption | omega) s.heap.size) (cwV 1 hts (goodV m_8_24 m_8_25 m_19_3 m_0_2 m_8_26) rfl rfl rfl (by decide +kernel) ⟨Nat.le_of_ble_eq_true rfl, Nat.le_of_ble_eq_true rfl⟩) ⟨preW_blind, va_recv hK hP (ci := 1) (q0 := 1) rfl rfl, preW_ok hP hD hK⟩ rfl rfl hl.1 rfl (lv_room (Nat.le_of_ble_eq_true rfl)) d_Ma_perform_177 ⟨Nat.zero_le _, Nat.zero_le _⟩) hP hD hS hA (fun H locs hP hD hS => ?_)
    refine lv_goto (tgt := 258) hx hb d_Ma_perform_180 (by decide) ?_
    exact J258 (f_Ma_load (gI u 1) u) _ _ _ (hq.trans ((if_pos c2).trans rfl)) hP hD hS (lv_sub hl [0, 1] rfl)
  by_cases c3 : ((gI u 1) &&& (127 : Int32)) = 15
  · skip
    refine lv_lookup (off := 233) (tgt := 242) hx hb d_Ma_perform_9 (by decide) (by rw [c3]; decide) (by decide) ?_
    refine lv_goto (tgt := 258) hx hb d_Ma_perform_242 (by decide) ?_
    exact J258 u _ _ _ (hq.trans ((if_neg c2).trans ((if_pos c3).trans rfl))) hP hD hS (lv_sub hl [0, 1] rfl)
  by_cases c4 : ((gI u 1) &&& (127 : Int32)) = 19
  · skip
    refine lv_lookup (off := 182) (tgt := 191) hx hb d_Ma_perform_9 (by decide) (by rw [c4]; decide) (by decide) ?_
    refine lv_aload_n hx hb d_Ma_perform_191 rfl (lv_at hl 1 rfl) ?_
    refine lv_iload_n hx hb d_Ma_perform_192 rfl (lv_at hl 0 rfl) ?_
    refine callWv (va_runV (As := [.int (gI u 1)]) (rest := []) ⟨hx, hb, hml, hown, hts⟩ (c_Ma_reckonImmediate l dC dI cI ad u (gI u 1) s.heap.size) (cwV 1 hts (goodV m_9_9 m_9_10 m_19_6 m_0_2 m_9_11) rfl rfl rfl (by decide +kernel) ⟨Nat.le_of_ble_eq_true rfl, Nat.le_of_ble_eq_true rfl⟩) ⟨preW_blind, va_recv hK hP (ci := 1) (q0 := 1) rfl rfl, preW_ok hP hD hK⟩ rfl rfl hl.1 rfl (lv_room (Nat.le_of_ble_eq_true rfl)) d_Ma_perform_193 ⟨Nat.zero_le _, Nat.zero_le _⟩) hP hD hS hA (fun H locs hP hD hS => ?_)
    refine lv_goto (tgt := 258) hx hb d_Ma_perform_196 (by decide) ?_
    exact J258 (f_Ma_reckonImmediate (gI u 1) u) _ _ _ (hq.trans ((if_neg c2).trans ((if_neg c3).trans ((if_pos c4).trans rfl)))) hP hD hS (lv_sub hl [0, 1] rfl)
  by_cases c5 : ((gI u 1) &&& (127 : Int32)) = 23
  · skip
    refine lv_lookup (off := 118) (tgt := 127) hx hb d_Ma_perform_9 (by decide) (by rw [c5]; decide) (by decide) ?_
    refine lv_aload_n hx hb d_Ma_perform_127 rfl (lv_at hl 1 rfl) ?_
    refine va_get (D := (dC, dI)) (ci := 1) (v := .ref (ad 3)) (C := R_Ma) (T := F_Ma) (N := 10) hx hb hts in_Ma hown hK hP 1 rfl rfl 1 (by decide) (hts _ m_4_12) (fun _ h9 => h9) rfl d_Ma_perform_128 ?_
    refine lv_iload_n hx hb d_Ma_perform_131 rfl (lv_at hl 0 rfl) ?_
    refine callPi (va_runS (As := [.int (gI u 1)]) (rest := [.ref (ad 3)]) ⟨hx, hb, hml, hown, hts⟩ (c_Wo_d l (gI u 1) s.heap.size) (va_cwS 1 hts (goodS m_7_8 m_7_9 m_0_13 m_7_10) rfl rfl rfl (by decide +kernel) ⟨Nat.le_of_ble_eq_true rfl, Nat.le_of_ble_eq_true rfl⟩) ⟨preP_blind, preP_ok⟩ rfl rfl hl.1 rfl (lv_room (Nat.le_of_ble_eq_true rfl)) d_Ma_perform_132 ⟨Nat.zero_le _, Nat.zero_le _⟩) hP hS hA (fun H locs hP hS => ?_)
    refine lv_iload_n hx hb d_Ma_perform_135 rfl (lv_at hl 0 rfl) ?_
    refine callPi (va_runS (As := [.int (gI u 1)]) (rest := [.int (nI (f_Wo_d (gI u 1))), .ref (ad 3)]) ⟨hx, hb, hml, hown, hts⟩ (c_Wo_upper l (gI u 1) H.size) (va_cwS 1 hts (goodS m_7_11 m_7_12 m_0_13 m_7_13) rfl rfl rfl (by decide +kernel) ⟨Nat.le_of_ble_eq_true rfl, Nat.le_of_ble_eq_true rfl⟩) ⟨preP_blind, preP_ok⟩ rfl rfl hl.1 rfl (lv_room (Nat.le_of_ble_eq_true rfl)) d_Ma_perform_136 ⟨Nat.zero_le _, Nat.zero_le _⟩) hP hS hA (fun H locs hP hS => ?_)
    refine lv_aload_n hx hb d_Ma_perform_139 rfl (lv_at hl 1 rfl) ?_
    refine va_get (D := (dC, dI)) (ci := 1) (v := .int (gI u 0)) (C := R_Ma) (T := F_Ma) (N := 10) hx hb hts in_Ma hown hK hP 1 rfl rfl 4 (by decide) (hts _ m_4_18) (fun _ h9 => h9) rfl d_Ma_perform_140 ?_
    refine lv_iadd hx hb d_Ma_perform_143 ?_
    refine lv_iconst (v := 0) hx hb d_Ma_perform_144 (by decide) ?_
    refine callWv (va_runV (As := [.int (nI (f_Wo_d (gI u 1))), .int ((f_Wo_upper (gI u 1)) + (gI u 0)), .int 0]) (rest := []) ⟨hx, hb, hml, hown, hts⟩ (c_Rg_put l dC dI cI ad u (f_Wo_d (gI u 1)) ((f_Wo_upper (gI u 1)) + (gI u 0)) 0 (by first | assumption | omega) H.size) (cwV 3 hts (goodV m_7_14 m_7_15 m_7_16 m_0_7 m_7_17) rfl rfl rfl (by decide +kernel) ⟨Nat.le_of_ble_eq_true rfl, Nat.le_of_ble_eq_true rfl⟩) ⟨preW_blind, va_recv hK hP (ci := 3) (q0 := 3) rfl rfl, preW_ok hP hD hK⟩ rfl rfl hl.1 rfl (lv_room (Nat.le_of_ble_eq_true rfl)) d_Ma_perform_145 ⟨Nat.zero_le _, Nat.zero_le _⟩) hP hD hS hA (fun H locs hP hD hS => ?_)
    refine lv_goto (tgt := 258) hx hb d_Ma_perform_148 (by decide) ?_
    exact J258 (f_Rg_put (f_Wo_d (gI u 1)) ((f_Wo_upper (gI u 1)) + (gI u 0)) 0 u) _ _ _ (hq.trans ((if_neg c2).trans ((if_neg c3).trans ((if_neg c4).trans ((if_pos c5).trans rfl))))) hP hD hS (lv_sub hl [0, 1] rfl)
  by_cases c6 : ((gI u 1) &&& (127 : Int32)) = 35
  · skip
    refine lv_lookup (off := 174) (tgt := 183) hx hb d_Ma_perform_9 (by decide) (by rw [c6]; decide) (by decide) ?_
    refine lv_aload_n hx hb d_Ma_perform_183 rfl (lv_at hl 1 rfl) ?_
    refine lv_iload_n hx hb d_Ma_perform_184 rfl (lv_at hl 0 rfl) ?_
    refine callWv (va_runV (As := [.int (gI u 1)]) (rest := []) ⟨hx, hb, hml, hown, hts⟩ (c_Ma_store l dC dI cI ad u (gI u 1) (by first | assumption | omega) s.heap.size) (cwV 1 hts (goodV m_8_39 m_9_0 m_19_5 m_0_2 m_9_1) rfl rfl rfl (by decide +kernel) ⟨Nat.le_of_ble_eq_true rfl, Nat.le_of_ble_eq_true rfl⟩) ⟨preW_blind, va_recv hK hP (ci := 1) (q0 := 1) rfl rfl, preW_ok hP hD hK⟩ rfl rfl hl.1 rfl (lv_room (Nat.le_of_ble_eq_true rfl)) d_Ma_perform_185 ⟨Nat.zero_le _, Nat.zero_le _⟩) hP hD hS hA (fun H locs hP hD hS => ?_)
    refine lv_goto (tgt := 258) hx hb d_Ma_perform_188 (by decide) ?_
    exact J258 (f_Ma_store (gI u 1) u) _ _ _ (hq.trans ((if_neg c2).trans ((if_neg c3).trans ((if_neg c4).trans ((if_neg c5).trans ((if_pos c6).trans rfl)))))) hP hD hS (lv_sub hl [0, 1] rfl)
  by_cases c7 : ((gI u 1) &&& (127 : Int32)) = 51
  · skip
    refine lv_lookup (off := 190) (tgt := 199) hx hb d_Ma_perform_9 (by decide) (by rw [c7]; decide) (by decide) ?_
    refine lv_aload_n hx hb d_Ma_perform_199 rfl (lv_at hl 1 rfl) ?_
    refine lv_iload_n hx hb d_Ma_perform_200 rfl (lv_at hl 0 rfl) ?_
    refine callPi (va_runS (As := [.int (gI u 1)]) (rest := [.ref (ad 1)]) ⟨hx, hb, hml, hown, hts⟩ (c_Wo_f l (gI u 1) s.heap.size) (va_cwS 1 hts (goodS m_7_32 m_7_33 m_0_13 m_7_34) rfl rfl rfl (by decide +kernel) ⟨Nat.le_of_ble_eq_true rfl, Nat.le_of_ble_eq_true rfl⟩) ⟨preP_blind, preP_ok⟩ rfl rfl hl.1 rfl (lv_room (Nat.le_of_ble_eq_true rfl)) d_Ma_perform_201 ⟨Nat.zero_le _, Nat.zero_le _⟩) hP hS hA (fun H locs hP hS => ?_)
    refine lv_iload_n hx hb d_Ma_perform_204 rfl (lv_at hl 0 rfl) ?_
    refine callPi (va_runS (As := [.int (gI u 1)]) (rest := [.int (nI (f_Wo_f (gI u 1))), .ref (ad 1)]) ⟨hx, hb, hml, hown, hts⟩ (c_Wo_g l (gI u 1) H.size) (va_cwS 1 hts (goodS m_9_12 m_9_13 m_0_13 m_9_14) rfl rfl rfl (by decide +kernel) ⟨Nat.le_of_ble_eq_true rfl, Nat.le_of_ble_eq_true rfl⟩) ⟨preP_blind, preP_ok⟩ rfl rfl hl.1 rfl (lv_room (Nat.le_of_ble_eq_true rfl)) d_Ma_perform_205 ⟨Nat.zero_le _, Nat.zero_le _⟩) hP hS hA (fun H locs hP hS => ?_)
    refine callPi (va_runS (As := [.int (nI (f_Wo_f (gI u 1))), .int (f_Wo_g (gI u 1))]) (rest := [.ref (ad 1)]) ⟨hx, hb, hml, hown, hts⟩ (c_Rk_kind l (nI (f_Wo_f (gI u 1))) (f_Wo_g (gI u 1)) H.size) (va_cwS 2 hts (goodS m_9_36 m_9_37 m_0_14 m_9_38) rfl rfl rfl (by decide +kernel) ⟨Nat.le_of_ble_eq_true rfl, Nat.le_of_ble_eq_true rfl⟩) ⟨preP_blind, preP_ok⟩ rfl rfl hl.1 rfl (lv_room (Nat.le_of_ble_eq_true rfl)) d_Ma_perform_208 ⟨Nat.zero_le _, Nat.zero_le _⟩) hP hS hA (fun H locs hP hS => ?_)
    refine lv_iload_n hx hb d_Ma_perform_211 rfl (lv_at hl 0 rfl) ?_
    refine lv_aload_n hx hb d_Ma_perform_212 rfl (lv_at hl 1 rfl) ?_
    refine va_get (D := (dC, dI)) (ci := 1) (v := .ref (ad 3)) (C := R_Ma) (T := F_Ma) (N := 10) hx hb hts in_Ma hown hK hP 1 rfl rfl 1 (by decide) (hts _ m_4_12) (fun _ h9 => h9) rfl d_Ma_perform_213 ?_
    refine va_get (D := (dC, dI)) (ci := 3) (v := .ref (ad 10)) (C := R_Rg) (T := F_Rg) (N := 2) hx hb hts in_Rg hown hK hP 3 rfl rfl 0 (by decide) (hts _ m_1_37) (fun _ h9 => h9) rfl d_Ma_perform_216 ?_
    refine lv_iload_n hx hb d_Ma_perform_219 rfl (lv_at hl 0 rfl) ?_
    refine callPi (va_runS (As := [.int (gI u 1)]) (rest := [.ref (ad 10), .int (gI u 1), .int (f_Rk_kind (nI (f_Wo_f (gI u 1))) (f_Wo_g (gI u 1))), .ref (ad 1)]) ⟨hx, hb, hml, hown, hts⟩ (c_Wo_b l (gI u 1) H.size) (va_cwS 1 hts (goodS m_8_8 m_8_9 m_0_13 m_8_10) rfl rfl rfl (by decide +kernel) ⟨Nat.le_of_ble_eq_true rfl, Nat.le_of_ble_eq_true rfl⟩) ⟨preP_blind, preP_ok⟩ rfl rfl hl.1 rfl (lv_room (Nat.le_of_ble_eq_true rfl)) d_Ma_perform_220 ⟨Nat.zero_le _, Nat.zero_le _⟩) hP hS hA (fun H locs hP hS => ?_)
    refine aldC_value (u := u) (v := aI u 2 (f_Wo_b (gI u 1))) hx hb hK hP (by omega) rfl d_Ma_perform_223 ?_
    refine lv_aload_n hx hb d_Ma_perform_224 rfl (lv_at hl 1 rfl) ?_
    refine va_get (D := (dC, dI)) (ci := 1) (v := .ref (ad 3)) (C := R_Ma) (T := F_Ma) (N := 10) hx hb hts in_Ma hown hK hP 1 rfl rfl 1 (by decide) (hts _ m_4_12) (fun _ h9 => h9) rfl d_Ma_perform_225 ?_
    refine va_get (D := (dC, dI)) (ci := 3) (v := .ref (ad 11)) (C := R_Rg) (T := F_Rg) (N := 2) hx hb hts in_Rg hown hK hP 3 rfl rfl 1 (by decide) (hts _ m_2_1) (fun _ h9 => h9) rfl d_Ma_perform_228 ?_
    refine lv_iload_n hx hb d_Ma_perform_231 rfl (lv_at hl 0 rfl) ?_
    refine callPi (va_runS (As := [.int (gI u 1)]) (rest := [.ref (ad 11), .int (aI u 2 (f_Wo_b (gI u 1))), .int (gI u 1), .int (f_Rk_kind (nI (f_Wo_f (gI u 1))) (f_Wo_g (gI u 1))), .ref (ad 1)]) ⟨hx, hb, hml, hown, hts⟩ (c_Wo_b l (gI u 1) H.size) (va_cwS 1 hts (goodS m_8_8 m_8_9 m_0_13 m_8_10) rfl rfl rfl (by decide +kernel) ⟨Nat.le_of_ble_eq_true rfl, Nat.le_of_ble_eq_true rfl⟩) ⟨preP_blind, preP_ok⟩ rfl rfl hl.1 rfl (lv_room (Nat.le_of_ble_eq_true rfl)) d_Ma_perform_232 ⟨Nat.zero_le _, Nat.zero_le _⟩) hP hS hA (fun H locs hP hS => ?_)
    refine aldC_ungiven (u := u) (v := aI u 3 (f_Wo_b (gI u 1))) hx hb hK hP (by omega) rfl d_Ma_perform_235 ?_
    refine callWv (va_runV (As := [.int (f_Rk_kind (nI (f_Wo_f (gI u 1))) (f_Wo_g (gI u 1))), .int (gI u 1), .int (aI u 2 (f_Wo_b (gI u 1))), .int (aI u 3 (f_Wo_b (gI u 1)))]) (rest := []) ⟨hx, hb, hml, hown, hts⟩ (c_Ma_reckon l dC dI cI ad u (f_Rk_kind (nI (f_Wo_f (gI u 1))) (f_Wo_g (gI u 1))) (gI u 1) (aI u 2 (f_Wo_b (gI u 1))) (aI u 3 (f_Wo_b (gI u 1))) H.size) (cwV 4 hts (goodV m_9_18 m_9_19 m_19_7 m_0_2 m_9_20) rfl rfl rfl (by decide +kernel) ⟨Nat.le_of_ble_eq_true rfl, Nat.le_of_ble_eq_true rfl⟩) ⟨preW_blind, va_recv hK hP (ci := 1) (q0 := 1) rfl rfl, preW_ok hP hD hK⟩ rfl rfl hl.1 rfl (lv_room (Nat.le_of_ble_eq_true rfl)) d_Ma_perform_236 ⟨Nat.zero_le _, Nat.zero_le _⟩) hP hD hS hA (fun H locs hP hD hS => ?_)
    refine lv_goto (tgt := 258) hx hb d_Ma_perform_239 (by decide) ?_
    exact J258 (f_Ma_reckon (f_Rk_kind (nI (f_Wo_f (gI u 1))) (f_Wo_g (gI u 1))) (gI u 1) (aI u 2 (f_Wo_b (gI u 1))) (aI u 3 (f_Wo_b (gI u 1))) u) _ _ _ (hq.trans ((if_neg c2).trans ((if_neg c3).trans ((if_neg c4).trans ((if_neg c5).trans ((if_neg c6).trans ((if_pos c7).trans rfl))))))) hP hD hS (lv_sub hl [0, 1] rfl)
  by_cases c8 : ((gI u 1) &&& (127 : Int32)) = 55
  · skip
    refine lv_lookup (off := 99) (tgt := 108) hx hb d_Ma_perform_9 (by decide) (by rw [c8]; decide) (by decide) ?_
    refine lv_aload_n hx hb d_Ma_perform_108 rfl (lv_at hl 1 rfl) ?_
    refine va_get (D := (dC, dI)) (ci := 1) (v := .ref (ad 3)) (C := R_Ma) (T := F_Ma) (N := 10) hx hb hts in_Ma hown hK hP 1 rfl rfl 1 (by decide) (hts _ m_4_12) (fun _ h9 => h9) rfl d_Ma_perform_109 ?_
    refine lv_iload_n hx hb d_Ma_perform_112 rfl (lv_at hl 0 rfl) ?_
    refine callPi (va_runS (As := [.int (gI u 1)]) (rest := [.ref (ad 3)]) ⟨hx, hb, hml, hown, hts⟩ (c_Wo_d l (gI u 1) s.heap.size) (va_cwS 1 hts (goodS m_7_8 m_7_9 m_0_13 m_7_10) rfl rfl rfl (by decide +kernel) ⟨Nat.le_of_ble_eq_true rfl, Nat.le_of_ble_eq_true rfl⟩) ⟨preP_blind, preP_ok⟩ rfl rfl hl.1 rfl (lv_room (Nat.le_of_ble_eq_true rfl)) d_Ma_perform_113 ⟨Nat.zero_le _, Nat.zero_le _⟩) hP hS hA (fun H locs hP hS => ?_)
    refine lv_iload_n hx hb d_Ma_perform_116 rfl (lv_at hl 0 rfl) ?_
    refine callPi (va_runS (As := [.int (gI u 1)]) (rest := [.int (nI (f_Wo_d (gI u 1))), .ref (ad 3)]) ⟨hx, hb, hml, hown, hts⟩ (c_Wo_upper l (gI u 1) H.size) (va_cwS 1 hts (goodS m_7_11 m_7_12 m_0_13 m_7_13) rfl rfl rfl (by decide +kernel) ⟨Nat.le_of_ble_eq_true rfl, Nat.le_of_ble_eq_true rfl⟩) ⟨preP_blind, preP_ok⟩ rfl rfl hl.1 rfl (lv_room (Nat.le_of_ble_eq_true rfl)) d_Ma_perform_117 ⟨Nat.zero_le _, Nat.zero_le _⟩) hP hS hA (fun H locs hP hS => ?_)
    refine lv_iconst (v := 0) hx hb d_Ma_perform_120 (by decide) ?_
    refine callWv (va_runV (As := [.int (nI (f_Wo_d (gI u 1))), .int (f_Wo_upper (gI u 1)), .int 0]) (rest := []) ⟨hx, hb, hml, hown, hts⟩ (c_Rg_put l dC dI cI ad u (f_Wo_d (gI u 1)) (f_Wo_upper (gI u 1)) 0 (by first | assumption | omega) H.size) (cwV 3 hts (goodV m_7_14 m_7_15 m_7_16 m_0_7 m_7_17) rfl rfl rfl (by decide +kernel) ⟨Nat.le_of_ble_eq_true rfl, Nat.le_of_ble_eq_true rfl⟩) ⟨preW_blind, va_recv hK hP (ci := 3) (q0 := 3) rfl rfl, preW_ok hP hD hK⟩ rfl rfl hl.1 rfl (lv_room (Nat.le_of_ble_eq_true rfl)) d_Ma_perform_121 ⟨Nat.zero_le _, Nat.zero_le _⟩) hP hD hS hA (fun H locs hP hD hS => ?_)
    refine lv_goto (tgt := 258) hx hb d_Ma_perform_124 (by decide) ?_
    exact J258 (f_Rg_put (f_Wo_d (gI u 1)) (f_Wo_upper (gI u 1)) 0 u) _ _ _ (hq.trans ((if_neg c2).trans ((if_neg c3).trans ((if_neg c4).trans ((if_neg c5).trans ((if_neg c6).trans ((if_neg c7).trans ((if_pos c8).trans rfl)))))))) hP hD hS (lv_sub hl [0, 1] rfl)
  by_cases c9 : ((gI u 1) &&& (127 : Int32)) = 99
  · skip
    refine lv_lookup (off := 158) (tgt := 167) hx hb d_Ma_perform_9 (by decide) (by rw [c9]; decide) (by decide) ?_
    refine lv_aload_n hx hb d_Ma_perform_167 rfl (lv_at hl 1 rfl) ?_
    refine lv_iload_n hx hb d_Ma_perform_168 rfl (lv_at hl 0 rfl) ?_
    refine callWv (va_runV (As := [.int (gI u 1)]) (rest := []) ⟨hx, hb, hml, hown, hts⟩ (c_Ma_branch l dC dI cI ad u (gI u 1) (by first | assumption | omega) s.heap.size) (cwV 1 hts (goodV m_8_5 m_8_6 m_19_2 m_0_2 m_8_7) rfl rfl rfl (by decide +kernel) ⟨Nat.le_of_ble_eq_true rfl, Nat.le_of_ble_eq_true rfl⟩) ⟨preW_blind, va_recv hK hP (ci := 1) (q0 := 1) rfl rfl, preW_ok hP hD hK⟩ rfl rfl hl.1 rfl (lv_room (Nat.le_of_ble_eq_true rfl)) d_Ma_perform_169 ⟨Nat.zero_le _, Nat.zero_le _⟩) hP hD hS hA (fun H locs hP hD hS => ?_)
    refine lv_goto (tgt := 258) hx hb d_Ma_perform_172 (by decide) ?_
    exact J258 (f_Ma_branch (gI u 1) u) _ _ _ (hq.trans ((if_neg c2).trans ((if_neg c3).trans ((if_neg c4).trans ((if_neg c5).trans ((if_neg c6).trans ((if_neg c7).trans ((if_neg c8).trans ((if_pos c9).trans rfl))))))))) hP hD hS (lv_sub hl [0, 1] rfl)
  by_cases c10 : ((gI u 1) &&& (127 : Int32)) = 103
  · skip
    refine lv_lookup (off := 150) (tgt := 159) hx hb d_Ma_perform_9 (by decide) (by rw [c10]; decide) (by decide) ?_
    refine lv_aload_n hx hb d_Ma_perform_159 rfl (lv_at hl 1 rfl) ?_
    refine lv_iload_n hx hb d_Ma_perform_160 rfl (lv_at hl 0 rfl) ?_
    refine callWv (va_runV (As := [.int (gI u 1)]) (rest := []) ⟨hx, hb, hml, hown, hts⟩ (c_Ma_jumpToRegister l dC dI cI ad u (gI u 1) (by first | assumption | omega) s.heap.size) (cwV 1 hts (goodV m_7_29 m_7_30 m_19_1 m_0_2 m_7_31) rfl rfl rfl (by decide +kernel) ⟨Nat.le_of_ble_eq_true rfl, Nat.le_of_ble_eq_true rfl⟩) ⟨preW_blind, va_recv hK hP (ci := 1) (q0 := 1) rfl rfl, preW_ok hP hD hK⟩ rfl rfl hl.1 rfl (lv_room (Nat.le_of_ble_eq_true rfl)) d_Ma_perform_161 ⟨Nat.zero_le _, Nat.zero_le _⟩) hP hD hS hA (fun H locs hP hD hS => ?_)
    refine lv_goto (tgt := 258) hx hb d_Ma_perform_164 (by decide) ?_
    exact J258 (f_Ma_jumpToRegister (gI u 1) u) _ _ _ (hq.trans ((if_neg c2).trans ((if_neg c3).trans ((if_neg c4).trans ((if_neg c5).trans ((if_neg c6).trans ((if_neg c7).trans ((if_neg c8).trans ((if_neg c9).trans ((if_pos c10).trans rfl)))))))))) hP hD hS (lv_sub hl [0, 1] rfl)
  by_cases c11 : ((gI u 1) &&& (127 : Int32)) = 111
  · skip
    refine lv_lookup (off := 142) (tgt := 151) hx hb d_Ma_perform_9 (by decide) (by rw [c11]; decide) (by decide) ?_
    refine lv_aload_n hx hb d_Ma_perform_151 rfl (lv_at hl 1 rfl) ?_
    refine lv_iload_n hx hb d_Ma_perform_152 rfl (lv_at hl 0 rfl) ?_
    refine callWv (va_runV (As := [.int (gI u 1)]) (rest := []) ⟨hx, hb, hml, hown, hts⟩ (c_Ma_jump l dC dI cI ad u (gI u 1) (by first | assumption | omega) s.heap.size) (cwV 1 hts (goodV m_7_18 m_7_19 m_19_0 m_0_2 m_7_20) rfl rfl rfl (by decide +kernel) ⟨Nat.le_of_ble_eq_true rfl, Nat.le_of_ble_eq_true rfl⟩) ⟨preW_blind, va_recv hK hP (ci := 1) (q0 := 1) rfl rfl, preW_ok hP hD hK⟩ rfl rfl hl.1 rfl (lv_room (Nat.le_of_ble_eq_true rfl)) d_Ma_perform_153 ⟨Nat.zero_le _, Nat.zero_le _⟩) hP hD hS hA (fun H locs hP hD hS => ?_)
    refine lv_goto (tgt := 258) hx hb d_Ma_perform_156 (by decide) ?_
    exact J258 (f_Ma_jump (gI u 1) u) _ _ _ (hq.trans ((if_neg c2).trans ((if_neg c3).trans ((if_neg c4).trans ((if_neg c5).trans ((if_neg c6).trans ((if_neg c7).trans ((if_neg c8).trans ((if_neg c9).trans ((if_neg c10).trans ((if_pos c11).trans rfl))))))))))) hP hD hS (lv_sub hl [0, 1] rfl)
  by_cases c12 : ((gI u 1) &&& (127 : Int32)) = 115
  · skip
    refine lv_lookup (off := 236) (tgt := 245) hx hb d_Ma_perform_9 (by decide) (by rw [c12]; decide) (by decide) ?_
    refine lv_aload_n hx hb d_Ma_perform_245 rfl (lv_at hl 1 rfl) ?_
    refine lv_iload_n hx hb d_Ma_perform_246 rfl (lv_at hl 0 rfl) ?_
    refine callWv (va_runV (As := [.int (gI u 1)]) (rest := []) ⟨hx, hb, hml, hown, hts⟩ (c_Ma_callOrBreak l dC dI cI ad u (gI u 1) (by first | assumption | omega) (by first | assumption | omega) (by first | assumption | omega) s.heap.size) (cwV 1 hts (goodV m_9_39 m_10_0 m_19_8 m_0_2 m_10_1) rfl rfl rfl (by decide +kernel) ⟨Nat.le_of_ble_eq_true rfl, Nat.le_of_ble_eq_true rfl⟩) ⟨preW_blind, va_recv hK hP (ci := 1) (q0 := 1) rfl rfl, preW_ok hP hD hK⟩ rfl rfl hl.1 rfl (lv_room (Nat.le_of_ble_eq_true rfl)) d_Ma_perform_247 ⟨Nat.zero_le _, Nat.zero_le _⟩) hP hD hS hA (fun H locs hP hD hS => ?_)
    refine lv_goto (tgt := 258) hx hb d_Ma_perform_250 (by decide) ?_
    exact J258 (f_Ma_callOrBreak (gI u 1) u) _ _ _ (hq.trans ((if_neg c2).trans ((if_neg c3).trans ((if_neg c4).trans ((if_neg c5).trans ((if_neg c6).trans ((if_neg c7).trans ((if_neg c8).trans ((if_neg c9).trans ((if_neg c10).trans ((if_neg c11).trans ((if_pos c12).trans rfl)))))))))))) hP hD hS (lv_sub hl [0, 1] rfl)
  refine lv_lookup (off := 244) (tgt := 253) hx hb d_Ma_perform_9 (by decide) (by rw [lv_osw c2 (by decide), lv_osw c3 (by decide), lv_osw c4 (by decide), lv_osw c5 (by decide), lv_osw c6 (by decide), lv_osw c7 (by decide), lv_osw c8 (by decide), lv_osw c9 (by decide), lv_osw c10 (by decide), lv_osw c11 (by decide), lv_osw c12 (by decide)]; rfl) (by decide) ?_
  refine lv_aload_n hx hb d_Ma_perform_253 rfl (lv_at hl 1 rfl) ?_
  refine lv_iconst (v := 1) hx hb d_Ma_perform_254 (by decide) ?_
  refine callWv (va_runV (As := [.int 1]) (rest := []) ⟨hx, hb, hml, hown, hts⟩ (c_Ma_trap l dC dI cI ad u 1 s.heap.size) (cwV 1 hts (goodV m_6_19 m_6_20 m_18_37 m_0_2 m_6_21) rfl rfl rfl (by decide +kernel) ⟨Nat.le_of_ble_eq_true rfl, Nat.le_of_ble_eq_true rfl⟩) ⟨preW_blind, va_recv hK hP (ci := 1) (q0 := 1) rfl rfl, preW_ok hP hD hK⟩ rfl rfl hl.1 rfl (lv_room (Nat.le_of_ble_eq_true rfl)) d_Ma_perform_255 ⟨Nat.zero_le _, Nat.zero_le _⟩) hP hD hS hA (fun H locs hP hD hS => ?_)
  exact J258 (f_Ma_trap 1 u) _ _ _ (hq.trans ((if_neg c2).trans ((if_neg c3).trans ((if_neg c4).trans ((if_neg c5).trans ((if_neg c6).trans ((if_neg c7).trans ((if_neg c8).trans ((if_neg c9).trans ((if_neg c10).trans ((if_neg c11).trans ((if_neg c12).trans rfl)))))))))))) hP hD hS (lv_sub hl [0, 1] rfl)
