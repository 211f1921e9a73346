def w_Ho_reset : List Cond := .code y_Ho_reset b_Ho_reset 1 none :: ALLW
def rm_Ho_reset : Room := { frames := 22, cells := 0, slots := 0, locals := 643 }
theorem d_Ho_reset_0 : decode b_Ho_reset 0 = .ok (.aload_n 0, 1) := by decide +kernel
theorem d_Ho_reset_1 : decode b_Ho_reset 1 = .ok (.getfield 12, 3) := by decide +kernel
theorem d_Ho_reset_4 : decode b_Ho_reset 4 = .ok (.invokevirtual 25, 3) := by decide +kernel
theorem d_Ho_reset_7 : decode b_Ho_reset 7 = .ok (.aload_n 0, 1) := by decide +kernel
theorem d_Ho_reset_8 : decode b_Ho_reset 8 = .ok (.getfield 21, 3) := by decide +kernel
theorem d_Ho_reset_11 : decode b_Ho_reset 11 = .ok (.invokevirtual 28, 3) := by decide +kernel
theorem d_Ho_reset_14 : decode b_Ho_reset 14 = .ok (.return_, 1) := by decide +kernel
def f_Ho_reset (u : S5) : S5 := f_Po_reset (f_He_reset u)
set_option maxHeartbeats 8000000 in
set_option maxRecDepth 100000 in
theorem c_Ho_reset (l : Launch) (dC : Nat → ClassId) (dI : Nat → Nat → Nat) (cI : ClassId) (ad : Nat → Nat) (u : S5) (sz : Nat) : Met l y_Ho_reset w_Ho_reset rm_Ho_reset (PreW (dC, dI) classes [(cI, .int)] (wC cI ad) u sz [.ref (ad 5)]) (QWv (dC, dI) classes [(cI, .int)] (wC cI ad) (va_A (wC cI ad u) sz) (f_Ho_reset u)) 0 0 (va_A (wC cI ad u) sz) := by
  generalize hres : f_Ho_reset u = res
  refine Met.ofW (cc := b_Ho_reset) (maxL := 1) (ret := none) (by decide) rfl ?_
  intro p e s m args below meth c s₁ B hml hv
  obtain ⟨rfl, rfl, hP, hK, hD0⟩ := hv
  have hx := B.exec
  have hb := B.bytes
  have hr := B.returns
  have hts : ∀ w9 ∈ ALLW, w9.before ([.ref (ad 5)] : List Value).toArray s = true := fun w9 h => atoms_spec (ws := w_Ho_reset) B.pre w9 (List.mem_cons_of_mem _ h)
  have hown : s.vm.findClass R_Ho = some m.cls := findClass_of_methodNamed B.named
  have hlocks := B.notSynchronized
  have hD := hD0.self (sz := s.heap.size)
  generalize hAe : va_A (wC cI ad u) s.heap.size = A at hD ⊢
  have hA : ∀ q : Nat, s.heap.size ≤ q → A q := fun q h => by rw [← hAe]; exact Or.inr h
  have hS : va_S A s.heap s.heap [] := va_S.rf
  have hl := lv_entry ([.ref (ad 5)]) (n := 1) (Nat.le_of_ble_eq_true rfl)
  rw [lg_entry_eq]
  generalize (lg_sl ([.ref (ad 5)]) ++ List.replicate (1 - (lg_sl ([.ref (ad 5)])).length) Slot.unset).toArray = ls at hl ⊢
  have hl : lv_has ls 1 [(0, .ref (ad 5))] := hl
  have hq := hres.symm
  skip
  refine lv_aload_n hx hb d_Ho_reset_0 rfl (lv_at hl 0 rfl) ?_
  refine va_get (D := (dC, dI)) (ci := 5) (v := .ref (ad 6)) (C := R_Ho) (T := F_Ho) (N := 2) hx hb hts in_Ho hown hK hP 5 rfl rfl 0 (by decide) (hts _ m_4_4) (fun _ h9 => h9) rfl d_Ho_reset_1 ?_
  refine callWv (va_runV (As := []) (rest := []) ⟨hx, hb, hml, hown, hts⟩ (c_He_reset l dC dI cI ad u  s.heap.size) (cwV 0 hts (goodV m_5_18 m_5_19 m_5_20 m_0_10 m_5_21) rfl rfl rfl (by decide +kernel) ⟨Nat.le_of_ble_eq_true rfl, Nat.le_of_ble_eq_true rfl⟩) ⟨preW_blind, va_recv hK hP (ci := 6) (q0 := 6) rfl rfl, preW_ok hP hD hK⟩ rfl rfl hl.1 rfl (lv_room (Nat.le_of_ble_eq_true rfl)) d_Ho_reset_4 ⟨Nat.zero_le _, Nat.zero_le _⟩) hP hD hS hA (fun H locs hP hD hS => ?_)
  refine lv_aload_n hx hb d_Ho_reset_7 rfl (lv_at hl 0 rfl) ?_
  refine va_get (D := (dC, dI)) (ci := 5) (v := .ref (ad 7)) (C := R_Ho) (T := F_Ho) (N := 2) hx hb hts in_Ho hown hK hP 5 rfl rfl 1 (by decide) (hts _ m_4_6) (fun _ h9 => h9) rfl d_Ho_reset_8 ?_
  refine callWv (va_runV (As := []) (rest := []) ⟨hx, hb, hml, hown, hts⟩ (c_Po_reset l dC dI cI ad (f_He_reset u)  H.size) (cwV 0 hts (goodV m_5_23 m_5_24 m_5_25 m_0_11 m_5_26) rfl rfl rfl (by decide +kernel) ⟨Nat.le_of_ble_eq_true rfl, Nat.le_of_ble_eq_true rfl⟩) ⟨preW_blind, va_recv hK hP (ci := 7) (q0 := 7) rfl rfl, preW_ok hP hD hK⟩ rfl rfl hl.1 rfl (lv_room (Nat.le_of_ble_eq_true rfl)) d_Ho_reset_11 ⟨Nat.zero_le _, Nat.zero_le _⟩) hP hD hS hA (fun H locs hP hD hS => ?_)
  have hE : res = f_Po_reset (f_He_reset u) := hq.trans (rfl)
  exact retWv hx hb hr hP hK hD hS hE.symm d_Ho_reset_14 hlocks
def w_Ho_ungivenRegister : List Cond := .code y_Ho_ungivenRegister b_Ho_ungivenRegister 3 (some .int) :: ALLW
def rm_Ho_ungivenRegister : Room := { frames := 20, cells := 0, slots := 0, locals := 600 }
theorem d_Ho_ungivenRegister_0 : decode b_Ho_ungivenRegister 0 = .ok (.aload_n 0, 1) := by decide +kernel
theorem d_Ho_ungivenRegister_1 : decode b_Ho_ungivenRegister 1 = .ok (.getfield 29, 3) := by decide +kernel
theorem d_Ho_ungivenRegister_4 : decode b_Ho_ungivenRegister 4 = .ok (.astore_n 1, 1) := by decide +kernel
theorem d_Ho_ungivenRegister_5 : decode b_Ho_ungivenRegister 5 = .ok (.aload_n 0, 1) := by decide +kernel
theorem d_Ho_ungivenRegister_6 : decode b_Ho_ungivenRegister 6 = .ok (.getfield 35, 3) := by decide +kernel
theorem d_Ho_ungivenRegister_9 : decode b_Ho_ungivenRegister 9 = .ok (.bipush 17, 2) := by decide +kernel
theorem d_Ho_ungivenRegister_11 : decode b_Ho_ungivenRegister 11 = .ok (.iaload, 1) := by decide +kernel
theorem d_Ho_ungivenRegister_12 : decode b_Ho_ungivenRegister 12 = .ok (.istore_n 2, 1) := by decide +kernel
theorem d_Ho_ungivenRegister_13 : decode b_Ho_ungivenRegister 13 = .ok (.aload_n 1, 1) := by decide +kernel
theorem d_Ho_ungivenRegister_14 : decode b_Ho_ungivenRegister 14 = .ok (.bipush 17, 2) := by decide +kernel
theorem d_Ho_ungivenRegister_16 : decode b_Ho_ungivenRegister 16 = .ok (.iaload, 1) := by decide +kernel
theorem d_Ho_ungivenRegister_17 : decode b_Ho_ungivenRegister 17 = .ok (.ifCond .eq 6, 3) := by decide +kernel
theorem d_Ho_ungivenRegister_20 : decode b_Ho_ungivenRegister 20 = .ok (.bipush 17, 2) := by decide +kernel
theorem d_Ho_ungivenRegister_22 : decode b_Ho_ungivenRegister 22 = .ok (.ireturn, 1) := by decide +kernel
theorem d_Ho_ungivenRegister_23 : decode b_Ho_ungivenRegister 23 = .ok (.iload_n 2, 1) := by decide +kernel
theorem d_Ho_ungivenRegister_24 : decode b_Ho_ungivenRegister 24 = .ok (.iconst 1, 1) := by decide +kernel
theorem d_Ho_ungivenRegister_25 : decode b_Ho_ungivenRegister 25 = .ok (.if_icmp .lt 8, 3) := by decide +kernel
theorem d_Ho_ungivenRegister_28 : decode b_Ho_ungivenRegister 28 = .ok (.iload_n 2, 1) := by decide +kernel
theorem d_Ho_ungivenRegister_29 : decode b_Ho_ungivenRegister 29 = .ok (.iconst 5, 1) := by decide +kernel
theorem d_Ho_ungivenRegister_30 : decode b_Ho_ungivenRegister 30 = .ok (.if_icmp .le 5, 3) := by decide +kernel
theorem d_Ho_ungivenRegister_33 : decode b_Ho_ungivenRegister 33 = .ok (.iconst 0, 1) := by decide +kernel
theorem d_Ho_ungivenRegister_34 : decode b_Ho_ungivenRegister 34 = .ok (.ireturn, 1) := by decide +kernel
theorem d_Ho_ungivenRegister_35 : decode b_Ho_ungivenRegister 35 = .ok (.aload_n 1, 1) := by decide +kernel
theorem d_Ho_ungivenRegister_36 : decode b_Ho_ungivenRegister 36 = .ok (.bipush 10, 2) := by decide +kernel
theorem d_Ho_ungivenRegister_38 : decode b_Ho_ungivenRegister 38 = .ok (.iaload, 1) := by decide +kernel
theorem d_Ho_ungivenRegister_39 : decode b_Ho_ungivenRegister 39 = .ok (.iload_n 2, 1) := by decide +kernel
theorem d_Ho_ungivenRegister_40 : decode b_Ho_ungivenRegister 40 = .ok (.iconst 5, 1) := by decide +kernel
theorem d_Ho_ungivenRegister_41 : decode b_Ho_ungivenRegister 41 = .ok (.if_icmp .ne 9, 3) := by decide +kernel
theorem d_Ho_ungivenRegister_44 : decode b_Ho_ungivenRegister 44 = .ok (.sipush 255, 3) := by decide +kernel
theorem d_Ho_ungivenRegister_47 : decode b_Ho_ungivenRegister 47 = .ok (.goto 4, 3) := by decide +kernel
theorem d_Ho_ungivenRegister_50 : decode b_Ho_ungivenRegister 50 = .ok (.iconst (-1), 1) := by decide +kernel
theorem d_Ho_ungivenRegister_51 : decode b_Ho_ungivenRegister 51 = .ok (.iand, 1) := by decide +kernel
theorem d_Ho_ungivenRegister_52 : decode b_Ho_ungivenRegister 52 = .ok (.ifCond .eq 6, 3) := by decide +kernel
theorem d_Ho_ungivenRegister_55 : decode b_Ho_ungivenRegister 55 = .ok (.bipush 10, 2) := by decide +kernel
theorem d_Ho_ungivenRegister_57 : decode b_Ho_ungivenRegister 57 = .ok (.ireturn, 1) := by decide +kernel
theorem d_Ho_ungivenRegister_58 : decode b_Ho_ungivenRegister 58 = .ok (.iload_n 2, 1) := by decide +kernel
theorem d_Ho_ungivenRegister_59 : decode b_Ho_ungivenRegister 59 = .ok (.iconst 4, 1) := by decide +kernel
theorem d_Ho_ungivenRegister_60 : decode b_Ho_ungivenRegister 60 = .ok (.if_icmp .ne 15, 3) := by decide +kernel
theorem d_Ho_ungivenRegister_63 : decode b_Ho_ungivenRegister 63 = .ok (.aload_n 1, 1) := by decide +kernel
theorem d_Ho_ungivenRegister_64 : decode b_Ho_ungivenRegister 64 = .ok (.bipush 11, 2) := by decide +kernel
theorem d_Ho_ungivenRegister_66 : decode b_Ho_ungivenRegister 66 = .ok (.iaload, 1) := by decide +kernel
theorem d_Ho_ungivenRegister_67 : decode b_Ho_ungivenRegister 67 = .ok (.ifCond .eq 8, 3) := by decide +kernel
theorem d_Ho_ungivenRegister_70 : decode b_Ho_ungivenRegister 70 = .ok (.bipush 11, 2) := by decide +kernel
theorem d_Ho_ungivenRegister_72 : decode b_Ho_ungivenRegister 72 = .ok (.goto 4, 3) := by decide +kernel
theorem d_Ho_ungivenRegister_75 : decode b_Ho_ungivenRegister 75 = .ok (.iconst 0, 1) := by decide +kernel
theorem d_Ho_ungivenRegister_76 : decode b_Ho_ungivenRegister 76 = .ok (.ireturn, 1) := by decide +kernel
def f_Ho_ungivenRegister (u : S5) : Int32 := if (aI u 3 17) = 0 then (if (aI u 2 17) < 1 then 0 else if (aI u 2 17) ≤ 5 then (let x4 : Int32 := if (aI u 2 17) = 5 then 255 else (-1); if ((aI u 3 10) &&& x4) = 0 then (if (aI u 2 17) = 4 then (if (aI u 3 11) = 0 then 0 else 11) else 0) else 10) else 0) else 17
set_option maxHeartbeats 8000000 in
set_option maxRecDepth 100000 in
theorem c_Ho_ungivenRegister (l : Launch) (dC : Nat → ClassId) (dI : Nat → Nat → Nat) (cI : ClassId) (ad : Nat → Nat) (u : S5) (sz : Nat) : Met l y_Ho_ungivenRegister w_Ho_ungivenRegister rm_Ho_ungivenRegister (PreW (dC, dI) classes [(cI, .int)] (wC cI ad) u sz [.ref (ad 3)]) (QWi (dC, dI) classes [(cI, .int)] (wC cI ad) (va_A (wC cI ad u) sz) (f_Ho_ungivenRegister u) u) 0 0 (va_A (wC cI ad u) sz) := by
  generalize hres : f_Ho_ungivenRegister u = res
  refine Met.ofW (cc := b_Ho_ungivenRegister) (maxL := 3) (ret := (some .int)) (by decide) rfl ?_
  intro p e s m args below meth c s₁ B hml hv
  obtain ⟨rfl, rfl, hP, hK, hD0⟩ := hv
  have hx := B.exec
  have hb := B.bytes
  have hr := B.returns
  have hts : ∀ w9 ∈ ALLW, w9.before ([.ref (ad 3)] : List Value).toArray s = true := fun w9 h => atoms_spec (ws := w_Ho_ungivenRegister) B.pre w9 (List.mem_cons_of_mem _ h)
  have hown : s.vm.findClass R_Ho = some m.cls := findClass_of_methodNamed B.named
  have hlocks := B.notSynchronized
  have hD := hD0.self (sz := s.heap.size)
  generalize hAe : va_A (wC cI ad u) s.heap.size = A at hD ⊢
  have hA : ∀ q : Nat, s.heap.size ≤ q → A q := fun q h => by rw [← hAe]; exact Or.inr h
  have hS : va_S A s.heap s.heap [] := va_S.rf
  have hl := lv_entry ([.ref (ad 3)]) (n := 3) (Nat.le_of_ble_eq_true rfl)
  rw [lg_entry_eq]
  generalize (lg_sl ([.ref (ad 3)]) ++ List.replicate (3 - (lg_sl ([.ref (ad 3)])).length) Slot.unset).toArray = ls at hl ⊢
  have hl : lv_has ls 3 [(0, .ref (ad 3))] := hl
  have hq := hres.symm
  skip
  refine lv_aload_n hx hb d_Ho_ungivenRegister_0 rfl (lv_at hl 0 rfl) ?_
  refine va_get (D := (dC, dI)) (ci := 3) (v := .ref (ad 11)) (C := R_Rg) (T := F_Rg) (N := 2) hx hb hts in_Rg hown hK hP 3 rfl rfl 1 (by decide) (hts _ m_2_0) (fun _ h9 => h9) rfl d_Ho_ungivenRegister_1 ?_
  refine lv_astore_n (lv' := [(1, .ref (ad 11)), (0, .ref (ad 3))]) hx hb d_Ho_ungivenRegister_4 rfl hl (by decide) rfl (fun ls hl => ?_)
  refine lv_aload_n hx hb d_Ho_ungivenRegister_5 rfl (lv_at hl 1 rfl) ?_
  refine va_get (D := (dC, dI)) (ci := 3) (v := .ref (ad 10)) (C := R_Rg) (T := F_Rg) (N := 2) hx hb hts in_Rg hown hK hP 3 rfl rfl 0 (by decide) (hts _ m_1_36) (fun _ h9 => h9) rfl d_Ho_ungivenRegister_6 ?_
  refine lv_bipush (v := nI 17) hx hb d_Ho_ungivenRegister_9 (by decide) ?_
  refine aldC_value (u := u) (v := aI u 2 17) hx hb hK hP (by omega) rfl d_Ho_ungivenRegister_11 ?_
  refine lv_istore_n (lv' := [(2, .int (aI u 2 17)), (1, .ref (ad 11)), (0, .ref (ad 3))]) hx hb d_Ho_ungivenRegister_12 rfl hl (by decide) rfl (fun ls hl => ?_)
  refine lv_aload_n hx hb d_Ho_ungivenRegister_13 rfl (lv_at hl 1 rfl) ?_
  refine lv_bipush (v := nI 17) hx hb d_Ho_ungivenRegister_14 (by decide) ?_
  refine aldC_ungiven (u := u) (v := aI u 3 17) hx hb hK hP (by omega) rfl d_Ho_ungivenRegister_16 ?_
  refine lv_if_eq (tgt := 23) hx hb d_Ho_ungivenRegister_17 (by decide) (fun c1 => ?_) (fun c1 => ?_)
  · skip
    refine lv_iload_n hx hb d_Ho_ungivenRegister_23 rfl (lv_at hl 0 rfl) ?_
    refine lv_iconst (v := 1) hx hb d_Ho_ungivenRegister_24 (by decide) ?_
    refine lv_icmp_lt (tgt := 33) hx hb d_Ho_ungivenRegister_25 (by decide) (fun c2 => ?_) (fun c2 => ?_)
    · skip
      refine lv_iconst (v := 0) hx hb d_Ho_ungivenRegister_33 (by decide) ?_
      have hE : res = 0 := hq.trans ((if_pos c1).trans ((if_pos c2).trans rfl))
      exact retWi (x := 0) hx hb hr hP hK hD hS hE.symm rfl d_Ho_ungivenRegister_34 hlocks
    · skip
      refine lv_iload_n hx hb d_Ho_ungivenRegister_28 rfl (lv_at hl 0 rfl) ?_
      refine lv_iconst (v := 5) hx hb d_Ho_ungivenRegister_29 (by decide) ?_
      refine lv_icmp_le (tgt := 35) hx hb d_Ho_ungivenRegister_30 (by decide) (fun c3 => ?_) (fun c3 => ?_)
      · skip
        refine lv_aload_n hx hb d_Ho_ungivenRegister_35 rfl (lv_at hl 1 rfl) ?_
        refine lv_bipush (v := nI 10) hx hb d_Ho_ungivenRegister_36 (by decide) ?_
        refine aldC_ungiven (u := u) (v := aI u 3 10) hx hb hK hP (by omega) rfl d_Ho_ungivenRegister_38 ?_
        refine lv_iload_n hx hb d_Ho_ungivenRegister_39 rfl (lv_at hl 0 rfl) ?_
        refine lv_iconst (v := 5) hx hb d_Ho_ungivenRegister_40 (by decide) ?_
        have J51 : ∀ (x4 : Int32) (H : Heap) (locs : List Loc), x4 = (if (aI u 2 17) = 5 then 255 else (-1)) → va_P (dC, dI) classes (wC cI ad u) H → va_D A (wC cI ad u) → va_S A s.heap H locs → W p l e (headSpec w_Ho_ungivenRegister rm_Ho_ungivenRegister).room s m ([.ref (ad 3)] : List Value).toArray below meth c H locs 0 0 (MQ below (QWi (dC, dI) classes [(cI, .int)] (wC cI ad) A res u) ([.ref (ad 3)] : List Value).toArray s 0 0 A) (F0 m 51 ls [.int x4, .int (aI u 3 10)]) := by
          intro x4 H locs ex4 hP hD hS
          refine lv_iand hx hb d_Ho_ungivenRegister_51 ?_
          refine lv_if_eq (tgt := 58) hx hb d_Ho_ungivenRegister_52 (by decide) (fun c5 => ?_) (fun c5 => ?_)
          · skip
            refine lv_iload_n hx hb d_Ho_ungivenRegister_58 rfl (lv_at hl 0 rfl) ?_
            refine lv_iconst (v := 4) hx hb d_Ho_ungivenRegister_59 (by decide) ?_
            refine lv_icmp_ne (tgt := 75) hx hb d_Ho_ungivenRegister_60 (by decide) (fun c6 => ?_) (fun c6 => ?_)
            · skip
              refine lv_iconst (v := 0) hx hb d_Ho_ungivenRegister_75 (by decide) ?_
              have hE : res = 0 := (by subst ex4; exact hq.trans ((if_pos c1).trans ((if_neg c2).trans ((if_pos c3).trans ((if_pos c5).trans ((if_neg c6).trans rfl))))))
              exact retWi (x := 0) hx hb hr hP hK hD hS hE.symm rfl d_Ho_ungivenRegister_76 hlocks
            · skip
              refine lv_aload_n hx hb d_Ho_ungivenRegister_63 rfl (lv_at hl 1 rfl) ?_
              refine lv_bipush (v := nI 11) hx hb d_Ho_ungivenRegister_64 (by decide) ?_
              refine aldC_ungiven (u := u) (v := aI u 3 11) hx hb hK hP (by omega) rfl d_Ho_ungivenRegister_66 ?_
              refine lv_if_eq (tgt := 75) hx hb d_Ho_ungivenRegister_67 (by decide) (fun c7 => ?_) (fun c7 => ?_)
              · skip
                refine lv_iconst (v := 0) hx hb d_Ho_ungivenRegister_75 (by decide) ?_
                have hE : res = 0 := (by subst ex4; exact hq.trans ((if_pos c1).trans ((if_neg c2).trans ((if_pos c3).trans ((if_pos c5).trans ((if_pos c6).trans ((if_pos c7).trans rfl)))))))
                exact retWi (x := 0) hx hb hr hP hK hD hS hE.symm rfl d_Ho_ungivenRegister_76 hlocks
              · skip
                refine lv_bipush (v := 11) hx hb d_Ho_ungivenRegister_70 (by decide) ?_
                refine lv_goto (tgt := 76) hx hb d_Ho_ungivenRegister_72 (by decide) ?_
                have hE : res = 11 := (by subst ex4; exact hq.trans ((if_pos c1).trans ((if_neg c2).trans ((if_pos c3).trans ((if_pos c5).trans ((if_pos c6).trans ((if_neg c7).trans rfl)))))))
                exact retWi (x := 11) hx hb hr hP hK hD hS hE.symm rfl d_Ho_ungivenRegister_76 hlocks
          · skip
            refine lv_bipush (v := 10) hx hb d_Ho_ungivenRegister_55 (by decide) ?_
            have hE : res = 10 := (by subst ex4; exact hq.trans ((if_pos c1).trans ((if_neg c2).trans ((if_pos c3).trans ((if_neg c5).trans rfl)))))
            exact retWi (x := 10) hx hb hr hP hK hD hS hE.symm rfl d_Ho_ungivenRegister_57 hlocks
        refine lv_icmp_ne (tgt := 50) hx hb d_Ho_ungivenRegister_41 (by decide) (fun c8 => ?_) (fun c8 => ?_)
        · skip
          refine lv_iconst (v := (-1)) hx hb d_Ho_ungivenRegister_50 (by decide) ?_
          exact J51 (-1) _ _ (Eq.symm ((if_neg c8).trans (rfl))) hP hD hS
        · skip
          refine lv_sipush (v := 255) hx hb d_Ho_ungivenRegister_44 (by decide) ?_
          refine lv_goto (tgt := 51) hx hb d_Ho_ungivenRegister_47 (by decide) ?_
          exact J51 255 _ _ (Eq.symm ((if_pos c8).trans (rfl))) hP hD hS
      · skip
        refine lv_iconst (v := 0) hx hb d_Ho_ungivenRegister_33 (by decide) ?_
        have hE : res = 0 := hq.trans ((if_pos c1).trans ((if_neg c2).trans ((if_neg c3).trans rfl)))
        exact retWi (x := 0) hx hb hr hP hK hD hS hE.symm rfl d_Ho_ungivenRegister_34 hlocks
  · skip
    refine lv_bipush (v := 17) hx hb d_Ho_ungivenRegister_20 (by decide) ?_
    have hE : res = 17 := hq.trans ((if_neg c1).trans rfl)
    exact retWi (x := 17) hx hb hr hP hK hD hS hE.symm rfl d_Ho_ungivenRegister_22 hlocks
def w_Ho_findFrom : List Cond := .code y_Ho_findFrom b_Ho_findFrom 5 none :: ALLW
def rm_Ho_findFrom : Room := { frames := 21, cells := 0, slots := 0, locals := 623 }
theorem d_Ho_findFrom_0 : decode b_Ho_findFrom 0 = .ok (.iload_n 1, 1) := by decide +kernel
theorem d_Ho_findFrom_1 : decode b_Ho_findFrom 1 = .ok (.istore 4, 2) := by decide +kernel
theorem d_Ho_findFrom_3 : decode b_Ho_findFrom 3 = .ok (.iload 4, 2) := by decide +kernel
theorem d_Ho_findFrom_5 : decode b_Ho_findFrom 5 = .ok (.iload_n 2, 1) := by decide +kernel
theorem d_Ho_findFrom_6 : decode b_Ho_findFrom 6 = .ok (.iconst 4, 1) := by decide +kernel
theorem d_Ho_findFrom_7 : decode b_Ho_findFrom 7 = .ok (.isub, 1) := by decide +kernel
theorem d_Ho_findFrom_8 : decode b_Ho_findFrom 8 = .ok (.if_icmp .gt 40, 3) := by decide +kernel
theorem d_Ho_findFrom_11 : decode b_Ho_findFrom 11 = .ok (.aload_n 3, 1) := by decide +kernel
theorem d_Ho_findFrom_12 : decode b_Ho_findFrom 12 = .ok (.iload 4, 2) := by decide +kernel
theorem d_Ho_findFrom_14 : decode b_Ho_findFrom 14 = .ok (.invokevirtual 126, 3) := by decide +kernel
theorem d_Ho_findFrom_17 : decode b_Ho_findFrom 17 = .ok (.ifCond .eq 25, 3) := by decide +kernel
theorem d_Ho_findFrom_20 : decode b_Ho_findFrom 20 = .ok (.aload_n 3, 1) := by decide +kernel
theorem d_Ho_findFrom_21 : decode b_Ho_findFrom 21 = .ok (.iload 4, 2) := by decide +kernel
theorem d_Ho_findFrom_23 : decode b_Ho_findFrom 23 = .ok (.invokevirtual 130, 3) := by decide +kernel
theorem d_Ho_findFrom_26 : decode b_Ho_findFrom 26 = .ok (.ifCond .eq 16, 3) := by decide +kernel
theorem d_Ho_findFrom_29 : decode b_Ho_findFrom 29 = .ok (.aload_n 0, 1) := by decide +kernel
theorem d_Ho_findFrom_30 : decode b_Ho_findFrom 30 = .ok (.getfield 12, 3) := by decide +kernel
theorem d_Ho_findFrom_33 : decode b_Ho_findFrom 33 = .ok (.aload_n 3, 1) := by decide +kernel
theorem d_Ho_findFrom_34 : decode b_Ho_findFrom 34 = .ok (.iload 4, 2) := by decide +kernel
theorem d_Ho_findFrom_36 : decode b_Ho_findFrom 36 = .ok (.invokevirtual 133, 3) := by decide +kernel
theorem d_Ho_findFrom_39 : decode b_Ho_findFrom 39 = .ok (.invokevirtual 111, 3) := by decide +kernel
theorem d_Ho_findFrom_42 : decode b_Ho_findFrom 42 = .ok (.iinc 4 4, 3) := by decide +kernel
theorem d_Ho_findFrom_45 : decode b_Ho_findFrom 45 = .ok (.goto (-42), 3) := by decide +kernel
theorem d_Ho_findFrom_48 : decode b_Ho_findFrom 48 = .ok (.return_, 1) := by decide +kernel
def f_Ho_findFrom_3 (fr : Nat) (en : Nat) (u : S5) : Nat → Nat → S5 → S5
  | 0, at_, u1 => u1
  | k3 + 1, at_, u1 => if at_ ≤ (en - 4) then (if (f_Me_isOpenWord at_ u1) = true then (if (f_Me_isGivenWord at_ u1) = true then f_Ho_findFrom_3 fr en u k3 (at_ + 4) (f_He_find (f_Me_word at_ u1) u1) else f_Ho_findFrom_3 fr en u k3 (at_ + 4) u1) else f_Ho_findFrom_3 fr en u k3 (at_ + 4) u1) else u1
def f_Ho_findFrom (fr : Nat) (en : Nat) (u : S5) : S5 := f_Ho_findFrom_3 fr en u (en + 1) fr u
set_option maxHeartbeats 8000000 in
set_option maxRecDepth 100000 in
theorem c_Ho_findFrom (l : Launch) (dC : Nat → ClassId) (dI : Nat → Nat → Nat) (cI : ClassId) (ad : Nat → Nat) (u : S5) (fr : Nat) (en : Nat) (hfr : fr ≤ 65536) (h4 : 4 ≤ en) (hen : en ≤ 65536) (okb : OkB u) (okf : OkF u) (sz : Nat) : Met l y_Ho_findFrom w_Ho_findFrom rm_Ho_findFrom (PreW (dC, dI) classes [(cI, .int)] (wC cI ad) u sz [.ref (ad 5), .int (nI fr), .int (nI en), .ref (ad 2)]) (QWv (dC, dI) classes [(cI, .int)] (wC cI ad) (va_A (wC cI ad u) sz) (f_Ho_findFrom fr en u)) 0 0 (va_A (wC cI ad u) sz) := by
  generalize hres : f_Ho_findFrom fr en u = res
  refine Met.ofW (cc := b_Ho_findFrom) (maxL := 5) (ret := none) (by decide) rfl ?_
  intro p e s m args below meth c s₁ B hml hv
  obtain ⟨rfl, rfl, hP, hK, hD0⟩ := hv
  have hx := B.exec
  have hb := B.bytes
  have hr := B.returns
  have hts : ∀ w9 ∈ ALLW, w9.before ([.ref (ad 5), .int (nI fr), .int (nI en), .ref (ad 2)] : List Value).toArray s = true := fun w9 h => atoms_spec (ws := w_Ho_findFrom) B.pre w9 (List.mem_cons_of_mem _ h)
  have hown : s.vm.findClass R_Ho = some m.cls := findClass_of_methodNamed B.named
  have hlocks := B.notSynchronized
  have hD := hD0.self (sz := s.heap.size)
  generalize hAe : va_A (wC cI ad u) s.heap.size = A at hD ⊢
  have hA : ∀ q : Nat, s.heap.size ≤ q → A q := fun q h => by rw [← hAe]; exact Or.inr h
  have hS : va_S A s.heap s.heap [] := va_S.rf
  have hl := lv_entry ([.ref (ad 5), .int (nI fr), .int (nI en), .ref (ad 2)]) (n := 5) (Nat.le_of_ble_eq_true rfl)
  rw [lg_entry_eq]
  generalize (lg_sl ([.ref (ad 5), .int (nI fr), .int (nI en), .ref (ad 2)]) ++ List.replicate (5 - (lg_sl ([.ref (ad 5), .int (nI fr), .int (nI en), .ref (ad 2)])).length) Slot.unset).toArray = ls at hl ⊢
  have hl : lv_has ls 5 [(0, .ref (ad 5)), (1, .int (nI fr)), (2, .int (nI en)), (3, .ref (ad 2))] := hl
  have hq := hres.symm
  skip
  refine lv_iload_n hx hb d_Ho_findFrom_0 rfl (lv_at hl 1 rfl) ?_
  refine lv_istore (lv' := [(4, .int (nI fr)), (0, .ref (ad 5)), (1, .int (nI fr)), (2, .int (nI en)), (3, .ref (ad 2))]) hx hb d_Ho_findFrom_1 hl (by decide) rfl (fun ls hl => ?_)
  have L3 : ∀ (k : Nat) (at_ : Nat) (u1 : S5) (H : Heap) (locs : List Loc) (ls : Array Slot), (at_ ≤ 65540) → (OkB u1) → (OkF u1) → (en - at_) < k → res = f_Ho_findFrom_3 fr en u k at_ u1 → va_P (dC, dI) classes (wC cI ad u1) H → va_D A (wC cI ad u1) → va_S A s.heap H locs → lv_has ls 5 [(4, .int (nI at_)), (0, .ref (ad 5)), (1, .int (nI fr)), (2, .int (nI en)), (3, .ref (ad 2))] → W p l e (headSpec w_Ho_findFrom rm_Ho_findFrom).room s m ([.ref (ad 5), .int (nI fr), .int (nI en), .ref (ad 2)] : List Value).toArray below meth c H locs 0 0 (MQ below (QWv (dC, dI) classes [(cI, .int)] (wC cI ad) A res) ([.ref (ad 5), .int (nI fr), .int (nI en), .ref (ad 2)] : List Value).toArray s 0 0 A) (F0 m 3 ls []) := by
    intro k
    induction k with
    | zero => intro at_ u1 H locs ls hat okb1 okf1 hm; exact absurd hm (Nat.not_lt_zero _)
    | succ k3 ih3 =>
      intro at_ u1 H locs ls hat okb1 okf1 hm hq3 hP hD hS hl
      refine lv_iload hx hb d_Ho_findFrom_3 (lv_at hl 0 rfl) ?_
      refine lv_iload_n hx hb d_Ho_findFrom_5 rfl (lv_at hl 3 rfl) ?_
      refine lv_iconst (v := nI 4) hx hb d_Ho_findFrom_6 (by decide) ?_
      refine lv_isub hx hb d_Ho_findFrom_7 ?_
      refine rw_top (y := nI (en - 4)) (pk_sub (by omega)) ?_
      refine rn_gt (tgt := 48) hx hb (by omega) (by omega) d_Ho_findFrom_8 (by decide) (fun c1 => ?_) (fun c1 => ?_)
      · skip
        have hE : res = u1 := hq3.trans ((if_neg (Nat.not_le.mpr c1)).trans rfl)
        exact retWv hx hb hr hP hK hD hS hE.symm d_Ho_findFrom_48 hlocks
      · skip
        refine lv_aload_n hx hb d_Ho_findFrom_11 rfl (lv_at hl 4 rfl) ?_
        refine lv_iload hx hb d_Ho_findFrom_12 (lv_at hl 0 rfl) ?_
        refine callWi (va_runV (As := [.int (nI at_)]) (rest := []) ⟨hx, hb, hml, hown, hts⟩ (c_Me_isOpenWord l dC dI cI ad u1 at_ (by first | assumption | omega) H.size) (cwV 1 hts (goodV m_10_26 m_6_23 m_6_24 m_0_3 m_6_25) rfl rfl rfl (by decide +kernel) ⟨Nat.le_of_ble_eq_true rfl, Nat.le_of_ble_eq_true rfl⟩) ⟨preW_blind, va_recv hK hP (ci := 2) (q0 := 2) rfl rfl, preW_ok hP hD hK⟩ rfl rfl hl.1 rfl (lv_room (Nat.le_of_ble_eq_true rfl)) d_Ho_findFrom_14 ⟨Nat.zero_le _, Nat.zero_le _⟩) hP hD hS hA (fun H locs hP hD hS => ?_)
        refine rb_eq (tgt := 42) hx hb d_Ho_findFrom_17 (by decide) (fun c2 => ?_) (fun c2 => ?_)
        · skip
          refine lv_iinc (v := nI (at_ + 4)) (lv' := [(4, .int (nI (at_ + 4))), (0, .ref (ad 5)), (1, .int (nI fr)), (2, .int (nI en)), (3, .ref (ad 2))]) hx hb d_Ho_findFrom_42 hl (k := 0) rfl (rn_inc at_ 4 (by decide)) (by decide) rfl (fun ls hl => ?_)
          refine lv_goto (tgt := 3) hx hb d_Ho_findFrom_45 (by decide) ?_
          exact ih3 (at_ + 4) u1 _ _ _ (by first | assumption | omega) (by first | assumption | exact OkB.fr okb1 (find_fr _ _) (by decide)) (by first | assumption | exact find_ok _ okb1 okf1) (by omega) (hq3.trans ((if_pos c1).trans ((if_neg c2).trans rfl))) hP hD hS (lv_sub hl [0, 1, 2, 3, 4] rfl)
        · skip
          refine lv_aload_n hx hb d_Ho_findFrom_20 rfl (lv_at hl 4 rfl) ?_
          refine lv_iload hx hb d_Ho_findFrom_21 (lv_at hl 0 rfl) ?_
          refine callWi (va_runV (As := [.int (nI at_)]) (rest := []) ⟨hx, hb, hml, hown, hts⟩ (c_Me_isGivenWord l dC dI cI ad u1 at_ (by first | assumption | omega) H.size) (cwV 1 hts (goodV m_10_27 m_10_28 m_10_29 m_0_3 m_10_30) rfl rfl rfl (by decide +kernel) ⟨Nat.le_of_ble_eq_true rfl, Nat.le_of_ble_eq_true rfl⟩) ⟨preW_blind, va_recv hK hP (ci := 2) (q0 := 2) rfl rfl, preW_ok hP hD hK⟩ rfl rfl hl.1 rfl (lv_room (Nat.le_of_ble_eq_true rfl)) d_Ho_findFrom_23 ⟨Nat.zero_le _, Nat.zero_le _⟩) hP hD hS hA (fun H locs hP hD hS => ?_)
          refine rb_eq (tgt := 42) hx hb d_Ho_findFrom_26 (by decide) (fun c3 => ?_) (fun c3 => ?_)
          · skip
            refine lv_iinc (v := nI (at_ + 4)) (lv' := [(4, .int (nI (at_ + 4))), (0, .ref (ad 5)), (1, .int (nI fr)), (2, .int (nI en)), (3, .ref (ad 2))]) hx hb d_Ho_findFrom_42 hl (k := 0) rfl (rn_inc at_ 4 (by decide)) (by decide) rfl (fun ls hl => ?_)
            refine lv_goto (tgt := 3) hx hb d_Ho_findFrom_45 (by decide) ?_
            exact ih3 (at_ + 4) u1 _ _ _ (by first | assumption | omega) (by first | assumption | exact OkB.fr okb1 (find_fr _ _) (by decide)) (by first | assumption | exact find_ok _ okb1 okf1) (by omega) (hq3.trans ((if_pos c1).trans ((if_pos c2).trans ((if_neg c3).trans rfl)))) hP hD hS (lv_sub hl [0, 1, 2, 3, 4] rfl)
          · skip
            refine lv_aload_n hx hb d_Ho_findFrom_29 rfl (lv_at hl 1 rfl) ?_
            refine va_get (D := (dC, dI)) (ci := 5) (v := .ref (ad 6)) (C := R_Ho) (T := F_Ho) (N := 2) hx hb hts in_Ho hown hK hP 5 rfl rfl 0 (by decide) (hts _ m_4_4) (fun _ h9 => h9) rfl d_Ho_findFrom_30 ?_
            refine lv_aload_n hx hb d_Ho_findFrom_33 rfl (lv_at hl 4 rfl) ?_
            refine lv_iload hx hb d_Ho_findFrom_34 (lv_at hl 0 rfl) ?_
            refine callWi (va_runV (As := [.int (nI at_)]) (rest := [.ref (ad 6)]) ⟨hx, hb, hml, hown, hts⟩ (c_Me_word l dC dI cI ad u1 at_ (by first | assumption | omega) H.size) (cwV 1 hts (goodV m_10_32 m_7_1 m_7_2 m_0_3 m_7_3) rfl rfl rfl (by decide +kernel) ⟨Nat.le_of_ble_eq_true rfl, Nat.le_of_ble_eq_true rfl⟩) ⟨preW_blind, va_recv hK hP (ci := 2) (q0 := 2) rfl rfl, preW_ok hP hD hK⟩ rfl rfl hl.1 rfl (lv_room (Nat.le_of_ble_eq_true rfl)) d_Ho_findFrom_36 ⟨Nat.zero_le _, Nat.zero_le _⟩) hP hD hS hA (fun H locs hP hD hS => ?_)
            refine callWv (va_runV (As := [.int (f_Me_word at_ u1)]) (rest := []) ⟨hx, hb, hml, hown, hts⟩ (c_He_find l dC dI cI ad u1 (f_Me_word at_ u1) (by first | assumption | omega) (by first | assumption | omega) H.size) (cwV 1 hts (goodV m_10_17 m_10_18 m_10_19 m_0_10 m_10_20) rfl rfl rfl (by decide +kernel) ⟨Nat.le_of_ble_eq_true rfl, Nat.le_of_ble_eq_true rfl⟩) ⟨preW_blind, va_recv hK hP (ci := 6) (q0 := 6) rfl rfl, preW_ok hP hD hK⟩ rfl rfl hl.1 rfl (lv_room (Nat.le_of_ble_eq_true rfl)) d_Ho_findFrom_39 ⟨Nat.zero_le _, Nat.zero_le _⟩) hP hD hS hA (fun H locs hP hD hS => ?_)
            refine lv_iinc (v := nI (at_ + 4)) (lv' := [(4, .int (nI (at_ + 4))), (0, .ref (ad 5)), (1, .int (nI fr)), (2, .int (nI en)), (3, .ref (ad 2))]) hx hb d_Ho_findFrom_42 hl (k := 0) rfl (rn_inc at_ 4 (by decide)) (by decide) rfl (fun ls hl => ?_)
            refine lv_goto (tgt := 3) hx hb d_Ho_findFrom_45 (by decide) ?_
            exact ih3 (at_ + 4) (f_He_find (f_Me_word at_ u1) u1) _ _ _ (by first | assumption | omega) (by first | assumption | exact OkB.fr okb1 (find_fr _ _) (by decide)) (by first | assumption | exact find_ok _ okb1 okf1) (by omega) (hq3.trans ((if_pos c1).trans ((if_pos c2).trans ((if_pos c3).trans rfl)))) hP hD hS (lv_sub hl [0, 1, 2, 3, 4] rfl)
  exact L3 (en + 1) fr u _ _ _ (by first | assumption | omega) (by first | assumption | omega) (by first | assumption | omega) (by omega) (hq.trans (rfl)) hP hD hS (lv_sub hl [0, 1, 2, 3, 4] rfl)
theorem ff_loop (fr en : Nat) (u : S5) : ∀ (k at_ : Nat) (u1 : S5), FrS [] [8] [] [4, 5] u1 (f_Ho_findFrom_3 fr en u k at_ u1) ∧ (OkB u1 → OkF u1 → OkF (f_Ho_findFrom_3 fr en u k at_ u1)) := by
  intro k
  induction k with
  | zero => intro at_ u1; exact ⟨FrS.rf, fun _ h => h⟩
  | succ k ih =>
    intro at_ u1
    unfold f_Ho_findFrom_3
    split
    · split
      · split
        · refine ⟨FrS.tr (find_fr _ _) (ih _ _).1, fun hb hf => (ih _ _).2 (OkB.fr hb (find_fr _ _) (by decide)) (find_ok _ hb hf)⟩
        · exact ih _ _
      · exact ih _ _
    · exact ⟨FrS.rf, fun _ h => h⟩
theorem ff_fr (fr en : Nat) (u : S5) : FrS [] [8] [] [4, 5] u (f_Ho_findFrom fr en u) := (ff_loop fr en u _ _ _).1
theorem ff_ok (fr en : Nat) {u : S5} (hb : OkB u) (hf : OkF u) : OkF (f_Ho_findFrom fr en u) := (ff_loop fr en u _ _ _).2 hb hf
def w_Ho_findBlocks : List Cond := .code y_Ho_findBlocks b_Ho_findBlocks 5 none :: ALLW
def rm_Ho_findBlocks : Room := { frames := 22, cells := 0, slots := 0, locals := 647 }
theorem d_Ho_findBlocks_0 : decode b_Ho_findBlocks 0 = .ok (.aload_n 0, 1) := by decide +kernel
theorem d_Ho_findBlocks_1 : decode b_Ho_findBlocks 1 = .ok (.getfield 12, 3) := by decide +kernel
theorem d_Ho_findBlocks_4 : decode b_Ho_findBlocks 4 = .ok (.invokevirtual 108, 3) := by decide +kernel
theorem d_Ho_findBlocks_7 : decode b_Ho_findBlocks 7 = .ok (.iconst 0, 1) := by decide +kernel
theorem d_Ho_findBlocks_8 : decode b_Ho_findBlocks 8 = .ok (.istore_n 3, 1) := by decide +kernel
theorem d_Ho_findBlocks_9 : decode b_Ho_findBlocks 9 = .ok (.iload_n 3, 1) := by decide +kernel
theorem d_Ho_findBlocks_10 : decode b_Ho_findBlocks 10 = .ok (.bipush 32, 2) := by decide +kernel
theorem d_Ho_findBlocks_12 : decode b_Ho_findBlocks 12 = .ok (.if_icmp .ge 31, 3) := by decide +kernel
theorem d_Ho_findBlocks_15 : decode b_Ho_findBlocks 15 = .ok (.aload_n 1, 1) := by decide +kernel
theorem d_Ho_findBlocks_16 : decode b_Ho_findBlocks 16 = .ok (.getfield 29, 3) := by decide +kernel
theorem d_Ho_findBlocks_19 : decode b_Ho_findBlocks 19 = .ok (.iload_n 3, 1) := by decide +kernel
theorem d_Ho_findBlocks_20 : decode b_Ho_findBlocks 20 = .ok (.iaload, 1) := by decide +kernel
theorem d_Ho_findBlocks_21 : decode b_Ho_findBlocks 21 = .ok (.ifCond .ne 16, 3) := by decide +kernel
theorem d_Ho_findBlocks_24 : decode b_Ho_findBlocks 24 = .ok (.aload_n 0, 1) := by decide +kernel
theorem d_Ho_findBlocks_25 : decode b_Ho_findBlocks 25 = .ok (.getfield 12, 3) := by decide +kernel
theorem d_Ho_findBlocks_28 : decode b_Ho_findBlocks 28 = .ok (.aload_n 1, 1) := by decide +kernel
theorem d_Ho_findBlocks_29 : decode b_Ho_findBlocks 29 = .ok (.getfield 35, 3) := by decide +kernel
theorem d_Ho_findBlocks_32 : decode b_Ho_findBlocks 32 = .ok (.iload_n 3, 1) := by decide +kernel
theorem d_Ho_findBlocks_33 : decode b_Ho_findBlocks 33 = .ok (.iaload, 1) := by decide +kernel
theorem d_Ho_findBlocks_34 : decode b_Ho_findBlocks 34 = .ok (.invokevirtual 111, 3) := by decide +kernel
theorem d_Ho_findBlocks_37 : decode b_Ho_findBlocks 37 = .ok (.iinc 3 1, 3) := by decide +kernel
theorem d_Ho_findBlocks_40 : decode b_Ho_findBlocks 40 = .ok (.goto (-31), 3) := by decide +kernel
theorem d_Ho_findBlocks_43 : decode b_Ho_findBlocks 43 = .ok (.aload_n 0, 1) := by decide +kernel
theorem d_Ho_findBlocks_44 : decode b_Ho_findBlocks 44 = .ok (.iconst 0, 1) := by decide +kernel
theorem d_Ho_findBlocks_45 : decode b_Ho_findBlocks 45 = .ok (.sipush 16384, 3) := by decide +kernel
theorem d_Ho_findBlocks_48 : decode b_Ho_findBlocks 48 = .ok (.aload_n 2, 1) := by decide +kernel
theorem d_Ho_findBlocks_49 : decode b_Ho_findBlocks 49 = .ok (.invokevirtual 114, 3) := by decide +kernel
theorem d_Ho_findBlocks_52 : decode b_Ho_findBlocks 52 = .ok (.aload_n 0, 1) := by decide +kernel
theorem d_Ho_findBlocks_53 : decode b_Ho_findBlocks 53 = .ok (.ldc 118, 2) := by decide +kernel
theorem d_Ho_findBlocks_55 : decode b_Ho_findBlocks 55 = .ok (.ldc 119, 2) := by decide +kernel
theorem d_Ho_findBlocks_57 : decode b_Ho_findBlocks 57 = .ok (.aload_n 2, 1) := by decide +kernel
theorem d_Ho_findBlocks_58 : decode b_Ho_findBlocks 58 = .ok (.invokevirtual 114, 3) := by decide +kernel
theorem d_Ho_findBlocks_61 : decode b_Ho_findBlocks 61 = .ok (.iconst 0, 1) := by decide +kernel
theorem d_Ho_findBlocks_62 : decode b_Ho_findBlocks 62 = .ok (.istore_n 3, 1) := by decide +kernel
theorem d_Ho_findBlocks_63 : decode b_Ho_findBlocks 63 = .ok (.iload_n 3, 1) := by decide +kernel
theorem d_Ho_findBlocks_64 : decode b_Ho_findBlocks 64 = .ok (.sipush 1536, 3) := by decide +kernel
theorem d_Ho_findBlocks_67 : decode b_Ho_findBlocks 67 = .ok (.if_icmp .ge 50, 3) := by decide +kernel
theorem d_Ho_findBlocks_70 : decode b_Ho_findBlocks 70 = .ok (.iload_n 3, 1) := by decide +kernel
theorem d_Ho_findBlocks_71 : decode b_Ho_findBlocks 71 = .ok (.aload_n 0, 1) := by decide +kernel
theorem d_Ho_findBlocks_72 : decode b_Ho_findBlocks 72 = .ok (.getfield 12, 3) := by decide +kernel
theorem d_Ho_findBlocks_75 : decode b_Ho_findBlocks 75 = .ok (.getfield 120, 3) := by decide +kernel
theorem d_Ho_findBlocks_78 : decode b_Ho_findBlocks 78 = .ok (.if_icmp .ge 39, 3) := by decide +kernel
theorem d_Ho_findBlocks_81 : decode b_Ho_findBlocks 81 = .ok (.aload_n 0, 1) := by decide +kernel
theorem d_Ho_findBlocks_82 : decode b_Ho_findBlocks 82 = .ok (.getfield 12, 3) := by decide +kernel
theorem d_Ho_findBlocks_85 : decode b_Ho_findBlocks 85 = .ok (.getfield 123, 3) := by decide +kernel
theorem d_Ho_findBlocks_88 : decode b_Ho_findBlocks 88 = .ok (.iload_n 3, 1) := by decide +kernel
theorem d_Ho_findBlocks_89 : decode b_Ho_findBlocks 89 = .ok (.iaload, 1) := by decide +kernel
theorem d_Ho_findBlocks_90 : decode b_Ho_findBlocks 90 = .ok (.istore 4, 2) := by decide +kernel
theorem d_Ho_findBlocks_92 : decode b_Ho_findBlocks 92 = .ok (.aload_n 0, 1) := by decide +kernel
theorem d_Ho_findBlocks_93 : decode b_Ho_findBlocks 93 = .ok (.iload 4, 2) := by decide +kernel
theorem d_Ho_findBlocks_95 : decode b_Ho_findBlocks 95 = .ok (.iload 4, 2) := by decide +kernel
theorem d_Ho_findBlocks_97 : decode b_Ho_findBlocks 97 = .ok (.aload_n 0, 1) := by decide +kernel
theorem d_Ho_findBlocks_98 : decode b_Ho_findBlocks 98 = .ok (.getfield 12, 3) := by decide +kernel
theorem d_Ho_findBlocks_101 : decode b_Ho_findBlocks 101 = .ok (.iload 4, 2) := by decide +kernel
theorem d_Ho_findBlocks_103 : decode b_Ho_findBlocks 103 = .ok (.invokevirtual 82, 3) := by decide +kernel
theorem d_Ho_findBlocks_106 : decode b_Ho_findBlocks 106 = .ok (.iadd, 1) := by decide +kernel
theorem d_Ho_findBlocks_107 : decode b_Ho_findBlocks 107 = .ok (.aload_n 2, 1) := by decide +kernel
theorem d_Ho_findBlocks_108 : decode b_Ho_findBlocks 108 = .ok (.invokevirtual 114, 3) := by decide +kernel
theorem d_Ho_findBlocks_111 : decode b_Ho_findBlocks 111 = .ok (.iinc 3 1, 3) := by decide +kernel
theorem d_Ho_findBlocks_114 : decode b_Ho_findBlocks 114 = .ok (.goto (-51), 3) := by decide +kernel
theorem d_Ho_findBlocks_117 : decode b_Ho_findBlocks 117 = .ok (.return_, 1) := by decide +kernel
def f_Ho_findBlocks_63 (u : S5) : Nat → Nat → S5 → S5
  | 0, i, u2 => u2
  | k63 + 1, i, u2 => if i < 1536 then (if i < (gN u2 8) then f_Ho_findBlocks_63 u k63 (i + 1) (f_Ho_findFrom (aN u2 5 i) (aN u2 5 i + (f_He_sizeAt (nI (aN u2 5 i)) u2)) u2) else u2) else u2
def f_Ho_findBlocks_9 (u : S5) : Nat → Nat → S5 → S5
  | 0, j, u1 => u1
  | k9 + 1, j, u1 => if j < 32 then (if (aI u1 3 j) = 0 then f_Ho_findBlocks_9 u k9 (j + 1) (f_He_find (aI u1 2 j) u1) else f_Ho_findBlocks_9 u k9 (j + 1) u1) else u1
def f_Ho_findBlocks (u : S5) : S5 := let v1 : S5 := f_Ho_findBlocks_9 u 33 0 (f_He_forgetFound u); f_Ho_findBlocks_63 u 1537 0 (f_Ho_findFrom 57344 65536 (f_Ho_findFrom 0 16384 v1))
set_option maxHeartbeats 8000000 in
set_option maxRecDepth 100000 in
theorem c_Ho_findBlocks (l : Launch) (dC : Nat → ClassId) (dI : Nat → Nat → Nat) (cI : ClassId) (ad : Nat → Nat) (u : S5) (okb : OkB u) (sz : Nat) : Met l y_Ho_findBlocks w_Ho_findBlocks rm_Ho_findBlocks (PreW (dC, dI) classes [(cI, .int)] (wC cI ad) u sz [.ref (ad 5), .ref (ad 3), .ref (ad 2)]) (QWv (dC, dI) classes [(cI, .int)] (wC cI ad) (va_A (wC cI ad u) sz) (f_Ho_findBlocks u)) 0 0 (va_A (wC cI ad u) sz) := by
  generalize hres : f_Ho_findBlocks u = res
  refine Met.ofW (cc := b_Ho_findBlocks) (maxL := 5) (ret := none) (by decide) rfl ?_
  intro p e s m args below meth c s₁ B hml hv
  obtain ⟨rfl, rfl, hP, hK, hD0⟩ := hv
  have hx := B.exec
  have hb := B.bytes
  have hr := B.returns
  have hts : ∀ w9 ∈ ALLW, w9.before ([.ref (ad 5), .ref (ad 3), .ref (ad 2)] : List Value).toArray s = true := fun w9 h => atoms_spec (ws := w_Ho_findBlocks) B.pre w9 (List.mem_cons_of_mem _ h)
  have hown : s.vm.findClass R_Ho = some m.cls := findClass_of_methodNamed B.named
  have hlocks := B.notSynchronized
  have hD := hD0.self (sz := s.heap.size)
  generalize hAe : va_A (wC cI ad u) s.heap.size = A at hD ⊢
  have hA : ∀ q : Nat, s.heap.size ≤ q → A q := fun q h => by rw [← hAe]; exact Or.inr h
  have hS : va_S A s.heap s.heap [] := va_S.rf
  have hl := lv_entry ([.ref (ad 5), .ref (ad 3), .ref (ad 2)]) (n := 5) (Nat.le_of_ble_eq_true rfl)
  rw [lg_entry_eq]
  generalize (lg_sl ([.ref (ad 5), .ref (ad 3), .ref (ad 2)]) ++ List.replicate (5 - (lg_sl ([.ref (ad 5), .ref (ad 3), .ref (ad 2)])).length) Slot.unset).toArray = ls at hl ⊢
  have hl : lv_has ls 5 [(0, .ref (ad 5)), (1, .ref (ad 3)), (2, .ref (ad 2))] := hl
  have hq := hres.symm
  skip
  refine lv_aload_n hx hb d_Ho_findBlocks_0 rfl (lv_at hl 0 rfl) ?_
  refine va_get (D := (dC, dI)) (ci := 5) (v := .ref (ad 6)) (C := R_Ho) (T := F_Ho) (N := 2) hx hb hts in_Ho hown hK hP 5 rfl rfl 0 (by decide) (hts _ m_4_4) (fun _ h9 => h9) rfl d_Ho_findBlocks_1 ?_
  refine callWv (va_runV (As := []) (rest := []) ⟨hx, hb, hml, hown, hts⟩ (c_He_forgetFound l dC dI cI ad u  s.heap.size) (cwV 0 hts (goodV m_10_13 m_10_14 m_10_15 m_0_10 m_10_16) rfl rfl rfl (by decide +kernel) ⟨Nat.le_of_ble_eq_true rfl, Nat.le_of_ble_eq_true rfl⟩) ⟨preW_blind, va_recv hK hP (ci := 6) (q0 := 6) rfl rfl, preW_ok hP hD hK⟩ rfl rfl hl.1 rfl (lv_room (Nat.le_of_ble_eq_true rfl)) d_Ho_findBlocks_4 ⟨Nat.zero_le _, Nat.zero_le _⟩) hP hD hS hA (fun H locs hP hD hS => ?_)
  refine lv_iconst (v := nI 0) hx hb d_Ho_findBlocks_7 (by decide) ?_
  refine lv_istore_n (lv' := [(3, .int (nI 0)), (0, .ref (ad 5)), (1, .ref (ad 3)), (2, .ref (ad 2))]) hx hb d_Ho_findBlocks_8 rfl hl (by decide) rfl (fun ls hl => ?_)
  obtain ⟨o9, ho9⟩ : ∃ z : S5, z = f_Ho_findBlocks_9 u 33 0 (f_He_forgetFound u) := ⟨_, rfl⟩
  have K9 : ∀ (v1 : S5) (H : Heap) (locs : List Loc) (ls : Array Slot), v1 = o9 → (OkB v1) → (OkF v1) → va_P (dC, dI) classes (wC cI ad v1) H → va_D A (wC cI ad v1) → va_S A s.heap H locs → lv_has ls 5 [(0, .ref (ad 5)), (1, .ref (ad 3)), (2, .ref (ad 2))] → W p l e (headSpec w_Ho_findBlocks rm_Ho_findBlocks).room s m ([.ref (ad 5), .ref (ad 3), .ref (ad 2)] : List Value).toArray below meth c H locs 0 0 (MQ below (QWv (dC, dI) classes [(cI, .int)] (wC cI ad) A res) ([.ref (ad 5), .ref (ad 3), .ref (ad 2)] : List Value).toArray s 0 0 A) (F0 m 43 ls []) := by
    intro v1 H locs ls eo okb2 okf2 hP hD hS hl
    have ev1 := eo
    refine lv_aload_n hx hb d_Ho_findBlocks_43 rfl (lv_at hl 0 rfl) ?_
    refine lv_iconst (v := nI 0) hx hb d_Ho_findBlocks_44 (by decide) ?_
    refine lv_sipush (v := nI 16384) hx hb d_Ho_findBlocks_45 (by decide) ?_
    refine lv_aload_n hx hb d_Ho_findBlocks_48 rfl (lv_at hl 2 rfl) ?_
    refine callWv (va_runV (As := [.int (nI 0), .int (nI 16384), .ref (ad 2)]) (rest := []) ⟨hx, hb, hml, hown, hts⟩ (c_Ho_findFrom l dC dI cI ad v1 0 16384 (by omega) (by omega) (by omega) okb2 okf2 H.size) (cwV 3 hts (goodV m_10_23 m_10_24 m_19_10 m_0_9 m_10_25) rfl rfl rfl (by decide +kernel) ⟨Nat.le_of_ble_eq_true rfl, Nat.le_of_ble_eq_true rfl⟩) ⟨preW_blind, va_recv hK hP (ci := 5) (q0 := 5) rfl rfl, preW_ok hP hD hK⟩ rfl rfl hl.1 rfl (lv_room (Nat.le_of_ble_eq_true rfl)) d_Ho_findBlocks_49 ⟨Nat.zero_le _, Nat.zero_le _⟩) hP hD hS hA (fun H locs hP hD hS => ?_)
    refine lv_aload_n hx hb d_Ho_findBlocks_52 rfl (lv_at hl 0 rfl) ?_
    refine lv_ldc (v := 57344) hx hb hown (hts _ m_10_33) d_Ho_findBlocks_53 ?_
    refine rw_top (y := nI 57344) (by decide) ?_
    refine lv_ldc (v := 65536) hx hb hown (hts _ m_10_34) d_Ho_findBlocks_55 ?_
    refine rw_top (y := nI 65536) (by decide) ?_
    refine lv_aload_n hx hb d_Ho_findBlocks_57 rfl (lv_at hl 2 rfl) ?_
    refine callWv (va_runV (As := [.int (nI 57344), .int (nI 65536), .ref (ad 2)]) (rest := []) ⟨hx, hb, hml, hown, hts⟩ (c_Ho_findFrom l dC dI cI ad (f_Ho_findFrom 0 16384 v1) 57344 65536 (by omega) (by omega) (by omega) (OkB.fr okb2 (ff_fr _ _ _) (by decide)) (ff_ok _ _ okb2 okf2) H.size) (cwV 3 hts (goodV m_10_23 m_10_24 m_19_10 m_0_9 m_10_25) rfl rfl rfl (by decide +kernel) ⟨Nat.le_of_ble_eq_true rfl, Nat.le_of_ble_eq_true rfl⟩) ⟨preW_blind, va_recv hK hP (ci := 5) (q0 := 5) rfl rfl, preW_ok hP hD hK⟩ rfl rfl hl.1 rfl (lv_room (Nat.le_of_ble_eq_true rfl)) d_Ho_findBlocks_58 ⟨Nat.zero_le _, Nat.zero_le _⟩) hP hD hS hA (fun H locs hP hD hS => ?_)
    refine lv_iconst (v := nI 0) hx hb d_Ho_findBlocks_61 (by decide) ?_
    refine lv_istore_n (lv' := [(3, .int (nI 0)), (0, .ref (ad 5)), (1, .ref (ad 3)), (2, .ref (ad 2))]) hx hb d_Ho_findBlocks_62 rfl hl (by decide) rfl (fun ls hl => ?_)
    have L63 : ∀ (k : Nat) (i : Nat) (u2 : S5) (H : Heap) (locs : List Loc) (ls : Array Slot), (i ≤ 1536) → (OkB u2) → (OkF u2) → (1536 - i) < k → res = f_Ho_findBlocks_63 u k i u2 → va_P (dC, dI) classes (wC cI ad u2) H → va_D A (wC cI ad u2) → va_S A s.heap H locs → lv_has ls 5 [(3, .int (nI i)), (0, .ref (ad 5)), (1, .ref (ad 3)), (2, .ref (ad 2))] → W p l e (headSpec w_Ho_findBlocks rm_Ho_findBlocks).room s m ([.ref (ad 5), .ref (ad 3), .ref (ad 2)] : List Value).toArray below meth c H locs 0 0 (MQ below (QWv (dC, dI) classes [(cI, .int)] (wC cI ad) A res) ([.ref (ad 5), .ref (ad 3), .ref (ad 2)] : List Value).toArray s 0 0 A) (F0 m 63 ls []) := by
      intro k
      induction k with
      | zero => intro i u2 H locs ls hi okb3 okf3 hm; exact absurd hm (Nat.not_lt_zero _)
      | succ k63 ih63 =>
        intro i u2 H locs ls hi okb3 okf3 hm hq63 hP hD hS hl
        obtain ⟨kO, kT, kS⟩ := id okb3
        obtain ⟨kF, kC, kG⟩ := id okf3
        have h8c : gN u2 8 ≤ 1536 := Nat.le_trans kC (cnt_le _ _)
        refine lv_iload_n hx hb d_Ho_findBlocks_63 rfl (lv_at hl 0 rfl) ?_
        refine lv_sipush (v := nI 1536) hx hb d_Ho_findBlocks_64 (by decide) ?_
        refine rn_ge (tgt := 117) hx hb (by omega) (by omega) d_Ho_findBlocks_67 (by decide) (fun c1 => ?_) (fun c1 => ?_)
        · skip
          have hE : res = u2 := hq63.trans ((if_neg (Nat.not_lt.mpr c1)).trans rfl)
          exact retWv hx hb hr hP hK hD hS hE.symm d_Ho_findBlocks_117 hlocks
        · skip
          refine lv_iload_n hx hb d_Ho_findBlocks_70 rfl (lv_at hl 0 rfl) ?_
          refine lv_aload_n hx hb d_Ho_findBlocks_71 rfl (lv_at hl 1 rfl) ?_
          refine va_get (D := (dC, dI)) (ci := 5) (v := .ref (ad 6)) (C := R_Ho) (T := F_Ho) (N := 2) hx hb hts in_Ho hown hK hP 5 rfl rfl 0 (by decide) (hts _ m_4_4) (fun _ h9 => h9) rfl d_Ho_findBlocks_72 ?_
          refine va_get (D := (dC, dI)) (ci := 6) (v := .int (nI (gN u2 8))) (C := R_He) (T := F_He) (N := 12) hx hb hts in_He hown hK hP 6 rfl rfl 11 (by decide) (hts _ m_3_12) (fun _ h9 => h9) rfl d_Ho_findBlocks_75 ?_
          refine rn_ge (tgt := 117) hx hb (by omega) (by omega) d_Ho_findBlocks_78 (by decide) (fun c2 => ?_) (fun c2 => ?_)
          · skip
            have hE : res = u2 := hq63.trans ((if_pos c1).trans ((if_neg (Nat.not_lt.mpr c2)).trans rfl))
            exact retWv hx hb hr hP hK hD hS hE.symm d_Ho_findBlocks_117 hlocks
          · skip
            refine lv_aload_n hx hb d_Ho_findBlocks_81 rfl (lv_at hl 1 rfl) ?_
            refine va_get (D := (dC, dI)) (ci := 5) (v := .ref (ad 6)) (C := R_Ho) (T := F_Ho) (N := 2) hx hb hts in_Ho hown hK hP 5 rfl rfl 0 (by decide) (hts _ m_4_4) (fun _ h9 => h9) rfl d_Ho_findBlocks_82 ?_
            refine va_get (D := (dC, dI)) (ci := 6) (v := .ref (ad 19)) (C := R_He) (T := F_He) (N := 12) hx hb hts in_He hown hK hP 6 rfl rfl 10 (by decide) (hts _ m_3_11) (fun _ h9 => h9) rfl d_Ho_findBlocks_85 ?_
            refine lv_iload_n hx hb d_Ho_findBlocks_88 rfl (lv_at hl 0 rfl) ?_
            refine aldC_found (u := u2) (v := aN u2 5 i) hx hb hK hP (by omega) rfl d_Ho_findBlocks_89 ?_
            refine lv_istore (lv' := [(4, .int (nI (aN u2 5 i))), (3, .int (nI i)), (0, .ref (ad 5)), (1, .ref (ad 3)), (2, .ref (ad 2))]) hx hb d_Ho_findBlocks_90 hl (by decide) rfl (fun ls hl => ?_)
            obtain ⟨jj, hj1, hj2, hj3⟩ := kG i (by assumption)
            have hsz := sz_le hj1 kS
            rw [← hj2] at hsz
            refine lv_aload_n hx hb d_Ho_findBlocks_92 rfl (lv_at hl 2 rfl) ?_
            refine lv_iload hx hb d_Ho_findBlocks_93 (lv_at hl 0 rfl) ?_
            refine lv_iload hx hb d_Ho_findBlocks_95 (lv_at hl 0 rfl) ?_
            refine lv_aload_n hx hb d_Ho_findBlocks_97 rfl (lv_at hl 2 rfl) ?_
            refine va_get (D := (dC, dI)) (ci := 5) (v := .ref (ad 6)) (C := R_Ho) (T := F_Ho) (N := 2) hx hb hts in_Ho hown hK hP 5 rfl rfl 0 (by decide) (hts _ m_4_4) (fun _ h9 => h9) rfl d_Ho_findBlocks_98 ?_
            refine lv_iload hx hb d_Ho_findBlocks_101 (lv_at hl 0 rfl) ?_
            refine callWi (va_runV (As := [.int (nI (aN u2 5 i))]) (rest := [.int (nI (aN u2 5 i)), .int (nI (aN u2 5 i)), .ref (ad 5)]) ⟨hx, hb, hml, hown, hts⟩ (c_He_sizeAt l dC dI cI ad u2 (nI (aN u2 5 i)) (by first | assumption | omega) H.size) (cwV 1 hts (goodV m_10_35 m_10_36 m_10_37 m_0_10 m_10_38) rfl rfl rfl (by decide +kernel) ⟨Nat.le_of_ble_eq_true rfl, Nat.le_of_ble_eq_true rfl⟩) ⟨preW_blind, va_recv hK hP (ci := 6) (q0 := 6) rfl rfl, preW_ok hP hD hK⟩ rfl rfl hl.1 rfl (lv_room (Nat.le_of_ble_eq_true rfl)) d_Ho_findBlocks_103 ⟨Nat.zero_le _, Nat.zero_le _⟩) hP hD hS hA (fun H locs hP hD hS => ?_)
            refine lv_iadd hx hb d_Ho_findBlocks_106 ?_
            refine rw_top (y := nI (aN u2 5 i + (f_He_sizeAt (nI (aN u2 5 i)) u2))) (nI_add (aN u2 5 i) (f_He_sizeAt (nI (aN u2 5 i)) u2)) ?_
            refine lv_aload_n hx hb d_Ho_findBlocks_107 rfl (lv_at hl 4 rfl) ?_
            refine callWv (va_runV (As := [.int (nI (aN u2 5 i)), .int (nI (aN u2 5 i + (f_He_sizeAt (nI (aN u2 5 i)) u2))), .ref (ad 2)]) (rest := []) ⟨hx, hb, hml, hown, hts⟩ (c_Ho_findFrom l dC dI cI ad u2 (aN u2 5 i) (aN u2 5 i + (f_He_sizeAt (nI (aN u2 5 i)) u2)) (by omega) (by omega) (by omega) okb3 okf3 H.size) (cwV 3 hts (goodV m_10_23 m_10_24 m_19_10 m_0_9 m_10_25) rfl rfl rfl (by decide +kernel) ⟨Nat.le_of_ble_eq_true rfl, Nat.le_of_ble_eq_true rfl⟩) ⟨preW_blind, va_recv hK hP (ci := 5) (q0 := 5) rfl rfl, preW_ok hP hD hK⟩ rfl rfl hl.1 rfl (lv_room (Nat.le_of_ble_eq_true rfl)) d_Ho_findBlocks_108 ⟨Nat.zero_le _, Nat.zero_le _⟩) hP hD hS hA (fun H locs hP hD hS => ?_)
            refine lv_iinc (v := nI (i + 1)) (lv' := [(3, .int (nI (i + 1))), (4, .int (nI (aN u2 5 i))), (0, .ref (ad 5)), (1, .ref (ad 3)), (2, .ref (ad 2))]) hx hb d_Ho_findBlocks_111 hl (k := 1) rfl (rn_inc i 1 (by decide)) (by decide) rfl (fun ls hl => ?_)
            refine lv_goto (tgt := 63) hx hb d_Ho_findBlocks_114 (by decide) ?_
            exact ih63 (i + 1) (f_Ho_findFrom (aN u2 5 i) (aN u2 5 i + (f_He_sizeAt (nI (aN u2 5 i)) u2)) u2) _ _ _ (by first | assumption | omega) (OkB.fr okb3 (ff_fr _ _ _) (by decide)) (ff_ok _ _ okb3 okf3) (by omega) (hq63.trans ((if_pos c1).trans ((if_pos c2).trans rfl))) hP hD hS (lv_sub hl [0, 2, 3, 4] rfl)
    exact L63 1537 0 (f_Ho_findFrom 57344 65536 (f_Ho_findFrom 0 16384 v1)) _ _ _ (by first | assumption | omega) (OkB.fr (OkB.fr okb2 (ff_fr _ _ _) (by decide)) (ff_fr _ _ _) (by decide)) (ff_ok _ _ (OkB.fr okb2 (ff_fr _ _ _) (by decide)) (ff_ok _ _ okb2 okf2)) (by omega) ((by subst ev1; subst ho9; exact hq.trans (rfl))) hP hD hS (lv_sub hl [0, 1, 2, 3] rfl)
  have L9 : ∀ (k : Nat) (j : Nat) (u1 : S5) (H : Heap) (locs : List Loc) (ls : Array Slot), (j ≤ 32) → (OkB u1) → (OkF u1) → (32 - j) < k → o9 = f_Ho_findBlocks_9 u k j u1 → va_P (dC, dI) classes (wC cI ad u1) H → va_D A (wC cI ad u1) → va_S A s.heap H locs → lv_has ls 5 [(3, .int (nI j)), (0, .ref (ad 5)), (1, .ref (ad 3)), (2, .ref (ad 2))] → W p l e (headSpec w_Ho_findBlocks rm_Ho_findBlocks).room s m ([.ref (ad 5), .ref (ad 3), .ref (ad 2)] : List Value).toArray below meth c H locs 0 0 (MQ below (QWv (dC, dI) classes [(cI, .int)] (wC cI ad) A res) ([.ref (ad 5), .ref (ad 3), .ref (ad 2)] : List Value).toArray s 0 0 A) (F0 m 9 ls []) := by
    intro k
    induction k with
    | zero => intro j u1 H locs ls hj okb1 okf1 hm; exact absurd hm (Nat.not_lt_zero _)
    | succ k9 ih9 =>
      intro j u1 H locs ls hj okb1 okf1 hm hq9 hP hD hS hl
      refine lv_iload_n hx hb d_Ho_findBlocks_9 rfl (lv_at hl 0 rfl) ?_
      refine lv_bipush (v := nI 32) hx hb d_Ho_findBlocks_10 (by decide) ?_
      refine rn_ge (tgt := 43) hx hb (by omega) (by omega) d_Ho_findBlocks_12 (by decide) (fun c3 => ?_) (fun c3 => ?_)
      · skip
        exact K9 u1 _ _ _ (Eq.symm (hq9.trans ((if_neg (Nat.not_lt.mpr c3)).trans rfl))) (by first | assumption | omega) (by first | assumption | omega) hP hD hS (lv_sub hl [1, 2, 3] rfl)
      · skip
        refine lv_aload_n hx hb d_Ho_findBlocks_15 rfl (lv_at hl 2 rfl) ?_
        refine va_get (D := (dC, dI)) (ci := 3) (v := .ref (ad 11)) (C := R_Rg) (T := F_Rg) (N := 2) hx hb hts in_Rg hown hK hP 3 rfl rfl 1 (by decide) (hts _ m_2_0) (fun _ h9 => h9) rfl d_Ho_findBlocks_16 ?_
        refine lv_iload_n hx hb d_Ho_findBlocks_19 rfl (lv_at hl 0 rfl) ?_
        refine aldC_ungiven (u := u1) (v := aI u1 3 j) hx hb hK hP (by omega) rfl d_Ho_findBlocks_20 ?_
        refine lv_if_ne (tgt := 37) hx hb d_Ho_findBlocks_21 (by decide) (fun c4 => ?_) (fun c4 => ?_)
        · skip
          refine lv_iinc (v := nI (j + 1)) (lv' := [(3, .int (nI (j + 1))), (0, .ref (ad 5)), (1, .ref (ad 3)), (2, .ref (ad 2))]) hx hb d_Ho_findBlocks_37 hl (k := 0) rfl (rn_inc j 1 (by decide)) (by decide) rfl (fun ls hl => ?_)
          refine lv_goto (tgt := 9) hx hb d_Ho_findBlocks_40 (by decide) ?_
          exact ih9 (j + 1) u1 _ _ _ (by first | assumption | omega) (by first | assumption | exact OkB.fr okb1 (find_fr _ _) (by decide)) (by first | assumption | exact find_ok _ okb1 okf1) (by omega) (hq9.trans ((if_pos c3).trans ((if_neg c4).trans rfl))) hP hD hS (lv_sub hl [0, 1, 2, 3] rfl)
        · skip
          refine lv_aload_n hx hb d_Ho_findBlocks_24 rfl (lv_at hl 1 rfl) ?_
          refine va_get (D := (dC, dI)) (ci := 5) (v := .ref (ad 6)) (C := R_Ho) (T := F_Ho) (N := 2) hx hb hts in_Ho hown hK hP 5 rfl rfl 0 (by decide) (hts _ m_4_4) (fun _ h9 => h9) rfl d_Ho_findBlocks_25 ?_
          refine lv_aload_n hx hb d_Ho_findBlocks_28 rfl (lv_at hl 2 rfl) ?_
          refine va_get (D := (dC, dI)) (ci := 3) (v := .ref (ad 10)) (C := R_Rg) (T := F_Rg) (N := 2) hx hb hts in_Rg hown hK hP 3 rfl rfl 0 (by decide) (hts _ m_1_36) (fun _ h9 => h9) rfl d_Ho_findBlocks_29 ?_
          refine lv_iload_n hx hb d_Ho_findBlocks_32 rfl (lv_at hl 0 rfl) ?_
          refine aldC_value (u := u1) (v := aI u1 2 j) hx hb hK hP (by omega) rfl d_Ho_findBlocks_33 ?_
          refine callWv (va_runV (As := [.int (aI u1 2 j)]) (rest := []) ⟨hx, hb, hml, hown, hts⟩ (c_He_find l dC dI cI ad u1 (aI u1 2 j) (by first | assumption | omega) (by first | assumption | omega) H.size) (cwV 1 hts (goodV m_10_17 m_10_18 m_10_19 m_0_10 m_10_20) rfl rfl rfl (by decide +kernel) ⟨Nat.le_of_ble_eq_true rfl, Nat.le_of_ble_eq_true rfl⟩) ⟨preW_blind, va_recv hK hP (ci := 6) (q0 := 6) rfl rfl, preW_ok hP hD hK⟩ rfl rfl hl.1 rfl (lv_room (Nat.le_of_ble_eq_true rfl)) d_Ho_findBlocks_34 ⟨Nat.zero_le _, Nat.zero_le _⟩) hP hD hS hA (fun H locs hP hD hS => ?_)
          refine lv_iinc (v := nI (j + 1)) (lv' := [(3, .int (nI (j + 1))), (0, .ref (ad 5)), (1, .ref (ad 3)), (2, .ref (ad 2))]) hx hb d_Ho_findBlocks_37 hl (k := 0) rfl (rn_inc j 1 (by decide)) (by decide) rfl (fun ls hl => ?_)
          refine lv_goto (tgt := 9) hx hb d_Ho_findBlocks_40 (by decide) ?_
          exact ih9 (j + 1) (f_He_find (aI u1 2 j) u1) _ _ _ (by first | assumption | omega) (by first | assumption | exact OkB.fr okb1 (find_fr _ _) (by decide)) (by first | assumption | exact find_ok _ okb1 okf1) (by omega) (hq9.trans ((if_pos c3).trans ((if_pos c4).trans rfl))) hP hD hS (lv_sub hl [0, 1, 2, 3] rfl)
  exact L9 33 0 (f_He_forgetFound u) _ _ _ (by first | assumption | omega) (OkB.fr okb (fg_fr _) (by decide)) (fg_ok _) (by omega) (ho9) hP hD hS (lv_sub hl [0, 1, 2, 3] rfl)
theorem fb_l9 (u : S5) : ∀ (k j : Nat) (u1 : S5), FrS [] [8] [] [4, 5] u1 (f_Ho_findBlocks_9 u k j u1) ∧ (OkB u1 → OkF u1 → OkF (f_Ho_findBlocks_9 u k j u1)) := by
  intro k
  induction k with
  | zero => intro j u1; exact ⟨FrS.rf, fun _ h => h⟩
  | succ k ih =>
    intro j u1
    unfold f_Ho_findBlocks_9
    split
    · split
      · exact ⟨FrS.tr (find_fr _ _) (ih _ _).1, fun hb hf => (ih _ _).2 (OkB.fr hb (find_fr _ _) (by decide)) (find_ok _ hb hf)⟩
      · exact ih _ _
    · exact ⟨FrS.rf, fun _ h => h⟩
theorem fb_l63 (u : S5) : ∀ (k i : Nat) (u2 : S5), FrS [] [8] [] [4, 5] u2 (f_Ho_findBlocks_63 u k i u2) ∧ (OkB u2 → OkF u2 → OkF (f_Ho_findBlocks_63 u k i u2)) := by
  intro k
  induction k with
  | zero => intro j u1; exact ⟨FrS.rf, fun _ h => h⟩
  | succ k ih =>
    intro j u1
    unfold f_Ho_findBlocks_63
    split
    · split
      · exact ⟨FrS.tr (ff_fr _ _ _) (ih _ _).1, fun hb hf => (ih _ _).2 (OkB.fr hb (ff_fr _ _ _) (by decide)) (ff_ok _ _ hb hf)⟩
      · exact ⟨FrS.rf, fun _ h => h⟩
    · exact ⟨FrS.rf, fun _ h => h⟩
theorem fb_fr (u : S5) : FrS [] [8] [] [4, 5] u (f_Ho_findBlocks u) := FrS.tr (fg_fr u) (FrS.tr (fb_l9 u _ _ _).1 (FrS.tr (ff_fr _ _ _) (FrS.tr (ff_fr _ _ _) (fb_l63 _ _ _ _).1)))
theorem fb_ok {u : S5} (h : OkB u) : OkF (f_Ho_findBlocks u) := by
  have b1 : OkB (f_He_forgetFound u) := OkB.fr h (fg_fr u) (by decide)
  have b2 := OkB.fr b1 (fb_l9 u 33 0 _).1 (by decide)
  have b3 := OkB.fr b2 (ff_fr 0 16384 _) (by decide)
  have b4 := OkB.fr b3 (ff_fr 57344 65536 _) (by decide)
  exact (fb_l63 _ _ _ _).2 b4 (ff_ok _ _ b3 (ff_ok _ _ b2 ((fb_l9 u _ _ _).2 b1 (fg_ok u))))
def w_Ho_tellLost : List Cond := .code y_Ho_tellLost b_Ho_tellLost 7 none :: ALLW
def rm_Ho_tellLost : Room := { frames := 23, cells := 0, slots := 0, locals := 671 }
theorem d_Ho_tellLost_0 : decode b_Ho_tellLost 0 = .ok (.aload_n 0, 1) := by decide +kernel
theorem d_Ho_tellLost_1 : decode b_Ho_tellLost 1 = .ok (.getfield 12, 3) := by decide +kernel
theorem d_Ho_tellLost_4 : decode b_Ho_tellLost 4 = .ok (.getfield 94, 3) := by decide +kernel
theorem d_Ho_tellLost_7 : decode b_Ho_tellLost 7 = .ok (.ifCond .ne 4, 3) := by decide +kernel
theorem d_Ho_tellLost_10 : decode b_Ho_tellLost 10 = .ok (.return_, 1) := by decide +kernel
theorem d_Ho_tellLost_11 : decode b_Ho_tellLost 11 = .ok (.aload_n 0, 1) := by decide +kernel
theorem d_Ho_tellLost_12 : decode b_Ho_tellLost 12 = .ok (.aload_n 2, 1) := by decide +kernel
theorem d_Ho_tellLost_13 : decode b_Ho_tellLost 13 = .ok (.aload_n 3, 1) := by decide +kernel
theorem d_Ho_tellLost_14 : decode b_Ho_tellLost 14 = .ok (.invokevirtual 98, 3) := by decide +kernel
theorem d_Ho_tellLost_17 : decode b_Ho_tellLost 17 = .ok (.iconst 0, 1) := by decide +kernel
theorem d_Ho_tellLost_18 : decode b_Ho_tellLost 18 = .ok (.istore 5, 2) := by decide +kernel
theorem d_Ho_tellLost_20 : decode b_Ho_tellLost 20 = .ok (.iload 5, 2) := by decide +kernel
theorem d_Ho_tellLost_22 : decode b_Ho_tellLost 22 = .ok (.sipush 1536, 3) := by decide +kernel
theorem d_Ho_tellLost_25 : decode b_Ho_tellLost 25 = .ok (.if_icmp .ge 33, 3) := by decide +kernel
theorem d_Ho_tellLost_28 : decode b_Ho_tellLost 28 = .ok (.aload_n 0, 1) := by decide +kernel
theorem d_Ho_tellLost_29 : decode b_Ho_tellLost 29 = .ok (.getfield 12, 3) := by decide +kernel
theorem d_Ho_tellLost_32 : decode b_Ho_tellLost 32 = .ok (.iload 5, 2) := by decide +kernel
theorem d_Ho_tellLost_34 : decode b_Ho_tellLost 34 = .ok (.invokevirtual 102, 3) := by decide +kernel
theorem d_Ho_tellLost_37 : decode b_Ho_tellLost 37 = .ok (.istore 6, 2) := by decide +kernel
theorem d_Ho_tellLost_39 : decode b_Ho_tellLost 39 = .ok (.iload 6, 2) := by decide +kernel
theorem d_Ho_tellLost_41 : decode b_Ho_tellLost 41 = .ok (.ifCond .eq 11, 3) := by decide +kernel
theorem d_Ho_tellLost_44 : decode b_Ho_tellLost 44 = .ok (.aload 4, 2) := by decide +kernel
theorem d_Ho_tellLost_46 : decode b_Ho_tellLost 46 = .ok (.iload_n 1, 1) := by decide +kernel
theorem d_Ho_tellLost_47 : decode b_Ho_tellLost 47 = .ok (.iload 6, 2) := by decide +kernel
theorem d_Ho_tellLost_49 : decode b_Ho_tellLost 49 = .ok (.invokevirtual 105, 3) := by decide +kernel
theorem d_Ho_tellLost_52 : decode b_Ho_tellLost 52 = .ok (.iinc 5 1, 3) := by decide +kernel
theorem d_Ho_tellLost_55 : decode b_Ho_tellLost 55 = .ok (.goto (-35), 3) := by decide +kernel
theorem d_Ho_tellLost_58 : decode b_Ho_tellLost 58 = .ok (.return_, 1) := by decide +kernel
def f_Ho_tellLost_20 (q : Int32) (u : S5) : Nat → Nat → S5 → S5
  | 0, j, u1 => u1
  | k20 + 1, j, u1 => if j < 1536 then (if (f_He_lostAt j u1) = 0 then f_Ho_tellLost_20 q u k20 (j + 1) u1 else f_Ho_tellLost_20 q u k20 (j + 1) (f_Rp_noteLost q (nI (f_He_lostAt j u1)) u1)) else u1
def f_Ho_tellLost (q : Int32) (u : S5) : S5 := if (gI u 8) = 0 then u else f_Ho_tellLost_20 q u 1537 0 (f_Ho_findBlocks u)
set_option maxHeartbeats 8000000 in
set_option maxRecDepth 100000 in
theorem c_Ho_tellLost (l : Launch) (dC : Nat → ClassId) (dI : Nat → Nat → Nat) (cI : ClassId) (ad : Nat → Nat) (u : S5) (q : Int32) (ok : OkR u) (okb : OkB u) (sz : Nat) : Met l y_Ho_tellLost w_Ho_tellLost rm_Ho_tellLost (PreW (dC, dI) classes [(cI, .int)] (wC cI ad) u sz [.ref (ad 5), .int q, .ref (ad 3), .ref (ad 2), .ref (ad 4)]) (QWv (dC, dI) classes [(cI, .int)] (wC cI ad) (va_A (wC cI ad u) sz) (f_Ho_tellLost q u)) 0 0 (va_A (wC cI ad u) sz) := by
  generalize hres : f_Ho_tellLost q u = res
  refine Met.ofW (cc := b_Ho_tellLost) (maxL := 7) (ret := none) (by decide) rfl ?_
  intro p e s m args below meth c s₁ B hml hv
  obtain ⟨rfl, rfl, hP, hK, hD0⟩ := hv
  have hx := B.exec
  have hb := B.bytes
  have hr := B.returns
  have hts : ∀ w9 ∈ ALLW, w9.before ([.ref (ad 5), .int q, .ref (ad 3), .ref (ad 2), .ref (ad 4)] : List Value).toArray s = true := fun w9 h => atoms_spec (ws := w_Ho_tellLost) B.pre w9 (List.mem_cons_of_mem _ h)
  have hown : s.vm.findClass R_Ho = some m.cls := findClass_of_methodNamed B.named
  have hlocks := B.notSynchronized
  have hD := hD0.self (sz := s.heap.size)
  generalize hAe : va_A (wC cI ad u) s.heap.size = A at hD ⊢
  have hA : ∀ q : Nat, s.heap.size ≤ q → A q := fun q h => by rw [← hAe]; exact Or.inr h
  have hS : va_S A s.heap s.heap [] := va_S.rf
  have hl := lv_entry ([.ref (ad 5), .int q, .ref (ad 3), .ref (ad 2), .ref (ad 4)]) (n := 7) (Nat.le_of_ble_eq_true rfl)
  rw [lg_entry_eq]
  generalize (lg_sl ([.ref (ad 5), .int q, .ref (ad 3), .ref (ad 2), .ref (ad 4)]) ++ List.replicate (7 - (lg_sl ([.ref (ad 5), .int q, .ref (ad 3), .ref (ad 2), .ref (ad 4)])).length) Slot.unset).toArray = ls at hl ⊢
  have hl : lv_has ls 7 [(0, .ref (ad 5)), (1, .int q), (2, .ref (ad 3)), (3, .ref (ad 2)), (4, .ref (ad 4))] := hl
  have hq := hres.symm
  skip
  refine lv_aload_n hx hb d_Ho_tellLost_0 rfl (lv_at hl 0 rfl) ?_
  refine va_get (D := (dC, dI)) (ci := 5) (v := .ref (ad 6)) (C := R_Ho) (T := F_Ho) (N := 2) hx hb hts in_Ho hown hK hP 5 rfl rfl 0 (by decide) (hts _ m_4_4) (fun _ h9 => h9) rfl d_Ho_tellLost_1 ?_
  refine va_get (D := (dC, dI)) (ci := 6) (v := .int (gI u 8)) (C := R_He) (T := F_He) (N := 12) hx hb hts in_He hown hK hP 6 rfl rfl 7 (by decide) (hts _ m_3_5) (fun _ h9 => h9) rfl d_Ho_tellLost_4 ?_
  refine lv_if_ne (tgt := 11) hx hb d_Ho_tellLost_7 (by decide) (fun c1 => ?_) (fun c1 => ?_)
  · skip
    refine lv_aload_n hx hb d_Ho_tellLost_11 rfl (lv_at hl 0 rfl) ?_
    refine lv_aload_n hx hb d_Ho_tellLost_12 rfl (lv_at hl 2 rfl) ?_
    refine lv_aload_n hx hb d_Ho_tellLost_13 rfl (lv_at hl 3 rfl) ?_
    refine callWv (va_runV (As := [.ref (ad 3), .ref (ad 2)]) (rest := []) ⟨hx, hb, hml, hown, hts⟩ (c_Ho_findBlocks l dC dI cI ad u (by first | assumption | omega) s.heap.size) (cwV 2 hts (goodV m_10_10 m_10_11 m_19_9 m_0_9 m_10_12) rfl rfl rfl (by decide +kernel) ⟨Nat.le_of_ble_eq_true rfl, Nat.le_of_ble_eq_true rfl⟩) ⟨preW_blind, va_recv hK hP (ci := 5) (q0 := 5) rfl rfl, preW_ok hP hD hK⟩ rfl rfl hl.1 rfl (lv_room (Nat.le_of_ble_eq_true rfl)) d_Ho_tellLost_14 ⟨Nat.zero_le _, Nat.zero_le _⟩) hP hD hS hA (fun H locs hP hD hS => ?_)
    refine lv_iconst (v := nI 0) hx hb d_Ho_tellLost_17 (by decide) ?_
    refine lv_istore (lv' := [(5, .int (nI 0)), (0, .ref (ad 5)), (1, .int q), (2, .ref (ad 3)), (3, .ref (ad 2)), (4, .ref (ad 4))]) hx hb d_Ho_tellLost_18 hl (by decide) rfl (fun ls hl => ?_)
    have L20 : ∀ (k : Nat) (j : Nat) (u1 : S5) (H : Heap) (locs : List Loc) (ls : Array Slot), (j ≤ 1536) → (OkR u1) → (∀ j, j < 1536 → aN u1 2 j ≤ 2) → (∀ j, j < 1536 → aN u1 4 j ≤ 1) → (1536 - j) < k → res = f_Ho_tellLost_20 q u k j u1 → va_P (dC, dI) classes (wC cI ad u1) H → va_D A (wC cI ad u1) → va_S A s.heap H locs → lv_has ls 7 [(5, .int (nI j)), (0, .ref (ad 5)), (1, .int q), (2, .ref (ad 3)), (3, .ref (ad 2)), (4, .ref (ad 4))] → W p l e (headSpec w_Ho_tellLost rm_Ho_tellLost).room s m ([.ref (ad 5), .int q, .ref (ad 3), .ref (ad 2), .ref (ad 4)] : List Value).toArray below meth c H locs 0 0 (MQ below (QWv (dC, dI) classes [(cI, .int)] (wC cI ad) A res) ([.ref (ad 5), .int q, .ref (ad 3), .ref (ad 2), .ref (ad 4)] : List Value).toArray s 0 0 A) (F0 m 20 ls []) := by
      intro k
      induction k with
      | zero => intro j u1 H locs ls hj okr1 hT1 hF1 hm; exact absurd hm (Nat.not_lt_zero _)
      | succ k20 ih20 =>
        intro j u1 H locs ls hj okr1 hT1 hF1 hm hq20 hP hD hS hl
        obtain ⟨r0, r1, r2⟩ := id okr1
        refine lv_iload hx hb d_Ho_tellLost_20 (lv_at hl 0 rfl) ?_
        refine lv_sipush (v := nI 1536) hx hb d_Ho_tellLost_22 (by decide) ?_
        refine rn_ge (tgt := 58) hx hb (by omega) (by omega) d_Ho_tellLost_25 (by decide) (fun c2 => ?_) (fun c2 => ?_)
        · skip
          have hE : res = u1 := hq20.trans ((if_neg (Nat.not_lt.mpr c2)).trans rfl)
          exact retWv hx hb hr hP hK hD hS hE.symm d_Ho_tellLost_58 hlocks
        · skip
          refine lv_aload_n hx hb d_Ho_tellLost_28 rfl (lv_at hl 1 rfl) ?_
          refine va_get (D := (dC, dI)) (ci := 5) (v := .ref (ad 6)) (C := R_Ho) (T := F_Ho) (N := 2) hx hb hts in_Ho hown hK hP 5 rfl rfl 0 (by decide) (hts _ m_4_4) (fun _ h9 => h9) rfl d_Ho_tellLost_29 ?_
          refine lv_iload hx hb d_Ho_tellLost_32 (lv_at hl 0 rfl) ?_
          refine callWi (va_runV (As := [.int (nI j)]) (rest := []) ⟨hx, hb, hml, hown, hts⟩ (c_He_lostAt l dC dI cI ad u1 j (by first | assumption | omega) (by first | assumption | omega) (by first | assumption | omega) H.size) (cwV 1 hts (goodV m_11_3 m_11_4 m_11_5 m_0_10 m_11_6) rfl rfl rfl (by decide +kernel) ⟨Nat.le_of_ble_eq_true rfl, Nat.le_of_ble_eq_true rfl⟩) ⟨preW_blind, va_recv hK hP (ci := 6) (q0 := 6) rfl rfl, preW_ok hP hD hK⟩ rfl rfl hl.1 rfl (lv_room (Nat.le_of_ble_eq_true rfl)) d_Ho_tellLost_34 ⟨Nat.zero_le _, Nat.zero_le _⟩) hP hD hS hA (fun H locs hP hD hS => ?_)
          refine lv_istore (lv' := [(6, .int (nI (f_He_lostAt j u1))), (5, .int (nI j)), (0, .ref (ad 5)), (1, .int q), (2, .ref (ad 3)), (3, .ref (ad 2)), (4, .ref (ad 4))]) hx hb d_Ho_tellLost_37 hl (by decide) rfl (fun ls hl => ?_)
          refine lv_iload hx hb d_Ho_tellLost_39 (lv_at hl 0 rfl) ?_
          have hlo := lo_le (j := j) u1 (by omega)
          refine rz_eq (tgt := 52) hx hb (by omega) d_Ho_tellLost_41 (by decide) (fun c3 => ?_) (fun c3 => ?_)
          · skip
            refine lv_iinc (v := nI (j + 1)) (lv' := [(5, .int (nI (j + 1))), (6, .int (nI (f_He_lostAt j u1))), (0, .ref (ad 5)), (1, .int q), (2, .ref (ad 3)), (3, .ref (ad 2)), (4, .ref (ad 4))]) hx hb d_Ho_tellLost_52 hl (k := 1) rfl (rn_inc j 1 (by decide)) (by decide) rfl (fun ls hl => ?_)
            refine lv_goto (tgt := 20) hx hb d_Ho_tellLost_55 (by decide) ?_
            exact ih20 (j + 1) u1 _ _ _ (by first | assumption | omega) (by first | assumption | exact nl_ok _ _ okr1) (by first | assumption | (rw [(nl_fr _ _ _).2.2.2.1 2 (by decide)]; exact hT1)) (by first | assumption | (rw [(nl_fr _ _ _).2.2.2.1 4 (by decide)]; exact hF1)) (by omega) (hq20.trans ((if_pos c2).trans ((if_pos c3).trans rfl))) hP hD hS (lv_sub hl [0, 2, 3, 4, 5, 6] rfl)
          · skip
            refine lv_aload hx hb d_Ho_tellLost_44 (lv_at hl 6 rfl) ?_
            refine lv_iload_n hx hb d_Ho_tellLost_46 rfl (lv_at hl 3 rfl) ?_
            refine lv_iload hx hb d_Ho_tellLost_47 (lv_at hl 0 rfl) ?_
            refine callWv (va_runV (As := [.int q, .int (nI (f_He_lostAt j u1))]) (rest := []) ⟨hx, hb, hml, hown, hts⟩ (c_Rp_noteLost l dC dI cI ad u1 q (nI (f_He_lostAt j u1)) (by first | assumption | omega) (by first | assumption | omega) (by first | assumption | omega) H.size) (cwV 2 hts (goodV m_11_7 m_11_8 m_11_9 m_0_8 m_11_10) rfl rfl rfl (by decide +kernel) ⟨Nat.le_of_ble_eq_true rfl, Nat.le_of_ble_eq_true rfl⟩) ⟨preW_blind, va_recv hK hP (ci := 4) (q0 := 4) rfl rfl, preW_ok hP hD hK⟩ rfl rfl hl.1 rfl (lv_room (Nat.le_of_ble_eq_true rfl)) d_Ho_tellLost_49 ⟨Nat.zero_le _, Nat.zero_le _⟩) hP hD hS hA (fun H locs hP hD hS => ?_)
            refine lv_iinc (v := nI (j + 1)) (lv' := [(5, .int (nI (j + 1))), (6, .int (nI (f_He_lostAt j u1))), (0, .ref (ad 5)), (1, .int q), (2, .ref (ad 3)), (3, .ref (ad 2)), (4, .ref (ad 4))]) hx hb d_Ho_tellLost_52 hl (k := 1) rfl (rn_inc j 1 (by decide)) (by decide) rfl (fun ls hl => ?_)
            refine lv_goto (tgt := 20) hx hb d_Ho_tellLost_55 (by decide) ?_
            exact ih20 (j + 1) (f_Rp_noteLost q (nI (f_He_lostAt j u1)) u1) _ _ _ (by first | assumption | omega) (by first | assumption | exact nl_ok _ _ okr1) (by first | assumption | (rw [(nl_fr _ _ _).2.2.2.1 2 (by decide)]; exact hT1)) (by first | assumption | (rw [(nl_fr _ _ _).2.2.2.1 4 (by decide)]; exact hF1)) (by omega) (hq20.trans ((if_pos c2).trans ((if_neg c3).trans rfl))) hP hD hS (lv_sub hl [0, 2, 3, 4, 5, 6] rfl)
    exact L20 1537 0 (f_Ho_findBlocks u) _ _ _ (by first | assumption | omega) (OkR.fr ok (fb_fr _) (by decide)) (OkB.fr okb (fb_fr _) (by decide)).2.1 (fb_ok okb).1 (by omega) (hq.trans ((if_neg c1).trans rfl)) hP hD hS (lv_sub hl [0, 1, 2, 3, 4, 5] rfl)
  · skip
    have hE : res = u := hq.trans ((if_pos c1).trans rfl)
    exact retWv hx hb hr hP hK hD hS hE.symm d_Ho_tellLost_10 hlocks
def w_Ho_isLive : List Cond := .code y_Ho_isLive b_Ho_isLive 5 (some .boolean) :: ALLW
def rm_Ho_isLive : Room := { frames := 22, cells := 0, slots := 0, locals := 648 }
theorem d_Ho_isLive_0 : decode b_Ho_isLive 0 = .ok (.aload_n 0, 1) := by decide +kernel
theorem d_Ho_isLive_1 : decode b_Ho_isLive 1 = .ok (.getfield 12, 3) := by decide +kernel
theorem d_Ho_isLive_4 : decode b_Ho_isLive 4 = .ok (.iload_n 1, 1) := by decide +kernel
theorem d_Ho_isLive_5 : decode b_Ho_isLive 5 = .ok (.invokevirtual 68, 3) := by decide +kernel
theorem d_Ho_isLive_8 : decode b_Ho_isLive 8 = .ok (.istore 4, 2) := by decide +kernel
theorem d_Ho_isLive_10 : decode b_Ho_isLive 10 = .ok (.iload 4, 2) := by decide +kernel
theorem d_Ho_isLive_12 : decode b_Ho_isLive 12 = .ok (.iconst 1, 1) := by decide +kernel
theorem d_Ho_isLive_13 : decode b_Ho_isLive 13 = .ok (.if_icmp .ne 5, 3) := by decide +kernel
theorem d_Ho_isLive_16 : decode b_Ho_isLive 16 = .ok (.iconst 1, 1) := by decide +kernel
theorem d_Ho_isLive_17 : decode b_Ho_isLive 17 = .ok (.ireturn, 1) := by decide +kernel
theorem d_Ho_isLive_18 : decode b_Ho_isLive 18 = .ok (.aload_n 3, 1) := by decide +kernel
theorem d_Ho_isLive_19 : decode b_Ho_isLive 19 = .ok (.iload 4, 2) := by decide +kernel
theorem d_Ho_isLive_21 : decode b_Ho_isLive 21 = .ok (.iconst 2, 1) := by decide +kernel
theorem d_Ho_isLive_22 : decode b_Ho_isLive 22 = .ok (.if_icmp .ne 8, 3) := by decide +kernel
theorem d_Ho_isLive_25 : decode b_Ho_isLive 25 = .ok (.bipush 6, 2) := by decide +kernel
theorem d_Ho_isLive_27 : decode b_Ho_isLive 27 = .ok (.goto 5, 3) := by decide +kernel
theorem d_Ho_isLive_30 : decode b_Ho_isLive 30 = .ok (.bipush 7, 2) := by decide +kernel
theorem d_Ho_isLive_32 : decode b_Ho_isLive 32 = .ok (.iload_n 2, 1) := by decide +kernel
theorem d_Ho_isLive_33 : decode b_Ho_isLive 33 = .ok (.iload_n 1, 1) := by decide +kernel
theorem d_Ho_isLive_34 : decode b_Ho_isLive 34 = .ok (.invokevirtual 73, 3) := by decide +kernel
theorem d_Ho_isLive_37 : decode b_Ho_isLive 37 = .ok (.iconst 0, 1) := by decide +kernel
theorem d_Ho_isLive_38 : decode b_Ho_isLive 38 = .ok (.ireturn, 1) := by decide +kernel
def f_Ho_isLive (a : Int32) (q : Int32) (u : S5) : Bool × S5 := if (f_He_stateAt a u) = 1 then (true, u) else let x2 : Int32 := if (f_He_stateAt a u) = 2 then 6 else 7; (false, f_Rp_note x2 q a u)
set_option maxHeartbeats 8000000 in
set_option maxRecDepth 100000 in
theorem c_Ho_isLive (l : Launch) (dC : Nat → ClassId) (dI : Nat → Nat → Nat) (cI : ClassId) (ad : Nat → Nat) (u : S5) (a : Int32) (q : Int32) (ok : OkR u) (hT : ∀ j, j < 1536 → aN u 2 j ≤ 2) (sz : Nat) : Met l y_Ho_isLive w_Ho_isLive rm_Ho_isLive (PreW (dC, dI) classes [(cI, .int)] (wC cI ad) u sz [.ref (ad 5), .int a, .int q, .ref (ad 4)]) (QWi (dC, dI) classes [(cI, .int)] (wC cI ad) (va_A (wC cI ad u) sz) (b2i (f_Ho_isLive a q u).1) (f_Ho_isLive a q u).2) 0 0 (va_A (wC cI ad u) sz) := by
  generalize hres : f_Ho_isLive a q u = res
  refine Met.ofW (cc := b_Ho_isLive) (maxL := 5) (ret := (some .boolean)) (by decide) rfl ?_
  intro p e s m args below meth c s₁ B hml hv
  obtain ⟨rfl, rfl, hP, hK, hD0⟩ := hv
  have hx := B.exec
  have hb := B.bytes
  have hr := B.returns
  have hts : ∀ w9 ∈ ALLW, w9.before ([.ref (ad 5), .int a, .int q, .ref (ad 4)] : List Value).toArray s = true := fun w9 h => atoms_spec (ws := w_Ho_isLive) B.pre w9 (List.mem_cons_of_mem _ h)
  have hown : s.vm.findClass R_Ho = some m.cls := findClass_of_methodNamed B.named
  have hlocks := B.notSynchronized
  have hD := hD0.self (sz := s.heap.size)
  generalize hAe : va_A (wC cI ad u) s.heap.size = A at hD ⊢
  have hA : ∀ q : Nat, s.heap.size ≤ q → A q := fun q h => by rw [← hAe]; exact Or.inr h
  have hS : va_S A s.heap s.heap [] := va_S.rf
  have hl := lv_entry ([.ref (ad 5), .int a, .int q, .ref (ad 4)]) (n := 5) (Nat.le_of_ble_eq_true rfl)
  rw [lg_entry_eq]
  generalize (lg_sl ([.ref (ad 5), .int a, .int q, .ref (ad 4)]) ++ List.replicate (5 - (lg_sl ([.ref (ad 5), .int a, .int q, .ref (ad 4)])).length) Slot.unset).toArray = ls at hl ⊢
  have hl : lv_has ls 5 [(0, .ref (ad 5)), (1, .int a), (2, .int q), (3, .ref (ad 4))] := hl
  have hq := hres.symm
  skip
  obtain ⟨ok0, ok1, ok2⟩ := id ok
  have hsl := st_le a hT
  refine lv_aload_n hx hb d_Ho_isLive_0 rfl (lv_at hl 0 rfl) ?_
  refine va_get (D := (dC, dI)) (ci := 5) (v := .ref (ad 6)) (C := R_Ho) (T := F_Ho) (N := 2) hx hb hts in_Ho hown hK hP 5 rfl rfl 0 (by decide) (hts _ m_4_4) (fun _ h9 => h9) rfl d_Ho_isLive_1 ?_
  refine lv_iload_n hx hb d_Ho_isLive_4 rfl (lv_at hl 1 rfl) ?_
  refine callWi (va_runV (As := [.int a]) (rest := []) ⟨hx, hb, hml, hown, hts⟩ (c_He_stateAt l dC dI cI ad u a s.heap.size) (cwV 1 hts (goodV m_11_21 m_11_0 m_11_1 m_0_10 m_11_2) rfl rfl rfl (by decide +kernel) ⟨Nat.le_of_ble_eq_true rfl, Nat.le_of_ble_eq_true rfl⟩) ⟨preW_blind, va_recv hK hP (ci := 6) (q0 := 6) rfl rfl, preW_ok hP hD hK⟩ rfl rfl hl.1 rfl (lv_room (Nat.le_of_ble_eq_true rfl)) d_Ho_isLive_5 ⟨Nat.zero_le _, Nat.zero_le _⟩) hP hD hS hA (fun H locs hP hD hS => ?_)
  refine lv_istore (lv' := [(4, .int (nI (f_He_stateAt a u))), (0, .ref (ad 5)), (1, .int a), (2, .int q), (3, .ref (ad 4))]) hx hb d_Ho_isLive_8 hl (by decide) rfl (fun ls hl => ?_)
  refine lv_iload hx hb d_Ho_isLive_10 (lv_at hl 0 rfl) ?_
  refine lv_iconst (v := nI 1) hx hb d_Ho_isLive_12 (by decide) ?_
  refine rn_ne (tgt := 18) hx hb (by omega) (by omega) d_Ho_isLive_13 (by decide) (fun c1 => ?_) (fun c1 => ?_)
  · skip
    refine lv_aload_n hx hb d_Ho_isLive_18 rfl (lv_at hl 4 rfl) ?_
    refine lv_iload hx hb d_Ho_isLive_19 (lv_at hl 0 rfl) ?_
    refine lv_iconst (v := nI 2) hx hb d_Ho_isLive_21 (by decide) ?_
    have J32 : ∀ (x2 : Int32) (H : Heap) (locs : List Loc), x2 = (if (f_He_stateAt a u) = 2 then 6 else 7) → va_P (dC, dI) classes (wC cI ad u) H → va_D A (wC cI ad u) → va_S A s.heap H locs → W p l e (headSpec w_Ho_isLive rm_Ho_isLive).room s m ([.ref (ad 5), .int a, .int q, .ref (ad 4)] : List Value).toArray below meth c H locs 0 0 (MQ below (QWi (dC, dI) classes [(cI, .int)] (wC cI ad) A (b2i res.1) res.2) ([.ref (ad 5), .int a, .int q, .ref (ad 4)] : List Value).toArray s 0 0 A) (F0 m 32 ls [.int x2, .ref (ad 4)]) := by
      intro x2 H locs ex2 hP hD hS
      refine lv_iload_n hx hb d_Ho_isLive_32 rfl (lv_at hl 3 rfl) ?_
      refine lv_iload_n hx hb d_Ho_isLive_33 rfl (lv_at hl 2 rfl) ?_
      refine callWv (va_runV (As := [.int x2, .int q, .int a]) (rest := []) ⟨hx, hb, hml, hown, hts⟩ (c_Rp_note l dC dI cI ad u x2 q a (by first | assumption | omega) (by first | assumption | omega) (by first | assumption | omega) H.size) (cwV 3 hts (goodV m_11_22 m_6_31 m_6_32 m_0_8 m_6_33) rfl rfl rfl (by decide +kernel) ⟨Nat.le_of_ble_eq_true rfl, Nat.le_of_ble_eq_true rfl⟩) ⟨preW_blind, va_recv hK hP (ci := 4) (q0 := 4) rfl rfl, preW_ok hP hD hK⟩ rfl rfl hl.1 rfl (lv_room (Nat.le_of_ble_eq_true rfl)) d_Ho_isLive_34 ⟨Nat.zero_le _, Nat.zero_le _⟩) hP hD hS hA (fun H locs hP hD hS => ?_)
      refine lv_iconst (v := 0) hx hb d_Ho_isLive_37 (by decide) ?_
      have hE : res = (false, f_Rp_note x2 q a u) := (by subst ex2; exact hq.trans ((if_neg c1).trans rfl))
      exact retWb (x := false) hx hb hr hP hK hD hS (congrArg Prod.fst hE).symm (congrArg Prod.snd hE).symm d_Ho_isLive_38 hlocks
    refine rn_ne (tgt := 30) hx hb (by omega) (by omega) d_Ho_isLive_22 (by decide) (fun c3 => ?_) (fun c3 => ?_)
    · skip
      refine lv_bipush (v := 7) hx hb d_Ho_isLive_30 (by decide) ?_
      exact J32 7 _ _ (Eq.symm ((if_neg c3).trans (rfl))) hP hD hS
    · skip
      refine lv_bipush (v := 6) hx hb d_Ho_isLive_25 (by decide) ?_
      refine lv_goto (tgt := 32) hx hb d_Ho_isLive_27 (by decide) ?_
      exact J32 6 _ _ (Eq.symm ((if_pos c3).trans (rfl))) hP hD hS
  · skip
    refine lv_iconst (v := 1) hx hb d_Ho_isLive_16 (by decide) ?_
    have hE : res = (true, u) := hq.trans ((if_pos c1).trans rfl)
    exact retWb (x := true) hx hb hr hP hK hD hS (congrArg Prod.fst hE).symm (congrArg Prod.snd hE).symm d_Ho_isLive_17 hlocks
theorem il_1 {a q : Int32} {u : S5} (h : (f_Ho_isLive a q u).1 = true) : f_He_stateAt a u = 1 ∧ f_Ho_isLive a q u = (true, u) := by
  unfold f_Ho_isLive at h ⊢
  by_cases h1 : f_He_stateAt a u = 1
  · rw [if_pos h1]; exact ⟨h1, rfl⟩
  · rw [if_neg h1] at h; exact absurd h Bool.false_ne_true
def w_Ho_remake : List Cond := .code y_Ho_remake b_Ho_remake 7 (some .int) :: ALLW
def rm_Ho_remake : Room := { frames := 23, cells := 0, slots := 0, locals := 672 }
theorem d_Ho_remake_0 : decode b_Ho_remake 0 = .ok (.iload_n 1, 1) := by decide +kernel
theorem d_Ho_remake_1 : decode b_Ho_remake 1 = .ok (.ifCond .eq 16, 3) := by decide +kernel
theorem d_Ho_remake_4 : decode b_Ho_remake 4 = .ok (.aload_n 0, 1) := by decide +kernel
theorem d_Ho_remake_5 : decode b_Ho_remake 5 = .ok (.iload_n 1, 1) := by decide +kernel
theorem d_Ho_remake_6 : decode b_Ho_remake 6 = .ok (.iload_n 3, 1) := by decide +kernel
theorem d_Ho_remake_7 : decode b_Ho_remake 7 = .ok (.aload 5, 2) := by decide +kernel
theorem d_Ho_remake_9 : decode b_Ho_remake 9 = .ok (.invokevirtual 46, 3) := by decide +kernel
theorem d_Ho_remake_12 : decode b_Ho_remake 12 = .ok (.ifCond .ne 5, 3) := by decide +kernel
theorem d_Ho_remake_15 : decode b_Ho_remake 15 = .ok (.iconst 0, 1) := by decide +kernel
theorem d_Ho_remake_16 : decode b_Ho_remake 16 = .ok (.ireturn, 1) := by decide +kernel
theorem d_Ho_remake_17 : decode b_Ho_remake 17 = .ok (.aload_n 0, 1) := by decide +kernel
theorem d_Ho_remake_18 : decode b_Ho_remake 18 = .ok (.getfield 12, 3) := by decide +kernel
theorem d_Ho_remake_21 : decode b_Ho_remake 21 = .ok (.iload_n 2, 1) := by decide +kernel
theorem d_Ho_remake_22 : decode b_Ho_remake 22 = .ok (.invokevirtual 76, 3) := by decide +kernel
theorem d_Ho_remake_25 : decode b_Ho_remake 25 = .ok (.istore 6, 2) := by decide +kernel
theorem d_Ho_remake_27 : decode b_Ho_remake 27 = .ok (.iload 6, 2) := by decide +kernel
theorem d_Ho_remake_29 : decode b_Ho_remake 29 = .ok (.ifCond .ne 5, 3) := by decide +kernel
theorem d_Ho_remake_32 : decode b_Ho_remake 32 = .ok (.iconst 0, 1) := by decide +kernel
theorem d_Ho_remake_33 : decode b_Ho_remake 33 = .ok (.ireturn, 1) := by decide +kernel
theorem d_Ho_remake_34 : decode b_Ho_remake 34 = .ok (.aload 4, 2) := by decide +kernel
theorem d_Ho_remake_36 : decode b_Ho_remake 36 = .ok (.iload 6, 2) := by decide +kernel
theorem d_Ho_remake_38 : decode b_Ho_remake 38 = .ok (.iload_n 2, 1) := by decide +kernel
theorem d_Ho_remake_39 : decode b_Ho_remake 39 = .ok (.invokevirtual 79, 3) := by decide +kernel
theorem d_Ho_remake_42 : decode b_Ho_remake 42 = .ok (.iload_n 1, 1) := by decide +kernel
theorem d_Ho_remake_43 : decode b_Ho_remake 43 = .ok (.ifCond .eq 37, 3) := by decide +kernel
theorem d_Ho_remake_46 : decode b_Ho_remake 46 = .ok (.aload 4, 2) := by decide +kernel
theorem d_Ho_remake_48 : decode b_Ho_remake 48 = .ok (.iload_n 1, 1) := by decide +kernel
theorem d_Ho_remake_49 : decode b_Ho_remake 49 = .ok (.iload 6, 2) := by decide +kernel
theorem d_Ho_remake_51 : decode b_Ho_remake 51 = .ok (.iload_n 2, 1) := by decide +kernel
theorem d_Ho_remake_52 : decode b_Ho_remake 52 = .ok (.aload_n 0, 1) := by decide +kernel
theorem d_Ho_remake_53 : decode b_Ho_remake 53 = .ok (.getfield 12, 3) := by decide +kernel
theorem d_Ho_remake_56 : decode b_Ho_remake 56 = .ok (.iload_n 1, 1) := by decide +kernel
theorem d_Ho_remake_57 : decode b_Ho_remake 57 = .ok (.invokevirtual 82, 3) := by decide +kernel
theorem d_Ho_remake_60 : decode b_Ho_remake 60 = .ok (.invokestatic 85, 3) := by decide +kernel
theorem d_Ho_remake_63 : decode b_Ho_remake 63 = .ok (.invokevirtual 91, 3) := by decide +kernel
theorem d_Ho_remake_66 : decode b_Ho_remake 66 = .ok (.aload 4, 2) := by decide +kernel
theorem d_Ho_remake_68 : decode b_Ho_remake 68 = .ok (.iload_n 1, 1) := by decide +kernel
theorem d_Ho_remake_69 : decode b_Ho_remake 69 = .ok (.aload_n 0, 1) := by decide +kernel
theorem d_Ho_remake_70 : decode b_Ho_remake 70 = .ok (.getfield 12, 3) := by decide +kernel
theorem d_Ho_remake_73 : decode b_Ho_remake 73 = .ok (.iload_n 1, 1) := by decide +kernel
theorem d_Ho_remake_74 : decode b_Ho_remake 74 = .ok (.invokevirtual 50, 3) := by decide +kernel
theorem d_Ho_remake_77 : decode b_Ho_remake 77 = .ok (.invokevirtual 54, 3) := by decide +kernel
theorem d_Ho_remake_80 : decode b_Ho_remake 80 = .ok (.iload 6, 2) := by decide +kernel
theorem d_Ho_remake_82 : decode b_Ho_remake 82 = .ok (.ireturn, 1) := by decide +kernel
def f_Ho_remake_17 (old : Int32) (n : Int32) (q : Int32) (u : S5) (u1 : S5) : Nat × S5 := if ((f_He_take n u1).1) = 0 then (0, (f_He_take n u1).2) else if old = 0 then ((f_He_take n u1).1, f_Me_handOut ((f_He_take n u1).1) n.toNatClampNeg ((f_He_take n u1).2)) else ((f_He_take n u1).1, f_Me_shut old.toNatClampNeg ((f_He_keep old (f_Me_move old.toNatClampNeg ((f_He_take n u1).1) (if f_He_sizeAt old (f_Me_handOut ((f_He_take n u1).1) n.toNatClampNeg ((f_He_take n u1).2)) < n.toNatClampNeg then f_He_sizeAt old (f_Me_handOut ((f_He_take n u1).1) n.toNatClampNeg ((f_He_take n u1).2)) else n.toNatClampNeg) (f_Me_handOut ((f_He_take n u1).1) n.toNatClampNeg ((f_He_take n u1).2)))).1) ((f_He_keep old (f_Me_move old.toNatClampNeg ((f_He_take n u1).1) (if f_He_sizeAt old (f_Me_handOut ((f_He_take n u1).1) n.toNatClampNeg ((f_He_take n u1).2)) < n.toNatClampNeg then f_He_sizeAt old (f_Me_handOut ((f_He_take n u1).1) n.toNatClampNeg ((f_He_take n u1).2)) else n.toNatClampNeg) (f_Me_handOut ((f_He_take n u1).1) n.toNatClampNeg ((f_He_take n u1).2)))).2))
def f_Ho_remake (old : Int32) (n : Int32) (q : Int32) (u : S5) : Nat × S5 := if old = 0 then f_Ho_remake_17 old n q u u else if ((f_Ho_isLive old q u).1) = true then f_Ho_remake_17 old n q u ((f_Ho_isLive old q u).2) else (0, (f_Ho_isLive old q u).2)
set_option maxHeartbeats 8000000 in
set_option maxRecDepth 100000 in
theorem c_Ho_remake (l : Launch) (dC : Nat → ClassId) (dI : Nat → Nat → Nat) (cI : ClassId) (ad : Nat → Nat) (u : S5) (old : Int32) (n : Int32) (q : Int32) (ok : OkR u) (okh : OkH u) (sz : Nat) : Met l y_Ho_remake w_Ho_remake rm_Ho_remake (PreW (dC, dI) classes [(cI, .int)] (wC cI ad) u sz [.ref (ad 5), .int old, .int n, .int q, .ref (ad 2), .ref (ad 4)]) (QWi (dC, dI) classes [(cI, .int)] (wC cI ad) (va_A (wC cI ad u) sz) (nI (f_Ho_remake old n q u).1) (f_Ho_remake old n q u).2) 0 0 (va_A (wC cI ad u) sz) := by
  generalize hres : f_Ho_remake old n q u = res
  refine Met.ofW (cc := b_Ho_remake) (maxL := 7) (ret := (some .int)) (by decide) rfl ?_
  intro p e s m args below meth c s₁ B hml hv
  obtain ⟨rfl, rfl, hP, hK, hD0⟩ := hv
  have hx := B.exec
  have hb := B.bytes
  have hr := B.returns
  have hts : ∀ w9 ∈ ALLW, w9.before ([.ref (ad 5), .int old, .int n, .int q, .ref (ad 2), .ref (ad 4)] : List Value).toArray s = true := fun w9 h => atoms_spec (ws := w_Ho_remake) B.pre w9 (List.mem_cons_of_mem _ h)
  have hown : s.vm.findClass R_Ho = some m.cls := findClass_of_methodNamed B.named
  have hlocks := B.notSynchronized
  have hD := hD0.self (sz := s.heap.size)
  generalize hAe : va_A (wC cI ad u) s.heap.size = A at hD ⊢
  have hA : ∀ q : Nat, s.heap.size ≤ q → A q := fun q h => by rw [← hAe]; exact Or.inr h
  have hS : va_S A s.heap s.heap [] := va_S.rf
  have hl := lv_entry ([.ref (ad 5), .int old, .int n, .int q, .ref (ad 2), .ref (ad 4)]) (n := 7) (Nat.le_of_ble_eq_true rfl)
  rw [lg_entry_eq]
  generalize (lg_sl ([.ref (ad 5), .int old, .int n, .int q, .ref (ad 2), .ref (ad 4)]) ++ List.replicate (7 - (lg_sl ([.ref (ad 5), .int old, .int n, .int q, .ref (ad 2), .ref (ad 4)])).length) Slot.unset).toArray = ls at hl ⊢
  have hl : lv_has ls 7 [(0, .ref (ad 5)), (1, .int old), (2, .int n), (3, .int q), (4, .ref (ad 2)), (5, .ref (ad 4))] := hl
  have hq := hres.symm
  skip
  obtain ⟨ok0, ok1, ok2⟩ := id ok
  have hT := okh.2.2.2.1
  refine lv_iload_n hx hb d_Ho_remake_0 rfl (lv_at hl 1 rfl) ?_
  have J17 : ∀ (u1 : S5) (H : Heap) (locs : List Loc) (ls : Array Slot), res = f_Ho_remake_17 old n q u u1 → (OkR u1) → (OkH u1) → (old = 0 ∨ f_He_stateAt old u1 = 1) → va_P (dC, dI) classes (wC cI ad u1) H → va_D A (wC cI ad u1) → va_S A s.heap H locs → lv_has ls 7 [(0, .ref (ad 5)), (1, .int old), (2, .int n), (3, .int q), (4, .ref (ad 2)), (5, .ref (ad 4))] → W p l e (headSpec w_Ho_remake rm_Ho_remake).room s m ([.ref (ad 5), .int old, .int n, .int q, .ref (ad 2), .ref (ad 4)] : List Value).toArray below meth c H locs 0 0 (MQ below (QWi (dC, dI) classes [(cI, .int)] (wC cI ad) A (nI res.1) res.2) ([.ref (ad 5), .int old, .int n, .int q, .ref (ad 2), .ref (ad 4)] : List Value).toArray s 0 0 A) (F0 m 17 ls []) := by
    intro u1 H locs ls hq okr1 okh1 hlv hP hD hS hl
    obtain ⟨k6, k7, kO, kT, kL, kS⟩ := id okh1
    have htk := tk_le n u1
    refine lv_aload_n hx hb d_Ho_remake_17 rfl (lv_at hl 0 rfl) ?_
    refine va_get (D := (dC, dI)) (ci := 5) (v := .ref (ad 6)) (C := R_Ho) (T := F_Ho) (N := 2) hx hb hts in_Ho hown hK hP 5 rfl rfl 0 (by decide) (hts _ m_4_4) (fun _ h9 => h9) rfl d_Ho_remake_18 ?_
    refine lv_iload_n hx hb d_Ho_remake_21 rfl (lv_at hl 2 rfl) ?_
    refine callWi (va_runV (As := [.int n]) (rest := []) ⟨hx, hb, hml, hown, hts⟩ (c_He_take l dC dI cI ad u1 n (by first | assumption | omega) H.size) (cwV 1 hts (goodV m_11_23 m_11_24 m_11_25 m_0_10 m_11_26) rfl rfl rfl (by decide +kernel) ⟨Nat.le_of_ble_eq_true rfl, Nat.le_of_ble_eq_true rfl⟩) ⟨preW_blind, va_recv hK hP (ci := 6) (q0 := 6) rfl rfl, preW_ok hP hD hK⟩ rfl rfl hl.1 rfl (lv_room (Nat.le_of_ble_eq_true rfl)) d_Ho_remake_22 ⟨Nat.zero_le _, Nat.zero_le _⟩) hP hD hS hA (fun H locs hP hD hS => ?_)
    refine lv_istore (lv' := [(6, .int (nI ((f_He_take n u1).1))), (0, .ref (ad 5)), (1, .int old), (2, .int n), (3, .int q), (4, .ref (ad 2)), (5, .ref (ad 4))]) hx hb d_Ho_remake_25 hl (by decide) rfl (fun ls hl => ?_)
    refine lv_iload hx hb d_Ho_remake_27 (lv_at hl 0 rfl) ?_
    refine rz_ne (tgt := 34) hx hb (by omega) d_Ho_remake_29 (by decide) (fun c1 => ?_) (fun c1 => ?_)
    · skip
      obtain ⟨t1, t2, t3, t4⟩ := tk_in (n := n) (u := u1) (by assumption)
      refine lv_aload hx hb d_Ho_remake_34 (lv_at hl 5 rfl) ?_
      refine lv_iload hx hb d_Ho_remake_36 (lv_at hl 0 rfl) ?_
      refine lv_iload_n hx hb d_Ho_remake_38 rfl (lv_at hl 3 rfl) ?_
      refine rw_top (y := nI n.toNatClampNeg) (hp_n t1) ?_
      refine callWv (va_runV (As := [.int (nI ((f_He_take n u1).1)), .int (nI n.toNatClampNeg)]) (rest := []) ⟨hx, hb, hml, hown, hts⟩ (c_Me_handOut l dC dI cI ad ((f_He_take n u1).2) ((f_He_take n u1).1) n.toNatClampNeg (by first | assumption | omega) H.size) (cwV 2 hts (goodV m_11_31 m_11_32 m_11_33 m_0_3 m_11_34) rfl rfl rfl (by decide +kernel) ⟨Nat.le_of_ble_eq_true rfl, Nat.le_of_ble_eq_true rfl⟩) ⟨preW_blind, va_recv hK hP (ci := 2) (q0 := 2) rfl rfl, preW_ok hP hD hK⟩ rfl rfl hl.1 rfl (lv_room (Nat.le_of_ble_eq_true rfl)) d_Ho_remake_39 ⟨Nat.zero_le _, Nat.zero_le _⟩) hP hD hS hA (fun H locs hP hD hS => ?_)
      refine lv_iload_n hx hb d_Ho_remake_42 rfl (lv_at hl 2 rfl) ?_
      refine lv_if_eq (tgt := 80) hx hb d_Ho_remake_43 (by decide) (fun c2 => ?_) (fun c2 => ?_)
      · skip
        refine lv_iload hx hb d_Ho_remake_80 (lv_at hl 0 rfl) ?_
        have hE : res = ((f_He_take n u1).1, f_Me_handOut ((f_He_take n u1).1) n.toNatClampNeg ((f_He_take n u1).2)) := hq.trans ((if_neg c1).trans ((if_pos c2).trans rfl))
        exact retWn (x := (f_He_take n u1).1) hx hb hr hP hK hD hS (congrArg Prod.fst hE).symm (congrArg Prod.snd hE).symm d_Ho_remake_82 hlocks
      · skip
        have hst := hlv.resolve_left (by assumption)
        obtain ⟨i1, i2, i3, i4⟩ := st_in (a := old) (u := u1) (by omega)
        have hue := hu_e i1 i2 i4
        have hub := hp_b i1 i2
        have hv := OkH.fr (tk_ok (n := n) okh1) (mo_fr ((f_He_take n u1).1) (n.toNatClampNeg) ((f_He_take n u1).2)) (by decide)
        have hsa := sa_le (a := old) hv.2.2.2.2.2 i1 i2
        have hw := OkH.fr hv (mm_fr (old.toNatClampNeg) ((f_He_take n u1).1) (if f_He_sizeAt old (f_Me_handOut ((f_He_take n u1).1) (n.toNatClampNeg) ((f_He_take n u1).2)) < n.toNatClampNeg then f_He_sizeAt old (f_Me_handOut ((f_He_take n u1).1) (n.toNatClampNeg) ((f_He_take n u1).2)) else n.toNatClampNeg) (f_Me_handOut ((f_He_take n u1).1) (n.toNatClampNeg) ((f_He_take n u1).2))) (by decide)
        have hkp := kp_le (a := old) hw.2.2.2.2.2 i1 i2
        refine lv_aload hx hb d_Ho_remake_46 (lv_at hl 5 rfl) ?_
        refine lv_iload_n hx hb d_Ho_remake_48 rfl (lv_at hl 2 rfl) ?_
        refine rw_top (y := nI old.toNatClampNeg) (hp_n (hp_ge i1)) ?_
        refine lv_iload hx hb d_Ho_remake_49 (lv_at hl 0 rfl) ?_
        refine lv_iload_n hx hb d_Ho_remake_51 rfl (lv_at hl 3 rfl) ?_
        refine rw_top (y := nI n.toNatClampNeg) (hp_n t1) ?_
        refine lv_aload_n hx hb d_Ho_remake_52 rfl (lv_at hl 1 rfl) ?_
        refine va_get (D := (dC, dI)) (ci := 5) (v := .ref (ad 6)) (C := R_Ho) (T := F_Ho) (N := 2) hx hb hts in_Ho hown hK hP 5 rfl rfl 0 (by decide) (hts _ m_4_4) (fun _ h9 => h9) rfl d_Ho_remake_53 ?_
        refine lv_iload_n hx hb d_Ho_remake_56 rfl (lv_at hl 2 rfl) ?_
        refine callWi (va_runV (As := [.int old]) (rest := [.int (nI n.toNatClampNeg), .int (nI ((f_He_take n u1).1)), .int (nI old.toNatClampNeg), .ref (ad 2)]) ⟨hx, hb, hml, hown, hts⟩ (c_He_sizeAt l dC dI cI ad (f_Me_handOut ((f_He_take n u1).1) n.toNatClampNeg ((f_He_take n u1).2)) old hv.2.2.2.1 H.size) (cwV 1 hts (goodV m_10_35 m_10_36 m_10_37 m_0_10 m_10_38) rfl rfl rfl (by decide +kernel) ⟨Nat.le_of_ble_eq_true rfl, Nat.le_of_ble_eq_true rfl⟩) ⟨preW_blind, va_recv hK hP (ci := 6) (q0 := 6) rfl rfl, preW_ok hP hD hK⟩ rfl rfl hl.1 rfl (lv_room (Nat.le_of_ble_eq_true rfl)) d_Ho_remake_57 ⟨Nat.zero_le _, Nat.zero_le _⟩) hP hD hS hA (fun H locs hP hD hS => ?_)
        refine va_mmin hx hb (hml.trans hl.1.symm) hown (hts _ m_11_35) (hts _ m_1_14) (hts _ m_0_6) (hts _ m_1_15) (Nat.le_of_ble_eq_true rfl) (Nat.le_of_ble_eq_true rfl) (Nat.zero_le _) (Nat.zero_le _) d_Ho_remake_60 ?_
        refine rw_top (y := nI (if f_He_sizeAt old (f_Me_handOut ((f_He_take n u1).1) n.toNatClampNeg ((f_He_take n u1).2)) < n.toNatClampNeg then f_He_sizeAt old (f_Me_handOut ((f_He_take n u1).1) n.toNatClampNeg ((f_He_take n u1).2)) else n.toNatClampNeg)) (mn_nat (by omega) (by omega)) ?_
        have hmn : (if f_He_sizeAt old (f_Me_handOut ((f_He_take n u1).1) (n.toNatClampNeg) ((f_He_take n u1).2)) < n.toNatClampNeg then f_He_sizeAt old (f_Me_handOut ((f_He_take n u1).1) (n.toNatClampNeg) ((f_He_take n u1).2)) else n.toNatClampNeg) ≤ f_He_sizeAt old (f_Me_handOut ((f_He_take n u1).1) (n.toNatClampNeg) ((f_He_take n u1).2)) ∧ (if f_He_sizeAt old (f_Me_handOut ((f_He_take n u1).1) (n.toNatClampNeg) ((f_He_take n u1).2)) < n.toNatClampNeg then f_He_sizeAt old (f_Me_handOut ((f_He_take n u1).1) (n.toNatClampNeg) ((f_He_take n u1).2)) else n.toNatClampNeg) ≤ n.toNatClampNeg := by split <;> omega
        refine callWv (va_runV (As := [.int (nI old.toNatClampNeg), .int (nI ((f_He_take n u1).1)), .int (nI (if f_He_sizeAt old (f_Me_handOut ((f_He_take n u1).1) n.toNatClampNeg ((f_He_take n u1).2)) < n.toNatClampNeg then f_He_sizeAt old (f_Me_handOut ((f_He_take n u1).1) n.toNatClampNeg ((f_He_take n u1).2)) else n.toNatClampNeg))]) (rest := []) ⟨hx, hb, hml, hown, hts⟩ (c_Me_move l dC dI cI ad (f_Me_handOut ((f_He_take n u1).1) n.toNatClampNeg ((f_He_take n u1).2)) old.toNatClampNeg ((f_He_take n u1).1) (if f_He_sizeAt old (f_Me_handOut ((f_He_take n u1).1) n.toNatClampNeg ((f_He_take n u1).2)) < n.toNatClampNeg then f_He_sizeAt old (f_Me_handOut ((f_He_take n u1).1) n.toNatClampNeg ((f_He_take n u1).2)) else n.toNatClampNeg) (by first | assumption | omega) (by first | assumption | omega) H.size) (cwV 3 hts (goodV m_11_36 m_11_37 m_11_38 m_0_3 m_11_39) rfl rfl rfl (by decide +kernel) ⟨Nat.le_of_ble_eq_true rfl, Nat.le_of_ble_eq_true rfl⟩) ⟨preW_blind, va_recv hK hP (ci := 2) (q0 := 2) rfl rfl, preW_ok hP hD hK⟩ rfl rfl hl.1 rfl (lv_room (Nat.le_of_ble_eq_true rfl)) d_Ho_remake_63 ⟨Nat.zero_le _, Nat.zero_le _⟩) hP hD hS hA (fun H locs hP hD hS => ?_)
        refine lv_aload hx hb d_Ho_remake_66 (lv_at hl 5 rfl) ?_
        refine lv_iload_n hx hb d_Ho_remake_68 rfl (lv_at hl 2 rfl) ?_
        refine rw_top (y := nI old.toNatClampNeg) (hp_n (hp_ge i1)) ?_
        refine lv_aload_n hx hb d_Ho_remake_69 rfl (lv_at hl 1 rfl) ?_
        refine va_get (D := (dC, dI)) (ci := 5) (v := .ref (ad 6)) (C := R_Ho) (T := F_Ho) (N := 2) hx hb hts in_Ho hown hK hP 5 rfl rfl 0 (by decide) (hts _ m_4_4) (fun _ h9 => h9) rfl d_Ho_remake_70 ?_
        refine lv_iload_n hx hb d_Ho_remake_73 rfl (lv_at hl 2 rfl) ?_
        refine callWi (va_runV (As := [.int old]) (rest := [.int (nI old.toNatClampNeg), .ref (ad 2)]) ⟨hx, hb, hml, hown, hts⟩ (c_He_keep l dC dI cI ad (f_Me_move old.toNatClampNeg ((f_He_take n u1).1) (if f_He_sizeAt old (f_Me_handOut ((f_He_take n u1).1) n.toNatClampNeg ((f_He_take n u1).2)) < n.toNatClampNeg then f_He_sizeAt old (f_Me_handOut ((f_He_take n u1).1) n.toNatClampNeg ((f_He_take n u1).2)) else n.toNatClampNeg) (f_Me_handOut ((f_He_take n u1).1) n.toNatClampNeg ((f_He_take n u1).2))) old hw.1 hw.2.1 hw.2.2.1 hw.2.2.2.1 hw.2.2.2.2.1 H.size) (cwV 1 hts (goodV m_12_0 m_12_1 m_12_2 m_0_10 m_12_3) rfl rfl rfl (by decide +kernel) ⟨Nat.le_of_ble_eq_true rfl, Nat.le_of_ble_eq_true rfl⟩) ⟨preW_blind, va_recv hK hP (ci := 6) (q0 := 6) rfl rfl, preW_ok hP hD hK⟩ rfl rfl hl.1 rfl (lv_room (Nat.le_of_ble_eq_true rfl)) d_Ho_remake_74 ⟨Nat.zero_le _, Nat.zero_le _⟩) hP hD hS hA (fun H locs hP hD hS => ?_)
        refine callWv (va_runV (As := [.int (nI old.toNatClampNeg), .int (nI ((f_He_keep old (f_Me_move old.toNatClampNeg ((f_He_take n u1).1) (if f_He_sizeAt old (f_Me_handOut ((f_He_take n u1).1) n.toNatClampNeg ((f_He_take n u1).2)) < n.toNatClampNeg then f_He_sizeAt old (f_Me_handOut ((f_He_take n u1).1) n.toNatClampNeg ((f_He_take n u1).2)) else n.toNatClampNeg) (f_Me_handOut ((f_He_take n u1).1) n.toNatClampNeg ((f_He_take n u1).2)))).1))]) (rest := []) ⟨hx, hb, hml, hown, hts⟩ (c_Me_shut l dC dI cI ad ((f_He_keep old (f_Me_move old.toNatClampNeg ((f_He_take n u1).1) (if f_He_sizeAt old (f_Me_handOut ((f_He_take n u1).1) n.toNatClampNeg ((f_He_take n u1).2)) < n.toNatClampNeg then f_He_sizeAt old (f_Me_handOut ((f_He_take n u1).1) n.toNatClampNeg ((f_He_take n u1).2)) else n.toNatClampNeg) (f_Me_handOut ((f_He_take n u1).1) n.toNatClampNeg ((f_He_take n u1).2)))).2) old.toNatClampNeg ((f_He_keep old (f_Me_move old.toNatClampNeg ((f_He_take n u1).1) (if f_He_sizeAt old (f_Me_handOut ((f_He_take n u1).1) n.toNatClampNeg ((f_He_take n u1).2)) < n.toNatClampNeg then f_He_sizeAt old (f_Me_handOut ((f_He_take n u1).1) n.toNatClampNeg ((f_He_take n u1).2)) else n.toNatClampNeg) (f_Me_handOut ((f_He_take n u1).1) n.toNatClampNeg ((f_He_take n u1).2)))).1) (by first | assumption | omega) H.size) (cwV 2 hts (goodV m_12_7 m_12_8 m_12_9 m_0_3 m_12_10) rfl rfl rfl (by decide +kernel) ⟨Nat.le_of_ble_eq_true rfl, Nat.le_of_ble_eq_true rfl⟩) ⟨preW_blind, va_recv hK hP (ci := 2) (q0 := 2) rfl rfl, preW_ok hP hD hK⟩ rfl rfl hl.1 rfl (lv_room (Nat.le_of_ble_eq_true rfl)) d_Ho_remake_77 ⟨Nat.zero_le _, Nat.zero_le _⟩) hP hD hS hA (fun H locs hP hD hS => ?_)
        refine lv_iload hx hb d_Ho_remake_80 (lv_at hl 0 rfl) ?_
        have hE : res = ((f_He_take n u1).1, f_Me_shut old.toNatClampNeg ((f_He_keep old (f_Me_move old.toNatClampNeg ((f_He_take n u1).1) (if f_He_sizeAt old (f_Me_handOut ((f_He_take n u1).1) n.toNatClampNeg ((f_He_take n u1).2)) < n.toNatClampNeg then f_He_sizeAt old (f_Me_handOut ((f_He_take n u1).1) n.toNatClampNeg ((f_He_take n u1).2)) else n.toNatClampNeg) (f_Me_handOut ((f_He_take n u1).1) n.toNatClampNeg ((f_He_take n u1).2)))).1) ((f_He_keep old (f_Me_move old.toNatClampNeg ((f_He_take n u1).1) (if f_He_sizeAt old (f_Me_handOut ((f_He_take n u1).1) n.toNatClampNeg ((f_He_take n u1).2)) < n.toNatClampNeg then f_He_sizeAt old (f_Me_handOut ((f_He_take n u1).1) n.toNatClampNeg ((f_He_take n u1).2)) else n.toNatClampNeg) (f_Me_handOut ((f_He_take n u1).1) n.toNatClampNeg ((f_He_take n u1).2)))).2)) := hq.trans ((if_neg c1).trans ((if_neg c2).trans rfl))
        exact retWn (x := (f_He_take n u1).1) hx hb hr hP hK hD hS (congrArg Prod.fst hE).symm (congrArg Prod.snd hE).symm d_Ho_remake_82 hlocks
    · skip
      refine lv_iconst (v := nI 0) hx hb d_Ho_remake_32 (by decide) ?_
      have hE : res = (0, (f_He_take n u1).2) := hq.trans ((if_pos c1).trans rfl)
      exact retWn (x := 0) hx hb hr hP hK hD hS (congrArg Prod.fst hE).symm (congrArg Prod.snd hE).symm d_Ho_remake_33 hlocks
  refine lv_if_eq (tgt := 17) hx hb d_Ho_remake_1 (by decide) (fun c3 => ?_) (fun c3 => ?_)
  · skip
    exact J17 u _ _ _ (hq.trans ((if_pos c3).trans rfl)) (by first | assumption | (rw [(il_1 (by assumption)).2]; assumption)) (by first | assumption | (rw [(il_1 (by assumption)).2]; assumption)) (by first | exact Or.inl (by assumption) | (rw [(il_1 (by assumption)).2]; exact Or.inr (il_1 (by assumption)).1)) hP hD hS (lv_sub hl [0, 1, 2, 3, 4, 5] rfl)
  · skip
    refine lv_aload_n hx hb d_Ho_remake_4 rfl (lv_at hl 0 rfl) ?_
    refine lv_iload_n hx hb d_Ho_remake_5 rfl (lv_at hl 1 rfl) ?_
    refine lv_iload_n hx hb d_Ho_remake_6 rfl (lv_at hl 3 rfl) ?_
    refine lv_aload hx hb d_Ho_remake_7 (lv_at hl 5 rfl) ?_
    refine callWi (va_runV (As := [.int old, .int q, .ref (ad 4)]) (rest := []) ⟨hx, hb, hml, hown, hts⟩ (c_Ho_isLive l dC dI cI ad u old q (by first | assumption | omega) (by first | assumption | omega) s.heap.size) (cwV 3 hts (goodV m_11_18 m_11_19 m_19_12 m_0_9 m_11_20) rfl rfl rfl (by decide +kernel) ⟨Nat.le_of_ble_eq_true rfl, Nat.le_of_ble_eq_true rfl⟩) ⟨preW_blind, va_recv hK hP (ci := 5) (q0 := 5) rfl rfl, preW_ok hP hD hK⟩ rfl rfl hl.1 rfl (lv_room (Nat.le_of_ble_eq_true rfl)) d_Ho_remake_9 ⟨Nat.zero_le _, Nat.zero_le _⟩) hP hD hS hA (fun H locs hP hD hS => ?_)
    refine rb_ne (tgt := 17) hx hb d_Ho_remake_12 (by decide) (fun c4 => ?_) (fun c4 => ?_)
    · skip
      exact J17 ((f_Ho_isLive old q u).2) _ _ _ (hq.trans ((if_neg c3).trans ((if_pos c4).trans rfl))) (by first | assumption | (rw [(il_1 (by assumption)).2]; assumption)) (by first | assumption | (rw [(il_1 (by assumption)).2]; assumption)) (by first | exact Or.inl (by assumption) | (rw [(il_1 (by assumption)).2]; exact Or.inr (il_1 (by assumption)).1)) hP hD hS (lv_sub hl [0, 1, 2, 3, 4, 5] rfl)
    · skip
      refine lv_iconst (v := nI 0) hx hb d_Ho_remake_15 (by decide) ?_
      have hE : res = (0, (f_Ho_isLive old q u).2) := hq.trans ((if_neg c3).trans ((if_neg c4).trans rfl))
      exact retWn (x := 0) hx hb hr hP hK hD hS (congrArg Prod.fst hE).symm (congrArg Prod.snd hE).symm d_Ho_remake_16 hlocks
def w_Ho_serve : List Cond := .code y_Ho_serve b_Ho_serve 6 none :: ALLW
def rm_Ho_serve : Room := { frames := 24, cells := 0, slots := 0, locals := 698 }
theorem d_Ho_serve_0 : decode b_Ho_serve 0 = .ok (.aload_n 2, 1) := by decide +kernel
theorem d_Ho_serve_1 : decode b_Ho_serve 1 = .ok (.getfield 35, 3) := by decide +kernel
theorem d_Ho_serve_4 : decode b_Ho_serve 4 = .ok (.bipush 10, 2) := by decide +kernel
theorem d_Ho_serve_6 : decode b_Ho_serve 6 = .ok (.iaload, 1) := by decide +kernel
theorem d_Ho_serve_7 : decode b_Ho_serve 7 = .ok (.istore 5, 2) := by decide +kernel
theorem d_Ho_serve_9 : decode b_Ho_serve 9 = .ok (.aload_n 2, 1) := by decide +kernel
theorem d_Ho_serve_10 : decode b_Ho_serve 10 = .ok (.getfield 35, 3) := by decide +kernel
theorem d_Ho_serve_13 : decode b_Ho_serve 13 = .ok (.bipush 17, 2) := by decide +kernel
theorem d_Ho_serve_15 : decode b_Ho_serve 15 = .ok (.iaload, 1) := by decide +kernel
theorem d_Ho_serve_16 : decode b_Ho_serve 16 = .ok (.tableswitch 152 2 6 #[36, 57, 92, 119, 135], 36) := by decide +kernel
theorem d_Ho_serve_52 : decode b_Ho_serve 52 = .ok (.aload_n 2, 1) := by decide +kernel
theorem d_Ho_serve_53 : decode b_Ho_serve 53 = .ok (.bipush 10, 2) := by decide +kernel
theorem d_Ho_serve_55 : decode b_Ho_serve 55 = .ok (.aload_n 0, 1) := by decide +kernel
theorem d_Ho_serve_56 : decode b_Ho_serve 56 = .ok (.iconst 0, 1) := by decide +kernel
theorem d_Ho_serve_57 : decode b_Ho_serve 57 = .ok (.iload 5, 2) := by decide +kernel
theorem d_Ho_serve_59 : decode b_Ho_serve 59 = .ok (.iload_n 1, 1) := by decide +kernel
theorem d_Ho_serve_60 : decode b_Ho_serve 60 = .ok (.aload_n 3, 1) := by decide +kernel
theorem d_Ho_serve_61 : decode b_Ho_serve 61 = .ok (.aload 4, 2) := by decide +kernel
theorem d_Ho_serve_63 : decode b_Ho_serve 63 = .ok (.invokevirtual 38, 3) := by decide +kernel
theorem d_Ho_serve_66 : decode b_Ho_serve 66 = .ok (.iconst 0, 1) := by decide +kernel
theorem d_Ho_serve_67 : decode b_Ho_serve 67 = .ok (.invokevirtual 42, 3) := by decide +kernel
theorem d_Ho_serve_70 : decode b_Ho_serve 70 = .ok (.goto 106, 3) := by decide +kernel
theorem d_Ho_serve_73 : decode b_Ho_serve 73 = .ok (.iload 5, 2) := by decide +kernel
theorem d_Ho_serve_75 : decode b_Ho_serve 75 = .ok (.ifCond .eq 101, 3) := by decide +kernel
theorem d_Ho_serve_78 : decode b_Ho_serve 78 = .ok (.aload_n 0, 1) := by decide +kernel
theorem d_Ho_serve_79 : decode b_Ho_serve 79 = .ok (.iload 5, 2) := by decide +kernel
theorem d_Ho_serve_81 : decode b_Ho_serve 81 = .ok (.iload_n 1, 1) := by decide +kernel
theorem d_Ho_serve_82 : decode b_Ho_serve 82 = .ok (.aload 4, 2) := by decide +kernel
theorem d_Ho_serve_84 : decode b_Ho_serve 84 = .ok (.invokevirtual 46, 3) := by decide +kernel
theorem d_Ho_serve_87 : decode b_Ho_serve 87 = .ok (.ifCond .eq 89, 3) := by decide +kernel
theorem d_Ho_serve_90 : decode b_Ho_serve 90 = .ok (.aload_n 3, 1) := by decide +kernel
theorem d_Ho_serve_91 : decode b_Ho_serve 91 = .ok (.iload 5, 2) := by decide +kernel
theorem d_Ho_serve_93 : decode b_Ho_serve 93 = .ok (.aload_n 0, 1) := by decide +kernel
theorem d_Ho_serve_94 : decode b_Ho_serve 94 = .ok (.getfield 12, 3) := by decide +kernel
theorem d_Ho_serve_97 : decode b_Ho_serve 97 = .ok (.iload 5, 2) := by decide +kernel
theorem d_Ho_serve_99 : decode b_Ho_serve 99 = .ok (.invokevirtual 50, 3) := by decide +kernel
theorem d_Ho_serve_102 : decode b_Ho_serve 102 = .ok (.invokevirtual 54, 3) := by decide +kernel
theorem d_Ho_serve_105 : decode b_Ho_serve 105 = .ok (.goto 71, 3) := by decide +kernel
theorem d_Ho_serve_108 : decode b_Ho_serve 108 = .ok (.aload_n 2, 1) := by decide +kernel
theorem d_Ho_serve_109 : decode b_Ho_serve 109 = .ok (.bipush 10, 2) := by decide +kernel
theorem d_Ho_serve_111 : decode b_Ho_serve 111 = .ok (.aload_n 0, 1) := by decide +kernel
theorem d_Ho_serve_112 : decode b_Ho_serve 112 = .ok (.iload 5, 2) := by decide +kernel
theorem d_Ho_serve_114 : decode b_Ho_serve 114 = .ok (.aload_n 2, 1) := by decide +kernel
theorem d_Ho_serve_115 : decode b_Ho_serve 115 = .ok (.getfield 35, 3) := by decide +kernel
theorem d_Ho_serve_118 : decode b_Ho_serve 118 = .ok (.bipush 11, 2) := by decide +kernel
theorem d_Ho_serve_120 : decode b_Ho_serve 120 = .ok (.iaload, 1) := by decide +kernel
theorem d_Ho_serve_121 : decode b_Ho_serve 121 = .ok (.iload_n 1, 1) := by decide +kernel
theorem d_Ho_serve_122 : decode b_Ho_serve 122 = .ok (.aload_n 3, 1) := by decide +kernel
theorem d_Ho_serve_123 : decode b_Ho_serve 123 = .ok (.aload 4, 2) := by decide +kernel
theorem d_Ho_serve_125 : decode b_Ho_serve 125 = .ok (.invokevirtual 38, 3) := by decide +kernel
theorem d_Ho_serve_128 : decode b_Ho_serve 128 = .ok (.iconst 0, 1) := by decide +kernel
theorem d_Ho_serve_129 : decode b_Ho_serve 129 = .ok (.invokevirtual 42, 3) := by decide +kernel
theorem d_Ho_serve_132 : decode b_Ho_serve 132 = .ok (.goto 44, 3) := by decide +kernel
theorem d_Ho_serve_135 : decode b_Ho_serve 135 = .ok (.aload_n 0, 1) := by decide +kernel
theorem d_Ho_serve_136 : decode b_Ho_serve 136 = .ok (.getfield 21, 3) := by decide +kernel
theorem d_Ho_serve_139 : decode b_Ho_serve 139 = .ok (.iload 5, 2) := by decide +kernel
theorem d_Ho_serve_141 : decode b_Ho_serve 141 = .ok (.sipush 255, 3) := by decide +kernel
theorem d_Ho_serve_144 : decode b_Ho_serve 144 = .ok (.iand, 1) := by decide +kernel
theorem d_Ho_serve_145 : decode b_Ho_serve 145 = .ok (.invokevirtual 60, 3) := by decide +kernel
theorem d_Ho_serve_148 : decode b_Ho_serve 148 = .ok (.goto 28, 3) := by decide +kernel
theorem d_Ho_serve_151 : decode b_Ho_serve 151 = .ok (.aload_n 2, 1) := by decide +kernel
theorem d_Ho_serve_152 : decode b_Ho_serve 152 = .ok (.bipush 10, 2) := by decide +kernel
theorem d_Ho_serve_154 : decode b_Ho_serve 154 = .ok (.aload_n 0, 1) := by decide +kernel
theorem d_Ho_serve_155 : decode b_Ho_serve 155 = .ok (.getfield 21, 3) := by decide +kernel
theorem d_Ho_serve_158 : decode b_Ho_serve 158 = .ok (.invokevirtual 64, 3) := by decide +kernel
theorem d_Ho_serve_161 : decode b_Ho_serve 161 = .ok (.iconst 0, 1) := by decide +kernel
theorem d_Ho_serve_162 : decode b_Ho_serve 162 = .ok (.invokevirtual 42, 3) := by decide +kernel
theorem d_Ho_serve_165 : decode b_Ho_serve 165 = .ok (.goto 11, 3) := by decide +kernel
theorem d_Ho_serve_168 : decode b_Ho_serve 168 = .ok (.aload_n 2, 1) := by decide +kernel
theorem d_Ho_serve_169 : decode b_Ho_serve 169 = .ok (.bipush 10, 2) := by decide +kernel
theorem d_Ho_serve_171 : decode b_Ho_serve 171 = .ok (.iconst (-1), 1) := by decide +kernel
theorem d_Ho_serve_172 : decode b_Ho_serve 172 = .ok (.iconst 0, 1) := by decide +kernel
theorem d_Ho_serve_173 : decode b_Ho_serve 173 = .ok (.invokevirtual 42, 3) := by decide +kernel
theorem d_Ho_serve_176 : decode b_Ho_serve 176 = .ok (.return_, 1) := by decide +kernel
def f_Ho_serve (q : Int32) (u : S5) : S5 := if (aI u 2 17) = 2 then f_Rg_put 10 (nI ((f_Ho_remake 0 (aI u 2 10) q u).1)) 0 ((f_Ho_remake 0 (aI u 2 10) q u).2) else if (aI u 2 17) = 3 then (if (aI u 2 10) = 0 then u else if ((f_Ho_isLive (aI u 2 10) q u).1) = true then f_Me_shut ((aI u 2 10).toNatClampNeg) ((f_He_keep (aI u 2 10) ((f_Ho_isLive (aI u 2 10) q u).2)).1) ((f_He_keep (aI u 2 10) ((f_Ho_isLive (aI u 2 10) q u).2)).2) else (f_Ho_isLive (aI u 2 10) q u).2) else if (aI u 2 17) = 4 then f_Rg_put 10 (nI ((f_Ho_remake (aI u 2 10) (aI u 2 11) q u).1)) 0 ((f_Ho_remake (aI u 2 10) (aI u 2 11) q u).2) else if (aI u 2 17) = 5 then f_Po_putOut ((aI u 2 10) &&& (255 : Int32)) u else if (aI u 2 17) = 6 then f_Rg_put 10 ((f_Po_takeIn u).1) 0 ((f_Po_takeIn u).2) else f_Rg_put 10 (-1) 0 u
set_option maxHeartbeats 8000000 in
set_option maxRecDepth 100000 in
theorem c_Ho_serve (l : Launch) (dC : Nat → ClassId) (dI : Nat → Nat → Nat) (cI : ClassId) (ad : Nat → Nat) (u : S5) (q : Int32) (ok : OkR u) (okh : OkH u) (okp : OkP u) (sz : Nat) : Met l y_Ho_serve w_Ho_serve rm_Ho_serve (PreW (dC, dI) classes [(cI, .int)] (wC cI ad) u sz [.ref (ad 5), .int q, .ref (ad 3), .ref (ad 2), .ref (ad 4)]) (QWv (dC, dI) classes [(cI, .int)] (wC cI ad) (va_A (wC cI ad u) sz) (f_Ho_serve q u)) 0 0 (va_A (wC cI ad u) sz) := by
  generalize hres : f_Ho_serve q u = res
  refine Met.ofW (cc := b_Ho_serve) (maxL := 6) (ret := none) (by decide) rfl ?_
  intro p e s m args below meth c s₁ B hml hv
  obtain ⟨rfl, rfl, hP, hK, hD0⟩ := hv
  have hx := B.exec
  have hb := B.bytes
  have hr := B.returns
  have hts : ∀ w9 ∈ ALLW, w9.before ([.ref (ad 5), .int q, .ref (ad 3), .ref (ad 2), .ref (ad 4)] : List Value).toArray s = true := fun w9 h => atoms_spec (ws := w_Ho_serve) B.pre w9 (List.mem_cons_of_mem _ h)
  have hown : s.vm.findClass R_Ho = some m.cls := findClass_of_methodNamed B.named
  have hlocks := B.notSynchronized
  have hD := hD0.self (sz := s.heap.size)
  generalize hAe : va_A (wC cI ad u) s.heap.size = A at hD ⊢
  have hA : ∀ q : Nat, s.heap.size ≤ q → A q := fun q h => by rw [← hAe]; exact Or.inr h
  have hS : va_S A s.heap s.heap [] := va_S.rf
  have hl := lv_entry ([.ref (ad 5), .int q, .ref (ad 3), .ref (ad 2), .ref (ad 4)]) (n := 6) (Nat.le_of_ble_eq_true rfl)
  rw [lg_entry_eq]
  generalize (lg_sl ([.ref (ad 5), .int q, .ref (ad 3), .ref (ad 2), .ref (ad 4)]) ++ List.replicate (6 - (lg_sl ([.ref (ad 5), .int q, .ref (ad 3), .ref (ad 2), .ref (ad 4)])).length) Slot.unset).toArray = ls at hl ⊢
  have hl : lv_has ls 6 [(0, .ref (ad 5)), (1, .int q), (2, .ref (ad 3)), (3, .ref (ad 2)), (4, .ref (ad 4))] := hl
  have hq := hres.symm
  skip
  obtain ⟨ok0, ok1, ok2⟩ := id ok
  obtain ⟨h6, h7, hO, hT, hL, hSz⟩ := id okh
  obtain ⟨p1, p2, p3⟩ := id okp
  refine lv_aload_n hx hb d_Ho_serve_0 rfl (lv_at hl 2 rfl) ?_
  refine va_get (D := (dC, dI)) (ci := 3) (v := .ref (ad 10)) (C := R_Rg) (T := F_Rg) (N := 2) hx hb hts in_Rg hown hK hP 3 rfl rfl 0 (by decide) (hts _ m_1_36) (fun _ h9 => h9) rfl d_Ho_serve_1 ?_
  refine lv_bipush (v := nI 10) hx hb d_Ho_serve_4 (by decide) ?_
  refine aldC_value (u := u) (v := aI u 2 10) hx hb hK hP (by omega) rfl d_Ho_serve_6 ?_
  refine lv_istore (lv' := [(5, .int (aI u 2 10)), (0, .ref (ad 5)), (1, .int q), (2, .ref (ad 3)), (3, .ref (ad 2)), (4, .ref (ad 4))]) hx hb d_Ho_serve_7 hl (by decide) rfl (fun ls hl => ?_)
  refine lv_aload_n hx hb d_Ho_serve_9 rfl (lv_at hl 3 rfl) ?_
  refine va_get (D := (dC, dI)) (ci := 3) (v := .ref (ad 10)) (C := R_Rg) (T := F_Rg) (N := 2) hx hb hts in_Rg hown hK hP 3 rfl rfl 0 (by decide) (hts _ m_1_36) (fun _ h9 => h9) rfl d_Ho_serve_10 ?_
  refine lv_bipush (v := nI 17) hx hb d_Ho_serve_13 (by decide) ?_
  refine aldC_value (u := u) (v := aI u 2 17) hx hb hK hP (by omega) rfl d_Ho_serve_15 ?_
  by_cases c1 : (aI u 2 17) = 2
  · skip
    refine lv_tableIn (off := 36) (tgt := 52) hx hb d_Ho_serve_16 (by rw [c1]; decide) (by rw [c1]; decide) (by rw [c1]; decide) (by decide) ?_
    refine lv_aload_n hx hb d_Ho_serve_52 rfl (lv_at hl 3 rfl) ?_
    refine lv_bipush (v := nI 10) hx hb d_Ho_serve_53 (by decide) ?_
    refine lv_aload_n hx hb d_Ho_serve_55 rfl (lv_at hl 1 rfl) ?_
    refine lv_iconst (v := 0) hx hb d_Ho_serve_56 (by decide) ?_
    refine lv_iload hx hb d_Ho_serve_57 (lv_at hl 0 rfl) ?_
    refine lv_iload_n hx hb d_Ho_serve_59 rfl (lv_at hl 2 rfl) ?_
    refine lv_aload_n hx hb d_Ho_serve_60 rfl (lv_at hl 4 rfl) ?_
    refine lv_aload hx hb d_Ho_serve_61 (lv_at hl 5 rfl) ?_
    refine callWi (va_runV (As := [.int 0, .int (aI u 2 10), .int q, .ref (ad 2), .ref (ad 4)]) (rest := [.int (nI 10), .ref (ad 3)]) ⟨hx, hb, hml, hown, hts⟩ (c_Ho_remake l dC dI cI ad u 0 (aI u 2 10) q (by first | assumption | omega) (by first | assumption | omega) s.heap.size) (cwV 5 hts (goodV m_11_15 m_11_16 m_19_11 m_0_9 m_11_17) rfl rfl rfl (by decide +kernel) ⟨Nat.le_of_ble_eq_true rfl, Nat.le_of_ble_eq_true rfl⟩) ⟨preW_blind, va_recv hK hP (ci := 5) (q0 := 5) rfl rfl, preW_ok hP hD hK⟩ rfl rfl hl.1 rfl (lv_room (Nat.le_of_ble_eq_true rfl)) d_Ho_serve_63 ⟨Nat.zero_le _, Nat.zero_le _⟩) hP hD hS hA (fun H locs hP hD hS => ?_)
    refine lv_iconst (v := 0) hx hb d_Ho_serve_66 (by decide) ?_
    refine callWv (va_runV (As := [.int (nI 10), .int (nI ((f_Ho_remake 0 (aI u 2 10) q u).1)), .int 0]) (rest := []) ⟨hx, hb, hml, hown, hts⟩ (c_Rg_put l dC dI cI ad ((f_Ho_remake 0 (aI u 2 10) q u).2) 10 (nI ((f_Ho_remake 0 (aI u 2 10) q u).1)) 0 (by first | assumption | omega) H.size) (cwV 3 hts (goodV m_12_11 m_7_15 m_7_16 m_0_7 m_7_17) rfl rfl rfl (by decide +kernel) ⟨Nat.le_of_ble_eq_true rfl, Nat.le_of_ble_eq_true rfl⟩) ⟨preW_blind, va_recv hK hP (ci := 3) (q0 := 3) rfl rfl, preW_ok hP hD hK⟩ rfl rfl hl.1 rfl (lv_room (Nat.le_of_ble_eq_true rfl)) d_Ho_serve_67 ⟨Nat.zero_le _, Nat.zero_le _⟩) hP hD hS hA (fun H locs hP hD hS => ?_)
    refine lv_goto (tgt := 176) hx hb d_Ho_serve_70 (by decide) ?_
    have hE : res = f_Rg_put 10 (nI ((f_Ho_remake 0 (aI u 2 10) q u).1)) 0 ((f_Ho_remake 0 (aI u 2 10) q u).2) := hq.trans ((if_pos c1).trans rfl)
    exact retWv hx hb hr hP hK hD hS hE.symm d_Ho_serve_176 hlocks
  by_cases c2 : (aI u 2 17) = 3
  · skip
    refine lv_tableIn (off := 57) (tgt := 73) hx hb d_Ho_serve_16 (by rw [c2]; decide) (by rw [c2]; decide) (by rw [c2]; decide) (by decide) ?_
    refine lv_iload hx hb d_Ho_serve_73 (lv_at hl 0 rfl) ?_
    refine lv_if_eq (tgt := 176) hx hb d_Ho_serve_75 (by decide) (fun c3 => ?_) (fun c3 => ?_)
    · skip
      have hE : res = u := hq.trans ((if_neg c1).trans ((if_pos c2).trans ((if_pos c3).trans rfl)))
      exact retWv hx hb hr hP hK hD hS hE.symm d_Ho_serve_176 hlocks
    · skip
      refine lv_aload_n hx hb d_Ho_serve_78 rfl (lv_at hl 1 rfl) ?_
      refine lv_iload hx hb d_Ho_serve_79 (lv_at hl 0 rfl) ?_
      refine lv_iload_n hx hb d_Ho_serve_81 rfl (lv_at hl 2 rfl) ?_
      refine lv_aload hx hb d_Ho_serve_82 (lv_at hl 5 rfl) ?_
      refine callWi (va_runV (As := [.int (aI u 2 10), .int q, .ref (ad 4)]) (rest := []) ⟨hx, hb, hml, hown, hts⟩ (c_Ho_isLive l dC dI cI ad u (aI u 2 10) q (by first | assumption | omega) (by first | assumption | omega) s.heap.size) (cwV 3 hts (goodV m_11_18 m_11_19 m_19_12 m_0_9 m_11_20) rfl rfl rfl (by decide +kernel) ⟨Nat.le_of_ble_eq_true rfl, Nat.le_of_ble_eq_true rfl⟩) ⟨preW_blind, va_recv hK hP (ci := 5) (q0 := 5) rfl rfl, preW_ok hP hD hK⟩ rfl rfl hl.1 rfl (lv_room (Nat.le_of_ble_eq_true rfl)) d_Ho_serve_84 ⟨Nat.zero_le _, Nat.zero_le _⟩) hP hD hS hA (fun H locs hP hD hS => ?_)
      refine rb_eq (tgt := 176) hx hb d_Ho_serve_87 (by decide) (fun c4 => ?_) (fun c4 => ?_)
      · skip
        have hE : res = (f_Ho_isLive (aI u 2 10) q u).2 := hq.trans ((if_neg c1).trans ((if_pos c2).trans ((if_neg c3).trans ((if_neg c4).trans rfl))))
        exact retWv hx hb hr hP hK hD hS hE.symm d_Ho_serve_176 hlocks
      · skip
        obtain ⟨hl1, hl2⟩ := il_1 (by assumption)
        obtain ⟨i1, i2, i3, i4⟩ := st_in (a := aI u 2 10) (u := u) (by omega)
        have hue := hu_e i1 i2 i4
        have hkp := kp_le (a := aI u 2 10) hSz i1 i2
        refine lv_aload_n hx hb d_Ho_serve_90 rfl (lv_at hl 4 rfl) ?_
        refine lv_iload hx hb d_Ho_serve_91 (lv_at hl 0 rfl) ?_
        refine rw_top (y := nI ((aI u 2 10).toNatClampNeg)) (hp_n (hp_ge i1)) ?_
        refine lv_aload_n hx hb d_Ho_serve_93 rfl (lv_at hl 1 rfl) ?_
        refine va_get (D := (dC, dI)) (ci := 5) (v := .ref (ad 6)) (C := R_Ho) (T := F_Ho) (N := 2) hx hb hts in_Ho hown hK hP 5 rfl rfl 0 (by decide) (hts _ m_4_4) (fun _ h9 => h9) rfl d_Ho_serve_94 ?_
        refine lv_iload hx hb d_Ho_serve_97 (lv_at hl 0 rfl) ?_
        refine callWi (va_runV (As := [.int (aI u 2 10)]) (rest := [.int (nI ((aI u 2 10).toNatClampNeg)), .ref (ad 2)]) ⟨hx, hb, hml, hown, hts⟩ (c_He_keep l dC dI cI ad ((f_Ho_isLive (aI u 2 10) q u).2) (aI u 2 10) (by rw [hl2]; exact h6) (by rw [hl2]; exact h7) (by rw [hl2]; exact hO) (by rw [hl2]; exact hT) (by rw [hl2]; exact hL) H.size) (cwV 1 hts (goodV m_12_0 m_12_1 m_12_2 m_0_10 m_12_3) rfl rfl rfl (by decide +kernel) ⟨Nat.le_of_ble_eq_true rfl, Nat.le_of_ble_eq_true rfl⟩) ⟨preW_blind, va_recv hK hP (ci := 6) (q0 := 6) rfl rfl, preW_ok hP hD hK⟩ rfl rfl hl.1 rfl (lv_room (Nat.le_of_ble_eq_true rfl)) d_Ho_serve_99 ⟨Nat.zero_le _, Nat.zero_le _⟩) hP hD hS hA (fun H locs hP hD hS => ?_)
        refine callWv (va_runV (As := [.int (nI ((aI u 2 10).toNatClampNeg)), .int (nI ((f_He_keep (aI u 2 10) ((f_Ho_isLive (aI u 2 10) q u).2)).1))]) (rest := []) ⟨hx, hb, hml, hown, hts⟩ (c_Me_shut l dC dI cI ad ((f_He_keep (aI u 2 10) ((f_Ho_isLive (aI u 2 10) q u).2)).2) ((aI u 2 10).toNatClampNeg) ((f_He_keep (aI u 2 10) ((f_Ho_isLive (aI u 2 10) q u).2)).1) (by rw [hl2]; show (aI u 2 10).toNatClampNeg + (f_He_keep (aI u 2 10) u).1 ≤ 65536; omega) H.size) (cwV 2 hts (goodV m_12_7 m_12_8 m_12_9 m_0_3 m_12_10) rfl rfl rfl (by decide +kernel) ⟨Nat.le_of_ble_eq_true rfl, Nat.le_of_ble_eq_true rfl⟩) ⟨preW_blind, va_recv hK hP (ci := 2) (q0 := 2) rfl rfl, preW_ok hP hD hK⟩ rfl rfl hl.1 rfl (lv_room (Nat.le_of_ble_eq_true rfl)) d_Ho_serve_102 ⟨Nat.zero_le _, Nat.zero_le _⟩) hP hD hS hA (fun H locs hP hD hS => ?_)
        refine lv_goto (tgt := 176) hx hb d_Ho_serve_105 (by decide) ?_
        have hE : res = f_Me_shut ((aI u 2 10).toNatClampNeg) ((f_He_keep (aI u 2 10) ((f_Ho_isLive (aI u 2 10) q u).2)).1) ((f_He_keep (aI u 2 10) ((f_Ho_isLive (aI u 2 10) q u).2)).2) := hq.trans ((if_neg c1).trans ((if_pos c2).trans ((if_neg c3).trans ((if_pos c4).trans rfl))))
        exact retWv hx hb hr hP hK hD hS hE.symm d_Ho_serve_176 hlocks
  by_cases c5 : (aI u 2 17) = 4
  · skip
    refine lv_tableIn (off := 92) (tgt := 108) hx hb d_Ho_serve_16 (by rw [c5]; decide) (by rw [c5]; decide) (by rw [c5]; decide) (by decide) ?_
    refine lv_aload_n hx hb d_Ho_serve_108 rfl (lv_at hl 3 rfl) ?_
    refine lv_bipush (v := nI 10) hx hb d_Ho_serve_109 (by decide) ?_
    refine lv_aload_n hx hb d_Ho_serve_111 rfl (lv_at hl 1 rfl) ?_
    refine lv_iload hx hb d_Ho_serve_112 (lv_at hl 0 rfl) ?_
    refine lv_aload_n hx hb d_Ho_serve_114 rfl (lv_at hl 3 rfl) ?_
    refine va_get (D := (dC, dI)) (ci := 3) (v := .ref (ad 10)) (C := R_Rg) (T := F_Rg) (N := 2) hx hb hts in_Rg hown hK hP 3 rfl rfl 0 (by decide) (hts _ m_1_36) (fun _ h9 => h9) rfl d_Ho_serve_115 ?_
    refine lv_bipush (v := nI 11) hx hb d_Ho_serve_118 (by decide) ?_
    refine aldC_value (u := u) (v := aI u 2 11) hx hb hK hP (by omega) rfl d_Ho_serve_120 ?_
    refine lv_iload_n hx hb d_Ho_serve_121 rfl (lv_at hl 2 rfl) ?_
    refine lv_aload_n hx hb d_Ho_serve_122 rfl (lv_at hl 4 rfl) ?_
    refine lv_aload hx hb d_Ho_serve_123 (lv_at hl 5 rfl) ?_
    refine callWi (va_runV (As := [.int (aI u 2 10), .int (aI u 2 11), .int q, .ref (ad 2), .ref (ad 4)]) (rest := [.int (nI 10), .ref (ad 3)]) ⟨hx, hb, hml, hown, hts⟩ (c_Ho_remake l dC dI cI ad u (aI u 2 10) (aI u 2 11) q (by first | assumption | omega) (by first | assumption | omega) s.heap.size) (cwV 5 hts (goodV m_11_15 m_11_16 m_19_11 m_0_9 m_11_17) rfl rfl rfl (by decide +kernel) ⟨Nat.le_of_ble_eq_true rfl, Nat.le_of_ble_eq_true rfl⟩) ⟨preW_blind, va_recv hK hP (ci := 5) (q0 := 5) rfl rfl, preW_ok hP hD hK⟩ rfl rfl hl.1 rfl (lv_room (Nat.le_of_ble_eq_true rfl)) d_Ho_serve_125 ⟨Nat.zero_le _, Nat.zero_le _⟩) hP hD hS hA (fun H locs hP hD hS => ?_)
    refine lv_iconst (v := 0) hx hb d_Ho_serve_128 (by decide) ?_
    refine callWv (va_runV (As := [.int (nI 10), .int (nI ((f_Ho_remake (aI u 2 10) (aI u 2 11) q u).1)), .int 0]) (rest := []) ⟨hx, hb, hml, hown, hts⟩ (c_Rg_put l dC dI cI ad ((f_Ho_remake (aI u 2 10) (aI u 2 11) q u).2) 10 (nI ((f_Ho_remake (aI u 2 10) (aI u 2 11) q u).1)) 0 (by first | assumption | omega) H.size) (cwV 3 hts (goodV m_12_11 m_7_15 m_7_16 m_0_7 m_7_17) rfl rfl rfl (by decide +kernel) ⟨Nat.le_of_ble_eq_true rfl, Nat.le_of_ble_eq_true rfl⟩) ⟨preW_blind, va_recv hK hP (ci := 3) (q0 := 3) rfl rfl, preW_ok hP hD hK⟩ rfl rfl hl.1 rfl (lv_room (Nat.le_of_ble_eq_true rfl)) d_Ho_serve_129 ⟨Nat.zero_le _, Nat.zero_le _⟩) hP hD hS hA (fun H locs hP hD hS => ?_)
    refine lv_goto (tgt := 176) hx hb d_Ho_serve_132 (by decide) ?_
    have hE : res = f_Rg_put 10 (nI ((f_Ho_remake (aI u 2 10) (aI u 2 11) q u).1)) 0 ((f_Ho_remake (aI u 2 10) (aI u 2 11) q u).2) := hq.trans ((if_neg c1).trans ((if_neg c2).trans ((if_pos c5).trans rfl)))
    exact retWv hx hb hr hP hK hD hS hE.symm d_Ho_serve_176 hlocks
  by_cases c6 : (aI u 2 17) = 5
  · skip
    refine lv_tableIn (off := 119) (tgt := 135) hx hb d_Ho_serve_16 (by rw [c6]; decide) (by rw [c6]; decide) (by rw [c6]; decide) (by decide) ?_
    refine lv_aload_n hx hb d_Ho_serve_135 rfl (lv_at hl 1 rfl) ?_
    refine va_get (D := (dC, dI)) (ci := 5) (v := .ref (ad 7)) (C := R_Ho) (T := F_Ho) (N := 2) hx hb hts in_Ho hown hK hP 5 rfl rfl 1 (by decide) (hts _ m_4_6) (fun _ h9 => h9) rfl d_Ho_serve_136 ?_
    refine lv_iload hx hb d_Ho_serve_139 (lv_at hl 0 rfl) ?_
    refine lv_sipush (v := 255) hx hb d_Ho_serve_141 (by decide) ?_
    refine lv_iand hx hb d_Ho_serve_144 ?_
    refine callWv (va_runV (As := [.int ((aI u 2 10) &&& (255 : Int32))]) (rest := []) ⟨hx, hb, hml, hown, hts⟩ (c_Po_putOut l dC dI cI ad u ((aI u 2 10) &&& (255 : Int32)) (by first | assumption | omega) s.heap.size) (cwV 1 hts (goodV m_12_12 m_12_13 m_12_14 m_0_11 m_12_15) rfl rfl rfl (by decide +kernel) ⟨Nat.le_of_ble_eq_true rfl, Nat.le_of_ble_eq_true rfl⟩) ⟨preW_blind, va_recv hK hP (ci := 7) (q0 := 7) rfl rfl, preW_ok hP hD hK⟩ rfl rfl hl.1 rfl (lv_room (Nat.le_of_ble_eq_true rfl)) d_Ho_serve_145 ⟨Nat.zero_le _, Nat.zero_le _⟩) hP hD hS hA (fun H locs hP hD hS => ?_)
    refine lv_goto (tgt := 176) hx hb d_Ho_serve_148 (by decide) ?_
    have hE : res = f_Po_putOut ((aI u 2 10) &&& (255 : Int32)) u := hq.trans ((if_neg c1).trans ((if_neg c2).trans ((if_neg c5).trans ((if_pos c6).trans rfl))))
    exact retWv hx hb hr hP hK hD hS hE.symm d_Ho_serve_176 hlocks
  by_cases c7 : (aI u 2 17) = 6
  · skip
    refine lv_tableIn (off := 135) (tgt := 151) hx hb d_Ho_serve_16 (by rw [c7]; decide) (by rw [c7]; decide) (by rw [c7]; decide) (by decide) ?_
    refine lv_aload_n hx hb d_Ho_serve_151 rfl (lv_at hl 3 rfl) ?_
    refine lv_bipush (v := nI 10) hx hb d_Ho_serve_152 (by decide) ?_
    refine lv_aload_n hx hb d_Ho_serve_154 rfl (lv_at hl 1 rfl) ?_
    refine va_get (D := (dC, dI)) (ci := 5) (v := .ref (ad 7)) (C := R_Ho) (T := F_Ho) (N := 2) hx hb hts in_Ho hown hK hP 5 rfl rfl 1 (by decide) (hts _ m_4_6) (fun _ h9 => h9) rfl d_Ho_serve_155 ?_
    refine callWi (va_runV (As := []) (rest := [.int (nI 10), .ref (ad 3)]) ⟨hx, hb, hml, hown, hts⟩ (c_Po_takeIn l dC dI cI ad u (by first | assumption | omega) (by first | assumption | omega) s.heap.size) (cwV 0 hts (goodV m_12_16 m_12_17 m_12_18 m_0_11 m_12_19) rfl rfl rfl (by decide +kernel) ⟨Nat.le_of_ble_eq_true rfl, Nat.le_of_ble_eq_true rfl⟩) ⟨preW_blind, va_recv hK hP (ci := 7) (q0 := 7) rfl rfl, preW_ok hP hD hK⟩ rfl rfl hl.1 rfl (lv_room (Nat.le_of_ble_eq_true rfl)) d_Ho_serve_158 ⟨Nat.zero_le _, Nat.zero_le _⟩) hP hD hS hA (fun H locs hP hD hS => ?_)
    refine lv_iconst (v := 0) hx hb d_Ho_serve_161 (by decide) ?_
    refine callWv (va_runV (As := [.int (nI 10), .int ((f_Po_takeIn u).1), .int 0]) (rest := []) ⟨hx, hb, hml, hown, hts⟩ (c_Rg_put l dC dI cI ad ((f_Po_takeIn u).2) 10 ((f_Po_takeIn u).1) 0 (by first | assumption | omega) H.size) (cwV 3 hts (goodV m_12_11 m_7_15 m_7_16 m_0_7 m_7_17) rfl rfl rfl (by decide +kernel) ⟨Nat.le_of_ble_eq_true rfl, Nat.le_of_ble_eq_true rfl⟩) ⟨preW_blind, va_recv hK hP (ci := 3) (q0 := 3) rfl rfl, preW_ok hP hD hK⟩ rfl rfl hl.1 rfl (lv_room (Nat.le_of_ble_eq_true rfl)) d_Ho_serve_162 ⟨Nat.zero_le _, Nat.zero_le _⟩) hP hD hS hA (fun H locs hP hD hS => ?_)
    refine lv_goto (tgt := 176) hx hb d_Ho_serve_165 (by decide) ?_
    have hE : res = f_Rg_put 10 ((f_Po_takeIn u).1) 0 ((f_Po_takeIn u).2) := hq.trans ((if_neg c1).trans ((if_neg c2).trans ((if_neg c5).trans ((if_neg c6).trans ((if_pos c7).trans rfl)))))
    exact retWv hx hb hr hP hK hD hS hE.symm d_Ho_serve_176 hlocks
  have nc1 := lv_neT c1 (a := 2) (by decide)
  have nc2 := lv_neT c2 (a := 3) (by decide)
  have nc5 := lv_neT c5 (a := 4) (by decide)
  have nc6 := lv_neT c6 (a := 5) (by decide)
  have nc7 := lv_neT c7 (a := 6) (by decide)
  refine lv_tableOut (tgt := 168) hx hb d_Ho_serve_16 (by omega) (by decide) ?_
  refine lv_aload_n hx hb d_Ho_serve_168 rfl (lv_at hl 3 rfl) ?_
  refine lv_bipush (v := nI 10) hx hb d_Ho_serve_169 (by decide) ?_
  refine lv_iconst (v := (-1)) hx hb d_Ho_serve_171 (by decide) ?_
  refine lv_iconst (v := 0) hx hb d_Ho_serve_172 (by decide) ?_
  refine callWv (va_runV (As := [.int (nI 10), .int (-1), .int 0]) (rest := []) ⟨hx, hb, hml, hown, hts⟩ (c_Rg_put l dC dI cI ad u 10 (-1) 0 (by first | assumption | omega) s.heap.size) (cwV 3 hts (goodV m_12_11 m_7_15 m_7_16 m_0_7 m_7_17) rfl rfl rfl (by decide +kernel) ⟨Nat.le_of_ble_eq_true rfl, Nat.le_of_ble_eq_true rfl⟩) ⟨preW_blind, va_recv hK hP (ci := 3) (q0 := 3) rfl rfl, preW_ok hP hD hK⟩ rfl rfl hl.1 rfl (lv_room (Nat.le_of_ble_eq_true rfl)) d_Ho_serve_173 ⟨Nat.zero_le _, Nat.zero_le _⟩) hP hD hS hA (fun H locs hP hD hS => ?_)
  have hE : res = f_Rg_put 10 (-1) 0 u := hq.trans ((if_neg c1).trans ((if_neg c2).trans ((if_neg c5).trans ((if_neg c6).trans ((if_neg c7).trans rfl)))))
  exact retWv hx hb hr hP hK hD hS hE.symm d_Ho_serve_176 hlocks
