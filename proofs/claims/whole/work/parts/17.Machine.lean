def w_Ma_trap : List Cond := .code y_Ma_trap b_Ma_trap 2 none :: ALLW
def rm_Ma_trap : Room := { frames := 20, cells := 0, slots := 0, locals := 600 }
theorem d_Ma_trap_0 : decode b_Ma_trap 0 = .ok (.aload_n 0, 1) := by decide +kernel
theorem d_Ma_trap_1 : decode b_Ma_trap 1 = .ok (.iconst 2, 1) := by decide +kernel
theorem d_Ma_trap_2 : decode b_Ma_trap 2 = .ok (.putfield 49, 3) := by decide +kernel
theorem d_Ma_trap_5 : decode b_Ma_trap 5 = .ok (.aload_n 0, 1) := by decide +kernel
theorem d_Ma_trap_6 : decode b_Ma_trap 6 = .ok (.iload_n 1, 1) := by decide +kernel
theorem d_Ma_trap_7 : decode b_Ma_trap 7 = .ok (.putfield 52, 3) := by decide +kernel
theorem d_Ma_trap_10 : decode b_Ma_trap 10 = .ok (.return_, 1) := by decide +kernel
def f_Ma_trap (q : Int32) (u : S5) : S5 := sI (sI u 3 2) 4 q
set_option maxHeartbeats 8000000 in
set_option maxRecDepth 100000 in
theorem c_Ma_trap (l : Launch) (dC : Nat → ClassId) (dI : Nat → Nat → Nat) (cI : ClassId) (ad : Nat → Nat) (u : S5) (q : Int32) (sz : Nat) : Met l y_Ma_trap w_Ma_trap rm_Ma_trap (PreW (dC, dI) classes [(cI, .int)] (wC cI ad) u sz [.ref (ad 1), .int q]) (QWv (dC, dI) classes [(cI, .int)] (wC cI ad) (va_A (wC cI ad u) sz) (f_Ma_trap q u)) 0 0 (va_A (wC cI ad u) sz) := by
  generalize hres : f_Ma_trap q u = res
  refine Met.ofW (cc := b_Ma_trap) (maxL := 2) (ret := none) (by decide) rfl ?_
  intro p e s m args below meth c s₁ B hml hv
  obtain ⟨rfl, rfl, hP, hK, hD0⟩ := hv
  have hx := B.exec
  have hb := B.bytes
  have hr := B.returns
  have hts : ∀ w9 ∈ ALLW, w9.before ([.ref (ad 1), .int q] : List Value).toArray s = true := fun w9 h => atoms_spec (ws := w_Ma_trap) B.pre w9 (List.mem_cons_of_mem _ h)
  have hown : s.vm.findClass R_Ma = some m.cls := findClass_of_methodNamed B.named
  have hlocks := B.notSynchronized
  have hD := hD0.self (sz := s.heap.size)
  generalize hAe : va_A (wC cI ad u) s.heap.size = A at hD ⊢
  have hA : ∀ q : Nat, s.heap.size ≤ q → A q := fun q h => by rw [← hAe]; exact Or.inr h
  have hS : va_S A s.heap s.heap [] := va_S.rf
  have hl := lv_entry ([.ref (ad 1), .int q]) (n := 2) (Nat.le_of_ble_eq_true rfl)
  rw [lg_entry_eq]
  generalize (lg_sl ([.ref (ad 1), .int q]) ++ List.replicate (2 - (lg_sl ([.ref (ad 1), .int q])).length) Slot.unset).toArray = ls at hl ⊢
  have hl : lv_has ls 2 [(0, .ref (ad 1)), (1, .int q)] := hl
  have hq := hres.symm
  skip
  refine lv_aload_n hx hb d_Ma_trap_0 rfl (lv_at hl 0 rfl) ?_
  refine lv_iconst (v := 2) hx hb d_Ma_trap_1 (by decide) ?_
  refine va_put (D := (dC, dI)) (ci := 1) (v := .int 2) (ty := .int) (C := R_Ma) (T := F_Ma) (N := 10) hx hb hts in_Ma t_Ma t_Ma_ok n_Ma hown hK hP hD hS 1 rfl rfl 7 (by decide) (hts _ m_4_22) (fun _ h9 => h9) rfl (by decide +kernel) rfl rfl (Nat.le_of_ble_eq_true rfl) d_Ma_trap_2 (fun H locs hP hD hS => ?_)
  have hP : va_P (dC, dI) classes (wC cI ad (sI u 3 2)) H := hP
  have hD : va_D A (wC cI ad (sI u 3 2)) := hD
  refine lv_aload_n hx hb d_Ma_trap_5 rfl (lv_at hl 0 rfl) ?_
  refine lv_iload_n hx hb d_Ma_trap_6 rfl (lv_at hl 1 rfl) ?_
  refine va_put (D := (dC, dI)) (ci := 1) (v := .int q) (ty := .int) (C := R_Ma) (T := F_Ma) (N := 10) hx hb hts in_Ma t_Ma t_Ma_ok n_Ma hown hK hP hD hS 1 rfl rfl 8 (by decide) (hts _ m_4_24) (fun _ h9 => h9) rfl (by decide +kernel) rfl rfl (Nat.le_of_ble_eq_true rfl) d_Ma_trap_7 (fun H locs hP hD hS => ?_)
  have hP : va_P (dC, dI) classes (wC cI ad (sI (sI u 3 2) 4 q)) H := hP
  have hD : va_D A (wC cI ad (sI (sI u 3 2) 4 q)) := hD
  have hE : res = sI (sI u 3 2) 4 q := hq.trans (rfl)
  exact retWv hx hb hr hP hK hD hS hE.symm d_Ma_trap_10 hlocks
def w_Ma_fetch : List Cond := .code y_Ma_fetch b_Ma_fetch 1 (some .boolean) :: ALLW
def rm_Ma_fetch : Room := { frames := 22, cells := 0, slots := 0, locals := 648 }
theorem d_Ma_fetch_0 : decode b_Ma_fetch 0 = .ok (.aload_n 0, 1) := by decide +kernel
theorem d_Ma_fetch_1 : decode b_Ma_fetch 1 = .ok (.getfield 45, 3) := by decide +kernel
theorem d_Ma_fetch_4 : decode b_Ma_fetch 4 = .ok (.ifCond .lt 21, 3) := by decide +kernel
theorem d_Ma_fetch_7 : decode b_Ma_fetch 7 = .ok (.aload_n 0, 1) := by decide +kernel
theorem d_Ma_fetch_8 : decode b_Ma_fetch 8 = .ok (.getfield 45, 3) := by decide +kernel
theorem d_Ma_fetch_11 : decode b_Ma_fetch 11 = .ok (.ldc 58, 2) := by decide +kernel
theorem d_Ma_fetch_13 : decode b_Ma_fetch 13 = .ok (.if_icmp .gt 12, 3) := by decide +kernel
theorem d_Ma_fetch_16 : decode b_Ma_fetch 16 = .ok (.aload_n 0, 1) := by decide +kernel
theorem d_Ma_fetch_17 : decode b_Ma_fetch 17 = .ok (.getfield 45, 3) := by decide +kernel
theorem d_Ma_fetch_20 : decode b_Ma_fetch 20 = .ok (.iconst 3, 1) := by decide +kernel
theorem d_Ma_fetch_21 : decode b_Ma_fetch 21 = .ok (.iand, 1) := by decide +kernel
theorem d_Ma_fetch_22 : decode b_Ma_fetch 22 = .ok (.ifCond .eq 10, 3) := by decide +kernel
theorem d_Ma_fetch_25 : decode b_Ma_fetch 25 = .ok (.aload_n 0, 1) := by decide +kernel
theorem d_Ma_fetch_26 : decode b_Ma_fetch 26 = .ok (.iconst 0, 1) := by decide +kernel
theorem d_Ma_fetch_27 : decode b_Ma_fetch 27 = .ok (.invokevirtual 59, 3) := by decide +kernel
theorem d_Ma_fetch_30 : decode b_Ma_fetch 30 = .ok (.iconst 0, 1) := by decide +kernel
theorem d_Ma_fetch_31 : decode b_Ma_fetch 31 = .ok (.ireturn, 1) := by decide +kernel
theorem d_Ma_fetch_32 : decode b_Ma_fetch 32 = .ok (.aload_n 0, 1) := by decide +kernel
theorem d_Ma_fetch_33 : decode b_Ma_fetch 33 = .ok (.getfield 12, 3) := by decide +kernel
theorem d_Ma_fetch_36 : decode b_Ma_fetch 36 = .ok (.aload_n 0, 1) := by decide +kernel
theorem d_Ma_fetch_37 : decode b_Ma_fetch 37 = .ok (.getfield 45, 3) := by decide +kernel
theorem d_Ma_fetch_40 : decode b_Ma_fetch 40 = .ok (.invokevirtual 63, 3) := by decide +kernel
theorem d_Ma_fetch_43 : decode b_Ma_fetch 43 = .ok (.ifCond .ne 27, 3) := by decide +kernel
theorem d_Ma_fetch_46 : decode b_Ma_fetch 46 = .ok (.aload_n 0, 1) := by decide +kernel
theorem d_Ma_fetch_47 : decode b_Ma_fetch 47 = .ok (.getfield 28, 3) := by decide +kernel
theorem d_Ma_fetch_50 : decode b_Ma_fetch 50 = .ok (.iconst 1, 1) := by decide +kernel
theorem d_Ma_fetch_51 : decode b_Ma_fetch 51 = .ok (.aload_n 0, 1) := by decide +kernel
theorem d_Ma_fetch_52 : decode b_Ma_fetch 52 = .ok (.getfield 45, 3) := by decide +kernel
theorem d_Ma_fetch_55 : decode b_Ma_fetch 55 = .ok (.aload_n 0, 1) := by decide +kernel
theorem d_Ma_fetch_56 : decode b_Ma_fetch 56 = .ok (.getfield 12, 3) := by decide +kernel
theorem d_Ma_fetch_59 : decode b_Ma_fetch 59 = .ok (.aload_n 0, 1) := by decide +kernel
theorem d_Ma_fetch_60 : decode b_Ma_fetch 60 = .ok (.getfield 45, 3) := by decide +kernel
theorem d_Ma_fetch_63 : decode b_Ma_fetch 63 = .ok (.iconst 4, 1) := by decide +kernel
theorem d_Ma_fetch_64 : decode b_Ma_fetch 64 = .ok (.invokevirtual 67, 3) := by decide +kernel
theorem d_Ma_fetch_67 : decode b_Ma_fetch 67 = .ok (.invokevirtual 71, 3) := by decide +kernel
theorem d_Ma_fetch_70 : decode b_Ma_fetch 70 = .ok (.aload_n 0, 1) := by decide +kernel
theorem d_Ma_fetch_71 : decode b_Ma_fetch 71 = .ok (.aload_n 0, 1) := by decide +kernel
theorem d_Ma_fetch_72 : decode b_Ma_fetch 72 = .ok (.getfield 12, 3) := by decide +kernel
theorem d_Ma_fetch_75 : decode b_Ma_fetch 75 = .ok (.aload_n 0, 1) := by decide +kernel
theorem d_Ma_fetch_76 : decode b_Ma_fetch 76 = .ok (.getfield 45, 3) := by decide +kernel
theorem d_Ma_fetch_79 : decode b_Ma_fetch 79 = .ok (.invokevirtual 75, 3) := by decide +kernel
theorem d_Ma_fetch_82 : decode b_Ma_fetch 82 = .ok (.putfield 79, 3) := by decide +kernel
theorem d_Ma_fetch_85 : decode b_Ma_fetch 85 = .ok (.aload_n 0, 1) := by decide +kernel
theorem d_Ma_fetch_86 : decode b_Ma_fetch 86 = .ok (.aload_n 0, 1) := by decide +kernel
theorem d_Ma_fetch_87 : decode b_Ma_fetch 87 = .ok (.getfield 45, 3) := by decide +kernel
theorem d_Ma_fetch_90 : decode b_Ma_fetch 90 = .ok (.iconst 4, 1) := by decide +kernel
theorem d_Ma_fetch_91 : decode b_Ma_fetch 91 = .ok (.iadd, 1) := by decide +kernel
theorem d_Ma_fetch_92 : decode b_Ma_fetch 92 = .ok (.putfield 81, 3) := by decide +kernel
theorem d_Ma_fetch_95 : decode b_Ma_fetch 95 = .ok (.iconst 1, 1) := by decide +kernel
theorem d_Ma_fetch_96 : decode b_Ma_fetch 96 = .ok (.ireturn, 1) := by decide +kernel
def f_Ma_fetch_70 (u : S5) (u1 : S5) : Bool × S5 := (true, sI (sI u1 1 (f_Me_word ((gI u1 0).toNatClampNeg) u1)) 2 ((gI u1 0) + (4 : Int32)))
def f_Ma_fetch (u : S5) : Bool × S5 := if (gI u 0) < 0 then (false, f_Ma_trap 0 u) else if 65532 < (gI u 0) then (false, f_Ma_trap 0 u) else if ((gI u 0) &&& (3 : Int32)) = 0 then (if (f_Me_isOpenWord ((gI u 0).toNatClampNeg) u) = true then f_Ma_fetch_70 u u else f_Ma_fetch_70 u (f_Rp_note 1 (gI u 0) (f_Me_firstShut ((gI u 0).toNatClampNeg) 4 u) u)) else (false, f_Ma_trap 0 u)
set_option maxHeartbeats 8000000 in
set_option maxRecDepth 100000 in
theorem c_Ma_fetch (l : Launch) (dC : Nat → ClassId) (dI : Nat → Nat → Nat) (cI : ClassId) (ad : Nat → Nat) (u : S5) (ok : OkR u) (sz : Nat) : Met l y_Ma_fetch w_Ma_fetch rm_Ma_fetch (PreW (dC, dI) classes [(cI, .int)] (wC cI ad) u sz [.ref (ad 1)]) (QWi (dC, dI) classes [(cI, .int)] (wC cI ad) (va_A (wC cI ad u) sz) (b2i (f_Ma_fetch u).1) (f_Ma_fetch u).2) 0 0 (va_A (wC cI ad u) sz) := by
  generalize hres : f_Ma_fetch u = res
  refine Met.ofW (cc := b_Ma_fetch) (maxL := 1) (ret := (some .boolean)) (by decide) rfl ?_
  intro p e s m args below meth c s₁ B hml hv
  obtain ⟨rfl, rfl, hP, hK, hD0⟩ := hv
  have hx := B.exec
  have hb := B.bytes
  have hr := B.returns
  have hts : ∀ w9 ∈ ALLW, w9.before ([.ref (ad 1)] : List Value).toArray s = true := fun w9 h => atoms_spec (ws := w_Ma_fetch) B.pre w9 (List.mem_cons_of_mem _ h)
  have hown : s.vm.findClass R_Ma = some m.cls := findClass_of_methodNamed B.named
  have hlocks := B.notSynchronized
  have hD := hD0.self (sz := s.heap.size)
  generalize hAe : va_A (wC cI ad u) s.heap.size = A at hD ⊢
  have hA : ∀ q : Nat, s.heap.size ≤ q → A q := fun q h => by rw [← hAe]; exact Or.inr h
  have hS : va_S A s.heap s.heap [] := va_S.rf
  have hl := lv_entry ([.ref (ad 1)]) (n := 1) (Nat.le_of_ble_eq_true rfl)
  rw [lg_entry_eq]
  generalize (lg_sl ([.ref (ad 1)]) ++ List.replicate (1 - (lg_sl ([.ref (ad 1)])).length) Slot.unset).toArray = ls at hl ⊢
  have hl : lv_has ls 1 [(0, .ref (ad 1))] := hl
  have hq := hres.symm
  skip
  obtain ⟨ok0, ok1, ok2⟩ := id ok
  refine lv_aload_n hx hb d_Ma_fetch_0 rfl (lv_at hl 0 rfl) ?_
  refine va_get (D := (dC, dI)) (ci := 1) (v := .int (gI u 0)) (C := R_Ma) (T := F_Ma) (N := 10) hx hb hts in_Ma hown hK hP 1 rfl rfl 4 (by decide) (hts _ m_4_18) (fun _ h9 => h9) rfl d_Ma_fetch_1 ?_
  refine lv_if_lt (tgt := 25) hx hb d_Ma_fetch_4 (by decide) (fun c1 => ?_) (fun c1 => ?_)
  · skip
    refine lv_aload_n hx hb d_Ma_fetch_25 rfl (lv_at hl 0 rfl) ?_
    refine lv_iconst (v := 0) hx hb d_Ma_fetch_26 (by decide) ?_
    refine callWv (va_runV (As := [.int 0]) (rest := []) ⟨hx, hb, hml, hown, hts⟩ (c_Ma_trap l dC dI cI ad u 0 s.heap.size) (cwV 1 hts (goodV m_6_19 m_6_20 m_18_37 m_0_2 m_6_21) rfl rfl rfl (by decide +kernel) ⟨Nat.le_of_ble_eq_true rfl, Nat.le_of_ble_eq_true rfl⟩) ⟨preW_blind, va_recv hK hP (ci := 1) (q0 := 1) rfl rfl, preW_ok hP hD hK⟩ rfl rfl hl.1 rfl (lv_room (Nat.le_of_ble_eq_true rfl)) d_Ma_fetch_27 ⟨Nat.zero_le _, Nat.zero_le _⟩) hP hD hS hA (fun H locs hP hD hS => ?_)
    refine lv_iconst (v := 0) hx hb d_Ma_fetch_30 (by decide) ?_
    have hE : res = (false, f_Ma_trap 0 u) := hq.trans ((if_pos c1).trans rfl)
    exact retWb (x := false) hx hb hr hP hK hD hS (congrArg Prod.fst hE).symm (congrArg Prod.snd hE).symm d_Ma_fetch_31 hlocks
  · skip
    refine lv_aload_n hx hb d_Ma_fetch_7 rfl (lv_at hl 0 rfl) ?_
    refine va_get (D := (dC, dI)) (ci := 1) (v := .int (gI u 0)) (C := R_Ma) (T := F_Ma) (N := 10) hx hb hts in_Ma hown hK hP 1 rfl rfl 4 (by decide) (hts _ m_4_18) (fun _ h9 => h9) rfl d_Ma_fetch_8 ?_
    refine lv_ldc (v := 65532) hx hb hown (hts _ m_6_18) d_Ma_fetch_11 ?_
    refine lv_icmp_gt (tgt := 25) hx hb d_Ma_fetch_13 (by decide) (fun c2 => ?_) (fun c2 => ?_)
    · skip
      refine lv_aload_n hx hb d_Ma_fetch_25 rfl (lv_at hl 0 rfl) ?_
      refine lv_iconst (v := 0) hx hb d_Ma_fetch_26 (by decide) ?_
      refine callWv (va_runV (As := [.int 0]) (rest := []) ⟨hx, hb, hml, hown, hts⟩ (c_Ma_trap l dC dI cI ad u 0 s.heap.size) (cwV 1 hts (goodV m_6_19 m_6_20 m_18_37 m_0_2 m_6_21) rfl rfl rfl (by decide +kernel) ⟨Nat.le_of_ble_eq_true rfl, Nat.le_of_ble_eq_true rfl⟩) ⟨preW_blind, va_recv hK hP (ci := 1) (q0 := 1) rfl rfl, preW_ok hP hD hK⟩ rfl rfl hl.1 rfl (lv_room (Nat.le_of_ble_eq_true rfl)) d_Ma_fetch_27 ⟨Nat.zero_le _, Nat.zero_le _⟩) hP hD hS hA (fun H locs hP hD hS => ?_)
      refine lv_iconst (v := 0) hx hb d_Ma_fetch_30 (by decide) ?_
      have hE : res = (false, f_Ma_trap 0 u) := hq.trans ((if_neg c1).trans ((if_pos c2).trans rfl))
      exact retWb (x := false) hx hb hr hP hK hD hS (congrArg Prod.fst hE).symm (congrArg Prod.snd hE).symm d_Ma_fetch_31 hlocks
    · skip
      refine lv_aload_n hx hb d_Ma_fetch_16 rfl (lv_at hl 0 rfl) ?_
      refine va_get (D := (dC, dI)) (ci := 1) (v := .int (gI u 0)) (C := R_Ma) (T := F_Ma) (N := 10) hx hb hts in_Ma hown hK hP 1 rfl rfl 4 (by decide) (hts _ m_4_18) (fun _ h9 => h9) rfl d_Ma_fetch_17 ?_
      refine lv_iconst (v := 3) hx hb d_Ma_fetch_20 (by decide) ?_
      refine lv_iand hx hb d_Ma_fetch_21 ?_
      refine lv_if_eq (tgt := 32) hx hb d_Ma_fetch_22 (by decide) (fun c3 => ?_) (fun c3 => ?_)
      · skip
        have hb0 := hp_pc c1 c2
        refine lv_aload_n hx hb d_Ma_fetch_32 rfl (lv_at hl 0 rfl) ?_
        refine va_get (D := (dC, dI)) (ci := 1) (v := .ref (ad 2)) (C := R_Ma) (T := F_Ma) (N := 10) hx hb hts in_Ma hown hK hP 1 rfl rfl 0 (by decide) (hts _ m_4_10) (fun _ h9 => h9) rfl d_Ma_fetch_33 ?_
        refine lv_aload_n hx hb d_Ma_fetch_36 rfl (lv_at hl 0 rfl) ?_
        refine va_get (D := (dC, dI)) (ci := 1) (v := .int (gI u 0)) (C := R_Ma) (T := F_Ma) (N := 10) hx hb hts in_Ma hown hK hP 1 rfl rfl 4 (by decide) (hts _ m_4_18) (fun _ h9 => h9) rfl d_Ma_fetch_37 ?_
        refine rw_top (y := nI ((gI u 0).toNatClampNeg)) (hp_n c1) ?_
        refine callWi (va_runV (As := [.int (nI ((gI u 0).toNatClampNeg))]) (rest := []) ⟨hx, hb, hml, hown, hts⟩ (c_Me_isOpenWord l dC dI cI ad u ((gI u 0).toNatClampNeg) (by first | assumption | omega) s.heap.size) (cwV 1 hts (goodV m_6_22 m_6_23 m_6_24 m_0_3 m_6_25) rfl rfl rfl (by decide +kernel) ⟨Nat.le_of_ble_eq_true rfl, Nat.le_of_ble_eq_true rfl⟩) ⟨preW_blind, va_recv hK hP (ci := 2) (q0 := 2) rfl rfl, preW_ok hP hD hK⟩ rfl rfl hl.1 rfl (lv_room (Nat.le_of_ble_eq_true rfl)) d_Ma_fetch_40 ⟨Nat.zero_le _, Nat.zero_le _⟩) hP hD hS hA (fun H locs hP hD hS => ?_)
        have J70 : ∀ (u1 : S5) (H : Heap) (locs : List Loc) (ls : Array Slot), res = f_Ma_fetch_70 u u1 → (OkR u1) → (gI u1 0 = gI u 0) → va_P (dC, dI) classes (wC cI ad u1) H → va_D A (wC cI ad u1) → va_S A s.heap H locs → lv_has ls 1 [(0, .ref (ad 1))] → W p l e (headSpec w_Ma_fetch rm_Ma_fetch).room s m ([.ref (ad 1)] : List Value).toArray below meth c H locs 0 0 (MQ below (QWi (dC, dI) classes [(cI, .int)] (wC cI ad) A (b2i res.1) res.2) ([.ref (ad 1)] : List Value).toArray s 0 0 A) (F0 m 70 ls []) := by
          intro u1 H locs ls hq okJ hpc hP hD hS hl
          obtain ⟨j0, j1, j2⟩ := id okJ
          have hb1 : (gI u1 0).toNatClampNeg + 4 ≤ 65536 := by rw [hpc]; exact hb0
          have c1b : ¬ gI u1 0 < 0 := by rw [hpc]; exact c1
          refine lv_aload_n hx hb d_Ma_fetch_70 rfl (lv_at hl 0 rfl) ?_
          refine lv_aload_n hx hb d_Ma_fetch_71 rfl (lv_at hl 0 rfl) ?_
          refine va_get (D := (dC, dI)) (ci := 1) (v := .ref (ad 2)) (C := R_Ma) (T := F_Ma) (N := 10) hx hb hts in_Ma hown hK hP 1 rfl rfl 0 (by decide) (hts _ m_4_10) (fun _ h9 => h9) rfl d_Ma_fetch_72 ?_
          refine lv_aload_n hx hb d_Ma_fetch_75 rfl (lv_at hl 0 rfl) ?_
          refine va_get (D := (dC, dI)) (ci := 1) (v := .int (gI u1 0)) (C := R_Ma) (T := F_Ma) (N := 10) hx hb hts in_Ma hown hK hP 1 rfl rfl 4 (by decide) (hts _ m_4_18) (fun _ h9 => h9) rfl d_Ma_fetch_76 ?_
          refine rw_top (y := nI ((gI u1 0).toNatClampNeg)) (hp_n c1b) ?_
          refine callWi (va_runV (As := [.int (nI ((gI u1 0).toNatClampNeg))]) (rest := [.ref (ad 1)]) ⟨hx, hb, hml, hown, hts⟩ (c_Me_word l dC dI cI ad u1 ((gI u1 0).toNatClampNeg) (by first | assumption | omega) H.size) (cwV 1 hts (goodV m_7_0 m_7_1 m_7_2 m_0_3 m_7_3) rfl rfl rfl (by decide +kernel) ⟨Nat.le_of_ble_eq_true rfl, Nat.le_of_ble_eq_true rfl⟩) ⟨preW_blind, va_recv hK hP (ci := 2) (q0 := 2) rfl rfl, preW_ok hP hD hK⟩ rfl rfl hl.1 rfl (lv_room (Nat.le_of_ble_eq_true rfl)) d_Ma_fetch_79 ⟨Nat.zero_le _, Nat.zero_le _⟩) hP hD hS hA (fun H locs hP hD hS => ?_)
          refine va_put (D := (dC, dI)) (ci := 1) (v := .int (f_Me_word ((gI u1 0).toNatClampNeg) u1)) (ty := .int) (C := R_Ma) (T := F_Ma) (N := 10) hx hb hts in_Ma t_Ma t_Ma_ok n_Ma hown hK hP hD hS 1 rfl rfl 5 (by decide) (hts _ m_4_20) (fun _ h9 => h9) rfl (by decide +kernel) rfl rfl (Nat.le_of_ble_eq_true rfl) d_Ma_fetch_82 (fun H locs hP hD hS => ?_)
          have hP : va_P (dC, dI) classes (wC cI ad (sI u1 1 (f_Me_word ((gI u1 0).toNatClampNeg) u1))) H := hP
          have hD : va_D A (wC cI ad (sI u1 1 (f_Me_word ((gI u1 0).toNatClampNeg) u1))) := hD
          refine lv_aload_n hx hb d_Ma_fetch_85 rfl (lv_at hl 0 rfl) ?_
          refine lv_aload_n hx hb d_Ma_fetch_86 rfl (lv_at hl 0 rfl) ?_
          refine va_get (D := (dC, dI)) (ci := 1) (v := .int (gI u1 0)) (C := R_Ma) (T := F_Ma) (N := 10) hx hb hts in_Ma hown hK hP 1 rfl rfl 4 (by decide) (hts _ m_4_18) (fun _ h9 => h9) rfl d_Ma_fetch_87 ?_
          refine lv_iconst (v := 4) hx hb d_Ma_fetch_90 (by decide) ?_
          refine lv_iadd hx hb d_Ma_fetch_91 ?_
          refine va_put (D := (dC, dI)) (ci := 1) (v := .int ((gI u1 0) + (4 : Int32))) (ty := .int) (C := R_Ma) (T := F_Ma) (N := 10) hx hb hts in_Ma t_Ma t_Ma_ok n_Ma hown hK hP hD hS 1 rfl rfl 6 (by decide) (hts _ m_4_21) (fun _ h9 => h9) rfl (by decide +kernel) rfl rfl (Nat.le_of_ble_eq_true rfl) d_Ma_fetch_92 (fun H locs hP hD hS => ?_)
          have hP : va_P (dC, dI) classes (wC cI ad (sI (sI u1 1 (f_Me_word ((gI u1 0).toNatClampNeg) u1)) 2 ((gI u1 0) + (4 : Int32)))) H := hP
          have hD : va_D A (wC cI ad (sI (sI u1 1 (f_Me_word ((gI u1 0).toNatClampNeg) u1)) 2 ((gI u1 0) + (4 : Int32)))) := hD
          refine lv_iconst (v := 1) hx hb d_Ma_fetch_95 (by decide) ?_
          have hE : res = (true, sI (sI u1 1 (f_Me_word ((gI u1 0).toNatClampNeg) u1)) 2 ((gI u1 0) + (4 : Int32))) := hq.trans (rfl)
          exact retWb (x := true) hx hb hr hP hK hD hS (congrArg Prod.fst hE).symm (congrArg Prod.snd hE).symm d_Ma_fetch_96 hlocks
        refine rb_ne (tgt := 70) hx hb d_Ma_fetch_43 (by decide) (fun c4 => ?_) (fun c4 => ?_)
        · skip
          exact J70 u _ _ _ (hq.trans ((if_neg c1).trans ((if_neg c2).trans ((if_pos c3).trans ((if_pos c4).trans rfl))))) (by first | assumption | exact nt_ok _ _ _ ok) (by first | rfl | exact (nt_fr _ _ _ _).1 0 (by decide)) hP hD hS (lv_sub hl [0] rfl)
        · skip
          refine lv_aload_n hx hb d_Ma_fetch_46 rfl (lv_at hl 0 rfl) ?_
          refine va_get (D := (dC, dI)) (ci := 1) (v := .ref (ad 4)) (C := R_Ma) (T := F_Ma) (N := 10) hx hb hts in_Ma hown hK hP 1 rfl rfl 2 (by decide) (hts _ m_4_14) (fun _ h9 => h9) rfl d_Ma_fetch_47 ?_
          refine lv_iconst (v := 1) hx hb d_Ma_fetch_50 (by decide) ?_
          refine lv_aload_n hx hb d_Ma_fetch_51 rfl (lv_at hl 0 rfl) ?_
          refine va_get (D := (dC, dI)) (ci := 1) (v := .int (gI u 0)) (C := R_Ma) (T := F_Ma) (N := 10) hx hb hts in_Ma hown hK hP 1 rfl rfl 4 (by decide) (hts _ m_4_18) (fun _ h9 => h9) rfl d_Ma_fetch_52 ?_
          refine lv_aload_n hx hb d_Ma_fetch_55 rfl (lv_at hl 0 rfl) ?_
          refine va_get (D := (dC, dI)) (ci := 1) (v := .ref (ad 2)) (C := R_Ma) (T := F_Ma) (N := 10) hx hb hts in_Ma hown hK hP 1 rfl rfl 0 (by decide) (hts _ m_4_10) (fun _ h9 => h9) rfl d_Ma_fetch_56 ?_
          refine lv_aload_n hx hb d_Ma_fetch_59 rfl (lv_at hl 0 rfl) ?_
          refine va_get (D := (dC, dI)) (ci := 1) (v := .int (gI u 0)) (C := R_Ma) (T := F_Ma) (N := 10) hx hb hts in_Ma hown hK hP 1 rfl rfl 4 (by decide) (hts _ m_4_18) (fun _ h9 => h9) rfl d_Ma_fetch_60 ?_
          refine rw_top (y := nI ((gI u 0).toNatClampNeg)) (hp_n c1) ?_
          refine lv_iconst (v := nI 4) hx hb d_Ma_fetch_63 (by decide) ?_
          refine callWi (va_runV (As := [.int (nI ((gI u 0).toNatClampNeg)), .int (nI 4)]) (rest := [.int (gI u 0), .int 1, .ref (ad 4)]) ⟨hx, hb, hml, hown, hts⟩ (c_Me_firstShut l dC dI cI ad u ((gI u 0).toNatClampNeg) 4 (by first | assumption | omega) H.size) (cwV 2 hts (goodV m_6_26 m_6_27 m_6_28 m_0_3 m_6_29) rfl rfl rfl (by decide +kernel) ⟨Nat.le_of_ble_eq_true rfl, Nat.le_of_ble_eq_true rfl⟩) ⟨preW_blind, va_recv hK hP (ci := 2) (q0 := 2) rfl rfl, preW_ok hP hD hK⟩ rfl rfl hl.1 rfl (lv_room (Nat.le_of_ble_eq_true rfl)) d_Ma_fetch_64 ⟨Nat.zero_le _, Nat.zero_le _⟩) hP hD hS hA (fun H locs hP hD hS => ?_)
          refine callWv (va_runV (As := [.int 1, .int (gI u 0), .int (f_Me_firstShut ((gI u 0).toNatClampNeg) 4 u)]) (rest := []) ⟨hx, hb, hml, hown, hts⟩ (c_Rp_note l dC dI cI ad u 1 (gI u 0) (f_Me_firstShut ((gI u 0).toNatClampNeg) 4 u) (by first | assumption | omega) (by first | assumption | omega) (by first | assumption | omega) H.size) (cwV 3 hts (goodV m_6_30 m_6_31 m_6_32 m_0_8 m_6_33) rfl rfl rfl (by decide +kernel) ⟨Nat.le_of_ble_eq_true rfl, Nat.le_of_ble_eq_true rfl⟩) ⟨preW_blind, va_recv hK hP (ci := 4) (q0 := 4) rfl rfl, preW_ok hP hD hK⟩ rfl rfl hl.1 rfl (lv_room (Nat.le_of_ble_eq_true rfl)) d_Ma_fetch_67 ⟨Nat.zero_le _, Nat.zero_le _⟩) hP hD hS hA (fun H locs hP hD hS => ?_)
          exact J70 (f_Rp_note 1 (gI u 0) (f_Me_firstShut ((gI u 0).toNatClampNeg) 4 u) u) _ _ _ (hq.trans ((if_neg c1).trans ((if_neg c2).trans ((if_pos c3).trans ((if_neg c4).trans rfl))))) (by first | assumption | exact nt_ok _ _ _ ok) (by first | rfl | exact (nt_fr _ _ _ _).1 0 (by decide)) hP hD hS (lv_sub hl [0] rfl)
      · skip
        refine lv_aload_n hx hb d_Ma_fetch_25 rfl (lv_at hl 0 rfl) ?_
        refine lv_iconst (v := 0) hx hb d_Ma_fetch_26 (by decide) ?_
        refine callWv (va_runV (As := [.int 0]) (rest := []) ⟨hx, hb, hml, hown, hts⟩ (c_Ma_trap l dC dI cI ad u 0 s.heap.size) (cwV 1 hts (goodV m_6_19 m_6_20 m_18_37 m_0_2 m_6_21) rfl rfl rfl (by decide +kernel) ⟨Nat.le_of_ble_eq_true rfl, Nat.le_of_ble_eq_true rfl⟩) ⟨preW_blind, va_recv hK hP (ci := 1) (q0 := 1) rfl rfl, preW_ok hP hD hK⟩ rfl rfl hl.1 rfl (lv_room (Nat.le_of_ble_eq_true rfl)) d_Ma_fetch_27 ⟨Nat.zero_le _, Nat.zero_le _⟩) hP hD hS hA (fun H locs hP hD hS => ?_)
        refine lv_iconst (v := 0) hx hb d_Ma_fetch_30 (by decide) ?_
        have hE : res = (false, f_Ma_trap 0 u) := hq.trans ((if_neg c1).trans ((if_neg c2).trans ((if_neg c3).trans rfl)))
        exact retWb (x := false) hx hb hr hP hK hD hS (congrArg Prod.fst hE).symm (congrArg Prod.snd hE).symm d_Ma_fetch_31 hlocks
def w_Ma_jump : List Cond := .code y_Ma_jump b_Ma_jump 3 none :: ALLW
def rm_Ma_jump : Room := { frames := 21, cells := 0, slots := 0, locals := 623 }
theorem d_Ma_jump_0 : decode b_Ma_jump 0 = .ok (.iload_n 1, 1) := by decide +kernel
theorem d_Ma_jump_1 : decode b_Ma_jump 1 = .ok (.invokestatic 84, 3) := by decide +kernel
theorem d_Ma_jump_4 : decode b_Ma_jump 4 = .ok (.istore_n 2, 1) := by decide +kernel
theorem d_Ma_jump_5 : decode b_Ma_jump 5 = .ok (.iload_n 2, 1) := by decide +kernel
theorem d_Ma_jump_6 : decode b_Ma_jump 6 = .ok (.iconst 1, 1) := by decide +kernel
theorem d_Ma_jump_7 : decode b_Ma_jump 7 = .ok (.if_icmp .ne 16, 3) := by decide +kernel
theorem d_Ma_jump_10 : decode b_Ma_jump 10 = .ok (.aload_n 0, 1) := by decide +kernel
theorem d_Ma_jump_11 : decode b_Ma_jump 11 = .ok (.getfield 28, 3) := by decide +kernel
theorem d_Ma_jump_14 : decode b_Ma_jump 14 = .ok (.aload_n 0, 1) := by decide +kernel
theorem d_Ma_jump_15 : decode b_Ma_jump 15 = .ok (.getfield 45, 3) := by decide +kernel
theorem d_Ma_jump_18 : decode b_Ma_jump 18 = .ok (.iconst 4, 1) := by decide +kernel
theorem d_Ma_jump_19 : decode b_Ma_jump 19 = .ok (.iadd, 1) := by decide +kernel
theorem d_Ma_jump_20 : decode b_Ma_jump 20 = .ok (.invokevirtual 141, 3) := by decide +kernel
theorem d_Ma_jump_23 : decode b_Ma_jump 23 = .ok (.aload_n 0, 1) := by decide +kernel
theorem d_Ma_jump_24 : decode b_Ma_jump 24 = .ok (.getfield 21, 3) := by decide +kernel
theorem d_Ma_jump_27 : decode b_Ma_jump 27 = .ok (.iload_n 2, 1) := by decide +kernel
theorem d_Ma_jump_28 : decode b_Ma_jump 28 = .ok (.aload_n 0, 1) := by decide +kernel
theorem d_Ma_jump_29 : decode b_Ma_jump 29 = .ok (.getfield 45, 3) := by decide +kernel
theorem d_Ma_jump_32 : decode b_Ma_jump 32 = .ok (.iconst 4, 1) := by decide +kernel
theorem d_Ma_jump_33 : decode b_Ma_jump 33 = .ok (.iadd, 1) := by decide +kernel
theorem d_Ma_jump_34 : decode b_Ma_jump 34 = .ok (.iconst 0, 1) := by decide +kernel
theorem d_Ma_jump_35 : decode b_Ma_jump 35 = .ok (.invokevirtual 92, 3) := by decide +kernel
theorem d_Ma_jump_38 : decode b_Ma_jump 38 = .ok (.aload_n 0, 1) := by decide +kernel
theorem d_Ma_jump_39 : decode b_Ma_jump 39 = .ok (.aload_n 0, 1) := by decide +kernel
theorem d_Ma_jump_40 : decode b_Ma_jump 40 = .ok (.getfield 45, 3) := by decide +kernel
theorem d_Ma_jump_43 : decode b_Ma_jump 43 = .ok (.iload_n 1, 1) := by decide +kernel
theorem d_Ma_jump_44 : decode b_Ma_jump 44 = .ok (.invokestatic 144, 3) := by decide +kernel
theorem d_Ma_jump_47 : decode b_Ma_jump 47 = .ok (.iadd, 1) := by decide +kernel
theorem d_Ma_jump_48 : decode b_Ma_jump 48 = .ok (.putfield 81, 3) := by decide +kernel
theorem d_Ma_jump_51 : decode b_Ma_jump 51 = .ok (.return_, 1) := by decide +kernel
def f_Ma_jump_23 (w : Int32) (u : S5) (u1 : S5) : S5 := sI (f_Rg_put (f_Wo_d w) ((gI u1 0) + (4 : Int32)) 0 u1) 2 ((gI (f_Rg_put (f_Wo_d w) ((gI u1 0) + (4 : Int32)) 0 u1) 0) + (f_Wo_jumpOffset w))
def f_Ma_jump (w : Int32) (u : S5) : S5 := if (f_Wo_d w) = 1 then f_Ma_jump_23 w u (f_Rp_pushReturn ((gI u 0) + (4 : Int32)) u) else f_Ma_jump_23 w u u
set_option maxHeartbeats 8000000 in
set_option maxRecDepth 100000 in
theorem c_Ma_jump (l : Launch) (dC : Nat → ClassId) (dI : Nat → Nat → Nat) (cI : ClassId) (ad : Nat → Nat) (u : S5) (w : Int32) (ok : OkR u) (sz : Nat) : Met l y_Ma_jump w_Ma_jump rm_Ma_jump (PreW (dC, dI) classes [(cI, .int)] (wC cI ad) u sz [.ref (ad 1), .int w]) (QWv (dC, dI) classes [(cI, .int)] (wC cI ad) (va_A (wC cI ad u) sz) (f_Ma_jump w u)) 0 0 (va_A (wC cI ad u) sz) := by
  generalize hres : f_Ma_jump w u = res
  refine Met.ofW (cc := b_Ma_jump) (maxL := 3) (ret := none) (by decide) rfl ?_
  intro p e s m args below meth c s₁ B hml hv
  obtain ⟨rfl, rfl, hP, hK, hD0⟩ := hv
  have hx := B.exec
  have hb := B.bytes
  have hr := B.returns
  have hts : ∀ w9 ∈ ALLW, w9.before ([.ref (ad 1), .int w] : List Value).toArray s = true := fun w9 h => atoms_spec (ws := w_Ma_jump) B.pre w9 (List.mem_cons_of_mem _ h)
  have hown : s.vm.findClass R_Ma = some m.cls := findClass_of_methodNamed B.named
  have hlocks := B.notSynchronized
  have hD := hD0.self (sz := s.heap.size)
  generalize hAe : va_A (wC cI ad u) s.heap.size = A at hD ⊢
  have hA : ∀ q : Nat, s.heap.size ≤ q → A q := fun q h => by rw [← hAe]; exact Or.inr h
  have hS : va_S A s.heap s.heap [] := va_S.rf
  have hl := lv_entry ([.ref (ad 1), .int w]) (n := 3) (Nat.le_of_ble_eq_true rfl)
  rw [lg_entry_eq]
  generalize (lg_sl ([.ref (ad 1), .int w]) ++ List.replicate (3 - (lg_sl ([.ref (ad 1), .int w])).length) Slot.unset).toArray = ls at hl ⊢
  have hl : lv_has ls 3 [(0, .ref (ad 1)), (1, .int w)] := hl
  have hq := hres.symm
  skip
  obtain ⟨ok0, ok1, ok2⟩ := id ok
  have hf := bWo_f w
  have ha := bWo_a w
  have hd := bWo_d w
  have hbb := bWo_b w
  refine lv_iload_n hx hb d_Ma_jump_0 rfl (lv_at hl 1 rfl) ?_
  refine callPi (va_runS (As := [.int w]) (rest := []) ⟨hx, hb, hml, hown, hts⟩ (c_Wo_d l w s.heap.size) (va_cwS 1 hts (goodS m_7_8 m_7_9 m_0_13 m_7_10) rfl rfl rfl (by decide +kernel) ⟨Nat.le_of_ble_eq_true rfl, Nat.le_of_ble_eq_true rfl⟩) ⟨preP_blind, preP_ok⟩ rfl rfl hl.1 rfl (lv_room (Nat.le_of_ble_eq_true rfl)) d_Ma_jump_1 ⟨Nat.zero_le _, Nat.zero_le _⟩) hP hS hA (fun H locs hP hS => ?_)
  refine lv_istore_n (lv' := [(2, .int (nI (f_Wo_d w))), (0, .ref (ad 1)), (1, .int w)]) hx hb d_Ma_jump_4 rfl hl (by decide) rfl (fun ls hl => ?_)
  refine lv_iload_n hx hb d_Ma_jump_5 rfl (lv_at hl 0 rfl) ?_
  refine lv_iconst (v := nI 1) hx hb d_Ma_jump_6 (by decide) ?_
  have J23 : ∀ (u1 : S5) (H : Heap) (locs : List Loc) (ls : Array Slot), res = f_Ma_jump_23 w u u1 → va_P (dC, dI) classes (wC cI ad u1) H → va_D A (wC cI ad u1) → va_S A s.heap H locs → lv_has ls 3 [(2, .int (nI (f_Wo_d w))), (0, .ref (ad 1)), (1, .int w)] → W p l e (headSpec w_Ma_jump rm_Ma_jump).room s m ([.ref (ad 1), .int w] : List Value).toArray below meth c H locs 0 0 (MQ below (QWv (dC, dI) classes [(cI, .int)] (wC cI ad) A res) ([.ref (ad 1), .int w] : List Value).toArray s 0 0 A) (F0 m 23 ls []) := by
    intro u1 H locs ls hq hP hD hS hl
    refine lv_aload_n hx hb d_Ma_jump_23 rfl (lv_at hl 1 rfl) ?_
    refine va_get (D := (dC, dI)) (ci := 1) (v := .ref (ad 3)) (C := R_Ma) (T := F_Ma) (N := 10) hx hb hts in_Ma hown hK hP 1 rfl rfl 1 (by decide) (hts _ m_4_12) (fun _ h9 => h9) rfl d_Ma_jump_24 ?_
    refine lv_iload_n hx hb d_Ma_jump_27 rfl (lv_at hl 0 rfl) ?_
    refine lv_aload_n hx hb d_Ma_jump_28 rfl (lv_at hl 1 rfl) ?_
    refine va_get (D := (dC, dI)) (ci := 1) (v := .int (gI u1 0)) (C := R_Ma) (T := F_Ma) (N := 10) hx hb hts in_Ma hown hK hP 1 rfl rfl 4 (by decide) (hts _ m_4_18) (fun _ h9 => h9) rfl d_Ma_jump_29 ?_
    refine lv_iconst (v := 4) hx hb d_Ma_jump_32 (by decide) ?_
    refine lv_iadd hx hb d_Ma_jump_33 ?_
    refine lv_iconst (v := 0) hx hb d_Ma_jump_34 (by decide) ?_
    refine callWv (va_runV (As := [.int (nI (f_Wo_d w)), .int ((gI u1 0) + (4 : Int32)), .int 0]) (rest := []) ⟨hx, hb, hml, hown, hts⟩ (c_Rg_put l dC dI cI ad u1 (f_Wo_d w) ((gI u1 0) + (4 : Int32)) 0 (by first | assumption | omega) H.size) (cwV 3 hts (goodV m_7_14 m_7_15 m_7_16 m_0_7 m_7_17) rfl rfl rfl (by decide +kernel) ⟨Nat.le_of_ble_eq_true rfl, Nat.le_of_ble_eq_true rfl⟩) ⟨preW_blind, va_recv hK hP (ci := 3) (q0 := 3) rfl rfl, preW_ok hP hD hK⟩ rfl rfl hl.1 rfl (lv_room (Nat.le_of_ble_eq_true rfl)) d_Ma_jump_35 ⟨Nat.zero_le _, Nat.zero_le _⟩) hP hD hS hA (fun H locs hP hD hS => ?_)
    refine lv_aload_n hx hb d_Ma_jump_38 rfl (lv_at hl 1 rfl) ?_
    refine lv_aload_n hx hb d_Ma_jump_39 rfl (lv_at hl 1 rfl) ?_
    refine va_get (D := (dC, dI)) (ci := 1) (v := .int (gI (f_Rg_put (f_Wo_d w) ((gI u1 0) + (4 : Int32)) 0 u1) 0)) (C := R_Ma) (T := F_Ma) (N := 10) hx hb hts in_Ma hown hK hP 1 rfl rfl 4 (by decide) (hts _ m_4_18) (fun _ h9 => h9) rfl d_Ma_jump_40 ?_
    refine lv_iload_n hx hb d_Ma_jump_43 rfl (lv_at hl 2 rfl) ?_
    refine callPi (va_runS (As := [.int w]) (rest := [.int (gI (f_Rg_put (f_Wo_d w) ((gI u1 0) + (4 : Int32)) 0 u1) 0), .ref (ad 1)]) ⟨hx, hb, hml, hown, hts⟩ (c_Wo_jumpOffset l w H.size) (va_cwS 1 hts (goodS m_7_25 m_7_26 m_0_13 m_7_27) rfl rfl rfl (by decide +kernel) ⟨Nat.le_of_ble_eq_true rfl, Nat.le_of_ble_eq_true rfl⟩) ⟨preP_blind, preP_ok⟩ rfl rfl hl.1 rfl (lv_room (Nat.le_of_ble_eq_true rfl)) d_Ma_jump_44 ⟨Nat.zero_le _, Nat.zero_le _⟩) hP hS hA (fun H locs hP hS => ?_)
    refine lv_iadd hx hb d_Ma_jump_47 ?_
    refine va_put (D := (dC, dI)) (ci := 1) (v := .int ((gI (f_Rg_put (f_Wo_d w) ((gI u1 0) + (4 : Int32)) 0 u1) 0) + (f_Wo_jumpOffset w))) (ty := .int) (C := R_Ma) (T := F_Ma) (N := 10) hx hb hts in_Ma t_Ma t_Ma_ok n_Ma hown hK hP hD hS 1 rfl rfl 6 (by decide) (hts _ m_4_21) (fun _ h9 => h9) rfl (by decide +kernel) rfl rfl (Nat.le_of_ble_eq_true rfl) d_Ma_jump_48 (fun H locs hP hD hS => ?_)
    have hP : va_P (dC, dI) classes (wC cI ad (sI (f_Rg_put (f_Wo_d w) ((gI u1 0) + (4 : Int32)) 0 u1) 2 ((gI (f_Rg_put (f_Wo_d w) ((gI u1 0) + (4 : Int32)) 0 u1) 0) + (f_Wo_jumpOffset w)))) H := hP
    have hD : va_D A (wC cI ad (sI (f_Rg_put (f_Wo_d w) ((gI u1 0) + (4 : Int32)) 0 u1) 2 ((gI (f_Rg_put (f_Wo_d w) ((gI u1 0) + (4 : Int32)) 0 u1) 0) + (f_Wo_jumpOffset w)))) := hD
    have hE : res = sI (f_Rg_put (f_Wo_d w) ((gI u1 0) + (4 : Int32)) 0 u1) 2 ((gI (f_Rg_put (f_Wo_d w) ((gI u1 0) + (4 : Int32)) 0 u1) 0) + (f_Wo_jumpOffset w)) := hq.trans (rfl)
    exact retWv hx hb hr hP hK hD hS hE.symm d_Ma_jump_51 hlocks
  refine rn_ne (tgt := 23) hx hb (by omega) (by omega) d_Ma_jump_7 (by decide) (fun c1 => ?_) (fun c1 => ?_)
  · skip
    exact J23 u _ _ _ (hq.trans ((if_neg c1).trans rfl)) hP hD hS (lv_sub hl [0, 1, 2] rfl)
  · skip
    refine lv_aload_n hx hb d_Ma_jump_10 rfl (lv_at hl 1 rfl) ?_
    refine va_get (D := (dC, dI)) (ci := 1) (v := .ref (ad 4)) (C := R_Ma) (T := F_Ma) (N := 10) hx hb hts in_Ma hown hK hP 1 rfl rfl 2 (by decide) (hts _ m_4_14) (fun _ h9 => h9) rfl d_Ma_jump_11 ?_
    refine lv_aload_n hx hb d_Ma_jump_14 rfl (lv_at hl 1 rfl) ?_
    refine va_get (D := (dC, dI)) (ci := 1) (v := .int (gI u 0)) (C := R_Ma) (T := F_Ma) (N := 10) hx hb hts in_Ma hown hK hP 1 rfl rfl 4 (by decide) (hts _ m_4_18) (fun _ h9 => h9) rfl d_Ma_jump_15 ?_
    refine lv_iconst (v := 4) hx hb d_Ma_jump_18 (by decide) ?_
    refine lv_iadd hx hb d_Ma_jump_19 ?_
    refine callWv (va_runV (As := [.int ((gI u 0) + (4 : Int32))]) (rest := []) ⟨hx, hb, hml, hown, hts⟩ (c_Rp_pushReturn l dC dI cI ad u ((gI u 0) + (4 : Int32)) (by first | assumption | omega) (by first | assumption | omega) H.size) (cwV 1 hts (goodV m_7_21 m_7_22 m_7_23 m_0_8 m_7_24) rfl rfl rfl (by decide +kernel) ⟨Nat.le_of_ble_eq_true rfl, Nat.le_of_ble_eq_true rfl⟩) ⟨preW_blind, va_recv hK hP (ci := 4) (q0 := 4) rfl rfl, preW_ok hP hD hK⟩ rfl rfl hl.1 rfl (lv_room (Nat.le_of_ble_eq_true rfl)) d_Ma_jump_20 ⟨Nat.zero_le _, Nat.zero_le _⟩) hP hD hS hA (fun H locs hP hD hS => ?_)
    exact J23 (f_Rp_pushReturn ((gI u 0) + (4 : Int32)) u) _ _ _ (hq.trans ((if_pos c1).trans rfl)) hP hD hS (lv_sub hl [0, 1, 2] rfl)
def w_Ma_jumpToRegister : List Cond := .code y_Ma_jumpToRegister b_Ma_jumpToRegister 5 none :: ALLW
def rm_Ma_jumpToRegister : Room := { frames := 22, cells := 0, slots := 0, locals := 648 }
theorem d_Ma_jumpToRegister_0 : decode b_Ma_jumpToRegister 0 = .ok (.iload_n 1, 1) := by decide +kernel
theorem d_Ma_jumpToRegister_1 : decode b_Ma_jumpToRegister 1 = .ok (.invokestatic 113, 3) := by decide +kernel
theorem d_Ma_jumpToRegister_4 : decode b_Ma_jumpToRegister 4 = .ok (.ifCond .eq 9, 3) := by decide +kernel
theorem d_Ma_jumpToRegister_7 : decode b_Ma_jumpToRegister 7 = .ok (.aload_n 0, 1) := by decide +kernel
theorem d_Ma_jumpToRegister_8 : decode b_Ma_jumpToRegister 8 = .ok (.iconst 1, 1) := by decide +kernel
theorem d_Ma_jumpToRegister_9 : decode b_Ma_jumpToRegister 9 = .ok (.invokevirtual 59, 3) := by decide +kernel
theorem d_Ma_jumpToRegister_12 : decode b_Ma_jumpToRegister 12 = .ok (.return_, 1) := by decide +kernel
theorem d_Ma_jumpToRegister_13 : decode b_Ma_jumpToRegister 13 = .ok (.iload_n 1, 1) := by decide +kernel
theorem d_Ma_jumpToRegister_14 : decode b_Ma_jumpToRegister 14 = .ok (.invokestatic 147, 3) := by decide +kernel
theorem d_Ma_jumpToRegister_17 : decode b_Ma_jumpToRegister 17 = .ok (.istore_n 2, 1) := by decide +kernel
theorem d_Ma_jumpToRegister_18 : decode b_Ma_jumpToRegister 18 = .ok (.iload_n 1, 1) := by decide +kernel
theorem d_Ma_jumpToRegister_19 : decode b_Ma_jumpToRegister 19 = .ok (.invokestatic 84, 3) := by decide +kernel
theorem d_Ma_jumpToRegister_22 : decode b_Ma_jumpToRegister 22 = .ok (.istore_n 3, 1) := by decide +kernel
theorem d_Ma_jumpToRegister_23 : decode b_Ma_jumpToRegister 23 = .ok (.aload_n 0, 1) := by decide +kernel
theorem d_Ma_jumpToRegister_24 : decode b_Ma_jumpToRegister 24 = .ok (.getfield 21, 3) := by decide +kernel
theorem d_Ma_jumpToRegister_27 : decode b_Ma_jumpToRegister 27 = .ok (.getfield 124, 3) := by decide +kernel
theorem d_Ma_jumpToRegister_30 : decode b_Ma_jumpToRegister 30 = .ok (.iload_n 2, 1) := by decide +kernel
theorem d_Ma_jumpToRegister_31 : decode b_Ma_jumpToRegister 31 = .ok (.iaload, 1) := by decide +kernel
theorem d_Ma_jumpToRegister_32 : decode b_Ma_jumpToRegister 32 = .ok (.iload_n 1, 1) := by decide +kernel
theorem d_Ma_jumpToRegister_33 : decode b_Ma_jumpToRegister 33 = .ok (.invokestatic 150, 3) := by decide +kernel
theorem d_Ma_jumpToRegister_36 : decode b_Ma_jumpToRegister 36 = .ok (.iadd, 1) := by decide +kernel
theorem d_Ma_jumpToRegister_37 : decode b_Ma_jumpToRegister 37 = .ok (.bipush (-2), 2) := by decide +kernel
theorem d_Ma_jumpToRegister_39 : decode b_Ma_jumpToRegister 39 = .ok (.iand, 1) := by decide +kernel
theorem d_Ma_jumpToRegister_40 : decode b_Ma_jumpToRegister 40 = .ok (.istore 4, 2) := by decide +kernel
theorem d_Ma_jumpToRegister_42 : decode b_Ma_jumpToRegister 42 = .ok (.aload_n 0, 1) := by decide +kernel
theorem d_Ma_jumpToRegister_43 : decode b_Ma_jumpToRegister 43 = .ok (.getfield 21, 3) := by decide +kernel
theorem d_Ma_jumpToRegister_46 : decode b_Ma_jumpToRegister 46 = .ok (.getfield 131, 3) := by decide +kernel
theorem d_Ma_jumpToRegister_49 : decode b_Ma_jumpToRegister 49 = .ok (.iload_n 2, 1) := by decide +kernel
theorem d_Ma_jumpToRegister_50 : decode b_Ma_jumpToRegister 50 = .ok (.iaload, 1) := by decide +kernel
theorem d_Ma_jumpToRegister_51 : decode b_Ma_jumpToRegister 51 = .ok (.ifCond .eq 17, 3) := by decide +kernel
theorem d_Ma_jumpToRegister_54 : decode b_Ma_jumpToRegister 54 = .ok (.aload_n 0, 1) := by decide +kernel
theorem d_Ma_jumpToRegister_55 : decode b_Ma_jumpToRegister 55 = .ok (.getfield 28, 3) := by decide +kernel
theorem d_Ma_jumpToRegister_58 : decode b_Ma_jumpToRegister 58 = .ok (.iconst 3, 1) := by decide +kernel
theorem d_Ma_jumpToRegister_59 : decode b_Ma_jumpToRegister 59 = .ok (.aload_n 0, 1) := by decide +kernel
theorem d_Ma_jumpToRegister_60 : decode b_Ma_jumpToRegister 60 = .ok (.getfield 45, 3) := by decide +kernel
theorem d_Ma_jumpToRegister_63 : decode b_Ma_jumpToRegister 63 = .ok (.iload 4, 2) := by decide +kernel
theorem d_Ma_jumpToRegister_65 : decode b_Ma_jumpToRegister 65 = .ok (.invokevirtual 71, 3) := by decide +kernel
theorem d_Ma_jumpToRegister_68 : decode b_Ma_jumpToRegister 68 = .ok (.iload_n 3, 1) := by decide +kernel
theorem d_Ma_jumpToRegister_69 : decode b_Ma_jumpToRegister 69 = .ok (.iconst 1, 1) := by decide +kernel
theorem d_Ma_jumpToRegister_70 : decode b_Ma_jumpToRegister 70 = .ok (.if_icmp .ne 19, 3) := by decide +kernel
theorem d_Ma_jumpToRegister_73 : decode b_Ma_jumpToRegister 73 = .ok (.aload_n 0, 1) := by decide +kernel
theorem d_Ma_jumpToRegister_74 : decode b_Ma_jumpToRegister 74 = .ok (.getfield 28, 3) := by decide +kernel
theorem d_Ma_jumpToRegister_77 : decode b_Ma_jumpToRegister 77 = .ok (.aload_n 0, 1) := by decide +kernel
theorem d_Ma_jumpToRegister_78 : decode b_Ma_jumpToRegister 78 = .ok (.getfield 45, 3) := by decide +kernel
theorem d_Ma_jumpToRegister_81 : decode b_Ma_jumpToRegister 81 = .ok (.iconst 4, 1) := by decide +kernel
theorem d_Ma_jumpToRegister_82 : decode b_Ma_jumpToRegister 82 = .ok (.iadd, 1) := by decide +kernel
theorem d_Ma_jumpToRegister_83 : decode b_Ma_jumpToRegister 83 = .ok (.invokevirtual 141, 3) := by decide +kernel
theorem d_Ma_jumpToRegister_86 : decode b_Ma_jumpToRegister 86 = .ok (.goto 15, 3) := by decide +kernel
theorem d_Ma_jumpToRegister_89 : decode b_Ma_jumpToRegister 89 = .ok (.iload_n 2, 1) := by decide +kernel
theorem d_Ma_jumpToRegister_90 : decode b_Ma_jumpToRegister 90 = .ok (.iconst 1, 1) := by decide +kernel
theorem d_Ma_jumpToRegister_91 : decode b_Ma_jumpToRegister 91 = .ok (.if_icmp .ne 10, 3) := by decide +kernel
theorem d_Ma_jumpToRegister_94 : decode b_Ma_jumpToRegister 94 = .ok (.aload_n 0, 1) := by decide +kernel
theorem d_Ma_jumpToRegister_95 : decode b_Ma_jumpToRegister 95 = .ok (.getfield 28, 3) := by decide +kernel
theorem d_Ma_jumpToRegister_98 : decode b_Ma_jumpToRegister 98 = .ok (.invokevirtual 153, 3) := by decide +kernel
theorem d_Ma_jumpToRegister_101 : decode b_Ma_jumpToRegister 101 = .ok (.aload_n 0, 1) := by decide +kernel
theorem d_Ma_jumpToRegister_102 : decode b_Ma_jumpToRegister 102 = .ok (.getfield 21, 3) := by decide +kernel
theorem d_Ma_jumpToRegister_105 : decode b_Ma_jumpToRegister 105 = .ok (.iload_n 3, 1) := by decide +kernel
theorem d_Ma_jumpToRegister_106 : decode b_Ma_jumpToRegister 106 = .ok (.aload_n 0, 1) := by decide +kernel
theorem d_Ma_jumpToRegister_107 : decode b_Ma_jumpToRegister 107 = .ok (.getfield 45, 3) := by decide +kernel
theorem d_Ma_jumpToRegister_110 : decode b_Ma_jumpToRegister 110 = .ok (.iconst 4, 1) := by decide +kernel
theorem d_Ma_jumpToRegister_111 : decode b_Ma_jumpToRegister 111 = .ok (.iadd, 1) := by decide +kernel
theorem d_Ma_jumpToRegister_112 : decode b_Ma_jumpToRegister 112 = .ok (.iconst 0, 1) := by decide +kernel
theorem d_Ma_jumpToRegister_113 : decode b_Ma_jumpToRegister 113 = .ok (.invokevirtual 92, 3) := by decide +kernel
theorem d_Ma_jumpToRegister_116 : decode b_Ma_jumpToRegister 116 = .ok (.aload_n 0, 1) := by decide +kernel
theorem d_Ma_jumpToRegister_117 : decode b_Ma_jumpToRegister 117 = .ok (.iload 4, 2) := by decide +kernel
theorem d_Ma_jumpToRegister_119 : decode b_Ma_jumpToRegister 119 = .ok (.putfield 81, 3) := by decide +kernel
theorem d_Ma_jumpToRegister_122 : decode b_Ma_jumpToRegister 122 = .ok (.return_, 1) := by decide +kernel
def f_Ma_jumpToRegister_101 (w : Int32) (u : S5) (u2 : S5) : S5 := sI (f_Rg_put (f_Wo_d w) ((gI u2 0) + (4 : Int32)) 0 u2) 2 (((aI u 2 (f_Wo_a w)) + (f_Wo_immediate w)) &&& (-2 : Int32))
def f_Ma_jumpToRegister_68 (w : Int32) (u : S5) (u1 : S5) : S5 := if (f_Wo_d w) = 1 then f_Ma_jumpToRegister_101 w u (f_Rp_pushReturn ((gI u1 0) + (4 : Int32)) u1) else if (f_Wo_a w) = 1 then f_Ma_jumpToRegister_101 w u (f_Rp_popReturn u1) else f_Ma_jumpToRegister_101 w u u1
def f_Ma_jumpToRegister (w : Int32) (u : S5) : S5 := if (f_Wo_f w) = 0 then (if (aI u 3 (f_Wo_a w)) = 0 then f_Ma_jumpToRegister_68 w u u else f_Ma_jumpToRegister_68 w u (f_Rp_note 3 (gI u 0) (((aI u 2 (f_Wo_a w)) + (f_Wo_immediate w)) &&& (-2 : Int32)) u)) else f_Ma_trap 1 u
set_option maxHeartbeats 8000000 in
set_option maxRecDepth 100000 in
theorem c_Ma_jumpToRegister (l : Launch) (dC : Nat → ClassId) (dI : Nat → Nat → Nat) (cI : ClassId) (ad : Nat → Nat) (u : S5) (w : Int32) (ok : OkR u) (sz : Nat) : Met l y_Ma_jumpToRegister w_Ma_jumpToRegister rm_Ma_jumpToRegister (PreW (dC, dI) classes [(cI, .int)] (wC cI ad) u sz [.ref (ad 1), .int w]) (QWv (dC, dI) classes [(cI, .int)] (wC cI ad) (va_A (wC cI ad u) sz) (f_Ma_jumpToRegister w u)) 0 0 (va_A (wC cI ad u) sz) := by
  generalize hres : f_Ma_jumpToRegister w u = res
  refine Met.ofW (cc := b_Ma_jumpToRegister) (maxL := 5) (ret := none) (by decide) rfl ?_
  intro p e s m args below meth c s₁ B hml hv
  obtain ⟨rfl, rfl, hP, hK, hD0⟩ := hv
  have hx := B.exec
  have hb := B.bytes
  have hr := B.returns
  have hts : ∀ w9 ∈ ALLW, w9.before ([.ref (ad 1), .int w] : List Value).toArray s = true := fun w9 h => atoms_spec (ws := w_Ma_jumpToRegister) B.pre w9 (List.mem_cons_of_mem _ h)
  have hown : s.vm.findClass R_Ma = some m.cls := findClass_of_methodNamed B.named
  have hlocks := B.notSynchronized
  have hD := hD0.self (sz := s.heap.size)
  generalize hAe : va_A (wC cI ad u) s.heap.size = A at hD ⊢
  have hA : ∀ q : Nat, s.heap.size ≤ q → A q := fun q h => by rw [← hAe]; exact Or.inr h
  have hS : va_S A s.heap s.heap [] := va_S.rf
  have hl := lv_entry ([.ref (ad 1), .int w]) (n := 5) (Nat.le_of_ble_eq_true rfl)
  rw [lg_entry_eq]
  generalize (lg_sl ([.ref (ad 1), .int w]) ++ List.replicate (5 - (lg_sl ([.ref (ad 1), .int w])).length) Slot.unset).toArray = ls at hl ⊢
  have hl : lv_has ls 5 [(0, .ref (ad 1)), (1, .int w)] := hl
  have hq := hres.symm
  skip
  obtain ⟨ok0, ok1, ok2⟩ := id ok
  have hf := bWo_f w
  have ha := bWo_a w
  have hd := bWo_d w
  have hbb := bWo_b w
  refine lv_iload_n hx hb d_Ma_jumpToRegister_0 rfl (lv_at hl 1 rfl) ?_
  refine callPi (va_runS (As := [.int w]) (rest := []) ⟨hx, hb, hml, hown, hts⟩ (c_Wo_f l w s.heap.size) (va_cwS 1 hts (goodS m_7_32 m_7_33 m_0_13 m_7_34) rfl rfl rfl (by decide +kernel) ⟨Nat.le_of_ble_eq_true rfl, Nat.le_of_ble_eq_true rfl⟩) ⟨preP_blind, preP_ok⟩ rfl rfl hl.1 rfl (lv_room (Nat.le_of_ble_eq_true rfl)) d_Ma_jumpToRegister_1 ⟨Nat.zero_le _, Nat.zero_le _⟩) hP hS hA (fun H locs hP hS => ?_)
  refine rz_eq (tgt := 13) hx hb (by omega) d_Ma_jumpToRegister_4 (by decide) (fun c1 => ?_) (fun c1 => ?_)
  · skip
    refine lv_iload_n hx hb d_Ma_jumpToRegister_13 rfl (lv_at hl 1 rfl) ?_
    refine callPi (va_runS (As := [.int w]) (rest := []) ⟨hx, hb, hml, hown, hts⟩ (c_Wo_a l w H.size) (va_cwS 1 hts (goodS m_7_35 m_7_36 m_0_13 m_7_37) rfl rfl rfl (by decide +kernel) ⟨Nat.le_of_ble_eq_true rfl, Nat.le_of_ble_eq_true rfl⟩) ⟨preP_blind, preP_ok⟩ rfl rfl hl.1 rfl (lv_room (Nat.le_of_ble_eq_true rfl)) d_Ma_jumpToRegister_14 ⟨Nat.zero_le _, Nat.zero_le _⟩) hP hS hA (fun H locs hP hS => ?_)
    refine lv_istore_n (lv' := [(2, .int (nI (f_Wo_a w))), (0, .ref (ad 1)), (1, .int w)]) hx hb d_Ma_jumpToRegister_17 rfl hl (by decide) rfl (fun ls hl => ?_)
    refine lv_iload_n hx hb d_Ma_jumpToRegister_18 rfl (lv_at hl 2 rfl) ?_
    refine callPi (va_runS (As := [.int w]) (rest := []) ⟨hx, hb, hml, hown, hts⟩ (c_Wo_d l w H.size) (va_cwS 1 hts (goodS m_7_8 m_7_9 m_0_13 m_7_10) rfl rfl rfl (by decide +kernel) ⟨Nat.le_of_ble_eq_true rfl, Nat.le_of_ble_eq_true rfl⟩) ⟨preP_blind, preP_ok⟩ rfl rfl hl.1 rfl (lv_room (Nat.le_of_ble_eq_true rfl)) d_Ma_jumpToRegister_19 ⟨Nat.zero_le _, Nat.zero_le _⟩) hP hS hA (fun H locs hP hS => ?_)
    refine lv_istore_n (lv' := [(3, .int (nI (f_Wo_d w))), (2, .int (nI (f_Wo_a w))), (0, .ref (ad 1)), (1, .int w)]) hx hb d_Ma_jumpToRegister_22 rfl hl (by decide) rfl (fun ls hl => ?_)
    refine lv_aload_n hx hb d_Ma_jumpToRegister_23 rfl (lv_at hl 2 rfl) ?_
    refine va_get (D := (dC, dI)) (ci := 1) (v := .ref (ad 3)) (C := R_Ma) (T := F_Ma) (N := 10) hx hb hts in_Ma hown hK hP 1 rfl rfl 1 (by decide) (hts _ m_4_12) (fun _ h9 => h9) rfl d_Ma_jumpToRegister_24 ?_
    refine va_get (D := (dC, dI)) (ci := 3) (v := .ref (ad 10)) (C := R_Rg) (T := F_Rg) (N := 2) hx hb hts in_Rg hown hK hP 3 rfl rfl 0 (by decide) (hts _ m_1_37) (fun _ h9 => h9) rfl d_Ma_jumpToRegister_27 ?_
    refine lv_iload_n hx hb d_Ma_jumpToRegister_30 rfl (lv_at hl 1 rfl) ?_
    refine aldC_value (u := u) (v := aI u 2 (f_Wo_a w)) hx hb hK hP (by omega) rfl d_Ma_jumpToRegister_31 ?_
    refine lv_iload_n hx hb d_Ma_jumpToRegister_32 rfl (lv_at hl 3 rfl) ?_
    refine callPi (va_runS (As := [.int w]) (rest := [.int (aI u 2 (f_Wo_a w))]) ⟨hx, hb, hml, hown, hts⟩ (c_Wo_immediate l w H.size) (va_cwS 1 hts (goodS m_7_38 m_7_39 m_0_13 m_8_0) rfl rfl rfl (by decide +kernel) ⟨Nat.le_of_ble_eq_true rfl, Nat.le_of_ble_eq_true rfl⟩) ⟨preP_blind, preP_ok⟩ rfl rfl hl.1 rfl (lv_room (Nat.le_of_ble_eq_true rfl)) d_Ma_jumpToRegister_33 ⟨Nat.zero_le _, Nat.zero_le _⟩) hP hS hA (fun H locs hP hS => ?_)
    refine lv_iadd hx hb d_Ma_jumpToRegister_36 ?_
    refine lv_bipush (v := (-2)) hx hb d_Ma_jumpToRegister_37 (by decide) ?_
    refine lv_iand hx hb d_Ma_jumpToRegister_39 ?_
    refine lv_istore (lv' := [(4, .int (((aI u 2 (f_Wo_a w)) + (f_Wo_immediate w)) &&& (-2 : Int32))), (3, .int (nI (f_Wo_d w))), (2, .int (nI (f_Wo_a w))), (0, .ref (ad 1)), (1, .int w)]) hx hb d_Ma_jumpToRegister_40 hl (by decide) rfl (fun ls hl => ?_)
    refine lv_aload_n hx hb d_Ma_jumpToRegister_42 rfl (lv_at hl 3 rfl) ?_
    refine va_get (D := (dC, dI)) (ci := 1) (v := .ref (ad 3)) (C := R_Ma) (T := F_Ma) (N := 10) hx hb hts in_Ma hown hK hP 1 rfl rfl 1 (by decide) (hts _ m_4_12) (fun _ h9 => h9) rfl d_Ma_jumpToRegister_43 ?_
    refine va_get (D := (dC, dI)) (ci := 3) (v := .ref (ad 11)) (C := R_Rg) (T := F_Rg) (N := 2) hx hb hts in_Rg hown hK hP 3 rfl rfl 1 (by decide) (hts _ m_2_1) (fun _ h9 => h9) rfl d_Ma_jumpToRegister_46 ?_
    refine lv_iload_n hx hb d_Ma_jumpToRegister_49 rfl (lv_at hl 2 rfl) ?_
    refine aldC_ungiven (u := u) (v := aI u 3 (f_Wo_a w)) hx hb hK hP (by omega) rfl d_Ma_jumpToRegister_50 ?_
    have J68 : ∀ (u1 : S5) (H : Heap) (locs : List Loc) (ls : Array Slot), res = f_Ma_jumpToRegister_68 w u u1 → (OkR u1) → va_P (dC, dI) classes (wC cI ad u1) H → va_D A (wC cI ad u1) → va_S A s.heap H locs → lv_has ls 5 [(4, .int (((aI u 2 (f_Wo_a w)) + (f_Wo_immediate w)) &&& (-2 : Int32))), (3, .int (nI (f_Wo_d w))), (2, .int (nI (f_Wo_a w))), (0, .ref (ad 1)), (1, .int w)] → W p l e (headSpec w_Ma_jumpToRegister rm_Ma_jumpToRegister).room s m ([.ref (ad 1), .int w] : List Value).toArray below meth c H locs 0 0 (MQ below (QWv (dC, dI) classes [(cI, .int)] (wC cI ad) A res) ([.ref (ad 1), .int w] : List Value).toArray s 0 0 A) (F0 m 68 ls []) := by
      intro u1 H locs ls hq okJ hP hD hS hl
      obtain ⟨j0, j1, j2⟩ := id okJ
      refine lv_iload_n hx hb d_Ma_jumpToRegister_68 rfl (lv_at hl 1 rfl) ?_
      refine lv_iconst (v := nI 1) hx hb d_Ma_jumpToRegister_69 (by decide) ?_
      have J101 : ∀ (u2 : S5) (H : Heap) (locs : List Loc) (ls : Array Slot), res = f_Ma_jumpToRegister_101 w u u2 → va_P (dC, dI) classes (wC cI ad u2) H → va_D A (wC cI ad u2) → va_S A s.heap H locs → lv_has ls 5 [(4, .int (((aI u 2 (f_Wo_a w)) + (f_Wo_immediate w)) &&& (-2 : Int32))), (3, .int (nI (f_Wo_d w))), (2, .int (nI (f_Wo_a w))), (0, .ref (ad 1)), (1, .int w)] → W p l e (headSpec w_Ma_jumpToRegister rm_Ma_jumpToRegister).room s m ([.ref (ad 1), .int w] : List Value).toArray below meth c H locs 0 0 (MQ below (QWv (dC, dI) classes [(cI, .int)] (wC cI ad) A res) ([.ref (ad 1), .int w] : List Value).toArray s 0 0 A) (F0 m 101 ls []) := by
        intro u2 H locs ls hq hP hD hS hl
        refine lv_aload_n hx hb d_Ma_jumpToRegister_101 rfl (lv_at hl 3 rfl) ?_
        refine va_get (D := (dC, dI)) (ci := 1) (v := .ref (ad 3)) (C := R_Ma) (T := F_Ma) (N := 10) hx hb hts in_Ma hown hK hP 1 rfl rfl 1 (by decide) (hts _ m_4_12) (fun _ h9 => h9) rfl d_Ma_jumpToRegister_102 ?_
        refine lv_iload_n hx hb d_Ma_jumpToRegister_105 rfl (lv_at hl 1 rfl) ?_
        refine lv_aload_n hx hb d_Ma_jumpToRegister_106 rfl (lv_at hl 3 rfl) ?_
        refine va_get (D := (dC, dI)) (ci := 1) (v := .int (gI u2 0)) (C := R_Ma) (T := F_Ma) (N := 10) hx hb hts in_Ma hown hK hP 1 rfl rfl 4 (by decide) (hts _ m_4_18) (fun _ h9 => h9) rfl d_Ma_jumpToRegister_107 ?_
        refine lv_iconst (v := 4) hx hb d_Ma_jumpToRegister_110 (by decide) ?_
        refine lv_iadd hx hb d_Ma_jumpToRegister_111 ?_
        refine lv_iconst (v := 0) hx hb d_Ma_jumpToRegister_112 (by decide) ?_
        refine callWv (va_runV (As := [.int (nI (f_Wo_d w)), .int ((gI u2 0) + (4 : Int32)), .int 0]) (rest := []) ⟨hx, hb, hml, hown, hts⟩ (c_Rg_put l dC dI cI ad u2 (f_Wo_d w) ((gI u2 0) + (4 : Int32)) 0 (by first | assumption | omega) H.size) (cwV 3 hts (goodV m_7_14 m_7_15 m_7_16 m_0_7 m_7_17) rfl rfl rfl (by decide +kernel) ⟨Nat.le_of_ble_eq_true rfl, Nat.le_of_ble_eq_true rfl⟩) ⟨preW_blind, va_recv hK hP (ci := 3) (q0 := 3) rfl rfl, preW_ok hP hD hK⟩ rfl rfl hl.1 rfl (lv_room (Nat.le_of_ble_eq_true rfl)) d_Ma_jumpToRegister_113 ⟨Nat.zero_le _, Nat.zero_le _⟩) hP hD hS hA (fun H locs hP hD hS => ?_)
        refine lv_aload_n hx hb d_Ma_jumpToRegister_116 rfl (lv_at hl 3 rfl) ?_
        refine lv_iload hx hb d_Ma_jumpToRegister_117 (lv_at hl 0 rfl) ?_
        refine va_put (D := (dC, dI)) (ci := 1) (v := .int (((aI u 2 (f_Wo_a w)) + (f_Wo_immediate w)) &&& (-2 : Int32))) (ty := .int) (C := R_Ma) (T := F_Ma) (N := 10) hx hb hts in_Ma t_Ma t_Ma_ok n_Ma hown hK hP hD hS 1 rfl rfl 6 (by decide) (hts _ m_4_21) (fun _ h9 => h9) rfl (by decide +kernel) rfl rfl (Nat.le_of_ble_eq_true rfl) d_Ma_jumpToRegister_119 (fun H locs hP hD hS => ?_)
        have hP : va_P (dC, dI) classes (wC cI ad (sI (f_Rg_put (f_Wo_d w) ((gI u2 0) + (4 : Int32)) 0 u2) 2 (((aI u 2 (f_Wo_a w)) + (f_Wo_immediate w)) &&& (-2 : Int32)))) H := hP
        have hD : va_D A (wC cI ad (sI (f_Rg_put (f_Wo_d w) ((gI u2 0) + (4 : Int32)) 0 u2) 2 (((aI u 2 (f_Wo_a w)) + (f_Wo_immediate w)) &&& (-2 : Int32)))) := hD
        have hE : res = sI (f_Rg_put (f_Wo_d w) ((gI u2 0) + (4 : Int32)) 0 u2) 2 (((aI u 2 (f_Wo_a w)) + (f_Wo_immediate w)) &&& (-2 : Int32)) := hq.trans (rfl)
        exact retWv hx hb hr hP hK hD hS hE.symm d_Ma_jumpToRegister_122 hlocks
      refine rn_ne (tgt := 89) hx hb (by omega) (by omega) d_Ma_jumpToRegister_70 (by decide) (fun c2 => ?_) (fun c2 => ?_)
      · skip
        refine lv_iload_n hx hb d_Ma_jumpToRegister_89 rfl (lv_at hl 2 rfl) ?_
        refine lv_iconst (v := nI 1) hx hb d_Ma_jumpToRegister_90 (by decide) ?_
        refine rn_ne (tgt := 101) hx hb (by omega) (by omega) d_Ma_jumpToRegister_91 (by decide) (fun c3 => ?_) (fun c3 => ?_)
        · skip
          exact J101 u1 _ _ _ (hq.trans ((if_neg c2).trans ((if_neg c3).trans rfl))) hP hD hS (lv_sub hl [0, 1, 2, 3, 4] rfl)
        · skip
          refine lv_aload_n hx hb d_Ma_jumpToRegister_94 rfl (lv_at hl 3 rfl) ?_
          refine va_get (D := (dC, dI)) (ci := 1) (v := .ref (ad 4)) (C := R_Ma) (T := F_Ma) (N := 10) hx hb hts in_Ma hown hK hP 1 rfl rfl 2 (by decide) (hts _ m_4_14) (fun _ h9 => h9) rfl d_Ma_jumpToRegister_95 ?_
          refine callWv (va_runV (As := []) (rest := []) ⟨hx, hb, hml, hown, hts⟩ (c_Rp_popReturn l dC dI cI ad u1 (by first | assumption | omega) (by first | assumption | omega) H.size) (cwV 0 hts (goodV m_8_1 m_8_2 m_8_3 m_0_8 m_8_4) rfl rfl rfl (by decide +kernel) ⟨Nat.le_of_ble_eq_true rfl, Nat.le_of_ble_eq_true rfl⟩) ⟨preW_blind, va_recv hK hP (ci := 4) (q0 := 4) rfl rfl, preW_ok hP hD hK⟩ rfl rfl hl.1 rfl (lv_room (Nat.le_of_ble_eq_true rfl)) d_Ma_jumpToRegister_98 ⟨Nat.zero_le _, Nat.zero_le _⟩) hP hD hS hA (fun H locs hP hD hS => ?_)
          exact J101 (f_Rp_popReturn u1) _ _ _ (hq.trans ((if_neg c2).trans ((if_pos c3).trans rfl))) hP hD hS (lv_sub hl [0, 1, 2, 3, 4] rfl)
      · skip
        refine lv_aload_n hx hb d_Ma_jumpToRegister_73 rfl (lv_at hl 3 rfl) ?_
        refine va_get (D := (dC, dI)) (ci := 1) (v := .ref (ad 4)) (C := R_Ma) (T := F_Ma) (N := 10) hx hb hts in_Ma hown hK hP 1 rfl rfl 2 (by decide) (hts _ m_4_14) (fun _ h9 => h9) rfl d_Ma_jumpToRegister_74 ?_
        refine lv_aload_n hx hb d_Ma_jumpToRegister_77 rfl (lv_at hl 3 rfl) ?_
        refine va_get (D := (dC, dI)) (ci := 1) (v := .int (gI u1 0)) (C := R_Ma) (T := F_Ma) (N := 10) hx hb hts in_Ma hown hK hP 1 rfl rfl 4 (by decide) (hts _ m_4_18) (fun _ h9 => h9) rfl d_Ma_jumpToRegister_78 ?_
        refine lv_iconst (v := 4) hx hb d_Ma_jumpToRegister_81 (by decide) ?_
        refine lv_iadd hx hb d_Ma_jumpToRegister_82 ?_
        refine callWv (va_runV (As := [.int ((gI u1 0) + (4 : Int32))]) (rest := []) ⟨hx, hb, hml, hown, hts⟩ (c_Rp_pushReturn l dC dI cI ad u1 ((gI u1 0) + (4 : Int32)) (by first | assumption | omega) (by first | assumption | omega) H.size) (cwV 1 hts (goodV m_7_21 m_7_22 m_7_23 m_0_8 m_7_24) rfl rfl rfl (by decide +kernel) ⟨Nat.le_of_ble_eq_true rfl, Nat.le_of_ble_eq_true rfl⟩) ⟨preW_blind, va_recv hK hP (ci := 4) (q0 := 4) rfl rfl, preW_ok hP hD hK⟩ rfl rfl hl.1 rfl (lv_room (Nat.le_of_ble_eq_true rfl)) d_Ma_jumpToRegister_83 ⟨Nat.zero_le _, Nat.zero_le _⟩) hP hD hS hA (fun H locs hP hD hS => ?_)
        refine lv_goto (tgt := 101) hx hb d_Ma_jumpToRegister_86 (by decide) ?_
        exact J101 (f_Rp_pushReturn ((gI u1 0) + (4 : Int32)) u1) _ _ _ (hq.trans ((if_pos c2).trans rfl)) hP hD hS (lv_sub hl [0, 1, 2, 3, 4] rfl)
    refine lv_if_eq (tgt := 68) hx hb d_Ma_jumpToRegister_51 (by decide) (fun c4 => ?_) (fun c4 => ?_)
    · skip
      exact J68 u _ _ _ (hq.trans ((if_pos c1).trans ((if_pos c4).trans rfl))) (by first | assumption | exact nt_ok _ _ _ ok) hP hD hS (lv_sub hl [0, 1, 2, 3, 4] rfl)
    · skip
      refine lv_aload_n hx hb d_Ma_jumpToRegister_54 rfl (lv_at hl 3 rfl) ?_
      refine va_get (D := (dC, dI)) (ci := 1) (v := .ref (ad 4)) (C := R_Ma) (T := F_Ma) (N := 10) hx hb hts in_Ma hown hK hP 1 rfl rfl 2 (by decide) (hts _ m_4_14) (fun _ h9 => h9) rfl d_Ma_jumpToRegister_55 ?_
      refine lv_iconst (v := 3) hx hb d_Ma_jumpToRegister_58 (by decide) ?_
      refine lv_aload_n hx hb d_Ma_jumpToRegister_59 rfl (lv_at hl 3 rfl) ?_
      refine va_get (D := (dC, dI)) (ci := 1) (v := .int (gI u 0)) (C := R_Ma) (T := F_Ma) (N := 10) hx hb hts in_Ma hown hK hP 1 rfl rfl 4 (by decide) (hts _ m_4_18) (fun _ h9 => h9) rfl d_Ma_jumpToRegister_60 ?_
      refine lv_iload hx hb d_Ma_jumpToRegister_63 (lv_at hl 0 rfl) ?_
      refine callWv (va_runV (As := [.int 3, .int (gI u 0), .int (((aI u 2 (f_Wo_a w)) + (f_Wo_immediate w)) &&& (-2 : Int32))]) (rest := []) ⟨hx, hb, hml, hown, hts⟩ (c_Rp_note l dC dI cI ad u 3 (gI u 0) (((aI u 2 (f_Wo_a w)) + (f_Wo_immediate w)) &&& (-2 : Int32)) (by first | assumption | omega) (by first | assumption | omega) (by first | assumption | omega) H.size) (cwV 3 hts (goodV m_6_30 m_6_31 m_6_32 m_0_8 m_6_33) rfl rfl rfl (by decide +kernel) ⟨Nat.le_of_ble_eq_true rfl, Nat.le_of_ble_eq_true rfl⟩) ⟨preW_blind, va_recv hK hP (ci := 4) (q0 := 4) rfl rfl, preW_ok hP hD hK⟩ rfl rfl hl.1 rfl (lv_room (Nat.le_of_ble_eq_true rfl)) d_Ma_jumpToRegister_65 ⟨Nat.zero_le _, Nat.zero_le _⟩) hP hD hS hA (fun H locs hP hD hS => ?_)
      exact J68 (f_Rp_note 3 (gI u 0) (((aI u 2 (f_Wo_a w)) + (f_Wo_immediate w)) &&& (-2 : Int32)) u) _ _ _ (hq.trans ((if_pos c1).trans ((if_neg c4).trans rfl))) (by first | assumption | exact nt_ok _ _ _ ok) hP hD hS (lv_sub hl [0, 1, 2, 3, 4] rfl)
  · skip
    refine lv_aload_n hx hb d_Ma_jumpToRegister_7 rfl (lv_at hl 0 rfl) ?_
    refine lv_iconst (v := 1) hx hb d_Ma_jumpToRegister_8 (by decide) ?_
    refine callWv (va_runV (As := [.int 1]) (rest := []) ⟨hx, hb, hml, hown, hts⟩ (c_Ma_trap l dC dI cI ad u 1 H.size) (cwV 1 hts (goodV m_6_19 m_6_20 m_18_37 m_0_2 m_6_21) rfl rfl rfl (by decide +kernel) ⟨Nat.le_of_ble_eq_true rfl, Nat.le_of_ble_eq_true rfl⟩) ⟨preW_blind, va_recv hK hP (ci := 1) (q0 := 1) rfl rfl, preW_ok hP hD hK⟩ rfl rfl hl.1 rfl (lv_room (Nat.le_of_ble_eq_true rfl)) d_Ma_jumpToRegister_9 ⟨Nat.zero_le _, Nat.zero_le _⟩) hP hD hS hA (fun H locs hP hD hS => ?_)
    have hE : res = f_Ma_trap 1 u := hq.trans ((if_neg c1).trans rfl)
    exact retWv hx hb hr hP hK hD hS hE.symm d_Ma_jumpToRegister_12 hlocks
def w_Ma_isTaken : List Cond := .code y_Ma_isTaken b_Ma_isTaken 3 (some .boolean) :: ALLW
def rm_Ma_isTaken : Room := { frames := 21, cells := 0, slots := 0, locals := 621 }
theorem d_Ma_isTaken_0 : decode b_Ma_isTaken 0 = .ok (.iload_n 0, 1) := by decide +kernel
theorem d_Ma_isTaken_1 : decode b_Ma_isTaken 1 = .ok (.tableswitch 91 0 6 #[43, 54, 91, 91, 65, 71, 85], 43) := by decide +kernel
theorem d_Ma_isTaken_44 : decode b_Ma_isTaken 44 = .ok (.iload_n 1, 1) := by decide +kernel
theorem d_Ma_isTaken_45 : decode b_Ma_isTaken 45 = .ok (.iload_n 2, 1) := by decide +kernel
theorem d_Ma_isTaken_46 : decode b_Ma_isTaken 46 = .ok (.if_icmp .ne 7, 3) := by decide +kernel
theorem d_Ma_isTaken_49 : decode b_Ma_isTaken 49 = .ok (.iconst 1, 1) := by decide +kernel
theorem d_Ma_isTaken_50 : decode b_Ma_isTaken 50 = .ok (.goto 4, 3) := by decide +kernel
theorem d_Ma_isTaken_53 : decode b_Ma_isTaken 53 = .ok (.iconst 0, 1) := by decide +kernel
theorem d_Ma_isTaken_54 : decode b_Ma_isTaken 54 = .ok (.ireturn, 1) := by decide +kernel
theorem d_Ma_isTaken_55 : decode b_Ma_isTaken 55 = .ok (.iload_n 1, 1) := by decide +kernel
theorem d_Ma_isTaken_56 : decode b_Ma_isTaken 56 = .ok (.iload_n 2, 1) := by decide +kernel
theorem d_Ma_isTaken_57 : decode b_Ma_isTaken 57 = .ok (.if_icmp .eq 7, 3) := by decide +kernel
theorem d_Ma_isTaken_60 : decode b_Ma_isTaken 60 = .ok (.iconst 1, 1) := by decide +kernel
theorem d_Ma_isTaken_61 : decode b_Ma_isTaken 61 = .ok (.goto 4, 3) := by decide +kernel
theorem d_Ma_isTaken_64 : decode b_Ma_isTaken 64 = .ok (.iconst 0, 1) := by decide +kernel
theorem d_Ma_isTaken_65 : decode b_Ma_isTaken 65 = .ok (.ireturn, 1) := by decide +kernel
theorem d_Ma_isTaken_66 : decode b_Ma_isTaken 66 = .ok (.iload_n 1, 1) := by decide +kernel
theorem d_Ma_isTaken_67 : decode b_Ma_isTaken 67 = .ok (.iload_n 2, 1) := by decide +kernel
theorem d_Ma_isTaken_68 : decode b_Ma_isTaken 68 = .ok (.invokestatic 163, 3) := by decide +kernel
theorem d_Ma_isTaken_71 : decode b_Ma_isTaken 71 = .ok (.ireturn, 1) := by decide +kernel
theorem d_Ma_isTaken_72 : decode b_Ma_isTaken 72 = .ok (.iload_n 1, 1) := by decide +kernel
theorem d_Ma_isTaken_73 : decode b_Ma_isTaken 73 = .ok (.iload_n 2, 1) := by decide +kernel
theorem d_Ma_isTaken_74 : decode b_Ma_isTaken 74 = .ok (.invokestatic 163, 3) := by decide +kernel
theorem d_Ma_isTaken_77 : decode b_Ma_isTaken 77 = .ok (.ifCond .ne 7, 3) := by decide +kernel
theorem d_Ma_isTaken_80 : decode b_Ma_isTaken 80 = .ok (.iconst 1, 1) := by decide +kernel
theorem d_Ma_isTaken_81 : decode b_Ma_isTaken 81 = .ok (.goto 4, 3) := by decide +kernel
theorem d_Ma_isTaken_84 : decode b_Ma_isTaken 84 = .ok (.iconst 0, 1) := by decide +kernel
theorem d_Ma_isTaken_85 : decode b_Ma_isTaken 85 = .ok (.ireturn, 1) := by decide +kernel
theorem d_Ma_isTaken_86 : decode b_Ma_isTaken 86 = .ok (.iload_n 1, 1) := by decide +kernel
theorem d_Ma_isTaken_87 : decode b_Ma_isTaken 87 = .ok (.iload_n 2, 1) := by decide +kernel
theorem d_Ma_isTaken_88 : decode b_Ma_isTaken 88 = .ok (.invokestatic 167, 3) := by decide +kernel
theorem d_Ma_isTaken_91 : decode b_Ma_isTaken 91 = .ok (.ireturn, 1) := by decide +kernel
theorem d_Ma_isTaken_92 : decode b_Ma_isTaken 92 = .ok (.iload_n 1, 1) := by decide +kernel
theorem d_Ma_isTaken_93 : decode b_Ma_isTaken 93 = .ok (.iload_n 2, 1) := by decide +kernel
theorem d_Ma_isTaken_94 : decode b_Ma_isTaken 94 = .ok (.invokestatic 167, 3) := by decide +kernel
theorem d_Ma_isTaken_97 : decode b_Ma_isTaken 97 = .ok (.ifCond .ne 7, 3) := by decide +kernel
theorem d_Ma_isTaken_100 : decode b_Ma_isTaken 100 = .ok (.iconst 1, 1) := by decide +kernel
theorem d_Ma_isTaken_101 : decode b_Ma_isTaken 101 = .ok (.goto 4, 3) := by decide +kernel
theorem d_Ma_isTaken_104 : decode b_Ma_isTaken 104 = .ok (.iconst 0, 1) := by decide +kernel
theorem d_Ma_isTaken_105 : decode b_Ma_isTaken 105 = .ok (.ireturn, 1) := by decide +kernel
def f_Ma_isTaken (q : Int32) (a : Int32) (b : Int32) : Bool := if q = 0 then (if a = b then true else false) else if q = 1 then (if a = b then false else true) else if q = 2 then (if (f_Rk_isBelowUnsigned a b) = true then false else true) else if q = 3 then (if (f_Rk_isBelowUnsigned a b) = true then false else true) else if q = 4 then f_Rk_isBelow a b else if q = 5 then (if (f_Rk_isBelow a b) = true then false else true) else if q = 6 then f_Rk_isBelowUnsigned a b else if (f_Rk_isBelowUnsigned a b) = true then false else true
set_option maxHeartbeats 8000000 in
set_option maxRecDepth 100000 in
theorem c_Ma_isTaken (l : Launch) (q : Int32) (a : Int32) (b : Int32) (sz : Nat) : Met l y_Ma_isTaken w_Ma_isTaken rm_Ma_isTaken (PreP sz [.int q, .int a, .int b]) (QPi (fun q : Nat => sz ≤ q) (b2i (f_Ma_isTaken q a b))) 0 0 (fun q : Nat => sz ≤ q) := by
  generalize hres : f_Ma_isTaken q a b = res
  refine Met.ofW (cc := b_Ma_isTaken) (maxL := 3) (ret := (some .boolean)) (by decide) rfl ?_
  intro p e s m args below meth c s₁ B hml hv
  obtain ⟨rfl, rfl⟩ := hv
  have hx := B.exec
  have hb := B.bytes
  have hr := B.returns
  have hts : ∀ w9 ∈ ALLW, w9.before ([.int q, .int a, .int b] : List Value).toArray s = true := fun w9 h => atoms_spec (ws := w_Ma_isTaken) B.pre w9 (List.mem_cons_of_mem _ h)
  have hown : s.vm.findClass R_Ma = some m.cls := findClass_of_methodNamed B.named
  have hlocks := B.notSynchronized
  generalize hAe : (fun q : Nat => s.heap.size ≤ q) = A
  have hA : ∀ q : Nat, s.heap.size ≤ q → A q := fun q h => by rw [← hAe]; exact h
  have hS : va_S A s.heap s.heap [] := va_S.rf
  have hl := lv_entry ([.int q, .int a, .int b]) (n := 3) (Nat.le_of_ble_eq_true rfl)
  rw [lg_entry_eq]
  generalize (lg_sl ([.int q, .int a, .int b]) ++ List.replicate (3 - (lg_sl ([.int q, .int a, .int b])).length) Slot.unset).toArray = ls at hl ⊢
  have hl : lv_has ls 3 [(0, .int q), (1, .int a), (2, .int b)] := hl
  have hq := hres.symm
  refine lv_iload_n hx hb d_Ma_isTaken_0 rfl (lv_at hl 0 rfl) ?_
  by_cases c1 : q = 0
  · skip
    refine lv_tableIn (off := 43) (tgt := 44) hx hb d_Ma_isTaken_1 (by rw [c1]; decide) (by rw [c1]; decide) (by rw [c1]; decide) (by decide) ?_
    refine lv_iload_n hx hb d_Ma_isTaken_44 rfl (lv_at hl 1 rfl) ?_
    refine lv_iload_n hx hb d_Ma_isTaken_45 rfl (lv_at hl 2 rfl) ?_
    refine lv_icmp_ne (tgt := 53) hx hb d_Ma_isTaken_46 (by decide) (fun c2 => ?_) (fun c2 => ?_)
    · skip
      refine lv_iconst (v := 0) hx hb d_Ma_isTaken_53 (by decide) ?_
      have hE : res = false := hq.trans ((if_pos c1).trans ((if_neg c2).trans rfl))
      exact retPb (x := false) hx hb hr hS hE.symm d_Ma_isTaken_54 hlocks
    · skip
      refine lv_iconst (v := 1) hx hb d_Ma_isTaken_49 (by decide) ?_
      refine lv_goto (tgt := 54) hx hb d_Ma_isTaken_50 (by decide) ?_
      have hE : res = true := hq.trans ((if_pos c1).trans ((if_pos c2).trans rfl))
      exact retPb (x := true) hx hb hr hS hE.symm d_Ma_isTaken_54 hlocks
  by_cases c3 : q = 1
  · skip
    refine lv_tableIn (off := 54) (tgt := 55) hx hb d_Ma_isTaken_1 (by rw [c3]; decide) (by rw [c3]; decide) (by rw [c3]; decide) (by decide) ?_
    refine lv_iload_n hx hb d_Ma_isTaken_55 rfl (lv_at hl 1 rfl) ?_
    refine lv_iload_n hx hb d_Ma_isTaken_56 rfl (lv_at hl 2 rfl) ?_
    refine lv_icmp_eq (tgt := 64) hx hb d_Ma_isTaken_57 (by decide) (fun c4 => ?_) (fun c4 => ?_)
    · skip
      refine lv_iconst (v := 0) hx hb d_Ma_isTaken_64 (by decide) ?_
      have hE : res = false := hq.trans ((if_neg c1).trans ((if_pos c3).trans ((if_pos c4).trans rfl)))
      exact retPb (x := false) hx hb hr hS hE.symm d_Ma_isTaken_65 hlocks
    · skip
      refine lv_iconst (v := 1) hx hb d_Ma_isTaken_60 (by decide) ?_
      refine lv_goto (tgt := 65) hx hb d_Ma_isTaken_61 (by decide) ?_
      have hE : res = true := hq.trans ((if_neg c1).trans ((if_pos c3).trans ((if_neg c4).trans rfl)))
      exact retPb (x := true) hx hb hr hS hE.symm d_Ma_isTaken_65 hlocks
  by_cases c5 : q = 2
  · skip
    refine lv_tableIn (off := 91) (tgt := 92) hx hb d_Ma_isTaken_1 (by rw [c5]; decide) (by rw [c5]; decide) (by rw [c5]; decide) (by decide) ?_
    refine lv_iload_n hx hb d_Ma_isTaken_92 rfl (lv_at hl 1 rfl) ?_
    refine lv_iload_n hx hb d_Ma_isTaken_93 rfl (lv_at hl 2 rfl) ?_
    refine callQi (va_runS (As := [.int a, .int b]) (rest := []) ⟨hx, hb, hml, hown, hts⟩ (c_Rk_isBelowUnsigned l a b s.heap.size) (va_cwS 2 hts (goodS m_8_17 m_8_18 m_0_14 m_8_19) rfl rfl rfl (by decide +kernel) ⟨Nat.le_of_ble_eq_true rfl, Nat.le_of_ble_eq_true rfl⟩) ⟨preP_blind, preP_ok⟩ rfl rfl hl.1 rfl (lv_room (Nat.le_of_ble_eq_true rfl)) d_Ma_isTaken_94 ⟨Nat.zero_le _, Nat.zero_le _⟩) hS hA (fun H locs hS => ?_)
    refine rb_ne (tgt := 104) hx hb d_Ma_isTaken_97 (by decide) (fun c6 => ?_) (fun c6 => ?_)
    · skip
      refine lv_iconst (v := 0) hx hb d_Ma_isTaken_104 (by decide) ?_
      have hE : res = false := hq.trans ((if_neg c1).trans ((if_neg c3).trans ((if_pos c5).trans ((if_pos c6).trans rfl))))
      exact retPb (x := false) hx hb hr hS hE.symm d_Ma_isTaken_105 hlocks
    · skip
      refine lv_iconst (v := 1) hx hb d_Ma_isTaken_100 (by decide) ?_
      refine lv_goto (tgt := 105) hx hb d_Ma_isTaken_101 (by decide) ?_
      have hE : res = true := hq.trans ((if_neg c1).trans ((if_neg c3).trans ((if_pos c5).trans ((if_neg c6).trans rfl))))
      exact retPb (x := true) hx hb hr hS hE.symm d_Ma_isTaken_105 hlocks
  by_cases c7 : q = 3
  · skip
    refine lv_tableIn (off := 91) (tgt := 92) hx hb d_Ma_isTaken_1 (by rw [c7]; decide) (by rw [c7]; decide) (by rw [c7]; decide) (by decide) ?_
    refine lv_iload_n hx hb d_Ma_isTaken_92 rfl (lv_at hl 1 rfl) ?_
    refine lv_iload_n hx hb d_Ma_isTaken_93 rfl (lv_at hl 2 rfl) ?_
    refine callQi (va_runS (As := [.int a, .int b]) (rest := []) ⟨hx, hb, hml, hown, hts⟩ (c_Rk_isBelowUnsigned l a b s.heap.size) (va_cwS 2 hts (goodS m_8_17 m_8_18 m_0_14 m_8_19) rfl rfl rfl (by decide +kernel) ⟨Nat.le_of_ble_eq_true rfl, Nat.le_of_ble_eq_true rfl⟩) ⟨preP_blind, preP_ok⟩ rfl rfl hl.1 rfl (lv_room (Nat.le_of_ble_eq_true rfl)) d_Ma_isTaken_94 ⟨Nat.zero_le _, Nat.zero_le _⟩) hS hA (fun H locs hS => ?_)
    refine rb_ne (tgt := 104) hx hb d_Ma_isTaken_97 (by decide) (fun c8 => ?_) (fun c8 => ?_)
    · skip
      refine lv_iconst (v := 0) hx hb d_Ma_isTaken_104 (by decide) ?_
      have hE : res = false := hq.trans ((if_neg c1).trans ((if_neg c3).trans ((if_neg c5).trans ((if_pos c7).trans ((if_pos c8).trans rfl)))))
      exact retPb (x := false) hx hb hr hS hE.symm d_Ma_isTaken_105 hlocks
    · skip
      refine lv_iconst (v := 1) hx hb d_Ma_isTaken_100 (by decide) ?_
      refine lv_goto (tgt := 105) hx hb d_Ma_isTaken_101 (by decide) ?_
      have hE : res = true := hq.trans ((if_neg c1).trans ((if_neg c3).trans ((if_neg c5).trans ((if_pos c7).trans ((if_neg c8).trans rfl)))))
      exact retPb (x := true) hx hb hr hS hE.symm d_Ma_isTaken_105 hlocks
  by_cases c9 : q = 4
  · skip
    refine lv_tableIn (off := 65) (tgt := 66) hx hb d_Ma_isTaken_1 (by rw [c9]; decide) (by rw [c9]; decide) (by rw [c9]; decide) (by decide) ?_
    refine lv_iload_n hx hb d_Ma_isTaken_66 rfl (lv_at hl 1 rfl) ?_
    refine lv_iload_n hx hb d_Ma_isTaken_67 rfl (lv_at hl 2 rfl) ?_
    refine callQi (va_runS (As := [.int a, .int b]) (rest := []) ⟨hx, hb, hml, hown, hts⟩ (c_Rk_isBelow l a b s.heap.size) (va_cwS 2 hts (goodS m_8_14 m_8_15 m_0_14 m_8_16) rfl rfl rfl (by decide +kernel) ⟨Nat.le_of_ble_eq_true rfl, Nat.le_of_ble_eq_true rfl⟩) ⟨preP_blind, preP_ok⟩ rfl rfl hl.1 rfl (lv_room (Nat.le_of_ble_eq_true rfl)) d_Ma_isTaken_68 ⟨Nat.zero_le _, Nat.zero_le _⟩) hS hA (fun H locs hS => ?_)
    have hE : res = f_Rk_isBelow a b := hq.trans ((if_neg c1).trans ((if_neg c3).trans ((if_neg c5).trans ((if_neg c7).trans ((if_pos c9).trans rfl)))))
    exact retPb (x := f_Rk_isBelow a b) hx hb hr hS hE.symm d_Ma_isTaken_71 hlocks
  by_cases c10 : q = 5
  · skip
    refine lv_tableIn (off := 71) (tgt := 72) hx hb d_Ma_isTaken_1 (by rw [c10]; decide) (by rw [c10]; decide) (by rw [c10]; decide) (by decide) ?_
    refine lv_iload_n hx hb d_Ma_isTaken_72 rfl (lv_at hl 1 rfl) ?_
    refine lv_iload_n hx hb d_Ma_isTaken_73 rfl (lv_at hl 2 rfl) ?_
    refine callQi (va_runS (As := [.int a, .int b]) (rest := []) ⟨hx, hb, hml, hown, hts⟩ (c_Rk_isBelow l a b s.heap.size) (va_cwS 2 hts (goodS m_8_14 m_8_15 m_0_14 m_8_16) rfl rfl rfl (by decide +kernel) ⟨Nat.le_of_ble_eq_true rfl, Nat.le_of_ble_eq_true rfl⟩) ⟨preP_blind, preP_ok⟩ rfl rfl hl.1 rfl (lv_room (Nat.le_of_ble_eq_true rfl)) d_Ma_isTaken_74 ⟨Nat.zero_le _, Nat.zero_le _⟩) hS hA (fun H locs hS => ?_)
    refine rb_ne (tgt := 84) hx hb d_Ma_isTaken_77 (by decide) (fun c11 => ?_) (fun c11 => ?_)
    · skip
      refine lv_iconst (v := 0) hx hb d_Ma_isTaken_84 (by decide) ?_
      have hE : res = false := hq.trans ((if_neg c1).trans ((if_neg c3).trans ((if_neg c5).trans ((if_neg c7).trans ((if_neg c9).trans ((if_pos c10).trans ((if_pos c11).trans rfl)))))))
      exact retPb (x := false) hx hb hr hS hE.symm d_Ma_isTaken_85 hlocks
    · skip
      refine lv_iconst (v := 1) hx hb d_Ma_isTaken_80 (by decide) ?_
      refine lv_goto (tgt := 85) hx hb d_Ma_isTaken_81 (by decide) ?_
      have hE : res = true := hq.trans ((if_neg c1).trans ((if_neg c3).trans ((if_neg c5).trans ((if_neg c7).trans ((if_neg c9).trans ((if_pos c10).trans ((if_neg c11).trans rfl)))))))
      exact retPb (x := true) hx hb hr hS hE.symm d_Ma_isTaken_85 hlocks
  by_cases c12 : q = 6
  · skip
    refine lv_tableIn (off := 85) (tgt := 86) hx hb d_Ma_isTaken_1 (by rw [c12]; decide) (by rw [c12]; decide) (by rw [c12]; decide) (by decide) ?_
    refine lv_iload_n hx hb d_Ma_isTaken_86 rfl (lv_at hl 1 rfl) ?_
    refine lv_iload_n hx hb d_Ma_isTaken_87 rfl (lv_at hl 2 rfl) ?_
    refine callQi (va_runS (As := [.int a, .int b]) (rest := []) ⟨hx, hb, hml, hown, hts⟩ (c_Rk_isBelowUnsigned l a b s.heap.size) (va_cwS 2 hts (goodS m_8_17 m_8_18 m_0_14 m_8_19) rfl rfl rfl (by decide +kernel) ⟨Nat.le_of_ble_eq_true rfl, Nat.le_of_ble_eq_true rfl⟩) ⟨preP_blind, preP_ok⟩ rfl rfl hl.1 rfl (lv_room (Nat.le_of_ble_eq_true rfl)) d_Ma_isTaken_88 ⟨Nat.zero_le _, Nat.zero_le _⟩) hS hA (fun H locs hS => ?_)
    have hE : res = f_Rk_isBelowUnsigned a b := hq.trans ((if_neg c1).trans ((if_neg c3).trans ((if_neg c5).trans ((if_neg c7).trans ((if_neg c9).trans ((if_neg c10).trans ((if_pos c12).trans rfl)))))))
    exact retPb (x := f_Rk_isBelowUnsigned a b) hx hb hr hS hE.symm d_Ma_isTaken_91 hlocks
  have nc1 := lv_neT c1 (a := 0) (by decide)
  have nc3 := lv_neT c3 (a := 1) (by decide)
  have nc5 := lv_neT c5 (a := 2) (by decide)
  have nc7 := lv_neT c7 (a := 3) (by decide)
  have nc9 := lv_neT c9 (a := 4) (by decide)
  have nc10 := lv_neT c10 (a := 5) (by decide)
  have nc12 := lv_neT c12 (a := 6) (by decide)
  refine lv_tableOut (tgt := 92) hx hb d_Ma_isTaken_1 (by omega) (by decide) ?_
  refine lv_iload_n hx hb d_Ma_isTaken_92 rfl (lv_at hl 1 rfl) ?_
  refine lv_iload_n hx hb d_Ma_isTaken_93 rfl (lv_at hl 2 rfl) ?_
  refine callQi (va_runS (As := [.int a, .int b]) (rest := []) ⟨hx, hb, hml, hown, hts⟩ (c_Rk_isBelowUnsigned l a b s.heap.size) (va_cwS 2 hts (goodS m_8_17 m_8_18 m_0_14 m_8_19) rfl rfl rfl (by decide +kernel) ⟨Nat.le_of_ble_eq_true rfl, Nat.le_of_ble_eq_true rfl⟩) ⟨preP_blind, preP_ok⟩ rfl rfl hl.1 rfl (lv_room (Nat.le_of_ble_eq_true rfl)) d_Ma_isTaken_94 ⟨Nat.zero_le _, Nat.zero_le _⟩) hS hA (fun H locs hS => ?_)
  refine rb_ne (tgt := 104) hx hb d_Ma_isTaken_97 (by decide) (fun c13 => ?_) (fun c13 => ?_)
  · skip
    refine lv_iconst (v := 0) hx hb d_Ma_isTaken_104 (by decide) ?_
    have hE : res = false := hq.trans ((if_neg c1).trans ((if_neg c3).trans ((if_neg c5).trans ((if_neg c7).trans ((if_neg c9).trans ((if_neg c10).trans ((if_neg c12).trans ((if_pos c13).trans rfl))))))))
    exact retPb (x := false) hx hb hr hS hE.symm d_Ma_isTaken_105 hlocks
  · skip
    refine lv_iconst (v := 1) hx hb d_Ma_isTaken_100 (by decide) ?_
    refine lv_goto (tgt := 105) hx hb d_Ma_isTaken_101 (by decide) ?_
    have hE : res = true := hq.trans ((if_neg c1).trans ((if_neg c3).trans ((if_neg c5).trans ((if_neg c7).trans ((if_neg c9).trans ((if_neg c10).trans ((if_neg c12).trans ((if_neg c13).trans rfl))))))))
    exact retPb (x := true) hx hb hr hS hE.symm d_Ma_isTaken_105 hlocks
def w_Ma_branch : List Cond := .code y_Ma_branch b_Ma_branch 5 none :: ALLW
def rm_Ma_branch : Room := { frames := 22, cells := 0, slots := 0, locals := 648 }
theorem d_Ma_branch_0 : decode b_Ma_branch 0 = .ok (.iload_n 1, 1) := by decide +kernel
theorem d_Ma_branch_1 : decode b_Ma_branch 1 = .ok (.invokestatic 113, 3) := by decide +kernel
theorem d_Ma_branch_4 : decode b_Ma_branch 4 = .ok (.istore_n 2, 1) := by decide +kernel
theorem d_Ma_branch_5 : decode b_Ma_branch 5 = .ok (.iload_n 2, 1) := by decide +kernel
theorem d_Ma_branch_6 : decode b_Ma_branch 6 = .ok (.iconst 2, 1) := by decide +kernel
theorem d_Ma_branch_7 : decode b_Ma_branch 7 = .ok (.if_icmp .eq 8, 3) := by decide +kernel
theorem d_Ma_branch_10 : decode b_Ma_branch 10 = .ok (.iload_n 2, 1) := by decide +kernel
theorem d_Ma_branch_11 : decode b_Ma_branch 11 = .ok (.iconst 3, 1) := by decide +kernel
theorem d_Ma_branch_12 : decode b_Ma_branch 12 = .ok (.if_icmp .ne 9, 3) := by decide +kernel
theorem d_Ma_branch_15 : decode b_Ma_branch 15 = .ok (.aload_n 0, 1) := by decide +kernel
theorem d_Ma_branch_16 : decode b_Ma_branch 16 = .ok (.iconst 1, 1) := by decide +kernel
theorem d_Ma_branch_17 : decode b_Ma_branch 17 = .ok (.invokevirtual 59, 3) := by decide +kernel
theorem d_Ma_branch_20 : decode b_Ma_branch 20 = .ok (.return_, 1) := by decide +kernel
theorem d_Ma_branch_21 : decode b_Ma_branch 21 = .ok (.iload_n 1, 1) := by decide +kernel
theorem d_Ma_branch_22 : decode b_Ma_branch 22 = .ok (.invokestatic 147, 3) := by decide +kernel
theorem d_Ma_branch_25 : decode b_Ma_branch 25 = .ok (.istore_n 3, 1) := by decide +kernel
theorem d_Ma_branch_26 : decode b_Ma_branch 26 = .ok (.iload_n 1, 1) := by decide +kernel
theorem d_Ma_branch_27 : decode b_Ma_branch 27 = .ok (.invokestatic 128, 3) := by decide +kernel
theorem d_Ma_branch_30 : decode b_Ma_branch 30 = .ok (.istore 4, 2) := by decide +kernel
theorem d_Ma_branch_32 : decode b_Ma_branch 32 = .ok (.aload_n 0, 1) := by decide +kernel
theorem d_Ma_branch_33 : decode b_Ma_branch 33 = .ok (.getfield 21, 3) := by decide +kernel
theorem d_Ma_branch_36 : decode b_Ma_branch 36 = .ok (.getfield 131, 3) := by decide +kernel
theorem d_Ma_branch_39 : decode b_Ma_branch 39 = .ok (.iload_n 3, 1) := by decide +kernel
theorem d_Ma_branch_40 : decode b_Ma_branch 40 = .ok (.iaload, 1) := by decide +kernel
theorem d_Ma_branch_41 : decode b_Ma_branch 41 = .ok (.aload_n 0, 1) := by decide +kernel
theorem d_Ma_branch_42 : decode b_Ma_branch 42 = .ok (.getfield 21, 3) := by decide +kernel
theorem d_Ma_branch_45 : decode b_Ma_branch 45 = .ok (.getfield 131, 3) := by decide +kernel
theorem d_Ma_branch_48 : decode b_Ma_branch 48 = .ok (.iload 4, 2) := by decide +kernel
theorem d_Ma_branch_50 : decode b_Ma_branch 50 = .ok (.iaload, 1) := by decide +kernel
theorem d_Ma_branch_51 : decode b_Ma_branch 51 = .ok (.ior, 1) := by decide +kernel
theorem d_Ma_branch_52 : decode b_Ma_branch 52 = .ok (.ifCond .eq 16, 3) := by decide +kernel
theorem d_Ma_branch_55 : decode b_Ma_branch 55 = .ok (.aload_n 0, 1) := by decide +kernel
theorem d_Ma_branch_56 : decode b_Ma_branch 56 = .ok (.getfield 28, 3) := by decide +kernel
theorem d_Ma_branch_59 : decode b_Ma_branch 59 = .ok (.iconst 2, 1) := by decide +kernel
theorem d_Ma_branch_60 : decode b_Ma_branch 60 = .ok (.aload_n 0, 1) := by decide +kernel
theorem d_Ma_branch_61 : decode b_Ma_branch 61 = .ok (.getfield 45, 3) := by decide +kernel
theorem d_Ma_branch_64 : decode b_Ma_branch 64 = .ok (.iconst 0, 1) := by decide +kernel
theorem d_Ma_branch_65 : decode b_Ma_branch 65 = .ok (.invokevirtual 71, 3) := by decide +kernel
theorem d_Ma_branch_68 : decode b_Ma_branch 68 = .ok (.iload_n 2, 1) := by decide +kernel
theorem d_Ma_branch_69 : decode b_Ma_branch 69 = .ok (.aload_n 0, 1) := by decide +kernel
theorem d_Ma_branch_70 : decode b_Ma_branch 70 = .ok (.getfield 21, 3) := by decide +kernel
theorem d_Ma_branch_73 : decode b_Ma_branch 73 = .ok (.getfield 124, 3) := by decide +kernel
theorem d_Ma_branch_76 : decode b_Ma_branch 76 = .ok (.iload_n 3, 1) := by decide +kernel
theorem d_Ma_branch_77 : decode b_Ma_branch 77 = .ok (.iaload, 1) := by decide +kernel
theorem d_Ma_branch_78 : decode b_Ma_branch 78 = .ok (.aload_n 0, 1) := by decide +kernel
theorem d_Ma_branch_79 : decode b_Ma_branch 79 = .ok (.getfield 21, 3) := by decide +kernel
theorem d_Ma_branch_82 : decode b_Ma_branch 82 = .ok (.getfield 124, 3) := by decide +kernel
theorem d_Ma_branch_85 : decode b_Ma_branch 85 = .ok (.iload 4, 2) := by decide +kernel
theorem d_Ma_branch_87 : decode b_Ma_branch 87 = .ok (.iaload, 1) := by decide +kernel
theorem d_Ma_branch_88 : decode b_Ma_branch 88 = .ok (.invokestatic 156, 3) := by decide +kernel
theorem d_Ma_branch_91 : decode b_Ma_branch 91 = .ok (.ifCond .eq 16, 3) := by decide +kernel
theorem d_Ma_branch_94 : decode b_Ma_branch 94 = .ok (.aload_n 0, 1) := by decide +kernel
theorem d_Ma_branch_95 : decode b_Ma_branch 95 = .ok (.aload_n 0, 1) := by decide +kernel
theorem d_Ma_branch_96 : decode b_Ma_branch 96 = .ok (.getfield 45, 3) := by decide +kernel
theorem d_Ma_branch_99 : decode b_Ma_branch 99 = .ok (.iload_n 1, 1) := by decide +kernel
theorem d_Ma_branch_100 : decode b_Ma_branch 100 = .ok (.invokestatic 160, 3) := by decide +kernel
theorem d_Ma_branch_103 : decode b_Ma_branch 103 = .ok (.iadd, 1) := by decide +kernel
theorem d_Ma_branch_104 : decode b_Ma_branch 104 = .ok (.putfield 81, 3) := by decide +kernel
theorem d_Ma_branch_107 : decode b_Ma_branch 107 = .ok (.return_, 1) := by decide +kernel
def f_Ma_branch_68 (w : Int32) (u : S5) (u1 : S5) : S5 := if (f_Ma_isTaken (nI (f_Wo_f w)) (aI u1 2 (f_Wo_a w)) (aI u1 2 (f_Wo_b w))) = true then sI u1 2 ((gI u1 0) + (f_Wo_branchOffset w)) else u1
def f_Ma_branch (w : Int32) (u : S5) : S5 := if (f_Wo_f w) = 2 then f_Ma_trap 1 u else if (f_Wo_f w) = 3 then f_Ma_trap 1 u else if ((aI u 3 (f_Wo_a w)) ||| (aI u 3 (f_Wo_b w))) = 0 then f_Ma_branch_68 w u u else f_Ma_branch_68 w u (f_Rp_note 2 (gI u 0) 0 u)
set_option maxHeartbeats 8000000 in
set_option maxRecDepth 100000 in
theorem c_Ma_branch (l : Launch) (dC : Nat → ClassId) (dI : Nat → Nat → Nat) (cI : ClassId) (ad : Nat → Nat) (u : S5) (w : Int32) (ok : OkR u) (sz : Nat) : Met l y_Ma_branch w_Ma_branch rm_Ma_branch (PreW (dC, dI) classes [(cI, .int)] (wC cI ad) u sz [.ref (ad 1), .int w]) (QWv (dC, dI) classes [(cI, .int)] (wC cI ad) (va_A (wC cI ad u) sz) (f_Ma_branch w u)) 0 0 (va_A (wC cI ad u) sz) := by
  generalize hres : f_Ma_branch w u = res
  refine Met.ofW (cc := b_Ma_branch) (maxL := 5) (ret := none) (by decide) rfl ?_
  intro p e s m args below meth c s₁ B hml hv
  obtain ⟨rfl, rfl, hP, hK, hD0⟩ := hv
  have hx := B.exec
  have hb := B.bytes
  have hr := B.returns
  have hts : ∀ w9 ∈ ALLW, w9.before ([.ref (ad 1), .int w] : List Value).toArray s = true := fun w9 h => atoms_spec (ws := w_Ma_branch) B.pre w9 (List.mem_cons_of_mem _ h)
  have hown : s.vm.findClass R_Ma = some m.cls := findClass_of_methodNamed B.named
  have hlocks := B.notSynchronized
  have hD := hD0.self (sz := s.heap.size)
  generalize hAe : va_A (wC cI ad u) s.heap.size = A at hD ⊢
  have hA : ∀ q : Nat, s.heap.size ≤ q → A q := fun q h => by rw [← hAe]; exact Or.inr h
  have hS : va_S A s.heap s.heap [] := va_S.rf
  have hl := lv_entry ([.ref (ad 1), .int w]) (n := 5) (Nat.le_of_ble_eq_true rfl)
  rw [lg_entry_eq]
  generalize (lg_sl ([.ref (ad 1), .int w]) ++ List.replicate (5 - (lg_sl ([.ref (ad 1), .int w])).length) Slot.unset).toArray = ls at hl ⊢
  have hl : lv_has ls 5 [(0, .ref (ad 1)), (1, .int w)] := hl
  have hq := hres.symm
  skip
  obtain ⟨ok0, ok1, ok2⟩ := id ok
  have hf := bWo_f w
  have ha := bWo_a w
  have hd := bWo_d w
  have hbb := bWo_b w
  refine lv_iload_n hx hb d_Ma_branch_0 rfl (lv_at hl 1 rfl) ?_
  refine callPi (va_runS (As := [.int w]) (rest := []) ⟨hx, hb, hml, hown, hts⟩ (c_Wo_f l w s.heap.size) (va_cwS 1 hts (goodS m_7_32 m_7_33 m_0_13 m_7_34) rfl rfl rfl (by decide +kernel) ⟨Nat.le_of_ble_eq_true rfl, Nat.le_of_ble_eq_true rfl⟩) ⟨preP_blind, preP_ok⟩ rfl rfl hl.1 rfl (lv_room (Nat.le_of_ble_eq_true rfl)) d_Ma_branch_1 ⟨Nat.zero_le _, Nat.zero_le _⟩) hP hS hA (fun H locs hP hS => ?_)
  refine lv_istore_n (lv' := [(2, .int (nI (f_Wo_f w))), (0, .ref (ad 1)), (1, .int w)]) hx hb d_Ma_branch_4 rfl hl (by decide) rfl (fun ls hl => ?_)
  refine lv_iload_n hx hb d_Ma_branch_5 rfl (lv_at hl 0 rfl) ?_
  refine lv_iconst (v := nI 2) hx hb d_Ma_branch_6 (by decide) ?_
  refine rn_eq (tgt := 15) hx hb (by omega) (by omega) d_Ma_branch_7 (by decide) (fun c1 => ?_) (fun c1 => ?_)
  · skip
    refine lv_aload_n hx hb d_Ma_branch_15 rfl (lv_at hl 1 rfl) ?_
    refine lv_iconst (v := 1) hx hb d_Ma_branch_16 (by decide) ?_
    refine callWv (va_runV (As := [.int 1]) (rest := []) ⟨hx, hb, hml, hown, hts⟩ (c_Ma_trap l dC dI cI ad u 1 H.size) (cwV 1 hts (goodV m_6_19 m_6_20 m_18_37 m_0_2 m_6_21) rfl rfl rfl (by decide +kernel) ⟨Nat.le_of_ble_eq_true rfl, Nat.le_of_ble_eq_true rfl⟩) ⟨preW_blind, va_recv hK hP (ci := 1) (q0 := 1) rfl rfl, preW_ok hP hD hK⟩ rfl rfl hl.1 rfl (lv_room (Nat.le_of_ble_eq_true rfl)) d_Ma_branch_17 ⟨Nat.zero_le _, Nat.zero_le _⟩) hP hD hS hA (fun H locs hP hD hS => ?_)
    have hE : res = f_Ma_trap 1 u := hq.trans ((if_pos c1).trans rfl)
    exact retWv hx hb hr hP hK hD hS hE.symm d_Ma_branch_20 hlocks
  · skip
    refine lv_iload_n hx hb d_Ma_branch_10 rfl (lv_at hl 0 rfl) ?_
    refine lv_iconst (v := nI 3) hx hb d_Ma_branch_11 (by decide) ?_
    refine rn_ne (tgt := 21) hx hb (by omega) (by omega) d_Ma_branch_12 (by decide) (fun c2 => ?_) (fun c2 => ?_)
    · skip
      refine lv_iload_n hx hb d_Ma_branch_21 rfl (lv_at hl 2 rfl) ?_
      refine callPi (va_runS (As := [.int w]) (rest := []) ⟨hx, hb, hml, hown, hts⟩ (c_Wo_a l w H.size) (va_cwS 1 hts (goodS m_7_35 m_7_36 m_0_13 m_7_37) rfl rfl rfl (by decide +kernel) ⟨Nat.le_of_ble_eq_true rfl, Nat.le_of_ble_eq_true rfl⟩) ⟨preP_blind, preP_ok⟩ rfl rfl hl.1 rfl (lv_room (Nat.le_of_ble_eq_true rfl)) d_Ma_branch_22 ⟨Nat.zero_le _, Nat.zero_le _⟩) hP hS hA (fun H locs hP hS => ?_)
      refine lv_istore_n (lv' := [(3, .int (nI (f_Wo_a w))), (2, .int (nI (f_Wo_f w))), (0, .ref (ad 1)), (1, .int w)]) hx hb d_Ma_branch_25 rfl hl (by decide) rfl (fun ls hl => ?_)
      refine lv_iload_n hx hb d_Ma_branch_26 rfl (lv_at hl 3 rfl) ?_
      refine callPi (va_runS (As := [.int w]) (rest := []) ⟨hx, hb, hml, hown, hts⟩ (c_Wo_b l w H.size) (va_cwS 1 hts (goodS m_8_8 m_8_9 m_0_13 m_8_10) rfl rfl rfl (by decide +kernel) ⟨Nat.le_of_ble_eq_true rfl, Nat.le_of_ble_eq_true rfl⟩) ⟨preP_blind, preP_ok⟩ rfl rfl hl.1 rfl (lv_room (Nat.le_of_ble_eq_true rfl)) d_Ma_branch_27 ⟨Nat.zero_le _, Nat.zero_le _⟩) hP hS hA (fun H locs hP hS => ?_)
      refine lv_istore (lv' := [(4, .int (nI (f_Wo_b w))), (3, .int (nI (f_Wo_a w))), (2, .int (nI (f_Wo_f w))), (0, .ref (ad 1)), (1, .int w)]) hx hb d_Ma_branch_30 hl (by decide) rfl (fun ls hl => ?_)
      refine lv_aload_n hx hb d_Ma_branch_32 rfl (lv_at hl 3 rfl) ?_
      refine va_get (D := (dC, dI)) (ci := 1) (v := .ref (ad 3)) (C := R_Ma) (T := F_Ma) (N := 10) hx hb hts in_Ma hown hK hP 1 rfl rfl 1 (by decide) (hts _ m_4_12) (fun _ h9 => h9) rfl d_Ma_branch_33 ?_
      refine va_get (D := (dC, dI)) (ci := 3) (v := .ref (ad 11)) (C := R_Rg) (T := F_Rg) (N := 2) hx hb hts in_Rg hown hK hP 3 rfl rfl 1 (by decide) (hts _ m_2_1) (fun _ h9 => h9) rfl d_Ma_branch_36 ?_
      refine lv_iload_n hx hb d_Ma_branch_39 rfl (lv_at hl 1 rfl) ?_
      refine aldC_ungiven (u := u) (v := aI u 3 (f_Wo_a w)) hx hb hK hP (by omega) rfl d_Ma_branch_40 ?_
      refine lv_aload_n hx hb d_Ma_branch_41 rfl (lv_at hl 3 rfl) ?_
      refine va_get (D := (dC, dI)) (ci := 1) (v := .ref (ad 3)) (C := R_Ma) (T := F_Ma) (N := 10) hx hb hts in_Ma hown hK hP 1 rfl rfl 1 (by decide) (hts _ m_4_12) (fun _ h9 => h9) rfl d_Ma_branch_42 ?_
      refine va_get (D := (dC, dI)) (ci := 3) (v := .ref (ad 11)) (C := R_Rg) (T := F_Rg) (N := 2) hx hb hts in_Rg hown hK hP 3 rfl rfl 1 (by decide) (hts _ m_2_1) (fun _ h9 => h9) rfl d_Ma_branch_45 ?_
      refine lv_iload hx hb d_Ma_branch_48 (lv_at hl 0 rfl) ?_
      refine aldC_ungiven (u := u) (v := aI u 3 (f_Wo_b w)) hx hb hK hP (by omega) rfl d_Ma_branch_50 ?_
      refine lv_ior hx hb d_Ma_branch_51 ?_
      have J68 : ∀ (u1 : S5) (H : Heap) (locs : List Loc) (ls : Array Slot), res = f_Ma_branch_68 w u u1 → va_P (dC, dI) classes (wC cI ad u1) H → va_D A (wC cI ad u1) → va_S A s.heap H locs → lv_has ls 5 [(4, .int (nI (f_Wo_b w))), (3, .int (nI (f_Wo_a w))), (2, .int (nI (f_Wo_f w))), (0, .ref (ad 1)), (1, .int w)] → W p l e (headSpec w_Ma_branch rm_Ma_branch).room s m ([.ref (ad 1), .int w] : List Value).toArray below meth c H locs 0 0 (MQ below (QWv (dC, dI) classes [(cI, .int)] (wC cI ad) A res) ([.ref (ad 1), .int w] : List Value).toArray s 0 0 A) (F0 m 68 ls []) := by
        intro u1 H locs ls hq hP hD hS hl
        refine lv_iload_n hx hb d_Ma_branch_68 rfl (lv_at hl 2 rfl) ?_
        refine lv_aload_n hx hb d_Ma_branch_69 rfl (lv_at hl 3 rfl) ?_
        refine va_get (D := (dC, dI)) (ci := 1) (v := .ref (ad 3)) (C := R_Ma) (T := F_Ma) (N := 10) hx hb hts in_Ma hown hK hP 1 rfl rfl 1 (by decide) (hts _ m_4_12) (fun _ h9 => h9) rfl d_Ma_branch_70 ?_
        refine va_get (D := (dC, dI)) (ci := 3) (v := .ref (ad 10)) (C := R_Rg) (T := F_Rg) (N := 2) hx hb hts in_Rg hown hK hP 3 rfl rfl 0 (by decide) (hts _ m_1_37) (fun _ h9 => h9) rfl d_Ma_branch_73 ?_
        refine lv_iload_n hx hb d_Ma_branch_76 rfl (lv_at hl 1 rfl) ?_
        refine aldC_value (u := u1) (v := aI u1 2 (f_Wo_a w)) hx hb hK hP (by omega) rfl d_Ma_branch_77 ?_
        refine lv_aload_n hx hb d_Ma_branch_78 rfl (lv_at hl 3 rfl) ?_
        refine va_get (D := (dC, dI)) (ci := 1) (v := .ref (ad 3)) (C := R_Ma) (T := F_Ma) (N := 10) hx hb hts in_Ma hown hK hP 1 rfl rfl 1 (by decide) (hts _ m_4_12) (fun _ h9 => h9) rfl d_Ma_branch_79 ?_
        refine va_get (D := (dC, dI)) (ci := 3) (v := .ref (ad 10)) (C := R_Rg) (T := F_Rg) (N := 2) hx hb hts in_Rg hown hK hP 3 rfl rfl 0 (by decide) (hts _ m_1_37) (fun _ h9 => h9) rfl d_Ma_branch_82 ?_
        refine lv_iload hx hb d_Ma_branch_85 (lv_at hl 0 rfl) ?_
        refine aldC_value (u := u1) (v := aI u1 2 (f_Wo_b w)) hx hb hK hP (by omega) rfl d_Ma_branch_87 ?_
        refine callPi (va_runS (As := [.int (nI (f_Wo_f w)), .int (aI u1 2 (f_Wo_a w)), .int (aI u1 2 (f_Wo_b w))]) (rest := []) ⟨hx, hb, hml, hown, hts⟩ (c_Ma_isTaken l (nI (f_Wo_f w)) (aI u1 2 (f_Wo_a w)) (aI u1 2 (f_Wo_b w)) H.size) (va_cwS 3 hts (goodS m_8_11 m_8_12 m_0_2 m_8_13) rfl rfl rfl (by decide +kernel) ⟨Nat.le_of_ble_eq_true rfl, Nat.le_of_ble_eq_true rfl⟩) ⟨preP_blind, preP_ok⟩ rfl rfl hl.1 rfl (lv_room (Nat.le_of_ble_eq_true rfl)) d_Ma_branch_88 ⟨Nat.zero_le _, Nat.zero_le _⟩) hP hS hA (fun H locs hP hS => ?_)
        refine rb_eq (tgt := 107) hx hb d_Ma_branch_91 (by decide) (fun c3 => ?_) (fun c3 => ?_)
        · skip
          have hE : res = u1 := hq.trans ((if_neg c3).trans rfl)
          exact retWv hx hb hr hP hK hD hS hE.symm d_Ma_branch_107 hlocks
        · skip
          refine lv_aload_n hx hb d_Ma_branch_94 rfl (lv_at hl 3 rfl) ?_
          refine lv_aload_n hx hb d_Ma_branch_95 rfl (lv_at hl 3 rfl) ?_
          refine va_get (D := (dC, dI)) (ci := 1) (v := .int (gI u1 0)) (C := R_Ma) (T := F_Ma) (N := 10) hx hb hts in_Ma hown hK hP 1 rfl rfl 4 (by decide) (hts _ m_4_18) (fun _ h9 => h9) rfl d_Ma_branch_96 ?_
          refine lv_iload_n hx hb d_Ma_branch_99 rfl (lv_at hl 4 rfl) ?_
          refine callPi (va_runS (As := [.int w]) (rest := [.int (gI u1 0), .ref (ad 1)]) ⟨hx, hb, hml, hown, hts⟩ (c_Wo_branchOffset l w H.size) (va_cwS 1 hts (goodS m_8_21 m_8_22 m_0_13 m_8_23) rfl rfl rfl (by decide +kernel) ⟨Nat.le_of_ble_eq_true rfl, Nat.le_of_ble_eq_true rfl⟩) ⟨preP_blind, preP_ok⟩ rfl rfl hl.1 rfl (lv_room (Nat.le_of_ble_eq_true rfl)) d_Ma_branch_100 ⟨Nat.zero_le _, Nat.zero_le _⟩) hP hS hA (fun H locs hP hS => ?_)
          refine lv_iadd hx hb d_Ma_branch_103 ?_
          refine va_put (D := (dC, dI)) (ci := 1) (v := .int ((gI u1 0) + (f_Wo_branchOffset w))) (ty := .int) (C := R_Ma) (T := F_Ma) (N := 10) hx hb hts in_Ma t_Ma t_Ma_ok n_Ma hown hK hP hD hS 1 rfl rfl 6 (by decide) (hts _ m_4_21) (fun _ h9 => h9) rfl (by decide +kernel) rfl rfl (Nat.le_of_ble_eq_true rfl) d_Ma_branch_104 (fun H locs hP hD hS => ?_)
          have hP : va_P (dC, dI) classes (wC cI ad (sI u1 2 ((gI u1 0) + (f_Wo_branchOffset w)))) H := hP
          have hD : va_D A (wC cI ad (sI u1 2 ((gI u1 0) + (f_Wo_branchOffset w)))) := hD
          have hE : res = sI u1 2 ((gI u1 0) + (f_Wo_branchOffset w)) := hq.trans ((if_pos c3).trans rfl)
          exact retWv hx hb hr hP hK hD hS hE.symm d_Ma_branch_107 hlocks
      refine lv_if_eq (tgt := 68) hx hb d_Ma_branch_52 (by decide) (fun c4 => ?_) (fun c4 => ?_)
      · skip
        exact J68 u _ _ _ (hq.trans ((if_neg c1).trans ((if_neg c2).trans ((if_pos c4).trans rfl)))) hP hD hS (lv_sub hl [0, 1, 2, 3, 4] rfl)
      · skip
        refine lv_aload_n hx hb d_Ma_branch_55 rfl (lv_at hl 3 rfl) ?_
        refine va_get (D := (dC, dI)) (ci := 1) (v := .ref (ad 4)) (C := R_Ma) (T := F_Ma) (N := 10) hx hb hts in_Ma hown hK hP 1 rfl rfl 2 (by decide) (hts _ m_4_14) (fun _ h9 => h9) rfl d_Ma_branch_56 ?_
        refine lv_iconst (v := 2) hx hb d_Ma_branch_59 (by decide) ?_
        refine lv_aload_n hx hb d_Ma_branch_60 rfl (lv_at hl 3 rfl) ?_
        refine va_get (D := (dC, dI)) (ci := 1) (v := .int (gI u 0)) (C := R_Ma) (T := F_Ma) (N := 10) hx hb hts in_Ma hown hK hP 1 rfl rfl 4 (by decide) (hts _ m_4_18) (fun _ h9 => h9) rfl d_Ma_branch_61 ?_
        refine lv_iconst (v := 0) hx hb d_Ma_branch_64 (by decide) ?_
        refine callWv (va_runV (As := [.int 2, .int (gI u 0), .int 0]) (rest := []) ⟨hx, hb, hml, hown, hts⟩ (c_Rp_note l dC dI cI ad u 2 (gI u 0) 0 (by first | assumption | omega) (by first | assumption | omega) (by first | assumption | omega) H.size) (cwV 3 hts (goodV m_6_30 m_6_31 m_6_32 m_0_8 m_6_33) rfl rfl rfl (by decide +kernel) ⟨Nat.le_of_ble_eq_true rfl, Nat.le_of_ble_eq_true rfl⟩) ⟨preW_blind, va_recv hK hP (ci := 4) (q0 := 4) rfl rfl, preW_ok hP hD hK⟩ rfl rfl hl.1 rfl (lv_room (Nat.le_of_ble_eq_true rfl)) d_Ma_branch_65 ⟨Nat.zero_le _, Nat.zero_le _⟩) hP hD hS hA (fun H locs hP hD hS => ?_)
        exact J68 (f_Rp_note 2 (gI u 0) 0 u) _ _ _ (hq.trans ((if_neg c1).trans ((if_neg c2).trans ((if_neg c4).trans rfl)))) hP hD hS (lv_sub hl [0, 1, 2, 3, 4] rfl)
    · skip
      refine lv_aload_n hx hb d_Ma_branch_15 rfl (lv_at hl 1 rfl) ?_
      refine lv_iconst (v := 1) hx hb d_Ma_branch_16 (by decide) ?_
      refine callWv (va_runV (As := [.int 1]) (rest := []) ⟨hx, hb, hml, hown, hts⟩ (c_Ma_trap l dC dI cI ad u 1 H.size) (cwV 1 hts (goodV m_6_19 m_6_20 m_18_37 m_0_2 m_6_21) rfl rfl rfl (by decide +kernel) ⟨Nat.le_of_ble_eq_true rfl, Nat.le_of_ble_eq_true rfl⟩) ⟨preW_blind, va_recv hK hP (ci := 1) (q0 := 1) rfl rfl, preW_ok hP hD hK⟩ rfl rfl hl.1 rfl (lv_room (Nat.le_of_ble_eq_true rfl)) d_Ma_branch_17 ⟨Nat.zero_le _, Nat.zero_le _⟩) hP hD hS hA (fun H locs hP hD hS => ?_)
      have hE : res = f_Ma_trap 1 u := hq.trans ((if_neg c1).trans ((if_pos c2).trans rfl))
      exact retWv hx hb hr hP hK hD hS hE.symm d_Ma_branch_20 hlocks
def w_Ma_isReached : List Cond := .code y_Ma_isReached b_Ma_isReached 5 (some .boolean) :: ALLW
def rm_Ma_isReached : Room := { frames := 22, cells := 0, slots := 0, locals := 648 }
theorem d_Ma_isReached_0 : decode b_Ma_isReached 0 = .ok (.aload_n 0, 1) := by decide +kernel
theorem d_Ma_isReached_1 : decode b_Ma_isReached 1 = .ok (.getfield 21, 3) := by decide +kernel
theorem d_Ma_isReached_4 : decode b_Ma_isReached 4 = .ok (.getfield 131, 3) := by decide +kernel
theorem d_Ma_isReached_7 : decode b_Ma_isReached 7 = .ok (.iload_n 1, 1) := by decide +kernel
theorem d_Ma_isReached_8 : decode b_Ma_isReached 8 = .ok (.iaload, 1) := by decide +kernel
theorem d_Ma_isReached_9 : decode b_Ma_isReached 9 = .ok (.ifCond .eq 16, 3) := by decide +kernel
theorem d_Ma_isReached_12 : decode b_Ma_isReached 12 = .ok (.aload_n 0, 1) := by decide +kernel
theorem d_Ma_isReached_13 : decode b_Ma_isReached 13 = .ok (.getfield 28, 3) := by decide +kernel
theorem d_Ma_isReached_16 : decode b_Ma_isReached 16 = .ok (.iconst 3, 1) := by decide +kernel
theorem d_Ma_isReached_17 : decode b_Ma_isReached 17 = .ok (.aload_n 0, 1) := by decide +kernel
theorem d_Ma_isReached_18 : decode b_Ma_isReached 18 = .ok (.getfield 45, 3) := by decide +kernel
theorem d_Ma_isReached_21 : decode b_Ma_isReached 21 = .ok (.iload_n 2, 1) := by decide +kernel
theorem d_Ma_isReached_22 : decode b_Ma_isReached 22 = .ok (.invokevirtual 71, 3) := by decide +kernel
theorem d_Ma_isReached_25 : decode b_Ma_isReached 25 = .ok (.iload_n 2, 1) := by decide +kernel
theorem d_Ma_isReached_26 : decode b_Ma_isReached 26 = .ok (.ifCond .lt 11, 3) := by decide +kernel
theorem d_Ma_isReached_29 : decode b_Ma_isReached 29 = .ok (.iload_n 2, 1) := by decide +kernel
theorem d_Ma_isReached_30 : decode b_Ma_isReached 30 = .ok (.ldc 185, 2) := by decide +kernel
theorem d_Ma_isReached_32 : decode b_Ma_isReached 32 = .ok (.iload_n 3, 1) := by decide +kernel
theorem d_Ma_isReached_33 : decode b_Ma_isReached 33 = .ok (.isub, 1) := by decide +kernel
theorem d_Ma_isReached_34 : decode b_Ma_isReached 34 = .ok (.if_icmp .le 10, 3) := by decide +kernel
theorem d_Ma_isReached_37 : decode b_Ma_isReached 37 = .ok (.aload_n 0, 1) := by decide +kernel
theorem d_Ma_isReached_38 : decode b_Ma_isReached 38 = .ok (.iconst 2, 1) := by decide +kernel
theorem d_Ma_isReached_39 : decode b_Ma_isReached 39 = .ok (.invokevirtual 59, 3) := by decide +kernel
theorem d_Ma_isReached_42 : decode b_Ma_isReached 42 = .ok (.iconst 0, 1) := by decide +kernel
theorem d_Ma_isReached_43 : decode b_Ma_isReached 43 = .ok (.ireturn, 1) := by decide +kernel
theorem d_Ma_isReached_44 : decode b_Ma_isReached 44 = .ok (.aload_n 0, 1) := by decide +kernel
theorem d_Ma_isReached_45 : decode b_Ma_isReached 45 = .ok (.getfield 12, 3) := by decide +kernel
theorem d_Ma_isReached_48 : decode b_Ma_isReached 48 = .ok (.iload_n 2, 1) := by decide +kernel
theorem d_Ma_isReached_49 : decode b_Ma_isReached 49 = .ok (.iload_n 3, 1) := by decide +kernel
theorem d_Ma_isReached_50 : decode b_Ma_isReached 50 = .ok (.invokevirtual 67, 3) := by decide +kernel
theorem d_Ma_isReached_53 : decode b_Ma_isReached 53 = .ok (.istore 4, 2) := by decide +kernel
theorem d_Ma_isReached_55 : decode b_Ma_isReached 55 = .ok (.iload 4, 2) := by decide +kernel
theorem d_Ma_isReached_57 : decode b_Ma_isReached 57 = .ok (.ifCond .lt 17, 3) := by decide +kernel
theorem d_Ma_isReached_60 : decode b_Ma_isReached 60 = .ok (.aload_n 0, 1) := by decide +kernel
theorem d_Ma_isReached_61 : decode b_Ma_isReached 61 = .ok (.getfield 28, 3) := by decide +kernel
theorem d_Ma_isReached_64 : decode b_Ma_isReached 64 = .ok (.iconst 4, 1) := by decide +kernel
theorem d_Ma_isReached_65 : decode b_Ma_isReached 65 = .ok (.aload_n 0, 1) := by decide +kernel
theorem d_Ma_isReached_66 : decode b_Ma_isReached 66 = .ok (.getfield 45, 3) := by decide +kernel
theorem d_Ma_isReached_69 : decode b_Ma_isReached 69 = .ok (.iload 4, 2) := by decide +kernel
theorem d_Ma_isReached_71 : decode b_Ma_isReached 71 = .ok (.invokevirtual 71, 3) := by decide +kernel
theorem d_Ma_isReached_74 : decode b_Ma_isReached 74 = .ok (.iconst 1, 1) := by decide +kernel
theorem d_Ma_isReached_75 : decode b_Ma_isReached 75 = .ok (.ireturn, 1) := by decide +kernel
def f_Ma_isReached_25 (a : Nat) (at_ : Int32) (n : Nat) (u : S5) (u1 : S5) : Bool × S5 := if at_ < 0 then (false, f_Ma_trap 2 u1) else if at_ ≤ (nI (65536 - n)) then (if (f_Me_firstShut at_.toNatClampNeg n u1) < 0 then (true, u1) else (true, f_Rp_note 4 (gI u1 0) (f_Me_firstShut at_.toNatClampNeg n u1) u1)) else (false, f_Ma_trap 2 u1)
def f_Ma_isReached (a : Nat) (at_ : Int32) (n : Nat) (u : S5) : Bool × S5 := if (aI u 3 a) = 0 then f_Ma_isReached_25 a at_ n u u else f_Ma_isReached_25 a at_ n u (f_Rp_note 3 (gI u 0) at_ u)
set_option maxHeartbeats 8000000 in
set_option maxRecDepth 100000 in
theorem c_Ma_isReached (l : Launch) (dC : Nat → ClassId) (dI : Nat → Nat → Nat) (cI : ClassId) (ad : Nat → Nat) (u : S5) (a : Nat) (at_ : Int32) (n : Nat) (ha : a < 32) (hn : n ≤ 4) (ok : OkR u) (sz : Nat) : Met l y_Ma_isReached w_Ma_isReached rm_Ma_isReached (PreW (dC, dI) classes [(cI, .int)] (wC cI ad) u sz [.ref (ad 1), .int (nI a), .int at_, .int (nI n)]) (QWi (dC, dI) classes [(cI, .int)] (wC cI ad) (va_A (wC cI ad u) sz) (b2i (f_Ma_isReached a at_ n u).1) (f_Ma_isReached a at_ n u).2) 0 0 (va_A (wC cI ad u) sz) := by
  generalize hres : f_Ma_isReached a at_ n u = res
  refine Met.ofW (cc := b_Ma_isReached) (maxL := 5) (ret := (some .boolean)) (by decide) rfl ?_
  intro p e s m args below meth c s₁ B hml hv
  obtain ⟨rfl, rfl, hP, hK, hD0⟩ := hv
  have hx := B.exec
  have hb := B.bytes
  have hr := B.returns
  have hts : ∀ w9 ∈ ALLW, w9.before ([.ref (ad 1), .int (nI a), .int at_, .int (nI n)] : List Value).toArray s = true := fun w9 h => atoms_spec (ws := w_Ma_isReached) B.pre w9 (List.mem_cons_of_mem _ h)
  have hown : s.vm.findClass R_Ma = some m.cls := findClass_of_methodNamed B.named
  have hlocks := B.notSynchronized
  have hD := hD0.self (sz := s.heap.size)
  generalize hAe : va_A (wC cI ad u) s.heap.size = A at hD ⊢
  have hA : ∀ q : Nat, s.heap.size ≤ q → A q := fun q h => by rw [← hAe]; exact Or.inr h
  have hS : va_S A s.heap s.heap [] := va_S.rf
  have hl := lv_entry ([.ref (ad 1), .int (nI a), .int at_, .int (nI n)]) (n := 5) (Nat.le_of_ble_eq_true rfl)
  rw [lg_entry_eq]
  generalize (lg_sl ([.ref (ad 1), .int (nI a), .int at_, .int (nI n)]) ++ List.replicate (5 - (lg_sl ([.ref (ad 1), .int (nI a), .int at_, .int (nI n)])).length) Slot.unset).toArray = ls at hl ⊢
  have hl : lv_has ls 5 [(0, .ref (ad 1)), (1, .int (nI a)), (2, .int at_), (3, .int (nI n))] := hl
  have hq := hres.symm
  skip
  obtain ⟨ok0, ok1, ok2⟩ := id ok
  refine lv_aload_n hx hb d_Ma_isReached_0 rfl (lv_at hl 0 rfl) ?_
  refine va_get (D := (dC, dI)) (ci := 1) (v := .ref (ad 3)) (C := R_Ma) (T := F_Ma) (N := 10) hx hb hts in_Ma hown hK hP 1 rfl rfl 1 (by decide) (hts _ m_4_12) (fun _ h9 => h9) rfl d_Ma_isReached_1 ?_
  refine va_get (D := (dC, dI)) (ci := 3) (v := .ref (ad 11)) (C := R_Rg) (T := F_Rg) (N := 2) hx hb hts in_Rg hown hK hP 3 rfl rfl 1 (by decide) (hts _ m_2_1) (fun _ h9 => h9) rfl d_Ma_isReached_4 ?_
  refine lv_iload_n hx hb d_Ma_isReached_7 rfl (lv_at hl 1 rfl) ?_
  refine aldC_ungiven (u := u) (v := aI u 3 a) hx hb hK hP (by omega) rfl d_Ma_isReached_8 ?_
  have J25 : ∀ (u1 : S5) (H : Heap) (locs : List Loc) (ls : Array Slot), res = f_Ma_isReached_25 a at_ n u u1 → (OkR u1) → va_P (dC, dI) classes (wC cI ad u1) H → va_D A (wC cI ad u1) → va_S A s.heap H locs → lv_has ls 5 [(0, .ref (ad 1)), (1, .int (nI a)), (2, .int at_), (3, .int (nI n))] → W p l e (headSpec w_Ma_isReached rm_Ma_isReached).room s m ([.ref (ad 1), .int (nI a), .int at_, .int (nI n)] : List Value).toArray below meth c H locs 0 0 (MQ below (QWi (dC, dI) classes [(cI, .int)] (wC cI ad) A (b2i res.1) res.2) ([.ref (ad 1), .int (nI a), .int at_, .int (nI n)] : List Value).toArray s 0 0 A) (F0 m 25 ls []) := by
    intro u1 H locs ls hq okJ hP hD hS hl
    obtain ⟨j0, j1, j2⟩ := id okJ
    refine lv_iload_n hx hb d_Ma_isReached_25 rfl (lv_at hl 2 rfl) ?_
    refine lv_if_lt (tgt := 37) hx hb d_Ma_isReached_26 (by decide) (fun c1 => ?_) (fun c1 => ?_)
    · skip
      refine lv_aload_n hx hb d_Ma_isReached_37 rfl (lv_at hl 0 rfl) ?_
      refine lv_iconst (v := 2) hx hb d_Ma_isReached_38 (by decide) ?_
      refine callWv (va_runV (As := [.int 2]) (rest := []) ⟨hx, hb, hml, hown, hts⟩ (c_Ma_trap l dC dI cI ad u1 2 H.size) (cwV 1 hts (goodV m_6_19 m_6_20 m_18_37 m_0_2 m_6_21) rfl rfl rfl (by decide +kernel) ⟨Nat.le_of_ble_eq_true rfl, Nat.le_of_ble_eq_true rfl⟩) ⟨preW_blind, va_recv hK hP (ci := 1) (q0 := 1) rfl rfl, preW_ok hP hD hK⟩ rfl rfl hl.1 rfl (lv_room (Nat.le_of_ble_eq_true rfl)) d_Ma_isReached_39 ⟨Nat.zero_le _, Nat.zero_le _⟩) hP hD hS hA (fun H locs hP hD hS => ?_)
      refine lv_iconst (v := 0) hx hb d_Ma_isReached_42 (by decide) ?_
      have hE : res = (false, f_Ma_trap 2 u1) := hq.trans ((if_pos c1).trans rfl)
      exact retWb (x := false) hx hb hr hP hK hD hS (congrArg Prod.fst hE).symm (congrArg Prod.snd hE).symm d_Ma_isReached_43 hlocks
    · skip
      refine lv_iload_n hx hb d_Ma_isReached_29 rfl (lv_at hl 2 rfl) ?_
      refine lv_ldc (v := 65536) hx hb hown (hts _ m_8_30) d_Ma_isReached_30 ?_
      refine rw_top (y := nI 65536) (by decide) ?_
      refine lv_iload_n hx hb d_Ma_isReached_32 rfl (lv_at hl 3 rfl) ?_
      refine lv_isub hx hb d_Ma_isReached_33 ?_
      refine rw_top (y := nI (65536 - n)) (pk_sub (by omega)) ?_
      refine lv_icmp_le (tgt := 44) hx hb d_Ma_isReached_34 (by decide) (fun c2 => ?_) (fun c2 => ?_)
      · skip
        refine lv_aload_n hx hb d_Ma_isReached_44 rfl (lv_at hl 0 rfl) ?_
        refine va_get (D := (dC, dI)) (ci := 1) (v := .ref (ad 2)) (C := R_Ma) (T := F_Ma) (N := 10) hx hb hts in_Ma hown hK hP 1 rfl rfl 0 (by decide) (hts _ m_4_10) (fun _ h9 => h9) rfl d_Ma_isReached_45 ?_
        refine lv_iload_n hx hb d_Ma_isReached_48 rfl (lv_at hl 2 rfl) ?_
        refine rw_top (y := nI at_.toNatClampNeg) (hp_n (by assumption)) ?_
        have hb1 : at_.toNatClampNeg ≤ 65536 - n := hp_nle (by omega) rfl (by assumption) (by assumption)
        refine lv_iload_n hx hb d_Ma_isReached_49 rfl (lv_at hl 3 rfl) ?_
        refine callWi (va_runV (As := [.int (nI at_.toNatClampNeg), .int (nI n)]) (rest := []) ⟨hx, hb, hml, hown, hts⟩ (c_Me_firstShut l dC dI cI ad u1 at_.toNatClampNeg n (by first | assumption | omega) H.size) (cwV 2 hts (goodV m_6_26 m_6_27 m_6_28 m_0_3 m_6_29) rfl rfl rfl (by decide +kernel) ⟨Nat.le_of_ble_eq_true rfl, Nat.le_of_ble_eq_true rfl⟩) ⟨preW_blind, va_recv hK hP (ci := 2) (q0 := 2) rfl rfl, preW_ok hP hD hK⟩ rfl rfl hl.1 rfl (lv_room (Nat.le_of_ble_eq_true rfl)) d_Ma_isReached_50 ⟨Nat.zero_le _, Nat.zero_le _⟩) hP hD hS hA (fun H locs hP hD hS => ?_)
        refine lv_istore (lv' := [(4, .int (f_Me_firstShut at_.toNatClampNeg n u1)), (0, .ref (ad 1)), (1, .int (nI a)), (2, .int at_), (3, .int (nI n))]) hx hb d_Ma_isReached_53 hl (by decide) rfl (fun ls hl => ?_)
        refine lv_iload hx hb d_Ma_isReached_55 (lv_at hl 0 rfl) ?_
        refine lv_if_lt (tgt := 74) hx hb d_Ma_isReached_57 (by decide) (fun c3 => ?_) (fun c3 => ?_)
        · skip
          refine lv_iconst (v := 1) hx hb d_Ma_isReached_74 (by decide) ?_
          have hE : res = (true, u1) := hq.trans ((if_neg c1).trans ((if_pos c2).trans ((if_pos c3).trans rfl)))
          exact retWb (x := true) hx hb hr hP hK hD hS (congrArg Prod.fst hE).symm (congrArg Prod.snd hE).symm d_Ma_isReached_75 hlocks
        · skip
          refine lv_aload_n hx hb d_Ma_isReached_60 rfl (lv_at hl 1 rfl) ?_
          refine va_get (D := (dC, dI)) (ci := 1) (v := .ref (ad 4)) (C := R_Ma) (T := F_Ma) (N := 10) hx hb hts in_Ma hown hK hP 1 rfl rfl 2 (by decide) (hts _ m_4_14) (fun _ h9 => h9) rfl d_Ma_isReached_61 ?_
          refine lv_iconst (v := 4) hx hb d_Ma_isReached_64 (by decide) ?_
          refine lv_aload_n hx hb d_Ma_isReached_65 rfl (lv_at hl 1 rfl) ?_
          refine va_get (D := (dC, dI)) (ci := 1) (v := .int (gI u1 0)) (C := R_Ma) (T := F_Ma) (N := 10) hx hb hts in_Ma hown hK hP 1 rfl rfl 4 (by decide) (hts _ m_4_18) (fun _ h9 => h9) rfl d_Ma_isReached_66 ?_
          refine lv_iload hx hb d_Ma_isReached_69 (lv_at hl 0 rfl) ?_
          refine callWv (va_runV (As := [.int 4, .int (gI u1 0), .int (f_Me_firstShut at_.toNatClampNeg n u1)]) (rest := []) ⟨hx, hb, hml, hown, hts⟩ (c_Rp_note l dC dI cI ad u1 4 (gI u1 0) (f_Me_firstShut at_.toNatClampNeg n u1) (by first | assumption | omega) (by first | assumption | omega) (by first | assumption | omega) H.size) (cwV 3 hts (goodV m_6_30 m_6_31 m_6_32 m_0_8 m_6_33) rfl rfl rfl (by decide +kernel) ⟨Nat.le_of_ble_eq_true rfl, Nat.le_of_ble_eq_true rfl⟩) ⟨preW_blind, va_recv hK hP (ci := 4) (q0 := 4) rfl rfl, preW_ok hP hD hK⟩ rfl rfl hl.1 rfl (lv_room (Nat.le_of_ble_eq_true rfl)) d_Ma_isReached_71 ⟨Nat.zero_le _, Nat.zero_le _⟩) hP hD hS hA (fun H locs hP hD hS => ?_)
          refine lv_iconst (v := 1) hx hb d_Ma_isReached_74 (by decide) ?_
          have hE : res = (true, f_Rp_note 4 (gI u1 0) (f_Me_firstShut at_.toNatClampNeg n u1) u1) := hq.trans ((if_neg c1).trans ((if_pos c2).trans ((if_neg c3).trans rfl)))
          exact retWb (x := true) hx hb hr hP hK hD hS (congrArg Prod.fst hE).symm (congrArg Prod.snd hE).symm d_Ma_isReached_75 hlocks
      · skip
        refine lv_aload_n hx hb d_Ma_isReached_37 rfl (lv_at hl 0 rfl) ?_
        refine lv_iconst (v := 2) hx hb d_Ma_isReached_38 (by decide) ?_
        refine callWv (va_runV (As := [.int 2]) (rest := []) ⟨hx, hb, hml, hown, hts⟩ (c_Ma_trap l dC dI cI ad u1 2 H.size) (cwV 1 hts (goodV m_6_19 m_6_20 m_18_37 m_0_2 m_6_21) rfl rfl rfl (by decide +kernel) ⟨Nat.le_of_ble_eq_true rfl, Nat.le_of_ble_eq_true rfl⟩) ⟨preW_blind, va_recv hK hP (ci := 1) (q0 := 1) rfl rfl, preW_ok hP hD hK⟩ rfl rfl hl.1 rfl (lv_room (Nat.le_of_ble_eq_true rfl)) d_Ma_isReached_39 ⟨Nat.zero_le _, Nat.zero_le _⟩) hP hD hS hA (fun H locs hP hD hS => ?_)
        refine lv_iconst (v := 0) hx hb d_Ma_isReached_42 (by decide) ?_
        have hE : res = (false, f_Ma_trap 2 u1) := hq.trans ((if_neg c1).trans ((if_neg c2).trans rfl))
        exact retWb (x := false) hx hb hr hP hK hD hS (congrArg Prod.fst hE).symm (congrArg Prod.snd hE).symm d_Ma_isReached_43 hlocks
  refine lv_if_eq (tgt := 25) hx hb d_Ma_isReached_9 (by decide) (fun c4 => ?_) (fun c4 => ?_)
  · skip
    exact J25 u _ _ _ (hq.trans ((if_pos c4).trans rfl)) (by first | assumption | exact nt_ok _ _ _ ok) hP hD hS (lv_sub hl [0, 1, 2, 3] rfl)
  · skip
    refine lv_aload_n hx hb d_Ma_isReached_12 rfl (lv_at hl 0 rfl) ?_
    refine va_get (D := (dC, dI)) (ci := 1) (v := .ref (ad 4)) (C := R_Ma) (T := F_Ma) (N := 10) hx hb hts in_Ma hown hK hP 1 rfl rfl 2 (by decide) (hts _ m_4_14) (fun _ h9 => h9) rfl d_Ma_isReached_13 ?_
    refine lv_iconst (v := 3) hx hb d_Ma_isReached_16 (by decide) ?_
    refine lv_aload_n hx hb d_Ma_isReached_17 rfl (lv_at hl 0 rfl) ?_
    refine va_get (D := (dC, dI)) (ci := 1) (v := .int (gI u 0)) (C := R_Ma) (T := F_Ma) (N := 10) hx hb hts in_Ma hown hK hP 1 rfl rfl 4 (by decide) (hts _ m_4_18) (fun _ h9 => h9) rfl d_Ma_isReached_18 ?_
    refine lv_iload_n hx hb d_Ma_isReached_21 rfl (lv_at hl 2 rfl) ?_
    refine callWv (va_runV (As := [.int 3, .int (gI u 0), .int at_]) (rest := []) ⟨hx, hb, hml, hown, hts⟩ (c_Rp_note l dC dI cI ad u 3 (gI u 0) at_ (by first | assumption | omega) (by first | assumption | omega) (by first | assumption | omega) s.heap.size) (cwV 3 hts (goodV m_6_30 m_6_31 m_6_32 m_0_8 m_6_33) rfl rfl rfl (by decide +kernel) ⟨Nat.le_of_ble_eq_true rfl, Nat.le_of_ble_eq_true rfl⟩) ⟨preW_blind, va_recv hK hP (ci := 4) (q0 := 4) rfl rfl, preW_ok hP hD hK⟩ rfl rfl hl.1 rfl (lv_room (Nat.le_of_ble_eq_true rfl)) d_Ma_isReached_22 ⟨Nat.zero_le _, Nat.zero_le _⟩) hP hD hS hA (fun H locs hP hD hS => ?_)
    exact J25 (f_Rp_note 3 (gI u 0) at_ u) _ _ _ (hq.trans ((if_neg c4).trans rfl)) (by first | assumption | exact nt_ok _ _ _ ok) hP hD hS (lv_sub hl [0, 1, 2, 3] rfl)
theorem rc_in {a n : Nat} {at_ : Int32} {u : S5} (hn : n ≤ 4) (h : (f_Ma_isReached a at_ n u).1 = true) : ¬ at_ < 0 ∧ at_.toNatClampNeg + n ≤ 65536 := by
  have key : ∀ u1, (f_Ma_isReached_25 a at_ n u u1).1 = true → ¬ at_ < 0 ∧ at_.toNatClampNeg + n ≤ 65536 := by
    intro u1 h
    unfold f_Ma_isReached_25 at h
    by_cases h1 : at_ < 0
    · rw [if_pos h1] at h; exact absurd h Bool.false_ne_true
    · rw [if_neg h1] at h
      by_cases h2 : at_ ≤ nI (65536 - n)
      · have := hp_nle (M := 65536 - n) (by omega) rfl h1 h2
        exact ⟨h1, by omega⟩
      · rw [if_neg h2] at h; exact absurd h Bool.false_ne_true
  unfold f_Ma_isReached at h
  split at h
  · exact key _ h
  · exact key _ h
def w_Ma_load : List Cond := .code y_Ma_load b_Ma_load 6 none :: ALLW
def rm_Ma_load : Room := { frames := 23, cells := 0, slots := 0, locals := 672 }
theorem d_Ma_load_0 : decode b_Ma_load 0 = .ok (.iload_n 1, 1) := by decide +kernel
theorem d_Ma_load_1 : decode b_Ma_load 1 = .ok (.invokestatic 113, 3) := by decide +kernel
theorem d_Ma_load_4 : decode b_Ma_load 4 = .ok (.istore_n 2, 1) := by decide +kernel
theorem d_Ma_load_5 : decode b_Ma_load 5 = .ok (.iload_n 2, 1) := by decide +kernel
theorem d_Ma_load_6 : decode b_Ma_load 6 = .ok (.iconst 3, 1) := by decide +kernel
theorem d_Ma_load_7 : decode b_Ma_load 7 = .ok (.if_icmp .eq 8, 3) := by decide +kernel
theorem d_Ma_load_10 : decode b_Ma_load 10 = .ok (.iload_n 2, 1) := by decide +kernel
theorem d_Ma_load_11 : decode b_Ma_load 11 = .ok (.iconst 5, 1) := by decide +kernel
theorem d_Ma_load_12 : decode b_Ma_load 12 = .ok (.if_icmp .le 9, 3) := by decide +kernel
theorem d_Ma_load_15 : decode b_Ma_load 15 = .ok (.aload_n 0, 1) := by decide +kernel
theorem d_Ma_load_16 : decode b_Ma_load 16 = .ok (.iconst 1, 1) := by decide +kernel
theorem d_Ma_load_17 : decode b_Ma_load 17 = .ok (.invokevirtual 59, 3) := by decide +kernel
theorem d_Ma_load_20 : decode b_Ma_load 20 = .ok (.return_, 1) := by decide +kernel
theorem d_Ma_load_21 : decode b_Ma_load 21 = .ok (.iconst 1, 1) := by decide +kernel
theorem d_Ma_load_22 : decode b_Ma_load 22 = .ok (.iload_n 2, 1) := by decide +kernel
theorem d_Ma_load_23 : decode b_Ma_load 23 = .ok (.iconst 3, 1) := by decide +kernel
theorem d_Ma_load_24 : decode b_Ma_load 24 = .ok (.iand, 1) := by decide +kernel
theorem d_Ma_load_25 : decode b_Ma_load 25 = .ok (.ishl, 1) := by decide +kernel
theorem d_Ma_load_26 : decode b_Ma_load 26 = .ok (.istore_n 3, 1) := by decide +kernel
theorem d_Ma_load_27 : decode b_Ma_load 27 = .ok (.aload_n 0, 1) := by decide +kernel
theorem d_Ma_load_28 : decode b_Ma_load 28 = .ok (.getfield 21, 3) := by decide +kernel
theorem d_Ma_load_31 : decode b_Ma_load 31 = .ok (.getfield 124, 3) := by decide +kernel
theorem d_Ma_load_34 : decode b_Ma_load 34 = .ok (.iload_n 1, 1) := by decide +kernel
theorem d_Ma_load_35 : decode b_Ma_load 35 = .ok (.invokestatic 147, 3) := by decide +kernel
theorem d_Ma_load_38 : decode b_Ma_load 38 = .ok (.iaload, 1) := by decide +kernel
theorem d_Ma_load_39 : decode b_Ma_load 39 = .ok (.iload_n 1, 1) := by decide +kernel
theorem d_Ma_load_40 : decode b_Ma_load 40 = .ok (.invokestatic 150, 3) := by decide +kernel
theorem d_Ma_load_43 : decode b_Ma_load 43 = .ok (.iadd, 1) := by decide +kernel
theorem d_Ma_load_44 : decode b_Ma_load 44 = .ok (.istore 4, 2) := by decide +kernel
theorem d_Ma_load_46 : decode b_Ma_load 46 = .ok (.aload_n 0, 1) := by decide +kernel
theorem d_Ma_load_47 : decode b_Ma_load 47 = .ok (.iload_n 1, 1) := by decide +kernel
theorem d_Ma_load_48 : decode b_Ma_load 48 = .ok (.invokestatic 147, 3) := by decide +kernel
theorem d_Ma_load_51 : decode b_Ma_load 51 = .ok (.iload 4, 2) := by decide +kernel
theorem d_Ma_load_53 : decode b_Ma_load 53 = .ok (.iload_n 3, 1) := by decide +kernel
theorem d_Ma_load_54 : decode b_Ma_load 54 = .ok (.invokevirtual 170, 3) := by decide +kernel
theorem d_Ma_load_57 : decode b_Ma_load 57 = .ok (.ifCond .ne 4, 3) := by decide +kernel
theorem d_Ma_load_60 : decode b_Ma_load 60 = .ok (.return_, 1) := by decide +kernel
theorem d_Ma_load_61 : decode b_Ma_load 61 = .ok (.iload_n 2, 1) := by decide +kernel
theorem d_Ma_load_62 : decode b_Ma_load 62 = .ok (.iconst 4, 1) := by decide +kernel
theorem d_Ma_load_63 : decode b_Ma_load 63 = .ok (.if_icmp .ge 13, 3) := by decide +kernel
theorem d_Ma_load_66 : decode b_Ma_load 66 = .ok (.bipush 32, 2) := by decide +kernel
theorem d_Ma_load_68 : decode b_Ma_load 68 = .ok (.bipush 8, 2) := by decide +kernel
theorem d_Ma_load_70 : decode b_Ma_load 70 = .ok (.iload_n 3, 1) := by decide +kernel
theorem d_Ma_load_71 : decode b_Ma_load 71 = .ok (.imul, 1) := by decide +kernel
theorem d_Ma_load_72 : decode b_Ma_load 72 = .ok (.isub, 1) := by decide +kernel
theorem d_Ma_load_73 : decode b_Ma_load 73 = .ok (.goto 4, 3) := by decide +kernel
theorem d_Ma_load_76 : decode b_Ma_load 76 = .ok (.iconst 0, 1) := by decide +kernel
theorem d_Ma_load_77 : decode b_Ma_load 77 = .ok (.istore 5, 2) := by decide +kernel
theorem d_Ma_load_79 : decode b_Ma_load 79 = .ok (.aload_n 0, 1) := by decide +kernel
theorem d_Ma_load_80 : decode b_Ma_load 80 = .ok (.getfield 21, 3) := by decide +kernel
theorem d_Ma_load_83 : decode b_Ma_load 83 = .ok (.iload_n 1, 1) := by decide +kernel
theorem d_Ma_load_84 : decode b_Ma_load 84 = .ok (.invokestatic 84, 3) := by decide +kernel
theorem d_Ma_load_87 : decode b_Ma_load 87 = .ok (.aload_n 0, 1) := by decide +kernel
theorem d_Ma_load_88 : decode b_Ma_load 88 = .ok (.getfield 12, 3) := by decide +kernel
theorem d_Ma_load_91 : decode b_Ma_load 91 = .ok (.iload 4, 2) := by decide +kernel
theorem d_Ma_load_93 : decode b_Ma_load 93 = .ok (.iload_n 3, 1) := by decide +kernel
theorem d_Ma_load_94 : decode b_Ma_load 94 = .ok (.invokevirtual 173, 3) := by decide +kernel
theorem d_Ma_load_97 : decode b_Ma_load 97 = .ok (.iload 5, 2) := by decide +kernel
theorem d_Ma_load_99 : decode b_Ma_load 99 = .ok (.ishl, 1) := by decide +kernel
theorem d_Ma_load_100 : decode b_Ma_load 100 = .ok (.iload 5, 2) := by decide +kernel
theorem d_Ma_load_102 : decode b_Ma_load 102 = .ok (.ishr, 1) := by decide +kernel
theorem d_Ma_load_103 : decode b_Ma_load 103 = .ok (.aload_n 0, 1) := by decide +kernel
theorem d_Ma_load_104 : decode b_Ma_load 104 = .ok (.getfield 12, 3) := by decide +kernel
theorem d_Ma_load_107 : decode b_Ma_load 107 = .ok (.iload 4, 2) := by decide +kernel
theorem d_Ma_load_109 : decode b_Ma_load 109 = .ok (.iload_n 3, 1) := by decide +kernel
theorem d_Ma_load_110 : decode b_Ma_load 110 = .ok (.invokevirtual 176, 3) := by decide +kernel
theorem d_Ma_load_113 : decode b_Ma_load 113 = .ok (.iload 5, 2) := by decide +kernel
theorem d_Ma_load_115 : decode b_Ma_load 115 = .ok (.ishl, 1) := by decide +kernel
theorem d_Ma_load_116 : decode b_Ma_load 116 = .ok (.iload 5, 2) := by decide +kernel
theorem d_Ma_load_118 : decode b_Ma_load 118 = .ok (.ishr, 1) := by decide +kernel
theorem d_Ma_load_119 : decode b_Ma_load 119 = .ok (.invokevirtual 92, 3) := by decide +kernel
theorem d_Ma_load_122 : decode b_Ma_load 122 = .ok (.return_, 1) := by decide +kernel
def f_Ma_load (w : Int32) (u : S5) : S5 := if (f_Wo_f w) = 3 then f_Ma_trap 1 u else if (f_Wo_f w) ≤ 5 then (if ((f_Ma_isReached (f_Wo_a w) ((aI u 2 (f_Wo_a w)) + (f_Wo_immediate w)) (pw (f_Wo_f w)) u).1) = true then (let x4 : Int32 := if (f_Wo_f w) < 4 then (32 : Int32) - (nI (8 * (pw (f_Wo_f w)))) else 0; f_Rg_put (f_Wo_d w) (((f_Me_read (((aI u 2 (f_Wo_a w)) + (f_Wo_immediate w)).toNatClampNeg) (pw (f_Wo_f w)) ((f_Ma_isReached (f_Wo_a w) ((aI u 2 (f_Wo_a w)) + (f_Wo_immediate w)) (pw (f_Wo_f w)) u).2)) <<< (x4 &&& 31)) >>> (x4 &&& 31)) (((f_Me_readUngiven (((aI u 2 (f_Wo_a w)) + (f_Wo_immediate w)).toNatClampNeg) (pw (f_Wo_f w)) ((f_Ma_isReached (f_Wo_a w) ((aI u 2 (f_Wo_a w)) + (f_Wo_immediate w)) (pw (f_Wo_f w)) u).2)) <<< (x4 &&& 31)) >>> (x4 &&& 31)) ((f_Ma_isReached (f_Wo_a w) ((aI u 2 (f_Wo_a w)) + (f_Wo_immediate w)) (pw (f_Wo_f w)) u).2)) else (f_Ma_isReached (f_Wo_a w) ((aI u 2 (f_Wo_a w)) + (f_Wo_immediate w)) (pw (f_Wo_f w)) u).2) else f_Ma_trap 1 u
set_option maxHeartbeats 8000000 in
set_option maxRecDepth 100000 in
theorem c_Ma_load (l : Launch) (dC : Nat → ClassId) (dI : Nat → Nat → Nat) (cI : ClassId) (ad : Nat → Nat) (u : S5) (w : Int32) (ok : OkR u) (sz : Nat) : Met l y_Ma_load w_Ma_load rm_Ma_load (PreW (dC, dI) classes [(cI, .int)] (wC cI ad) u sz [.ref (ad 1), .int w]) (QWv (dC, dI) classes [(cI, .int)] (wC cI ad) (va_A (wC cI ad u) sz) (f_Ma_load w u)) 0 0 (va_A (wC cI ad u) sz) := by
  generalize hres : f_Ma_load w u = res
  refine Met.ofW (cc := b_Ma_load) (maxL := 6) (ret := none) (by decide) rfl ?_
  intro p e s m args below meth c s₁ B hml hv
  obtain ⟨rfl, rfl, hP, hK, hD0⟩ := hv
  have hx := B.exec
  have hb := B.bytes
  have hr := B.returns
  have hts : ∀ w9 ∈ ALLW, w9.before ([.ref (ad 1), .int w] : List Value).toArray s = true := fun w9 h => atoms_spec (ws := w_Ma_load) B.pre w9 (List.mem_cons_of_mem _ h)
  have hown : s.vm.findClass R_Ma = some m.cls := findClass_of_methodNamed B.named
  have hlocks := B.notSynchronized
  have hD := hD0.self (sz := s.heap.size)
  generalize hAe : va_A (wC cI ad u) s.heap.size = A at hD ⊢
  have hA : ∀ q : Nat, s.heap.size ≤ q → A q := fun q h => by rw [← hAe]; exact Or.inr h
  have hS : va_S A s.heap s.heap [] := va_S.rf
  have hl := lv_entry ([.ref (ad 1), .int w]) (n := 6) (Nat.le_of_ble_eq_true rfl)
  rw [lg_entry_eq]
  generalize (lg_sl ([.ref (ad 1), .int w]) ++ List.replicate (6 - (lg_sl ([.ref (ad 1), .int w])).length) Slot.unset).toArray = ls at hl ⊢
  have hl : lv_has ls 6 [(0, .ref (ad 1)), (1, .int w)] := hl
  have hq := hres.symm
  skip
  obtain ⟨ok0, ok1, ok2⟩ := id ok
  have hf := bWo_f w
  have ha := bWo_a w
  have hd := bWo_d w
  have hbb := bWo_b w
  refine lv_iload_n hx hb d_Ma_load_0 rfl (lv_at hl 1 rfl) ?_
  refine callPi (va_runS (As := [.int w]) (rest := []) ⟨hx, hb, hml, hown, hts⟩ (c_Wo_f l w s.heap.size) (va_cwS 1 hts (goodS m_7_32 m_7_33 m_0_13 m_7_34) rfl rfl rfl (by decide +kernel) ⟨Nat.le_of_ble_eq_true rfl, Nat.le_of_ble_eq_true rfl⟩) ⟨preP_blind, preP_ok⟩ rfl rfl hl.1 rfl (lv_room (Nat.le_of_ble_eq_true rfl)) d_Ma_load_1 ⟨Nat.zero_le _, Nat.zero_le _⟩) hP hS hA (fun H locs hP hS => ?_)
  refine lv_istore_n (lv' := [(2, .int (nI (f_Wo_f w))), (0, .ref (ad 1)), (1, .int w)]) hx hb d_Ma_load_4 rfl hl (by decide) rfl (fun ls hl => ?_)
  refine lv_iload_n hx hb d_Ma_load_5 rfl (lv_at hl 0 rfl) ?_
  refine lv_iconst (v := nI 3) hx hb d_Ma_load_6 (by decide) ?_
  refine rn_eq (tgt := 15) hx hb (by omega) (by omega) d_Ma_load_7 (by decide) (fun c1 => ?_) (fun c1 => ?_)
  · skip
    refine lv_aload_n hx hb d_Ma_load_15 rfl (lv_at hl 1 rfl) ?_
    refine lv_iconst (v := 1) hx hb d_Ma_load_16 (by decide) ?_
    refine callWv (va_runV (As := [.int 1]) (rest := []) ⟨hx, hb, hml, hown, hts⟩ (c_Ma_trap l dC dI cI ad u 1 H.size) (cwV 1 hts (goodV m_6_19 m_6_20 m_18_37 m_0_2 m_6_21) rfl rfl rfl (by decide +kernel) ⟨Nat.le_of_ble_eq_true rfl, Nat.le_of_ble_eq_true rfl⟩) ⟨preW_blind, va_recv hK hP (ci := 1) (q0 := 1) rfl rfl, preW_ok hP hD hK⟩ rfl rfl hl.1 rfl (lv_room (Nat.le_of_ble_eq_true rfl)) d_Ma_load_17 ⟨Nat.zero_le _, Nat.zero_le _⟩) hP hD hS hA (fun H locs hP hD hS => ?_)
    have hE : res = f_Ma_trap 1 u := hq.trans ((if_pos c1).trans rfl)
    exact retWv hx hb hr hP hK hD hS hE.symm d_Ma_load_20 hlocks
  · skip
    refine lv_iload_n hx hb d_Ma_load_10 rfl (lv_at hl 0 rfl) ?_
    refine lv_iconst (v := nI 5) hx hb d_Ma_load_11 (by decide) ?_
    refine rn_le (tgt := 21) hx hb (by omega) (by omega) d_Ma_load_12 (by decide) (fun c2 => ?_) (fun c2 => ?_)
    · skip
      refine lv_iconst (v := 1) hx hb d_Ma_load_21 (by decide) ?_
      refine lv_iload_n hx hb d_Ma_load_22 rfl (lv_at hl 0 rfl) ?_
      refine lv_iconst (v := 3) hx hb d_Ma_load_23 (by decide) ?_
      refine lv_iand hx hb d_Ma_load_24 ?_
      refine lv_ishl hx hb d_Ma_load_25 ?_
      refine rw_top (y := nI (pw (f_Wo_f w))) (ld_e _ hf) ?_
      have hn4 := ld_4 _ hf c1 c2
      refine lv_istore_n (lv' := [(3, .int (nI (pw (f_Wo_f w)))), (2, .int (nI (f_Wo_f w))), (0, .ref (ad 1)), (1, .int w)]) hx hb d_Ma_load_26 rfl hl (by decide) rfl (fun ls hl => ?_)
      refine lv_aload_n hx hb d_Ma_load_27 rfl (lv_at hl 2 rfl) ?_
      refine va_get (D := (dC, dI)) (ci := 1) (v := .ref (ad 3)) (C := R_Ma) (T := F_Ma) (N := 10) hx hb hts in_Ma hown hK hP 1 rfl rfl 1 (by decide) (hts _ m_4_12) (fun _ h9 => h9) rfl d_Ma_load_28 ?_
      refine va_get (D := (dC, dI)) (ci := 3) (v := .ref (ad 10)) (C := R_Rg) (T := F_Rg) (N := 2) hx hb hts in_Rg hown hK hP 3 rfl rfl 0 (by decide) (hts _ m_1_37) (fun _ h9 => h9) rfl d_Ma_load_31 ?_
      refine lv_iload_n hx hb d_Ma_load_34 rfl (lv_at hl 3 rfl) ?_
      refine callPi (va_runS (As := [.int w]) (rest := [.ref (ad 10)]) ⟨hx, hb, hml, hown, hts⟩ (c_Wo_a l w H.size) (va_cwS 1 hts (goodS m_7_35 m_7_36 m_0_13 m_7_37) rfl rfl rfl (by decide +kernel) ⟨Nat.le_of_ble_eq_true rfl, Nat.le_of_ble_eq_true rfl⟩) ⟨preP_blind, preP_ok⟩ rfl rfl hl.1 rfl (lv_room (Nat.le_of_ble_eq_true rfl)) d_Ma_load_35 ⟨Nat.zero_le _, Nat.zero_le _⟩) hP hS hA (fun H locs hP hS => ?_)
      refine aldC_value (u := u) (v := aI u 2 (f_Wo_a w)) hx hb hK hP (by omega) rfl d_Ma_load_38 ?_
      refine lv_iload_n hx hb d_Ma_load_39 rfl (lv_at hl 3 rfl) ?_
      refine callPi (va_runS (As := [.int w]) (rest := [.int (aI u 2 (f_Wo_a w))]) ⟨hx, hb, hml, hown, hts⟩ (c_Wo_immediate l w H.size) (va_cwS 1 hts (goodS m_7_38 m_7_39 m_0_13 m_8_0) rfl rfl rfl (by decide +kernel) ⟨Nat.le_of_ble_eq_true rfl, Nat.le_of_ble_eq_true rfl⟩) ⟨preP_blind, preP_ok⟩ rfl rfl hl.1 rfl (lv_room (Nat.le_of_ble_eq_true rfl)) d_Ma_load_40 ⟨Nat.zero_le _, Nat.zero_le _⟩) hP hS hA (fun H locs hP hS => ?_)
      refine lv_iadd hx hb d_Ma_load_43 ?_
      refine lv_istore (lv' := [(4, .int ((aI u 2 (f_Wo_a w)) + (f_Wo_immediate w))), (3, .int (nI (pw (f_Wo_f w)))), (2, .int (nI (f_Wo_f w))), (0, .ref (ad 1)), (1, .int w)]) hx hb d_Ma_load_44 hl (by decide) rfl (fun ls hl => ?_)
      refine lv_aload_n hx hb d_Ma_load_46 rfl (lv_at hl 3 rfl) ?_
      refine lv_iload_n hx hb d_Ma_load_47 rfl (lv_at hl 4 rfl) ?_
      refine callPi (va_runS (As := [.int w]) (rest := [.ref (ad 1)]) ⟨hx, hb, hml, hown, hts⟩ (c_Wo_a l w H.size) (va_cwS 1 hts (goodS m_7_35 m_7_36 m_0_13 m_7_37) rfl rfl rfl (by decide +kernel) ⟨Nat.le_of_ble_eq_true rfl, Nat.le_of_ble_eq_true rfl⟩) ⟨preP_blind, preP_ok⟩ rfl rfl hl.1 rfl (lv_room (Nat.le_of_ble_eq_true rfl)) d_Ma_load_48 ⟨Nat.zero_le _, Nat.zero_le _⟩) hP hS hA (fun H locs hP hS => ?_)
      refine lv_iload hx hb d_Ma_load_51 (lv_at hl 0 rfl) ?_
      refine lv_iload_n hx hb d_Ma_load_53 rfl (lv_at hl 1 rfl) ?_
      refine callWi (va_runV (As := [.int (nI (f_Wo_a w)), .int ((aI u 2 (f_Wo_a w)) + (f_Wo_immediate w)), .int (nI (pw (f_Wo_f w)))]) (rest := []) ⟨hx, hb, hml, hown, hts⟩ (c_Ma_isReached l dC dI cI ad u (f_Wo_a w) ((aI u 2 (f_Wo_a w)) + (f_Wo_immediate w)) (pw (f_Wo_f w)) (by first | assumption | omega) (by first | assumption | omega) (by first | assumption | omega) H.size) (cwV 3 hts (goodV m_8_27 m_8_28 m_19_4 m_0_2 m_8_29) rfl rfl rfl (by decide +kernel) ⟨Nat.le_of_ble_eq_true rfl, Nat.le_of_ble_eq_true rfl⟩) ⟨preW_blind, va_recv hK hP (ci := 1) (q0 := 1) rfl rfl, preW_ok hP hD hK⟩ rfl rfl hl.1 rfl (lv_room (Nat.le_of_ble_eq_true rfl)) d_Ma_load_54 ⟨Nat.zero_le _, Nat.zero_le _⟩) hP hD hS hA (fun H locs hP hD hS => ?_)
      refine rb_ne (tgt := 61) hx hb d_Ma_load_57 (by decide) (fun c3 => ?_) (fun c3 => ?_)
      · skip
        obtain ⟨hr1, hr2⟩ := rc_in hn4 (by assumption)
        refine lv_iload_n hx hb d_Ma_load_61 rfl (lv_at hl 2 rfl) ?_
        refine lv_iconst (v := nI 4) hx hb d_Ma_load_62 (by decide) ?_
        have J77 : ∀ (x4 : Int32) (H : Heap) (locs : List Loc), x4 = (if (f_Wo_f w) < 4 then (32 : Int32) - (nI (8 * (pw (f_Wo_f w)))) else 0) → va_P (dC, dI) classes (wC cI ad ((f_Ma_isReached (f_Wo_a w) ((aI u 2 (f_Wo_a w)) + (f_Wo_immediate w)) (pw (f_Wo_f w)) u).2)) H → va_D A (wC cI ad ((f_Ma_isReached (f_Wo_a w) ((aI u 2 (f_Wo_a w)) + (f_Wo_immediate w)) (pw (f_Wo_f w)) u).2)) → va_S A s.heap H locs → W p l e (headSpec w_Ma_load rm_Ma_load).room s m ([.ref (ad 1), .int w] : List Value).toArray below meth c H locs 0 0 (MQ below (QWv (dC, dI) classes [(cI, .int)] (wC cI ad) A res) ([.ref (ad 1), .int w] : List Value).toArray s 0 0 A) (F0 m 77 ls [.int x4]) := by
          intro x4 H locs ex4 hP hD hS
          refine lv_istore (lv' := [(5, .int x4), (4, .int ((aI u 2 (f_Wo_a w)) + (f_Wo_immediate w))), (3, .int (nI (pw (f_Wo_f w)))), (2, .int (nI (f_Wo_f w))), (0, .ref (ad 1)), (1, .int w)]) hx hb d_Ma_load_77 hl (by decide) rfl (fun ls hl => ?_)
          refine lv_aload_n hx hb d_Ma_load_79 rfl (lv_at hl 4 rfl) ?_
          refine va_get (D := (dC, dI)) (ci := 1) (v := .ref (ad 3)) (C := R_Ma) (T := F_Ma) (N := 10) hx hb hts in_Ma hown hK hP 1 rfl rfl 1 (by decide) (hts _ m_4_12) (fun _ h9 => h9) rfl d_Ma_load_80 ?_
          refine lv_iload_n hx hb d_Ma_load_83 rfl (lv_at hl 5 rfl) ?_
          refine callPi (va_runS (As := [.int w]) (rest := [.ref (ad 3)]) ⟨hx, hb, hml, hown, hts⟩ (c_Wo_d l w H.size) (va_cwS 1 hts (goodS m_7_8 m_7_9 m_0_13 m_7_10) rfl rfl rfl (by decide +kernel) ⟨Nat.le_of_ble_eq_true rfl, Nat.le_of_ble_eq_true rfl⟩) ⟨preP_blind, preP_ok⟩ rfl rfl hl.1 rfl (lv_room (Nat.le_of_ble_eq_true rfl)) d_Ma_load_84 ⟨Nat.zero_le _, Nat.zero_le _⟩) hP hS hA (fun H locs hP hS => ?_)
          refine lv_aload_n hx hb d_Ma_load_87 rfl (lv_at hl 4 rfl) ?_
          refine va_get (D := (dC, dI)) (ci := 1) (v := .ref (ad 2)) (C := R_Ma) (T := F_Ma) (N := 10) hx hb hts in_Ma hown hK hP 1 rfl rfl 0 (by decide) (hts _ m_4_10) (fun _ h9 => h9) rfl d_Ma_load_88 ?_
          refine lv_iload hx hb d_Ma_load_91 (lv_at hl 1 rfl) ?_
          refine rw_top (y := nI (((aI u 2 (f_Wo_a w)) + (f_Wo_immediate w)).toNatClampNeg)) (hp_n hr1) ?_
          refine lv_iload_n hx hb d_Ma_load_93 rfl (lv_at hl 2 rfl) ?_
          refine callWi (va_runV (As := [.int (nI (((aI u 2 (f_Wo_a w)) + (f_Wo_immediate w)).toNatClampNeg)), .int (nI (pw (f_Wo_f w)))]) (rest := [.int (nI (f_Wo_d w)), .ref (ad 3)]) ⟨hx, hb, hml, hown, hts⟩ (c_Me_read l dC dI cI ad ((f_Ma_isReached (f_Wo_a w) ((aI u 2 (f_Wo_a w)) + (f_Wo_immediate w)) (pw (f_Wo_f w)) u).2) (((aI u 2 (f_Wo_a w)) + (f_Wo_immediate w)).toNatClampNeg) (pw (f_Wo_f w)) (by first | assumption | omega) H.size) (cwV 2 hts (goodV m_8_31 m_8_32 m_8_33 m_0_3 m_8_34) rfl rfl rfl (by decide +kernel) ⟨Nat.le_of_ble_eq_true rfl, Nat.le_of_ble_eq_true rfl⟩) ⟨preW_blind, va_recv hK hP (ci := 2) (q0 := 2) rfl rfl, preW_ok hP hD hK⟩ rfl rfl hl.1 rfl (lv_room (Nat.le_of_ble_eq_true rfl)) d_Ma_load_94 ⟨Nat.zero_le _, Nat.zero_le _⟩) hP hD hS hA (fun H locs hP hD hS => ?_)
          refine lv_iload hx hb d_Ma_load_97 (lv_at hl 0 rfl) ?_
          refine lv_ishl hx hb d_Ma_load_99 ?_
          refine lv_iload hx hb d_Ma_load_100 (lv_at hl 0 rfl) ?_
          refine lv_ishr hx hb d_Ma_load_102 ?_
          refine lv_aload_n hx hb d_Ma_load_103 rfl (lv_at hl 4 rfl) ?_
          refine va_get (D := (dC, dI)) (ci := 1) (v := .ref (ad 2)) (C := R_Ma) (T := F_Ma) (N := 10) hx hb hts in_Ma hown hK hP 1 rfl rfl 0 (by decide) (hts _ m_4_10) (fun _ h9 => h9) rfl d_Ma_load_104 ?_
          refine lv_iload hx hb d_Ma_load_107 (lv_at hl 1 rfl) ?_
          refine rw_top (y := nI (((aI u 2 (f_Wo_a w)) + (f_Wo_immediate w)).toNatClampNeg)) (hp_n hr1) ?_
          refine lv_iload_n hx hb d_Ma_load_109 rfl (lv_at hl 2 rfl) ?_
          refine callWi (va_runV (As := [.int (nI (((aI u 2 (f_Wo_a w)) + (f_Wo_immediate w)).toNatClampNeg)), .int (nI (pw (f_Wo_f w)))]) (rest := [.int (((f_Me_read (((aI u 2 (f_Wo_a w)) + (f_Wo_immediate w)).toNatClampNeg) (pw (f_Wo_f w)) ((f_Ma_isReached (f_Wo_a w) ((aI u 2 (f_Wo_a w)) + (f_Wo_immediate w)) (pw (f_Wo_f w)) u).2)) <<< (x4 &&& 31)) >>> (x4 &&& 31)), .int (nI (f_Wo_d w)), .ref (ad 3)]) ⟨hx, hb, hml, hown, hts⟩ (c_Me_readUngiven l dC dI cI ad ((f_Ma_isReached (f_Wo_a w) ((aI u 2 (f_Wo_a w)) + (f_Wo_immediate w)) (pw (f_Wo_f w)) u).2) (((aI u 2 (f_Wo_a w)) + (f_Wo_immediate w)).toNatClampNeg) (pw (f_Wo_f w)) (by first | assumption | omega) H.size) (cwV 2 hts (goodV m_8_35 m_8_36 m_8_37 m_0_3 m_8_38) rfl rfl rfl (by decide +kernel) ⟨Nat.le_of_ble_eq_true rfl, Nat.le_of_ble_eq_true rfl⟩) ⟨preW_blind, va_recv hK hP (ci := 2) (q0 := 2) rfl rfl, preW_ok hP hD hK⟩ rfl rfl hl.1 rfl (lv_room (Nat.le_of_ble_eq_true rfl)) d_Ma_load_110 ⟨Nat.zero_le _, Nat.zero_le _⟩) hP hD hS hA (fun H locs hP hD hS => ?_)
          refine lv_iload hx hb d_Ma_load_113 (lv_at hl 0 rfl) ?_
          refine lv_ishl hx hb d_Ma_load_115 ?_
          refine lv_iload hx hb d_Ma_load_116 (lv_at hl 0 rfl) ?_
          refine lv_ishr hx hb d_Ma_load_118 ?_
          refine callWv (va_runV (As := [.int (nI (f_Wo_d w)), .int (((f_Me_read (((aI u 2 (f_Wo_a w)) + (f_Wo_immediate w)).toNatClampNeg) (pw (f_Wo_f w)) ((f_Ma_isReached (f_Wo_a w) ((aI u 2 (f_Wo_a w)) + (f_Wo_immediate w)) (pw (f_Wo_f w)) u).2)) <<< (x4 &&& 31)) >>> (x4 &&& 31)), .int (((f_Me_readUngiven (((aI u 2 (f_Wo_a w)) + (f_Wo_immediate w)).toNatClampNeg) (pw (f_Wo_f w)) ((f_Ma_isReached (f_Wo_a w) ((aI u 2 (f_Wo_a w)) + (f_Wo_immediate w)) (pw (f_Wo_f w)) u).2)) <<< (x4 &&& 31)) >>> (x4 &&& 31))]) (rest := []) ⟨hx, hb, hml, hown, hts⟩ (c_Rg_put l dC dI cI ad ((f_Ma_isReached (f_Wo_a w) ((aI u 2 (f_Wo_a w)) + (f_Wo_immediate w)) (pw (f_Wo_f w)) u).2) (f_Wo_d w) (((f_Me_read (((aI u 2 (f_Wo_a w)) + (f_Wo_immediate w)).toNatClampNeg) (pw (f_Wo_f w)) ((f_Ma_isReached (f_Wo_a w) ((aI u 2 (f_Wo_a w)) + (f_Wo_immediate w)) (pw (f_Wo_f w)) u).2)) <<< (x4 &&& 31)) >>> (x4 &&& 31)) (((f_Me_readUngiven (((aI u 2 (f_Wo_a w)) + (f_Wo_immediate w)).toNatClampNeg) (pw (f_Wo_f w)) ((f_Ma_isReached (f_Wo_a w) ((aI u 2 (f_Wo_a w)) + (f_Wo_immediate w)) (pw (f_Wo_f w)) u).2)) <<< (x4 &&& 31)) >>> (x4 &&& 31)) (by first | assumption | omega) H.size) (cwV 3 hts (goodV m_7_14 m_7_15 m_7_16 m_0_7 m_7_17) rfl rfl rfl (by decide +kernel) ⟨Nat.le_of_ble_eq_true rfl, Nat.le_of_ble_eq_true rfl⟩) ⟨preW_blind, va_recv hK hP (ci := 3) (q0 := 3) rfl rfl, preW_ok hP hD hK⟩ rfl rfl hl.1 rfl (lv_room (Nat.le_of_ble_eq_true rfl)) d_Ma_load_119 ⟨Nat.zero_le _, Nat.zero_le _⟩) hP hD hS hA (fun H locs hP hD hS => ?_)
          have hE : res = f_Rg_put (f_Wo_d w) (((f_Me_read (((aI u 2 (f_Wo_a w)) + (f_Wo_immediate w)).toNatClampNeg) (pw (f_Wo_f w)) ((f_Ma_isReached (f_Wo_a w) ((aI u 2 (f_Wo_a w)) + (f_Wo_immediate w)) (pw (f_Wo_f w)) u).2)) <<< (x4 &&& 31)) >>> (x4 &&& 31)) (((f_Me_readUngiven (((aI u 2 (f_Wo_a w)) + (f_Wo_immediate w)).toNatClampNeg) (pw (f_Wo_f w)) ((f_Ma_isReached (f_Wo_a w) ((aI u 2 (f_Wo_a w)) + (f_Wo_immediate w)) (pw (f_Wo_f w)) u).2)) <<< (x4 &&& 31)) >>> (x4 &&& 31)) ((f_Ma_isReached (f_Wo_a w) ((aI u 2 (f_Wo_a w)) + (f_Wo_immediate w)) (pw (f_Wo_f w)) u).2) := (by subst ex4; exact hq.trans ((if_neg c1).trans ((if_pos c2).trans ((if_pos c3).trans rfl))))
          exact retWv hx hb hr hP hK hD hS hE.symm d_Ma_load_122 hlocks
        refine rn_ge (tgt := 76) hx hb (by omega) (by omega) d_Ma_load_63 (by decide) (fun c5 => ?_) (fun c5 => ?_)
        · skip
          refine lv_iconst (v := 0) hx hb d_Ma_load_76 (by decide) ?_
          exact J77 0 _ _ (Eq.symm ((if_neg (Nat.not_lt.mpr c5)).trans (rfl))) hP hD hS
        · skip
          refine lv_bipush (v := 32) hx hb d_Ma_load_66 (by decide) ?_
          refine lv_bipush (v := nI 8) hx hb d_Ma_load_68 (by decide) ?_
          refine lv_iload_n hx hb d_Ma_load_70 rfl (lv_at hl 1 rfl) ?_
          refine lv_imul hx hb d_Ma_load_71 ?_
          refine rw_top (y := nI (8 * (pw (f_Wo_f w)))) (pk_mul 8 (pw (f_Wo_f w))) ?_
          refine lv_isub hx hb d_Ma_load_72 ?_
          refine lv_goto (tgt := 77) hx hb d_Ma_load_73 (by decide) ?_
          exact J77 ((32 : Int32) - (nI (8 * (pw (f_Wo_f w))))) _ _ (Eq.symm ((if_pos c5).trans (rfl))) hP hD hS
      · skip
        have hE : res = (f_Ma_isReached (f_Wo_a w) ((aI u 2 (f_Wo_a w)) + (f_Wo_immediate w)) (pw (f_Wo_f w)) u).2 := hq.trans ((if_neg c1).trans ((if_pos c2).trans ((if_neg c3).trans rfl)))
        exact retWv hx hb hr hP hK hD hS hE.symm d_Ma_load_60 hlocks
    · skip
      refine lv_aload_n hx hb d_Ma_load_15 rfl (lv_at hl 1 rfl) ?_
      refine lv_iconst (v := 1) hx hb d_Ma_load_16 (by decide) ?_
      refine callWv (va_runV (As := [.int 1]) (rest := []) ⟨hx, hb, hml, hown, hts⟩ (c_Ma_trap l dC dI cI ad u 1 H.size) (cwV 1 hts (goodV m_6_19 m_6_20 m_18_37 m_0_2 m_6_21) rfl rfl rfl (by decide +kernel) ⟨Nat.le_of_ble_eq_true rfl, Nat.le_of_ble_eq_true rfl⟩) ⟨preW_blind, va_recv hK hP (ci := 1) (q0 := 1) rfl rfl, preW_ok hP hD hK⟩ rfl rfl hl.1 rfl (lv_room (Nat.le_of_ble_eq_true rfl)) d_Ma_load_17 ⟨Nat.zero_le _, Nat.zero_le _⟩) hP hD hS hA (fun H locs hP hD hS => ?_)
      have hE : res = f_Ma_trap 1 u := hq.trans ((if_neg c1).trans ((if_neg (Nat.not_le.mpr c2)).trans rfl))
      exact retWv hx hb hr hP hK hD hS hE.symm d_Ma_load_20 hlocks
def w_Ma_store : List Cond := .code y_Ma_store b_Ma_store 6 none :: ALLW
def rm_Ma_store : Room := { frames := 23, cells := 0, slots := 0, locals := 672 }
theorem d_Ma_store_0 : decode b_Ma_store 0 = .ok (.iload_n 1, 1) := by decide +kernel
theorem d_Ma_store_1 : decode b_Ma_store 1 = .ok (.invokestatic 113, 3) := by decide +kernel
theorem d_Ma_store_4 : decode b_Ma_store 4 = .ok (.istore_n 2, 1) := by decide +kernel
theorem d_Ma_store_5 : decode b_Ma_store 5 = .ok (.iload_n 2, 1) := by decide +kernel
theorem d_Ma_store_6 : decode b_Ma_store 6 = .ok (.iconst 2, 1) := by decide +kernel
theorem d_Ma_store_7 : decode b_Ma_store 7 = .ok (.if_icmp .le 9, 3) := by decide +kernel
theorem d_Ma_store_10 : decode b_Ma_store 10 = .ok (.aload_n 0, 1) := by decide +kernel
theorem d_Ma_store_11 : decode b_Ma_store 11 = .ok (.iconst 1, 1) := by decide +kernel
theorem d_Ma_store_12 : decode b_Ma_store 12 = .ok (.invokevirtual 59, 3) := by decide +kernel
theorem d_Ma_store_15 : decode b_Ma_store 15 = .ok (.return_, 1) := by decide +kernel
theorem d_Ma_store_16 : decode b_Ma_store 16 = .ok (.iconst 1, 1) := by decide +kernel
theorem d_Ma_store_17 : decode b_Ma_store 17 = .ok (.iload_n 2, 1) := by decide +kernel
theorem d_Ma_store_18 : decode b_Ma_store 18 = .ok (.ishl, 1) := by decide +kernel
theorem d_Ma_store_19 : decode b_Ma_store 19 = .ok (.istore_n 3, 1) := by decide +kernel
theorem d_Ma_store_20 : decode b_Ma_store 20 = .ok (.iload_n 1, 1) := by decide +kernel
theorem d_Ma_store_21 : decode b_Ma_store 21 = .ok (.invokestatic 128, 3) := by decide +kernel
theorem d_Ma_store_24 : decode b_Ma_store 24 = .ok (.istore 4, 2) := by decide +kernel
theorem d_Ma_store_26 : decode b_Ma_store 26 = .ok (.aload_n 0, 1) := by decide +kernel
theorem d_Ma_store_27 : decode b_Ma_store 27 = .ok (.getfield 21, 3) := by decide +kernel
theorem d_Ma_store_30 : decode b_Ma_store 30 = .ok (.getfield 124, 3) := by decide +kernel
theorem d_Ma_store_33 : decode b_Ma_store 33 = .ok (.iload_n 1, 1) := by decide +kernel
theorem d_Ma_store_34 : decode b_Ma_store 34 = .ok (.invokestatic 147, 3) := by decide +kernel
theorem d_Ma_store_37 : decode b_Ma_store 37 = .ok (.iaload, 1) := by decide +kernel
theorem d_Ma_store_38 : decode b_Ma_store 38 = .ok (.iload_n 1, 1) := by decide +kernel
theorem d_Ma_store_39 : decode b_Ma_store 39 = .ok (.invokestatic 179, 3) := by decide +kernel
theorem d_Ma_store_42 : decode b_Ma_store 42 = .ok (.iadd, 1) := by decide +kernel
theorem d_Ma_store_43 : decode b_Ma_store 43 = .ok (.istore 5, 2) := by decide +kernel
theorem d_Ma_store_45 : decode b_Ma_store 45 = .ok (.aload_n 0, 1) := by decide +kernel
theorem d_Ma_store_46 : decode b_Ma_store 46 = .ok (.iload_n 1, 1) := by decide +kernel
theorem d_Ma_store_47 : decode b_Ma_store 47 = .ok (.invokestatic 147, 3) := by decide +kernel
theorem d_Ma_store_50 : decode b_Ma_store 50 = .ok (.iload 5, 2) := by decide +kernel
theorem d_Ma_store_52 : decode b_Ma_store 52 = .ok (.iload_n 3, 1) := by decide +kernel
theorem d_Ma_store_53 : decode b_Ma_store 53 = .ok (.invokevirtual 170, 3) := by decide +kernel
theorem d_Ma_store_56 : decode b_Ma_store 56 = .ok (.ifCond .eq 33, 3) := by decide +kernel
theorem d_Ma_store_59 : decode b_Ma_store 59 = .ok (.aload_n 0, 1) := by decide +kernel
theorem d_Ma_store_60 : decode b_Ma_store 60 = .ok (.getfield 12, 3) := by decide +kernel
theorem d_Ma_store_63 : decode b_Ma_store 63 = .ok (.iload 5, 2) := by decide +kernel
theorem d_Ma_store_65 : decode b_Ma_store 65 = .ok (.iload_n 3, 1) := by decide +kernel
theorem d_Ma_store_66 : decode b_Ma_store 66 = .ok (.aload_n 0, 1) := by decide +kernel
theorem d_Ma_store_67 : decode b_Ma_store 67 = .ok (.getfield 21, 3) := by decide +kernel
theorem d_Ma_store_70 : decode b_Ma_store 70 = .ok (.getfield 124, 3) := by decide +kernel
theorem d_Ma_store_73 : decode b_Ma_store 73 = .ok (.iload 4, 2) := by decide +kernel
theorem d_Ma_store_75 : decode b_Ma_store 75 = .ok (.iaload, 1) := by decide +kernel
theorem d_Ma_store_76 : decode b_Ma_store 76 = .ok (.aload_n 0, 1) := by decide +kernel
theorem d_Ma_store_77 : decode b_Ma_store 77 = .ok (.getfield 21, 3) := by decide +kernel
theorem d_Ma_store_80 : decode b_Ma_store 80 = .ok (.getfield 131, 3) := by decide +kernel
theorem d_Ma_store_83 : decode b_Ma_store 83 = .ok (.iload 4, 2) := by decide +kernel
theorem d_Ma_store_85 : decode b_Ma_store 85 = .ok (.iaload, 1) := by decide +kernel
theorem d_Ma_store_86 : decode b_Ma_store 86 = .ok (.invokevirtual 182, 3) := by decide +kernel
theorem d_Ma_store_89 : decode b_Ma_store 89 = .ok (.return_, 1) := by decide +kernel
def f_Ma_store (w : Int32) (u : S5) : S5 := if (f_Wo_f w) ≤ 2 then (if ((f_Ma_isReached (f_Wo_a w) ((aI u 2 (f_Wo_a w)) + (f_Wo_storeOffset w)) (pv (f_Wo_f w)) u).1) = true then f_Me_write (((aI u 2 (f_Wo_a w)) + (f_Wo_storeOffset w)).toNatClampNeg) (pv (f_Wo_f w)) (aI ((f_Ma_isReached (f_Wo_a w) ((aI u 2 (f_Wo_a w)) + (f_Wo_storeOffset w)) (pv (f_Wo_f w)) u).2) 2 (f_Wo_b w)) (aI ((f_Ma_isReached (f_Wo_a w) ((aI u 2 (f_Wo_a w)) + (f_Wo_storeOffset w)) (pv (f_Wo_f w)) u).2) 3 (f_Wo_b w)) ((f_Ma_isReached (f_Wo_a w) ((aI u 2 (f_Wo_a w)) + (f_Wo_storeOffset w)) (pv (f_Wo_f w)) u).2) else (f_Ma_isReached (f_Wo_a w) ((aI u 2 (f_Wo_a w)) + (f_Wo_storeOffset w)) (pv (f_Wo_f w)) u).2) else f_Ma_trap 1 u
set_option maxHeartbeats 8000000 in
set_option maxRecDepth 100000 in
theorem c_Ma_store (l : Launch) (dC : Nat → ClassId) (dI : Nat → Nat → Nat) (cI : ClassId) (ad : Nat → Nat) (u : S5) (w : Int32) (ok : OkR u) (sz : Nat) : Met l y_Ma_store w_Ma_store rm_Ma_store (PreW (dC, dI) classes [(cI, .int)] (wC cI ad) u sz [.ref (ad 1), .int w]) (QWv (dC, dI) classes [(cI, .int)] (wC cI ad) (va_A (wC cI ad u) sz) (f_Ma_store w u)) 0 0 (va_A (wC cI ad u) sz) := by
  generalize hres : f_Ma_store w u = res
  refine Met.ofW (cc := b_Ma_store) (maxL := 6) (ret := none) (by decide) rfl ?_
  intro p e s m args below meth c s₁ B hml hv
  obtain ⟨rfl, rfl, hP, hK, hD0⟩ := hv
  have hx := B.exec
  have hb := B.bytes
  have hr := B.returns
  have hts : ∀ w9 ∈ ALLW, w9.before ([.ref (ad 1), .int w] : List Value).toArray s = true := fun w9 h => atoms_spec (ws := w_Ma_store) B.pre w9 (List.mem_cons_of_mem _ h)
  have hown : s.vm.findClass R_Ma = some m.cls := findClass_of_methodNamed B.named
  have hlocks := B.notSynchronized
  have hD := hD0.self (sz := s.heap.size)
  generalize hAe : va_A (wC cI ad u) s.heap.size = A at hD ⊢
  have hA : ∀ q : Nat, s.heap.size ≤ q → A q := fun q h => by rw [← hAe]; exact Or.inr h
  have hS : va_S A s.heap s.heap [] := va_S.rf
  have hl := lv_entry ([.ref (ad 1), .int w]) (n := 6) (Nat.le_of_ble_eq_true rfl)
  rw [lg_entry_eq]
  generalize (lg_sl ([.ref (ad 1), .int w]) ++ List.replicate (6 - (lg_sl ([.ref (ad 1), .int w])).length) Slot.unset).toArray = ls at hl ⊢
  have hl : lv_has ls 6 [(0, .ref (ad 1)), (1, .int w)] := hl
  have hq := hres.symm
  skip
  obtain ⟨ok0, ok1, ok2⟩ := id ok
  have hf := bWo_f w
  have ha := bWo_a w
  have hd := bWo_d w
  have hbb := bWo_b w
  refine lv_iload_n hx hb d_Ma_store_0 rfl (lv_at hl 1 rfl) ?_
  refine callPi (va_runS (As := [.int w]) (rest := []) ⟨hx, hb, hml, hown, hts⟩ (c_Wo_f l w s.heap.size) (va_cwS 1 hts (goodS m_7_32 m_7_33 m_0_13 m_7_34) rfl rfl rfl (by decide +kernel) ⟨Nat.le_of_ble_eq_true rfl, Nat.le_of_ble_eq_true rfl⟩) ⟨preP_blind, preP_ok⟩ rfl rfl hl.1 rfl (lv_room (Nat.le_of_ble_eq_true rfl)) d_Ma_store_1 ⟨Nat.zero_le _, Nat.zero_le _⟩) hP hS hA (fun H locs hP hS => ?_)
  refine lv_istore_n (lv' := [(2, .int (nI (f_Wo_f w))), (0, .ref (ad 1)), (1, .int w)]) hx hb d_Ma_store_4 rfl hl (by decide) rfl (fun ls hl => ?_)
  refine lv_iload_n hx hb d_Ma_store_5 rfl (lv_at hl 0 rfl) ?_
  refine lv_iconst (v := nI 2) hx hb d_Ma_store_6 (by decide) ?_
  refine rn_le (tgt := 16) hx hb (by omega) (by omega) d_Ma_store_7 (by decide) (fun c1 => ?_) (fun c1 => ?_)
  · skip
    refine lv_iconst (v := 1) hx hb d_Ma_store_16 (by decide) ?_
    refine lv_iload_n hx hb d_Ma_store_17 rfl (lv_at hl 0 rfl) ?_
    refine lv_ishl hx hb d_Ma_store_18 ?_
    refine rw_top (y := nI (pv (f_Wo_f w))) (st_e _ hf) ?_
    have hn4 := st_4 _ c1
    refine lv_istore_n (lv' := [(3, .int (nI (pv (f_Wo_f w)))), (2, .int (nI (f_Wo_f w))), (0, .ref (ad 1)), (1, .int w)]) hx hb d_Ma_store_19 rfl hl (by decide) rfl (fun ls hl => ?_)
    refine lv_iload_n hx hb d_Ma_store_20 rfl (lv_at hl 3 rfl) ?_
    refine callPi (va_runS (As := [.int w]) (rest := []) ⟨hx, hb, hml, hown, hts⟩ (c_Wo_b l w H.size) (va_cwS 1 hts (goodS m_8_8 m_8_9 m_0_13 m_8_10) rfl rfl rfl (by decide +kernel) ⟨Nat.le_of_ble_eq_true rfl, Nat.le_of_ble_eq_true rfl⟩) ⟨preP_blind, preP_ok⟩ rfl rfl hl.1 rfl (lv_room (Nat.le_of_ble_eq_true rfl)) d_Ma_store_21 ⟨Nat.zero_le _, Nat.zero_le _⟩) hP hS hA (fun H locs hP hS => ?_)
    refine lv_istore (lv' := [(4, .int (nI (f_Wo_b w))), (3, .int (nI (pv (f_Wo_f w)))), (2, .int (nI (f_Wo_f w))), (0, .ref (ad 1)), (1, .int w)]) hx hb d_Ma_store_24 hl (by decide) rfl (fun ls hl => ?_)
    refine lv_aload_n hx hb d_Ma_store_26 rfl (lv_at hl 3 rfl) ?_
    refine va_get (D := (dC, dI)) (ci := 1) (v := .ref (ad 3)) (C := R_Ma) (T := F_Ma) (N := 10) hx hb hts in_Ma hown hK hP 1 rfl rfl 1 (by decide) (hts _ m_4_12) (fun _ h9 => h9) rfl d_Ma_store_27 ?_
    refine va_get (D := (dC, dI)) (ci := 3) (v := .ref (ad 10)) (C := R_Rg) (T := F_Rg) (N := 2) hx hb hts in_Rg hown hK hP 3 rfl rfl 0 (by decide) (hts _ m_1_37) (fun _ h9 => h9) rfl d_Ma_store_30 ?_
    refine lv_iload_n hx hb d_Ma_store_33 rfl (lv_at hl 4 rfl) ?_
    refine callPi (va_runS (As := [.int w]) (rest := [.ref (ad 10)]) ⟨hx, hb, hml, hown, hts⟩ (c_Wo_a l w H.size) (va_cwS 1 hts (goodS m_7_35 m_7_36 m_0_13 m_7_37) rfl rfl rfl (by decide +kernel) ⟨Nat.le_of_ble_eq_true rfl, Nat.le_of_ble_eq_true rfl⟩) ⟨preP_blind, preP_ok⟩ rfl rfl hl.1 rfl (lv_room (Nat.le_of_ble_eq_true rfl)) d_Ma_store_34 ⟨Nat.zero_le _, Nat.zero_le _⟩) hP hS hA (fun H locs hP hS => ?_)
    refine aldC_value (u := u) (v := aI u 2 (f_Wo_a w)) hx hb hK hP (by omega) rfl d_Ma_store_37 ?_
    refine lv_iload_n hx hb d_Ma_store_38 rfl (lv_at hl 4 rfl) ?_
    refine callPi (va_runS (As := [.int w]) (rest := [.int (aI u 2 (f_Wo_a w))]) ⟨hx, hb, hml, hown, hts⟩ (c_Wo_storeOffset l w H.size) (va_cwS 1 hts (goodS m_9_2 m_9_3 m_0_13 m_9_4) rfl rfl rfl (by decide +kernel) ⟨Nat.le_of_ble_eq_true rfl, Nat.le_of_ble_eq_true rfl⟩) ⟨preP_blind, preP_ok⟩ rfl rfl hl.1 rfl (lv_room (Nat.le_of_ble_eq_true rfl)) d_Ma_store_39 ⟨Nat.zero_le _, Nat.zero_le _⟩) hP hS hA (fun H locs hP hS => ?_)
    refine lv_iadd hx hb d_Ma_store_42 ?_
    refine lv_istore (lv' := [(5, .int ((aI u 2 (f_Wo_a w)) + (f_Wo_storeOffset w))), (4, .int (nI (f_Wo_b w))), (3, .int (nI (pv (f_Wo_f w)))), (2, .int (nI (f_Wo_f w))), (0, .ref (ad 1)), (1, .int w)]) hx hb d_Ma_store_43 hl (by decide) rfl (fun ls hl => ?_)
    refine lv_aload_n hx hb d_Ma_store_45 rfl (lv_at hl 4 rfl) ?_
    refine lv_iload_n hx hb d_Ma_store_46 rfl (lv_at hl 5 rfl) ?_
    refine callPi (va_runS (As := [.int w]) (rest := [.ref (ad 1)]) ⟨hx, hb, hml, hown, hts⟩ (c_Wo_a l w H.size) (va_cwS 1 hts (goodS m_7_35 m_7_36 m_0_13 m_7_37) rfl rfl rfl (by decide +kernel) ⟨Nat.le_of_ble_eq_true rfl, Nat.le_of_ble_eq_true rfl⟩) ⟨preP_blind, preP_ok⟩ rfl rfl hl.1 rfl (lv_room (Nat.le_of_ble_eq_true rfl)) d_Ma_store_47 ⟨Nat.zero_le _, Nat.zero_le _⟩) hP hS hA (fun H locs hP hS => ?_)
    refine lv_iload hx hb d_Ma_store_50 (lv_at hl 0 rfl) ?_
    refine lv_iload_n hx hb d_Ma_store_52 rfl (lv_at hl 2 rfl) ?_
    refine callWi (va_runV (As := [.int (nI (f_Wo_a w)), .int ((aI u 2 (f_Wo_a w)) + (f_Wo_storeOffset w)), .int (nI (pv (f_Wo_f w)))]) (rest := []) ⟨hx, hb, hml, hown, hts⟩ (c_Ma_isReached l dC dI cI ad u (f_Wo_a w) ((aI u 2 (f_Wo_a w)) + (f_Wo_storeOffset w)) (pv (f_Wo_f w)) (by first | assumption | omega) (by first | assumption | omega) (by first | assumption | omega) H.size) (cwV 3 hts (goodV m_8_27 m_8_28 m_19_4 m_0_2 m_8_29) rfl rfl rfl (by decide +kernel) ⟨Nat.le_of_ble_eq_true rfl, Nat.le_of_ble_eq_true rfl⟩) ⟨preW_blind, va_recv hK hP (ci := 1) (q0 := 1) rfl rfl, preW_ok hP hD hK⟩ rfl rfl hl.1 rfl (lv_room (Nat.le_of_ble_eq_true rfl)) d_Ma_store_53 ⟨Nat.zero_le _, Nat.zero_le _⟩) hP hD hS hA (fun H locs hP hD hS => ?_)
    refine rb_eq (tgt := 89) hx hb d_Ma_store_56 (by decide) (fun c2 => ?_) (fun c2 => ?_)
    · skip
      have hE : res = (f_Ma_isReached (f_Wo_a w) ((aI u 2 (f_Wo_a w)) + (f_Wo_storeOffset w)) (pv (f_Wo_f w)) u).2 := hq.trans ((if_pos c1).trans ((if_neg c2).trans rfl))
      exact retWv hx hb hr hP hK hD hS hE.symm d_Ma_store_89 hlocks
    · skip
      obtain ⟨hr1, hr2⟩ := rc_in hn4 (by assumption)
      refine lv_aload_n hx hb d_Ma_store_59 rfl (lv_at hl 4 rfl) ?_
      refine va_get (D := (dC, dI)) (ci := 1) (v := .ref (ad 2)) (C := R_Ma) (T := F_Ma) (N := 10) hx hb hts in_Ma hown hK hP 1 rfl rfl 0 (by decide) (hts _ m_4_10) (fun _ h9 => h9) rfl d_Ma_store_60 ?_
      refine lv_iload hx hb d_Ma_store_63 (lv_at hl 0 rfl) ?_
      refine rw_top (y := nI (((aI u 2 (f_Wo_a w)) + (f_Wo_storeOffset w)).toNatClampNeg)) (hp_n hr1) ?_
      refine lv_iload_n hx hb d_Ma_store_65 rfl (lv_at hl 2 rfl) ?_
      refine lv_aload_n hx hb d_Ma_store_66 rfl (lv_at hl 4 rfl) ?_
      refine va_get (D := (dC, dI)) (ci := 1) (v := .ref (ad 3)) (C := R_Ma) (T := F_Ma) (N := 10) hx hb hts in_Ma hown hK hP 1 rfl rfl 1 (by decide) (hts _ m_4_12) (fun _ h9 => h9) rfl d_Ma_store_67 ?_
      refine va_get (D := (dC, dI)) (ci := 3) (v := .ref (ad 10)) (C := R_Rg) (T := F_Rg) (N := 2) hx hb hts in_Rg hown hK hP 3 rfl rfl 0 (by decide) (hts _ m_1_37) (fun _ h9 => h9) rfl d_Ma_store_70 ?_
      refine lv_iload hx hb d_Ma_store_73 (lv_at hl 1 rfl) ?_
      refine aldC_value (u := ((f_Ma_isReached (f_Wo_a w) ((aI u 2 (f_Wo_a w)) + (f_Wo_storeOffset w)) (pv (f_Wo_f w)) u).2)) (v := aI ((f_Ma_isReached (f_Wo_a w) ((aI u 2 (f_Wo_a w)) + (f_Wo_storeOffset w)) (pv (f_Wo_f w)) u).2) 2 (f_Wo_b w)) hx hb hK hP (by omega) rfl d_Ma_store_75 ?_
      refine lv_aload_n hx hb d_Ma_store_76 rfl (lv_at hl 4 rfl) ?_
      refine va_get (D := (dC, dI)) (ci := 1) (v := .ref (ad 3)) (C := R_Ma) (T := F_Ma) (N := 10) hx hb hts in_Ma hown hK hP 1 rfl rfl 1 (by decide) (hts _ m_4_12) (fun _ h9 => h9) rfl d_Ma_store_77 ?_
      refine va_get (D := (dC, dI)) (ci := 3) (v := .ref (ad 11)) (C := R_Rg) (T := F_Rg) (N := 2) hx hb hts in_Rg hown hK hP 3 rfl rfl 1 (by decide) (hts _ m_2_1) (fun _ h9 => h9) rfl d_Ma_store_80 ?_
      refine lv_iload hx hb d_Ma_store_83 (lv_at hl 1 rfl) ?_
      refine aldC_ungiven (u := ((f_Ma_isReached (f_Wo_a w) ((aI u 2 (f_Wo_a w)) + (f_Wo_storeOffset w)) (pv (f_Wo_f w)) u).2)) (v := aI ((f_Ma_isReached (f_Wo_a w) ((aI u 2 (f_Wo_a w)) + (f_Wo_storeOffset w)) (pv (f_Wo_f w)) u).2) 3 (f_Wo_b w)) hx hb hK hP (by omega) rfl d_Ma_store_85 ?_
      refine callWv (va_runV (As := [.int (nI (((aI u 2 (f_Wo_a w)) + (f_Wo_storeOffset w)).toNatClampNeg)), .int (nI (pv (f_Wo_f w))), .int (aI ((f_Ma_isReached (f_Wo_a w) ((aI u 2 (f_Wo_a w)) + (f_Wo_storeOffset w)) (pv (f_Wo_f w)) u).2) 2 (f_Wo_b w)), .int (aI ((f_Ma_isReached (f_Wo_a w) ((aI u 2 (f_Wo_a w)) + (f_Wo_storeOffset w)) (pv (f_Wo_f w)) u).2) 3 (f_Wo_b w))]) (rest := []) ⟨hx, hb, hml, hown, hts⟩ (c_Me_write l dC dI cI ad ((f_Ma_isReached (f_Wo_a w) ((aI u 2 (f_Wo_a w)) + (f_Wo_storeOffset w)) (pv (f_Wo_f w)) u).2) (((aI u 2 (f_Wo_a w)) + (f_Wo_storeOffset w)).toNatClampNeg) (pv (f_Wo_f w)) (aI ((f_Ma_isReached (f_Wo_a w) ((aI u 2 (f_Wo_a w)) + (f_Wo_storeOffset w)) (pv (f_Wo_f w)) u).2) 2 (f_Wo_b w)) (aI ((f_Ma_isReached (f_Wo_a w) ((aI u 2 (f_Wo_a w)) + (f_Wo_storeOffset w)) (pv (f_Wo_f w)) u).2) 3 (f_Wo_b w)) (by first | assumption | omega) H.size) (cwV 4 hts (goodV m_9_5 m_9_6 m_9_7 m_0_3 m_9_8) rfl rfl rfl (by decide +kernel) ⟨Nat.le_of_ble_eq_true rfl, Nat.le_of_ble_eq_true rfl⟩) ⟨preW_blind, va_recv hK hP (ci := 2) (q0 := 2) rfl rfl, preW_ok hP hD hK⟩ rfl rfl hl.1 rfl (lv_room (Nat.le_of_ble_eq_true rfl)) d_Ma_store_86 ⟨Nat.zero_le _, Nat.zero_le _⟩) hP hD hS hA (fun H locs hP hD hS => ?_)
      have hE : res = f_Me_write (((aI u 2 (f_Wo_a w)) + (f_Wo_storeOffset w)).toNatClampNeg) (pv (f_Wo_f w)) (aI ((f_Ma_isReached (f_Wo_a w) ((aI u 2 (f_Wo_a w)) + (f_Wo_storeOffset w)) (pv (f_Wo_f w)) u).2) 2 (f_Wo_b w)) (aI ((f_Ma_isReached (f_Wo_a w) ((aI u 2 (f_Wo_a w)) + (f_Wo_storeOffset w)) (pv (f_Wo_f w)) u).2) 3 (f_Wo_b w)) ((f_Ma_isReached (f_Wo_a w) ((aI u 2 (f_Wo_a w)) + (f_Wo_storeOffset w)) (pv (f_Wo_f w)) u).2) := hq.trans ((if_pos c1).trans ((if_pos c2).trans rfl))
      exact retWv hx hb hr hP hK hD hS hE.symm d_Ma_store_89 hlocks
  · skip
    refine lv_aload_n hx hb d_Ma_store_10 rfl (lv_at hl 1 rfl) ?_
    refine lv_iconst (v := 1) hx hb d_Ma_store_11 (by decide) ?_
    refine callWv (va_runV (As := [.int 1]) (rest := []) ⟨hx, hb, hml, hown, hts⟩ (c_Ma_trap l dC dI cI ad u 1 H.size) (cwV 1 hts (goodV m_6_19 m_6_20 m_18_37 m_0_2 m_6_21) rfl rfl rfl (by decide +kernel) ⟨Nat.le_of_ble_eq_true rfl, Nat.le_of_ble_eq_true rfl⟩) ⟨preW_blind, va_recv hK hP (ci := 1) (q0 := 1) rfl rfl, preW_ok hP hD hK⟩ rfl rfl hl.1 rfl (lv_room (Nat.le_of_ble_eq_true rfl)) d_Ma_store_12 ⟨Nat.zero_le _, Nat.zero_le _⟩) hP hD hS hA (fun H locs hP hD hS => ?_)
    have hE : res = f_Ma_trap 1 u := hq.trans ((if_neg (Nat.not_le.mpr c1)).trans rfl)
    exact retWv hx hb hr hP hK hD hS hE.symm d_Ma_store_15 hlocks
def w_Ma_reckon : List Cond := .code y_Ma_reckon b_Ma_reckon 7 none :: ALLW
def rm_Ma_reckon : Room := { frames := 23, cells := 0, slots := 0, locals := 670 }
theorem d_Ma_reckon_0 : decode b_Ma_reckon 0 = .ok (.iload_n 1, 1) := by decide +kernel
theorem d_Ma_reckon_1 : decode b_Ma_reckon 1 = .ok (.iconst (-1), 1) := by decide +kernel
theorem d_Ma_reckon_2 : decode b_Ma_reckon 2 = .ok (.if_icmp .ne 9, 3) := by decide +kernel
theorem d_Ma_reckon_5 : decode b_Ma_reckon 5 = .ok (.aload_n 0, 1) := by decide +kernel
theorem d_Ma_reckon_6 : decode b_Ma_reckon 6 = .ok (.iconst 1, 1) := by decide +kernel
theorem d_Ma_reckon_7 : decode b_Ma_reckon 7 = .ok (.invokevirtual 59, 3) := by decide +kernel
theorem d_Ma_reckon_10 : decode b_Ma_reckon 10 = .ok (.return_, 1) := by decide +kernel
theorem d_Ma_reckon_11 : decode b_Ma_reckon 11 = .ok (.aload_n 0, 1) := by decide +kernel
theorem d_Ma_reckon_12 : decode b_Ma_reckon 12 = .ok (.getfield 21, 3) := by decide +kernel
theorem d_Ma_reckon_15 : decode b_Ma_reckon 15 = .ok (.getfield 124, 3) := by decide +kernel
theorem d_Ma_reckon_18 : decode b_Ma_reckon 18 = .ok (.iload_n 2, 1) := by decide +kernel
theorem d_Ma_reckon_19 : decode b_Ma_reckon 19 = .ok (.invokestatic 147, 3) := by decide +kernel
theorem d_Ma_reckon_22 : decode b_Ma_reckon 22 = .ok (.iaload, 1) := by decide +kernel
theorem d_Ma_reckon_23 : decode b_Ma_reckon 23 = .ok (.istore 5, 2) := by decide +kernel
theorem d_Ma_reckon_25 : decode b_Ma_reckon 25 = .ok (.aload_n 0, 1) := by decide +kernel
theorem d_Ma_reckon_26 : decode b_Ma_reckon 26 = .ok (.getfield 21, 3) := by decide +kernel
theorem d_Ma_reckon_29 : decode b_Ma_reckon 29 = .ok (.getfield 131, 3) := by decide +kernel
theorem d_Ma_reckon_32 : decode b_Ma_reckon 32 = .ok (.iload_n 2, 1) := by decide +kernel
theorem d_Ma_reckon_33 : decode b_Ma_reckon 33 = .ok (.invokestatic 147, 3) := by decide +kernel
theorem d_Ma_reckon_36 : decode b_Ma_reckon 36 = .ok (.iaload, 1) := by decide +kernel
theorem d_Ma_reckon_37 : decode b_Ma_reckon 37 = .ok (.istore 6, 2) := by decide +kernel
theorem d_Ma_reckon_39 : decode b_Ma_reckon 39 = .ok (.aload_n 0, 1) := by decide +kernel
theorem d_Ma_reckon_40 : decode b_Ma_reckon 40 = .ok (.getfield 21, 3) := by decide +kernel
theorem d_Ma_reckon_43 : decode b_Ma_reckon 43 = .ok (.iload_n 2, 1) := by decide +kernel
theorem d_Ma_reckon_44 : decode b_Ma_reckon 44 = .ok (.invokestatic 84, 3) := by decide +kernel
theorem d_Ma_reckon_47 : decode b_Ma_reckon 47 = .ok (.iload_n 1, 1) := by decide +kernel
theorem d_Ma_reckon_48 : decode b_Ma_reckon 48 = .ok (.iload 5, 2) := by decide +kernel
theorem d_Ma_reckon_50 : decode b_Ma_reckon 50 = .ok (.iload_n 3, 1) := by decide +kernel
theorem d_Ma_reckon_51 : decode b_Ma_reckon 51 = .ok (.invokestatic 189, 3) := by decide +kernel
theorem d_Ma_reckon_54 : decode b_Ma_reckon 54 = .ok (.iload_n 1, 1) := by decide +kernel
theorem d_Ma_reckon_55 : decode b_Ma_reckon 55 = .ok (.iload 5, 2) := by decide +kernel
theorem d_Ma_reckon_57 : decode b_Ma_reckon 57 = .ok (.iload 6, 2) := by decide +kernel
theorem d_Ma_reckon_59 : decode b_Ma_reckon 59 = .ok (.iload_n 3, 1) := by decide +kernel
theorem d_Ma_reckon_60 : decode b_Ma_reckon 60 = .ok (.iload 4, 2) := by decide +kernel
theorem d_Ma_reckon_62 : decode b_Ma_reckon 62 = .ok (.invokestatic 192, 3) := by decide +kernel
theorem d_Ma_reckon_65 : decode b_Ma_reckon 65 = .ok (.invokevirtual 92, 3) := by decide +kernel
theorem d_Ma_reckon_68 : decode b_Ma_reckon 68 = .ok (.return_, 1) := by decide +kernel
def f_Ma_reckon (k : Int32) (w : Int32) (b : Int32) (ub : Int32) (u : S5) : S5 := if k = (-1) then f_Ma_trap 1 u else f_Rg_put (f_Wo_d w) (f_Rk_value k (aI u 2 (f_Wo_a w)) b) (f_Rk_ungiven k (aI u 2 (f_Wo_a w)) (aI u 3 (f_Wo_a w)) b ub) u
set_option maxHeartbeats 8000000 in
set_option maxRecDepth 100000 in
theorem c_Ma_reckon (l : Launch) (dC : Nat → ClassId) (dI : Nat → Nat → Nat) (cI : ClassId) (ad : Nat → Nat) (u : S5) (k : Int32) (w : Int32) (b : Int32) (ub : Int32) (sz : Nat) : Met l y_Ma_reckon w_Ma_reckon rm_Ma_reckon (PreW (dC, dI) classes [(cI, .int)] (wC cI ad) u sz [.ref (ad 1), .int k, .int w, .int b, .int ub]) (QWv (dC, dI) classes [(cI, .int)] (wC cI ad) (va_A (wC cI ad u) sz) (f_Ma_reckon k w b ub u)) 0 0 (va_A (wC cI ad u) sz) := by
  generalize hres : f_Ma_reckon k w b ub u = res
  refine Met.ofW (cc := b_Ma_reckon) (maxL := 7) (ret := none) (by decide) rfl ?_
  intro p e s m args below meth c s₁ B hml hv
  obtain ⟨rfl, rfl, hP, hK, hD0⟩ := hv
  have hx := B.exec
  have hb := B.bytes
  have hr := B.returns
  have hts : ∀ w9 ∈ ALLW, w9.before ([.ref (ad 1), .int k, .int w, .int b, .int ub] : List Value).toArray s = true := fun w9 h => atoms_spec (ws := w_Ma_reckon) B.pre w9 (List.mem_cons_of_mem _ h)
  have hown : s.vm.findClass R_Ma = some m.cls := findClass_of_methodNamed B.named
  have hlocks := B.notSynchronized
  have hD := hD0.self (sz := s.heap.size)
  generalize hAe : va_A (wC cI ad u) s.heap.size = A at hD ⊢
  have hA : ∀ q : Nat, s.heap.size ≤ q → A q := fun q h => by rw [← hAe]; exact Or.inr h
  have hS : va_S A s.heap s.heap [] := va_S.rf
  have hl := lv_entry ([.ref (ad 1), .int k, .int w, .int b, .int ub]) (n := 7) (Nat.le_of_ble_eq_true rfl)
  rw [lg_entry_eq]
  generalize (lg_sl ([.ref (ad 1), .int k, .int w, .int b, .int ub]) ++ List.replicate (7 - (lg_sl ([.ref (ad 1), .int k, .int w, .int b, .int ub])).length) Slot.unset).toArray = ls at hl ⊢
  have hl : lv_has ls 7 [(0, .ref (ad 1)), (1, .int k), (2, .int w), (3, .int b), (4, .int ub)] := hl
  have hq := hres.symm
  skip
  have hf := bWo_f w
  have ha := bWo_a w
  have hd := bWo_d w
  have hbb := bWo_b w
  refine lv_iload_n hx hb d_Ma_reckon_0 rfl (lv_at hl 1 rfl) ?_
  refine lv_iconst (v := (-1)) hx hb d_Ma_reckon_1 (by decide) ?_
  refine lv_icmp_ne (tgt := 11) hx hb d_Ma_reckon_2 (by decide) (fun c1 => ?_) (fun c1 => ?_)
  · skip
    refine lv_aload_n hx hb d_Ma_reckon_11 rfl (lv_at hl 0 rfl) ?_
    refine va_get (D := (dC, dI)) (ci := 1) (v := .ref (ad 3)) (C := R_Ma) (T := F_Ma) (N := 10) hx hb hts in_Ma hown hK hP 1 rfl rfl 1 (by decide) (hts _ m_4_12) (fun _ h9 => h9) rfl d_Ma_reckon_12 ?_
    refine va_get (D := (dC, dI)) (ci := 3) (v := .ref (ad 10)) (C := R_Rg) (T := F_Rg) (N := 2) hx hb hts in_Rg hown hK hP 3 rfl rfl 0 (by decide) (hts _ m_1_37) (fun _ h9 => h9) rfl d_Ma_reckon_15 ?_
    refine lv_iload_n hx hb d_Ma_reckon_18 rfl (lv_at hl 2 rfl) ?_
    refine callPi (va_runS (As := [.int w]) (rest := [.ref (ad 10)]) ⟨hx, hb, hml, hown, hts⟩ (c_Wo_a l w s.heap.size) (va_cwS 1 hts (goodS m_7_35 m_7_36 m_0_13 m_7_37) rfl rfl rfl (by decide +kernel) ⟨Nat.le_of_ble_eq_true rfl, Nat.le_of_ble_eq_true rfl⟩) ⟨preP_blind, preP_ok⟩ rfl rfl hl.1 rfl (lv_room (Nat.le_of_ble_eq_true rfl)) d_Ma_reckon_19 ⟨Nat.zero_le _, Nat.zero_le _⟩) hP hS hA (fun H locs hP hS => ?_)
    refine aldC_value (u := u) (v := aI u 2 (f_Wo_a w)) hx hb hK hP (by omega) rfl d_Ma_reckon_22 ?_
    refine lv_istore (lv' := [(5, .int (aI u 2 (f_Wo_a w))), (0, .ref (ad 1)), (1, .int k), (2, .int w), (3, .int b), (4, .int ub)]) hx hb d_Ma_reckon_23 hl (by decide) rfl (fun ls hl => ?_)
    refine lv_aload_n hx hb d_Ma_reckon_25 rfl (lv_at hl 1 rfl) ?_
    refine va_get (D := (dC, dI)) (ci := 1) (v := .ref (ad 3)) (C := R_Ma) (T := F_Ma) (N := 10) hx hb hts in_Ma hown hK hP 1 rfl rfl 1 (by decide) (hts _ m_4_12) (fun _ h9 => h9) rfl d_Ma_reckon_26 ?_
    refine va_get (D := (dC, dI)) (ci := 3) (v := .ref (ad 11)) (C := R_Rg) (T := F_Rg) (N := 2) hx hb hts in_Rg hown hK hP 3 rfl rfl 1 (by decide) (hts _ m_2_1) (fun _ h9 => h9) rfl d_Ma_reckon_29 ?_
    refine lv_iload_n hx hb d_Ma_reckon_32 rfl (lv_at hl 3 rfl) ?_
    refine callPi (va_runS (As := [.int w]) (rest := [.ref (ad 11)]) ⟨hx, hb, hml, hown, hts⟩ (c_Wo_a l w H.size) (va_cwS 1 hts (goodS m_7_35 m_7_36 m_0_13 m_7_37) rfl rfl rfl (by decide +kernel) ⟨Nat.le_of_ble_eq_true rfl, Nat.le_of_ble_eq_true rfl⟩) ⟨preP_blind, preP_ok⟩ rfl rfl hl.1 rfl (lv_room (Nat.le_of_ble_eq_true rfl)) d_Ma_reckon_33 ⟨Nat.zero_le _, Nat.zero_le _⟩) hP hS hA (fun H locs hP hS => ?_)
    refine aldC_ungiven (u := u) (v := aI u 3 (f_Wo_a w)) hx hb hK hP (by omega) rfl d_Ma_reckon_36 ?_
    refine lv_istore (lv' := [(6, .int (aI u 3 (f_Wo_a w))), (5, .int (aI u 2 (f_Wo_a w))), (0, .ref (ad 1)), (1, .int k), (2, .int w), (3, .int b), (4, .int ub)]) hx hb d_Ma_reckon_37 hl (by decide) rfl (fun ls hl => ?_)
    refine lv_aload_n hx hb d_Ma_reckon_39 rfl (lv_at hl 2 rfl) ?_
    refine va_get (D := (dC, dI)) (ci := 1) (v := .ref (ad 3)) (C := R_Ma) (T := F_Ma) (N := 10) hx hb hts in_Ma hown hK hP 1 rfl rfl 1 (by decide) (hts _ m_4_12) (fun _ h9 => h9) rfl d_Ma_reckon_40 ?_
    refine lv_iload_n hx hb d_Ma_reckon_43 rfl (lv_at hl 4 rfl) ?_
    refine callPi (va_runS (As := [.int w]) (rest := [.ref (ad 3)]) ⟨hx, hb, hml, hown, hts⟩ (c_Wo_d l w H.size) (va_cwS 1 hts (goodS m_7_8 m_7_9 m_0_13 m_7_10) rfl rfl rfl (by decide +kernel) ⟨Nat.le_of_ble_eq_true rfl, Nat.le_of_ble_eq_true rfl⟩) ⟨preP_blind, preP_ok⟩ rfl rfl hl.1 rfl (lv_room (Nat.le_of_ble_eq_true rfl)) d_Ma_reckon_44 ⟨Nat.zero_le _, Nat.zero_le _⟩) hP hS hA (fun H locs hP hS => ?_)
    refine lv_iload_n hx hb d_Ma_reckon_47 rfl (lv_at hl 3 rfl) ?_
    refine lv_iload hx hb d_Ma_reckon_48 (lv_at hl 1 rfl) ?_
    refine lv_iload_n hx hb d_Ma_reckon_50 rfl (lv_at hl 5 rfl) ?_
    refine callPi (va_runS (As := [.int k, .int (aI u 2 (f_Wo_a w)), .int b]) (rest := [.int (nI (f_Wo_d w)), .ref (ad 3)]) ⟨hx, hb, hml, hown, hts⟩ (c_Rk_value l k (aI u 2 (f_Wo_a w)) b H.size) (va_cwS 3 hts (goodS m_9_21 m_9_22 m_0_14 m_9_23) rfl rfl rfl (by decide +kernel) ⟨Nat.le_of_ble_eq_true rfl, Nat.le_of_ble_eq_true rfl⟩) ⟨preP_blind, preP_ok⟩ rfl rfl hl.1 rfl (lv_room (Nat.le_of_ble_eq_true rfl)) d_Ma_reckon_51 ⟨Nat.zero_le _, Nat.zero_le _⟩) hP hS hA (fun H locs hP hS => ?_)
    refine lv_iload_n hx hb d_Ma_reckon_54 rfl (lv_at hl 3 rfl) ?_
    refine lv_iload hx hb d_Ma_reckon_55 (lv_at hl 1 rfl) ?_
    refine lv_iload hx hb d_Ma_reckon_57 (lv_at hl 0 rfl) ?_
    refine lv_iload_n hx hb d_Ma_reckon_59 rfl (lv_at hl 5 rfl) ?_
    refine lv_iload hx hb d_Ma_reckon_60 (lv_at hl 6 rfl) ?_
    refine callPi (va_runS (As := [.int k, .int (aI u 2 (f_Wo_a w)), .int (aI u 3 (f_Wo_a w)), .int b, .int ub]) (rest := [.int (f_Rk_value k (aI u 2 (f_Wo_a w)) b), .int (nI (f_Wo_d w)), .ref (ad 3)]) ⟨hx, hb, hml, hown, hts⟩ (c_Rk_ungiven l k (aI u 2 (f_Wo_a w)) (aI u 3 (f_Wo_a w)) b ub H.size) (va_cwS 5 hts (goodS m_9_32 m_9_33 m_0_14 m_9_34) rfl rfl rfl (by decide +kernel) ⟨Nat.le_of_ble_eq_true rfl, Nat.le_of_ble_eq_true rfl⟩) ⟨preP_blind, preP_ok⟩ rfl rfl hl.1 rfl (lv_room (Nat.le_of_ble_eq_true rfl)) d_Ma_reckon_62 ⟨Nat.zero_le _, Nat.zero_le _⟩) hP hS hA (fun H locs hP hS => ?_)
    refine callWv (va_runV (As := [.int (nI (f_Wo_d w)), .int (f_Rk_value k (aI u 2 (f_Wo_a w)) b), .int (f_Rk_ungiven k (aI u 2 (f_Wo_a w)) (aI u 3 (f_Wo_a w)) b ub)]) (rest := []) ⟨hx, hb, hml, hown, hts⟩ (c_Rg_put l dC dI cI ad u (f_Wo_d w) (f_Rk_value k (aI u 2 (f_Wo_a w)) b) (f_Rk_ungiven k (aI u 2 (f_Wo_a w)) (aI u 3 (f_Wo_a w)) b ub) (by first | assumption | omega) H.size) (cwV 3 hts (goodV m_7_14 m_7_15 m_7_16 m_0_7 m_7_17) rfl rfl rfl (by decide +kernel) ⟨Nat.le_of_ble_eq_true rfl, Nat.le_of_ble_eq_true rfl⟩) ⟨preW_blind, va_recv hK hP (ci := 3) (q0 := 3) rfl rfl, preW_ok hP hD hK⟩ rfl rfl hl.1 rfl (lv_room (Nat.le_of_ble_eq_true rfl)) d_Ma_reckon_65 ⟨Nat.zero_le _, Nat.zero_le _⟩) hP hD hS hA (fun H locs hP hD hS => ?_)
    have hE : res = f_Rg_put (f_Wo_d w) (f_Rk_value k (aI u 2 (f_Wo_a w)) b) (f_Rk_ungiven k (aI u 2 (f_Wo_a w)) (aI u 3 (f_Wo_a w)) b ub) u := hq.trans ((if_neg c1).trans rfl)
    exact retWv hx hb hr hP hK hD hS hE.symm d_Ma_reckon_68 hlocks
  · skip
    refine lv_aload_n hx hb d_Ma_reckon_5 rfl (lv_at hl 0 rfl) ?_
    refine lv_iconst (v := 1) hx hb d_Ma_reckon_6 (by decide) ?_
    refine callWv (va_runV (As := [.int 1]) (rest := []) ⟨hx, hb, hml, hown, hts⟩ (c_Ma_trap l dC dI cI ad u 1 s.heap.size) (cwV 1 hts (goodV m_6_19 m_6_20 m_18_37 m_0_2 m_6_21) rfl rfl rfl (by decide +kernel) ⟨Nat.le_of_ble_eq_true rfl, Nat.le_of_ble_eq_true rfl⟩) ⟨preW_blind, va_recv hK hP (ci := 1) (q0 := 1) rfl rfl, preW_ok hP hD hK⟩ rfl rfl hl.1 rfl (lv_room (Nat.le_of_ble_eq_true rfl)) d_Ma_reckon_7 ⟨Nat.zero_le _, Nat.zero_le _⟩) hP hD hS hA (fun H locs hP hD hS => ?_)
    have hE : res = f_Ma_trap 1 u := hq.trans ((if_pos c1).trans rfl)
    exact retWv hx hb hr hP hK hD hS hE.symm d_Ma_reckon_10 hlocks
def w_Ma_reckonImmediate : List Cond := .code y_Ma_reckonImmediate b_Ma_reckonImmediate 3 none :: ALLW
def rm_Ma_reckonImmediate : Room := { frames := 24, cells := 0, slots := 0, locals := 696 }
theorem d_Ma_reckonImmediate_0 : decode b_Ma_reckonImmediate 0 = .ok (.iload_n 1, 1) := by decide +kernel
theorem d_Ma_reckonImmediate_1 : decode b_Ma_reckonImmediate 1 = .ok (.invokestatic 113, 3) := by decide +kernel
theorem d_Ma_reckonImmediate_4 : decode b_Ma_reckonImmediate 4 = .ok (.istore_n 2, 1) := by decide +kernel
theorem d_Ma_reckonImmediate_5 : decode b_Ma_reckonImmediate 5 = .ok (.iload_n 2, 1) := by decide +kernel
theorem d_Ma_reckonImmediate_6 : decode b_Ma_reckonImmediate 6 = .ok (.iconst 1, 1) := by decide +kernel
theorem d_Ma_reckonImmediate_7 : decode b_Ma_reckonImmediate 7 = .ok (.if_icmp .eq 8, 3) := by decide +kernel
theorem d_Ma_reckonImmediate_10 : decode b_Ma_reckonImmediate 10 = .ok (.iload_n 2, 1) := by decide +kernel
theorem d_Ma_reckonImmediate_11 : decode b_Ma_reckonImmediate 11 = .ok (.iconst 5, 1) := by decide +kernel
theorem d_Ma_reckonImmediate_12 : decode b_Ma_reckonImmediate 12 = .ok (.if_icmp .ne 24, 3) := by decide +kernel
theorem d_Ma_reckonImmediate_15 : decode b_Ma_reckonImmediate 15 = .ok (.aload_n 0, 1) := by decide +kernel
theorem d_Ma_reckonImmediate_16 : decode b_Ma_reckonImmediate 16 = .ok (.iload_n 2, 1) := by decide +kernel
theorem d_Ma_reckonImmediate_17 : decode b_Ma_reckonImmediate 17 = .ok (.iload_n 1, 1) := by decide +kernel
theorem d_Ma_reckonImmediate_18 : decode b_Ma_reckonImmediate 18 = .ok (.invokestatic 116, 3) := by decide +kernel
theorem d_Ma_reckonImmediate_21 : decode b_Ma_reckonImmediate 21 = .ok (.invokestatic 186, 3) := by decide +kernel
theorem d_Ma_reckonImmediate_24 : decode b_Ma_reckonImmediate 24 = .ok (.iload_n 1, 1) := by decide +kernel
theorem d_Ma_reckonImmediate_25 : decode b_Ma_reckonImmediate 25 = .ok (.iload_n 1, 1) := by decide +kernel
theorem d_Ma_reckonImmediate_26 : decode b_Ma_reckonImmediate 26 = .ok (.invokestatic 128, 3) := by decide +kernel
theorem d_Ma_reckonImmediate_29 : decode b_Ma_reckonImmediate 29 = .ok (.iconst 0, 1) := by decide +kernel
theorem d_Ma_reckonImmediate_30 : decode b_Ma_reckonImmediate 30 = .ok (.invokevirtual 134, 3) := by decide +kernel
theorem d_Ma_reckonImmediate_33 : decode b_Ma_reckonImmediate 33 = .ok (.goto 14, 3) := by decide +kernel
theorem d_Ma_reckonImmediate_36 : decode b_Ma_reckonImmediate 36 = .ok (.aload_n 0, 1) := by decide +kernel
theorem d_Ma_reckonImmediate_37 : decode b_Ma_reckonImmediate 37 = .ok (.iload_n 2, 1) := by decide +kernel
theorem d_Ma_reckonImmediate_38 : decode b_Ma_reckonImmediate 38 = .ok (.iload_n 1, 1) := by decide +kernel
theorem d_Ma_reckonImmediate_39 : decode b_Ma_reckonImmediate 39 = .ok (.iload_n 1, 1) := by decide +kernel
theorem d_Ma_reckonImmediate_40 : decode b_Ma_reckonImmediate 40 = .ok (.invokestatic 150, 3) := by decide +kernel
theorem d_Ma_reckonImmediate_43 : decode b_Ma_reckonImmediate 43 = .ok (.iconst 0, 1) := by decide +kernel
theorem d_Ma_reckonImmediate_44 : decode b_Ma_reckonImmediate 44 = .ok (.invokevirtual 134, 3) := by decide +kernel
theorem d_Ma_reckonImmediate_47 : decode b_Ma_reckonImmediate 47 = .ok (.return_, 1) := by decide +kernel
def f_Ma_reckonImmediate (w : Int32) (u : S5) : S5 := if (f_Wo_f w) = 1 then f_Ma_reckon (f_Rk_kindOfShift (nI (f_Wo_f w)) (f_Wo_g w)) w (nI (f_Wo_b w)) 0 u else if (f_Wo_f w) = 5 then f_Ma_reckon (f_Rk_kindOfShift (nI (f_Wo_f w)) (f_Wo_g w)) w (nI (f_Wo_b w)) 0 u else f_Ma_reckon (nI (f_Wo_f w)) w (f_Wo_immediate w) 0 u
set_option maxHeartbeats 8000000 in
set_option maxRecDepth 100000 in
theorem c_Ma_reckonImmediate (l : Launch) (dC : Nat → ClassId) (dI : Nat → Nat → Nat) (cI : ClassId) (ad : Nat → Nat) (u : S5) (w : Int32) (sz : Nat) : Met l y_Ma_reckonImmediate w_Ma_reckonImmediate rm_Ma_reckonImmediate (PreW (dC, dI) classes [(cI, .int)] (wC cI ad) u sz [.ref (ad 1), .int w]) (QWv (dC, dI) classes [(cI, .int)] (wC cI ad) (va_A (wC cI ad u) sz) (f_Ma_reckonImmediate w u)) 0 0 (va_A (wC cI ad u) sz) := by
  generalize hres : f_Ma_reckonImmediate w u = res
  refine Met.ofW (cc := b_Ma_reckonImmediate) (maxL := 3) (ret := none) (by decide) rfl ?_
  intro p e s m args below meth c s₁ B hml hv
  obtain ⟨rfl, rfl, hP, hK, hD0⟩ := hv
  have hx := B.exec
  have hb := B.bytes
  have hr := B.returns
  have hts : ∀ w9 ∈ ALLW, w9.before ([.ref (ad 1), .int w] : List Value).toArray s = true := fun w9 h => atoms_spec (ws := w_Ma_reckonImmediate) B.pre w9 (List.mem_cons_of_mem _ h)
  have hown : s.vm.findClass R_Ma = some m.cls := findClass_of_methodNamed B.named
  have hlocks := B.notSynchronized
  have hD := hD0.self (sz := s.heap.size)
  generalize hAe : va_A (wC cI ad u) s.heap.size = A at hD ⊢
  have hA : ∀ q : Nat, s.heap.size ≤ q → A q := fun q h => by rw [← hAe]; exact Or.inr h
  have hS : va_S A s.heap s.heap [] := va_S.rf
  have hl := lv_entry ([.ref (ad 1), .int w]) (n := 3) (Nat.le_of_ble_eq_true rfl)
  rw [lg_entry_eq]
  generalize (lg_sl ([.ref (ad 1), .int w]) ++ List.replicate (3 - (lg_sl ([.ref (ad 1), .int w])).length) Slot.unset).toArray = ls at hl ⊢
  have hl : lv_has ls 3 [(0, .ref (ad 1)), (1, .int w)] := hl
  have hq := hres.symm
  skip
  have hf := bWo_f w
  have ha := bWo_a w
  have hd := bWo_d w
  have hbb := bWo_b w
  refine lv_iload_n hx hb d_Ma_reckonImmediate_0 rfl (lv_at hl 1 rfl) ?_
  refine callPi (va_runS (As := [.int w]) (rest := []) ⟨hx, hb, hml, hown, hts⟩ (c_Wo_f l w s.heap.size) (va_cwS 1 hts (goodS m_7_32 m_7_33 m_0_13 m_7_34) rfl rfl rfl (by decide +kernel) ⟨Nat.le_of_ble_eq_true rfl, Nat.le_of_ble_eq_true rfl⟩) ⟨preP_blind, preP_ok⟩ rfl rfl hl.1 rfl (lv_room (Nat.le_of_ble_eq_true rfl)) d_Ma_reckonImmediate_1 ⟨Nat.zero_le _, Nat.zero_le _⟩) hP hS hA (fun H locs hP hS => ?_)
  refine lv_istore_n (lv' := [(2, .int (nI (f_Wo_f w))), (0, .ref (ad 1)), (1, .int w)]) hx hb d_Ma_reckonImmediate_4 rfl hl (by decide) rfl (fun ls hl => ?_)
  refine lv_iload_n hx hb d_Ma_reckonImmediate_5 rfl (lv_at hl 0 rfl) ?_
  refine lv_iconst (v := nI 1) hx hb d_Ma_reckonImmediate_6 (by decide) ?_
  refine rn_eq (tgt := 15) hx hb (by omega) (by omega) d_Ma_reckonImmediate_7 (by decide) (fun c1 => ?_) (fun c1 => ?_)
  · skip
    refine lv_aload_n hx hb d_Ma_reckonImmediate_15 rfl (lv_at hl 1 rfl) ?_
    refine lv_iload_n hx hb d_Ma_reckonImmediate_16 rfl (lv_at hl 0 rfl) ?_
    refine lv_iload_n hx hb d_Ma_reckonImmediate_17 rfl (lv_at hl 2 rfl) ?_
    refine callPi (va_runS (As := [.int w]) (rest := [.int (nI (f_Wo_f w)), .ref (ad 1)]) ⟨hx, hb, hml, hown, hts⟩ (c_Wo_g l w H.size) (va_cwS 1 hts (goodS m_9_12 m_9_13 m_0_13 m_9_14) rfl rfl rfl (by decide +kernel) ⟨Nat.le_of_ble_eq_true rfl, Nat.le_of_ble_eq_true rfl⟩) ⟨preP_blind, preP_ok⟩ rfl rfl hl.1 rfl (lv_room (Nat.le_of_ble_eq_true rfl)) d_Ma_reckonImmediate_18 ⟨Nat.zero_le _, Nat.zero_le _⟩) hP hS hA (fun H locs hP hS => ?_)
    refine callPi (va_runS (As := [.int (nI (f_Wo_f w)), .int (f_Wo_g w)]) (rest := [.ref (ad 1)]) ⟨hx, hb, hml, hown, hts⟩ (c_Rk_kindOfShift l (nI (f_Wo_f w)) (f_Wo_g w) H.size) (va_cwS 2 hts (goodS m_9_15 m_9_16 m_0_14 m_9_17) rfl rfl rfl (by decide +kernel) ⟨Nat.le_of_ble_eq_true rfl, Nat.le_of_ble_eq_true rfl⟩) ⟨preP_blind, preP_ok⟩ rfl rfl hl.1 rfl (lv_room (Nat.le_of_ble_eq_true rfl)) d_Ma_reckonImmediate_21 ⟨Nat.zero_le _, Nat.zero_le _⟩) hP hS hA (fun H locs hP hS => ?_)
    refine lv_iload_n hx hb d_Ma_reckonImmediate_24 rfl (lv_at hl 2 rfl) ?_
    refine lv_iload_n hx hb d_Ma_reckonImmediate_25 rfl (lv_at hl 2 rfl) ?_
    refine callPi (va_runS (As := [.int w]) (rest := [.int w, .int (f_Rk_kindOfShift (nI (f_Wo_f w)) (f_Wo_g w)), .ref (ad 1)]) ⟨hx, hb, hml, hown, hts⟩ (c_Wo_b l w H.size) (va_cwS 1 hts (goodS m_8_8 m_8_9 m_0_13 m_8_10) rfl rfl rfl (by decide +kernel) ⟨Nat.le_of_ble_eq_true rfl, Nat.le_of_ble_eq_true rfl⟩) ⟨preP_blind, preP_ok⟩ rfl rfl hl.1 rfl (lv_room (Nat.le_of_ble_eq_true rfl)) d_Ma_reckonImmediate_26 ⟨Nat.zero_le _, Nat.zero_le _⟩) hP hS hA (fun H locs hP hS => ?_)
    refine lv_iconst (v := 0) hx hb d_Ma_reckonImmediate_29 (by decide) ?_
    refine callWv (va_runV (As := [.int (f_Rk_kindOfShift (nI (f_Wo_f w)) (f_Wo_g w)), .int w, .int (nI (f_Wo_b w)), .int 0]) (rest := []) ⟨hx, hb, hml, hown, hts⟩ (c_Ma_reckon l dC dI cI ad u (f_Rk_kindOfShift (nI (f_Wo_f w)) (f_Wo_g w)) w (nI (f_Wo_b w)) 0 H.size) (cwV 4 hts (goodV m_9_18 m_9_19 m_19_7 m_0_2 m_9_20) rfl rfl rfl (by decide +kernel) ⟨Nat.le_of_ble_eq_true rfl, Nat.le_of_ble_eq_true rfl⟩) ⟨preW_blind, va_recv hK hP (ci := 1) (q0 := 1) rfl rfl, preW_ok hP hD hK⟩ rfl rfl hl.1 rfl (lv_room (Nat.le_of_ble_eq_true rfl)) d_Ma_reckonImmediate_30 ⟨Nat.zero_le _, Nat.zero_le _⟩) hP hD hS hA (fun H locs hP hD hS => ?_)
    refine lv_goto (tgt := 47) hx hb d_Ma_reckonImmediate_33 (by decide) ?_
    have hE : res = f_Ma_reckon (f_Rk_kindOfShift (nI (f_Wo_f w)) (f_Wo_g w)) w (nI (f_Wo_b w)) 0 u := hq.trans ((if_pos c1).trans rfl)
    exact retWv hx hb hr hP hK hD hS hE.symm d_Ma_reckonImmediate_47 hlocks
  · skip
    refine lv_iload_n hx hb d_Ma_reckonImmediate_10 rfl (lv_at hl 0 rfl) ?_
    refine lv_iconst (v := nI 5) hx hb d_Ma_reckonImmediate_11 (by decide) ?_
    refine rn_ne (tgt := 36) hx hb (by omega) (by omega) d_Ma_reckonImmediate_12 (by decide) (fun c2 => ?_) (fun c2 => ?_)
    · skip
      refine lv_aload_n hx hb d_Ma_reckonImmediate_36 rfl (lv_at hl 1 rfl) ?_
      refine lv_iload_n hx hb d_Ma_reckonImmediate_37 rfl (lv_at hl 0 rfl) ?_
      refine lv_iload_n hx hb d_Ma_reckonImmediate_38 rfl (lv_at hl 2 rfl) ?_
      refine lv_iload_n hx hb d_Ma_reckonImmediate_39 rfl (lv_at hl 2 rfl) ?_
      refine callPi (va_runS (As := [.int w]) (rest := [.int w, .int (nI (f_Wo_f w)), .ref (ad 1)]) ⟨hx, hb, hml, hown, hts⟩ (c_Wo_immediate l w H.size) (va_cwS 1 hts (goodS m_7_38 m_7_39 m_0_13 m_8_0) rfl rfl rfl (by decide +kernel) ⟨Nat.le_of_ble_eq_true rfl, Nat.le_of_ble_eq_true rfl⟩) ⟨preP_blind, preP_ok⟩ rfl rfl hl.1 rfl (lv_room (Nat.le_of_ble_eq_true rfl)) d_Ma_reckonImmediate_40 ⟨Nat.zero_le _, Nat.zero_le _⟩) hP hS hA (fun H locs hP hS => ?_)
      refine lv_iconst (v := 0) hx hb d_Ma_reckonImmediate_43 (by decide) ?_
      refine callWv (va_runV (As := [.int (nI (f_Wo_f w)), .int w, .int (f_Wo_immediate w), .int 0]) (rest := []) ⟨hx, hb, hml, hown, hts⟩ (c_Ma_reckon l dC dI cI ad u (nI (f_Wo_f w)) w (f_Wo_immediate w) 0 H.size) (cwV 4 hts (goodV m_9_18 m_9_19 m_19_7 m_0_2 m_9_20) rfl rfl rfl (by decide +kernel) ⟨Nat.le_of_ble_eq_true rfl, Nat.le_of_ble_eq_true rfl⟩) ⟨preW_blind, va_recv hK hP (ci := 1) (q0 := 1) rfl rfl, preW_ok hP hD hK⟩ rfl rfl hl.1 rfl (lv_room (Nat.le_of_ble_eq_true rfl)) d_Ma_reckonImmediate_44 ⟨Nat.zero_le _, Nat.zero_le _⟩) hP hD hS hA (fun H locs hP hD hS => ?_)
      have hE : res = f_Ma_reckon (nI (f_Wo_f w)) w (f_Wo_immediate w) 0 u := hq.trans ((if_neg c1).trans ((if_neg c2).trans rfl))
      exact retWv hx hb hr hP hK hD hS hE.symm d_Ma_reckonImmediate_47 hlocks
    · skip
      refine lv_aload_n hx hb d_Ma_reckonImmediate_15 rfl (lv_at hl 1 rfl) ?_
      refine lv_iload_n hx hb d_Ma_reckonImmediate_16 rfl (lv_at hl 0 rfl) ?_
      refine lv_iload_n hx hb d_Ma_reckonImmediate_17 rfl (lv_at hl 2 rfl) ?_
      refine callPi (va_runS (As := [.int w]) (rest := [.int (nI (f_Wo_f w)), .ref (ad 1)]) ⟨hx, hb, hml, hown, hts⟩ (c_Wo_g l w H.size) (va_cwS 1 hts (goodS m_9_12 m_9_13 m_0_13 m_9_14) rfl rfl rfl (by decide +kernel) ⟨Nat.le_of_ble_eq_true rfl, Nat.le_of_ble_eq_true rfl⟩) ⟨preP_blind, preP_ok⟩ rfl rfl hl.1 rfl (lv_room (Nat.le_of_ble_eq_true rfl)) d_Ma_reckonImmediate_18 ⟨Nat.zero_le _, Nat.zero_le _⟩) hP hS hA (fun H locs hP hS => ?_)
      refine callPi (va_runS (As := [.int (nI (f_Wo_f w)), .int (f_Wo_g w)]) (rest := [.ref (ad 1)]) ⟨hx, hb, hml, hown, hts⟩ (c_Rk_kindOfShift l (nI (f_Wo_f w)) (f_Wo_g w) H.size) (va_cwS 2 hts (goodS m_9_15 m_9_16 m_0_14 m_9_17) rfl rfl rfl (by decide +kernel) ⟨Nat.le_of_ble_eq_true rfl, Nat.le_of_ble_eq_true rfl⟩) ⟨preP_blind, preP_ok⟩ rfl rfl hl.1 rfl (lv_room (Nat.le_of_ble_eq_true rfl)) d_Ma_reckonImmediate_21 ⟨Nat.zero_le _, Nat.zero_le _⟩) hP hS hA (fun H locs hP hS => ?_)
      refine lv_iload_n hx hb d_Ma_reckonImmediate_24 rfl (lv_at hl 2 rfl) ?_
      refine lv_iload_n hx hb d_Ma_reckonImmediate_25 rfl (lv_at hl 2 rfl) ?_
      refine callPi (va_runS (As := [.int w]) (rest := [.int w, .int (f_Rk_kindOfShift (nI (f_Wo_f w)) (f_Wo_g w)), .ref (ad 1)]) ⟨hx, hb, hml, hown, hts⟩ (c_Wo_b l w H.size) (va_cwS 1 hts (goodS m_8_8 m_8_9 m_0_13 m_8_10) rfl rfl rfl (by decide +kernel) ⟨Nat.le_of_ble_eq_true rfl, Nat.le_of_ble_eq_true rfl⟩) ⟨preP_blind, preP_ok⟩ rfl rfl hl.1 rfl (lv_room (Nat.le_of_ble_eq_true rfl)) d_Ma_reckonImmediate_26 ⟨Nat.zero_le _, Nat.zero_le _⟩) hP hS hA (fun H locs hP hS => ?_)
      refine lv_iconst (v := 0) hx hb d_Ma_reckonImmediate_29 (by decide) ?_
      refine callWv (va_runV (As := [.int (f_Rk_kindOfShift (nI (f_Wo_f w)) (f_Wo_g w)), .int w, .int (nI (f_Wo_b w)), .int 0]) (rest := []) ⟨hx, hb, hml, hown, hts⟩ (c_Ma_reckon l dC dI cI ad u (f_Rk_kindOfShift (nI (f_Wo_f w)) (f_Wo_g w)) w (nI (f_Wo_b w)) 0 H.size) (cwV 4 hts (goodV m_9_18 m_9_19 m_19_7 m_0_2 m_9_20) rfl rfl rfl (by decide +kernel) ⟨Nat.le_of_ble_eq_true rfl, Nat.le_of_ble_eq_true rfl⟩) ⟨preW_blind, va_recv hK hP (ci := 1) (q0 := 1) rfl rfl, preW_ok hP hD hK⟩ rfl rfl hl.1 rfl (lv_room (Nat.le_of_ble_eq_true rfl)) d_Ma_reckonImmediate_30 ⟨Nat.zero_le _, Nat.zero_le _⟩) hP hD hS hA (fun H locs hP hD hS => ?_)
      refine lv_goto (tgt := 47) hx hb d_Ma_reckonImmediate_33 (by decide) ?_
      have hE : res = f_Ma_reckon (f_Rk_kindOfShift (nI (f_Wo_f w)) (f_Wo_g w)) w (nI (f_Wo_b w)) 0 u := hq.trans ((if_neg c1).trans ((if_pos c2).trans rfl))
      exact retWv hx hb hr hP hK hD hS hE.symm d_Ma_reckonImmediate_47 hlocks
