def w_SH_begin : List Cond := .code y_SH_begin b_SH_begin 1 none :: ALLW
def rm_SH_begin : Room := { frames := 24, cells := 0, slots := 0, locals := 686 }
theorem d_SH_begin_0 : decode b_SH_begin 0 = .ok (.aload_n 0, 1) := by decide +kernel
theorem d_SH_begin_1 : decode b_SH_begin 1 = .ok (.getfield 10, 3) := by decide +kernel
theorem d_SH_begin_4 : decode b_SH_begin 4 = .ok (.invokevirtual 52, 3) := by decide +kernel
theorem d_SH_begin_7 : decode b_SH_begin 7 = .ok (.return_, 1) := by decide +kernel
def f_SH_begin (u : S5) : S5 := f_Ma_reset u
set_option maxHeartbeats 8000000 in
set_option maxRecDepth 100000 in
theorem c_SH_begin (l : Launch) (dC : Nat → ClassId) (dI : Nat → Nat → Nat) (cI : ClassId) (ad : Nat → Nat) (u : S5) (sz : Nat) : Met l y_SH_begin w_SH_begin rm_SH_begin (PreW (dC, dI) classes [(cI, .int)] (wC cI ad) u sz [.ref (ad 0)]) (QWv (dC, dI) classes [(cI, .int)] (wC cI ad) (va_A (wC cI ad u) sz) (f_SH_begin u)) 0 0 (va_A (wC cI ad u) sz) := by
  generalize hres : f_SH_begin u = res
  refine Met.ofW (cc := b_SH_begin) (maxL := 1) (ret := none) (by decide) rfl ?_
  intro p e s m args below meth c s₁ B hml hv
  obtain ⟨rfl, rfl, hP, hK, hD0⟩ := hv
  have hx := B.exec
  have hb := B.bytes
  have hr := B.returns
  have hts : ∀ w9 ∈ ALLW, w9.before ([.ref (ad 0)] : List Value).toArray s = true := fun w9 h => atoms_spec (ws := w_SH_begin) B.pre w9 (List.mem_cons_of_mem _ h)
  have hown : s.vm.findClass R_SH = some m.cls := findClass_of_methodNamed B.named
  have hlocks := B.notSynchronized
  have hD := hD0.self (sz := s.heap.size)
  generalize hAe : va_A (wC cI ad u) s.heap.size = A at hD ⊢
  have hA : ∀ q : Nat, s.heap.size ≤ q → A q := fun q h => by rw [← hAe]; exact Or.inr h
  have hS : va_S A s.heap s.heap [] := va_S.rf
  have hl := lv_entry ([.ref (ad 0)]) (n := 1) (Nat.le_of_ble_eq_true rfl)
  rw [lg_entry_eq]
  generalize (lg_sl ([.ref (ad 0)]) ++ List.replicate (1 - (lg_sl ([.ref (ad 0)])).length) Slot.unset).toArray = ls at hl ⊢
  have hl : lv_has ls 1 [(0, .ref (ad 0))] := hl
  have hq := hres.symm
  skip
  refine lv_aload_n hx hb d_SH_begin_0 rfl (lv_at hl 0 rfl) ?_
  refine va_get (D := (dC, dI)) (ci := 0) (v := .ref (ad 1)) (C := R_SH) (T := F_SH) (N := 1) hx hb hts in_SH hown hK hP 0 rfl rfl 0 (by decide) (hts _ m_4_38) (fun _ h9 => h9) rfl d_SH_begin_1 ?_
  refine callWv (va_runV (As := []) (rest := []) ⟨hx, hb, hml, hown, hts⟩ (c_Ma_reset l dC dI cI ad u  s.heap.size) (cwV 0 hts (goodV m_5_4 m_5_5 m_5_6 m_0_2 m_5_7) rfl rfl rfl (by decide +kernel) ⟨Nat.le_of_ble_eq_true rfl, Nat.le_of_ble_eq_true rfl⟩) ⟨preW_blind, va_recv hK hP (ci := 1) (q0 := 1) rfl rfl, preW_ok hP hD hK⟩ rfl rfl hl.1 rfl (lv_room (Nat.le_of_ble_eq_true rfl)) d_SH_begin_4 ⟨Nat.zero_le _, Nat.zero_le _⟩) hP hD hS hA (fun H locs hP hD hS => ?_)
  have hE : res = f_Ma_reset u := hq.trans (rfl)
  exact retWv hx hb hr hP hK hD hS hE.symm d_SH_begin_7 hlocks
def w_SH_image : List Cond := .code y_SH_image b_SH_image 4 none :: ALLW
def rm_SH_image : Room := { frames := 21, cells := 0, slots := 0, locals := 624 }
theorem d_SH_image_0 : decode b_SH_image 0 = .ok (.iload_n 1, 1) := by decide +kernel
theorem d_SH_image_1 : decode b_SH_image 1 = .ok (.ifCond .lt 17, 3) := by decide +kernel
theorem d_SH_image_4 : decode b_SH_image 4 = .ok (.iload_n 1, 1) := by decide +kernel
theorem d_SH_image_5 : decode b_SH_image 5 = .ok (.sipush 16376, 3) := by decide +kernel
theorem d_SH_image_8 : decode b_SH_image 8 = .ok (.if_icmp .gt 10, 3) := by decide +kernel
theorem d_SH_image_11 : decode b_SH_image 11 = .ok (.iload_n 1, 1) := by decide +kernel
theorem d_SH_image_12 : decode b_SH_image 12 = .ok (.bipush 7, 2) := by decide +kernel
theorem d_SH_image_14 : decode b_SH_image 14 = .ok (.iand, 1) := by decide +kernel
theorem d_SH_image_15 : decode b_SH_image 15 = .ok (.ifCond .eq 11, 3) := by decide +kernel
theorem d_SH_image_18 : decode b_SH_image 18 = .ok (.new 16, 3) := by decide +kernel
theorem d_SH_image_21 : decode b_SH_image 21 = .ok (.dup, 1) := by decide +kernel
theorem d_SH_image_22 : decode b_SH_image 22 = .ok (.invokespecial 18, 3) := by decide +kernel
theorem d_SH_image_25 : decode b_SH_image 25 = .ok (.athrow, 1) := by decide +kernel
theorem d_SH_image_26 : decode b_SH_image 26 = .ok (.aload_n 0, 1) := by decide +kernel
theorem d_SH_image_27 : decode b_SH_image 27 = .ok (.getfield 10, 3) := by decide +kernel
theorem d_SH_image_30 : decode b_SH_image 30 = .ok (.getfield 19, 3) := by decide +kernel
theorem d_SH_image_33 : decode b_SH_image 33 = .ok (.iload_n 1, 1) := by decide +kernel
theorem d_SH_image_34 : decode b_SH_image 34 = .ok (.lload_n 2, 1) := by decide +kernel
theorem d_SH_image_35 : decode b_SH_image 35 = .ok (.invokevirtual 23, 3) := by decide +kernel
theorem d_SH_image_38 : decode b_SH_image 38 = .ok (.return_, 1) := by decide +kernel
def f_SH_image (at_ : Nat) (w : Int64) (u : S5) : S5 := f_Me_keepImage at_ w u
set_option maxHeartbeats 8000000 in
set_option maxRecDepth 100000 in
theorem c_SH_image (l : Launch) (dC : Nat → ClassId) (dI : Nat → Nat → Nat) (cI : ClassId) (ad : Nat → Nat) (u : S5) (at_ : Nat) (w : Int64) (ha : at_ ≤ 16376) (h7 : at_ % 8 = 0) (sz : Nat) : Met l y_SH_image w_SH_image rm_SH_image (PreW (dC, dI) classes [(cI, .int)] (wC cI ad) u sz [.ref (ad 0), .int (nI at_), .long w]) (QWv (dC, dI) classes [(cI, .int)] (wC cI ad) (va_A (wC cI ad u) sz) (f_SH_image at_ w u)) 0 0 (va_A (wC cI ad u) sz) := by
  generalize hres : f_SH_image at_ w u = res
  refine Met.ofW (cc := b_SH_image) (maxL := 4) (ret := none) (by decide) rfl ?_
  intro p e s m args below meth c s₁ B hml hv
  obtain ⟨rfl, rfl, hP, hK, hD0⟩ := hv
  have hx := B.exec
  have hb := B.bytes
  have hr := B.returns
  have hts : ∀ w9 ∈ ALLW, w9.before ([.ref (ad 0), .int (nI at_), .long w] : List Value).toArray s = true := fun w9 h => atoms_spec (ws := w_SH_image) B.pre w9 (List.mem_cons_of_mem _ h)
  have hown : s.vm.findClass R_SH = some m.cls := findClass_of_methodNamed B.named
  have hlocks := B.notSynchronized
  have hD := hD0.self (sz := s.heap.size)
  generalize hAe : va_A (wC cI ad u) s.heap.size = A at hD ⊢
  have hA : ∀ q : Nat, s.heap.size ≤ q → A q := fun q h => by rw [← hAe]; exact Or.inr h
  have hS : va_S A s.heap s.heap [] := va_S.rf
  have hl := lv_entry ([.ref (ad 0), .int (nI at_), .long w]) (n := 4) (Nat.le_of_ble_eq_true rfl)
  rw [lg_entry_eq]
  generalize (lg_sl ([.ref (ad 0), .int (nI at_), .long w]) ++ List.replicate (4 - (lg_sl ([.ref (ad 0), .int (nI at_), .long w])).length) Slot.unset).toArray = ls at hl ⊢
  have hl : lv_has ls 4 [(0, .ref (ad 0)), (1, .int (nI at_)), (2, .long w)] := hl
  have hq := hres.symm
  skip
  refine lv_iload_n hx hb d_SH_image_0 rfl (lv_at hl 1 rfl) ?_
  refine rz_lt (tgt := 18) hx hb (by omega) d_SH_image_1 (by decide) ?_
  refine lv_iload_n hx hb d_SH_image_4 rfl (lv_at hl 1 rfl) ?_
  refine lv_sipush (v := nI 16376) hx hb d_SH_image_5 (by decide) ?_
  refine rn_gt (tgt := 18) hx hb (by omega) (by omega) d_SH_image_8 (by decide) (fun c1 => ?_) (fun c1 => ?_)
  · skip
    exact absurd c1 (by omega)
  · skip
    refine lv_iload_n hx hb d_SH_image_11 rfl (lv_at hl 1 rfl) ?_
    refine lv_bipush (v := 7) hx hb d_SH_image_12 (by decide) ?_
    refine lv_iand hx hb d_SH_image_14 ?_
    refine rw_top (y := nI (at_ % 8)) (pk_andN (by omega) 3 (by decide)) ?_
    refine rz_eq (tgt := 26) hx hb (by omega) d_SH_image_15 (by decide) (fun c2 => ?_) (fun c2 => ?_)
    · skip
      refine lv_aload_n hx hb d_SH_image_26 rfl (lv_at hl 0 rfl) ?_
      refine va_get (D := (dC, dI)) (ci := 0) (v := .ref (ad 1)) (C := R_SH) (T := F_SH) (N := 1) hx hb hts in_SH hown hK hP 0 rfl rfl 0 (by decide) (hts _ m_4_38) (fun _ h9 => h9) rfl d_SH_image_27 ?_
      refine va_get (D := (dC, dI)) (ci := 1) (v := .ref (ad 2)) (C := R_Ma) (T := F_Ma) (N := 10) hx hb hts in_Ma hown hK hP 1 rfl rfl 0 (by decide) (hts _ m_4_11) (fun _ h9 => h9) rfl d_SH_image_30 ?_
      refine lv_iload_n hx hb d_SH_image_33 rfl (lv_at hl 1 rfl) ?_
      refine lv_lload_n hx hb d_SH_image_34 rfl (lv_at hl 2 rfl) ?_
      refine callWv (va_runV (As := [.int (nI at_), .long w]) (rest := []) ⟨hx, hb, hml, hown, hts⟩ (c_Me_keepImage l dC dI cI ad u at_ w (by first | assumption | omega) s.heap.size) (cwV 2 hts (goodV m_5_33 m_5_34 m_5_35 m_0_3 m_5_36) rfl rfl rfl (by decide +kernel) ⟨Nat.le_of_ble_eq_true rfl, Nat.le_of_ble_eq_true rfl⟩) ⟨preW_blind, va_recv hK hP (ci := 2) (q0 := 2) rfl rfl, preW_ok hP hD hK⟩ rfl rfl hl.1 rfl (lv_room (Nat.le_of_ble_eq_true rfl)) d_SH_image_35 ⟨Nat.zero_le _, Nat.zero_le _⟩) hP hD hS hA (fun H locs hP hD hS => ?_)
      have hE : res = f_Me_keepImage at_ w u := hq.trans (rfl)
      exact retWv hx hb hr hP hK hD hS hE.symm d_SH_image_38 hlocks
    · skip
      exfalso; omega
def w_SH_input : List Cond := .code y_SH_input b_SH_input 5 (some .int) :: ALLW
def rm_SH_input : Room := { frames := 21, cells := 0, slots := 0, locals := 624 }
theorem d_SH_input_0 : decode b_SH_input 0 = .ok (.iload_n 3, 1) := by decide +kernel
theorem d_SH_input_1 : decode b_SH_input 1 = .ok (.iconst 1, 1) := by decide +kernel
theorem d_SH_input_2 : decode b_SH_input 2 = .ok (.if_icmp .lt 9, 3) := by decide +kernel
theorem d_SH_input_5 : decode b_SH_input 5 = .ok (.iload_n 3, 1) := by decide +kernel
theorem d_SH_input_6 : decode b_SH_input 6 = .ok (.bipush 8, 2) := by decide +kernel
theorem d_SH_input_8 : decode b_SH_input 8 = .ok (.if_icmp .le 11, 3) := by decide +kernel
theorem d_SH_input_11 : decode b_SH_input 11 = .ok (.new 16, 3) := by decide +kernel
theorem d_SH_input_14 : decode b_SH_input 14 = .ok (.dup, 1) := by decide +kernel
theorem d_SH_input_15 : decode b_SH_input 15 = .ok (.invokespecial 18, 3) := by decide +kernel
theorem d_SH_input_18 : decode b_SH_input 18 = .ok (.athrow, 1) := by decide +kernel
theorem d_SH_input_19 : decode b_SH_input 19 = .ok (.aload_n 0, 1) := by decide +kernel
theorem d_SH_input_20 : decode b_SH_input 20 = .ok (.getfield 10, 3) := by decide +kernel
theorem d_SH_input_23 : decode b_SH_input 23 = .ok (.getfield 29, 3) := by decide +kernel
theorem d_SH_input_26 : decode b_SH_input 26 = .ok (.getfield 33, 3) := by decide +kernel
theorem d_SH_input_29 : decode b_SH_input 29 = .ok (.astore 4, 2) := by decide +kernel
theorem d_SH_input_31 : decode b_SH_input 31 = .ok (.iload_n 3, 1) := by decide +kernel
theorem d_SH_input_32 : decode b_SH_input 32 = .ok (.sipush 1024, 3) := by decide +kernel
theorem d_SH_input_35 : decode b_SH_input 35 = .ok (.aload 4, 2) := by decide +kernel
theorem d_SH_input_37 : decode b_SH_input 37 = .ok (.getfield 41, 3) := by decide +kernel
theorem d_SH_input_40 : decode b_SH_input 40 = .ok (.isub, 1) := by decide +kernel
theorem d_SH_input_41 : decode b_SH_input 41 = .ok (.if_icmp .le 11, 3) := by decide +kernel
theorem d_SH_input_44 : decode b_SH_input 44 = .ok (.new 45, 3) := by decide +kernel
theorem d_SH_input_47 : decode b_SH_input 47 = .ok (.dup, 1) := by decide +kernel
theorem d_SH_input_48 : decode b_SH_input 48 = .ok (.invokespecial 47, 3) := by decide +kernel
theorem d_SH_input_51 : decode b_SH_input 51 = .ok (.athrow, 1) := by decide +kernel
theorem d_SH_input_52 : decode b_SH_input 52 = .ok (.aload 4, 2) := by decide +kernel
theorem d_SH_input_54 : decode b_SH_input 54 = .ok (.lload_n 1, 1) := by decide +kernel
theorem d_SH_input_55 : decode b_SH_input 55 = .ok (.iload_n 3, 1) := by decide +kernel
theorem d_SH_input_56 : decode b_SH_input 56 = .ok (.invokevirtual 48, 3) := by decide +kernel
theorem d_SH_input_59 : decode b_SH_input 59 = .ok (.aload 4, 2) := by decide +kernel
theorem d_SH_input_61 : decode b_SH_input 61 = .ok (.getfield 41, 3) := by decide +kernel
theorem d_SH_input_64 : decode b_SH_input 64 = .ok (.ireturn, 1) := by decide +kernel
def f_SH_input (w : Int64) (n : Nat) (u : S5) : Nat × S5 := (gN (f_Po_putIn w n u) 3, f_Po_putIn w n u)
set_option maxHeartbeats 8000000 in
set_option maxRecDepth 100000 in
theorem c_SH_input (l : Launch) (dC : Nat → ClassId) (dI : Nat → Nat → Nat) (cI : ClassId) (ad : Nat → Nat) (u : S5) (w : Int64) (n : Nat) (h1 : 1 ≤ n) (h8 : n ≤ 8) (hp : gN u 3 + n ≤ 1024) (sz : Nat) : Met l y_SH_input w_SH_input rm_SH_input (PreW (dC, dI) classes [(cI, .int)] (wC cI ad) u sz [.ref (ad 0), .long w, .int (nI n)]) (QWi (dC, dI) classes [(cI, .int)] (wC cI ad) (va_A (wC cI ad u) sz) (nI (f_SH_input w n u).1) (f_SH_input w n u).2) 0 0 (va_A (wC cI ad u) sz) := by
  generalize hres : f_SH_input w n u = res
  refine Met.ofW (cc := b_SH_input) (maxL := 5) (ret := (some .int)) (by decide) rfl ?_
  intro p e s m args below meth c s₁ B hml hv
  obtain ⟨rfl, rfl, hP, hK, hD0⟩ := hv
  have hx := B.exec
  have hb := B.bytes
  have hr := B.returns
  have hts : ∀ w9 ∈ ALLW, w9.before ([.ref (ad 0), .long w, .int (nI n)] : List Value).toArray s = true := fun w9 h => atoms_spec (ws := w_SH_input) B.pre w9 (List.mem_cons_of_mem _ h)
  have hown : s.vm.findClass R_SH = some m.cls := findClass_of_methodNamed B.named
  have hlocks := B.notSynchronized
  have hD := hD0.self (sz := s.heap.size)
  generalize hAe : va_A (wC cI ad u) s.heap.size = A at hD ⊢
  have hA : ∀ q : Nat, s.heap.size ≤ q → A q := fun q h => by rw [← hAe]; exact Or.inr h
  have hS : va_S A s.heap s.heap [] := va_S.rf
  have hl := lv_entry ([.ref (ad 0), .long w, .int (nI n)]) (n := 5) (Nat.le_of_ble_eq_true rfl)
  rw [lg_entry_eq]
  generalize (lg_sl ([.ref (ad 0), .long w, .int (nI n)]) ++ List.replicate (5 - (lg_sl ([.ref (ad 0), .long w, .int (nI n)])).length) Slot.unset).toArray = ls at hl ⊢
  have hl : lv_has ls 5 [(0, .ref (ad 0)), (1, .long w), (3, .int (nI n))] := hl
  have hq := hres.symm
  skip
  refine lv_iload_n hx hb d_SH_input_0 rfl (lv_at hl 2 rfl) ?_
  refine lv_iconst (v := nI 1) hx hb d_SH_input_1 (by decide) ?_
  refine rn_lt (tgt := 11) hx hb (by omega) (by omega) d_SH_input_2 (by decide) (fun c1 => ?_) (fun c1 => ?_)
  · skip
    exact absurd c1 (by omega)
  · skip
    refine lv_iload_n hx hb d_SH_input_5 rfl (lv_at hl 2 rfl) ?_
    refine lv_bipush (v := nI 8) hx hb d_SH_input_6 (by decide) ?_
    refine rn_le (tgt := 19) hx hb (by omega) (by omega) d_SH_input_8 (by decide) (fun c2 => ?_) (fun c2 => ?_)
    · skip
      refine lv_aload_n hx hb d_SH_input_19 rfl (lv_at hl 0 rfl) ?_
      refine va_get (D := (dC, dI)) (ci := 0) (v := .ref (ad 1)) (C := R_SH) (T := F_SH) (N := 1) hx hb hts in_SH hown hK hP 0 rfl rfl 0 (by decide) (hts _ m_4_38) (fun _ h9 => h9) rfl d_SH_input_20 ?_
      refine va_get (D := (dC, dI)) (ci := 1) (v := .ref (ad 5)) (C := R_Ma) (T := F_Ma) (N := 10) hx hb hts in_Ma hown hK hP 1 rfl rfl 3 (by decide) (hts _ m_4_17) (fun _ h9 => h9) rfl d_SH_input_23 ?_
      refine va_get (D := (dC, dI)) (ci := 5) (v := .ref (ad 7)) (C := R_Ho) (T := F_Ho) (N := 2) hx hb hts in_Ho hown hK hP 5 rfl rfl 1 (by decide) (hts _ m_4_7) (fun _ h9 => h9) rfl d_SH_input_26 ?_
      refine lv_astore (lv' := [(4, .ref (ad 7)), (0, .ref (ad 0)), (1, .long w), (3, .int (nI n))]) hx hb d_SH_input_29 hl (by decide) rfl (fun ls hl => ?_)
      refine lv_iload_n hx hb d_SH_input_31 rfl (lv_at hl 3 rfl) ?_
      refine lv_sipush (v := nI 1024) hx hb d_SH_input_32 (by decide) ?_
      refine lv_aload hx hb d_SH_input_35 (lv_at hl 0 rfl) ?_
      refine va_get (D := (dC, dI)) (ci := 7) (v := .int (nI (gN u 3))) (C := R_Po) (T := F_Po) (N := 5) hx hb hts in_Po hown hK hP 7 rfl rfl 1 (by decide) (hts _ m_3_33) (fun _ h9 => h9) rfl d_SH_input_37 ?_
      refine lv_isub hx hb d_SH_input_40 ?_
      refine rw_top (y := nI (1024 - (gN u 3))) (pk_sub (by omega)) ?_
      refine rn_le (tgt := 52) hx hb (by omega) (by omega) d_SH_input_41 (by decide) (fun c3 => ?_) (fun c3 => ?_)
      · skip
        refine lv_aload hx hb d_SH_input_52 (lv_at hl 0 rfl) ?_
        refine lv_lload_n hx hb d_SH_input_54 rfl (lv_at hl 2 rfl) ?_
        refine lv_iload_n hx hb d_SH_input_55 rfl (lv_at hl 3 rfl) ?_
        refine callWv (va_runV (As := [.long w, .int (nI n)]) (rest := []) ⟨hx, hb, hml, hown, hts⟩ (c_Po_putIn l dC dI cI ad u w n (by first | assumption | omega) s.heap.size) (cwV 2 hts (goodV m_6_3 m_6_4 m_6_5 m_0_11 m_6_6) rfl rfl rfl (by decide +kernel) ⟨Nat.le_of_ble_eq_true rfl, Nat.le_of_ble_eq_true rfl⟩) ⟨preW_blind, va_recv hK hP (ci := 7) (q0 := 7) rfl rfl, preW_ok hP hD hK⟩ rfl rfl hl.1 rfl (lv_room (Nat.le_of_ble_eq_true rfl)) d_SH_input_56 ⟨Nat.zero_le _, Nat.zero_le _⟩) hP hD hS hA (fun H locs hP hD hS => ?_)
        refine lv_aload hx hb d_SH_input_59 (lv_at hl 0 rfl) ?_
        refine va_get (D := (dC, dI)) (ci := 7) (v := .int (nI (gN (f_Po_putIn w n u) 3))) (C := R_Po) (T := F_Po) (N := 5) hx hb hts in_Po hown hK hP 7 rfl rfl 1 (by decide) (hts _ m_3_33) (fun _ h9 => h9) rfl d_SH_input_61 ?_
        have hE : res = (gN (f_Po_putIn w n u) 3, f_Po_putIn w n u) := hq.trans (rfl)
        exact retWn (x := gN (f_Po_putIn w n u) 3) hx hb hr hP hK hD hS (congrArg Prod.fst hE).symm (congrArg Prod.snd hE).symm d_SH_input_64 hlocks
      · skip
        exact absurd c3 (by omega)
    · skip
      exact absurd c2 (by omega)
def w_SH_register : List Cond := .code y_SH_register b_SH_register 2 (some .int) :: ALLW
def rm_SH_register : Room := { frames := 20, cells := 0, slots := 0, locals := 600 }
theorem d_SH_register_0 : decode b_SH_register 0 = .ok (.iload_n 1, 1) := by decide +kernel
theorem d_SH_register_1 : decode b_SH_register 1 = .ok (.ifCond .lt 9, 3) := by decide +kernel
theorem d_SH_register_4 : decode b_SH_register 4 = .ok (.iload_n 1, 1) := by decide +kernel
theorem d_SH_register_5 : decode b_SH_register 5 = .ok (.bipush 32, 2) := by decide +kernel
theorem d_SH_register_7 : decode b_SH_register 7 = .ok (.if_icmp .lt 11, 3) := by decide +kernel
theorem d_SH_register_10 : decode b_SH_register 10 = .ok (.new 45, 3) := by decide +kernel
theorem d_SH_register_13 : decode b_SH_register 13 = .ok (.dup, 1) := by decide +kernel
theorem d_SH_register_14 : decode b_SH_register 14 = .ok (.invokespecial 47, 3) := by decide +kernel
theorem d_SH_register_17 : decode b_SH_register 17 = .ok (.athrow, 1) := by decide +kernel
theorem d_SH_register_18 : decode b_SH_register 18 = .ok (.aload_n 0, 1) := by decide +kernel
theorem d_SH_register_19 : decode b_SH_register 19 = .ok (.getfield 10, 3) := by decide +kernel
theorem d_SH_register_22 : decode b_SH_register 22 = .ok (.getfield 66, 3) := by decide +kernel
theorem d_SH_register_25 : decode b_SH_register 25 = .ok (.getfield 70, 3) := by decide +kernel
theorem d_SH_register_28 : decode b_SH_register 28 = .ok (.iload_n 1, 1) := by decide +kernel
theorem d_SH_register_29 : decode b_SH_register 29 = .ok (.iaload, 1) := by decide +kernel
theorem d_SH_register_30 : decode b_SH_register 30 = .ok (.ireturn, 1) := by decide +kernel
def f_SH_register (a : Nat) (u : S5) : Int32 := aI u 2 a
set_option maxHeartbeats 8000000 in
set_option maxRecDepth 100000 in
theorem c_SH_register (l : Launch) (dC : Nat → ClassId) (dI : Nat → Nat → Nat) (cI : ClassId) (ad : Nat → Nat) (u : S5) (a : Nat) (ha : a < 32) (sz : Nat) : Met l y_SH_register w_SH_register rm_SH_register (PreW (dC, dI) classes [(cI, .int)] (wC cI ad) u sz [.ref (ad 0), .int (nI a)]) (QWi (dC, dI) classes [(cI, .int)] (wC cI ad) (va_A (wC cI ad u) sz) (f_SH_register a u) u) 0 0 (va_A (wC cI ad u) sz) := by
  generalize hres : f_SH_register a u = res
  refine Met.ofW (cc := b_SH_register) (maxL := 2) (ret := (some .int)) (by decide) rfl ?_
  intro p e s m args below meth c s₁ B hml hv
  obtain ⟨rfl, rfl, hP, hK, hD0⟩ := hv
  have hx := B.exec
  have hb := B.bytes
  have hr := B.returns
  have hts : ∀ w9 ∈ ALLW, w9.before ([.ref (ad 0), .int (nI a)] : List Value).toArray s = true := fun w9 h => atoms_spec (ws := w_SH_register) B.pre w9 (List.mem_cons_of_mem _ h)
  have hown : s.vm.findClass R_SH = some m.cls := findClass_of_methodNamed B.named
  have hlocks := B.notSynchronized
  have hD := hD0.self (sz := s.heap.size)
  generalize hAe : va_A (wC cI ad u) s.heap.size = A at hD ⊢
  have hA : ∀ q : Nat, s.heap.size ≤ q → A q := fun q h => by rw [← hAe]; exact Or.inr h
  have hS : va_S A s.heap s.heap [] := va_S.rf
  have hl := lv_entry ([.ref (ad 0), .int (nI a)]) (n := 2) (Nat.le_of_ble_eq_true rfl)
  rw [lg_entry_eq]
  generalize (lg_sl ([.ref (ad 0), .int (nI a)]) ++ List.replicate (2 - (lg_sl ([.ref (ad 0), .int (nI a)])).length) Slot.unset).toArray = ls at hl ⊢
  have hl : lv_has ls 2 [(0, .ref (ad 0)), (1, .int (nI a))] := hl
  have hq := hres.symm
  skip
  refine lv_iload_n hx hb d_SH_register_0 rfl (lv_at hl 1 rfl) ?_
  refine rz_lt (tgt := 10) hx hb (by omega) d_SH_register_1 (by decide) ?_
  refine lv_iload_n hx hb d_SH_register_4 rfl (lv_at hl 1 rfl) ?_
  refine lv_bipush (v := nI 32) hx hb d_SH_register_5 (by decide) ?_
  refine rn_lt (tgt := 18) hx hb (by omega) (by omega) d_SH_register_7 (by decide) (fun c1 => ?_) (fun c1 => ?_)
  · skip
    refine lv_aload_n hx hb d_SH_register_18 rfl (lv_at hl 0 rfl) ?_
    refine va_get (D := (dC, dI)) (ci := 0) (v := .ref (ad 1)) (C := R_SH) (T := F_SH) (N := 1) hx hb hts in_SH hown hK hP 0 rfl rfl 0 (by decide) (hts _ m_4_38) (fun _ h9 => h9) rfl d_SH_register_19 ?_
    refine va_get (D := (dC, dI)) (ci := 1) (v := .ref (ad 3)) (C := R_Ma) (T := F_Ma) (N := 10) hx hb hts in_Ma hown hK hP 1 rfl rfl 1 (by decide) (hts _ m_4_13) (fun _ h9 => h9) rfl d_SH_register_22 ?_
    refine va_get (D := (dC, dI)) (ci := 3) (v := .ref (ad 10)) (C := R_Rg) (T := F_Rg) (N := 2) hx hb hts in_Rg hown hK hP 3 rfl rfl 0 (by decide) (hts _ m_1_38) (fun _ h9 => h9) rfl d_SH_register_25 ?_
    refine lv_iload_n hx hb d_SH_register_28 rfl (lv_at hl 1 rfl) ?_
    refine aldC_value (u := u) (v := aI u 2 a) hx hb hK hP (by omega) rfl d_SH_register_29 ?_
    have hE : res = aI u 2 a := hq.trans (rfl)
    exact retWi (x := aI u 2 a) hx hb hr hP hK hD hS hE.symm rfl d_SH_register_30 hlocks
  · skip
    exact absurd c1 (by omega)
def w_SH_unknown : List Cond := .code y_SH_unknown b_SH_unknown 2 (some .int) :: ALLW
def rm_SH_unknown : Room := { frames := 20, cells := 0, slots := 0, locals := 600 }
theorem d_SH_unknown_0 : decode b_SH_unknown 0 = .ok (.iload_n 1, 1) := by decide +kernel
theorem d_SH_unknown_1 : decode b_SH_unknown 1 = .ok (.ifCond .lt 9, 3) := by decide +kernel
theorem d_SH_unknown_4 : decode b_SH_unknown 4 = .ok (.iload_n 1, 1) := by decide +kernel
theorem d_SH_unknown_5 : decode b_SH_unknown 5 = .ok (.bipush 32, 2) := by decide +kernel
theorem d_SH_unknown_7 : decode b_SH_unknown 7 = .ok (.if_icmp .lt 11, 3) := by decide +kernel
theorem d_SH_unknown_10 : decode b_SH_unknown 10 = .ok (.new 45, 3) := by decide +kernel
theorem d_SH_unknown_13 : decode b_SH_unknown 13 = .ok (.dup, 1) := by decide +kernel
theorem d_SH_unknown_14 : decode b_SH_unknown 14 = .ok (.invokespecial 47, 3) := by decide +kernel
theorem d_SH_unknown_17 : decode b_SH_unknown 17 = .ok (.athrow, 1) := by decide +kernel
theorem d_SH_unknown_18 : decode b_SH_unknown 18 = .ok (.aload_n 0, 1) := by decide +kernel
theorem d_SH_unknown_19 : decode b_SH_unknown 19 = .ok (.getfield 10, 3) := by decide +kernel
theorem d_SH_unknown_22 : decode b_SH_unknown 22 = .ok (.getfield 66, 3) := by decide +kernel
theorem d_SH_unknown_25 : decode b_SH_unknown 25 = .ok (.getfield 76, 3) := by decide +kernel
theorem d_SH_unknown_28 : decode b_SH_unknown 28 = .ok (.iload_n 1, 1) := by decide +kernel
theorem d_SH_unknown_29 : decode b_SH_unknown 29 = .ok (.iaload, 1) := by decide +kernel
theorem d_SH_unknown_30 : decode b_SH_unknown 30 = .ok (.ireturn, 1) := by decide +kernel
def f_SH_unknown (a : Nat) (u : S5) : Int32 := aI u 3 a
set_option maxHeartbeats 8000000 in
set_option maxRecDepth 100000 in
theorem c_SH_unknown (l : Launch) (dC : Nat → ClassId) (dI : Nat → Nat → Nat) (cI : ClassId) (ad : Nat → Nat) (u : S5) (a : Nat) (ha : a < 32) (sz : Nat) : Met l y_SH_unknown w_SH_unknown rm_SH_unknown (PreW (dC, dI) classes [(cI, .int)] (wC cI ad) u sz [.ref (ad 0), .int (nI a)]) (QWi (dC, dI) classes [(cI, .int)] (wC cI ad) (va_A (wC cI ad u) sz) (f_SH_unknown a u) u) 0 0 (va_A (wC cI ad u) sz) := by
  generalize hres : f_SH_unknown a u = res
  refine Met.ofW (cc := b_SH_unknown) (maxL := 2) (ret := (some .int)) (by decide) rfl ?_
  intro p e s m args below meth c s₁ B hml hv
  obtain ⟨rfl, rfl, hP, hK, hD0⟩ := hv
  have hx := B.exec
  have hb := B.bytes
  have hr := B.returns
  have hts : ∀ w9 ∈ ALLW, w9.before ([.ref (ad 0), .int (nI a)] : List Value).toArray s = true := fun w9 h => atoms_spec (ws := w_SH_unknown) B.pre w9 (List.mem_cons_of_mem _ h)
  have hown : s.vm.findClass R_SH = some m.cls := findClass_of_methodNamed B.named
  have hlocks := B.notSynchronized
  have hD := hD0.self (sz := s.heap.size)
  generalize hAe : va_A (wC cI ad u) s.heap.size = A at hD ⊢
  have hA : ∀ q : Nat, s.heap.size ≤ q → A q := fun q h => by rw [← hAe]; exact Or.inr h
  have hS : va_S A s.heap s.heap [] := va_S.rf
  have hl := lv_entry ([.ref (ad 0), .int (nI a)]) (n := 2) (Nat.le_of_ble_eq_true rfl)
  rw [lg_entry_eq]
  generalize (lg_sl ([.ref (ad 0), .int (nI a)]) ++ List.replicate (2 - (lg_sl ([.ref (ad 0), .int (nI a)])).length) Slot.unset).toArray = ls at hl ⊢
  have hl : lv_has ls 2 [(0, .ref (ad 0)), (1, .int (nI a))] := hl
  have hq := hres.symm
  skip
  refine lv_iload_n hx hb d_SH_unknown_0 rfl (lv_at hl 1 rfl) ?_
  refine rz_lt (tgt := 10) hx hb (by omega) d_SH_unknown_1 (by decide) ?_
  refine lv_iload_n hx hb d_SH_unknown_4 rfl (lv_at hl 1 rfl) ?_
  refine lv_bipush (v := nI 32) hx hb d_SH_unknown_5 (by decide) ?_
  refine rn_lt (tgt := 18) hx hb (by omega) (by omega) d_SH_unknown_7 (by decide) (fun c1 => ?_) (fun c1 => ?_)
  · skip
    refine lv_aload_n hx hb d_SH_unknown_18 rfl (lv_at hl 0 rfl) ?_
    refine va_get (D := (dC, dI)) (ci := 0) (v := .ref (ad 1)) (C := R_SH) (T := F_SH) (N := 1) hx hb hts in_SH hown hK hP 0 rfl rfl 0 (by decide) (hts _ m_4_38) (fun _ h9 => h9) rfl d_SH_unknown_19 ?_
    refine va_get (D := (dC, dI)) (ci := 1) (v := .ref (ad 3)) (C := R_Ma) (T := F_Ma) (N := 10) hx hb hts in_Ma hown hK hP 1 rfl rfl 1 (by decide) (hts _ m_4_13) (fun _ h9 => h9) rfl d_SH_unknown_22 ?_
    refine va_get (D := (dC, dI)) (ci := 3) (v := .ref (ad 11)) (C := R_Rg) (T := F_Rg) (N := 2) hx hb hts in_Rg hown hK hP 3 rfl rfl 1 (by decide) (hts _ m_2_2) (fun _ h9 => h9) rfl d_SH_unknown_25 ?_
    refine lv_iload_n hx hb d_SH_unknown_28 rfl (lv_at hl 1 rfl) ?_
    refine aldC_ungiven (u := u) (v := aI u 3 a) hx hb hK hP (by omega) rfl d_SH_unknown_29 ?_
    have hE : res = aI u 3 a := hq.trans (rfl)
    exact retWi (x := aI u 3 a) hx hb hr hP hK hD hS hE.symm rfl d_SH_unknown_30 hlocks
  · skip
    exact absurd c1 (by omega)
def w_SH_memory : List Cond := .code y_SH_memory b_SH_memory 2 (some .int) :: ALLW
def rm_SH_memory : Room := { frames := 20, cells := 0, slots := 0, locals := 600 }
theorem d_SH_memory_0 : decode b_SH_memory 0 = .ok (.iload_n 1, 1) := by decide +kernel
theorem d_SH_memory_1 : decode b_SH_memory 1 = .ok (.ifCond .lt 9, 3) := by decide +kernel
theorem d_SH_memory_4 : decode b_SH_memory 4 = .ok (.iload_n 1, 1) := by decide +kernel
theorem d_SH_memory_5 : decode b_SH_memory 5 = .ok (.ldc 79, 2) := by decide +kernel
theorem d_SH_memory_7 : decode b_SH_memory 7 = .ok (.if_icmp .lt 11, 3) := by decide +kernel
theorem d_SH_memory_10 : decode b_SH_memory 10 = .ok (.new 45, 3) := by decide +kernel
theorem d_SH_memory_13 : decode b_SH_memory 13 = .ok (.dup, 1) := by decide +kernel
theorem d_SH_memory_14 : decode b_SH_memory 14 = .ok (.invokespecial 47, 3) := by decide +kernel
theorem d_SH_memory_17 : decode b_SH_memory 17 = .ok (.athrow, 1) := by decide +kernel
theorem d_SH_memory_18 : decode b_SH_memory 18 = .ok (.aload_n 0, 1) := by decide +kernel
theorem d_SH_memory_19 : decode b_SH_memory 19 = .ok (.getfield 10, 3) := by decide +kernel
theorem d_SH_memory_22 : decode b_SH_memory 22 = .ok (.getfield 19, 3) := by decide +kernel
theorem d_SH_memory_25 : decode b_SH_memory 25 = .ok (.getfield 80, 3) := by decide +kernel
theorem d_SH_memory_28 : decode b_SH_memory 28 = .ok (.iload_n 1, 1) := by decide +kernel
theorem d_SH_memory_29 : decode b_SH_memory 29 = .ok (.iaload, 1) := by decide +kernel
theorem d_SH_memory_30 : decode b_SH_memory 30 = .ok (.ireturn, 1) := by decide +kernel
def f_SH_memory (a : Nat) (u : S5) : Int32 := aI u 0 a
set_option maxHeartbeats 8000000 in
set_option maxRecDepth 100000 in
theorem c_SH_memory (l : Launch) (dC : Nat → ClassId) (dI : Nat → Nat → Nat) (cI : ClassId) (ad : Nat → Nat) (u : S5) (a : Nat) (ha : a < 65536) (sz : Nat) : Met l y_SH_memory w_SH_memory rm_SH_memory (PreW (dC, dI) classes [(cI, .int)] (wC cI ad) u sz [.ref (ad 0), .int (nI a)]) (QWi (dC, dI) classes [(cI, .int)] (wC cI ad) (va_A (wC cI ad u) sz) (f_SH_memory a u) u) 0 0 (va_A (wC cI ad u) sz) := by
  generalize hres : f_SH_memory a u = res
  refine Met.ofW (cc := b_SH_memory) (maxL := 2) (ret := (some .int)) (by decide) rfl ?_
  intro p e s m args below meth c s₁ B hml hv
  obtain ⟨rfl, rfl, hP, hK, hD0⟩ := hv
  have hx := B.exec
  have hb := B.bytes
  have hr := B.returns
  have hts : ∀ w9 ∈ ALLW, w9.before ([.ref (ad 0), .int (nI a)] : List Value).toArray s = true := fun w9 h => atoms_spec (ws := w_SH_memory) B.pre w9 (List.mem_cons_of_mem _ h)
  have hown : s.vm.findClass R_SH = some m.cls := findClass_of_methodNamed B.named
  have hlocks := B.notSynchronized
  have hD := hD0.self (sz := s.heap.size)
  generalize hAe : va_A (wC cI ad u) s.heap.size = A at hD ⊢
  have hA : ∀ q : Nat, s.heap.size ≤ q → A q := fun q h => by rw [← hAe]; exact Or.inr h
  have hS : va_S A s.heap s.heap [] := va_S.rf
  have hl := lv_entry ([.ref (ad 0), .int (nI a)]) (n := 2) (Nat.le_of_ble_eq_true rfl)
  rw [lg_entry_eq]
  generalize (lg_sl ([.ref (ad 0), .int (nI a)]) ++ List.replicate (2 - (lg_sl ([.ref (ad 0), .int (nI a)])).length) Slot.unset).toArray = ls at hl ⊢
  have hl : lv_has ls 2 [(0, .ref (ad 0)), (1, .int (nI a))] := hl
  have hq := hres.symm
  skip
  refine lv_iload_n hx hb d_SH_memory_0 rfl (lv_at hl 1 rfl) ?_
  refine rz_lt (tgt := 10) hx hb (by omega) d_SH_memory_1 (by decide) ?_
  refine lv_iload_n hx hb d_SH_memory_4 rfl (lv_at hl 1 rfl) ?_
  refine lv_ldc (v := 65536) hx hb hown (hts _ m_12_38) d_SH_memory_5 ?_
  refine rw_top (y := nI 65536) (by decide) ?_
  refine rn_lt (tgt := 18) hx hb (by omega) (by omega) d_SH_memory_7 (by decide) (fun c1 => ?_) (fun c1 => ?_)
  · skip
    refine lv_aload_n hx hb d_SH_memory_18 rfl (lv_at hl 0 rfl) ?_
    refine va_get (D := (dC, dI)) (ci := 0) (v := .ref (ad 1)) (C := R_SH) (T := F_SH) (N := 1) hx hb hts in_SH hown hK hP 0 rfl rfl 0 (by decide) (hts _ m_4_38) (fun _ h9 => h9) rfl d_SH_memory_19 ?_
    refine va_get (D := (dC, dI)) (ci := 1) (v := .ref (ad 2)) (C := R_Ma) (T := F_Ma) (N := 10) hx hb hts in_Ma hown hK hP 1 rfl rfl 0 (by decide) (hts _ m_4_11) (fun _ h9 => h9) rfl d_SH_memory_22 ?_
    refine va_get (D := (dC, dI)) (ci := 2) (v := .ref (ad 8)) (C := R_Me) (T := F_Me) (N := 2) hx hb hts in_Me hown hK hP 2 rfl rfl 0 (by decide) (hts _ m_1_19) (fun _ h9 => h9) rfl d_SH_memory_25 ?_
    refine lv_iload_n hx hb d_SH_memory_28 rfl (lv_at hl 1 rfl) ?_
    refine aldC_cells (u := u) (v := aI u 0 a) hx hb hK hP (by omega) rfl d_SH_memory_29 ?_
    have hE : res = aI u 0 a := hq.trans (rfl)
    exact retWi (x := aI u 0 a) hx hb hr hP hK hD hS hE.symm rfl d_SH_memory_30 hlocks
  · skip
    exact absurd c1 (by omega)
def w_SH_error : List Cond := .code y_SH_error b_SH_error 3 (some .int) :: ALLW
def rm_SH_error : Room := { frames := 20, cells := 0, slots := 0, locals := 600 }
theorem d_SH_error_0 : decode b_SH_error 0 = .ok (.iload_n 2, 1) := by decide +kernel
theorem d_SH_error_1 : decode b_SH_error 1 = .ok (.ifCond .lt 9, 3) := by decide +kernel
theorem d_SH_error_4 : decode b_SH_error 4 = .ok (.iload_n 2, 1) := by decide +kernel
theorem d_SH_error_5 : decode b_SH_error 5 = .ok (.bipush 7, 2) := by decide +kernel
theorem d_SH_error_7 : decode b_SH_error 7 = .ok (.if_icmp .lt 11, 3) := by decide +kernel
theorem d_SH_error_10 : decode b_SH_error 10 = .ok (.new 16, 3) := by decide +kernel
theorem d_SH_error_13 : decode b_SH_error 13 = .ok (.dup, 1) := by decide +kernel
theorem d_SH_error_14 : decode b_SH_error 14 = .ok (.invokespecial 18, 3) := by decide +kernel
theorem d_SH_error_17 : decode b_SH_error 17 = .ok (.athrow, 1) := by decide +kernel
theorem d_SH_error_18 : decode b_SH_error 18 = .ok (.iload_n 1, 1) := by decide +kernel
theorem d_SH_error_19 : decode b_SH_error 19 = .ok (.ifCond .lt 17, 3) := by decide +kernel
theorem d_SH_error_22 : decode b_SH_error 22 = .ok (.iload_n 1, 1) := by decide +kernel
theorem d_SH_error_23 : decode b_SH_error 23 = .ok (.aload_n 0, 1) := by decide +kernel
theorem d_SH_error_24 : decode b_SH_error 24 = .ok (.getfield 10, 3) := by decide +kernel
theorem d_SH_error_27 : decode b_SH_error 27 = .ok (.getfield 85, 3) := by decide +kernel
theorem d_SH_error_30 : decode b_SH_error 30 = .ok (.getfield 89, 3) := by decide +kernel
theorem d_SH_error_33 : decode b_SH_error 33 = .ok (.if_icmp .lt 11, 3) := by decide +kernel
theorem d_SH_error_36 : decode b_SH_error 36 = .ok (.new 45, 3) := by decide +kernel
theorem d_SH_error_39 : decode b_SH_error 39 = .ok (.dup, 1) := by decide +kernel
theorem d_SH_error_40 : decode b_SH_error 40 = .ok (.invokespecial 47, 3) := by decide +kernel
theorem d_SH_error_43 : decode b_SH_error 43 = .ok (.athrow, 1) := by decide +kernel
theorem d_SH_error_44 : decode b_SH_error 44 = .ok (.aload_n 0, 1) := by decide +kernel
theorem d_SH_error_45 : decode b_SH_error 45 = .ok (.getfield 10, 3) := by decide +kernel
theorem d_SH_error_48 : decode b_SH_error 48 = .ok (.getfield 85, 3) := by decide +kernel
theorem d_SH_error_51 : decode b_SH_error 51 = .ok (.getfield 92, 3) := by decide +kernel
theorem d_SH_error_54 : decode b_SH_error 54 = .ok (.iload_n 1, 1) := by decide +kernel
theorem d_SH_error_55 : decode b_SH_error 55 = .ok (.bipush 7, 2) := by decide +kernel
theorem d_SH_error_57 : decode b_SH_error 57 = .ok (.imul, 1) := by decide +kernel
theorem d_SH_error_58 : decode b_SH_error 58 = .ok (.iload_n 2, 1) := by decide +kernel
theorem d_SH_error_59 : decode b_SH_error 59 = .ok (.iadd, 1) := by decide +kernel
theorem d_SH_error_60 : decode b_SH_error 60 = .ok (.iaload, 1) := by decide +kernel
theorem d_SH_error_61 : decode b_SH_error 61 = .ok (.ireturn, 1) := by decide +kernel
def f_SH_error (a : Nat) (q : Nat) (u : S5) : Int32 := aI u 4 (a * 7 + q)
set_option maxHeartbeats 8000000 in
set_option maxRecDepth 100000 in
theorem c_SH_error (l : Launch) (dC : Nat → ClassId) (dI : Nat → Nat → Nat) (cI : ClassId) (ad : Nat → Nat) (u : S5) (a : Nat) (q : Nat) (hq7 : q < 7) (ha : a < gN u 0) (h60 : gN u 0 ≤ 60) (sz : Nat) : Met l y_SH_error w_SH_error rm_SH_error (PreW (dC, dI) classes [(cI, .int)] (wC cI ad) u sz [.ref (ad 0), .int (nI a), .int (nI q)]) (QWi (dC, dI) classes [(cI, .int)] (wC cI ad) (va_A (wC cI ad u) sz) (f_SH_error a q u) u) 0 0 (va_A (wC cI ad u) sz) := by
  generalize hres : f_SH_error a q u = res
  refine Met.ofW (cc := b_SH_error) (maxL := 3) (ret := (some .int)) (by decide) rfl ?_
  intro p e s m args below meth c s₁ B hml hv
  obtain ⟨rfl, rfl, hP, hK, hD0⟩ := hv
  have hx := B.exec
  have hb := B.bytes
  have hr := B.returns
  have hts : ∀ w9 ∈ ALLW, w9.before ([.ref (ad 0), .int (nI a), .int (nI q)] : List Value).toArray s = true := fun w9 h => atoms_spec (ws := w_SH_error) B.pre w9 (List.mem_cons_of_mem _ h)
  have hown : s.vm.findClass R_SH = some m.cls := findClass_of_methodNamed B.named
  have hlocks := B.notSynchronized
  have hD := hD0.self (sz := s.heap.size)
  generalize hAe : va_A (wC cI ad u) s.heap.size = A at hD ⊢
  have hA : ∀ q : Nat, s.heap.size ≤ q → A q := fun q h => by rw [← hAe]; exact Or.inr h
  have hS : va_S A s.heap s.heap [] := va_S.rf
  have hl := lv_entry ([.ref (ad 0), .int (nI a), .int (nI q)]) (n := 3) (Nat.le_of_ble_eq_true rfl)
  rw [lg_entry_eq]
  generalize (lg_sl ([.ref (ad 0), .int (nI a), .int (nI q)]) ++ List.replicate (3 - (lg_sl ([.ref (ad 0), .int (nI a), .int (nI q)])).length) Slot.unset).toArray = ls at hl ⊢
  have hl : lv_has ls 3 [(0, .ref (ad 0)), (1, .int (nI a)), (2, .int (nI q))] := hl
  have hq := hres.symm
  skip
  refine lv_iload_n hx hb d_SH_error_0 rfl (lv_at hl 2 rfl) ?_
  refine rz_lt (tgt := 10) hx hb (by omega) d_SH_error_1 (by decide) ?_
  refine lv_iload_n hx hb d_SH_error_4 rfl (lv_at hl 2 rfl) ?_
  refine lv_bipush (v := nI 7) hx hb d_SH_error_5 (by decide) ?_
  refine rn_lt (tgt := 18) hx hb (by omega) (by omega) d_SH_error_7 (by decide) (fun c1 => ?_) (fun c1 => ?_)
  · skip
    refine lv_iload_n hx hb d_SH_error_18 rfl (lv_at hl 1 rfl) ?_
    refine rz_lt (tgt := 36) hx hb (by omega) d_SH_error_19 (by decide) ?_
    refine lv_iload_n hx hb d_SH_error_22 rfl (lv_at hl 1 rfl) ?_
    refine lv_aload_n hx hb d_SH_error_23 rfl (lv_at hl 0 rfl) ?_
    refine va_get (D := (dC, dI)) (ci := 0) (v := .ref (ad 1)) (C := R_SH) (T := F_SH) (N := 1) hx hb hts in_SH hown hK hP 0 rfl rfl 0 (by decide) (hts _ m_4_38) (fun _ h9 => h9) rfl d_SH_error_24 ?_
    refine va_get (D := (dC, dI)) (ci := 1) (v := .ref (ad 4)) (C := R_Ma) (T := F_Ma) (N := 10) hx hb hts in_Ma hown hK hP 1 rfl rfl 2 (by decide) (hts _ m_4_15) (fun _ h9 => h9) rfl d_SH_error_27 ?_
    refine va_get (D := (dC, dI)) (ci := 4) (v := .int (nI (gN u 0))) (C := R_Rp) (T := F_Rp) (N := 6) hx hb hts in_Rp hown hK hP 4 rfl rfl 1 (by decide) (hts _ m_2_13) (fun _ h9 => h9) rfl d_SH_error_30 ?_
    refine rn_lt (tgt := 44) hx hb (by omega) (by omega) d_SH_error_33 (by decide) (fun c2 => ?_) (fun c2 => ?_)
    · skip
      refine lv_aload_n hx hb d_SH_error_44 rfl (lv_at hl 0 rfl) ?_
      refine va_get (D := (dC, dI)) (ci := 0) (v := .ref (ad 1)) (C := R_SH) (T := F_SH) (N := 1) hx hb hts in_SH hown hK hP 0 rfl rfl 0 (by decide) (hts _ m_4_38) (fun _ h9 => h9) rfl d_SH_error_45 ?_
      refine va_get (D := (dC, dI)) (ci := 1) (v := .ref (ad 4)) (C := R_Ma) (T := F_Ma) (N := 10) hx hb hts in_Ma hown hK hP 1 rfl rfl 2 (by decide) (hts _ m_4_15) (fun _ h9 => h9) rfl d_SH_error_48 ?_
      refine va_get (D := (dC, dI)) (ci := 4) (v := .ref (ad 12)) (C := R_Rp) (T := F_Rp) (N := 6) hx hb hts in_Rp hown hK hP 4 rfl rfl 0 (by decide) (hts _ m_2_11) (fun _ h9 => h9) rfl d_SH_error_51 ?_
      refine lv_iload_n hx hb d_SH_error_54 rfl (lv_at hl 1 rfl) ?_
      refine lv_bipush (v := nI 7) hx hb d_SH_error_55 (by decide) ?_
      refine lv_imul hx hb d_SH_error_57 ?_
      refine rw_top (y := nI (a * 7)) (pk_mul a 7) ?_
      refine lv_iload_n hx hb d_SH_error_58 rfl (lv_at hl 2 rfl) ?_
      refine lv_iadd hx hb d_SH_error_59 ?_
      refine rw_top (y := nI (a * 7 + q)) (nI_add (a * 7) q) ?_
      refine aldC_rows (u := u) (v := aI u 4 (a * 7 + q)) hx hb hK hP (by omega) rfl d_SH_error_60 ?_
      have hE : res = aI u 4 (a * 7 + q) := hq.trans (rfl)
      exact retWi (x := aI u 4 (a * 7 + q)) hx hb hr hP hK hD hS hE.symm rfl d_SH_error_61 hlocks
    · skip
      exact absurd c2 (by omega)
  · skip
    exact absurd c1 (by omega)
def w_SH_output : List Cond := .code y_SH_output b_SH_output 3 (some .int) :: ALLW
def rm_SH_output : Room := { frames := 20, cells := 0, slots := 0, locals := 600 }
theorem d_SH_output_0 : decode b_SH_output 0 = .ok (.aload_n 0, 1) := by decide +kernel
theorem d_SH_output_1 : decode b_SH_output 1 = .ok (.getfield 10, 3) := by decide +kernel
theorem d_SH_output_4 : decode b_SH_output 4 = .ok (.getfield 29, 3) := by decide +kernel
theorem d_SH_output_7 : decode b_SH_output 7 = .ok (.getfield 33, 3) := by decide +kernel
theorem d_SH_output_10 : decode b_SH_output 10 = .ok (.astore_n 2, 1) := by decide +kernel
theorem d_SH_output_11 : decode b_SH_output 11 = .ok (.iload_n 1, 1) := by decide +kernel
theorem d_SH_output_12 : decode b_SH_output 12 = .ok (.ifCond .lt 11, 3) := by decide +kernel
theorem d_SH_output_15 : decode b_SH_output 15 = .ok (.iload_n 1, 1) := by decide +kernel
theorem d_SH_output_16 : decode b_SH_output 16 = .ok (.aload_n 2, 1) := by decide +kernel
theorem d_SH_output_17 : decode b_SH_output 17 = .ok (.getfield 95, 3) := by decide +kernel
theorem d_SH_output_20 : decode b_SH_output 20 = .ok (.if_icmp .lt 11, 3) := by decide +kernel
theorem d_SH_output_23 : decode b_SH_output 23 = .ok (.new 45, 3) := by decide +kernel
theorem d_SH_output_26 : decode b_SH_output 26 = .ok (.dup, 1) := by decide +kernel
theorem d_SH_output_27 : decode b_SH_output 27 = .ok (.invokespecial 47, 3) := by decide +kernel
theorem d_SH_output_30 : decode b_SH_output 30 = .ok (.athrow, 1) := by decide +kernel
theorem d_SH_output_31 : decode b_SH_output 31 = .ok (.aload_n 2, 1) := by decide +kernel
theorem d_SH_output_32 : decode b_SH_output 32 = .ok (.getfield 98, 3) := by decide +kernel
theorem d_SH_output_35 : decode b_SH_output 35 = .ok (.iload_n 1, 1) := by decide +kernel
theorem d_SH_output_36 : decode b_SH_output 36 = .ok (.iaload, 1) := by decide +kernel
theorem d_SH_output_37 : decode b_SH_output 37 = .ok (.ireturn, 1) := by decide +kernel
def f_SH_output (a : Nat) (u : S5) : Int32 := aI u 7 a
set_option maxHeartbeats 8000000 in
set_option maxRecDepth 100000 in
theorem c_SH_output (l : Launch) (dC : Nat → ClassId) (dI : Nat → Nat → Nat) (cI : ClassId) (ad : Nat → Nat) (u : S5) (a : Nat) (ha : a < gN u 5) (h5 : gN u 5 ≤ 4096) (sz : Nat) : Met l y_SH_output w_SH_output rm_SH_output (PreW (dC, dI) classes [(cI, .int)] (wC cI ad) u sz [.ref (ad 0), .int (nI a)]) (QWi (dC, dI) classes [(cI, .int)] (wC cI ad) (va_A (wC cI ad u) sz) (f_SH_output a u) u) 0 0 (va_A (wC cI ad u) sz) := by
  generalize hres : f_SH_output a u = res
  refine Met.ofW (cc := b_SH_output) (maxL := 3) (ret := (some .int)) (by decide) rfl ?_
  intro p e s m args below meth c s₁ B hml hv
  obtain ⟨rfl, rfl, hP, hK, hD0⟩ := hv
  have hx := B.exec
  have hb := B.bytes
  have hr := B.returns
  have hts : ∀ w9 ∈ ALLW, w9.before ([.ref (ad 0), .int (nI a)] : List Value).toArray s = true := fun w9 h => atoms_spec (ws := w_SH_output) B.pre w9 (List.mem_cons_of_mem _ h)
  have hown : s.vm.findClass R_SH = some m.cls := findClass_of_methodNamed B.named
  have hlocks := B.notSynchronized
  have hD := hD0.self (sz := s.heap.size)
  generalize hAe : va_A (wC cI ad u) s.heap.size = A at hD ⊢
  have hA : ∀ q : Nat, s.heap.size ≤ q → A q := fun q h => by rw [← hAe]; exact Or.inr h
  have hS : va_S A s.heap s.heap [] := va_S.rf
  have hl := lv_entry ([.ref (ad 0), .int (nI a)]) (n := 3) (Nat.le_of_ble_eq_true rfl)
  rw [lg_entry_eq]
  generalize (lg_sl ([.ref (ad 0), .int (nI a)]) ++ List.replicate (3 - (lg_sl ([.ref (ad 0), .int (nI a)])).length) Slot.unset).toArray = ls at hl ⊢
  have hl : lv_has ls 3 [(0, .ref (ad 0)), (1, .int (nI a))] := hl
  have hq := hres.symm
  skip
  refine lv_aload_n hx hb d_SH_output_0 rfl (lv_at hl 0 rfl) ?_
  refine va_get (D := (dC, dI)) (ci := 0) (v := .ref (ad 1)) (C := R_SH) (T := F_SH) (N := 1) hx hb hts in_SH hown hK hP 0 rfl rfl 0 (by decide) (hts _ m_4_38) (fun _ h9 => h9) rfl d_SH_output_1 ?_
  refine va_get (D := (dC, dI)) (ci := 1) (v := .ref (ad 5)) (C := R_Ma) (T := F_Ma) (N := 10) hx hb hts in_Ma hown hK hP 1 rfl rfl 3 (by decide) (hts _ m_4_17) (fun _ h9 => h9) rfl d_SH_output_4 ?_
  refine va_get (D := (dC, dI)) (ci := 5) (v := .ref (ad 7)) (C := R_Ho) (T := F_Ho) (N := 2) hx hb hts in_Ho hown hK hP 5 rfl rfl 1 (by decide) (hts _ m_4_7) (fun _ h9 => h9) rfl d_SH_output_7 ?_
  refine lv_astore_n (lv' := [(2, .ref (ad 7)), (0, .ref (ad 0)), (1, .int (nI a))]) hx hb d_SH_output_10 rfl hl (by decide) rfl (fun ls hl => ?_)
  refine lv_iload_n hx hb d_SH_output_11 rfl (lv_at hl 2 rfl) ?_
  refine rz_lt (tgt := 23) hx hb (by omega) d_SH_output_12 (by decide) ?_
  refine lv_iload_n hx hb d_SH_output_15 rfl (lv_at hl 2 rfl) ?_
  refine lv_aload_n hx hb d_SH_output_16 rfl (lv_at hl 0 rfl) ?_
  refine va_get (D := (dC, dI)) (ci := 7) (v := .int (nI (gN u 5))) (C := R_Po) (T := F_Po) (N := 5) hx hb hts in_Po hown hK hP 7 rfl rfl 4 (by decide) (hts _ m_3_38) (fun _ h9 => h9) rfl d_SH_output_17 ?_
  refine rn_lt (tgt := 31) hx hb (by omega) (by omega) d_SH_output_20 (by decide) (fun c1 => ?_) (fun c1 => ?_)
  · skip
    refine lv_aload_n hx hb d_SH_output_31 rfl (lv_at hl 0 rfl) ?_
    refine va_get (D := (dC, dI)) (ci := 7) (v := .ref (ad 21)) (C := R_Po) (T := F_Po) (N := 5) hx hb hts in_Po hown hK hP 7 rfl rfl 3 (by decide) (hts _ m_3_36) (fun _ h9 => h9) rfl d_SH_output_32 ?_
    refine lv_iload_n hx hb d_SH_output_35 rfl (lv_at hl 2 rfl) ?_
    refine aldC_outgoing (u := u) (v := aI u 7 a) hx hb hK hP (by omega) rfl d_SH_output_36 ?_
    have hE : res = aI u 7 a := hq.trans (rfl)
    exact retWi (x := aI u 7 a) hx hb hr hP hK hD hS hE.symm rfl d_SH_output_37 hlocks
  · skip
    exact absurd c1 (by omega)
def w_SH_count : List Cond := .code y_SH_count b_SH_count 3 (some .int) :: ALLW
def rm_SH_count : Room := { frames := 20, cells := 0, slots := 0, locals := 600 }
theorem d_SH_count_0 : decode b_SH_count 0 = .ok (.aload_n 0, 1) := by decide +kernel
theorem d_SH_count_1 : decode b_SH_count 1 = .ok (.getfield 10, 3) := by decide +kernel
theorem d_SH_count_4 : decode b_SH_count 4 = .ok (.getfield 29, 3) := by decide +kernel
theorem d_SH_count_7 : decode b_SH_count 7 = .ok (.astore_n 2, 1) := by decide +kernel
theorem d_SH_count_8 : decode b_SH_count 8 = .ok (.iload_n 1, 1) := by decide +kernel
theorem d_SH_count_9 : decode b_SH_count 9 = .ok (.tableswitch 156 0 10 #[59, 67, 75, 83, 91, 102, 113, 121, 129, 137, 145], 59) := by decide +kernel
theorem d_SH_count_68 : decode b_SH_count 68 = .ok (.aload_n 0, 1) := by decide +kernel
theorem d_SH_count_69 : decode b_SH_count 69 = .ok (.getfield 10, 3) := by decide +kernel
theorem d_SH_count_72 : decode b_SH_count 72 = .ok (.getfield 56, 3) := by decide +kernel
theorem d_SH_count_75 : decode b_SH_count 75 = .ok (.ireturn, 1) := by decide +kernel
theorem d_SH_count_76 : decode b_SH_count 76 = .ok (.aload_n 0, 1) := by decide +kernel
theorem d_SH_count_77 : decode b_SH_count 77 = .ok (.getfield 10, 3) := by decide +kernel
theorem d_SH_count_80 : decode b_SH_count 80 = .ok (.getfield 101, 3) := by decide +kernel
theorem d_SH_count_83 : decode b_SH_count 83 = .ok (.ireturn, 1) := by decide +kernel
theorem d_SH_count_84 : decode b_SH_count 84 = .ok (.aload_n 0, 1) := by decide +kernel
theorem d_SH_count_85 : decode b_SH_count 85 = .ok (.getfield 10, 3) := by decide +kernel
theorem d_SH_count_88 : decode b_SH_count 88 = .ok (.getfield 104, 3) := by decide +kernel
theorem d_SH_count_91 : decode b_SH_count 91 = .ok (.ireturn, 1) := by decide +kernel
theorem d_SH_count_92 : decode b_SH_count 92 = .ok (.aload_n 0, 1) := by decide +kernel
theorem d_SH_count_93 : decode b_SH_count 93 = .ok (.getfield 10, 3) := by decide +kernel
theorem d_SH_count_96 : decode b_SH_count 96 = .ok (.getfield 107, 3) := by decide +kernel
theorem d_SH_count_99 : decode b_SH_count 99 = .ok (.ireturn, 1) := by decide +kernel
theorem d_SH_count_100 : decode b_SH_count 100 = .ok (.aload_n 0, 1) := by decide +kernel
theorem d_SH_count_101 : decode b_SH_count 101 = .ok (.getfield 10, 3) := by decide +kernel
theorem d_SH_count_104 : decode b_SH_count 104 = .ok (.getfield 85, 3) := by decide +kernel
theorem d_SH_count_107 : decode b_SH_count 107 = .ok (.getfield 89, 3) := by decide +kernel
theorem d_SH_count_110 : decode b_SH_count 110 = .ok (.ireturn, 1) := by decide +kernel
theorem d_SH_count_111 : decode b_SH_count 111 = .ok (.aload_n 0, 1) := by decide +kernel
theorem d_SH_count_112 : decode b_SH_count 112 = .ok (.getfield 10, 3) := by decide +kernel
theorem d_SH_count_115 : decode b_SH_count 115 = .ok (.getfield 85, 3) := by decide +kernel
theorem d_SH_count_118 : decode b_SH_count 118 = .ok (.getfield 110, 3) := by decide +kernel
theorem d_SH_count_121 : decode b_SH_count 121 = .ok (.ireturn, 1) := by decide +kernel
theorem d_SH_count_122 : decode b_SH_count 122 = .ok (.aload_n 2, 1) := by decide +kernel
theorem d_SH_count_123 : decode b_SH_count 123 = .ok (.getfield 33, 3) := by decide +kernel
theorem d_SH_count_126 : decode b_SH_count 126 = .ok (.getfield 95, 3) := by decide +kernel
theorem d_SH_count_129 : decode b_SH_count 129 = .ok (.ireturn, 1) := by decide +kernel
theorem d_SH_count_130 : decode b_SH_count 130 = .ok (.aload_n 2, 1) := by decide +kernel
theorem d_SH_count_131 : decode b_SH_count 131 = .ok (.getfield 113, 3) := by decide +kernel
theorem d_SH_count_134 : decode b_SH_count 134 = .ok (.getfield 117, 3) := by decide +kernel
theorem d_SH_count_137 : decode b_SH_count 137 = .ok (.ireturn, 1) := by decide +kernel
theorem d_SH_count_138 : decode b_SH_count 138 = .ok (.aload_n 2, 1) := by decide +kernel
theorem d_SH_count_139 : decode b_SH_count 139 = .ok (.getfield 113, 3) := by decide +kernel
theorem d_SH_count_142 : decode b_SH_count 142 = .ok (.getfield 122, 3) := by decide +kernel
theorem d_SH_count_145 : decode b_SH_count 145 = .ok (.ireturn, 1) := by decide +kernel
theorem d_SH_count_146 : decode b_SH_count 146 = .ok (.aload_n 2, 1) := by decide +kernel
theorem d_SH_count_147 : decode b_SH_count 147 = .ok (.getfield 113, 3) := by decide +kernel
theorem d_SH_count_150 : decode b_SH_count 150 = .ok (.getfield 125, 3) := by decide +kernel
theorem d_SH_count_153 : decode b_SH_count 153 = .ok (.ireturn, 1) := by decide +kernel
theorem d_SH_count_154 : decode b_SH_count 154 = .ok (.aload_n 0, 1) := by decide +kernel
theorem d_SH_count_155 : decode b_SH_count 155 = .ok (.getfield 10, 3) := by decide +kernel
theorem d_SH_count_158 : decode b_SH_count 158 = .ok (.getfield 85, 3) := by decide +kernel
theorem d_SH_count_161 : decode b_SH_count 161 = .ok (.getfield 128, 3) := by decide +kernel
theorem d_SH_count_164 : decode b_SH_count 164 = .ok (.ireturn, 1) := by decide +kernel
theorem d_SH_count_165 : decode b_SH_count 165 = .ok (.new 16, 3) := by decide +kernel
theorem d_SH_count_168 : decode b_SH_count 168 = .ok (.dup, 1) := by decide +kernel
theorem d_SH_count_169 : decode b_SH_count 169 = .ok (.invokespecial 18, 3) := by decide +kernel
theorem d_SH_count_172 : decode b_SH_count 172 = .ok (.athrow, 1) := by decide +kernel
def f_SH_count (q : Int32) (u : S5) : Int32 := if q = 0 then gI u 3 else if q = 1 then gI u 4 else if q = 2 then gI u 0 else if q = 3 then gI u 5 else if q = 4 then nI (gN u 0) else if q = 5 then gI u 6 else if q = 6 then nI (gN u 5) else if q = 7 then gI u 8 else if q = 8 then nI (gN u 7) else if q = 9 then gI u 9 else if q = 10 then nI (gN u 2) else 0
set_option maxHeartbeats 8000000 in
set_option maxRecDepth 100000 in
theorem c_SH_count (l : Launch) (dC : Nat → ClassId) (dI : Nat → Nat → Nat) (cI : ClassId) (ad : Nat → Nat) (u : S5) (q : Int32) (hq1 : 0 ≤ q.toInt) (hq2 : q.toInt ≤ 10) (sz : Nat) : Met l y_SH_count w_SH_count rm_SH_count (PreW (dC, dI) classes [(cI, .int)] (wC cI ad) u sz [.ref (ad 0), .int q]) (QWi (dC, dI) classes [(cI, .int)] (wC cI ad) (va_A (wC cI ad u) sz) (f_SH_count q u) u) 0 0 (va_A (wC cI ad u) sz) := by
  generalize hres : f_SH_count q u = res
  refine Met.ofW (cc := b_SH_count) (maxL := 3) (ret := (some .int)) (by decide) rfl ?_
  intro p e s m args below meth c s₁ B hml hv
  obtain ⟨rfl, rfl, hP, hK, hD0⟩ := hv
  have hx := B.exec
  have hb := B.bytes
  have hr := B.returns
  have hts : ∀ w9 ∈ ALLW, w9.before ([.ref (ad 0), .int q] : List Value).toArray s = true := fun w9 h => atoms_spec (ws := w_SH_count) B.pre w9 (List.mem_cons_of_mem _ h)
  have hown : s.vm.findClass R_SH = some m.cls := findClass_of_methodNamed B.named
  have hlocks := B.notSynchronized
  have hD := hD0.self (sz := s.heap.size)
  generalize hAe : va_A (wC cI ad u) s.heap.size = A at hD ⊢
  have hA : ∀ q : Nat, s.heap.size ≤ q → A q := fun q h => by rw [← hAe]; exact Or.inr h
  have hS : va_S A s.heap s.heap [] := va_S.rf
  have hl := lv_entry ([.ref (ad 0), .int q]) (n := 3) (Nat.le_of_ble_eq_true rfl)
  rw [lg_entry_eq]
  generalize (lg_sl ([.ref (ad 0), .int q]) ++ List.replicate (3 - (lg_sl ([.ref (ad 0), .int q])).length) Slot.unset).toArray = ls at hl ⊢
  have hl : lv_has ls 3 [(0, .ref (ad 0)), (1, .int q)] := hl
  have hq := hres.symm
  skip
  refine lv_aload_n hx hb d_SH_count_0 rfl (lv_at hl 0 rfl) ?_
  refine va_get (D := (dC, dI)) (ci := 0) (v := .ref (ad 1)) (C := R_SH) (T := F_SH) (N := 1) hx hb hts in_SH hown hK hP 0 rfl rfl 0 (by decide) (hts _ m_4_38) (fun _ h9 => h9) rfl d_SH_count_1 ?_
  refine va_get (D := (dC, dI)) (ci := 1) (v := .ref (ad 5)) (C := R_Ma) (T := F_Ma) (N := 10) hx hb hts in_Ma hown hK hP 1 rfl rfl 3 (by decide) (hts _ m_4_17) (fun _ h9 => h9) rfl d_SH_count_4 ?_
  refine lv_astore_n (lv' := [(2, .ref (ad 5)), (0, .ref (ad 0)), (1, .int q)]) hx hb d_SH_count_7 rfl hl (by decide) rfl (fun ls hl => ?_)
  refine lv_iload_n hx hb d_SH_count_8 rfl (lv_at hl 2 rfl) ?_
  by_cases c1 : q = 0
  · skip
    refine lv_tableIn (off := 59) (tgt := 68) hx hb d_SH_count_9 (by rw [c1]; decide) (by rw [c1]; decide) (by rw [c1]; decide) (by decide) ?_
    refine lv_aload_n hx hb d_SH_count_68 rfl (lv_at hl 1 rfl) ?_
    refine va_get (D := (dC, dI)) (ci := 0) (v := .ref (ad 1)) (C := R_SH) (T := F_SH) (N := 1) hx hb hts in_SH hown hK hP 0 rfl rfl 0 (by decide) (hts _ m_4_38) (fun _ h9 => h9) rfl d_SH_count_69 ?_
    refine va_get (D := (dC, dI)) (ci := 1) (v := .int (gI u 3)) (C := R_Ma) (T := F_Ma) (N := 10) hx hb hts in_Ma hown hK hP 1 rfl rfl 7 (by decide) (hts _ m_4_23) (fun _ h9 => h9) rfl d_SH_count_72 ?_
    have hE : res = gI u 3 := hq.trans ((if_pos c1).trans rfl)
    exact retWi (x := gI u 3) hx hb hr hP hK hD hS hE.symm rfl d_SH_count_75 hlocks
  by_cases c2 : q = 1
  · skip
    refine lv_tableIn (off := 67) (tgt := 76) hx hb d_SH_count_9 (by rw [c2]; decide) (by rw [c2]; decide) (by rw [c2]; decide) (by decide) ?_
    refine lv_aload_n hx hb d_SH_count_76 rfl (lv_at hl 1 rfl) ?_
    refine va_get (D := (dC, dI)) (ci := 0) (v := .ref (ad 1)) (C := R_SH) (T := F_SH) (N := 1) hx hb hts in_SH hown hK hP 0 rfl rfl 0 (by decide) (hts _ m_4_38) (fun _ h9 => h9) rfl d_SH_count_77 ?_
    refine va_get (D := (dC, dI)) (ci := 1) (v := .int (gI u 4)) (C := R_Ma) (T := F_Ma) (N := 10) hx hb hts in_Ma hown hK hP 1 rfl rfl 8 (by decide) (hts _ m_4_25) (fun _ h9 => h9) rfl d_SH_count_80 ?_
    have hE : res = gI u 4 := hq.trans ((if_neg c1).trans ((if_pos c2).trans rfl))
    exact retWi (x := gI u 4) hx hb hr hP hK hD hS hE.symm rfl d_SH_count_83 hlocks
  by_cases c3 : q = 2
  · skip
    refine lv_tableIn (off := 75) (tgt := 84) hx hb d_SH_count_9 (by rw [c3]; decide) (by rw [c3]; decide) (by rw [c3]; decide) (by decide) ?_
    refine lv_aload_n hx hb d_SH_count_84 rfl (lv_at hl 1 rfl) ?_
    refine va_get (D := (dC, dI)) (ci := 0) (v := .ref (ad 1)) (C := R_SH) (T := F_SH) (N := 1) hx hb hts in_SH hown hK hP 0 rfl rfl 0 (by decide) (hts _ m_4_38) (fun _ h9 => h9) rfl d_SH_count_85 ?_
    refine va_get (D := (dC, dI)) (ci := 1) (v := .int (gI u 0)) (C := R_Ma) (T := F_Ma) (N := 10) hx hb hts in_Ma hown hK hP 1 rfl rfl 4 (by decide) (hts _ m_4_19) (fun _ h9 => h9) rfl d_SH_count_88 ?_
    have hE : res = gI u 0 := hq.trans ((if_neg c1).trans ((if_neg c2).trans ((if_pos c3).trans rfl)))
    exact retWi (x := gI u 0) hx hb hr hP hK hD hS hE.symm rfl d_SH_count_91 hlocks
  by_cases c4 : q = 3
  · skip
    refine lv_tableIn (off := 83) (tgt := 92) hx hb d_SH_count_9 (by rw [c4]; decide) (by rw [c4]; decide) (by rw [c4]; decide) (by decide) ?_
    refine lv_aload_n hx hb d_SH_count_92 rfl (lv_at hl 1 rfl) ?_
    refine va_get (D := (dC, dI)) (ci := 0) (v := .ref (ad 1)) (C := R_SH) (T := F_SH) (N := 1) hx hb hts in_SH hown hK hP 0 rfl rfl 0 (by decide) (hts _ m_4_38) (fun _ h9 => h9) rfl d_SH_count_93 ?_
    refine va_get (D := (dC, dI)) (ci := 1) (v := .int (gI u 5)) (C := R_Ma) (T := F_Ma) (N := 10) hx hb hts in_Ma hown hK hP 1 rfl rfl 9 (by decide) (hts _ m_4_27) (fun _ h9 => h9) rfl d_SH_count_96 ?_
    have hE : res = gI u 5 := hq.trans ((if_neg c1).trans ((if_neg c2).trans ((if_neg c3).trans ((if_pos c4).trans rfl))))
    exact retWi (x := gI u 5) hx hb hr hP hK hD hS hE.symm rfl d_SH_count_99 hlocks
  by_cases c5 : q = 4
  · skip
    refine lv_tableIn (off := 91) (tgt := 100) hx hb d_SH_count_9 (by rw [c5]; decide) (by rw [c5]; decide) (by rw [c5]; decide) (by decide) ?_
    refine lv_aload_n hx hb d_SH_count_100 rfl (lv_at hl 1 rfl) ?_
    refine va_get (D := (dC, dI)) (ci := 0) (v := .ref (ad 1)) (C := R_SH) (T := F_SH) (N := 1) hx hb hts in_SH hown hK hP 0 rfl rfl 0 (by decide) (hts _ m_4_38) (fun _ h9 => h9) rfl d_SH_count_101 ?_
    refine va_get (D := (dC, dI)) (ci := 1) (v := .ref (ad 4)) (C := R_Ma) (T := F_Ma) (N := 10) hx hb hts in_Ma hown hK hP 1 rfl rfl 2 (by decide) (hts _ m_4_15) (fun _ h9 => h9) rfl d_SH_count_104 ?_
    refine va_get (D := (dC, dI)) (ci := 4) (v := .int (nI (gN u 0))) (C := R_Rp) (T := F_Rp) (N := 6) hx hb hts in_Rp hown hK hP 4 rfl rfl 1 (by decide) (hts _ m_2_13) (fun _ h9 => h9) rfl d_SH_count_107 ?_
    have hE : res = nI (gN u 0) := hq.trans ((if_neg c1).trans ((if_neg c2).trans ((if_neg c3).trans ((if_neg c4).trans ((if_pos c5).trans rfl)))))
    exact retWi (x := nI (gN u 0)) hx hb hr hP hK hD hS hE.symm rfl d_SH_count_110 hlocks
  by_cases c6 : q = 5
  · skip
    refine lv_tableIn (off := 102) (tgt := 111) hx hb d_SH_count_9 (by rw [c6]; decide) (by rw [c6]; decide) (by rw [c6]; decide) (by decide) ?_
    refine lv_aload_n hx hb d_SH_count_111 rfl (lv_at hl 1 rfl) ?_
    refine va_get (D := (dC, dI)) (ci := 0) (v := .ref (ad 1)) (C := R_SH) (T := F_SH) (N := 1) hx hb hts in_SH hown hK hP 0 rfl rfl 0 (by decide) (hts _ m_4_38) (fun _ h9 => h9) rfl d_SH_count_112 ?_
    refine va_get (D := (dC, dI)) (ci := 1) (v := .ref (ad 4)) (C := R_Ma) (T := F_Ma) (N := 10) hx hb hts in_Ma hown hK hP 1 rfl rfl 2 (by decide) (hts _ m_4_15) (fun _ h9 => h9) rfl d_SH_count_115 ?_
    refine va_get (D := (dC, dI)) (ci := 4) (v := .int (gI u 6)) (C := R_Rp) (T := F_Rp) (N := 6) hx hb hts in_Rp hown hK hP 4 rfl rfl 2 (by decide) (hts _ m_2_15) (fun _ h9 => h9) rfl d_SH_count_118 ?_
    have hE : res = gI u 6 := hq.trans ((if_neg c1).trans ((if_neg c2).trans ((if_neg c3).trans ((if_neg c4).trans ((if_neg c5).trans ((if_pos c6).trans rfl))))))
    exact retWi (x := gI u 6) hx hb hr hP hK hD hS hE.symm rfl d_SH_count_121 hlocks
  by_cases c7 : q = 6
  · skip
    refine lv_tableIn (off := 113) (tgt := 122) hx hb d_SH_count_9 (by rw [c7]; decide) (by rw [c7]; decide) (by rw [c7]; decide) (by decide) ?_
    refine lv_aload_n hx hb d_SH_count_122 rfl (lv_at hl 0 rfl) ?_
    refine va_get (D := (dC, dI)) (ci := 5) (v := .ref (ad 7)) (C := R_Ho) (T := F_Ho) (N := 2) hx hb hts in_Ho hown hK hP 5 rfl rfl 1 (by decide) (hts _ m_4_7) (fun _ h9 => h9) rfl d_SH_count_123 ?_
    refine va_get (D := (dC, dI)) (ci := 7) (v := .int (nI (gN u 5))) (C := R_Po) (T := F_Po) (N := 5) hx hb hts in_Po hown hK hP 7 rfl rfl 4 (by decide) (hts _ m_3_38) (fun _ h9 => h9) rfl d_SH_count_126 ?_
    have hE : res = nI (gN u 5) := hq.trans ((if_neg c1).trans ((if_neg c2).trans ((if_neg c3).trans ((if_neg c4).trans ((if_neg c5).trans ((if_neg c6).trans ((if_pos c7).trans rfl)))))))
    exact retWi (x := nI (gN u 5)) hx hb hr hP hK hD hS hE.symm rfl d_SH_count_129 hlocks
  by_cases c8 : q = 7
  · skip
    refine lv_tableIn (off := 121) (tgt := 130) hx hb d_SH_count_9 (by rw [c8]; decide) (by rw [c8]; decide) (by rw [c8]; decide) (by decide) ?_
    refine lv_aload_n hx hb d_SH_count_130 rfl (lv_at hl 0 rfl) ?_
    refine va_get (D := (dC, dI)) (ci := 5) (v := .ref (ad 6)) (C := R_Ho) (T := F_Ho) (N := 2) hx hb hts in_Ho hown hK hP 5 rfl rfl 0 (by decide) (hts _ m_4_5) (fun _ h9 => h9) rfl d_SH_count_131 ?_
    refine va_get (D := (dC, dI)) (ci := 6) (v := .int (gI u 8)) (C := R_He) (T := F_He) (N := 12) hx hb hts in_He hown hK hP 6 rfl rfl 7 (by decide) (hts _ m_3_6) (fun _ h9 => h9) rfl d_SH_count_134 ?_
    have hE : res = gI u 8 := hq.trans ((if_neg c1).trans ((if_neg c2).trans ((if_neg c3).trans ((if_neg c4).trans ((if_neg c5).trans ((if_neg c6).trans ((if_neg c7).trans ((if_pos c8).trans rfl))))))))
    exact retWi (x := gI u 8) hx hb hr hP hK hD hS hE.symm rfl d_SH_count_137 hlocks
  by_cases c9 : q = 8
  · skip
    refine lv_tableIn (off := 129) (tgt := 138) hx hb d_SH_count_9 (by rw [c9]; decide) (by rw [c9]; decide) (by rw [c9]; decide) (by decide) ?_
    refine lv_aload_n hx hb d_SH_count_138 rfl (lv_at hl 0 rfl) ?_
    refine va_get (D := (dC, dI)) (ci := 5) (v := .ref (ad 6)) (C := R_Ho) (T := F_Ho) (N := 2) hx hb hts in_Ho hown hK hP 5 rfl rfl 0 (by decide) (hts _ m_4_5) (fun _ h9 => h9) rfl d_SH_count_139 ?_
    refine va_get (D := (dC, dI)) (ci := 6) (v := .int (nI (gN u 7))) (C := R_He) (T := F_He) (N := 12) hx hb hts in_He hown hK hP 6 rfl rfl 6 (by decide) (hts _ m_3_3) (fun _ h9 => h9) rfl d_SH_count_142 ?_
    have hE : res = nI (gN u 7) := hq.trans ((if_neg c1).trans ((if_neg c2).trans ((if_neg c3).trans ((if_neg c4).trans ((if_neg c5).trans ((if_neg c6).trans ((if_neg c7).trans ((if_neg c8).trans ((if_pos c9).trans rfl)))))))))
    exact retWi (x := nI (gN u 7)) hx hb hr hP hK hD hS hE.symm rfl d_SH_count_145 hlocks
  by_cases c10 : q = 9
  · skip
    refine lv_tableIn (off := 137) (tgt := 146) hx hb d_SH_count_9 (by rw [c10]; decide) (by rw [c10]; decide) (by rw [c10]; decide) (by decide) ?_
    refine lv_aload_n hx hb d_SH_count_146 rfl (lv_at hl 0 rfl) ?_
    refine va_get (D := (dC, dI)) (ci := 5) (v := .ref (ad 6)) (C := R_Ho) (T := F_Ho) (N := 2) hx hb hts in_Ho hown hK hP 5 rfl rfl 0 (by decide) (hts _ m_4_5) (fun _ h9 => h9) rfl d_SH_count_147 ?_
    refine va_get (D := (dC, dI)) (ci := 6) (v := .int (gI u 9)) (C := R_He) (T := F_He) (N := 12) hx hb hts in_He hown hK hP 6 rfl rfl 8 (by decide) (hts _ m_3_8) (fun _ h9 => h9) rfl d_SH_count_150 ?_
    have hE : res = gI u 9 := hq.trans ((if_neg c1).trans ((if_neg c2).trans ((if_neg c3).trans ((if_neg c4).trans ((if_neg c5).trans ((if_neg c6).trans ((if_neg c7).trans ((if_neg c8).trans ((if_neg c9).trans ((if_pos c10).trans rfl))))))))))
    exact retWi (x := gI u 9) hx hb hr hP hK hD hS hE.symm rfl d_SH_count_153 hlocks
  by_cases c11 : q = 10
  · skip
    refine lv_tableIn (off := 145) (tgt := 154) hx hb d_SH_count_9 (by rw [c11]; decide) (by rw [c11]; decide) (by rw [c11]; decide) (by decide) ?_
    refine lv_aload_n hx hb d_SH_count_154 rfl (lv_at hl 1 rfl) ?_
    refine va_get (D := (dC, dI)) (ci := 0) (v := .ref (ad 1)) (C := R_SH) (T := F_SH) (N := 1) hx hb hts in_SH hown hK hP 0 rfl rfl 0 (by decide) (hts _ m_4_38) (fun _ h9 => h9) rfl d_SH_count_155 ?_
    refine va_get (D := (dC, dI)) (ci := 1) (v := .ref (ad 4)) (C := R_Ma) (T := F_Ma) (N := 10) hx hb hts in_Ma hown hK hP 1 rfl rfl 2 (by decide) (hts _ m_4_15) (fun _ h9 => h9) rfl d_SH_count_158 ?_
    refine va_get (D := (dC, dI)) (ci := 4) (v := .int (nI (gN u 2))) (C := R_Rp) (T := F_Rp) (N := 6) hx hb hts in_Rp hown hK hP 4 rfl rfl 5 (by decide) (hts _ m_2_19) (fun _ h9 => h9) rfl d_SH_count_161 ?_
    have hE : res = nI (gN u 2) := hq.trans ((if_neg c1).trans ((if_neg c2).trans ((if_neg c3).trans ((if_neg c4).trans ((if_neg c5).trans ((if_neg c6).trans ((if_neg c7).trans ((if_neg c8).trans ((if_neg c9).trans ((if_neg c10).trans ((if_pos c11).trans rfl)))))))))))
    exact retWi (x := nI (gN u 2)) hx hb hr hP hK hD hS hE.symm rfl d_SH_count_164 hlocks
  have nc1 := lv_neT c1 (a := 0) (by decide)
  have nc2 := lv_neT c2 (a := 1) (by decide)
  have nc3 := lv_neT c3 (a := 2) (by decide)
  have nc4 := lv_neT c4 (a := 3) (by decide)
  have nc5 := lv_neT c5 (a := 4) (by decide)
  have nc6 := lv_neT c6 (a := 5) (by decide)
  have nc7 := lv_neT c7 (a := 6) (by decide)
  have nc8 := lv_neT c8 (a := 7) (by decide)
  have nc9 := lv_neT c9 (a := 8) (by decide)
  have nc10 := lv_neT c10 (a := 9) (by decide)
  have nc11 := lv_neT c11 (a := 10) (by decide)
  refine lv_tableOut (tgt := 165) hx hb d_SH_count_9 (by omega) (by decide) ?_
  exfalso; omega
def w_SH_run : List Cond := .code y_SH_run b_SH_run 3 (some .int) :: ALLW
def rm_SH_run : Room := { frames := 27, cells := 0, slots := 0, locals := 766 }
theorem d_SH_run_0 : decode b_SH_run 0 = .ok (.iload_n 1, 1) := by decide +kernel
theorem d_SH_run_1 : decode b_SH_run 1 = .ok (.ifCond .lt 9, 3) := by decide +kernel
theorem d_SH_run_4 : decode b_SH_run 4 = .ok (.iload_n 1, 1) := by decide +kernel
theorem d_SH_run_5 : decode b_SH_run 5 = .ok (.ldc 55, 2) := by decide +kernel
theorem d_SH_run_7 : decode b_SH_run 7 = .ok (.if_icmp .le 11, 3) := by decide +kernel
theorem d_SH_run_10 : decode b_SH_run 10 = .ok (.new 16, 3) := by decide +kernel
theorem d_SH_run_13 : decode b_SH_run 13 = .ok (.dup, 1) := by decide +kernel
theorem d_SH_run_14 : decode b_SH_run 14 = .ok (.invokespecial 18, 3) := by decide +kernel
theorem d_SH_run_17 : decode b_SH_run 17 = .ok (.athrow, 1) := by decide +kernel
theorem d_SH_run_18 : decode b_SH_run 18 = .ok (.iconst 0, 1) := by decide +kernel
theorem d_SH_run_19 : decode b_SH_run 19 = .ok (.istore_n 2, 1) := by decide +kernel
theorem d_SH_run_20 : decode b_SH_run 20 = .ok (.iload_n 2, 1) := by decide +kernel
theorem d_SH_run_21 : decode b_SH_run 21 = .ok (.iload_n 1, 1) := by decide +kernel
theorem d_SH_run_22 : decode b_SH_run 22 = .ok (.if_icmp .ge 36, 3) := by decide +kernel
theorem d_SH_run_25 : decode b_SH_run 25 = .ok (.aload_n 0, 1) := by decide +kernel
theorem d_SH_run_26 : decode b_SH_run 26 = .ok (.getfield 10, 3) := by decide +kernel
theorem d_SH_run_29 : decode b_SH_run 29 = .ok (.getfield 56, 3) := by decide +kernel
theorem d_SH_run_32 : decode b_SH_run 32 = .ok (.ifCond .ne 26, 3) := by decide +kernel
theorem d_SH_run_35 : decode b_SH_run 35 = .ok (.aload_n 0, 1) := by decide +kernel
theorem d_SH_run_36 : decode b_SH_run 36 = .ok (.getfield 10, 3) := by decide +kernel
theorem d_SH_run_39 : decode b_SH_run 39 = .ok (.invokevirtual 59, 3) := by decide +kernel
theorem d_SH_run_42 : decode b_SH_run 42 = .ok (.ifCond .eq 10, 3) := by decide +kernel
theorem d_SH_run_45 : decode b_SH_run 45 = .ok (.aload_n 0, 1) := by decide +kernel
theorem d_SH_run_46 : decode b_SH_run 46 = .ok (.getfield 10, 3) := by decide +kernel
theorem d_SH_run_49 : decode b_SH_run 49 = .ok (.invokevirtual 63, 3) := by decide +kernel
theorem d_SH_run_52 : decode b_SH_run 52 = .ok (.iinc 2 1, 3) := by decide +kernel
theorem d_SH_run_55 : decode b_SH_run 55 = .ok (.goto (-35), 3) := by decide +kernel
theorem d_SH_run_58 : decode b_SH_run 58 = .ok (.aload_n 0, 1) := by decide +kernel
theorem d_SH_run_59 : decode b_SH_run 59 = .ok (.getfield 10, 3) := by decide +kernel
theorem d_SH_run_62 : decode b_SH_run 62 = .ok (.getfield 56, 3) := by decide +kernel
theorem d_SH_run_65 : decode b_SH_run 65 = .ok (.ireturn, 1) := by decide +kernel
def f_SH_run_20 (n : Nat) (u : S5) : Nat → Nat → S5 → (Int32 × S5)
  | 0, i, u1 => (0, u1)
  | k20 + 1, i, u1 => if i < n then (if (gI u1 3) = 0 then (if ((f_Ma_fetch u1).1) = true then f_SH_run_20 n u k20 (i + 1) (f_Ma_perform ((f_Ma_fetch u1).2)) else f_SH_run_20 n u k20 (i + 1) ((f_Ma_fetch u1).2)) else (gI u1 3, u1)) else (gI u1 3, u1)
def f_SH_run (n : Nat) (u : S5) : Int32 × S5 := f_SH_run_20 n u (n + 1) 0 u
set_option maxHeartbeats 8000000 in
set_option maxRecDepth 100000 in
theorem c_SH_run (l : Launch) (dC : Nat → ClassId) (dI : Nat → Nat → Nat) (cI : ClassId) (ad : Nat → Nat) (u : S5) (n : Nat) (hn : n ≤ 100000) (Iv : S5 → Prop) (hI0 : Iv u) (hI1 : ∀ v, Iv v → OkR v) (hI2 : ∀ v, Iv v → gI v 3 = 0 → (f_Ma_fetch v).1 = true → OkR (f_Ma_fetch v).2 ∧ OkH (f_Ma_fetch v).2 ∧ OkP (f_Ma_fetch v).2 ∧ Iv (f_Ma_perform (f_Ma_fetch v).2)) (hI3 : ∀ v, Iv v → gI v 3 = 0 → ¬ (f_Ma_fetch v).1 = true → Iv (f_Ma_fetch v).2) (sz : Nat) : Met l y_SH_run w_SH_run rm_SH_run (PreW (dC, dI) classes [(cI, .int)] (wC cI ad) u sz [.ref (ad 0), .int (nI n)]) (QWi (dC, dI) classes [(cI, .int)] (wC cI ad) (va_A (wC cI ad u) sz) (f_SH_run n u).1 (f_SH_run n u).2) 0 0 (va_A (wC cI ad u) sz) := by
  generalize hres : f_SH_run n u = res
  refine Met.ofW (cc := b_SH_run) (maxL := 3) (ret := (some .int)) (by decide) rfl ?_
  intro p e s m args below meth c s₁ B hml hv
  obtain ⟨rfl, rfl, hP, hK, hD0⟩ := hv
  have hx := B.exec
  have hb := B.bytes
  have hr := B.returns
  have hts : ∀ w9 ∈ ALLW, w9.before ([.ref (ad 0), .int (nI n)] : List Value).toArray s = true := fun w9 h => atoms_spec (ws := w_SH_run) B.pre w9 (List.mem_cons_of_mem _ h)
  have hown : s.vm.findClass R_SH = some m.cls := findClass_of_methodNamed B.named
  have hlocks := B.notSynchronized
  have hD := hD0.self (sz := s.heap.size)
  generalize hAe : va_A (wC cI ad u) s.heap.size = A at hD ⊢
  have hA : ∀ q : Nat, s.heap.size ≤ q → A q := fun q h => by rw [← hAe]; exact Or.inr h
  have hS : va_S A s.heap s.heap [] := va_S.rf
  have hl := lv_entry ([.ref (ad 0), .int (nI n)]) (n := 3) (Nat.le_of_ble_eq_true rfl)
  rw [lg_entry_eq]
  generalize (lg_sl ([.ref (ad 0), .int (nI n)]) ++ List.replicate (3 - (lg_sl ([.ref (ad 0), .int (nI n)])).length) Slot.unset).toArray = ls at hl ⊢
  have hl : lv_has ls 3 [(0, .ref (ad 0)), (1, .int (nI n))] := hl
  have hq := hres.symm
  skip
  refine lv_iload_n hx hb d_SH_run_0 rfl (lv_at hl 1 rfl) ?_
  refine rz_lt (tgt := 10) hx hb (by omega) d_SH_run_1 (by decide) ?_
  refine lv_iload_n hx hb d_SH_run_4 rfl (lv_at hl 1 rfl) ?_
  refine lv_ldc (v := 100000) hx hb hown (hts _ m_6_13) d_SH_run_5 ?_
  refine rw_top (y := nI 100000) (by decide) ?_
  refine rn_le (tgt := 18) hx hb (by omega) (by omega) d_SH_run_7 (by decide) (fun c1 => ?_) (fun c1 => ?_)
  · skip
    refine lv_iconst (v := nI 0) hx hb d_SH_run_18 (by decide) ?_
    refine lv_istore_n (lv' := [(2, .int (nI 0)), (0, .ref (ad 0)), (1, .int (nI n))]) hx hb d_SH_run_19 rfl hl (by decide) rfl (fun ls hl => ?_)
    have L20 : ∀ (k : Nat) (i : Nat) (u1 : S5) (H : Heap) (locs : List Loc) (ls : Array Slot), (i ≤ n) → (Iv u1) → (n - i) < k → res = f_SH_run_20 n u k i u1 → va_P (dC, dI) classes (wC cI ad u1) H → va_D A (wC cI ad u1) → va_S A s.heap H locs → lv_has ls 3 [(2, .int (nI i)), (0, .ref (ad 0)), (1, .int (nI n))] → W p l e (headSpec w_SH_run rm_SH_run).room s m ([.ref (ad 0), .int (nI n)] : List Value).toArray below meth c H locs 0 0 (MQ below (QWi (dC, dI) classes [(cI, .int)] (wC cI ad) A res.1 res.2) ([.ref (ad 0), .int (nI n)] : List Value).toArray s 0 0 A) (F0 m 20 ls []) := by
      intro k
      induction k with
      | zero => intro i u1 H locs ls hi hI hm; exact absurd hm (Nat.not_lt_zero _)
      | succ k20 ih20 =>
        intro i u1 H locs ls hi hI hm hq20 hP hD hS hl
        have ir := hI1 u1 hI
        refine lv_iload_n hx hb d_SH_run_20 rfl (lv_at hl 0 rfl) ?_
        refine lv_iload_n hx hb d_SH_run_21 rfl (lv_at hl 2 rfl) ?_
        refine rn_ge (tgt := 58) hx hb (by omega) (by omega) d_SH_run_22 (by decide) (fun c2 => ?_) (fun c2 => ?_)
        · skip
          refine lv_aload_n hx hb d_SH_run_58 rfl (lv_at hl 1 rfl) ?_
          refine va_get (D := (dC, dI)) (ci := 0) (v := .ref (ad 1)) (C := R_SH) (T := F_SH) (N := 1) hx hb hts in_SH hown hK hP 0 rfl rfl 0 (by decide) (hts _ m_4_38) (fun _ h9 => h9) rfl d_SH_run_59 ?_
          refine va_get (D := (dC, dI)) (ci := 1) (v := .int (gI u1 3)) (C := R_Ma) (T := F_Ma) (N := 10) hx hb hts in_Ma hown hK hP 1 rfl rfl 7 (by decide) (hts _ m_4_23) (fun _ h9 => h9) rfl d_SH_run_62 ?_
          have hE : res = (gI u1 3, u1) := hq20.trans ((if_neg (Nat.not_lt.mpr c2)).trans rfl)
          exact retWi (x := gI u1 3) hx hb hr hP hK hD hS (congrArg Prod.fst hE).symm (congrArg Prod.snd hE).symm d_SH_run_65 hlocks
        · skip
          refine lv_aload_n hx hb d_SH_run_25 rfl (lv_at hl 1 rfl) ?_
          refine va_get (D := (dC, dI)) (ci := 0) (v := .ref (ad 1)) (C := R_SH) (T := F_SH) (N := 1) hx hb hts in_SH hown hK hP 0 rfl rfl 0 (by decide) (hts _ m_4_38) (fun _ h9 => h9) rfl d_SH_run_26 ?_
          refine va_get (D := (dC, dI)) (ci := 1) (v := .int (gI u1 3)) (C := R_Ma) (T := F_Ma) (N := 10) hx hb hts in_Ma hown hK hP 1 rfl rfl 7 (by decide) (hts _ m_4_23) (fun _ h9 => h9) rfl d_SH_run_29 ?_
          refine lv_if_ne (tgt := 58) hx hb d_SH_run_32 (by decide) (fun c3 => ?_) (fun c3 => ?_)
          · skip
            refine lv_aload_n hx hb d_SH_run_58 rfl (lv_at hl 1 rfl) ?_
            refine va_get (D := (dC, dI)) (ci := 0) (v := .ref (ad 1)) (C := R_SH) (T := F_SH) (N := 1) hx hb hts in_SH hown hK hP 0 rfl rfl 0 (by decide) (hts _ m_4_38) (fun _ h9 => h9) rfl d_SH_run_59 ?_
            refine va_get (D := (dC, dI)) (ci := 1) (v := .int (gI u1 3)) (C := R_Ma) (T := F_Ma) (N := 10) hx hb hts in_Ma hown hK hP 1 rfl rfl 7 (by decide) (hts _ m_4_23) (fun _ h9 => h9) rfl d_SH_run_62 ?_
            have hE : res = (gI u1 3, u1) := hq20.trans ((if_pos c2).trans ((if_neg c3).trans rfl))
            exact retWi (x := gI u1 3) hx hb hr hP hK hD hS (congrArg Prod.fst hE).symm (congrArg Prod.snd hE).symm d_SH_run_65 hlocks
          · skip
            refine lv_aload_n hx hb d_SH_run_35 rfl (lv_at hl 1 rfl) ?_
            refine va_get (D := (dC, dI)) (ci := 0) (v := .ref (ad 1)) (C := R_SH) (T := F_SH) (N := 1) hx hb hts in_SH hown hK hP 0 rfl rfl 0 (by decide) (hts _ m_4_38) (fun _ h9 => h9) rfl d_SH_run_36 ?_
            refine callWi (va_runV (As := []) (rest := []) ⟨hx, hb, hml, hown, hts⟩ (c_Ma_fetch l dC dI cI ad u1 ir H.size) (cwV 0 hts (goodV m_6_14 m_6_15 m_6_16 m_0_2 m_6_17) rfl rfl rfl (by decide +kernel) ⟨Nat.le_of_ble_eq_true rfl, Nat.le_of_ble_eq_true rfl⟩) ⟨preW_blind, va_recv hK hP (ci := 1) (q0 := 1) rfl rfl, preW_ok hP hD hK⟩ rfl rfl hl.1 rfl (lv_room (Nat.le_of_ble_eq_true rfl)) d_SH_run_39 ⟨Nat.zero_le _, Nat.zero_le _⟩) hP hD hS hA (fun H locs hP hD hS => ?_)
            refine rb_eq (tgt := 52) hx hb d_SH_run_42 (by decide) (fun c4 => ?_) (fun c4 => ?_)
            · skip
              refine lv_iinc (v := nI (i + 1)) (lv' := [(2, .int (nI (i + 1))), (0, .ref (ad 0)), (1, .int (nI n))]) hx hb d_SH_run_52 hl (k := 0) rfl (rn_inc i 1 (by decide)) (by decide) rfl (fun ls hl => ?_)
              refine lv_goto (tgt := 20) hx hb d_SH_run_55 (by decide) ?_
              exact ih20 (i + 1) ((f_Ma_fetch u1).2) _ _ _ (by first | assumption | omega) (by first | exact hI3 u1 hI (by assumption) (by assumption) | exact (hI2 u1 hI (by assumption) (by assumption)).2.2.2) (by omega) (hq20.trans ((if_pos c2).trans ((if_pos c3).trans ((if_neg c4).trans rfl)))) hP hD hS (lv_sub hl [0, 1, 2] rfl)
            · skip
              refine lv_aload_n hx hb d_SH_run_45 rfl (lv_at hl 1 rfl) ?_
              refine va_get (D := (dC, dI)) (ci := 0) (v := .ref (ad 1)) (C := R_SH) (T := F_SH) (N := 1) hx hb hts in_SH hown hK hP 0 rfl rfl 0 (by decide) (hts _ m_4_38) (fun _ h9 => h9) rfl d_SH_run_46 ?_
              refine callWv (va_runV (As := []) (rest := []) ⟨hx, hb, hml, hown, hts⟩ (c_Ma_perform l dC dI cI ad ((f_Ma_fetch u1).2) ((hI2 u1 hI (by assumption) (by assumption)).1) ((hI2 u1 hI (by assumption) (by assumption)).2.1) ((hI2 u1 hI (by assumption) (by assumption)).2.2.1) H.size) (cwV 0 hts (goodV m_7_4 m_7_5 m_7_6 m_0_2 m_7_7) rfl rfl rfl (by decide +kernel) ⟨Nat.le_of_ble_eq_true rfl, Nat.le_of_ble_eq_true rfl⟩) ⟨preW_blind, va_recv hK hP (ci := 1) (q0 := 1) rfl rfl, preW_ok hP hD hK⟩ rfl rfl hl.1 rfl (lv_room (Nat.le_of_ble_eq_true rfl)) d_SH_run_49 ⟨Nat.zero_le _, Nat.zero_le _⟩) hP hD hS hA (fun H locs hP hD hS => ?_)
              refine lv_iinc (v := nI (i + 1)) (lv' := [(2, .int (nI (i + 1))), (0, .ref (ad 0)), (1, .int (nI n))]) hx hb d_SH_run_52 hl (k := 0) rfl (rn_inc i 1 (by decide)) (by decide) rfl (fun ls hl => ?_)
              refine lv_goto (tgt := 20) hx hb d_SH_run_55 (by decide) ?_
              exact ih20 (i + 1) (f_Ma_perform ((f_Ma_fetch u1).2)) _ _ _ (by first | assumption | omega) (by first | exact hI3 u1 hI (by assumption) (by assumption) | exact (hI2 u1 hI (by assumption) (by assumption)).2.2.2) (by omega) (hq20.trans ((if_pos c2).trans ((if_pos c3).trans ((if_pos c4).trans rfl)))) hP hD hS (lv_sub hl [0, 1, 2] rfl)
    exact L20 (n + 1) 0 u _ _ _ (by first | assumption | omega) hI0 (by omega) (hq.trans (rfl)) hP hD hS (lv_sub hl [0, 1, 2] rfl)
  · skip
    exact absurd c1 (by omega)
