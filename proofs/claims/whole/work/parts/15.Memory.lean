def w_Me_keepImage : List Cond := .code y_Me_keepImage b_Me_keepImage 5 none :: ALLW
def rm_Me_keepImage : Room := { frames := 20, cells := 0, slots := 0, locals := 600 }
theorem d_Me_keepImage_0 : decode b_Me_keepImage 0 = .ok (.iconst 0, 1) := by decide +kernel
theorem d_Me_keepImage_1 : decode b_Me_keepImage 1 = .ok (.istore 4, 2) := by decide +kernel
theorem d_Me_keepImage_3 : decode b_Me_keepImage 3 = .ok (.iload 4, 2) := by decide +kernel
theorem d_Me_keepImage_5 : decode b_Me_keepImage 5 = .ok (.bipush 8, 2) := by decide +kernel
theorem d_Me_keepImage_7 : decode b_Me_keepImage 7 = .ok (.if_icmp .ge 33, 3) := by decide +kernel
theorem d_Me_keepImage_10 : decode b_Me_keepImage 10 = .ok (.aload_n 0, 1) := by decide +kernel
theorem d_Me_keepImage_11 : decode b_Me_keepImage 11 = .ok (.getfield 16, 3) := by decide +kernel
theorem d_Me_keepImage_14 : decode b_Me_keepImage 14 = .ok (.iload_n 1, 1) := by decide +kernel
theorem d_Me_keepImage_15 : decode b_Me_keepImage 15 = .ok (.iload 4, 2) := by decide +kernel
theorem d_Me_keepImage_17 : decode b_Me_keepImage 17 = .ok (.iadd, 1) := by decide +kernel
theorem d_Me_keepImage_18 : decode b_Me_keepImage 18 = .ok (.ldc 9, 2) := by decide +kernel
theorem d_Me_keepImage_20 : decode b_Me_keepImage 20 = .ok (.lload_n 2, 1) := by decide +kernel
theorem d_Me_keepImage_21 : decode b_Me_keepImage 21 = .ok (.bipush 8, 2) := by decide +kernel
theorem d_Me_keepImage_23 : decode b_Me_keepImage 23 = .ok (.iload 4, 2) := by decide +kernel
theorem d_Me_keepImage_25 : decode b_Me_keepImage 25 = .ok (.imul, 1) := by decide +kernel
theorem d_Me_keepImage_26 : decode b_Me_keepImage 26 = .ok (.lushr, 1) := by decide +kernel
theorem d_Me_keepImage_27 : decode b_Me_keepImage 27 = .ok (.l2i, 1) := by decide +kernel
theorem d_Me_keepImage_28 : decode b_Me_keepImage 28 = .ok (.sipush 255, 3) := by decide +kernel
theorem d_Me_keepImage_31 : decode b_Me_keepImage 31 = .ok (.iand, 1) := by decide +kernel
theorem d_Me_keepImage_32 : decode b_Me_keepImage 32 = .ok (.ior, 1) := by decide +kernel
theorem d_Me_keepImage_33 : decode b_Me_keepImage 33 = .ok (.iastore, 1) := by decide +kernel
theorem d_Me_keepImage_34 : decode b_Me_keepImage 34 = .ok (.iinc 4 1, 3) := by decide +kernel
theorem d_Me_keepImage_37 : decode b_Me_keepImage 37 = .ok (.goto (-34), 3) := by decide +kernel
theorem d_Me_keepImage_40 : decode b_Me_keepImage 40 = .ok (.return_, 1) := by decide +kernel
def f_Me_keepImage_3 (at_ : Nat) (w : Int64) (u : S5) : Nat → Nat → S5 → S5
  | 0, i, u1 => u1
  | k3 + 1, i, u1 => if i < 8 then f_Me_keepImage_3 at_ w u k3 (i + 1) (uI u1 1 (at_ + i) ((65536 : Int32) ||| ((((w.toUInt64 >>> ((nI (8 * i)).toInt64.toUInt64 &&& Int64.toUInt64 63)).toInt64).toInt32) &&& (255 : Int32)))) else u1
def f_Me_keepImage (at_ : Nat) (w : Int64) (u : S5) : S5 := f_Me_keepImage_3 at_ w u 9 0 u
set_option maxHeartbeats 8000000 in
set_option maxRecDepth 100000 in
theorem c_Me_keepImage (l : Launch) (dC : Nat → ClassId) (dI : Nat → Nat → Nat) (cI : ClassId) (ad : Nat → Nat) (u : S5) (at_ : Nat) (w : Int64) (ha : at_ + 8 ≤ 16384) (sz : Nat) : Met l y_Me_keepImage w_Me_keepImage rm_Me_keepImage (PreW (dC, dI) classes [(cI, .int)] (wC cI ad) u sz [.ref (ad 2), .int (nI at_), .long w]) (QWv (dC, dI) classes [(cI, .int)] (wC cI ad) (va_A (wC cI ad u) sz) (f_Me_keepImage at_ w u)) 0 0 (va_A (wC cI ad u) sz) := by
  generalize hres : f_Me_keepImage at_ w u = res
  refine Met.ofW (cc := b_Me_keepImage) (maxL := 5) (ret := none) (by decide) rfl ?_
  intro p e s m args below meth c s₁ B hml hv
  obtain ⟨rfl, rfl, hP, hK, hD0⟩ := hv
  have hx := B.exec
  have hb := B.bytes
  have hr := B.returns
  have hts : ∀ w9 ∈ ALLW, w9.before ([.ref (ad 2), .int (nI at_), .long w] : List Value).toArray s = true := fun w9 h => atoms_spec (ws := w_Me_keepImage) B.pre w9 (List.mem_cons_of_mem _ h)
  have hown : s.vm.findClass R_Me = some m.cls := findClass_of_methodNamed B.named
  have hlocks := B.notSynchronized
  have hD := hD0.self (sz := s.heap.size)
  generalize hAe : va_A (wC cI ad u) s.heap.size = A at hD ⊢
  have hA : ∀ q : Nat, s.heap.size ≤ q → A q := fun q h => by rw [← hAe]; exact Or.inr h
  have hS : va_S A s.heap s.heap [] := va_S.rf
  have hl := lv_entry ([.ref (ad 2), .int (nI at_), .long w]) (n := 5) (Nat.le_of_ble_eq_true rfl)
  rw [lg_entry_eq]
  generalize (lg_sl ([.ref (ad 2), .int (nI at_), .long w]) ++ List.replicate (5 - (lg_sl ([.ref (ad 2), .int (nI at_), .long w])).length) Slot.unset).toArray = ls at hl ⊢
  have hl : lv_has ls 5 [(0, .ref (ad 2)), (1, .int (nI at_)), (2, .long w)] := hl
  have hq := hres.symm
  skip
  refine lv_iconst (v := nI 0) hx hb d_Me_keepImage_0 (by decide) ?_
  refine lv_istore (lv' := [(4, .int (nI 0)), (0, .ref (ad 2)), (1, .int (nI at_)), (2, .long w)]) hx hb d_Me_keepImage_1 hl (by decide) rfl (fun ls hl => ?_)
  have L3 : ∀ (k : Nat) (i : Nat) (u1 : S5) (H : Heap) (locs : List Loc) (ls : Array Slot), (i ≤ 8) → (8 - i) < k → res = f_Me_keepImage_3 at_ w u k i u1 → va_P (dC, dI) classes (wC cI ad u1) H → va_D A (wC cI ad u1) → va_S A s.heap H locs → lv_has ls 5 [(4, .int (nI i)), (0, .ref (ad 2)), (1, .int (nI at_)), (2, .long w)] → W p l e (headSpec w_Me_keepImage rm_Me_keepImage).room s m ([.ref (ad 2), .int (nI at_), .long w] : List Value).toArray below meth c H locs 0 0 (MQ below (QWv (dC, dI) classes [(cI, .int)] (wC cI ad) A res) ([.ref (ad 2), .int (nI at_), .long w] : List Value).toArray s 0 0 A) (F0 m 3 ls []) := by
    intro k
    induction k with
    | zero => intro i u1 H locs ls hi hm; exact absurd hm (Nat.not_lt_zero _)
    | succ k3 ih3 =>
      intro i u1 H locs ls hi hm hq3 hP hD hS hl
      refine lv_iload hx hb d_Me_keepImage_3 (lv_at hl 0 rfl) ?_
      refine lv_bipush (v := nI 8) hx hb d_Me_keepImage_5 (by decide) ?_
      refine rn_ge (tgt := 40) hx hb (by omega) (by omega) d_Me_keepImage_7 (by decide) (fun c1 => ?_) (fun c1 => ?_)
      · skip
        have hE : res = u1 := hq3.trans ((if_neg (Nat.not_lt.mpr c1)).trans rfl)
        exact retWv hx hb hr hP hK hD hS hE.symm d_Me_keepImage_40 hlocks
      · skip
        refine lv_aload_n hx hb d_Me_keepImage_10 rfl (lv_at hl 1 rfl) ?_
        refine va_get (D := (dC, dI)) (ci := 2) (v := .ref (ad 9)) (C := R_Me) (T := F_Me) (N := 2) hx hb hts in_Me hown hK hP 2 rfl rfl 1 (by decide) (hts _ m_1_20) (fun _ h9 => h9) rfl d_Me_keepImage_11 ?_
        refine lv_iload_n hx hb d_Me_keepImage_14 rfl (lv_at hl 2 rfl) ?_
        refine lv_iload hx hb d_Me_keepImage_15 (lv_at hl 0 rfl) ?_
        refine lv_iadd hx hb d_Me_keepImage_17 ?_
        refine rw_top (y := nI (at_ + i)) (nI_add at_ i) ?_
        refine lv_ldc (v := 65536) hx hb hown (hts _ m_0_34) d_Me_keepImage_18 ?_
        refine lv_lload_n hx hb d_Me_keepImage_20 rfl (lv_at hl 3 rfl) ?_
        refine lv_bipush (v := nI 8) hx hb d_Me_keepImage_21 (by decide) ?_
        refine lv_iload hx hb d_Me_keepImage_23 (lv_at hl 0 rfl) ?_
        refine lv_imul hx hb d_Me_keepImage_25 ?_
        refine rw_top (y := nI (8 * i)) (pk_mul 8 i) ?_
        refine lv_lushr (v := (w.toUInt64 >>> ((nI (8 * i)).toInt64.toUInt64 &&& Int64.toUInt64 63)).toInt64) hx hb d_Me_keepImage_26 rfl ?_
        refine lv_l2i (v := ((w.toUInt64 >>> ((nI (8 * i)).toInt64.toUInt64 &&& Int64.toUInt64 63)).toInt64).toInt32) hx hb d_Me_keepImage_27 rfl ?_
        refine lv_sipush (v := 255) hx hb d_Me_keepImage_28 (by decide) ?_
        refine lv_iand hx hb d_Me_keepImage_31 ?_
        refine lv_ior hx hb d_Me_keepImage_32 ?_
        refine astC_image (u := u1) (n := at_ + i) hx hb hK hP hD hS (by omega) d_Me_keepImage_33 (fun H locs hP hD hS => ?_)
        refine lv_iinc (v := nI (i + 1)) (lv' := [(4, .int (nI (i + 1))), (0, .ref (ad 2)), (1, .int (nI at_)), (2, .long w)]) hx hb d_Me_keepImage_34 hl (k := 0) rfl (rn_inc i 1 (by decide)) (by decide) rfl (fun ls hl => ?_)
        refine lv_goto (tgt := 3) hx hb d_Me_keepImage_37 (by decide) ?_
        exact ih3 (i + 1) (uI u1 1 (at_ + i) ((65536 : Int32) ||| ((((w.toUInt64 >>> ((nI (8 * i)).toInt64.toUInt64 &&& Int64.toUInt64 63)).toInt64).toInt32) &&& (255 : Int32)))) _ _ _ (by first | assumption | omega) (by omega) (hq3.trans ((if_pos c1).trans rfl)) hP hD hS (lv_sub hl [0, 1, 2, 3] rfl)
  exact L3 9 0 u _ _ _ (by first | assumption | omega) (by omega) (hq.trans (rfl)) hP hD hS (lv_sub hl [0, 1, 2, 3] rfl)
def w_Me_reset : List Cond := .code y_Me_reset b_Me_reset 1 none :: ALLW
def rm_Me_reset : Room := { frames := 22, cells := 0, slots := 0, locals := 646 }
theorem d_Me_reset_0 : decode b_Me_reset 0 = .ok (.aload_n 0, 1) := by decide +kernel
theorem d_Me_reset_1 : decode b_Me_reset 1 = .ok (.getfield 16, 3) := by decide +kernel
theorem d_Me_reset_4 : decode b_Me_reset 4 = .ok (.iconst 0, 1) := by decide +kernel
theorem d_Me_reset_5 : decode b_Me_reset 5 = .ok (.aload_n 0, 1) := by decide +kernel
theorem d_Me_reset_6 : decode b_Me_reset 6 = .ok (.getfield 10, 3) := by decide +kernel
theorem d_Me_reset_9 : decode b_Me_reset 9 = .ok (.iconst 0, 1) := by decide +kernel
theorem d_Me_reset_10 : decode b_Me_reset 10 = .ok (.sipush 16384, 3) := by decide +kernel
theorem d_Me_reset_13 : decode b_Me_reset 13 = .ok (.invokestatic 28, 3) := by decide +kernel
theorem d_Me_reset_16 : decode b_Me_reset 16 = .ok (.aload_n 0, 1) := by decide +kernel
theorem d_Me_reset_17 : decode b_Me_reset 17 = .ok (.getfield 10, 3) := by decide +kernel
theorem d_Me_reset_20 : decode b_Me_reset 20 = .ok (.sipush 16384, 3) := by decide +kernel
theorem d_Me_reset_23 : decode b_Me_reset 23 = .ok (.ldc 34, 2) := by decide +kernel
theorem d_Me_reset_25 : decode b_Me_reset 25 = .ok (.iconst 0, 1) := by decide +kernel
theorem d_Me_reset_26 : decode b_Me_reset 26 = .ok (.invokestatic 35, 3) := by decide +kernel
theorem d_Me_reset_29 : decode b_Me_reset 29 = .ok (.aload_n 0, 1) := by decide +kernel
theorem d_Me_reset_30 : decode b_Me_reset 30 = .ok (.getfield 10, 3) := by decide +kernel
theorem d_Me_reset_33 : decode b_Me_reset 33 = .ok (.ldc 34, 2) := by decide +kernel
theorem d_Me_reset_35 : decode b_Me_reset 35 = .ok (.ldc 9, 2) := by decide +kernel
theorem d_Me_reset_37 : decode b_Me_reset 37 = .ok (.ldc 38, 2) := by decide +kernel
theorem d_Me_reset_39 : decode b_Me_reset 39 = .ok (.invokestatic 35, 3) := by decide +kernel
theorem d_Me_reset_42 : decode b_Me_reset 42 = .ok (.return_, 1) := by decide +kernel
def f_Me_reset (u : S5) : S5 := fI (fI (cp u 0 (aI u 1) 0 0 16384) 0 16384 57344 0) 0 57344 65536 130816
set_option maxHeartbeats 8000000 in
set_option maxRecDepth 100000 in
theorem c_Me_reset (l : Launch) (dC : Nat → ClassId) (dI : Nat → Nat → Nat) (cI : ClassId) (ad : Nat → Nat) (u : S5) (sz : Nat) : Met l y_Me_reset w_Me_reset rm_Me_reset (PreW (dC, dI) classes [(cI, .int)] (wC cI ad) u sz [.ref (ad 2)]) (QWv (dC, dI) classes [(cI, .int)] (wC cI ad) (va_A (wC cI ad u) sz) (f_Me_reset u)) 0 0 (va_A (wC cI ad u) sz) := by
  generalize hres : f_Me_reset u = res
  refine Met.ofW (cc := b_Me_reset) (maxL := 1) (ret := none) (by decide) rfl ?_
  intro p e s m args below meth c s₁ B hml hv
  obtain ⟨rfl, rfl, hP, hK, hD0⟩ := hv
  have hx := B.exec
  have hb := B.bytes
  have hr := B.returns
  have hts : ∀ w9 ∈ ALLW, w9.before ([.ref (ad 2)] : List Value).toArray s = true := fun w9 h => atoms_spec (ws := w_Me_reset) B.pre w9 (List.mem_cons_of_mem _ h)
  have hown : s.vm.findClass R_Me = some m.cls := findClass_of_methodNamed B.named
  have hlocks := B.notSynchronized
  have hD := hD0.self (sz := s.heap.size)
  generalize hAe : va_A (wC cI ad u) s.heap.size = A at hD ⊢
  have hA : ∀ q : Nat, s.heap.size ≤ q → A q := fun q h => by rw [← hAe]; exact Or.inr h
  have hS : va_S A s.heap s.heap [] := va_S.rf
  have hl := lv_entry ([.ref (ad 2)]) (n := 1) (Nat.le_of_ble_eq_true rfl)
  rw [lg_entry_eq]
  generalize (lg_sl ([.ref (ad 2)]) ++ List.replicate (1 - (lg_sl ([.ref (ad 2)])).length) Slot.unset).toArray = ls at hl ⊢
  have hl : lv_has ls 1 [(0, .ref (ad 2))] := hl
  have hq := hres.symm
  skip
  refine lv_aload_n hx hb d_Me_reset_0 rfl (lv_at hl 0 rfl) ?_
  refine va_get (D := (dC, dI)) (ci := 2) (v := .ref (ad 9)) (C := R_Me) (T := F_Me) (N := 2) hx hb hts in_Me hown hK hP 2 rfl rfl 1 (by decide) (hts _ m_1_20) (fun _ h9 => h9) rfl d_Me_reset_1 ?_
  refine lv_iconst (v := nI 0) hx hb d_Me_reset_4 (by decide) ?_
  refine lv_aload_n hx hb d_Me_reset_5 rfl (lv_at hl 0 rfl) ?_
  refine va_get (D := (dC, dI)) (ci := 2) (v := .ref (ad 8)) (C := R_Me) (T := F_Me) (N := 2) hx hb hts in_Me hown hK hP 2 rfl rfl 0 (by decide) (hts _ m_1_18) (fun _ h9 => h9) rfl d_Me_reset_6 ?_
  refine lv_iconst (v := nI 0) hx hb d_Me_reset_9 (by decide) ?_
  refine lv_sipush (v := nI 16384) hx hb d_Me_reset_10 (by decide) ?_
  refine cpN hx hb (hml.trans hl.1.symm) hown (hts _ m_1_2) (hts _ m_1_4) (hts _ m_1_3) (hts _ m_0_5) hK hP hD hS 9 8 0 0 rfl rfl rfl rfl (by omega) (by omega) (by omega) (by omega) (by omega) (Nat.le_of_ble_eq_true rfl) (Nat.le_of_ble_eq_true rfl) d_Me_reset_13 (fun H locs hP hD hS => ?_)
  have hP : va_P (dC, dI) classes (wC cI ad (cp u 0 (aI u 1) 0 0 16384)) H := hP
  have hD : va_D A (wC cI ad (cp u 0 (aI u 1) 0 0 16384)) := hD
  refine lv_aload_n hx hb d_Me_reset_16 rfl (lv_at hl 0 rfl) ?_
  refine va_get (D := (dC, dI)) (ci := 2) (v := .ref (ad 8)) (C := R_Me) (T := F_Me) (N := 2) hx hb hts in_Me hown hK hP 2 rfl rfl 0 (by decide) (hts _ m_1_18) (fun _ h9 => h9) rfl d_Me_reset_17 ?_
  refine lv_sipush (v := nI 16384) hx hb d_Me_reset_20 (by decide) ?_
  refine lv_ldc (v := 57344) hx hb hown (hts _ m_1_5) d_Me_reset_23 ?_
  refine rw_top (y := nI 57344) (by decide) ?_
  refine lv_iconst (v := 0) hx hb d_Me_reset_25 (by decide) ?_
  refine callZv (va_runS (As := [.ref (ad 8), .int (nI 16384), .int (nI 57344), .int 0]) (rest := []) ⟨hx, hb, hml, hown, hts⟩ (c_Ar_fill2 l (dC, dI) classes [(cI, .int)] cI 0 rfl (wC cI ad (cp u 0 (aI u 1) 0 0 16384)) 8 (ad 8) 65536 (aI (cp u 0 (aI u 1) 0 0 16384) 0) rfl (by decide) 16384 57344 (by omega) (by omega) 0 H.size) (va_cwS 4 hts (goodS m_1_6 m_1_7 m_0_4 m_1_8) rfl rfl rfl (by decide +kernel) ⟨Nat.le_of_ble_eq_true rfl, Nat.le_of_ble_eq_true rfl⟩) ⟨preZ_blind, preZ_ok hP hD hK⟩ rfl rfl hl.1 rfl (lv_room (Nat.le_of_ble_eq_true rfl)) d_Me_reset_26 ⟨Nat.zero_le _, Nat.zero_le _⟩) hP hD hS hA (fun H locs hP hD hS => ?_)
  have hP : va_P (dC, dI) classes (wC cI ad (fI (cp u 0 (aI u 1) 0 0 16384) 0 16384 57344 0)) H := hP
  have hD : va_D A (wC cI ad (fI (cp u 0 (aI u 1) 0 0 16384) 0 16384 57344 0)) := hD
  refine lv_aload_n hx hb d_Me_reset_29 rfl (lv_at hl 0 rfl) ?_
  refine va_get (D := (dC, dI)) (ci := 2) (v := .ref (ad 8)) (C := R_Me) (T := F_Me) (N := 2) hx hb hts in_Me hown hK hP 2 rfl rfl 0 (by decide) (hts _ m_1_18) (fun _ h9 => h9) rfl d_Me_reset_30 ?_
  refine lv_ldc (v := 57344) hx hb hown (hts _ m_1_5) d_Me_reset_33 ?_
  refine rw_top (y := nI 57344) (by decide) ?_
  refine lv_ldc (v := 65536) hx hb hown (hts _ m_0_34) d_Me_reset_35 ?_
  refine rw_top (y := nI 65536) (by decide) ?_
  refine lv_ldc (v := 130816) hx hb hown (hts _ m_1_17) d_Me_reset_37 ?_
  refine callZv (va_runS (As := [.ref (ad 8), .int (nI 57344), .int (nI 65536), .int 130816]) (rest := []) ⟨hx, hb, hml, hown, hts⟩ (c_Ar_fill2 l (dC, dI) classes [(cI, .int)] cI 0 rfl (wC cI ad (fI (cp u 0 (aI u 1) 0 0 16384) 0 16384 57344 0)) 8 (ad 8) 65536 (aI (fI (cp u 0 (aI u 1) 0 0 16384) 0 16384 57344 0) 0) rfl (by decide) 57344 65536 (by omega) (by omega) 130816 H.size) (va_cwS 4 hts (goodS m_1_6 m_1_7 m_0_4 m_1_8) rfl rfl rfl (by decide +kernel) ⟨Nat.le_of_ble_eq_true rfl, Nat.le_of_ble_eq_true rfl⟩) ⟨preZ_blind, preZ_ok hP hD hK⟩ rfl rfl hl.1 rfl (lv_room (Nat.le_of_ble_eq_true rfl)) d_Me_reset_39 ⟨Nat.zero_le _, Nat.zero_le _⟩) hP hD hS hA (fun H locs hP hD hS => ?_)
  have hP : va_P (dC, dI) classes (wC cI ad (fI (fI (cp u 0 (aI u 1) 0 0 16384) 0 16384 57344 0) 0 57344 65536 130816)) H := hP
  have hD : va_D A (wC cI ad (fI (fI (cp u 0 (aI u 1) 0 0 16384) 0 16384 57344 0) 0 57344 65536 130816)) := hD
  have hE : res = fI (fI (cp u 0 (aI u 1) 0 0 16384) 0 16384 57344 0) 0 57344 65536 130816 := hq.trans (rfl)
  exact retWv hx hb hr hP hK hD hS hE.symm d_Me_reset_42 hlocks
def w_Me_word : List Cond := .code y_Me_word b_Me_word 2 (some .int) :: ALLW
def rm_Me_word : Room := { frames := 20, cells := 0, slots := 0, locals := 600 }
theorem d_Me_word_0 : decode b_Me_word 0 = .ok (.aload_n 0, 1) := by decide +kernel
theorem d_Me_word_1 : decode b_Me_word 1 = .ok (.getfield 10, 3) := by decide +kernel
theorem d_Me_word_4 : decode b_Me_word 4 = .ok (.iload_n 1, 1) := by decide +kernel
theorem d_Me_word_5 : decode b_Me_word 5 = .ok (.iaload, 1) := by decide +kernel
theorem d_Me_word_6 : decode b_Me_word 6 = .ok (.sipush 255, 3) := by decide +kernel
theorem d_Me_word_9 : decode b_Me_word 9 = .ok (.iand, 1) := by decide +kernel
theorem d_Me_word_10 : decode b_Me_word 10 = .ok (.aload_n 0, 1) := by decide +kernel
theorem d_Me_word_11 : decode b_Me_word 11 = .ok (.getfield 10, 3) := by decide +kernel
theorem d_Me_word_14 : decode b_Me_word 14 = .ok (.iload_n 1, 1) := by decide +kernel
theorem d_Me_word_15 : decode b_Me_word 15 = .ok (.iconst 1, 1) := by decide +kernel
theorem d_Me_word_16 : decode b_Me_word 16 = .ok (.iadd, 1) := by decide +kernel
theorem d_Me_word_17 : decode b_Me_word 17 = .ok (.iaload, 1) := by decide +kernel
theorem d_Me_word_18 : decode b_Me_word 18 = .ok (.sipush 255, 3) := by decide +kernel
theorem d_Me_word_21 : decode b_Me_word 21 = .ok (.iand, 1) := by decide +kernel
theorem d_Me_word_22 : decode b_Me_word 22 = .ok (.bipush 8, 2) := by decide +kernel
theorem d_Me_word_24 : decode b_Me_word 24 = .ok (.ishl, 1) := by decide +kernel
theorem d_Me_word_25 : decode b_Me_word 25 = .ok (.ior, 1) := by decide +kernel
theorem d_Me_word_26 : decode b_Me_word 26 = .ok (.aload_n 0, 1) := by decide +kernel
theorem d_Me_word_27 : decode b_Me_word 27 = .ok (.getfield 10, 3) := by decide +kernel
theorem d_Me_word_30 : decode b_Me_word 30 = .ok (.iload_n 1, 1) := by decide +kernel
theorem d_Me_word_31 : decode b_Me_word 31 = .ok (.iconst 2, 1) := by decide +kernel
theorem d_Me_word_32 : decode b_Me_word 32 = .ok (.iadd, 1) := by decide +kernel
theorem d_Me_word_33 : decode b_Me_word 33 = .ok (.iaload, 1) := by decide +kernel
theorem d_Me_word_34 : decode b_Me_word 34 = .ok (.sipush 255, 3) := by decide +kernel
theorem d_Me_word_37 : decode b_Me_word 37 = .ok (.iand, 1) := by decide +kernel
theorem d_Me_word_38 : decode b_Me_word 38 = .ok (.bipush 16, 2) := by decide +kernel
theorem d_Me_word_40 : decode b_Me_word 40 = .ok (.ishl, 1) := by decide +kernel
theorem d_Me_word_41 : decode b_Me_word 41 = .ok (.ior, 1) := by decide +kernel
theorem d_Me_word_42 : decode b_Me_word 42 = .ok (.aload_n 0, 1) := by decide +kernel
theorem d_Me_word_43 : decode b_Me_word 43 = .ok (.getfield 10, 3) := by decide +kernel
theorem d_Me_word_46 : decode b_Me_word 46 = .ok (.iload_n 1, 1) := by decide +kernel
theorem d_Me_word_47 : decode b_Me_word 47 = .ok (.iconst 3, 1) := by decide +kernel
theorem d_Me_word_48 : decode b_Me_word 48 = .ok (.iadd, 1) := by decide +kernel
theorem d_Me_word_49 : decode b_Me_word 49 = .ok (.iaload, 1) := by decide +kernel
theorem d_Me_word_50 : decode b_Me_word 50 = .ok (.bipush 24, 2) := by decide +kernel
theorem d_Me_word_52 : decode b_Me_word 52 = .ok (.ishl, 1) := by decide +kernel
theorem d_Me_word_53 : decode b_Me_word 53 = .ok (.ior, 1) := by decide +kernel
theorem d_Me_word_54 : decode b_Me_word 54 = .ok (.ireturn, 1) := by decide +kernel
def f_Me_word (at_ : Nat) (u : S5) : Int32 := ((((aI u 0 at_) &&& (255 : Int32)) ||| (((aI u 0 (at_ + 1)) &&& (255 : Int32)) <<< ((8 : Int32) &&& 31))) ||| (((aI u 0 (at_ + 2)) &&& (255 : Int32)) <<< ((16 : Int32) &&& 31))) ||| ((aI u 0 (at_ + 3)) <<< ((24 : Int32) &&& 31))
set_option maxHeartbeats 8000000 in
set_option maxRecDepth 100000 in
theorem c_Me_word (l : Launch) (dC : Nat → ClassId) (dI : Nat → Nat → Nat) (cI : ClassId) (ad : Nat → Nat) (u : S5) (at_ : Nat) (ha : at_ + 4 ≤ 65536) (sz : Nat) : Met l y_Me_word w_Me_word rm_Me_word (PreW (dC, dI) classes [(cI, .int)] (wC cI ad) u sz [.ref (ad 2), .int (nI at_)]) (QWi (dC, dI) classes [(cI, .int)] (wC cI ad) (va_A (wC cI ad u) sz) (f_Me_word at_ u) u) 0 0 (va_A (wC cI ad u) sz) := by
  generalize hres : f_Me_word at_ u = res
  refine Met.ofW (cc := b_Me_word) (maxL := 2) (ret := (some .int)) (by decide) rfl ?_
  intro p e s m args below meth c s₁ B hml hv
  obtain ⟨rfl, rfl, hP, hK, hD0⟩ := hv
  have hx := B.exec
  have hb := B.bytes
  have hr := B.returns
  have hts : ∀ w9 ∈ ALLW, w9.before ([.ref (ad 2), .int (nI at_)] : List Value).toArray s = true := fun w9 h => atoms_spec (ws := w_Me_word) B.pre w9 (List.mem_cons_of_mem _ h)
  have hown : s.vm.findClass R_Me = some m.cls := findClass_of_methodNamed B.named
  have hlocks := B.notSynchronized
  have hD := hD0.self (sz := s.heap.size)
  generalize hAe : va_A (wC cI ad u) s.heap.size = A at hD ⊢
  have hA : ∀ q : Nat, s.heap.size ≤ q → A q := fun q h => by rw [← hAe]; exact Or.inr h
  have hS : va_S A s.heap s.heap [] := va_S.rf
  have hl := lv_entry ([.ref (ad 2), .int (nI at_)]) (n := 2) (Nat.le_of_ble_eq_true rfl)
  rw [lg_entry_eq]
  generalize (lg_sl ([.ref (ad 2), .int (nI at_)]) ++ List.replicate (2 - (lg_sl ([.ref (ad 2), .int (nI at_)])).length) Slot.unset).toArray = ls at hl ⊢
  have hl : lv_has ls 2 [(0, .ref (ad 2)), (1, .int (nI at_))] := hl
  have hq := hres.symm
  skip
  refine lv_aload_n hx hb d_Me_word_0 rfl (lv_at hl 0 rfl) ?_
  refine va_get (D := (dC, dI)) (ci := 2) (v := .ref (ad 8)) (C := R_Me) (T := F_Me) (N := 2) hx hb hts in_Me hown hK hP 2 rfl rfl 0 (by decide) (hts _ m_1_18) (fun _ h9 => h9) rfl d_Me_word_1 ?_
  refine lv_iload_n hx hb d_Me_word_4 rfl (lv_at hl 1 rfl) ?_
  refine aldC_cells (u := u) (v := aI u 0 at_) hx hb hK hP (by omega) rfl d_Me_word_5 ?_
  refine lv_sipush (v := 255) hx hb d_Me_word_6 (by decide) ?_
  refine lv_iand hx hb d_Me_word_9 ?_
  refine lv_aload_n hx hb d_Me_word_10 rfl (lv_at hl 0 rfl) ?_
  refine va_get (D := (dC, dI)) (ci := 2) (v := .ref (ad 8)) (C := R_Me) (T := F_Me) (N := 2) hx hb hts in_Me hown hK hP 2 rfl rfl 0 (by decide) (hts _ m_1_18) (fun _ h9 => h9) rfl d_Me_word_11 ?_
  refine lv_iload_n hx hb d_Me_word_14 rfl (lv_at hl 1 rfl) ?_
  refine lv_iconst (v := nI 1) hx hb d_Me_word_15 (by decide) ?_
  refine lv_iadd hx hb d_Me_word_16 ?_
  refine rw_top (y := nI (at_ + 1)) (nI_add at_ 1) ?_
  refine aldC_cells (u := u) (v := aI u 0 (at_ + 1)) hx hb hK hP (by omega) rfl d_Me_word_17 ?_
  refine lv_sipush (v := 255) hx hb d_Me_word_18 (by decide) ?_
  refine lv_iand hx hb d_Me_word_21 ?_
  refine lv_bipush (v := 8) hx hb d_Me_word_22 (by decide) ?_
  refine lv_ishl hx hb d_Me_word_24 ?_
  refine lv_ior hx hb d_Me_word_25 ?_
  refine lv_aload_n hx hb d_Me_word_26 rfl (lv_at hl 0 rfl) ?_
  refine va_get (D := (dC, dI)) (ci := 2) (v := .ref (ad 8)) (C := R_Me) (T := F_Me) (N := 2) hx hb hts in_Me hown hK hP 2 rfl rfl 0 (by decide) (hts _ m_1_18) (fun _ h9 => h9) rfl d_Me_word_27 ?_
  refine lv_iload_n hx hb d_Me_word_30 rfl (lv_at hl 1 rfl) ?_
  refine lv_iconst (v := nI 2) hx hb d_Me_word_31 (by decide) ?_
  refine lv_iadd hx hb d_Me_word_32 ?_
  refine rw_top (y := nI (at_ + 2)) (nI_add at_ 2) ?_
  refine aldC_cells (u := u) (v := aI u 0 (at_ + 2)) hx hb hK hP (by omega) rfl d_Me_word_33 ?_
  refine lv_sipush (v := 255) hx hb d_Me_word_34 (by decide) ?_
  refine lv_iand hx hb d_Me_word_37 ?_
  refine lv_bipush (v := 16) hx hb d_Me_word_38 (by decide) ?_
  refine lv_ishl hx hb d_Me_word_40 ?_
  refine lv_ior hx hb d_Me_word_41 ?_
  refine lv_aload_n hx hb d_Me_word_42 rfl (lv_at hl 0 rfl) ?_
  refine va_get (D := (dC, dI)) (ci := 2) (v := .ref (ad 8)) (C := R_Me) (T := F_Me) (N := 2) hx hb hts in_Me hown hK hP 2 rfl rfl 0 (by decide) (hts _ m_1_18) (fun _ h9 => h9) rfl d_Me_word_43 ?_
  refine lv_iload_n hx hb d_Me_word_46 rfl (lv_at hl 1 rfl) ?_
  refine lv_iconst (v := nI 3) hx hb d_Me_word_47 (by decide) ?_
  refine lv_iadd hx hb d_Me_word_48 ?_
  refine rw_top (y := nI (at_ + 3)) (nI_add at_ 3) ?_
  refine aldC_cells (u := u) (v := aI u 0 (at_ + 3)) hx hb hK hP (by omega) rfl d_Me_word_49 ?_
  refine lv_bipush (v := 24) hx hb d_Me_word_50 (by decide) ?_
  refine lv_ishl hx hb d_Me_word_52 ?_
  refine lv_ior hx hb d_Me_word_53 ?_
  have hE : res = ((((aI u 0 at_) &&& (255 : Int32)) ||| (((aI u 0 (at_ + 1)) &&& (255 : Int32)) <<< ((8 : Int32) &&& 31))) ||| (((aI u 0 (at_ + 2)) &&& (255 : Int32)) <<< ((16 : Int32) &&& 31))) ||| ((aI u 0 (at_ + 3)) <<< ((24 : Int32) &&& 31)) := hq.trans (rfl)
  exact retWi (x := ((((aI u 0 at_) &&& (255 : Int32)) ||| (((aI u 0 (at_ + 1)) &&& (255 : Int32)) <<< ((8 : Int32) &&& 31))) ||| (((aI u 0 (at_ + 2)) &&& (255 : Int32)) <<< ((16 : Int32) &&& 31))) ||| ((aI u 0 (at_ + 3)) <<< ((24 : Int32) &&& 31))) hx hb hr hP hK hD hS hE.symm rfl d_Me_word_54 hlocks
def w_Me_isOpenWord : List Cond := .code y_Me_isOpenWord b_Me_isOpenWord 2 (some .boolean) :: ALLW
def rm_Me_isOpenWord : Room := { frames := 20, cells := 0, slots := 0, locals := 600 }
theorem d_Me_isOpenWord_0 : decode b_Me_isOpenWord 0 = .ok (.aload_n 0, 1) := by decide +kernel
theorem d_Me_isOpenWord_1 : decode b_Me_isOpenWord 1 = .ok (.getfield 10, 3) := by decide +kernel
theorem d_Me_isOpenWord_4 : decode b_Me_isOpenWord 4 = .ok (.iload_n 1, 1) := by decide +kernel
theorem d_Me_isOpenWord_5 : decode b_Me_isOpenWord 5 = .ok (.iaload, 1) := by decide +kernel
theorem d_Me_isOpenWord_6 : decode b_Me_isOpenWord 6 = .ok (.aload_n 0, 1) := by decide +kernel
theorem d_Me_isOpenWord_7 : decode b_Me_isOpenWord 7 = .ok (.getfield 10, 3) := by decide +kernel
theorem d_Me_isOpenWord_10 : decode b_Me_isOpenWord 10 = .ok (.iload_n 1, 1) := by decide +kernel
theorem d_Me_isOpenWord_11 : decode b_Me_isOpenWord 11 = .ok (.iconst 1, 1) := by decide +kernel
theorem d_Me_isOpenWord_12 : decode b_Me_isOpenWord 12 = .ok (.iadd, 1) := by decide +kernel
theorem d_Me_isOpenWord_13 : decode b_Me_isOpenWord 13 = .ok (.iaload, 1) := by decide +kernel
theorem d_Me_isOpenWord_14 : decode b_Me_isOpenWord 14 = .ok (.iand, 1) := by decide +kernel
theorem d_Me_isOpenWord_15 : decode b_Me_isOpenWord 15 = .ok (.aload_n 0, 1) := by decide +kernel
theorem d_Me_isOpenWord_16 : decode b_Me_isOpenWord 16 = .ok (.getfield 10, 3) := by decide +kernel
theorem d_Me_isOpenWord_19 : decode b_Me_isOpenWord 19 = .ok (.iload_n 1, 1) := by decide +kernel
theorem d_Me_isOpenWord_20 : decode b_Me_isOpenWord 20 = .ok (.iconst 2, 1) := by decide +kernel
theorem d_Me_isOpenWord_21 : decode b_Me_isOpenWord 21 = .ok (.iadd, 1) := by decide +kernel
theorem d_Me_isOpenWord_22 : decode b_Me_isOpenWord 22 = .ok (.iaload, 1) := by decide +kernel
theorem d_Me_isOpenWord_23 : decode b_Me_isOpenWord 23 = .ok (.iand, 1) := by decide +kernel
theorem d_Me_isOpenWord_24 : decode b_Me_isOpenWord 24 = .ok (.aload_n 0, 1) := by decide +kernel
theorem d_Me_isOpenWord_25 : decode b_Me_isOpenWord 25 = .ok (.getfield 10, 3) := by decide +kernel
theorem d_Me_isOpenWord_28 : decode b_Me_isOpenWord 28 = .ok (.iload_n 1, 1) := by decide +kernel
theorem d_Me_isOpenWord_29 : decode b_Me_isOpenWord 29 = .ok (.iconst 3, 1) := by decide +kernel
theorem d_Me_isOpenWord_30 : decode b_Me_isOpenWord 30 = .ok (.iadd, 1) := by decide +kernel
theorem d_Me_isOpenWord_31 : decode b_Me_isOpenWord 31 = .ok (.iaload, 1) := by decide +kernel
theorem d_Me_isOpenWord_32 : decode b_Me_isOpenWord 32 = .ok (.iand, 1) := by decide +kernel
theorem d_Me_isOpenWord_33 : decode b_Me_isOpenWord 33 = .ok (.ldc 9, 2) := by decide +kernel
theorem d_Me_isOpenWord_35 : decode b_Me_isOpenWord 35 = .ok (.iand, 1) := by decide +kernel
theorem d_Me_isOpenWord_36 : decode b_Me_isOpenWord 36 = .ok (.ifCond .eq 7, 3) := by decide +kernel
theorem d_Me_isOpenWord_39 : decode b_Me_isOpenWord 39 = .ok (.iconst 1, 1) := by decide +kernel
theorem d_Me_isOpenWord_40 : decode b_Me_isOpenWord 40 = .ok (.goto 4, 3) := by decide +kernel
theorem d_Me_isOpenWord_43 : decode b_Me_isOpenWord 43 = .ok (.iconst 0, 1) := by decide +kernel
theorem d_Me_isOpenWord_44 : decode b_Me_isOpenWord 44 = .ok (.ireturn, 1) := by decide +kernel
def f_Me_isOpenWord (at_ : Nat) (u : S5) : Bool := if (((((aI u 0 at_) &&& (aI u 0 (at_ + 1))) &&& (aI u 0 (at_ + 2))) &&& (aI u 0 (at_ + 3))) &&& (65536 : Int32)) = 0 then false else true
set_option maxHeartbeats 8000000 in
set_option maxRecDepth 100000 in
theorem c_Me_isOpenWord (l : Launch) (dC : Nat → ClassId) (dI : Nat → Nat → Nat) (cI : ClassId) (ad : Nat → Nat) (u : S5) (at_ : Nat) (ha : at_ + 4 ≤ 65536) (sz : Nat) : Met l y_Me_isOpenWord w_Me_isOpenWord rm_Me_isOpenWord (PreW (dC, dI) classes [(cI, .int)] (wC cI ad) u sz [.ref (ad 2), .int (nI at_)]) (QWi (dC, dI) classes [(cI, .int)] (wC cI ad) (va_A (wC cI ad u) sz) (b2i (f_Me_isOpenWord at_ u)) u) 0 0 (va_A (wC cI ad u) sz) := by
  generalize hres : f_Me_isOpenWord at_ u = res
  refine Met.ofW (cc := b_Me_isOpenWord) (maxL := 2) (ret := (some .boolean)) (by decide) rfl ?_
  intro p e s m args below meth c s₁ B hml hv
  obtain ⟨rfl, rfl, hP, hK, hD0⟩ := hv
  have hx := B.exec
  have hb := B.bytes
  have hr := B.returns
  have hts : ∀ w9 ∈ ALLW, w9.before ([.ref (ad 2), .int (nI at_)] : List Value).toArray s = true := fun w9 h => atoms_spec (ws := w_Me_isOpenWord) B.pre w9 (List.mem_cons_of_mem _ h)
  have hown : s.vm.findClass R_Me = some m.cls := findClass_of_methodNamed B.named
  have hlocks := B.notSynchronized
  have hD := hD0.self (sz := s.heap.size)
  generalize hAe : va_A (wC cI ad u) s.heap.size = A at hD ⊢
  have hA : ∀ q : Nat, s.heap.size ≤ q → A q := fun q h => by rw [← hAe]; exact Or.inr h
  have hS : va_S A s.heap s.heap [] := va_S.rf
  have hl := lv_entry ([.ref (ad 2), .int (nI at_)]) (n := 2) (Nat.le_of_ble_eq_true rfl)
  rw [lg_entry_eq]
  generalize (lg_sl ([.ref (ad 2), .int (nI at_)]) ++ List.replicate (2 - (lg_sl ([.ref (ad 2), .int (nI at_)])).length) Slot.unset).toArray = ls at hl ⊢
  have hl : lv_has ls 2 [(0, .ref (ad 2)), (1, .int (nI at_))] := hl
  have hq := hres.symm
  skip
  refine lv_aload_n hx hb d_Me_isOpenWord_0 rfl (lv_at hl 0 rfl) ?_
  refine va_get (D := (dC, dI)) (ci := 2) (v := .ref (ad 8)) (C := R_Me) (T := F_Me) (N := 2) hx hb hts in_Me hown hK hP 2 rfl rfl 0 (by decide) (hts _ m_1_18) (fun _ h9 => h9) rfl d_Me_isOpenWord_1 ?_
  refine lv_iload_n hx hb d_Me_isOpenWord_4 rfl (lv_at hl 1 rfl) ?_
  refine aldC_cells (u := u) (v := aI u 0 at_) hx hb hK hP (by omega) rfl d_Me_isOpenWord_5 ?_
  refine lv_aload_n hx hb d_Me_isOpenWord_6 rfl (lv_at hl 0 rfl) ?_
  refine va_get (D := (dC, dI)) (ci := 2) (v := .ref (ad 8)) (C := R_Me) (T := F_Me) (N := 2) hx hb hts in_Me hown hK hP 2 rfl rfl 0 (by decide) (hts _ m_1_18) (fun _ h9 => h9) rfl d_Me_isOpenWord_7 ?_
  refine lv_iload_n hx hb d_Me_isOpenWord_10 rfl (lv_at hl 1 rfl) ?_
  refine lv_iconst (v := nI 1) hx hb d_Me_isOpenWord_11 (by decide) ?_
  refine lv_iadd hx hb d_Me_isOpenWord_12 ?_
  refine rw_top (y := nI (at_ + 1)) (nI_add at_ 1) ?_
  refine aldC_cells (u := u) (v := aI u 0 (at_ + 1)) hx hb hK hP (by omega) rfl d_Me_isOpenWord_13 ?_
  refine lv_iand hx hb d_Me_isOpenWord_14 ?_
  refine lv_aload_n hx hb d_Me_isOpenWord_15 rfl (lv_at hl 0 rfl) ?_
  refine va_get (D := (dC, dI)) (ci := 2) (v := .ref (ad 8)) (C := R_Me) (T := F_Me) (N := 2) hx hb hts in_Me hown hK hP 2 rfl rfl 0 (by decide) (hts _ m_1_18) (fun _ h9 => h9) rfl d_Me_isOpenWord_16 ?_
  refine lv_iload_n hx hb d_Me_isOpenWord_19 rfl (lv_at hl 1 rfl) ?_
  refine lv_iconst (v := nI 2) hx hb d_Me_isOpenWord_20 (by decide) ?_
  refine lv_iadd hx hb d_Me_isOpenWord_21 ?_
  refine rw_top (y := nI (at_ + 2)) (nI_add at_ 2) ?_
  refine aldC_cells (u := u) (v := aI u 0 (at_ + 2)) hx hb hK hP (by omega) rfl d_Me_isOpenWord_22 ?_
  refine lv_iand hx hb d_Me_isOpenWord_23 ?_
  refine lv_aload_n hx hb d_Me_isOpenWord_24 rfl (lv_at hl 0 rfl) ?_
  refine va_get (D := (dC, dI)) (ci := 2) (v := .ref (ad 8)) (C := R_Me) (T := F_Me) (N := 2) hx hb hts in_Me hown hK hP 2 rfl rfl 0 (by decide) (hts _ m_1_18) (fun _ h9 => h9) rfl d_Me_isOpenWord_25 ?_
  refine lv_iload_n hx hb d_Me_isOpenWord_28 rfl (lv_at hl 1 rfl) ?_
  refine lv_iconst (v := nI 3) hx hb d_Me_isOpenWord_29 (by decide) ?_
  refine lv_iadd hx hb d_Me_isOpenWord_30 ?_
  refine rw_top (y := nI (at_ + 3)) (nI_add at_ 3) ?_
  refine aldC_cells (u := u) (v := aI u 0 (at_ + 3)) hx hb hK hP (by omega) rfl d_Me_isOpenWord_31 ?_
  refine lv_iand hx hb d_Me_isOpenWord_32 ?_
  refine lv_ldc (v := 65536) hx hb hown (hts _ m_0_34) d_Me_isOpenWord_33 ?_
  refine lv_iand hx hb d_Me_isOpenWord_35 ?_
  refine lv_if_eq (tgt := 43) hx hb d_Me_isOpenWord_36 (by decide) (fun c1 => ?_) (fun c1 => ?_)
  · skip
    refine lv_iconst (v := 0) hx hb d_Me_isOpenWord_43 (by decide) ?_
    have hE : res = false := hq.trans ((if_pos c1).trans rfl)
    exact retWb (x := false) hx hb hr hP hK hD hS hE.symm rfl d_Me_isOpenWord_44 hlocks
  · skip
    refine lv_iconst (v := 1) hx hb d_Me_isOpenWord_39 (by decide) ?_
    refine lv_goto (tgt := 44) hx hb d_Me_isOpenWord_40 (by decide) ?_
    have hE : res = true := hq.trans ((if_neg c1).trans rfl)
    exact retWb (x := true) hx hb hr hP hK hD hS hE.symm rfl d_Me_isOpenWord_44 hlocks
def w_Me_isGivenWord : List Cond := .code y_Me_isGivenWord b_Me_isGivenWord 2 (some .boolean) :: ALLW
def rm_Me_isGivenWord : Room := { frames := 20, cells := 0, slots := 0, locals := 600 }
theorem d_Me_isGivenWord_0 : decode b_Me_isGivenWord 0 = .ok (.aload_n 0, 1) := by decide +kernel
theorem d_Me_isGivenWord_1 : decode b_Me_isGivenWord 1 = .ok (.getfield 10, 3) := by decide +kernel
theorem d_Me_isGivenWord_4 : decode b_Me_isGivenWord 4 = .ok (.iload_n 1, 1) := by decide +kernel
theorem d_Me_isGivenWord_5 : decode b_Me_isGivenWord 5 = .ok (.iaload, 1) := by decide +kernel
theorem d_Me_isGivenWord_6 : decode b_Me_isGivenWord 6 = .ok (.aload_n 0, 1) := by decide +kernel
theorem d_Me_isGivenWord_7 : decode b_Me_isGivenWord 7 = .ok (.getfield 10, 3) := by decide +kernel
theorem d_Me_isGivenWord_10 : decode b_Me_isGivenWord 10 = .ok (.iload_n 1, 1) := by decide +kernel
theorem d_Me_isGivenWord_11 : decode b_Me_isGivenWord 11 = .ok (.iconst 1, 1) := by decide +kernel
theorem d_Me_isGivenWord_12 : decode b_Me_isGivenWord 12 = .ok (.iadd, 1) := by decide +kernel
theorem d_Me_isGivenWord_13 : decode b_Me_isGivenWord 13 = .ok (.iaload, 1) := by decide +kernel
theorem d_Me_isGivenWord_14 : decode b_Me_isGivenWord 14 = .ok (.ior, 1) := by decide +kernel
theorem d_Me_isGivenWord_15 : decode b_Me_isGivenWord 15 = .ok (.aload_n 0, 1) := by decide +kernel
theorem d_Me_isGivenWord_16 : decode b_Me_isGivenWord 16 = .ok (.getfield 10, 3) := by decide +kernel
theorem d_Me_isGivenWord_19 : decode b_Me_isGivenWord 19 = .ok (.iload_n 1, 1) := by decide +kernel
theorem d_Me_isGivenWord_20 : decode b_Me_isGivenWord 20 = .ok (.iconst 2, 1) := by decide +kernel
theorem d_Me_isGivenWord_21 : decode b_Me_isGivenWord 21 = .ok (.iadd, 1) := by decide +kernel
theorem d_Me_isGivenWord_22 : decode b_Me_isGivenWord 22 = .ok (.iaload, 1) := by decide +kernel
theorem d_Me_isGivenWord_23 : decode b_Me_isGivenWord 23 = .ok (.ior, 1) := by decide +kernel
theorem d_Me_isGivenWord_24 : decode b_Me_isGivenWord 24 = .ok (.aload_n 0, 1) := by decide +kernel
theorem d_Me_isGivenWord_25 : decode b_Me_isGivenWord 25 = .ok (.getfield 10, 3) := by decide +kernel
theorem d_Me_isGivenWord_28 : decode b_Me_isGivenWord 28 = .ok (.iload_n 1, 1) := by decide +kernel
theorem d_Me_isGivenWord_29 : decode b_Me_isGivenWord 29 = .ok (.iconst 3, 1) := by decide +kernel
theorem d_Me_isGivenWord_30 : decode b_Me_isGivenWord 30 = .ok (.iadd, 1) := by decide +kernel
theorem d_Me_isGivenWord_31 : decode b_Me_isGivenWord 31 = .ok (.iaload, 1) := by decide +kernel
theorem d_Me_isGivenWord_32 : decode b_Me_isGivenWord 32 = .ok (.ior, 1) := by decide +kernel
theorem d_Me_isGivenWord_33 : decode b_Me_isGivenWord 33 = .ok (.ldc 39, 2) := by decide +kernel
theorem d_Me_isGivenWord_35 : decode b_Me_isGivenWord 35 = .ok (.iand, 1) := by decide +kernel
theorem d_Me_isGivenWord_36 : decode b_Me_isGivenWord 36 = .ok (.ifCond .ne 7, 3) := by decide +kernel
theorem d_Me_isGivenWord_39 : decode b_Me_isGivenWord 39 = .ok (.iconst 1, 1) := by decide +kernel
theorem d_Me_isGivenWord_40 : decode b_Me_isGivenWord 40 = .ok (.goto 4, 3) := by decide +kernel
theorem d_Me_isGivenWord_43 : decode b_Me_isGivenWord 43 = .ok (.iconst 0, 1) := by decide +kernel
theorem d_Me_isGivenWord_44 : decode b_Me_isGivenWord 44 = .ok (.ireturn, 1) := by decide +kernel
def f_Me_isGivenWord (at_ : Nat) (u : S5) : Bool := if (((((aI u 0 at_) ||| (aI u 0 (at_ + 1))) ||| (aI u 0 (at_ + 2))) ||| (aI u 0 (at_ + 3))) &&& (65280 : Int32)) = 0 then true else false
set_option maxHeartbeats 8000000 in
set_option maxRecDepth 100000 in
theorem c_Me_isGivenWord (l : Launch) (dC : Nat → ClassId) (dI : Nat → Nat → Nat) (cI : ClassId) (ad : Nat → Nat) (u : S5) (at_ : Nat) (ha : at_ + 4 ≤ 65536) (sz : Nat) : Met l y_Me_isGivenWord w_Me_isGivenWord rm_Me_isGivenWord (PreW (dC, dI) classes [(cI, .int)] (wC cI ad) u sz [.ref (ad 2), .int (nI at_)]) (QWi (dC, dI) classes [(cI, .int)] (wC cI ad) (va_A (wC cI ad u) sz) (b2i (f_Me_isGivenWord at_ u)) u) 0 0 (va_A (wC cI ad u) sz) := by
  generalize hres : f_Me_isGivenWord at_ u = res
  refine Met.ofW (cc := b_Me_isGivenWord) (maxL := 2) (ret := (some .boolean)) (by decide) rfl ?_
  intro p e s m args below meth c s₁ B hml hv
  obtain ⟨rfl, rfl, hP, hK, hD0⟩ := hv
  have hx := B.exec
  have hb := B.bytes
  have hr := B.returns
  have hts : ∀ w9 ∈ ALLW, w9.before ([.ref (ad 2), .int (nI at_)] : List Value).toArray s = true := fun w9 h => atoms_spec (ws := w_Me_isGivenWord) B.pre w9 (List.mem_cons_of_mem _ h)
  have hown : s.vm.findClass R_Me = some m.cls := findClass_of_methodNamed B.named
  have hlocks := B.notSynchronized
  have hD := hD0.self (sz := s.heap.size)
  generalize hAe : va_A (wC cI ad u) s.heap.size = A at hD ⊢
  have hA : ∀ q : Nat, s.heap.size ≤ q → A q := fun q h => by rw [← hAe]; exact Or.inr h
  have hS : va_S A s.heap s.heap [] := va_S.rf
  have hl := lv_entry ([.ref (ad 2), .int (nI at_)]) (n := 2) (Nat.le_of_ble_eq_true rfl)
  rw [lg_entry_eq]
  generalize (lg_sl ([.ref (ad 2), .int (nI at_)]) ++ List.replicate (2 - (lg_sl ([.ref (ad 2), .int (nI at_)])).length) Slot.unset).toArray = ls at hl ⊢
  have hl : lv_has ls 2 [(0, .ref (ad 2)), (1, .int (nI at_))] := hl
  have hq := hres.symm
  skip
  refine lv_aload_n hx hb d_Me_isGivenWord_0 rfl (lv_at hl 0 rfl) ?_
  refine va_get (D := (dC, dI)) (ci := 2) (v := .ref (ad 8)) (C := R_Me) (T := F_Me) (N := 2) hx hb hts in_Me hown hK hP 2 rfl rfl 0 (by decide) (hts _ m_1_18) (fun _ h9 => h9) rfl d_Me_isGivenWord_1 ?_
  refine lv_iload_n hx hb d_Me_isGivenWord_4 rfl (lv_at hl 1 rfl) ?_
  refine aldC_cells (u := u) (v := aI u 0 at_) hx hb hK hP (by omega) rfl d_Me_isGivenWord_5 ?_
  refine lv_aload_n hx hb d_Me_isGivenWord_6 rfl (lv_at hl 0 rfl) ?_
  refine va_get (D := (dC, dI)) (ci := 2) (v := .ref (ad 8)) (C := R_Me) (T := F_Me) (N := 2) hx hb hts in_Me hown hK hP 2 rfl rfl 0 (by decide) (hts _ m_1_18) (fun _ h9 => h9) rfl d_Me_isGivenWord_7 ?_
  refine lv_iload_n hx hb d_Me_isGivenWord_10 rfl (lv_at hl 1 rfl) ?_
  refine lv_iconst (v := nI 1) hx hb d_Me_isGivenWord_11 (by decide) ?_
  refine lv_iadd hx hb d_Me_isGivenWord_12 ?_
  refine rw_top (y := nI (at_ + 1)) (nI_add at_ 1) ?_
  refine aldC_cells (u := u) (v := aI u 0 (at_ + 1)) hx hb hK hP (by omega) rfl d_Me_isGivenWord_13 ?_
  refine lv_ior hx hb d_Me_isGivenWord_14 ?_
  refine lv_aload_n hx hb d_Me_isGivenWord_15 rfl (lv_at hl 0 rfl) ?_
  refine va_get (D := (dC, dI)) (ci := 2) (v := .ref (ad 8)) (C := R_Me) (T := F_Me) (N := 2) hx hb hts in_Me hown hK hP 2 rfl rfl 0 (by decide) (hts _ m_1_18) (fun _ h9 => h9) rfl d_Me_isGivenWord_16 ?_
  refine lv_iload_n hx hb d_Me_isGivenWord_19 rfl (lv_at hl 1 rfl) ?_
  refine lv_iconst (v := nI 2) hx hb d_Me_isGivenWord_20 (by decide) ?_
  refine lv_iadd hx hb d_Me_isGivenWord_21 ?_
  refine rw_top (y := nI (at_ + 2)) (nI_add at_ 2) ?_
  refine aldC_cells (u := u) (v := aI u 0 (at_ + 2)) hx hb hK hP (by omega) rfl d_Me_isGivenWord_22 ?_
  refine lv_ior hx hb d_Me_isGivenWord_23 ?_
  refine lv_aload_n hx hb d_Me_isGivenWord_24 rfl (lv_at hl 0 rfl) ?_
  refine va_get (D := (dC, dI)) (ci := 2) (v := .ref (ad 8)) (C := R_Me) (T := F_Me) (N := 2) hx hb hts in_Me hown hK hP 2 rfl rfl 0 (by decide) (hts _ m_1_18) (fun _ h9 => h9) rfl d_Me_isGivenWord_25 ?_
  refine lv_iload_n hx hb d_Me_isGivenWord_28 rfl (lv_at hl 1 rfl) ?_
  refine lv_iconst (v := nI 3) hx hb d_Me_isGivenWord_29 (by decide) ?_
  refine lv_iadd hx hb d_Me_isGivenWord_30 ?_
  refine rw_top (y := nI (at_ + 3)) (nI_add at_ 3) ?_
  refine aldC_cells (u := u) (v := aI u 0 (at_ + 3)) hx hb hK hP (by omega) rfl d_Me_isGivenWord_31 ?_
  refine lv_ior hx hb d_Me_isGivenWord_32 ?_
  refine lv_ldc (v := 65280) hx hb hown (hts _ m_10_31) d_Me_isGivenWord_33 ?_
  refine lv_iand hx hb d_Me_isGivenWord_35 ?_
  refine lv_if_ne (tgt := 43) hx hb d_Me_isGivenWord_36 (by decide) (fun c1 => ?_) (fun c1 => ?_)
  · skip
    refine lv_iconst (v := 0) hx hb d_Me_isGivenWord_43 (by decide) ?_
    have hE : res = false := hq.trans ((if_neg c1).trans rfl)
    exact retWb (x := false) hx hb hr hP hK hD hS hE.symm rfl d_Me_isGivenWord_44 hlocks
  · skip
    refine lv_iconst (v := 1) hx hb d_Me_isGivenWord_39 (by decide) ?_
    refine lv_goto (tgt := 44) hx hb d_Me_isGivenWord_40 (by decide) ?_
    have hE : res = true := hq.trans ((if_pos c1).trans rfl)
    exact retWb (x := true) hx hb hr hP hK hD hS hE.symm rfl d_Me_isGivenWord_44 hlocks
def w_Me_firstShut : List Cond := .code y_Me_firstShut b_Me_firstShut 4 (some .int) :: ALLW
def rm_Me_firstShut : Room := { frames := 20, cells := 0, slots := 0, locals := 600 }
theorem d_Me_firstShut_0 : decode b_Me_firstShut 0 = .ok (.iconst 0, 1) := by decide +kernel
theorem d_Me_firstShut_1 : decode b_Me_firstShut 1 = .ok (.istore_n 3, 1) := by decide +kernel
theorem d_Me_firstShut_2 : decode b_Me_firstShut 2 = .ok (.iload_n 3, 1) := by decide +kernel
theorem d_Me_firstShut_3 : decode b_Me_firstShut 3 = .ok (.iload_n 2, 1) := by decide +kernel
theorem d_Me_firstShut_4 : decode b_Me_firstShut 4 = .ok (.if_icmp .ge 27, 3) := by decide +kernel
theorem d_Me_firstShut_7 : decode b_Me_firstShut 7 = .ok (.aload_n 0, 1) := by decide +kernel
theorem d_Me_firstShut_8 : decode b_Me_firstShut 8 = .ok (.getfield 10, 3) := by decide +kernel
theorem d_Me_firstShut_11 : decode b_Me_firstShut 11 = .ok (.iload_n 1, 1) := by decide +kernel
theorem d_Me_firstShut_12 : decode b_Me_firstShut 12 = .ok (.iload_n 3, 1) := by decide +kernel
theorem d_Me_firstShut_13 : decode b_Me_firstShut 13 = .ok (.iadd, 1) := by decide +kernel
theorem d_Me_firstShut_14 : decode b_Me_firstShut 14 = .ok (.iaload, 1) := by decide +kernel
theorem d_Me_firstShut_15 : decode b_Me_firstShut 15 = .ok (.ldc 9, 2) := by decide +kernel
theorem d_Me_firstShut_17 : decode b_Me_firstShut 17 = .ok (.iand, 1) := by decide +kernel
theorem d_Me_firstShut_18 : decode b_Me_firstShut 18 = .ok (.ifCond .ne 7, 3) := by decide +kernel
theorem d_Me_firstShut_21 : decode b_Me_firstShut 21 = .ok (.iload_n 1, 1) := by decide +kernel
theorem d_Me_firstShut_22 : decode b_Me_firstShut 22 = .ok (.iload_n 3, 1) := by decide +kernel
theorem d_Me_firstShut_23 : decode b_Me_firstShut 23 = .ok (.iadd, 1) := by decide +kernel
theorem d_Me_firstShut_24 : decode b_Me_firstShut 24 = .ok (.ireturn, 1) := by decide +kernel
theorem d_Me_firstShut_25 : decode b_Me_firstShut 25 = .ok (.iinc 3 1, 3) := by decide +kernel
theorem d_Me_firstShut_28 : decode b_Me_firstShut 28 = .ok (.goto (-26), 3) := by decide +kernel
theorem d_Me_firstShut_31 : decode b_Me_firstShut 31 = .ok (.iconst (-1), 1) := by decide +kernel
theorem d_Me_firstShut_32 : decode b_Me_firstShut 32 = .ok (.ireturn, 1) := by decide +kernel
def f_Me_firstShut_2 (at_ : Nat) (n : Nat) (u : S5) : Nat → Nat → Int32
  | 0, i => 0
  | k2 + 1, i => if i < n then (if ((aI u 0 (at_ + i)) &&& (65536 : Int32)) = 0 then nI (at_ + i) else f_Me_firstShut_2 at_ n u k2 (i + 1)) else (-1)
def f_Me_firstShut (at_ : Nat) (n : Nat) (u : S5) : Int32 := f_Me_firstShut_2 at_ n u (n + 1) 0
set_option maxHeartbeats 8000000 in
set_option maxRecDepth 100000 in
theorem c_Me_firstShut (l : Launch) (dC : Nat → ClassId) (dI : Nat → Nat → Nat) (cI : ClassId) (ad : Nat → Nat) (u : S5) (at_ : Nat) (n : Nat) (ha : at_ + n ≤ 65536) (sz : Nat) : Met l y_Me_firstShut w_Me_firstShut rm_Me_firstShut (PreW (dC, dI) classes [(cI, .int)] (wC cI ad) u sz [.ref (ad 2), .int (nI at_), .int (nI n)]) (QWi (dC, dI) classes [(cI, .int)] (wC cI ad) (va_A (wC cI ad u) sz) (f_Me_firstShut at_ n u) u) 0 0 (va_A (wC cI ad u) sz) := by
  generalize hres : f_Me_firstShut at_ n u = res
  refine Met.ofW (cc := b_Me_firstShut) (maxL := 4) (ret := (some .int)) (by decide) rfl ?_
  intro p e s m args below meth c s₁ B hml hv
  obtain ⟨rfl, rfl, hP, hK, hD0⟩ := hv
  have hx := B.exec
  have hb := B.bytes
  have hr := B.returns
  have hts : ∀ w9 ∈ ALLW, w9.before ([.ref (ad 2), .int (nI at_), .int (nI n)] : List Value).toArray s = true := fun w9 h => atoms_spec (ws := w_Me_firstShut) B.pre w9 (List.mem_cons_of_mem _ h)
  have hown : s.vm.findClass R_Me = some m.cls := findClass_of_methodNamed B.named
  have hlocks := B.notSynchronized
  have hD := hD0.self (sz := s.heap.size)
  generalize hAe : va_A (wC cI ad u) s.heap.size = A at hD ⊢
  have hA : ∀ q : Nat, s.heap.size ≤ q → A q := fun q h => by rw [← hAe]; exact Or.inr h
  have hS : va_S A s.heap s.heap [] := va_S.rf
  have hl := lv_entry ([.ref (ad 2), .int (nI at_), .int (nI n)]) (n := 4) (Nat.le_of_ble_eq_true rfl)
  rw [lg_entry_eq]
  generalize (lg_sl ([.ref (ad 2), .int (nI at_), .int (nI n)]) ++ List.replicate (4 - (lg_sl ([.ref (ad 2), .int (nI at_), .int (nI n)])).length) Slot.unset).toArray = ls at hl ⊢
  have hl : lv_has ls 4 [(0, .ref (ad 2)), (1, .int (nI at_)), (2, .int (nI n))] := hl
  have hq := hres.symm
  skip
  refine lv_iconst (v := nI 0) hx hb d_Me_firstShut_0 (by decide) ?_
  refine lv_istore_n (lv' := [(3, .int (nI 0)), (0, .ref (ad 2)), (1, .int (nI at_)), (2, .int (nI n))]) hx hb d_Me_firstShut_1 rfl hl (by decide) rfl (fun ls hl => ?_)
  have L2 : ∀ (k : Nat) (i : Nat) (H : Heap) (locs : List Loc) (ls : Array Slot), (i ≤ n) → (n - i) < k → res = f_Me_firstShut_2 at_ n u k i → va_P (dC, dI) classes (wC cI ad u) H → va_D A (wC cI ad u) → va_S A s.heap H locs → lv_has ls 4 [(3, .int (nI i)), (0, .ref (ad 2)), (1, .int (nI at_)), (2, .int (nI n))] → W p l e (headSpec w_Me_firstShut rm_Me_firstShut).room s m ([.ref (ad 2), .int (nI at_), .int (nI n)] : List Value).toArray below meth c H locs 0 0 (MQ below (QWi (dC, dI) classes [(cI, .int)] (wC cI ad) A res u) ([.ref (ad 2), .int (nI at_), .int (nI n)] : List Value).toArray s 0 0 A) (F0 m 2 ls []) := by
    intro k
    induction k with
    | zero => intro i H locs ls hi hm; exact absurd hm (Nat.not_lt_zero _)
    | succ k2 ih2 =>
      intro i H locs ls hi hm hq2 hP hD hS hl
      refine lv_iload_n hx hb d_Me_firstShut_2 rfl (lv_at hl 0 rfl) ?_
      refine lv_iload_n hx hb d_Me_firstShut_3 rfl (lv_at hl 3 rfl) ?_
      refine rn_ge (tgt := 31) hx hb (by omega) (by omega) d_Me_firstShut_4 (by decide) (fun c1 => ?_) (fun c1 => ?_)
      · skip
        refine lv_iconst (v := (-1)) hx hb d_Me_firstShut_31 (by decide) ?_
        have hE : res = (-1) := hq2.trans ((if_neg (Nat.not_lt.mpr c1)).trans rfl)
        exact retWi (x := (-1)) hx hb hr hP hK hD hS hE.symm rfl d_Me_firstShut_32 hlocks
      · skip
        refine lv_aload_n hx hb d_Me_firstShut_7 rfl (lv_at hl 1 rfl) ?_
        refine va_get (D := (dC, dI)) (ci := 2) (v := .ref (ad 8)) (C := R_Me) (T := F_Me) (N := 2) hx hb hts in_Me hown hK hP 2 rfl rfl 0 (by decide) (hts _ m_1_18) (fun _ h9 => h9) rfl d_Me_firstShut_8 ?_
        refine lv_iload_n hx hb d_Me_firstShut_11 rfl (lv_at hl 2 rfl) ?_
        refine lv_iload_n hx hb d_Me_firstShut_12 rfl (lv_at hl 0 rfl) ?_
        refine lv_iadd hx hb d_Me_firstShut_13 ?_
        refine rw_top (y := nI (at_ + i)) (nI_add at_ i) ?_
        refine aldC_cells (u := u) (v := aI u 0 (at_ + i)) hx hb hK hP (by omega) rfl d_Me_firstShut_14 ?_
        refine lv_ldc (v := 65536) hx hb hown (hts _ m_0_34) d_Me_firstShut_15 ?_
        refine lv_iand hx hb d_Me_firstShut_17 ?_
        refine lv_if_ne (tgt := 25) hx hb d_Me_firstShut_18 (by decide) (fun c2 => ?_) (fun c2 => ?_)
        · skip
          refine lv_iinc (v := nI (i + 1)) (lv' := [(3, .int (nI (i + 1))), (0, .ref (ad 2)), (1, .int (nI at_)), (2, .int (nI n))]) hx hb d_Me_firstShut_25 hl (k := 0) rfl (rn_inc i 1 (by decide)) (by decide) rfl (fun ls hl => ?_)
          refine lv_goto (tgt := 2) hx hb d_Me_firstShut_28 (by decide) ?_
          exact ih2 (i + 1) _ _ _ (by first | assumption | omega) (by omega) (hq2.trans ((if_pos c1).trans ((if_neg c2).trans rfl))) hP hD hS (lv_sub hl [0, 1, 2, 3] rfl)
        · skip
          refine lv_iload_n hx hb d_Me_firstShut_21 rfl (lv_at hl 2 rfl) ?_
          refine lv_iload_n hx hb d_Me_firstShut_22 rfl (lv_at hl 0 rfl) ?_
          refine lv_iadd hx hb d_Me_firstShut_23 ?_
          refine rw_top (y := nI (at_ + i)) (nI_add at_ i) ?_
          have hE : res = nI (at_ + i) := hq2.trans ((if_pos c1).trans ((if_pos c2).trans rfl))
          exact retWi (x := nI (at_ + i)) hx hb hr hP hK hD hS hE.symm rfl d_Me_firstShut_24 hlocks
  exact L2 (n + 1) 0 _ _ _ (by first | assumption | omega) (by omega) (hq.trans (rfl)) hP hD hS (lv_sub hl [0, 1, 2, 3] rfl)
def w_Me_read : List Cond := .code y_Me_read b_Me_read 5 (some .int) :: ALLW
def rm_Me_read : Room := { frames := 20, cells := 0, slots := 0, locals := 600 }
theorem d_Me_read_0 : decode b_Me_read 0 = .ok (.iconst 0, 1) := by decide +kernel
theorem d_Me_read_1 : decode b_Me_read 1 = .ok (.istore_n 3, 1) := by decide +kernel
theorem d_Me_read_2 : decode b_Me_read 2 = .ok (.iconst 0, 1) := by decide +kernel
theorem d_Me_read_3 : decode b_Me_read 3 = .ok (.istore 4, 2) := by decide +kernel
theorem d_Me_read_5 : decode b_Me_read 5 = .ok (.iload 4, 2) := by decide +kernel
theorem d_Me_read_7 : decode b_Me_read 7 = .ok (.iload_n 2, 1) := by decide +kernel
theorem d_Me_read_8 : decode b_Me_read 8 = .ok (.if_icmp .ge 31, 3) := by decide +kernel
theorem d_Me_read_11 : decode b_Me_read 11 = .ok (.iload_n 3, 1) := by decide +kernel
theorem d_Me_read_12 : decode b_Me_read 12 = .ok (.aload_n 0, 1) := by decide +kernel
theorem d_Me_read_13 : decode b_Me_read 13 = .ok (.getfield 10, 3) := by decide +kernel
theorem d_Me_read_16 : decode b_Me_read 16 = .ok (.iload_n 1, 1) := by decide +kernel
theorem d_Me_read_17 : decode b_Me_read 17 = .ok (.iload 4, 2) := by decide +kernel
theorem d_Me_read_19 : decode b_Me_read 19 = .ok (.iadd, 1) := by decide +kernel
theorem d_Me_read_20 : decode b_Me_read 20 = .ok (.iaload, 1) := by decide +kernel
theorem d_Me_read_21 : decode b_Me_read 21 = .ok (.sipush 255, 3) := by decide +kernel
theorem d_Me_read_24 : decode b_Me_read 24 = .ok (.iand, 1) := by decide +kernel
theorem d_Me_read_25 : decode b_Me_read 25 = .ok (.bipush 8, 2) := by decide +kernel
theorem d_Me_read_27 : decode b_Me_read 27 = .ok (.iload 4, 2) := by decide +kernel
theorem d_Me_read_29 : decode b_Me_read 29 = .ok (.imul, 1) := by decide +kernel
theorem d_Me_read_30 : decode b_Me_read 30 = .ok (.ishl, 1) := by decide +kernel
theorem d_Me_read_31 : decode b_Me_read 31 = .ok (.ior, 1) := by decide +kernel
theorem d_Me_read_32 : decode b_Me_read 32 = .ok (.istore_n 3, 1) := by decide +kernel
theorem d_Me_read_33 : decode b_Me_read 33 = .ok (.iinc 4 1, 3) := by decide +kernel
theorem d_Me_read_36 : decode b_Me_read 36 = .ok (.goto (-31), 3) := by decide +kernel
theorem d_Me_read_39 : decode b_Me_read 39 = .ok (.iload_n 3, 1) := by decide +kernel
theorem d_Me_read_40 : decode b_Me_read 40 = .ok (.ireturn, 1) := by decide +kernel
def f_Me_read_5 (at_ : Nat) (n : Nat) (u : S5) : Nat → Nat → Int32 → Int32
  | 0, i, v => 0
  | k5 + 1, i, v => if i < n then f_Me_read_5 at_ n u k5 (i + 1) (v ||| (((aI u 0 (at_ + i)) &&& (255 : Int32)) <<< ((nI (8 * i)) &&& 31))) else v
def f_Me_read (at_ : Nat) (n : Nat) (u : S5) : Int32 := f_Me_read_5 at_ n u (n + 1) 0 0
set_option maxHeartbeats 8000000 in
set_option maxRecDepth 100000 in
theorem c_Me_read (l : Launch) (dC : Nat → ClassId) (dI : Nat → Nat → Nat) (cI : ClassId) (ad : Nat → Nat) (u : S5) (at_ : Nat) (n : Nat) (ha : at_ + n ≤ 65536) (sz : Nat) : Met l y_Me_read w_Me_read rm_Me_read (PreW (dC, dI) classes [(cI, .int)] (wC cI ad) u sz [.ref (ad 2), .int (nI at_), .int (nI n)]) (QWi (dC, dI) classes [(cI, .int)] (wC cI ad) (va_A (wC cI ad u) sz) (f_Me_read at_ n u) u) 0 0 (va_A (wC cI ad u) sz) := by
  generalize hres : f_Me_read at_ n u = res
  refine Met.ofW (cc := b_Me_read) (maxL := 5) (ret := (some .int)) (by decide) rfl ?_
  intro p e s m args below meth c s₁ B hml hv
  obtain ⟨rfl, rfl, hP, hK, hD0⟩ := hv
  have hx := B.exec
  have hb := B.bytes
  have hr := B.returns
  have hts : ∀ w9 ∈ ALLW, w9.before ([.ref (ad 2), .int (nI at_), .int (nI n)] : List Value).toArray s = true := fun w9 h => atoms_spec (ws := w_Me_read) B.pre w9 (List.mem_cons_of_mem _ h)
  have hown : s.vm.findClass R_Me = some m.cls := findClass_of_methodNamed B.named
  have hlocks := B.notSynchronized
  have hD := hD0.self (sz := s.heap.size)
  generalize hAe : va_A (wC cI ad u) s.heap.size = A at hD ⊢
  have hA : ∀ q : Nat, s.heap.size ≤ q → A q := fun q h => by rw [← hAe]; exact Or.inr h
  have hS : va_S A s.heap s.heap [] := va_S.rf
  have hl := lv_entry ([.ref (ad 2), .int (nI at_), .int (nI n)]) (n := 5) (Nat.le_of_ble_eq_true rfl)
  rw [lg_entry_eq]
  generalize (lg_sl ([.ref (ad 2), .int (nI at_), .int (nI n)]) ++ List.replicate (5 - (lg_sl ([.ref (ad 2), .int (nI at_), .int (nI n)])).length) Slot.unset).toArray = ls at hl ⊢
  have hl : lv_has ls 5 [(0, .ref (ad 2)), (1, .int (nI at_)), (2, .int (nI n))] := hl
  have hq := hres.symm
  skip
  refine lv_iconst (v := 0) hx hb d_Me_read_0 (by decide) ?_
  refine lv_istore_n (lv' := [(3, .int 0), (0, .ref (ad 2)), (1, .int (nI at_)), (2, .int (nI n))]) hx hb d_Me_read_1 rfl hl (by decide) rfl (fun ls hl => ?_)
  refine lv_iconst (v := nI 0) hx hb d_Me_read_2 (by decide) ?_
  refine lv_istore (lv' := [(4, .int (nI 0)), (3, .int 0), (0, .ref (ad 2)), (1, .int (nI at_)), (2, .int (nI n))]) hx hb d_Me_read_3 hl (by decide) rfl (fun ls hl => ?_)
  have L5 : ∀ (k : Nat) (i : Nat) (v : Int32) (H : Heap) (locs : List Loc) (ls : Array Slot), (i ≤ n) → (n - i) < k → res = f_Me_read_5 at_ n u k i v → va_P (dC, dI) classes (wC cI ad u) H → va_D A (wC cI ad u) → va_S A s.heap H locs → lv_has ls 5 [(4, .int (nI i)), (3, .int v), (0, .ref (ad 2)), (1, .int (nI at_)), (2, .int (nI n))] → W p l e (headSpec w_Me_read rm_Me_read).room s m ([.ref (ad 2), .int (nI at_), .int (nI n)] : List Value).toArray below meth c H locs 0 0 (MQ below (QWi (dC, dI) classes [(cI, .int)] (wC cI ad) A res u) ([.ref (ad 2), .int (nI at_), .int (nI n)] : List Value).toArray s 0 0 A) (F0 m 5 ls []) := by
    intro k
    induction k with
    | zero => intro i v H locs ls hi hm; exact absurd hm (Nat.not_lt_zero _)
    | succ k5 ih5 =>
      intro i v H locs ls hi hm hq5 hP hD hS hl
      refine lv_iload hx hb d_Me_read_5 (lv_at hl 0 rfl) ?_
      refine lv_iload_n hx hb d_Me_read_7 rfl (lv_at hl 4 rfl) ?_
      refine rn_ge (tgt := 39) hx hb (by omega) (by omega) d_Me_read_8 (by decide) (fun c1 => ?_) (fun c1 => ?_)
      · skip
        refine lv_iload_n hx hb d_Me_read_39 rfl (lv_at hl 1 rfl) ?_
        have hE : res = v := hq5.trans ((if_neg (Nat.not_lt.mpr c1)).trans rfl)
        exact retWi (x := v) hx hb hr hP hK hD hS hE.symm rfl d_Me_read_40 hlocks
      · skip
        refine lv_iload_n hx hb d_Me_read_11 rfl (lv_at hl 1 rfl) ?_
        refine lv_aload_n hx hb d_Me_read_12 rfl (lv_at hl 2 rfl) ?_
        refine va_get (D := (dC, dI)) (ci := 2) (v := .ref (ad 8)) (C := R_Me) (T := F_Me) (N := 2) hx hb hts in_Me hown hK hP 2 rfl rfl 0 (by decide) (hts _ m_1_18) (fun _ h9 => h9) rfl d_Me_read_13 ?_
        refine lv_iload_n hx hb d_Me_read_16 rfl (lv_at hl 3 rfl) ?_
        refine lv_iload hx hb d_Me_read_17 (lv_at hl 0 rfl) ?_
        refine lv_iadd hx hb d_Me_read_19 ?_
        refine rw_top (y := nI (at_ + i)) (nI_add at_ i) ?_
        refine aldC_cells (u := u) (v := aI u 0 (at_ + i)) hx hb hK hP (by omega) rfl d_Me_read_20 ?_
        refine lv_sipush (v := 255) hx hb d_Me_read_21 (by decide) ?_
        refine lv_iand hx hb d_Me_read_24 ?_
        refine lv_bipush (v := nI 8) hx hb d_Me_read_25 (by decide) ?_
        refine lv_iload hx hb d_Me_read_27 (lv_at hl 0 rfl) ?_
        refine lv_imul hx hb d_Me_read_29 ?_
        refine rw_top (y := nI (8 * i)) (pk_mul 8 i) ?_
        refine lv_ishl hx hb d_Me_read_30 ?_
        refine lv_ior hx hb d_Me_read_31 ?_
        refine lv_istore_n (lv' := [(3, .int (v ||| (((aI u 0 (at_ + i)) &&& (255 : Int32)) <<< ((nI (8 * i)) &&& 31)))), (4, .int (nI i)), (0, .ref (ad 2)), (1, .int (nI at_)), (2, .int (nI n))]) hx hb d_Me_read_32 rfl hl (by decide) rfl (fun ls hl => ?_)
        refine lv_iinc (v := nI (i + 1)) (lv' := [(4, .int (nI (i + 1))), (3, .int (v ||| (((aI u 0 (at_ + i)) &&& (255 : Int32)) <<< ((nI (8 * i)) &&& 31)))), (0, .ref (ad 2)), (1, .int (nI at_)), (2, .int (nI n))]) hx hb d_Me_read_33 hl (k := 1) rfl (rn_inc i 1 (by decide)) (by decide) rfl (fun ls hl => ?_)
        refine lv_goto (tgt := 5) hx hb d_Me_read_36 (by decide) ?_
        exact ih5 (i + 1) (v ||| (((aI u 0 (at_ + i)) &&& (255 : Int32)) <<< ((nI (8 * i)) &&& 31))) _ _ _ (by first | assumption | omega) (by omega) (hq5.trans ((if_pos c1).trans rfl)) hP hD hS (lv_sub hl [0, 1, 2, 3, 4] rfl)
  exact L5 (n + 1) 0 0 _ _ _ (by first | assumption | omega) (by omega) (hq.trans (rfl)) hP hD hS (lv_sub hl [0, 1, 2, 3, 4] rfl)
def w_Me_readUngiven : List Cond := .code y_Me_readUngiven b_Me_readUngiven 6 (some .int) :: ALLW
def rm_Me_readUngiven : Room := { frames := 20, cells := 0, slots := 0, locals := 600 }
theorem d_Me_readUngiven_0 : decode b_Me_readUngiven 0 = .ok (.iconst 0, 1) := by decide +kernel
theorem d_Me_readUngiven_1 : decode b_Me_readUngiven 1 = .ok (.istore_n 3, 1) := by decide +kernel
theorem d_Me_readUngiven_2 : decode b_Me_readUngiven 2 = .ok (.iconst 0, 1) := by decide +kernel
theorem d_Me_readUngiven_3 : decode b_Me_readUngiven 3 = .ok (.istore 4, 2) := by decide +kernel
theorem d_Me_readUngiven_5 : decode b_Me_readUngiven 5 = .ok (.iload 4, 2) := by decide +kernel
theorem d_Me_readUngiven_7 : decode b_Me_readUngiven 7 = .ok (.iload_n 2, 1) := by decide +kernel
theorem d_Me_readUngiven_8 : decode b_Me_readUngiven 8 = .ok (.if_icmp .ge 46, 3) := by decide +kernel
theorem d_Me_readUngiven_11 : decode b_Me_readUngiven 11 = .ok (.aload_n 0, 1) := by decide +kernel
theorem d_Me_readUngiven_12 : decode b_Me_readUngiven 12 = .ok (.getfield 10, 3) := by decide +kernel
theorem d_Me_readUngiven_15 : decode b_Me_readUngiven 15 = .ok (.iload_n 1, 1) := by decide +kernel
theorem d_Me_readUngiven_16 : decode b_Me_readUngiven 16 = .ok (.iload 4, 2) := by decide +kernel
theorem d_Me_readUngiven_18 : decode b_Me_readUngiven 18 = .ok (.iadd, 1) := by decide +kernel
theorem d_Me_readUngiven_19 : decode b_Me_readUngiven 19 = .ok (.iaload, 1) := by decide +kernel
theorem d_Me_readUngiven_20 : decode b_Me_readUngiven 20 = .ok (.istore 5, 2) := by decide +kernel
theorem d_Me_readUngiven_22 : decode b_Me_readUngiven 22 = .ok (.iload 5, 2) := by decide +kernel
theorem d_Me_readUngiven_24 : decode b_Me_readUngiven 24 = .ok (.ldc 9, 2) := by decide +kernel
theorem d_Me_readUngiven_26 : decode b_Me_readUngiven 26 = .ok (.iand, 1) := by decide +kernel
theorem d_Me_readUngiven_27 : decode b_Me_readUngiven 27 = .ok (.ifCond .eq 21, 3) := by decide +kernel
theorem d_Me_readUngiven_30 : decode b_Me_readUngiven 30 = .ok (.iload_n 3, 1) := by decide +kernel
theorem d_Me_readUngiven_31 : decode b_Me_readUngiven 31 = .ok (.iload 5, 2) := by decide +kernel
theorem d_Me_readUngiven_33 : decode b_Me_readUngiven 33 = .ok (.bipush 8, 2) := by decide +kernel
theorem d_Me_readUngiven_35 : decode b_Me_readUngiven 35 = .ok (.iushr, 1) := by decide +kernel
theorem d_Me_readUngiven_36 : decode b_Me_readUngiven 36 = .ok (.sipush 255, 3) := by decide +kernel
theorem d_Me_readUngiven_39 : decode b_Me_readUngiven 39 = .ok (.iand, 1) := by decide +kernel
theorem d_Me_readUngiven_40 : decode b_Me_readUngiven 40 = .ok (.bipush 8, 2) := by decide +kernel
theorem d_Me_readUngiven_42 : decode b_Me_readUngiven 42 = .ok (.iload 4, 2) := by decide +kernel
theorem d_Me_readUngiven_44 : decode b_Me_readUngiven 44 = .ok (.imul, 1) := by decide +kernel
theorem d_Me_readUngiven_45 : decode b_Me_readUngiven 45 = .ok (.ishl, 1) := by decide +kernel
theorem d_Me_readUngiven_46 : decode b_Me_readUngiven 46 = .ok (.ior, 1) := by decide +kernel
theorem d_Me_readUngiven_47 : decode b_Me_readUngiven 47 = .ok (.istore_n 3, 1) := by decide +kernel
theorem d_Me_readUngiven_48 : decode b_Me_readUngiven 48 = .ok (.iinc 4 1, 3) := by decide +kernel
theorem d_Me_readUngiven_51 : decode b_Me_readUngiven 51 = .ok (.goto (-46), 3) := by decide +kernel
theorem d_Me_readUngiven_54 : decode b_Me_readUngiven 54 = .ok (.iload_n 3, 1) := by decide +kernel
theorem d_Me_readUngiven_55 : decode b_Me_readUngiven 55 = .ok (.ireturn, 1) := by decide +kernel
def f_Me_readUngiven_5 (at_ : Nat) (n : Nat) (u : S5) : Nat → Nat → Int32 → Int32
  | 0, i, v => 0
  | k5 + 1, i, v => if i < n then (if ((aI u 0 (at_ + i)) &&& (65536 : Int32)) = 0 then f_Me_readUngiven_5 at_ n u k5 (i + 1) v else f_Me_readUngiven_5 at_ n u k5 (i + 1) (v ||| (((((aI u 0 (at_ + i)).toUInt32 >>> ((8 : Int32).toUInt32 &&& Int32.toUInt32 31)).toInt32) &&& (255 : Int32)) <<< ((nI (8 * i)) &&& 31)))) else v
def f_Me_readUngiven (at_ : Nat) (n : Nat) (u : S5) : Int32 := f_Me_readUngiven_5 at_ n u (n + 1) 0 0
set_option maxHeartbeats 8000000 in
set_option maxRecDepth 100000 in
theorem c_Me_readUngiven (l : Launch) (dC : Nat → ClassId) (dI : Nat → Nat → Nat) (cI : ClassId) (ad : Nat → Nat) (u : S5) (at_ : Nat) (n : Nat) (ha : at_ + n ≤ 65536) (sz : Nat) : Met l y_Me_readUngiven w_Me_readUngiven rm_Me_readUngiven (PreW (dC, dI) classes [(cI, .int)] (wC cI ad) u sz [.ref (ad 2), .int (nI at_), .int (nI n)]) (QWi (dC, dI) classes [(cI, .int)] (wC cI ad) (va_A (wC cI ad u) sz) (f_Me_readUngiven at_ n u) u) 0 0 (va_A (wC cI ad u) sz) := by
  generalize hres : f_Me_readUngiven at_ n u = res
  refine Met.ofW (cc := b_Me_readUngiven) (maxL := 6) (ret := (some .int)) (by decide) rfl ?_
  intro p e s m args below meth c s₁ B hml hv
  obtain ⟨rfl, rfl, hP, hK, hD0⟩ := hv
  have hx := B.exec
  have hb := B.bytes
  have hr := B.returns
  have hts : ∀ w9 ∈ ALLW, w9.before ([.ref (ad 2), .int (nI at_), .int (nI n)] : List Value).toArray s = true := fun w9 h => atoms_spec (ws := w_Me_readUngiven) B.pre w9 (List.mem_cons_of_mem _ h)
  have hown : s.vm.findClass R_Me = some m.cls := findClass_of_methodNamed B.named
  have hlocks := B.notSynchronized
  have hD := hD0.self (sz := s.heap.size)
  generalize hAe : va_A (wC cI ad u) s.heap.size = A at hD ⊢
  have hA : ∀ q : Nat, s.heap.size ≤ q → A q := fun q h => by rw [← hAe]; exact Or.inr h
  have hS : va_S A s.heap s.heap [] := va_S.rf
  have hl := lv_entry ([.ref (ad 2), .int (nI at_), .int (nI n)]) (n := 6) (Nat.le_of_ble_eq_true rfl)
  rw [lg_entry_eq]
  generalize (lg_sl ([.ref (ad 2), .int (nI at_), .int (nI n)]) ++ List.replicate (6 - (lg_sl ([.ref (ad 2), .int (nI at_), .int (nI n)])).length) Slot.unset).toArray = ls at hl ⊢
  have hl : lv_has ls 6 [(0, .ref (ad 2)), (1, .int (nI at_)), (2, .int (nI n))] := hl
  have hq := hres.symm
  skip
  refine lv_iconst (v := 0) hx hb d_Me_readUngiven_0 (by decide) ?_
  refine lv_istore_n (lv' := [(3, .int 0), (0, .ref (ad 2)), (1, .int (nI at_)), (2, .int (nI n))]) hx hb d_Me_readUngiven_1 rfl hl (by decide) rfl (fun ls hl => ?_)
  refine lv_iconst (v := nI 0) hx hb d_Me_readUngiven_2 (by decide) ?_
  refine lv_istore (lv' := [(4, .int (nI 0)), (3, .int 0), (0, .ref (ad 2)), (1, .int (nI at_)), (2, .int (nI n))]) hx hb d_Me_readUngiven_3 hl (by decide) rfl (fun ls hl => ?_)
  have L5 : ∀ (k : Nat) (i : Nat) (v : Int32) (H : Heap) (locs : List Loc) (ls : Array Slot), (i ≤ n) → (n - i) < k → res = f_Me_readUngiven_5 at_ n u k i v → va_P (dC, dI) classes (wC cI ad u) H → va_D A (wC cI ad u) → va_S A s.heap H locs → lv_has ls 6 [(4, .int (nI i)), (3, .int v), (0, .ref (ad 2)), (1, .int (nI at_)), (2, .int (nI n))] → W p l e (headSpec w_Me_readUngiven rm_Me_readUngiven).room s m ([.ref (ad 2), .int (nI at_), .int (nI n)] : List Value).toArray below meth c H locs 0 0 (MQ below (QWi (dC, dI) classes [(cI, .int)] (wC cI ad) A res u) ([.ref (ad 2), .int (nI at_), .int (nI n)] : List Value).toArray s 0 0 A) (F0 m 5 ls []) := by
    intro k
    induction k with
    | zero => intro i v H locs ls hi hm; exact absurd hm (Nat.not_lt_zero _)
    | succ k5 ih5 =>
      intro i v H locs ls hi hm hq5 hP hD hS hl
      refine lv_iload hx hb d_Me_readUngiven_5 (lv_at hl 0 rfl) ?_
      refine lv_iload_n hx hb d_Me_readUngiven_7 rfl (lv_at hl 4 rfl) ?_
      refine rn_ge (tgt := 54) hx hb (by omega) (by omega) d_Me_readUngiven_8 (by decide) (fun c1 => ?_) (fun c1 => ?_)
      · skip
        refine lv_iload_n hx hb d_Me_readUngiven_54 rfl (lv_at hl 1 rfl) ?_
        have hE : res = v := hq5.trans ((if_neg (Nat.not_lt.mpr c1)).trans rfl)
        exact retWi (x := v) hx hb hr hP hK hD hS hE.symm rfl d_Me_readUngiven_55 hlocks
      · skip
        refine lv_aload_n hx hb d_Me_readUngiven_11 rfl (lv_at hl 2 rfl) ?_
        refine va_get (D := (dC, dI)) (ci := 2) (v := .ref (ad 8)) (C := R_Me) (T := F_Me) (N := 2) hx hb hts in_Me hown hK hP 2 rfl rfl 0 (by decide) (hts _ m_1_18) (fun _ h9 => h9) rfl d_Me_readUngiven_12 ?_
        refine lv_iload_n hx hb d_Me_readUngiven_15 rfl (lv_at hl 3 rfl) ?_
        refine lv_iload hx hb d_Me_readUngiven_16 (lv_at hl 0 rfl) ?_
        refine lv_iadd hx hb d_Me_readUngiven_18 ?_
        refine rw_top (y := nI (at_ + i)) (nI_add at_ i) ?_
        refine aldC_cells (u := u) (v := aI u 0 (at_ + i)) hx hb hK hP (by omega) rfl d_Me_readUngiven_19 ?_
        refine lv_istore (lv' := [(5, .int (aI u 0 (at_ + i))), (4, .int (nI i)), (3, .int v), (0, .ref (ad 2)), (1, .int (nI at_)), (2, .int (nI n))]) hx hb d_Me_readUngiven_20 hl (by decide) rfl (fun ls hl => ?_)
        refine lv_iload hx hb d_Me_readUngiven_22 (lv_at hl 0 rfl) ?_
        refine lv_ldc (v := 65536) hx hb hown (hts _ m_0_34) d_Me_readUngiven_24 ?_
        refine lv_iand hx hb d_Me_readUngiven_26 ?_
        refine lv_if_eq (tgt := 48) hx hb d_Me_readUngiven_27 (by decide) (fun c2 => ?_) (fun c2 => ?_)
        · skip
          refine lv_iinc (v := nI (i + 1)) (lv' := [(4, .int (nI (i + 1))), (5, .int (aI u 0 (at_ + i))), (3, .int v), (0, .ref (ad 2)), (1, .int (nI at_)), (2, .int (nI n))]) hx hb d_Me_readUngiven_48 hl (k := 1) rfl (rn_inc i 1 (by decide)) (by decide) rfl (fun ls hl => ?_)
          refine lv_goto (tgt := 5) hx hb d_Me_readUngiven_51 (by decide) ?_
          exact ih5 (i + 1) v _ _ _ (by first | assumption | omega) (by omega) (hq5.trans ((if_pos c1).trans ((if_pos c2).trans rfl))) hP hD hS (lv_sub hl [0, 2, 3, 4, 5] rfl)
        · skip
          refine lv_iload_n hx hb d_Me_readUngiven_30 rfl (lv_at hl 2 rfl) ?_
          refine lv_iload hx hb d_Me_readUngiven_31 (lv_at hl 0 rfl) ?_
          refine lv_bipush (v := 8) hx hb d_Me_readUngiven_33 (by decide) ?_
          refine lv_iushr (v := ((aI u 0 (at_ + i)).toUInt32 >>> ((8 : Int32).toUInt32 &&& Int32.toUInt32 31)).toInt32) hx hb d_Me_readUngiven_35 rfl ?_
          refine lv_sipush (v := 255) hx hb d_Me_readUngiven_36 (by decide) ?_
          refine lv_iand hx hb d_Me_readUngiven_39 ?_
          refine lv_bipush (v := nI 8) hx hb d_Me_readUngiven_40 (by decide) ?_
          refine lv_iload hx hb d_Me_readUngiven_42 (lv_at hl 1 rfl) ?_
          refine lv_imul hx hb d_Me_readUngiven_44 ?_
          refine rw_top (y := nI (8 * i)) (pk_mul 8 i) ?_
          refine lv_ishl hx hb d_Me_readUngiven_45 ?_
          refine lv_ior hx hb d_Me_readUngiven_46 ?_
          refine lv_istore_n (lv' := [(3, .int (v ||| (((((aI u 0 (at_ + i)).toUInt32 >>> ((8 : Int32).toUInt32 &&& Int32.toUInt32 31)).toInt32) &&& (255 : Int32)) <<< ((nI (8 * i)) &&& 31)))), (5, .int (aI u 0 (at_ + i))), (4, .int (nI i)), (0, .ref (ad 2)), (1, .int (nI at_)), (2, .int (nI n))]) hx hb d_Me_readUngiven_47 rfl hl (by decide) rfl (fun ls hl => ?_)
          refine lv_iinc (v := nI (i + 1)) (lv' := [(4, .int (nI (i + 1))), (3, .int (v ||| (((((aI u 0 (at_ + i)).toUInt32 >>> ((8 : Int32).toUInt32 &&& Int32.toUInt32 31)).toInt32) &&& (255 : Int32)) <<< ((nI (8 * i)) &&& 31)))), (5, .int (aI u 0 (at_ + i))), (0, .ref (ad 2)), (1, .int (nI at_)), (2, .int (nI n))]) hx hb d_Me_readUngiven_48 hl (k := 2) rfl (rn_inc i 1 (by decide)) (by decide) rfl (fun ls hl => ?_)
          refine lv_goto (tgt := 5) hx hb d_Me_readUngiven_51 (by decide) ?_
          exact ih5 (i + 1) (v ||| (((((aI u 0 (at_ + i)).toUInt32 >>> ((8 : Int32).toUInt32 &&& Int32.toUInt32 31)).toInt32) &&& (255 : Int32)) <<< ((nI (8 * i)) &&& 31))) _ _ _ (by first | assumption | omega) (by omega) (hq5.trans ((if_pos c1).trans ((if_neg c2).trans rfl))) hP hD hS (lv_sub hl [0, 1, 3, 4, 5] rfl)
  exact L5 (n + 1) 0 0 _ _ _ (by first | assumption | omega) (by omega) (hq.trans (rfl)) hP hD hS (lv_sub hl [0, 1, 2, 3, 4] rfl)
def w_Me_write : List Cond := .code y_Me_write b_Me_write 8 none :: ALLW
def rm_Me_write : Room := { frames := 20, cells := 0, slots := 0, locals := 600 }
theorem d_Me_write_0 : decode b_Me_write 0 = .ok (.iconst 0, 1) := by decide +kernel
theorem d_Me_write_1 : decode b_Me_write 1 = .ok (.istore 5, 2) := by decide +kernel
theorem d_Me_write_3 : decode b_Me_write 3 = .ok (.iload 5, 2) := by decide +kernel
theorem d_Me_write_5 : decode b_Me_write 5 = .ok (.iload_n 2, 1) := by decide +kernel
theorem d_Me_write_6 : decode b_Me_write 6 = .ok (.if_icmp .ge 66, 3) := by decide +kernel
theorem d_Me_write_9 : decode b_Me_write 9 = .ok (.iload_n 3, 1) := by decide +kernel
theorem d_Me_write_10 : decode b_Me_write 10 = .ok (.bipush 8, 2) := by decide +kernel
theorem d_Me_write_12 : decode b_Me_write 12 = .ok (.iload 5, 2) := by decide +kernel
theorem d_Me_write_14 : decode b_Me_write 14 = .ok (.imul, 1) := by decide +kernel
theorem d_Me_write_15 : decode b_Me_write 15 = .ok (.iushr, 1) := by decide +kernel
theorem d_Me_write_16 : decode b_Me_write 16 = .ok (.sipush 255, 3) := by decide +kernel
theorem d_Me_write_19 : decode b_Me_write 19 = .ok (.iand, 1) := by decide +kernel
theorem d_Me_write_20 : decode b_Me_write 20 = .ok (.istore 6, 2) := by decide +kernel
theorem d_Me_write_22 : decode b_Me_write 22 = .ok (.iload 4, 2) := by decide +kernel
theorem d_Me_write_24 : decode b_Me_write 24 = .ok (.bipush 8, 2) := by decide +kernel
theorem d_Me_write_26 : decode b_Me_write 26 = .ok (.iload 5, 2) := by decide +kernel
theorem d_Me_write_28 : decode b_Me_write 28 = .ok (.imul, 1) := by decide +kernel
theorem d_Me_write_29 : decode b_Me_write 29 = .ok (.iushr, 1) := by decide +kernel
theorem d_Me_write_30 : decode b_Me_write 30 = .ok (.sipush 255, 3) := by decide +kernel
theorem d_Me_write_33 : decode b_Me_write 33 = .ok (.iand, 1) := by decide +kernel
theorem d_Me_write_34 : decode b_Me_write 34 = .ok (.istore 7, 2) := by decide +kernel
theorem d_Me_write_36 : decode b_Me_write 36 = .ok (.aload_n 0, 1) := by decide +kernel
theorem d_Me_write_37 : decode b_Me_write 37 = .ok (.getfield 10, 3) := by decide +kernel
theorem d_Me_write_40 : decode b_Me_write 40 = .ok (.iload_n 1, 1) := by decide +kernel
theorem d_Me_write_41 : decode b_Me_write 41 = .ok (.iload 5, 2) := by decide +kernel
theorem d_Me_write_43 : decode b_Me_write 43 = .ok (.iadd, 1) := by decide +kernel
theorem d_Me_write_44 : decode b_Me_write 44 = .ok (.aload_n 0, 1) := by decide +kernel
theorem d_Me_write_45 : decode b_Me_write 45 = .ok (.getfield 10, 3) := by decide +kernel
theorem d_Me_write_48 : decode b_Me_write 48 = .ok (.iload_n 1, 1) := by decide +kernel
theorem d_Me_write_49 : decode b_Me_write 49 = .ok (.iload 5, 2) := by decide +kernel
theorem d_Me_write_51 : decode b_Me_write 51 = .ok (.iadd, 1) := by decide +kernel
theorem d_Me_write_52 : decode b_Me_write 52 = .ok (.iaload, 1) := by decide +kernel
theorem d_Me_write_53 : decode b_Me_write 53 = .ok (.ldc 9, 2) := by decide +kernel
theorem d_Me_write_55 : decode b_Me_write 55 = .ok (.iand, 1) := by decide +kernel
theorem d_Me_write_56 : decode b_Me_write 56 = .ok (.iload 7, 2) := by decide +kernel
theorem d_Me_write_58 : decode b_Me_write 58 = .ok (.bipush 8, 2) := by decide +kernel
theorem d_Me_write_60 : decode b_Me_write 60 = .ok (.ishl, 1) := by decide +kernel
theorem d_Me_write_61 : decode b_Me_write 61 = .ok (.ior, 1) := by decide +kernel
theorem d_Me_write_62 : decode b_Me_write 62 = .ok (.iload 6, 2) := by decide +kernel
theorem d_Me_write_64 : decode b_Me_write 64 = .ok (.ior, 1) := by decide +kernel
theorem d_Me_write_65 : decode b_Me_write 65 = .ok (.iastore, 1) := by decide +kernel
theorem d_Me_write_66 : decode b_Me_write 66 = .ok (.iinc 5 1, 3) := by decide +kernel
theorem d_Me_write_69 : decode b_Me_write 69 = .ok (.goto (-66), 3) := by decide +kernel
theorem d_Me_write_72 : decode b_Me_write 72 = .ok (.return_, 1) := by decide +kernel
def f_Me_write_3 (at_ : Nat) (n : Nat) (v : Int32) (w : Int32) (u : S5) : Nat → Nat → S5 → S5
  | 0, i, u1 => u1
  | k3 + 1, i, u1 => if i < n then f_Me_write_3 at_ n v w u k3 (i + 1) (uI u1 0 (at_ + i) ((((aI u1 0 (at_ + i)) &&& (65536 : Int32)) ||| ((((w.toUInt32 >>> ((nI (8 * i)).toUInt32 &&& Int32.toUInt32 31)).toInt32) &&& (255 : Int32)) <<< ((8 : Int32) &&& 31))) ||| (((v.toUInt32 >>> ((nI (8 * i)).toUInt32 &&& Int32.toUInt32 31)).toInt32) &&& (255 : Int32)))) else u1
def f_Me_write (at_ : Nat) (n : Nat) (v : Int32) (w : Int32) (u : S5) : S5 := f_Me_write_3 at_ n v w u (n + 1) 0 u
set_option maxHeartbeats 8000000 in
set_option maxRecDepth 100000 in
theorem c_Me_write (l : Launch) (dC : Nat → ClassId) (dI : Nat → Nat → Nat) (cI : ClassId) (ad : Nat → Nat) (u : S5) (at_ : Nat) (n : Nat) (v : Int32) (w : Int32) (ha : at_ + n ≤ 65536) (sz : Nat) : Met l y_Me_write w_Me_write rm_Me_write (PreW (dC, dI) classes [(cI, .int)] (wC cI ad) u sz [.ref (ad 2), .int (nI at_), .int (nI n), .int v, .int w]) (QWv (dC, dI) classes [(cI, .int)] (wC cI ad) (va_A (wC cI ad u) sz) (f_Me_write at_ n v w u)) 0 0 (va_A (wC cI ad u) sz) := by
  generalize hres : f_Me_write at_ n v w u = res
  refine Met.ofW (cc := b_Me_write) (maxL := 8) (ret := none) (by decide) rfl ?_
  intro p e s m args below meth c s₁ B hml hv
  obtain ⟨rfl, rfl, hP, hK, hD0⟩ := hv
  have hx := B.exec
  have hb := B.bytes
  have hr := B.returns
  have hts : ∀ w9 ∈ ALLW, w9.before ([.ref (ad 2), .int (nI at_), .int (nI n), .int v, .int w] : List Value).toArray s = true := fun w9 h => atoms_spec (ws := w_Me_write) B.pre w9 (List.mem_cons_of_mem _ h)
  have hown : s.vm.findClass R_Me = some m.cls := findClass_of_methodNamed B.named
  have hlocks := B.notSynchronized
  have hD := hD0.self (sz := s.heap.size)
  generalize hAe : va_A (wC cI ad u) s.heap.size = A at hD ⊢
  have hA : ∀ q : Nat, s.heap.size ≤ q → A q := fun q h => by rw [← hAe]; exact Or.inr h
  have hS : va_S A s.heap s.heap [] := va_S.rf
  have hl := lv_entry ([.ref (ad 2), .int (nI at_), .int (nI n), .int v, .int w]) (n := 8) (Nat.le_of_ble_eq_true rfl)
  rw [lg_entry_eq]
  generalize (lg_sl ([.ref (ad 2), .int (nI at_), .int (nI n), .int v, .int w]) ++ List.replicate (8 - (lg_sl ([.ref (ad 2), .int (nI at_), .int (nI n), .int v, .int w])).length) Slot.unset).toArray = ls at hl ⊢
  have hl : lv_has ls 8 [(0, .ref (ad 2)), (1, .int (nI at_)), (2, .int (nI n)), (3, .int v), (4, .int w)] := hl
  have hq := hres.symm
  skip
  refine lv_iconst (v := nI 0) hx hb d_Me_write_0 (by decide) ?_
  refine lv_istore (lv' := [(5, .int (nI 0)), (0, .ref (ad 2)), (1, .int (nI at_)), (2, .int (nI n)), (3, .int v), (4, .int w)]) hx hb d_Me_write_1 hl (by decide) rfl (fun ls hl => ?_)
  have L3 : ∀ (k : Nat) (i : Nat) (u1 : S5) (H : Heap) (locs : List Loc) (ls : Array Slot), (i ≤ n) → (n - i) < k → res = f_Me_write_3 at_ n v w u k i u1 → va_P (dC, dI) classes (wC cI ad u1) H → va_D A (wC cI ad u1) → va_S A s.heap H locs → lv_has ls 8 [(5, .int (nI i)), (0, .ref (ad 2)), (1, .int (nI at_)), (2, .int (nI n)), (3, .int v), (4, .int w)] → W p l e (headSpec w_Me_write rm_Me_write).room s m ([.ref (ad 2), .int (nI at_), .int (nI n), .int v, .int w] : List Value).toArray below meth c H locs 0 0 (MQ below (QWv (dC, dI) classes [(cI, .int)] (wC cI ad) A res) ([.ref (ad 2), .int (nI at_), .int (nI n), .int v, .int w] : List Value).toArray s 0 0 A) (F0 m 3 ls []) := by
    intro k
    induction k with
    | zero => intro i u1 H locs ls hi hm; exact absurd hm (Nat.not_lt_zero _)
    | succ k3 ih3 =>
      intro i u1 H locs ls hi hm hq3 hP hD hS hl
      refine lv_iload hx hb d_Me_write_3 (lv_at hl 0 rfl) ?_
      refine lv_iload_n hx hb d_Me_write_5 rfl (lv_at hl 3 rfl) ?_
      refine rn_ge (tgt := 72) hx hb (by omega) (by omega) d_Me_write_6 (by decide) (fun c1 => ?_) (fun c1 => ?_)
      · skip
        have hE : res = u1 := hq3.trans ((if_neg (Nat.not_lt.mpr c1)).trans rfl)
        exact retWv hx hb hr hP hK hD hS hE.symm d_Me_write_72 hlocks
      · skip
        refine lv_iload_n hx hb d_Me_write_9 rfl (lv_at hl 4 rfl) ?_
        refine lv_bipush (v := nI 8) hx hb d_Me_write_10 (by decide) ?_
        refine lv_iload hx hb d_Me_write_12 (lv_at hl 0 rfl) ?_
        refine lv_imul hx hb d_Me_write_14 ?_
        refine rw_top (y := nI (8 * i)) (pk_mul 8 i) ?_
        refine lv_iushr (v := (v.toUInt32 >>> ((nI (8 * i)).toUInt32 &&& Int32.toUInt32 31)).toInt32) hx hb d_Me_write_15 rfl ?_
        refine lv_sipush (v := 255) hx hb d_Me_write_16 (by decide) ?_
        refine lv_iand hx hb d_Me_write_19 ?_
        refine lv_istore (lv' := [(6, .int (((v.toUInt32 >>> ((nI (8 * i)).toUInt32 &&& Int32.toUInt32 31)).toInt32) &&& (255 : Int32))), (5, .int (nI i)), (0, .ref (ad 2)), (1, .int (nI at_)), (2, .int (nI n)), (3, .int v), (4, .int w)]) hx hb d_Me_write_20 hl (by decide) rfl (fun ls hl => ?_)
        refine lv_iload hx hb d_Me_write_22 (lv_at hl 6 rfl) ?_
        refine lv_bipush (v := nI 8) hx hb d_Me_write_24 (by decide) ?_
        refine lv_iload hx hb d_Me_write_26 (lv_at hl 1 rfl) ?_
        refine lv_imul hx hb d_Me_write_28 ?_
        refine rw_top (y := nI (8 * i)) (pk_mul 8 i) ?_
        refine lv_iushr (v := (w.toUInt32 >>> ((nI (8 * i)).toUInt32 &&& Int32.toUInt32 31)).toInt32) hx hb d_Me_write_29 rfl ?_
        refine lv_sipush (v := 255) hx hb d_Me_write_30 (by decide) ?_
        refine lv_iand hx hb d_Me_write_33 ?_
        refine lv_istore (lv' := [(7, .int (((w.toUInt32 >>> ((nI (8 * i)).toUInt32 &&& Int32.toUInt32 31)).toInt32) &&& (255 : Int32))), (6, .int (((v.toUInt32 >>> ((nI (8 * i)).toUInt32 &&& Int32.toUInt32 31)).toInt32) &&& (255 : Int32))), (5, .int (nI i)), (0, .ref (ad 2)), (1, .int (nI at_)), (2, .int (nI n)), (3, .int v), (4, .int w)]) hx hb d_Me_write_34 hl (by decide) rfl (fun ls hl => ?_)
        refine lv_aload_n hx hb d_Me_write_36 rfl (lv_at hl 3 rfl) ?_
        refine va_get (D := (dC, dI)) (ci := 2) (v := .ref (ad 8)) (C := R_Me) (T := F_Me) (N := 2) hx hb hts in_Me hown hK hP 2 rfl rfl 0 (by decide) (hts _ m_1_18) (fun _ h9 => h9) rfl d_Me_write_37 ?_
        refine lv_iload_n hx hb d_Me_write_40 rfl (lv_at hl 4 rfl) ?_
        refine lv_iload hx hb d_Me_write_41 (lv_at hl 2 rfl) ?_
        refine lv_iadd hx hb d_Me_write_43 ?_
        refine rw_top (y := nI (at_ + i)) (nI_add at_ i) ?_
        refine lv_aload_n hx hb d_Me_write_44 rfl (lv_at hl 3 rfl) ?_
        refine va_get (D := (dC, dI)) (ci := 2) (v := .ref (ad 8)) (C := R_Me) (T := F_Me) (N := 2) hx hb hts in_Me hown hK hP 2 rfl rfl 0 (by decide) (hts _ m_1_18) (fun _ h9 => h9) rfl d_Me_write_45 ?_
        refine lv_iload_n hx hb d_Me_write_48 rfl (lv_at hl 4 rfl) ?_
        refine lv_iload hx hb d_Me_write_49 (lv_at hl 2 rfl) ?_
        refine lv_iadd hx hb d_Me_write_51 ?_
        refine rw_top (y := nI (at_ + i)) (nI_add at_ i) ?_
        refine aldC_cells (u := u1) (v := aI u1 0 (at_ + i)) hx hb hK hP (by omega) rfl d_Me_write_52 ?_
        refine lv_ldc (v := 65536) hx hb hown (hts _ m_0_34) d_Me_write_53 ?_
        refine lv_iand hx hb d_Me_write_55 ?_
        refine lv_iload hx hb d_Me_write_56 (lv_at hl 0 rfl) ?_
        refine lv_bipush (v := 8) hx hb d_Me_write_58 (by decide) ?_
        refine lv_ishl hx hb d_Me_write_60 ?_
        refine lv_ior hx hb d_Me_write_61 ?_
        refine lv_iload hx hb d_Me_write_62 (lv_at hl 1 rfl) ?_
        refine lv_ior hx hb d_Me_write_64 ?_
        refine astC_cells (u := u1) (n := at_ + i) hx hb hK hP hD hS (by omega) d_Me_write_65 (fun H locs hP hD hS => ?_)
        refine lv_iinc (v := nI (i + 1)) (lv' := [(5, .int (nI (i + 1))), (7, .int (((w.toUInt32 >>> ((nI (8 * i)).toUInt32 &&& Int32.toUInt32 31)).toInt32) &&& (255 : Int32))), (6, .int (((v.toUInt32 >>> ((nI (8 * i)).toUInt32 &&& Int32.toUInt32 31)).toInt32) &&& (255 : Int32))), (0, .ref (ad 2)), (1, .int (nI at_)), (2, .int (nI n)), (3, .int v), (4, .int w)]) hx hb d_Me_write_66 hl (k := 2) rfl (rn_inc i 1 (by decide)) (by decide) rfl (fun ls hl => ?_)
        refine lv_goto (tgt := 3) hx hb d_Me_write_69 (by decide) ?_
        exact ih3 (i + 1) (uI u1 0 (at_ + i) ((((aI u1 0 (at_ + i)) &&& (65536 : Int32)) ||| ((((w.toUInt32 >>> ((nI (8 * i)).toUInt32 &&& Int32.toUInt32 31)).toInt32) &&& (255 : Int32)) <<< ((8 : Int32) &&& 31))) ||| (((v.toUInt32 >>> ((nI (8 * i)).toUInt32 &&& Int32.toUInt32 31)).toInt32) &&& (255 : Int32)))) _ _ _ (by first | assumption | omega) (by omega) (hq3.trans ((if_pos c1).trans rfl)) hP hD hS (lv_sub hl [0, 3, 4, 5, 6, 7] rfl)
  exact L3 (n + 1) 0 u _ _ _ (by first | assumption | omega) (by omega) (hq.trans (rfl)) hP hD hS (lv_sub hl [0, 1, 2, 3, 4, 5] rfl)
def w_Me_handOut : List Cond := .code y_Me_handOut b_Me_handOut 4 none :: ALLW
def rm_Me_handOut : Room := { frames := 20, cells := 0, slots := 0, locals := 600 }
theorem d_Me_handOut_0 : decode b_Me_handOut 0 = .ok (.iconst 0, 1) := by decide +kernel
theorem d_Me_handOut_1 : decode b_Me_handOut 1 = .ok (.istore_n 3, 1) := by decide +kernel
theorem d_Me_handOut_2 : decode b_Me_handOut 2 = .ok (.iload_n 3, 1) := by decide +kernel
theorem d_Me_handOut_3 : decode b_Me_handOut 3 = .ok (.iload_n 2, 1) := by decide +kernel
theorem d_Me_handOut_4 : decode b_Me_handOut 4 = .ok (.if_icmp .ge 35, 3) := by decide +kernel
theorem d_Me_handOut_7 : decode b_Me_handOut 7 = .ok (.aload_n 0, 1) := by decide +kernel
theorem d_Me_handOut_8 : decode b_Me_handOut 8 = .ok (.getfield 10, 3) := by decide +kernel
theorem d_Me_handOut_11 : decode b_Me_handOut 11 = .ok (.iload_n 1, 1) := by decide +kernel
theorem d_Me_handOut_12 : decode b_Me_handOut 12 = .ok (.iload_n 3, 1) := by decide +kernel
theorem d_Me_handOut_13 : decode b_Me_handOut 13 = .ok (.iadd, 1) := by decide +kernel
theorem d_Me_handOut_14 : decode b_Me_handOut 14 = .ok (.aload_n 0, 1) := by decide +kernel
theorem d_Me_handOut_15 : decode b_Me_handOut 15 = .ok (.getfield 10, 3) := by decide +kernel
theorem d_Me_handOut_18 : decode b_Me_handOut 18 = .ok (.iload_n 1, 1) := by decide +kernel
theorem d_Me_handOut_19 : decode b_Me_handOut 19 = .ok (.iload_n 3, 1) := by decide +kernel
theorem d_Me_handOut_20 : decode b_Me_handOut 20 = .ok (.iadd, 1) := by decide +kernel
theorem d_Me_handOut_21 : decode b_Me_handOut 21 = .ok (.iaload, 1) := by decide +kernel
theorem d_Me_handOut_22 : decode b_Me_handOut 22 = .ok (.sipush 255, 3) := by decide +kernel
theorem d_Me_handOut_25 : decode b_Me_handOut 25 = .ok (.iand, 1) := by decide +kernel
theorem d_Me_handOut_26 : decode b_Me_handOut 26 = .ok (.ldc 9, 2) := by decide +kernel
theorem d_Me_handOut_28 : decode b_Me_handOut 28 = .ok (.ior, 1) := by decide +kernel
theorem d_Me_handOut_29 : decode b_Me_handOut 29 = .ok (.ldc 39, 2) := by decide +kernel
theorem d_Me_handOut_31 : decode b_Me_handOut 31 = .ok (.ior, 1) := by decide +kernel
theorem d_Me_handOut_32 : decode b_Me_handOut 32 = .ok (.iastore, 1) := by decide +kernel
theorem d_Me_handOut_33 : decode b_Me_handOut 33 = .ok (.iinc 3 1, 3) := by decide +kernel
theorem d_Me_handOut_36 : decode b_Me_handOut 36 = .ok (.goto (-34), 3) := by decide +kernel
theorem d_Me_handOut_39 : decode b_Me_handOut 39 = .ok (.return_, 1) := by decide +kernel
def f_Me_handOut_2 (at_ : Nat) (n : Nat) (u : S5) : Nat → Nat → S5 → S5
  | 0, i, u1 => u1
  | k2 + 1, i, u1 => if i < n then f_Me_handOut_2 at_ n u k2 (i + 1) (uI u1 0 (at_ + i) ((((aI u1 0 (at_ + i)) &&& (255 : Int32)) ||| (65536 : Int32)) ||| (65280 : Int32))) else u1
def f_Me_handOut (at_ : Nat) (n : Nat) (u : S5) : S5 := f_Me_handOut_2 at_ n u (n + 1) 0 u
set_option maxHeartbeats 8000000 in
set_option maxRecDepth 100000 in
theorem c_Me_handOut (l : Launch) (dC : Nat → ClassId) (dI : Nat → Nat → Nat) (cI : ClassId) (ad : Nat → Nat) (u : S5) (at_ : Nat) (n : Nat) (ha : at_ + n ≤ 65536) (sz : Nat) : Met l y_Me_handOut w_Me_handOut rm_Me_handOut (PreW (dC, dI) classes [(cI, .int)] (wC cI ad) u sz [.ref (ad 2), .int (nI at_), .int (nI n)]) (QWv (dC, dI) classes [(cI, .int)] (wC cI ad) (va_A (wC cI ad u) sz) (f_Me_handOut at_ n u)) 0 0 (va_A (wC cI ad u) sz) := by
  generalize hres : f_Me_handOut at_ n u = res
  refine Met.ofW (cc := b_Me_handOut) (maxL := 4) (ret := none) (by decide) rfl ?_
  intro p e s m args below meth c s₁ B hml hv
  obtain ⟨rfl, rfl, hP, hK, hD0⟩ := hv
  have hx := B.exec
  have hb := B.bytes
  have hr := B.returns
  have hts : ∀ w9 ∈ ALLW, w9.before ([.ref (ad 2), .int (nI at_), .int (nI n)] : List Value).toArray s = true := fun w9 h => atoms_spec (ws := w_Me_handOut) B.pre w9 (List.mem_cons_of_mem _ h)
  have hown : s.vm.findClass R_Me = some m.cls := findClass_of_methodNamed B.named
  have hlocks := B.notSynchronized
  have hD := hD0.self (sz := s.heap.size)
  generalize hAe : va_A (wC cI ad u) s.heap.size = A at hD ⊢
  have hA : ∀ q : Nat, s.heap.size ≤ q → A q := fun q h => by rw [← hAe]; exact Or.inr h
  have hS : va_S A s.heap s.heap [] := va_S.rf
  have hl := lv_entry ([.ref (ad 2), .int (nI at_), .int (nI n)]) (n := 4) (Nat.le_of_ble_eq_true rfl)
  rw [lg_entry_eq]
  generalize (lg_sl ([.ref (ad 2), .int (nI at_), .int (nI n)]) ++ List.replicate (4 - (lg_sl ([.ref (ad 2), .int (nI at_), .int (nI n)])).length) Slot.unset).toArray = ls at hl ⊢
  have hl : lv_has ls 4 [(0, .ref (ad 2)), (1, .int (nI at_)), (2, .int (nI n))] := hl
  have hq := hres.symm
  skip
  refine lv_iconst (v := nI 0) hx hb d_Me_handOut_0 (by decide) ?_
  refine lv_istore_n (lv' := [(3, .int (nI 0)), (0, .ref (ad 2)), (1, .int (nI at_)), (2, .int (nI n))]) hx hb d_Me_handOut_1 rfl hl (by decide) rfl (fun ls hl => ?_)
  have L2 : ∀ (k : Nat) (i : Nat) (u1 : S5) (H : Heap) (locs : List Loc) (ls : Array Slot), (i ≤ n) → (n - i) < k → res = f_Me_handOut_2 at_ n u k i u1 → va_P (dC, dI) classes (wC cI ad u1) H → va_D A (wC cI ad u1) → va_S A s.heap H locs → lv_has ls 4 [(3, .int (nI i)), (0, .ref (ad 2)), (1, .int (nI at_)), (2, .int (nI n))] → W p l e (headSpec w_Me_handOut rm_Me_handOut).room s m ([.ref (ad 2), .int (nI at_), .int (nI n)] : List Value).toArray below meth c H locs 0 0 (MQ below (QWv (dC, dI) classes [(cI, .int)] (wC cI ad) A res) ([.ref (ad 2), .int (nI at_), .int (nI n)] : List Value).toArray s 0 0 A) (F0 m 2 ls []) := by
    intro k
    induction k with
    | zero => intro i u1 H locs ls hi hm; exact absurd hm (Nat.not_lt_zero _)
    | succ k2 ih2 =>
      intro i u1 H locs ls hi hm hq2 hP hD hS hl
      refine lv_iload_n hx hb d_Me_handOut_2 rfl (lv_at hl 0 rfl) ?_
      refine lv_iload_n hx hb d_Me_handOut_3 rfl (lv_at hl 3 rfl) ?_
      refine rn_ge (tgt := 39) hx hb (by omega) (by omega) d_Me_handOut_4 (by decide) (fun c1 => ?_) (fun c1 => ?_)
      · skip
        have hE : res = u1 := hq2.trans ((if_neg (Nat.not_lt.mpr c1)).trans rfl)
        exact retWv hx hb hr hP hK hD hS hE.symm d_Me_handOut_39 hlocks
      · skip
        refine lv_aload_n hx hb d_Me_handOut_7 rfl (lv_at hl 1 rfl) ?_
        refine va_get (D := (dC, dI)) (ci := 2) (v := .ref (ad 8)) (C := R_Me) (T := F_Me) (N := 2) hx hb hts in_Me hown hK hP 2 rfl rfl 0 (by decide) (hts _ m_1_18) (fun _ h9 => h9) rfl d_Me_handOut_8 ?_
        refine lv_iload_n hx hb d_Me_handOut_11 rfl (lv_at hl 2 rfl) ?_
        refine lv_iload_n hx hb d_Me_handOut_12 rfl (lv_at hl 0 rfl) ?_
        refine lv_iadd hx hb d_Me_handOut_13 ?_
        refine rw_top (y := nI (at_ + i)) (nI_add at_ i) ?_
        refine lv_aload_n hx hb d_Me_handOut_14 rfl (lv_at hl 1 rfl) ?_
        refine va_get (D := (dC, dI)) (ci := 2) (v := .ref (ad 8)) (C := R_Me) (T := F_Me) (N := 2) hx hb hts in_Me hown hK hP 2 rfl rfl 0 (by decide) (hts _ m_1_18) (fun _ h9 => h9) rfl d_Me_handOut_15 ?_
        refine lv_iload_n hx hb d_Me_handOut_18 rfl (lv_at hl 2 rfl) ?_
        refine lv_iload_n hx hb d_Me_handOut_19 rfl (lv_at hl 0 rfl) ?_
        refine lv_iadd hx hb d_Me_handOut_20 ?_
        refine rw_top (y := nI (at_ + i)) (nI_add at_ i) ?_
        refine aldC_cells (u := u1) (v := aI u1 0 (at_ + i)) hx hb hK hP (by omega) rfl d_Me_handOut_21 ?_
        refine lv_sipush (v := 255) hx hb d_Me_handOut_22 (by decide) ?_
        refine lv_iand hx hb d_Me_handOut_25 ?_
        refine lv_ldc (v := 65536) hx hb hown (hts _ m_0_34) d_Me_handOut_26 ?_
        refine lv_ior hx hb d_Me_handOut_28 ?_
        refine lv_ldc (v := 65280) hx hb hown (hts _ m_10_31) d_Me_handOut_29 ?_
        refine lv_ior hx hb d_Me_handOut_31 ?_
        refine astC_cells (u := u1) (n := at_ + i) hx hb hK hP hD hS (by omega) d_Me_handOut_32 (fun H locs hP hD hS => ?_)
        refine lv_iinc (v := nI (i + 1)) (lv' := [(3, .int (nI (i + 1))), (0, .ref (ad 2)), (1, .int (nI at_)), (2, .int (nI n))]) hx hb d_Me_handOut_33 hl (k := 0) rfl (rn_inc i 1 (by decide)) (by decide) rfl (fun ls hl => ?_)
        refine lv_goto (tgt := 2) hx hb d_Me_handOut_36 (by decide) ?_
        exact ih2 (i + 1) (uI u1 0 (at_ + i) ((((aI u1 0 (at_ + i)) &&& (255 : Int32)) ||| (65536 : Int32)) ||| (65280 : Int32))) _ _ _ (by first | assumption | omega) (by omega) (hq2.trans ((if_pos c1).trans rfl)) hP hD hS (lv_sub hl [0, 1, 2, 3] rfl)
  exact L2 (n + 1) 0 u _ _ _ (by first | assumption | omega) (by omega) (hq.trans (rfl)) hP hD hS (lv_sub hl [0, 1, 2, 3] rfl)
def w_Me_shut : List Cond := .code y_Me_shut b_Me_shut 4 none :: ALLW
def rm_Me_shut : Room := { frames := 20, cells := 0, slots := 0, locals := 600 }
theorem d_Me_shut_0 : decode b_Me_shut 0 = .ok (.iconst 0, 1) := by decide +kernel
theorem d_Me_shut_1 : decode b_Me_shut 1 = .ok (.istore_n 3, 1) := by decide +kernel
theorem d_Me_shut_2 : decode b_Me_shut 2 = .ok (.iload_n 3, 1) := by decide +kernel
theorem d_Me_shut_3 : decode b_Me_shut 3 = .ok (.iload_n 2, 1) := by decide +kernel
theorem d_Me_shut_4 : decode b_Me_shut 4 = .ok (.if_icmp .ge 29, 3) := by decide +kernel
theorem d_Me_shut_7 : decode b_Me_shut 7 = .ok (.aload_n 0, 1) := by decide +kernel
theorem d_Me_shut_8 : decode b_Me_shut 8 = .ok (.getfield 10, 3) := by decide +kernel
theorem d_Me_shut_11 : decode b_Me_shut 11 = .ok (.iload_n 1, 1) := by decide +kernel
theorem d_Me_shut_12 : decode b_Me_shut 12 = .ok (.iload_n 3, 1) := by decide +kernel
theorem d_Me_shut_13 : decode b_Me_shut 13 = .ok (.iadd, 1) := by decide +kernel
theorem d_Me_shut_14 : decode b_Me_shut 14 = .ok (.aload_n 0, 1) := by decide +kernel
theorem d_Me_shut_15 : decode b_Me_shut 15 = .ok (.getfield 10, 3) := by decide +kernel
theorem d_Me_shut_18 : decode b_Me_shut 18 = .ok (.iload_n 1, 1) := by decide +kernel
theorem d_Me_shut_19 : decode b_Me_shut 19 = .ok (.iload_n 3, 1) := by decide +kernel
theorem d_Me_shut_20 : decode b_Me_shut 20 = .ok (.iadd, 1) := by decide +kernel
theorem d_Me_shut_21 : decode b_Me_shut 21 = .ok (.iaload, 1) := by decide +kernel
theorem d_Me_shut_22 : decode b_Me_shut 22 = .ok (.sipush 255, 3) := by decide +kernel
theorem d_Me_shut_25 : decode b_Me_shut 25 = .ok (.iand, 1) := by decide +kernel
theorem d_Me_shut_26 : decode b_Me_shut 26 = .ok (.iastore, 1) := by decide +kernel
theorem d_Me_shut_27 : decode b_Me_shut 27 = .ok (.iinc 3 1, 3) := by decide +kernel
theorem d_Me_shut_30 : decode b_Me_shut 30 = .ok (.goto (-28), 3) := by decide +kernel
theorem d_Me_shut_33 : decode b_Me_shut 33 = .ok (.return_, 1) := by decide +kernel
def f_Me_shut_2 (at_ : Nat) (n : Nat) (u : S5) : Nat → Nat → S5 → S5
  | 0, i, u1 => u1
  | k2 + 1, i, u1 => if i < n then f_Me_shut_2 at_ n u k2 (i + 1) (uI u1 0 (at_ + i) ((aI u1 0 (at_ + i)) &&& (255 : Int32))) else u1
def f_Me_shut (at_ : Nat) (n : Nat) (u : S5) : S5 := f_Me_shut_2 at_ n u (n + 1) 0 u
set_option maxHeartbeats 8000000 in
set_option maxRecDepth 100000 in
theorem c_Me_shut (l : Launch) (dC : Nat → ClassId) (dI : Nat → Nat → Nat) (cI : ClassId) (ad : Nat → Nat) (u : S5) (at_ : Nat) (n : Nat) (ha : at_ + n ≤ 65536) (sz : Nat) : Met l y_Me_shut w_Me_shut rm_Me_shut (PreW (dC, dI) classes [(cI, .int)] (wC cI ad) u sz [.ref (ad 2), .int (nI at_), .int (nI n)]) (QWv (dC, dI) classes [(cI, .int)] (wC cI ad) (va_A (wC cI ad u) sz) (f_Me_shut at_ n u)) 0 0 (va_A (wC cI ad u) sz) := by
  generalize hres : f_Me_shut at_ n u = res
  refine Met.ofW (cc := b_Me_shut) (maxL := 4) (ret := none) (by decide) rfl ?_
  intro p e s m args below meth c s₁ B hml hv
  obtain ⟨rfl, rfl, hP, hK, hD0⟩ := hv
  have hx := B.exec
  have hb := B.bytes
  have hr := B.returns
  have hts : ∀ w9 ∈ ALLW, w9.before ([.ref (ad 2), .int (nI at_), .int (nI n)] : List Value).toArray s = true := fun w9 h => atoms_spec (ws := w_Me_shut) B.pre w9 (List.mem_cons_of_mem _ h)
  have hown : s.vm.findClass R_Me = some m.cls := findClass_of_methodNamed B.named
  have hlocks := B.notSynchronized
  have hD := hD0.self (sz := s.heap.size)
  generalize hAe : va_A (wC cI ad u) s.heap.size = A at hD ⊢
  have hA : ∀ q : Nat, s.heap.size ≤ q → A q := fun q h => by rw [← hAe]; exact Or.inr h
  have hS : va_S A s.heap s.heap [] := va_S.rf
  have hl := lv_entry ([.ref (ad 2), .int (nI at_), .int (nI n)]) (n := 4) (Nat.le_of_ble_eq_true rfl)
  rw [lg_entry_eq]
  generalize (lg_sl ([.ref (ad 2), .int (nI at_), .int (nI n)]) ++ List.replicate (4 - (lg_sl ([.ref (ad 2), .int (nI at_), .int (nI n)])).length) Slot.unset).toArray = ls at hl ⊢
  have hl : lv_has ls 4 [(0, .ref (ad 2)), (1, .int (nI at_)), (2, .int (nI n))] := hl
  have hq := hres.symm
  skip
  refine lv_iconst (v := nI 0) hx hb d_Me_shut_0 (by decide) ?_
  refine lv_istore_n (lv' := [(3, .int (nI 0)), (0, .ref (ad 2)), (1, .int (nI at_)), (2, .int (nI n))]) hx hb d_Me_shut_1 rfl hl (by decide) rfl (fun ls hl => ?_)
  have L2 : ∀ (k : Nat) (i : Nat) (u1 : S5) (H : Heap) (locs : List Loc) (ls : Array Slot), (i ≤ n) → (n - i) < k → res = f_Me_shut_2 at_ n u k i u1 → va_P (dC, dI) classes (wC cI ad u1) H → va_D A (wC cI ad u1) → va_S A s.heap H locs → lv_has ls 4 [(3, .int (nI i)), (0, .ref (ad 2)), (1, .int (nI at_)), (2, .int (nI n))] → W p l e (headSpec w_Me_shut rm_Me_shut).room s m ([.ref (ad 2), .int (nI at_), .int (nI n)] : List Value).toArray below meth c H locs 0 0 (MQ below (QWv (dC, dI) classes [(cI, .int)] (wC cI ad) A res) ([.ref (ad 2), .int (nI at_), .int (nI n)] : List Value).toArray s 0 0 A) (F0 m 2 ls []) := by
    intro k
    induction k with
    | zero => intro i u1 H locs ls hi hm; exact absurd hm (Nat.not_lt_zero _)
    | succ k2 ih2 =>
      intro i u1 H locs ls hi hm hq2 hP hD hS hl
      refine lv_iload_n hx hb d_Me_shut_2 rfl (lv_at hl 0 rfl) ?_
      refine lv_iload_n hx hb d_Me_shut_3 rfl (lv_at hl 3 rfl) ?_
      refine rn_ge (tgt := 33) hx hb (by omega) (by omega) d_Me_shut_4 (by decide) (fun c1 => ?_) (fun c1 => ?_)
      · skip
        have hE : res = u1 := hq2.trans ((if_neg (Nat.not_lt.mpr c1)).trans rfl)
        exact retWv hx hb hr hP hK hD hS hE.symm d_Me_shut_33 hlocks
      · skip
        refine lv_aload_n hx hb d_Me_shut_7 rfl (lv_at hl 1 rfl) ?_
        refine va_get (D := (dC, dI)) (ci := 2) (v := .ref (ad 8)) (C := R_Me) (T := F_Me) (N := 2) hx hb hts in_Me hown hK hP 2 rfl rfl 0 (by decide) (hts _ m_1_18) (fun _ h9 => h9) rfl d_Me_shut_8 ?_
        refine lv_iload_n hx hb d_Me_shut_11 rfl (lv_at hl 2 rfl) ?_
        refine lv_iload_n hx hb d_Me_shut_12 rfl (lv_at hl 0 rfl) ?_
        refine lv_iadd hx hb d_Me_shut_13 ?_
        refine rw_top (y := nI (at_ + i)) (nI_add at_ i) ?_
        refine lv_aload_n hx hb d_Me_shut_14 rfl (lv_at hl 1 rfl) ?_
        refine va_get (D := (dC, dI)) (ci := 2) (v := .ref (ad 8)) (C := R_Me) (T := F_Me) (N := 2) hx hb hts in_Me hown hK hP 2 rfl rfl 0 (by decide) (hts _ m_1_18) (fun _ h9 => h9) rfl d_Me_shut_15 ?_
        refine lv_iload_n hx hb d_Me_shut_18 rfl (lv_at hl 2 rfl) ?_
        refine lv_iload_n hx hb d_Me_shut_19 rfl (lv_at hl 0 rfl) ?_
        refine lv_iadd hx hb d_Me_shut_20 ?_
        refine rw_top (y := nI (at_ + i)) (nI_add at_ i) ?_
        refine aldC_cells (u := u1) (v := aI u1 0 (at_ + i)) hx hb hK hP (by omega) rfl d_Me_shut_21 ?_
        refine lv_sipush (v := 255) hx hb d_Me_shut_22 (by decide) ?_
        refine lv_iand hx hb d_Me_shut_25 ?_
        refine astC_cells (u := u1) (n := at_ + i) hx hb hK hP hD hS (by omega) d_Me_shut_26 (fun H locs hP hD hS => ?_)
        refine lv_iinc (v := nI (i + 1)) (lv' := [(3, .int (nI (i + 1))), (0, .ref (ad 2)), (1, .int (nI at_)), (2, .int (nI n))]) hx hb d_Me_shut_27 hl (k := 0) rfl (rn_inc i 1 (by decide)) (by decide) rfl (fun ls hl => ?_)
        refine lv_goto (tgt := 2) hx hb d_Me_shut_30 (by decide) ?_
        exact ih2 (i + 1) (uI u1 0 (at_ + i) ((aI u1 0 (at_ + i)) &&& (255 : Int32))) _ _ _ (by first | assumption | omega) (by omega) (hq2.trans ((if_pos c1).trans rfl)) hP hD hS (lv_sub hl [0, 1, 2, 3] rfl)
  exact L2 (n + 1) 0 u _ _ _ (by first | assumption | omega) (by omega) (hq.trans (rfl)) hP hD hS (lv_sub hl [0, 1, 2, 3] rfl)
def w_Me_move : List Cond := .code y_Me_move b_Me_move 4 none :: ALLW
def rm_Me_move : Room := { frames := 20, cells := 0, slots := 0, locals := 600 }
theorem d_Me_move_0 : decode b_Me_move 0 = .ok (.aload_n 0, 1) := by decide +kernel
theorem d_Me_move_1 : decode b_Me_move 1 = .ok (.getfield 10, 3) := by decide +kernel
theorem d_Me_move_4 : decode b_Me_move 4 = .ok (.iload_n 1, 1) := by decide +kernel
theorem d_Me_move_5 : decode b_Me_move 5 = .ok (.aload_n 0, 1) := by decide +kernel
theorem d_Me_move_6 : decode b_Me_move 6 = .ok (.getfield 10, 3) := by decide +kernel
theorem d_Me_move_9 : decode b_Me_move 9 = .ok (.iload_n 2, 1) := by decide +kernel
theorem d_Me_move_10 : decode b_Me_move 10 = .ok (.iload_n 3, 1) := by decide +kernel
theorem d_Me_move_11 : decode b_Me_move 11 = .ok (.invokestatic 28, 3) := by decide +kernel
theorem d_Me_move_14 : decode b_Me_move 14 = .ok (.return_, 1) := by decide +kernel
def f_Me_move (fr : Nat) (to : Nat) (n : Nat) (u : S5) : S5 := cp u 0 (aI u 0) fr to n
set_option maxHeartbeats 8000000 in
set_option maxRecDepth 100000 in
theorem c_Me_move (l : Launch) (dC : Nat → ClassId) (dI : Nat → Nat → Nat) (cI : ClassId) (ad : Nat → Nat) (u : S5) (fr : Nat) (to : Nat) (n : Nat) (h1 : fr + n ≤ 65536) (h2 : to + n ≤ 65536) (sz : Nat) : Met l y_Me_move w_Me_move rm_Me_move (PreW (dC, dI) classes [(cI, .int)] (wC cI ad) u sz [.ref (ad 2), .int (nI fr), .int (nI to), .int (nI n)]) (QWv (dC, dI) classes [(cI, .int)] (wC cI ad) (va_A (wC cI ad u) sz) (f_Me_move fr to n u)) 0 0 (va_A (wC cI ad u) sz) := by
  generalize hres : f_Me_move fr to n u = res
  refine Met.ofW (cc := b_Me_move) (maxL := 4) (ret := none) (by decide) rfl ?_
  intro p e s m args below meth c s₁ B hml hv
  obtain ⟨rfl, rfl, hP, hK, hD0⟩ := hv
  have hx := B.exec
  have hb := B.bytes
  have hr := B.returns
  have hts : ∀ w9 ∈ ALLW, w9.before ([.ref (ad 2), .int (nI fr), .int (nI to), .int (nI n)] : List Value).toArray s = true := fun w9 h => atoms_spec (ws := w_Me_move) B.pre w9 (List.mem_cons_of_mem _ h)
  have hown : s.vm.findClass R_Me = some m.cls := findClass_of_methodNamed B.named
  have hlocks := B.notSynchronized
  have hD := hD0.self (sz := s.heap.size)
  generalize hAe : va_A (wC cI ad u) s.heap.size = A at hD ⊢
  have hA : ∀ q : Nat, s.heap.size ≤ q → A q := fun q h => by rw [← hAe]; exact Or.inr h
  have hS : va_S A s.heap s.heap [] := va_S.rf
  have hl := lv_entry ([.ref (ad 2), .int (nI fr), .int (nI to), .int (nI n)]) (n := 4) (Nat.le_of_ble_eq_true rfl)
  rw [lg_entry_eq]
  generalize (lg_sl ([.ref (ad 2), .int (nI fr), .int (nI to), .int (nI n)]) ++ List.replicate (4 - (lg_sl ([.ref (ad 2), .int (nI fr), .int (nI to), .int (nI n)])).length) Slot.unset).toArray = ls at hl ⊢
  have hl : lv_has ls 4 [(0, .ref (ad 2)), (1, .int (nI fr)), (2, .int (nI to)), (3, .int (nI n))] := hl
  have hq := hres.symm
  skip
  refine lv_aload_n hx hb d_Me_move_0 rfl (lv_at hl 0 rfl) ?_
  refine va_get (D := (dC, dI)) (ci := 2) (v := .ref (ad 8)) (C := R_Me) (T := F_Me) (N := 2) hx hb hts in_Me hown hK hP 2 rfl rfl 0 (by decide) (hts _ m_1_18) (fun _ h9 => h9) rfl d_Me_move_1 ?_
  refine lv_iload_n hx hb d_Me_move_4 rfl (lv_at hl 1 rfl) ?_
  refine lv_aload_n hx hb d_Me_move_5 rfl (lv_at hl 0 rfl) ?_
  refine va_get (D := (dC, dI)) (ci := 2) (v := .ref (ad 8)) (C := R_Me) (T := F_Me) (N := 2) hx hb hts in_Me hown hK hP 2 rfl rfl 0 (by decide) (hts _ m_1_18) (fun _ h9 => h9) rfl d_Me_move_6 ?_
  refine lv_iload_n hx hb d_Me_move_9 rfl (lv_at hl 2 rfl) ?_
  refine lv_iload_n hx hb d_Me_move_10 rfl (lv_at hl 3 rfl) ?_
  refine cpN hx hb (hml.trans hl.1.symm) hown (hts _ m_1_2) (hts _ m_1_4) (hts _ m_1_3) (hts _ m_0_5) hK hP hD hS 8 8 0 0 rfl rfl rfl rfl (by omega) (by omega) (by omega) (by omega) (by omega) (Nat.le_of_ble_eq_true rfl) (Nat.le_of_ble_eq_true rfl) d_Me_move_11 (fun H locs hP hD hS => ?_)
  have hP : va_P (dC, dI) classes (wC cI ad (cp u 0 (aI u 0) fr to n)) H := hP
  have hD : va_D A (wC cI ad (cp u 0 (aI u 0) fr to n)) := hD
  have hE : res = cp u 0 (aI u 0) fr to n := hq.trans (rfl)
  exact retWv hx hb hr hP hK hD hS hE.symm d_Me_move_14 hlocks
