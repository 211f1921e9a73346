def w_Mo_image : List Cond := .code y_Mo_image b_Mo_image 5 none :: ALLW
def rm_Mo_image : Room := { frames := 21, cells := 0, slots := 0, locals := 622 }
theorem d_Mo_image_0 : decode b_Mo_image 0 = .ok (.aload_n 0, 1) := by decide +kernel
theorem d_Mo_image_1 : decode b_Mo_image 1 = .ok (.iload_n 1, 1) := by decide +kernel
theorem d_Mo_image_2 : decode b_Mo_image 2 = .ok (.ifCond .lt 17, 3) := by decide +kernel
theorem d_Mo_image_5 : decode b_Mo_image 5 = .ok (.iload_n 1, 1) := by decide +kernel
theorem d_Mo_image_6 : decode b_Mo_image 6 = .ok (.sipush 16376, 3) := by decide +kernel
theorem d_Mo_image_9 : decode b_Mo_image 9 = .ok (.if_icmp .gt 10, 3) := by decide +kernel
theorem d_Mo_image_12 : decode b_Mo_image 12 = .ok (.iload_n 1, 1) := by decide +kernel
theorem d_Mo_image_13 : decode b_Mo_image 13 = .ok (.bipush 8, 2) := by decide +kernel
theorem d_Mo_image_15 : decode b_Mo_image 15 = .ok (.irem, 1) := by decide +kernel
theorem d_Mo_image_16 : decode b_Mo_image 16 = .ok (.ifCond .eq 7, 3) := by decide +kernel
theorem d_Mo_image_19 : decode b_Mo_image 19 = .ok (.iconst 1, 1) := by decide +kernel
theorem d_Mo_image_20 : decode b_Mo_image 20 = .ok (.goto 4, 3) := by decide +kernel
theorem d_Mo_image_23 : decode b_Mo_image 23 = .ok (.iconst 0, 1) := by decide +kernel
theorem d_Mo_image_24 : decode b_Mo_image 24 = .ok (.iconst 1, 1) := by decide +kernel
theorem d_Mo_image_25 : decode b_Mo_image 25 = .ok (.invokevirtual 74, 3) := by decide +kernel
theorem d_Mo_image_28 : decode b_Mo_image 28 = .ok (.ifCond .eq 4, 3) := by decide +kernel
theorem d_Mo_image_31 : decode b_Mo_image 31 = .ok (.return_, 1) := by decide +kernel
theorem d_Mo_image_32 : decode b_Mo_image 32 = .ok (.iconst 0, 1) := by decide +kernel
theorem d_Mo_image_33 : decode b_Mo_image 33 = .ok (.istore 4, 2) := by decide +kernel
theorem d_Mo_image_35 : decode b_Mo_image 35 = .ok (.iload 4, 2) := by decide +kernel
theorem d_Mo_image_37 : decode b_Mo_image 37 = .ok (.bipush 8, 2) := by decide +kernel
theorem d_Mo_image_39 : decode b_Mo_image 39 = .ok (.if_icmp .ge 30, 3) := by decide +kernel
theorem d_Mo_image_42 : decode b_Mo_image 42 = .ok (.aload_n 0, 1) := by decide +kernel
theorem d_Mo_image_43 : decode b_Mo_image 43 = .ok (.getfield 9, 3) := by decide +kernel
theorem d_Mo_image_46 : decode b_Mo_image 46 = .ok (.iload_n 1, 1) := by decide +kernel
theorem d_Mo_image_47 : decode b_Mo_image 47 = .ok (.iload 4, 2) := by decide +kernel
theorem d_Mo_image_49 : decode b_Mo_image 49 = .ok (.iadd, 1) := by decide +kernel
theorem d_Mo_image_50 : decode b_Mo_image 50 = .ok (.lload_n 2, 1) := by decide +kernel
theorem d_Mo_image_51 : decode b_Mo_image 51 = .ok (.bipush 8, 2) := by decide +kernel
theorem d_Mo_image_53 : decode b_Mo_image 53 = .ok (.iload 4, 2) := by decide +kernel
theorem d_Mo_image_55 : decode b_Mo_image 55 = .ok (.imul, 1) := by decide +kernel
theorem d_Mo_image_56 : decode b_Mo_image 56 = .ok (.lushr, 1) := by decide +kernel
theorem d_Mo_image_57 : decode b_Mo_image 57 = .ok (.l2i, 1) := by decide +kernel
theorem d_Mo_image_58 : decode b_Mo_image 58 = .ok (.sipush 255, 3) := by decide +kernel
theorem d_Mo_image_61 : decode b_Mo_image 61 = .ok (.iand, 1) := by decide +kernel
theorem d_Mo_image_62 : decode b_Mo_image 62 = .ok (.iastore, 1) := by decide +kernel
theorem d_Mo_image_63 : decode b_Mo_image 63 = .ok (.iinc 4 1, 3) := by decide +kernel
theorem d_Mo_image_66 : decode b_Mo_image 66 = .ok (.goto (-31), 3) := by decide +kernel
theorem d_Mo_image_69 : decode b_Mo_image 69 = .ok (.return_, 1) := by decide +kernel
def f_Mo_image_35 (a : Int32) (w : Int64) (u : S5) : Nat → Nat → S5 → S5
  | 0, i, u1 => u1
  | k35 + 1, i, u1 => if i < 8 then f_Mo_image_35 a w u k35 (i + 1) (uI u1 0 (a.toNatClampNeg + i) ((((w.toUInt64 >>> ((nI (8 * i)).toInt64.toUInt64 &&& Int64.toUInt64 63)).toInt64).toInt32) &&& (255 : Int32))) else u1
def f_Mo_image (a : Int32) (w : Int64) (u : S5) : S5 := let y : Bool := if a < 0 then true else if 16376 < a then true else if (a - a / (8 : Int32) * (8 : Int32)) = 0 then false else true; if ((f_Mo_fails y 1 u).1) = true then (f_Mo_fails y 1 u).2 else f_Mo_image_35 a w u 9 0 ((f_Mo_fails y 1 u).2)
set_option maxHeartbeats 8000000 in
set_option maxRecDepth 100000 in
theorem c_Mo_image (l : Launch) (dC : Nat → ClassId) (dI : Nat → Nat → Nat) (cI cZ : ClassId) (ad : Nat → Nat) (u : S5) (a : Int32) (w : Int64) (sz : Nat) : Met l y_Mo_image w_Mo_image rm_Mo_image (PreW (dC, dI) classes [(cI, .int), (cZ, .boolean)] (wM cI cZ ad) u sz [.ref (ad 0), .int a, .long w]) (QWv (dC, dI) classes [(cI, .int), (cZ, .boolean)] (wM cI cZ ad) (va_A (wM cI cZ ad u) sz) (f_Mo_image a w u)) 0 0 (va_A (wM cI cZ ad u) sz) := by
  generalize hres : f_Mo_image a w u = res
  refine Met.ofW (cc := b_Mo_image) (maxL := 5) (ret := none) (by decide) rfl ?_
  intro p e s m args below meth c s₁ B hml hv
  obtain ⟨rfl, rfl, hP, hK, hD0⟩ := hv
  have hx := B.exec
  have hb := B.bytes
  have hr := B.returns
  have hts : ∀ w9 ∈ ALLW, w9.before ([.ref (ad 0), .int a, .long w] : List Value).toArray s = true := fun w9 h => atoms_spec (ws := w_Mo_image) B.pre w9 (List.mem_cons_of_mem _ h)
  have hown : s.vm.findClass R_Mo = some m.cls := findClass_of_methodNamed B.named
  have hlocks := B.notSynchronized
  have hD := hD0.self (sz := s.heap.size)
  generalize hAe : va_A (wM cI cZ ad u) s.heap.size = A at hD ⊢
  have hA : ∀ q : Nat, s.heap.size ≤ q → A q := fun q h => by rw [← hAe]; exact Or.inr h
  have hS : va_S A s.heap s.heap [] := va_S.rf
  have hl := lv_entry ([.ref (ad 0), .int a, .long w]) (n := 5) (Nat.le_of_ble_eq_true rfl)
  rw [lg_entry_eq]
  generalize (lg_sl ([.ref (ad 0), .int a, .long w]) ++ List.replicate (5 - (lg_sl ([.ref (ad 0), .int a, .long w])).length) Slot.unset).toArray = ls at hl ⊢
  have hl : lv_has ls 5 [(0, .ref (ad 0)), (1, .int a), (2, .long w)] := hl
  have hq := hres.symm
  skip
  refine lv_aload_n hx hb d_Mo_image_0 rfl (lv_at hl 0 rfl) ?_
  refine lv_iload_n hx hb d_Mo_image_1 rfl (lv_at hl 1 rfl) ?_
  have J24 : ∀ (y : Bool) (H : Heap) (locs : List Loc), y = (if a < 0 then true else if 16376 < a then true else if (a - a / (8 : Int32) * (8 : Int32)) = 0 then false else true) → va_P (dC, dI) classes (wM cI cZ ad u) H → va_D A (wM cI cZ ad u) → va_S A s.heap H locs → W p l e (headSpec w_Mo_image rm_Mo_image).room s m ([.ref (ad 0), .int a, .long w] : List Value).toArray below meth c H locs 0 0 (MQ below (QWv (dC, dI) classes [(cI, .int), (cZ, .boolean)] (wM cI cZ ad) A res) ([.ref (ad 0), .int a, .long w] : List Value).toArray s 0 0 A) (F0 m 24 ls [.int (b2i y), .ref (ad 0)]) := by
    intro y H locs ey hP hD hS
    refine lv_iconst (v := 1) hx hb d_Mo_image_24 (by decide) ?_
    refine callWi (va_runV (As := [.int (b2i y), .int 1]) (rest := []) ⟨hx, hb, hml, hown, hts⟩ (c_Mo_fails l dC dI cI cZ ad u y 1 H.size) (cwV 2 hts (goodV m_15_21 m_15_22 m_19_15 m_0_12 m_15_23) rfl rfl rfl (by decide +kernel) ⟨Nat.le_of_ble_eq_true rfl, Nat.le_of_ble_eq_true rfl⟩) ⟨preW_blind, va_recv hK hP (ci := 8) (q0 := 0) rfl rfl, preW_ok hP hD hK⟩ rfl rfl hl.1 rfl (lv_room (Nat.le_of_ble_eq_true rfl)) d_Mo_image_25 ⟨Nat.zero_le _, Nat.zero_le _⟩) hP hD hS hA (fun H locs hP hD hS => ?_)
    refine rb_eq (tgt := 32) hx hb d_Mo_image_28 (by decide) (fun c1 => ?_) (fun c1 => ?_)
    · skip
      have hy0 : ¬ y = true := by assumption
      have c1 : ¬ a < 0 := fun h => hy0 (by rw [ey, if_pos h])
      have c2 : a ≤ 16376 := Int32.not_lt.mp (fun h => hy0 (by rw [ey, if_neg c1, if_pos h]))
      have hn1 : a.toNatClampNeg ≤ 16376 := hp_nle (by decide) (by decide) c1 c2
      refine lv_iconst (v := nI 0) hx hb d_Mo_image_32 (by decide) ?_
      refine lv_istore (lv' := [(4, .int (nI 0)), (0, .ref (ad 0)), (1, .int a), (2, .long w)]) hx hb d_Mo_image_33 hl (by decide) rfl (fun ls hl => ?_)
      have L35 : ∀ (k : Nat) (i : Nat) (u1 : S5) (H : Heap) (locs : List Loc) (ls : Array Slot), (i ≤ 8) → (8 - i) < k → res = f_Mo_image_35 a w u k i u1 → va_P (dC, dI) classes (wM cI cZ ad u1) H → va_D A (wM cI cZ ad u1) → va_S A s.heap H locs → lv_has ls 5 [(4, .int (nI i)), (0, .ref (ad 0)), (1, .int a), (2, .long w)] → W p l e (headSpec w_Mo_image rm_Mo_image).room s m ([.ref (ad 0), .int a, .long w] : List Value).toArray below meth c H locs 0 0 (MQ below (QWv (dC, dI) classes [(cI, .int), (cZ, .boolean)] (wM cI cZ ad) A res) ([.ref (ad 0), .int a, .long w] : List Value).toArray s 0 0 A) (F0 m 35 ls []) := by
        intro k
        induction k with
        | zero => intro i u1 H locs ls hi hm; exact absurd hm (Nat.not_lt_zero _)
        | succ k35 ih35 =>
          intro i u1 H locs ls hi hm hq35 hP hD hS hl
          refine lv_iload hx hb d_Mo_image_35 (lv_at hl 0 rfl) ?_
          refine lv_bipush (v := nI 8) hx hb d_Mo_image_37 (by decide) ?_
          refine rn_ge (tgt := 69) hx hb (by omega) (by omega) d_Mo_image_39 (by decide) (fun c2 => ?_) (fun c2 => ?_)
          · skip
            have hE : res = u1 := hq35.trans ((if_neg (Nat.not_lt.mpr c2)).trans rfl)
            exact retWv hx hb hr hP hK hD hS hE.symm d_Mo_image_69 hlocks
          · skip
            refine lv_aload_n hx hb d_Mo_image_42 rfl (lv_at hl 1 rfl) ?_
            refine va_get (D := (dC, dI)) (ci := 8) (v := .ref (ad 1)) (C := R_Mo) (T := F_Mo) (N := 31) hx hb hts in_Mo hown hK hP 0 rfl rfl 1 (by decide) (hts _ m_13_31) (fun _ h9 => h9) rfl d_Mo_image_43 ?_
            refine lv_iload_n hx hb d_Mo_image_46 rfl (lv_at hl 2 rfl) ?_
            refine rw_top (y := nI a.toNatClampNeg) (hp_n c1) ?_
            refine lv_iload hx hb d_Mo_image_47 (lv_at hl 0 rfl) ?_
            refine lv_iadd hx hb d_Mo_image_49 ?_
            refine rw_top (y := nI (a.toNatClampNeg + i)) (nI_add a.toNatClampNeg i) ?_
            refine lv_lload_n hx hb d_Mo_image_50 rfl (lv_at hl 3 rfl) ?_
            refine lv_bipush (v := nI 8) hx hb d_Mo_image_51 (by decide) ?_
            refine lv_iload hx hb d_Mo_image_53 (lv_at hl 0 rfl) ?_
            refine lv_imul hx hb d_Mo_image_55 ?_
            refine rw_top (y := nI (8 * i)) (pk_mul 8 i) ?_
            refine lv_lushr (v := (w.toUInt64 >>> ((nI (8 * i)).toInt64.toUInt64 &&& Int64.toUInt64 63)).toInt64) hx hb d_Mo_image_56 rfl ?_
            refine lv_l2i (v := ((w.toUInt64 >>> ((nI (8 * i)).toInt64.toUInt64 &&& Int64.toUInt64 63)).toInt64).toInt32) hx hb d_Mo_image_57 rfl ?_
            refine lv_sipush (v := 255) hx hb d_Mo_image_58 (by decide) ?_
            refine lv_iand hx hb d_Mo_image_61 ?_
            refine astM_image (u := u1) (n := a.toNatClampNeg + i) hx hb hK hP hD hS (by omega) d_Mo_image_62 (fun H locs hP hD hS => ?_)
            refine lv_iinc (v := nI (i + 1)) (lv' := [(4, .int (nI (i + 1))), (0, .ref (ad 0)), (1, .int a), (2, .long w)]) hx hb d_Mo_image_63 hl (k := 0) rfl (rn_inc i 1 (by decide)) (by decide) rfl (fun ls hl => ?_)
            refine lv_goto (tgt := 35) hx hb d_Mo_image_66 (by decide) ?_
            exact ih35 (i + 1) (uI u1 0 (a.toNatClampNeg + i) ((((w.toUInt64 >>> ((nI (8 * i)).toInt64.toUInt64 &&& Int64.toUInt64 63)).toInt64).toInt32) &&& (255 : Int32))) _ _ _ (by first | assumption | omega) (by omega) (hq35.trans ((if_pos c2).trans rfl)) hP hD hS (lv_sub hl [0, 1, 2, 3] rfl)
      exact L35 9 0 ((f_Mo_fails y 1 u).2) _ _ _ (by first | assumption | omega) (by omega) ((by subst ey; exact hq.trans ((if_neg c1).trans rfl))) hP hD hS (lv_sub hl [0, 1, 2, 3] rfl)
    · skip
      have hE : res = (f_Mo_fails y 1 u).2 := (by subst ey; exact hq.trans ((if_pos c1).trans rfl))
      exact retWv hx hb hr hP hK hD hS hE.symm d_Mo_image_31 hlocks
  refine lv_if_lt (tgt := 19) hx hb d_Mo_image_2 (by decide) (fun c3 => ?_) (fun c3 => ?_)
  · skip
    refine lv_iconst (v := 1) hx hb d_Mo_image_19 (by decide) ?_
    refine lv_goto (tgt := 24) hx hb d_Mo_image_20 (by decide) ?_
    exact J24 true _ _ (Eq.symm ((if_pos c3).trans (rfl))) hP hD hS
  · skip
    refine lv_iload_n hx hb d_Mo_image_5 rfl (lv_at hl 1 rfl) ?_
    refine lv_sipush (v := 16376) hx hb d_Mo_image_6 (by decide) ?_
    refine lv_icmp_gt (tgt := 19) hx hb d_Mo_image_9 (by decide) (fun c4 => ?_) (fun c4 => ?_)
    · skip
      refine lv_iconst (v := 1) hx hb d_Mo_image_19 (by decide) ?_
      refine lv_goto (tgt := 24) hx hb d_Mo_image_20 (by decide) ?_
      exact J24 true _ _ (Eq.symm ((if_neg c3).trans ((if_pos c4).trans (rfl)))) hP hD hS
    · skip
      refine lv_iload_n hx hb d_Mo_image_12 rfl (lv_at hl 1 rfl) ?_
      refine lv_bipush (v := 8) hx hb d_Mo_image_13 (by decide) ?_
      refine lv_irem hx hb d_Mo_image_15 (by decide) ?_
      refine lv_if_eq (tgt := 23) hx hb d_Mo_image_16 (by decide) (fun c5 => ?_) (fun c5 => ?_)
      · skip
        refine lv_iconst (v := 0) hx hb d_Mo_image_23 (by decide) ?_
        exact J24 false _ _ (Eq.symm ((if_neg c3).trans ((if_neg c4).trans ((if_pos c5).trans (rfl))))) hP hD hS
      · skip
        refine lv_iconst (v := 1) hx hb d_Mo_image_19 (by decide) ?_
        refine lv_goto (tgt := 24) hx hb d_Mo_image_20 (by decide) ?_
        exact J24 true _ _ (Eq.symm ((if_neg c3).trans ((if_neg c4).trans ((if_neg c5).trans (rfl))))) hP hD hS
def w_Mo_register : List Cond := .code y_Mo_register b_Mo_register 2 (some .int) :: ALLW
def rm_Mo_register : Room := { frames := 21, cells := 0, slots := 0, locals := 622 }
theorem d_Mo_register_0 : decode b_Mo_register 0 = .ok (.aload_n 0, 1) := by decide +kernel
theorem d_Mo_register_1 : decode b_Mo_register 1 = .ok (.iload_n 1, 1) := by decide +kernel
theorem d_Mo_register_2 : decode b_Mo_register 2 = .ok (.ifCond .lt 9, 3) := by decide +kernel
theorem d_Mo_register_5 : decode b_Mo_register 5 = .ok (.iload_n 1, 1) := by decide +kernel
theorem d_Mo_register_6 : decode b_Mo_register 6 = .ok (.bipush 31, 2) := by decide +kernel
theorem d_Mo_register_8 : decode b_Mo_register 8 = .ok (.if_icmp .le 7, 3) := by decide +kernel
theorem d_Mo_register_11 : decode b_Mo_register 11 = .ok (.iconst 1, 1) := by decide +kernel
theorem d_Mo_register_12 : decode b_Mo_register 12 = .ok (.goto 4, 3) := by decide +kernel
theorem d_Mo_register_15 : decode b_Mo_register 15 = .ok (.iconst 0, 1) := by decide +kernel
theorem d_Mo_register_16 : decode b_Mo_register 16 = .ok (.iconst 1, 1) := by decide +kernel
theorem d_Mo_register_17 : decode b_Mo_register 17 = .ok (.invokevirtual 74, 3) := by decide +kernel
theorem d_Mo_register_20 : decode b_Mo_register 20 = .ok (.ifCond .eq 7, 3) := by decide +kernel
theorem d_Mo_register_23 : decode b_Mo_register 23 = .ok (.iconst 0, 1) := by decide +kernel
theorem d_Mo_register_24 : decode b_Mo_register 24 = .ok (.goto 9, 3) := by decide +kernel
theorem d_Mo_register_27 : decode b_Mo_register 27 = .ok (.aload_n 0, 1) := by decide +kernel
theorem d_Mo_register_28 : decode b_Mo_register 28 = .ok (.getfield 17, 3) := by decide +kernel
theorem d_Mo_register_31 : decode b_Mo_register 31 = .ok (.iload_n 1, 1) := by decide +kernel
theorem d_Mo_register_32 : decode b_Mo_register 32 = .ok (.iaload, 1) := by decide +kernel
theorem d_Mo_register_33 : decode b_Mo_register 33 = .ok (.ireturn, 1) := by decide +kernel
def f_Mo_register (a : Int32) (u : S5) : Int32 × S5 := let y : Bool := if a < 0 then true else if a ≤ 31 then false else true; if ((f_Mo_fails y 1 u).1) = true then (0, (f_Mo_fails y 1 u).2) else (aI ((f_Mo_fails y 1 u).2) 2 a.toNatClampNeg, (f_Mo_fails y 1 u).2)
set_option maxHeartbeats 8000000 in
set_option maxRecDepth 100000 in
theorem c_Mo_register (l : Launch) (dC : Nat → ClassId) (dI : Nat → Nat → Nat) (cI cZ : ClassId) (ad : Nat → Nat) (u : S5) (a : Int32) (sz : Nat) : Met l y_Mo_register w_Mo_register rm_Mo_register (PreW (dC, dI) classes [(cI, .int), (cZ, .boolean)] (wM cI cZ ad) u sz [.ref (ad 0), .int a]) (QWi (dC, dI) classes [(cI, .int), (cZ, .boolean)] (wM cI cZ ad) (va_A (wM cI cZ ad u) sz) (f_Mo_register a u).1 (f_Mo_register a u).2) 0 0 (va_A (wM cI cZ ad u) sz) := by
  generalize hres : f_Mo_register a u = res
  refine Met.ofW (cc := b_Mo_register) (maxL := 2) (ret := (some .int)) (by decide) rfl ?_
  intro p e s m args below meth c s₁ B hml hv
  obtain ⟨rfl, rfl, hP, hK, hD0⟩ := hv
  have hx := B.exec
  have hb := B.bytes
  have hr := B.returns
  have hts : ∀ w9 ∈ ALLW, w9.before ([.ref (ad 0), .int a] : List Value).toArray s = true := fun w9 h => atoms_spec (ws := w_Mo_register) B.pre w9 (List.mem_cons_of_mem _ h)
  have hown : s.vm.findClass R_Mo = some m.cls := findClass_of_methodNamed B.named
  have hlocks := B.notSynchronized
  have hD := hD0.self (sz := s.heap.size)
  generalize hAe : va_A (wM cI cZ ad u) s.heap.size = A at hD ⊢
  have hA : ∀ q : Nat, s.heap.size ≤ q → A q := fun q h => by rw [← hAe]; exact Or.inr h
  have hS : va_S A s.heap s.heap [] := va_S.rf
  have hl := lv_entry ([.ref (ad 0), .int a]) (n := 2) (Nat.le_of_ble_eq_true rfl)
  rw [lg_entry_eq]
  generalize (lg_sl ([.ref (ad 0), .int a]) ++ List.replicate (2 - (lg_sl ([.ref (ad 0), .int a])).length) Slot.unset).toArray = ls at hl ⊢
  have hl : lv_has ls 2 [(0, .ref (ad 0)), (1, .int a)] := hl
  have hq := hres.symm
  skip
  refine lv_aload_n hx hb d_Mo_register_0 rfl (lv_at hl 0 rfl) ?_
  refine lv_iload_n hx hb d_Mo_register_1 rfl (lv_at hl 1 rfl) ?_
  have J16 : ∀ (y : Bool) (H : Heap) (locs : List Loc), y = (if a < 0 then true else if a ≤ 31 then false else true) → va_P (dC, dI) classes (wM cI cZ ad u) H → va_D A (wM cI cZ ad u) → va_S A s.heap H locs → W p l e (headSpec w_Mo_register rm_Mo_register).room s m ([.ref (ad 0), .int a] : List Value).toArray below meth c H locs 0 0 (MQ below (QWi (dC, dI) classes [(cI, .int), (cZ, .boolean)] (wM cI cZ ad) A res.1 res.2) ([.ref (ad 0), .int a] : List Value).toArray s 0 0 A) (F0 m 16 ls [.int (b2i y), .ref (ad 0)]) := by
    intro y H locs ey hP hD hS
    refine lv_iconst (v := 1) hx hb d_Mo_register_16 (by decide) ?_
    refine callWi (va_runV (As := [.int (b2i y), .int 1]) (rest := []) ⟨hx, hb, hml, hown, hts⟩ (c_Mo_fails l dC dI cI cZ ad u y 1 H.size) (cwV 2 hts (goodV m_15_21 m_15_22 m_19_15 m_0_12 m_15_23) rfl rfl rfl (by decide +kernel) ⟨Nat.le_of_ble_eq_true rfl, Nat.le_of_ble_eq_true rfl⟩) ⟨preW_blind, va_recv hK hP (ci := 8) (q0 := 0) rfl rfl, preW_ok hP hD hK⟩ rfl rfl hl.1 rfl (lv_room (Nat.le_of_ble_eq_true rfl)) d_Mo_register_17 ⟨Nat.zero_le _, Nat.zero_le _⟩) hP hD hS hA (fun H locs hP hD hS => ?_)
    refine rb_eq (tgt := 27) hx hb d_Mo_register_20 (by decide) (fun c1 => ?_) (fun c1 => ?_)
    · skip
      have hy0 : ¬ y = true := by assumption
      have c1 : ¬ a < 0 := fun h => hy0 (by rw [ey, if_pos h])
      have c2 : a ≤ 31 := Decidable.not_not.mp (fun h => hy0 (by rw [ey, if_neg c1, if_neg h]))
      have hn1 : a.toNatClampNeg ≤ 31 := hp_nle (by decide) (by decide) c1 c2
      refine lv_aload_n hx hb d_Mo_register_27 rfl (lv_at hl 0 rfl) ?_
      refine va_get (D := (dC, dI)) (ci := 8) (v := .ref (ad 3)) (C := R_Mo) (T := F_Mo) (N := 31) hx hb hts in_Mo hown hK hP 0 rfl rfl 3 (by decide) (hts _ m_13_33) (fun _ h9 => h9) rfl d_Mo_register_28 ?_
      refine lv_iload_n hx hb d_Mo_register_31 rfl (lv_at hl 1 rfl) ?_
      refine rw_top (y := nI a.toNatClampNeg) (hp_n c1) ?_
      refine aldM_x (u := ((f_Mo_fails y 1 u).2)) (v := aI ((f_Mo_fails y 1 u).2) 2 a.toNatClampNeg) hx hb hK hP (by omega) rfl d_Mo_register_32 ?_
      have hE : res = (aI ((f_Mo_fails y 1 u).2) 2 a.toNatClampNeg, (f_Mo_fails y 1 u).2) := (by subst ey; exact hq.trans ((if_neg c1).trans rfl))
      exact retWi (x := aI ((f_Mo_fails y 1 u).2) 2 a.toNatClampNeg) hx hb hr hP hK hD hS (congrArg Prod.fst hE).symm (congrArg Prod.snd hE).symm d_Mo_register_33 hlocks
    · skip
      refine lv_iconst (v := 0) hx hb d_Mo_register_23 (by decide) ?_
      refine lv_goto (tgt := 33) hx hb d_Mo_register_24 (by decide) ?_
      have hE : res = (0, (f_Mo_fails y 1 u).2) := (by subst ey; exact hq.trans ((if_pos c1).trans rfl))
      exact retWi (x := 0) hx hb hr hP hK hD hS (congrArg Prod.fst hE).symm (congrArg Prod.snd hE).symm d_Mo_register_33 hlocks
  refine lv_if_lt (tgt := 11) hx hb d_Mo_register_2 (by decide) (fun c2 => ?_) (fun c2 => ?_)
  · skip
    refine lv_iconst (v := 1) hx hb d_Mo_register_11 (by decide) ?_
    refine lv_goto (tgt := 16) hx hb d_Mo_register_12 (by decide) ?_
    exact J16 true _ _ (Eq.symm ((if_pos c2).trans (rfl))) hP hD hS
  · skip
    refine lv_iload_n hx hb d_Mo_register_5 rfl (lv_at hl 1 rfl) ?_
    refine lv_bipush (v := 31) hx hb d_Mo_register_6 (by decide) ?_
    refine lv_icmp_le (tgt := 15) hx hb d_Mo_register_8 (by decide) (fun c3 => ?_) (fun c3 => ?_)
    · skip
      refine lv_iconst (v := 0) hx hb d_Mo_register_15 (by decide) ?_
      exact J16 false _ _ (Eq.symm ((if_neg c2).trans ((if_pos c3).trans (rfl)))) hP hD hS
    · skip
      refine lv_iconst (v := 1) hx hb d_Mo_register_11 (by decide) ?_
      refine lv_goto (tgt := 16) hx hb d_Mo_register_12 (by decide) ?_
      exact J16 true _ _ (Eq.symm ((if_neg c2).trans ((if_neg c3).trans (rfl)))) hP hD hS
def w_Mo_unknown : List Cond := .code y_Mo_unknown b_Mo_unknown 2 (some .int) :: ALLW
def rm_Mo_unknown : Room := { frames := 21, cells := 0, slots := 0, locals := 623 }
theorem d_Mo_unknown_0 : decode b_Mo_unknown 0 = .ok (.aload_n 0, 1) := by decide +kernel
theorem d_Mo_unknown_1 : decode b_Mo_unknown 1 = .ok (.iload_n 1, 1) := by decide +kernel
theorem d_Mo_unknown_2 : decode b_Mo_unknown 2 = .ok (.ifCond .lt 9, 3) := by decide +kernel
theorem d_Mo_unknown_5 : decode b_Mo_unknown 5 = .ok (.iload_n 1, 1) := by decide +kernel
theorem d_Mo_unknown_6 : decode b_Mo_unknown 6 = .ok (.bipush 31, 2) := by decide +kernel
theorem d_Mo_unknown_8 : decode b_Mo_unknown 8 = .ok (.if_icmp .le 7, 3) := by decide +kernel
theorem d_Mo_unknown_11 : decode b_Mo_unknown 11 = .ok (.iconst 1, 1) := by decide +kernel
theorem d_Mo_unknown_12 : decode b_Mo_unknown 12 = .ok (.goto 4, 3) := by decide +kernel
theorem d_Mo_unknown_15 : decode b_Mo_unknown 15 = .ok (.iconst 0, 1) := by decide +kernel
theorem d_Mo_unknown_16 : decode b_Mo_unknown 16 = .ok (.iconst 1, 1) := by decide +kernel
theorem d_Mo_unknown_17 : decode b_Mo_unknown 17 = .ok (.invokevirtual 74, 3) := by decide +kernel
theorem d_Mo_unknown_20 : decode b_Mo_unknown 20 = .ok (.ifCond .eq 7, 3) := by decide +kernel
theorem d_Mo_unknown_23 : decode b_Mo_unknown 23 = .ok (.iconst 0, 1) := by decide +kernel
theorem d_Mo_unknown_24 : decode b_Mo_unknown 24 = .ok (.goto 8, 3) := by decide +kernel
theorem d_Mo_unknown_27 : decode b_Mo_unknown 27 = .ok (.aload_n 0, 1) := by decide +kernel
theorem d_Mo_unknown_28 : decode b_Mo_unknown 28 = .ok (.iload_n 1, 1) := by decide +kernel
theorem d_Mo_unknown_29 : decode b_Mo_unknown 29 = .ok (.invokevirtual 160, 3) := by decide +kernel
theorem d_Mo_unknown_32 : decode b_Mo_unknown 32 = .ok (.ireturn, 1) := by decide +kernel
def f_Mo_unknown (a : Int32) (u : S5) : Int32 × S5 := let y : Bool := if a < 0 then true else if a ≤ 31 then false else true; if ((f_Mo_fails y 1 u).1) = true then (0, (f_Mo_fails y 1 u).2) else (f_Mo_dark a.toNatClampNeg ((f_Mo_fails y 1 u).2), (f_Mo_fails y 1 u).2)
set_option maxHeartbeats 8000000 in
set_option maxRecDepth 100000 in
theorem c_Mo_unknown (l : Launch) (dC : Nat → ClassId) (dI : Nat → Nat → Nat) (cI cZ : ClassId) (ad : Nat → Nat) (u : S5) (a : Int32) (sz : Nat) : Met l y_Mo_unknown w_Mo_unknown rm_Mo_unknown (PreW (dC, dI) classes [(cI, .int), (cZ, .boolean)] (wM cI cZ ad) u sz [.ref (ad 0), .int a]) (QWi (dC, dI) classes [(cI, .int), (cZ, .boolean)] (wM cI cZ ad) (va_A (wM cI cZ ad u) sz) (f_Mo_unknown a u).1 (f_Mo_unknown a u).2) 0 0 (va_A (wM cI cZ ad u) sz) := by
  generalize hres : f_Mo_unknown a u = res
  refine Met.ofW (cc := b_Mo_unknown) (maxL := 2) (ret := (some .int)) (by decide) rfl ?_
  intro p e s m args below meth c s₁ B hml hv
  obtain ⟨rfl, rfl, hP, hK, hD0⟩ := hv
  have hx := B.exec
  have hb := B.bytes
  have hr := B.returns
  have hts : ∀ w9 ∈ ALLW, w9.before ([.ref (ad 0), .int a] : List Value).toArray s = true := fun w9 h => atoms_spec (ws := w_Mo_unknown) B.pre w9 (List.mem_cons_of_mem _ h)
  have hown : s.vm.findClass R_Mo = some m.cls := findClass_of_methodNamed B.named
  have hlocks := B.notSynchronized
  have hD := hD0.self (sz := s.heap.size)
  generalize hAe : va_A (wM cI cZ ad u) s.heap.size = A at hD ⊢
  have hA : ∀ q : Nat, s.heap.size ≤ q → A q := fun q h => by rw [← hAe]; exact Or.inr h
  have hS : va_S A s.heap s.heap [] := va_S.rf
  have hl := lv_entry ([.ref (ad 0), .int a]) (n := 2) (Nat.le_of_ble_eq_true rfl)
  rw [lg_entry_eq]
  generalize (lg_sl ([.ref (ad 0), .int a]) ++ List.replicate (2 - (lg_sl ([.ref (ad 0), .int a])).length) Slot.unset).toArray = ls at hl ⊢
  have hl : lv_has ls 2 [(0, .ref (ad 0)), (1, .int a)] := hl
  have hq := hres.symm
  skip
  refine lv_aload_n hx hb d_Mo_unknown_0 rfl (lv_at hl 0 rfl) ?_
  refine lv_iload_n hx hb d_Mo_unknown_1 rfl (lv_at hl 1 rfl) ?_
  have J16 : ∀ (y : Bool) (H : Heap) (locs : List Loc), y = (if a < 0 then true else if a ≤ 31 then false else true) → va_P (dC, dI) classes (wM cI cZ ad u) H → va_D A (wM cI cZ ad u) → va_S A s.heap H locs → W p l e (headSpec w_Mo_unknown rm_Mo_unknown).room s m ([.ref (ad 0), .int a] : List Value).toArray below meth c H locs 0 0 (MQ below (QWi (dC, dI) classes [(cI, .int), (cZ, .boolean)] (wM cI cZ ad) A res.1 res.2) ([.ref (ad 0), .int a] : List Value).toArray s 0 0 A) (F0 m 16 ls [.int (b2i y), .ref (ad 0)]) := by
    intro y H locs ey hP hD hS
    refine lv_iconst (v := 1) hx hb d_Mo_unknown_16 (by decide) ?_
    refine callWi (va_runV (As := [.int (b2i y), .int 1]) (rest := []) ⟨hx, hb, hml, hown, hts⟩ (c_Mo_fails l dC dI cI cZ ad u y 1 H.size) (cwV 2 hts (goodV m_15_21 m_15_22 m_19_15 m_0_12 m_15_23) rfl rfl rfl (by decide +kernel) ⟨Nat.le_of_ble_eq_true rfl, Nat.le_of_ble_eq_true rfl⟩) ⟨preW_blind, va_recv hK hP (ci := 8) (q0 := 0) rfl rfl, preW_ok hP hD hK⟩ rfl rfl hl.1 rfl (lv_room (Nat.le_of_ble_eq_true rfl)) d_Mo_unknown_17 ⟨Nat.zero_le _, Nat.zero_le _⟩) hP hD hS hA (fun H locs hP hD hS => ?_)
    refine rb_eq (tgt := 27) hx hb d_Mo_unknown_20 (by decide) (fun c1 => ?_) (fun c1 => ?_)
    · skip
      have hy0 : ¬ y = true := by assumption
      have c1 : ¬ a < 0 := fun h => hy0 (by rw [ey, if_pos h])
      have c2 : a ≤ 31 := Decidable.not_not.mp (fun h => hy0 (by rw [ey, if_neg c1, if_neg h]))
      have hn1 : a.toNatClampNeg ≤ 31 := hp_nle (by decide) (by decide) c1 c2
      refine lv_aload_n hx hb d_Mo_unknown_27 rfl (lv_at hl 0 rfl) ?_
      refine lv_iload_n hx hb d_Mo_unknown_28 rfl (lv_at hl 1 rfl) ?_
      refine rw_top (y := nI a.toNatClampNeg) (hp_n c1) ?_
      refine callWi (va_runV (As := [.int (nI a.toNatClampNeg)]) (rest := []) ⟨hx, hb, hml, hown, hts⟩ (c_Mo_dark l dC dI cI cZ ad ((f_Mo_fails y 1 u).2) a.toNatClampNeg (by first | assumption | omega) H.size) (cwV 1 hts (goodV m_16_35 m_16_36 m_19_27 m_0_12 m_16_37) rfl rfl rfl (by decide +kernel) ⟨Nat.le_of_ble_eq_true rfl, Nat.le_of_ble_eq_true rfl⟩) ⟨preW_blind, va_recv hK hP (ci := 8) (q0 := 0) rfl rfl, preW_ok hP hD hK⟩ rfl rfl hl.1 rfl (lv_room (Nat.le_of_ble_eq_true rfl)) d_Mo_unknown_29 ⟨Nat.zero_le _, Nat.zero_le _⟩) hP hD hS hA (fun H locs hP hD hS => ?_)
      have hE : res = (f_Mo_dark a.toNatClampNeg ((f_Mo_fails y 1 u).2), (f_Mo_fails y 1 u).2) := (by subst ey; exact hq.trans ((if_neg c1).trans rfl))
      exact retWi (x := f_Mo_dark a.toNatClampNeg ((f_Mo_fails y 1 u).2)) hx hb hr hP hK hD hS (congrArg Prod.fst hE).symm (congrArg Prod.snd hE).symm d_Mo_unknown_32 hlocks
    · skip
      refine lv_iconst (v := 0) hx hb d_Mo_unknown_23 (by decide) ?_
      refine lv_goto (tgt := 32) hx hb d_Mo_unknown_24 (by decide) ?_
      have hE : res = (0, (f_Mo_fails y 1 u).2) := (by subst ey; exact hq.trans ((if_pos c1).trans rfl))
      exact retWi (x := 0) hx hb hr hP hK hD hS (congrArg Prod.fst hE).symm (congrArg Prod.snd hE).symm d_Mo_unknown_32 hlocks
  refine lv_if_lt (tgt := 11) hx hb d_Mo_unknown_2 (by decide) (fun c2 => ?_) (fun c2 => ?_)
  · skip
    refine lv_iconst (v := 1) hx hb d_Mo_unknown_11 (by decide) ?_
    refine lv_goto (tgt := 16) hx hb d_Mo_unknown_12 (by decide) ?_
    exact J16 true _ _ (Eq.symm ((if_pos c2).trans (rfl))) hP hD hS
  · skip
    refine lv_iload_n hx hb d_Mo_unknown_5 rfl (lv_at hl 1 rfl) ?_
    refine lv_bipush (v := 31) hx hb d_Mo_unknown_6 (by decide) ?_
    refine lv_icmp_le (tgt := 15) hx hb d_Mo_unknown_8 (by decide) (fun c3 => ?_) (fun c3 => ?_)
    · skip
      refine lv_iconst (v := 0) hx hb d_Mo_unknown_15 (by decide) ?_
      exact J16 false _ _ (Eq.symm ((if_neg c2).trans ((if_pos c3).trans (rfl)))) hP hD hS
    · skip
      refine lv_iconst (v := 1) hx hb d_Mo_unknown_11 (by decide) ?_
      refine lv_goto (tgt := 16) hx hb d_Mo_unknown_12 (by decide) ?_
      exact J16 true _ _ (Eq.symm ((if_neg c2).trans ((if_neg c3).trans (rfl)))) hP hD hS
def w_Mo_memory : List Cond := .code y_Mo_memory b_Mo_memory 4 (some .int) :: ALLW
def rm_Mo_memory : Room := { frames := 21, cells := 0, slots := 0, locals := 622 }
theorem d_Mo_memory_0 : decode b_Mo_memory 0 = .ok (.aload_n 0, 1) := by decide +kernel
theorem d_Mo_memory_1 : decode b_Mo_memory 1 = .ok (.iload_n 1, 1) := by decide +kernel
theorem d_Mo_memory_2 : decode b_Mo_memory 2 = .ok (.ifCond .lt 9, 3) := by decide +kernel
theorem d_Mo_memory_5 : decode b_Mo_memory 5 = .ok (.iload_n 1, 1) := by decide +kernel
theorem d_Mo_memory_6 : decode b_Mo_memory 6 = .ok (.ldc 13, 2) := by decide +kernel
theorem d_Mo_memory_8 : decode b_Mo_memory 8 = .ok (.if_icmp .lt 7, 3) := by decide +kernel
theorem d_Mo_memory_11 : decode b_Mo_memory 11 = .ok (.iconst 1, 1) := by decide +kernel
theorem d_Mo_memory_12 : decode b_Mo_memory 12 = .ok (.goto 4, 3) := by decide +kernel
theorem d_Mo_memory_15 : decode b_Mo_memory 15 = .ok (.iconst 0, 1) := by decide +kernel
theorem d_Mo_memory_16 : decode b_Mo_memory 16 = .ok (.iconst 1, 1) := by decide +kernel
theorem d_Mo_memory_17 : decode b_Mo_memory 17 = .ok (.invokevirtual 74, 3) := by decide +kernel
theorem d_Mo_memory_20 : decode b_Mo_memory 20 = .ok (.ifCond .eq 5, 3) := by decide +kernel
theorem d_Mo_memory_23 : decode b_Mo_memory 23 = .ok (.iconst 0, 1) := by decide +kernel
theorem d_Mo_memory_24 : decode b_Mo_memory 24 = .ok (.ireturn, 1) := by decide +kernel
theorem d_Mo_memory_25 : decode b_Mo_memory 25 = .ok (.aload_n 0, 1) := by decide +kernel
theorem d_Mo_memory_26 : decode b_Mo_memory 26 = .ok (.getfield 14, 3) := by decide +kernel
theorem d_Mo_memory_29 : decode b_Mo_memory 29 = .ok (.iload_n 1, 1) := by decide +kernel
theorem d_Mo_memory_30 : decode b_Mo_memory 30 = .ok (.iaload, 1) := by decide +kernel
theorem d_Mo_memory_31 : decode b_Mo_memory 31 = .ok (.aload_n 0, 1) := by decide +kernel
theorem d_Mo_memory_32 : decode b_Mo_memory 32 = .ok (.getfield 20, 3) := by decide +kernel
theorem d_Mo_memory_35 : decode b_Mo_memory 35 = .ok (.iload_n 1, 1) := by decide +kernel
theorem d_Mo_memory_36 : decode b_Mo_memory 36 = .ok (.baload, 1) := by decide +kernel
theorem d_Mo_memory_37 : decode b_Mo_memory 37 = .ok (.ifCond .eq 8, 3) := by decide +kernel
theorem d_Mo_memory_40 : decode b_Mo_memory 40 = .ok (.ldc 13, 2) := by decide +kernel
theorem d_Mo_memory_42 : decode b_Mo_memory 42 = .ok (.goto 4, 3) := by decide +kernel
theorem d_Mo_memory_45 : decode b_Mo_memory 45 = .ok (.iconst 0, 1) := by decide +kernel
theorem d_Mo_memory_46 : decode b_Mo_memory 46 = .ok (.ior, 1) := by decide +kernel
theorem d_Mo_memory_47 : decode b_Mo_memory 47 = .ok (.istore_n 2, 1) := by decide +kernel
theorem d_Mo_memory_48 : decode b_Mo_memory 48 = .ok (.iconst 0, 1) := by decide +kernel
theorem d_Mo_memory_49 : decode b_Mo_memory 49 = .ok (.istore_n 3, 1) := by decide +kernel
theorem d_Mo_memory_50 : decode b_Mo_memory 50 = .ok (.iload_n 3, 1) := by decide +kernel
theorem d_Mo_memory_51 : decode b_Mo_memory 51 = .ok (.bipush 8, 2) := by decide +kernel
theorem d_Mo_memory_53 : decode b_Mo_memory 53 = .ok (.if_icmp .ge 31, 3) := by decide +kernel
theorem d_Mo_memory_56 : decode b_Mo_memory 56 = .ok (.aload_n 0, 1) := by decide +kernel
theorem d_Mo_memory_57 : decode b_Mo_memory 57 = .ok (.getfield 25, 3) := by decide +kernel
theorem d_Mo_memory_60 : decode b_Mo_memory 60 = .ok (.bipush 8, 2) := by decide +kernel
theorem d_Mo_memory_62 : decode b_Mo_memory 62 = .ok (.iload_n 1, 1) := by decide +kernel
theorem d_Mo_memory_63 : decode b_Mo_memory 63 = .ok (.imul, 1) := by decide +kernel
theorem d_Mo_memory_64 : decode b_Mo_memory 64 = .ok (.iload_n 3, 1) := by decide +kernel
theorem d_Mo_memory_65 : decode b_Mo_memory 65 = .ok (.iadd, 1) := by decide +kernel
theorem d_Mo_memory_66 : decode b_Mo_memory 66 = .ok (.baload, 1) := by decide +kernel
theorem d_Mo_memory_67 : decode b_Mo_memory 67 = .ok (.ifCond .eq 11, 3) := by decide +kernel
theorem d_Mo_memory_70 : decode b_Mo_memory 70 = .ok (.iload_n 2, 1) := by decide +kernel
theorem d_Mo_memory_71 : decode b_Mo_memory 71 = .ok (.sipush 256, 3) := by decide +kernel
theorem d_Mo_memory_74 : decode b_Mo_memory 74 = .ok (.iload_n 3, 1) := by decide +kernel
theorem d_Mo_memory_75 : decode b_Mo_memory 75 = .ok (.ishl, 1) := by decide +kernel
theorem d_Mo_memory_76 : decode b_Mo_memory 76 = .ok (.ior, 1) := by decide +kernel
theorem d_Mo_memory_77 : decode b_Mo_memory 77 = .ok (.istore_n 2, 1) := by decide +kernel
theorem d_Mo_memory_78 : decode b_Mo_memory 78 = .ok (.iinc 3 1, 3) := by decide +kernel
theorem d_Mo_memory_81 : decode b_Mo_memory 81 = .ok (.goto (-31), 3) := by decide +kernel
theorem d_Mo_memory_84 : decode b_Mo_memory 84 = .ok (.iload_n 2, 1) := by decide +kernel
theorem d_Mo_memory_85 : decode b_Mo_memory 85 = .ok (.ireturn, 1) := by decide +kernel
def f_Mo_memory_50 (a : Int32) (u : S5) (y : Bool) : Nat → Nat → Int32 → (Int32 × S5)
  | 0, i, v => (0, u)
  | k50 + 1, i, v => if i < 8 then (if (aB ((f_Mo_fails y 1 u).2) 1 (8 * a.toNatClampNeg + i)) = true then f_Mo_memory_50 a u y k50 (i + 1) (v ||| ((256 : Int32) <<< ((nI i) &&& 31))) else f_Mo_memory_50 a u y k50 (i + 1) v) else (v, (f_Mo_fails y 1 u).2)
def f_Mo_memory (a : Int32) (u : S5) : Int32 × S5 := let y : Bool := if a < 0 then true else if a < 65536 then false else true; if ((f_Mo_fails y 1 u).1) = true then (0, (f_Mo_fails y 1 u).2) else let x2 : Int32 := if (aB ((f_Mo_fails y 1 u).2) 0 a.toNatClampNeg) = true then 65536 else 0; f_Mo_memory_50 a u y 9 0 ((aI ((f_Mo_fails y 1 u).2) 1 a.toNatClampNeg) ||| x2)
set_option maxHeartbeats 8000000 in
set_option maxRecDepth 100000 in
theorem c_Mo_memory (l : Launch) (dC : Nat → ClassId) (dI : Nat → Nat → Nat) (cI cZ : ClassId) (ad : Nat → Nat) (u : S5) (a : Int32) (sz : Nat) : Met l y_Mo_memory w_Mo_memory rm_Mo_memory (PreW (dC, dI) classes [(cI, .int), (cZ, .boolean)] (wM cI cZ ad) u sz [.ref (ad 0), .int a]) (QWi (dC, dI) classes [(cI, .int), (cZ, .boolean)] (wM cI cZ ad) (va_A (wM cI cZ ad u) sz) (f_Mo_memory a u).1 (f_Mo_memory a u).2) 0 0 (va_A (wM cI cZ ad u) sz) := by
  generalize hres : f_Mo_memory a u = res
  refine Met.ofW (cc := b_Mo_memory) (maxL := 4) (ret := (some .int)) (by decide) rfl ?_
  intro p e s m args below meth c s₁ B hml hv
  obtain ⟨rfl, rfl, hP, hK, hD0⟩ := hv
  have hx := B.exec
  have hb := B.bytes
  have hr := B.returns
  have hts : ∀ w9 ∈ ALLW, w9.before ([.ref (ad 0), .int a] : List Value).toArray s = true := fun w9 h => atoms_spec (ws := w_Mo_memory) B.pre w9 (List.mem_cons_of_mem _ h)
  have hown : s.vm.findClass R_Mo = some m.cls := findClass_of_methodNamed B.named
  have hlocks := B.notSynchronized
  have hD := hD0.self (sz := s.heap.size)
  generalize hAe : va_A (wM cI cZ ad u) s.heap.size = A at hD ⊢
  have hA : ∀ q : Nat, s.heap.size ≤ q → A q := fun q h => by rw [← hAe]; exact Or.inr h
  have hS : va_S A s.heap s.heap [] := va_S.rf
  have hl := lv_entry ([.ref (ad 0), .int a]) (n := 4) (Nat.le_of_ble_eq_true rfl)
  rw [lg_entry_eq]
  generalize (lg_sl ([.ref (ad 0), .int a]) ++ List.replicate (4 - (lg_sl ([.ref (ad 0), .int a])).length) Slot.unset).toArray = ls at hl ⊢
  have hl : lv_has ls 4 [(0, .ref (ad 0)), (1, .int a)] := hl
  have hq := hres.symm
  skip
  refine lv_aload_n hx hb d_Mo_memory_0 rfl (lv_at hl 0 rfl) ?_
  refine lv_iload_n hx hb d_Mo_memory_1 rfl (lv_at hl 1 rfl) ?_
  have J16 : ∀ (y : Bool) (H : Heap) (locs : List Loc), y = (if a < 0 then true else if a < 65536 then false else true) → va_P (dC, dI) classes (wM cI cZ ad u) H → va_D A (wM cI cZ ad u) → va_S A s.heap H locs → W p l e (headSpec w_Mo_memory rm_Mo_memory).room s m ([.ref (ad 0), .int a] : List Value).toArray below meth c H locs 0 0 (MQ below (QWi (dC, dI) classes [(cI, .int), (cZ, .boolean)] (wM cI cZ ad) A res.1 res.2) ([.ref (ad 0), .int a] : List Value).toArray s 0 0 A) (F0 m 16 ls [.int (b2i y), .ref (ad 0)]) := by
    intro y H locs ey hP hD hS
    refine lv_iconst (v := 1) hx hb d_Mo_memory_16 (by decide) ?_
    refine callWi (va_runV (As := [.int (b2i y), .int 1]) (rest := []) ⟨hx, hb, hml, hown, hts⟩ (c_Mo_fails l dC dI cI cZ ad u y 1 H.size) (cwV 2 hts (goodV m_15_21 m_15_22 m_19_15 m_0_12 m_15_23) rfl rfl rfl (by decide +kernel) ⟨Nat.le_of_ble_eq_true rfl, Nat.le_of_ble_eq_true rfl⟩) ⟨preW_blind, va_recv hK hP (ci := 8) (q0 := 0) rfl rfl, preW_ok hP hD hK⟩ rfl rfl hl.1 rfl (lv_room (Nat.le_of_ble_eq_true rfl)) d_Mo_memory_17 ⟨Nat.zero_le _, Nat.zero_le _⟩) hP hD hS hA (fun H locs hP hD hS => ?_)
    refine rb_eq (tgt := 25) hx hb d_Mo_memory_20 (by decide) (fun c1 => ?_) (fun c1 => ?_)
    · skip
      have hy0 : ¬ y = true := by assumption
      have c1 : ¬ a < 0 := fun h => hy0 (by rw [ey, if_pos h])
      have c2 : a < 65536 := Decidable.not_not.mp (fun h => hy0 (by rw [ey, if_neg c1, if_neg h]))
      have hn1 : a.toNatClampNeg < 65536 := hp_nlt (by decide) (by decide) c1 c2
      refine lv_aload_n hx hb d_Mo_memory_25 rfl (lv_at hl 0 rfl) ?_
      refine va_get (D := (dC, dI)) (ci := 8) (v := .ref (ad 2)) (C := R_Mo) (T := F_Mo) (N := 31) hx hb hts in_Mo hown hK hP 0 rfl rfl 2 (by decide) (hts _ m_13_32) (fun _ h9 => h9) rfl d_Mo_memory_26 ?_
      refine lv_iload_n hx hb d_Mo_memory_29 rfl (lv_at hl 1 rfl) ?_
      refine rw_top (y := nI a.toNatClampNeg) (hp_n c1) ?_
      refine aldM_octet (u := ((f_Mo_fails y 1 u).2)) (v := aI ((f_Mo_fails y 1 u).2) 1 a.toNatClampNeg) hx hb hK hP (by omega) rfl d_Mo_memory_30 ?_
      refine lv_aload_n hx hb d_Mo_memory_31 rfl (lv_at hl 0 rfl) ?_
      refine va_get (D := (dC, dI)) (ci := 8) (v := .ref (ad 4)) (C := R_Mo) (T := F_Mo) (N := 31) hx hb hts in_Mo hown hK hP 0 rfl rfl 4 (by decide) (hts _ m_13_34) (fun _ h9 => h9) rfl d_Mo_memory_32 ?_
      refine lv_iload_n hx hb d_Mo_memory_35 rfl (lv_at hl 1 rfl) ?_
      refine rw_top (y := nI a.toNatClampNeg) (hp_n c1) ?_
      refine aldM_open (u := ((f_Mo_fails y 1 u).2)) (v := aB ((f_Mo_fails y 1 u).2) 0 a.toNatClampNeg) hx hb hK hP (by omega) rfl d_Mo_memory_36 ?_
      have J46 : ∀ (x2 : Int32) (H : Heap) (locs : List Loc), x2 = (if (aB ((f_Mo_fails y 1 u).2) 0 a.toNatClampNeg) = true then 65536 else 0) → va_P (dC, dI) classes (wM cI cZ ad ((f_Mo_fails y 1 u).2)) H → va_D A (wM cI cZ ad ((f_Mo_fails y 1 u).2)) → va_S A s.heap H locs → W p l e (headSpec w_Mo_memory rm_Mo_memory).room s m ([.ref (ad 0), .int a] : List Value).toArray below meth c H locs 0 0 (MQ below (QWi (dC, dI) classes [(cI, .int), (cZ, .boolean)] (wM cI cZ ad) A res.1 res.2) ([.ref (ad 0), .int a] : List Value).toArray s 0 0 A) (F0 m 46 ls [.int x2, .int (aI ((f_Mo_fails y 1 u).2) 1 a.toNatClampNeg)]) := by
        intro x2 H locs ex2 hP hD hS
        refine lv_ior hx hb d_Mo_memory_46 ?_
        refine lv_istore_n (lv' := [(2, .int ((aI ((f_Mo_fails y 1 u).2) 1 a.toNatClampNeg) ||| x2)), (0, .ref (ad 0)), (1, .int a)]) hx hb d_Mo_memory_47 rfl hl (by decide) rfl (fun ls hl => ?_)
        refine lv_iconst (v := nI 0) hx hb d_Mo_memory_48 (by decide) ?_
        refine lv_istore_n (lv' := [(3, .int (nI 0)), (2, .int ((aI ((f_Mo_fails y 1 u).2) 1 a.toNatClampNeg) ||| x2)), (0, .ref (ad 0)), (1, .int a)]) hx hb d_Mo_memory_49 rfl hl (by decide) rfl (fun ls hl => ?_)
        have L50 : ∀ (k : Nat) (i : Nat) (v : Int32) (H : Heap) (locs : List Loc) (ls : Array Slot), (i ≤ 8) → (8 - i) < k → res = f_Mo_memory_50 a u y k i v → va_P (dC, dI) classes (wM cI cZ ad ((f_Mo_fails y 1 u).2)) H → va_D A (wM cI cZ ad ((f_Mo_fails y 1 u).2)) → va_S A s.heap H locs → lv_has ls 4 [(3, .int (nI i)), (2, .int v), (0, .ref (ad 0)), (1, .int a)] → W p l e (headSpec w_Mo_memory rm_Mo_memory).room s m ([.ref (ad 0), .int a] : List Value).toArray below meth c H locs 0 0 (MQ below (QWi (dC, dI) classes [(cI, .int), (cZ, .boolean)] (wM cI cZ ad) A res.1 res.2) ([.ref (ad 0), .int a] : List Value).toArray s 0 0 A) (F0 m 50 ls []) := by
          intro k
          induction k with
          | zero => intro i v H locs ls hi hm; exact absurd hm (Nat.not_lt_zero _)
          | succ k50 ih50 =>
            intro i v H locs ls hi hm hq50 hP hD hS hl
            refine lv_iload_n hx hb d_Mo_memory_50 rfl (lv_at hl 0 rfl) ?_
            refine lv_bipush (v := nI 8) hx hb d_Mo_memory_51 (by decide) ?_
            refine rn_ge (tgt := 84) hx hb (by omega) (by omega) d_Mo_memory_53 (by decide) (fun c3 => ?_) (fun c3 => ?_)
            · skip
              refine lv_iload_n hx hb d_Mo_memory_84 rfl (lv_at hl 1 rfl) ?_
              have hE : res = (v, (f_Mo_fails y 1 u).2) := hq50.trans ((if_neg (Nat.not_lt.mpr c3)).trans rfl)
              exact retWi (x := v) hx hb hr hP hK hD hS (congrArg Prod.fst hE).symm (congrArg Prod.snd hE).symm d_Mo_memory_85 hlocks
            · skip
              refine lv_aload_n hx hb d_Mo_memory_56 rfl (lv_at hl 2 rfl) ?_
              refine va_get (D := (dC, dI)) (ci := 8) (v := .ref (ad 5)) (C := R_Mo) (T := F_Mo) (N := 31) hx hb hts in_Mo hown hK hP 0 rfl rfl 5 (by decide) (hts _ m_13_35) (fun _ h9 => h9) rfl d_Mo_memory_57 ?_
              refine lv_bipush (v := nI 8) hx hb d_Mo_memory_60 (by decide) ?_
              refine lv_iload_n hx hb d_Mo_memory_62 rfl (lv_at hl 3 rfl) ?_
              refine rw_top (y := nI a.toNatClampNeg) (hp_n c1) ?_
              refine lv_imul hx hb d_Mo_memory_63 ?_
              refine rw_top (y := nI (8 * a.toNatClampNeg)) (pk_mul 8 a.toNatClampNeg) ?_
              refine lv_iload_n hx hb d_Mo_memory_64 rfl (lv_at hl 0 rfl) ?_
              refine lv_iadd hx hb d_Mo_memory_65 ?_
              refine rw_top (y := nI (8 * a.toNatClampNeg + i)) (nI_add (8 * a.toNatClampNeg) i) ?_
              refine aldM_dark (u := ((f_Mo_fails y 1 u).2)) (v := aB ((f_Mo_fails y 1 u).2) 1 (8 * a.toNatClampNeg + i)) hx hb hK hP (by omega) rfl d_Mo_memory_66 ?_
              refine rb_eq (tgt := 78) hx hb d_Mo_memory_67 (by decide) (fun c4 => ?_) (fun c4 => ?_)
              · skip
                refine lv_iinc (v := nI (i + 1)) (lv' := [(3, .int (nI (i + 1))), (2, .int v), (0, .ref (ad 0)), (1, .int a)]) hx hb d_Mo_memory_78 hl (k := 0) rfl (rn_inc i 1 (by decide)) (by decide) rfl (fun ls hl => ?_)
                refine lv_goto (tgt := 50) hx hb d_Mo_memory_81 (by decide) ?_
                exact ih50 (i + 1) v _ _ _ (by first | assumption | omega) (by omega) (hq50.trans ((if_pos c3).trans ((if_neg c4).trans rfl))) hP hD hS (lv_sub hl [0, 1, 2, 3] rfl)
              · skip
                refine lv_iload_n hx hb d_Mo_memory_70 rfl (lv_at hl 1 rfl) ?_
                refine lv_sipush (v := 256) hx hb d_Mo_memory_71 (by decide) ?_
                refine lv_iload_n hx hb d_Mo_memory_74 rfl (lv_at hl 0 rfl) ?_
                refine lv_ishl hx hb d_Mo_memory_75 ?_
                refine lv_ior hx hb d_Mo_memory_76 ?_
                refine lv_istore_n (lv' := [(2, .int (v ||| ((256 : Int32) <<< ((nI i) &&& 31)))), (3, .int (nI i)), (0, .ref (ad 0)), (1, .int a)]) hx hb d_Mo_memory_77 rfl hl (by decide) rfl (fun ls hl => ?_)
                refine lv_iinc (v := nI (i + 1)) (lv' := [(3, .int (nI (i + 1))), (2, .int (v ||| ((256 : Int32) <<< ((nI i) &&& 31)))), (0, .ref (ad 0)), (1, .int a)]) hx hb d_Mo_memory_78 hl (k := 1) rfl (rn_inc i 1 (by decide)) (by decide) rfl (fun ls hl => ?_)
                refine lv_goto (tgt := 50) hx hb d_Mo_memory_81 (by decide) ?_
                exact ih50 (i + 1) (v ||| ((256 : Int32) <<< ((nI i) &&& 31))) _ _ _ (by first | assumption | omega) (by omega) (hq50.trans ((if_pos c3).trans ((if_pos c4).trans rfl))) hP hD hS (lv_sub hl [0, 1, 2, 3] rfl)
        exact L50 9 0 ((aI ((f_Mo_fails y 1 u).2) 1 a.toNatClampNeg) ||| x2) _ _ _ (by first | assumption | omega) (by omega) ((by subst ex2; subst ey; exact hq.trans ((if_neg c1).trans rfl))) hP hD hS (lv_sub hl [0, 1, 2, 3] rfl)
      refine rb_eq (tgt := 45) hx hb d_Mo_memory_37 (by decide) (fun c5 => ?_) (fun c5 => ?_)
      · skip
        refine lv_iconst (v := 0) hx hb d_Mo_memory_45 (by decide) ?_
        exact J46 0 _ _ (Eq.symm ((if_neg c5).trans (rfl))) hP hD hS
      · skip
        refine lv_ldc (v := 65536) hx hb hown (hts _ m_13_23) d_Mo_memory_40 ?_
        refine lv_goto (tgt := 46) hx hb d_Mo_memory_42 (by decide) ?_
        exact J46 65536 _ _ (Eq.symm ((if_pos c5).trans (rfl))) hP hD hS
    · skip
      refine lv_iconst (v := 0) hx hb d_Mo_memory_23 (by decide) ?_
      have hE : res = (0, (f_Mo_fails y 1 u).2) := (by subst ey; exact hq.trans ((if_pos c1).trans rfl))
      exact retWi (x := 0) hx hb hr hP hK hD hS (congrArg Prod.fst hE).symm (congrArg Prod.snd hE).symm d_Mo_memory_24 hlocks
  refine lv_if_lt (tgt := 11) hx hb d_Mo_memory_2 (by decide) (fun c6 => ?_) (fun c6 => ?_)
  · skip
    refine lv_iconst (v := 1) hx hb d_Mo_memory_11 (by decide) ?_
    refine lv_goto (tgt := 16) hx hb d_Mo_memory_12 (by decide) ?_
    exact J16 true _ _ (Eq.symm ((if_pos c6).trans (rfl))) hP hD hS
  · skip
    refine lv_iload_n hx hb d_Mo_memory_5 rfl (lv_at hl 1 rfl) ?_
    refine lv_ldc (v := 65536) hx hb hown (hts _ m_13_23) d_Mo_memory_6 ?_
    refine lv_icmp_lt (tgt := 15) hx hb d_Mo_memory_8 (by decide) (fun c7 => ?_) (fun c7 => ?_)
    · skip
      refine lv_iconst (v := 0) hx hb d_Mo_memory_15 (by decide) ?_
      exact J16 false _ _ (Eq.symm ((if_neg c6).trans ((if_pos c7).trans (rfl)))) hP hD hS
    · skip
      refine lv_iconst (v := 1) hx hb d_Mo_memory_11 (by decide) ?_
      refine lv_goto (tgt := 16) hx hb d_Mo_memory_12 (by decide) ?_
      exact J16 true _ _ (Eq.symm ((if_neg c6).trans ((if_neg c7).trans (rfl)))) hP hD hS
