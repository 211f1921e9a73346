def w_Mo_image : List Cond := .code y_Mo_image b_Mo_image 5 none :: ALLW
def rm_Mo_image : Room := { frames := 21, cells := 0, slots := 0, locals := 622 }
theorem d_Mo_image_0 : decode b_Mo_image 0 = .ok (.aload_n 0, 1) := by decide +kernel
theorem d_Mo_image_1 : decode b_Mo_image 1 = .ok (.iload_n 1, 1) := by decide +kernel
theorem d_Mo_image_2 : decode b_Mo_image 2 = .ok (.ifCond .lt 17, 3) := by decide +kernel
theorem d_Mo_image_5 : decode b_Mo_image 5 = .ok (.iload_n 1, 1) := by decide +kernel
theorem d_Mo_image_6 : decode b_Mo_image 6 = .ok (.sipush 16376, 3) := by decide +kernel
theorem d_Mo_image_9 : decode b_Mo_image 9 = .ok (.if_icmp .gt 10, 3) := by decide +kernel
theorem d_Mo_image_12 : decode b_Mo_image 12 = .ok (.iload_n 1, 1) := by decide +kernel
theorem d_Mo_image_13 : decode b_Mo_image 13 = .ok (.bipush 8, 2) := by decide +kernel
theorem d_Mo_image_15 : decode b_Mo_image 15 = .ok (.irem, 1) := by decide +kernel
theorem d_Mo_image_16 : decode b_Mo_image 16 = .ok (.ifCond .eq 7, 3) := by decide +kernel
theorem d_Mo_image_19 : decode b_Mo_image 19 = .ok (.iconst 1, 1) := by decide +kernel
theorem d_Mo_image_20 : decode b_Mo_image 20 = .ok (.goto 4, 3) := by decide +kernel
theorem d_Mo_image_23 : decode b_Mo_image 23 = .ok (.iconst 0, 1) := by decide +kernel
theorem d_Mo_image_24 : decode b_Mo_image 24 = .ok (.iconst 1, 1) := by decide +kernel
theorem d_Mo_image_25 : decode b_Mo_image 25 = .ok (.invokevirtual 74, 3) := by decide +kernel
theorem d_Mo_image_28 : decode b_Mo_image 28 = .ok (.ifCond .eq 4, 3) := by decide +kernel
theorem d_Mo_image_31 : decode b_Mo_image 31 = .ok (.return_, 1) := by decide +kernel
theorem d_Mo_image_32 : decode b_Mo_image 32 = .ok (.iconst 0, 1) := by decide +kernel
theorem d_Mo_image_33 : decode b_Mo_image 33 = .ok (.istore 4, 2) := by decide +kernel
theorem d_Mo_image_35 : decode b_Mo_image 35 = .ok (.iload 4, 2) := by decide +kernel
theorem d_Mo_image_37 : decode b_Mo_image 37 = .ok (.bipush 8, 2) := by decide +kernel
theorem d_Mo_image_39 : decode b_Mo_image 39 = .ok (.if_icmp .ge 30, 3) := by decide +kernel
theorem d_Mo_image_42 : decode b_Mo_image 42 = .ok (.aload_n 0, 1) := by decide +kernel
theorem d_Mo_image_43 : decode b_Mo_image 43 = .ok (.getfield 9, 3) := by decide +kernel
theorem d_Mo_image_46 : decode b_Mo_image 46 = .ok (.iload_n 1, 1) := by decide +kernel
theorem d_Mo_image_47 : decode b_Mo_image 47 = .ok (.iload 4, 2) := by decide +kernel
theorem d_Mo_image_49 : decode b_Mo_image 49 = .ok (.iadd, 1) := by decide +kernel
theorem d_Mo_image_50 : decode b_Mo_image 50 = .ok (.lload_n 2, 1) := by decide +kernel
theorem d_Mo_image_51 : decode b_Mo_image 51 = .ok (.bipush 8, 2) := by decide +kernel
theorem d_Mo_image_53 : decode b_Mo_image 53 = .ok (.iload 4, 2) := by decide +kernel
theorem d_Mo_image_55 : decode b_Mo_image 55 = .ok (.imul, 1) := by decide +kernel
theorem d_Mo_image_56 : decode b_Mo_image 56 = .ok (.lushr, 1) := by decide +kernel
theorem d_Mo_image_57 : decode b_Mo_image 57 = .ok (.l2i, 1) := by decide +kernel
theorem d_Mo_image_58 : decode b_Mo_image 58 = .ok (.sipush 255, 3) := by decide +kernel
theorem d_Mo_image_61 : decode b_Mo_image 61 = .ok (.iand, 1) := by decide +kernel
theorem d_Mo_image_62 : decode b_Mo_image 62 = .ok (.iastore, 1) := by decide +kernel
theorem d_Mo_image_63 : decode b_Mo_image 63 = .ok (.iinc 4 1, 3) := by decide +kernel
theorem d_Mo_image_66 : decode b_Mo_image 66 = .ok (.goto (-31), 3) := by decide +kernel
theorem d_Mo_image_69 : decode b_Mo_image 69 = .ok (.return_, 1) := by decide +kernel
def f_Mo_image_35 (a : Int32) (w : Int64) (u : S5) : Nat → Nat → S5 → S5
  | 0, i, u1 => u1
  | k35 + 1, i, u1 => if i < 8 then f_Mo_image_35 a w u k35 (i + 1) (uI u1 0 (a.toNatClampNeg + i) ((((w.toUInt64 >>> ((nI (8 * i)).toInt64.toUInt64 &&& Int64.toUInt64 63)).toInt64).toInt32) &&& (255 : Int32))) else u1
def f_Mo_image (a : Int32) (w : Int64) (u : S5) : S5 := let y : Bool := if a < 0 then true else if 16376 < a then true else if (a - a / (8 : Int32) * (8 : Int32)) = 0 then false else true; if ((f_Mo_fails y 1 u).1) = true then (f_Mo_fails y 1 u).2 else f_Mo_image_35 a w u 9 0 ((f_Mo_fails y 1 u).2)
set_option maxHeartbeats 8000000 in
set_option maxRecDepth 100000 in
theorem c_Mo_image (l : Launch) (dC : Nat → ClassId) (dI : Nat → Nat → Nat) (cI cZ : ClassId) (ad : Nat → Nat) (u : S5) (a : Int32) (w : Int64) (sz : Nat) : Met l y_Mo_image w_Mo_image rm_Mo_image (PreW (dC, dI) classes [(cI, .int), (cZ, .boolean)] (wM cI cZ ad) u sz [.ref (ad 0), .int a, .long w]) (QWv (dC, dI) classes [(cI, .int), (cZ, .boolean)] (wM cI cZ ad) (va_A (wM cI cZ ad u) sz) (f_Mo_image a w u)) 0 0 (va_A (wM cI cZ ad u) sz) := by
  generalize hres : f_Mo_image a w u = res
  refine Met.ofW (cc := b_Mo_image) (maxL := 5) (ret := none) (by decide) rfl ?_
  intro p e s m args below meth c s₁ B hml hv
  obtain ⟨rfl, rfl, hP, hK, hD0⟩ := hv
  have hx := B.exec
  have hb := B.bytes
  have hr := B.returns
  have hts : ∀ w9 ∈ ALLW, w9.before ([.ref (ad 0), .int a, .long w] : List Value).toArray s = true := fun w9 h => atoms_spec (ws := w_Mo_image) B.pre w9 (List.mem_cons_of_mem _ h)
  have hown : s.vm.findClass R_Mo = some m.cls := findClass_of_methodNamed B.named
  have hlocks := B.notSynchronized
  have hD := hD0.self (sz := s.heap.size)
  generalize hAe : va_A (wM cI cZ ad u) s.heap.size = A at hD ⊢
  have hA : ∀ q : Nat, s.heap.size ≤ q → A q := fun q h => by rw [← hAe]; exact Or.inr h
  have hS : va_S A s.heap s.heap [] := va_S.rf
  have hl := lv_entry ([.ref (ad 0), .int a, .long w]) (n := 5) (Nat.le_of_ble_eq_true rfl)
  rw [lg_entry_eq]
  generalize (lg_sl ([.ref (ad 0), .int a, .long w]) ++ List.replicate (5 - (lg_sl ([.ref (ad 0), .int a, .long w])).length) Slot.unset).toArray = ls at hl ⊢
  have hl : lv_has ls 5 [(0, .ref (ad 0)), (1, .int a), (2, .long w)] := hl
  have hq := hres.symm
  skip
  refine lv_aload_n hx hb d_Mo_image_0 rfl (lv_at hl 0 rfl) ?_
  refine lv_iload_n hx hb d_Mo_image_1 rfl (lv_at hl 1 rfl) ?_
  have J24 : ∀ (y : Bool) (H : Heap) (locs : List Loc), y = (if a < 0 then true else if 16376 < a then true else if (a - a / (8 : Int32) * (8 : Int32)) = 0 then false else true) → va_P (dC, dI) classes (wM cI cZ ad u) H → va_D A (wM cI cZ ad u) → va_S A s.heap H locs → W p l e (headSpec w_Mo_image rm_Mo_image).room s m ([.ref (ad 0), .int a, .long w] : List Value).toArray below meth c H locs 0 0 (MQ below (QWv (dC, dI) classes [(cI, .int), (cZ, .boolean)] (wM cI cZ ad) A res) ([.ref (ad 0), .int a, .long w] : List Value).toArray s 0 0 A) (F0 m 24 ls [.int (b2i y), .ref (ad 0)]) := by
    intro y H locs ey hP hD hS
    refine lv_iconst (v := 1) hx hb d_Mo_image_24 (by decide) ?_
    refine callWi (va_runV (As := [.int (b2i y), .int 1]) (rest := []) ⟨hx, hb, hml, hown, hts⟩ (c_Mo_fails l dC dI cI cZ ad u y 1 H.size) (cwV 2 hts (goodV m_15_21 m_15_22 m_19_15 m_0_12 m_15_23) rfl rfl rfl (by decide +kernel) ⟨Nat.le_of_ble_eq_true rfl, Nat.le_of_ble_eq_true rfl⟩) ⟨preW_blind, va_recv hK hP (ci := 8) (q0 := 0) rfl rfl, preW_ok hP hD hK⟩ rfl rfl hl.1 rfl (lv_room (Nat.le_of_ble_eq_true rfl)) d_Mo_image_25 ⟨Nat.zero_le _, Nat.zero_le _⟩) hP hD hS hA (fun H locs hP hD hS => ?_)
    refine rb_eq (tgt := 32) hx hb d_Mo_image_28 (by decide) (fun c1 => ?_) (fun c1 => ?_)
    · skip
      have hy0 : ¬ y = true := by assumption
      have c1 : ¬ a < 0 := fun h => hy0 (by rw [ey, if_pos h])
      have c2 : a ≤ 16376 := Int32.not_lt.mp (fun h => hy0 (by rw [ey, if_neg c1, if_pos h]))
      have hn1 : a.toNatClampNeg ≤ 16376 := hp_nle (by decide) (by decide) c1 c2
      refine lv_iconst (v := nI 0) hx hb d_Mo_image_32 (by decide) ?_
      refine lv_istore (lv' := [(4, .int (nI 0)), (0, .ref (ad 0)), (1, .int a), (2, .long w)]) hx hb d_Mo_image_33 hl (by decide) rfl (fun ls hl => ?_)
      have L35 : ∀ (k : Nat) (i : Nat) (u1 : S5) (H : Heap) (locs : List Loc) (ls : Array Slot), (i ≤ 8) → (8 - i) < k → res = f_Mo_image_35 a w u k i u1 → va_P (dC, dI) classes (wM cI cZ ad u1) H → va_D A (wM cI cZ ad u1) → va_S A s.heap H locs → lv_has ls 5 [(4, .int (nI i)), (0, .ref (ad 0)), (1, .int a), (2, .long w)] → W p l e (headSpec w_Mo_image rm_Mo_image).room s m ([.ref (ad 0), .int a, .long w] : List Value).toArray below meth c H locs 0 0 (MQ below (QWv (dC, dI) classes [(cI, .int), (cZ, .boolean)] (wM cI cZ ad) A res) ([.ref (ad 0), .int a, .long w] : List Value).toArray s 0 0 A) (F0 m 35 ls []) := by
        intro k
        induction k with
        | zero => intro i u1 H locs ls hi hm; exact absurd hm (Nat.not_lt_zero _)
        | succ k35 ih35 =>
          intro i u1 H locs ls hi hm hq35 hP hD hS hl
          refine lv_iload hx hb d_Mo_image_35 (lv_at hl 0 rfl) ?_
          refine lv_bipush (v := nI 8) hx hb d_Mo_image_37 (by decide) ?_
          refine rn_ge (tgt := 69) hx hb (by omega) (by omega) d_Mo_image_39 (by decide) (fun c2 => ?_) (fun c2 => ?_)
          · skip
            have hE : res = u1 := hq35.trans ((if_neg (Nat.not_lt.mpr c2)).trans rfl)
            exact retWv hx hb hr hP hK hD hS hE.symm d_Mo_image_69 hlocks
          · skip
            refine lv_aload_n hx hb d_Mo_image_42 rfl (lv_at hl 1 rfl) ?_
            refine va_get (D := (dC, dI)) (ci := 8) (v := .ref (ad 1)) (C := R_Mo) (T := F_Mo) (N := 31) hx hb hts in_Mo hown hK hP 0 rfl rfl 1 (by decide) (hts _ m_13_31) (fun _ h9 => h9) rfl d_Mo_image_43 ?_
            refine lv_iload_n hx hb d_Mo_image_46 rfl (lv_at hl 2 rfl) ?_
            refine rw_top (y := nI a.toNatClampNeg) (hp_n c1) ?_
            refine lv_iload hx hb d_Mo_image_47 (lv_at hl 0 rfl) ?_
            refine lv_iadd hx hb d_Mo_image_49 ?_
            refine rw_top (y := nI (a.toNatClampNeg + i)) (nI_add a.toNatClampNeg i) ?_
            refine lv_lload_n hx hb d_Mo_image_50 rfl (lv_at hl 3 rfl) ?_
            refine lv_bipush (v := nI 8) hx hb d_Mo_image_51 (by decide) ?_
            refine lv_iload hx hb d_Mo_image_53 (lv_at hl 0 rfl) ?_
            refine lv_imul hx hb d_Mo_image_55 ?_
            refine rw_top (y := nI (8 * i)) (pk_mul 8 i) ?_
            refine lv_lushr (v := (w.toUInt64 >>> ((nI (8 * i)).toInt64.toUInt64 &&& Int64.toUInt64 63)).toInt64) hx hb d_Mo_image_56 rfl ?_
            refine lv_l2i (v := ((w.toUInt64 >>> ((nI (8 * i)).toInt64.toUInt64 &&& Int64.toUInt64 63)).toInt64).toInt32) hx hb d_Mo_image_57 rfl ?_
            refine lv_sipush (v := 255) hx hb d_Mo_image_58 (by decide) ?_
            refine lv_iand hx hb d_Mo_image_61 ?_
            refine astM_image (u := u1) (n := a.toNatClampNeg + i) hx hb hK hP hD hS (by omega) d_Mo_image_62 (fun H locs hP hD hS => ?_)
            refine lv_iinc (v := nI (i + 1)) (lv' := [(4, .int (nI (i + 1))), (0, .ref (ad 0)), (1, .int a), (2, .long w)]) hx hb d_Mo_image_63 hl (k := 0) rfl (rn_inc i 1 (by decide)) (by decide) rfl (fun ls hl => ?_)
            refine lv_goto (tgt := 35) hx hb d_Mo_image_66 (by decide) ?_
            exact ih35 (i + 1) (uI u1 0 (a.toNatClampNeg + i) ((((w.toUInt64 >>> ((nI (8 * i)).toInt64.toUInt64 &&& Int64.toUInt64 63)).toInt64).toInt32) &&& (255 : Int32))) _ _ _ (by first | assumption | omega) (by omega) (hq35.trans ((if_pos c2).trans rfl)) hP hD hS (lv_sub hl [0, 1, 2, 3] rfl)
      exact L35 9 0 ((f_Mo_fails y 1 u).2) _ _ _ (by first | assumption | omega) (by omega) ((by subst ey; exact hq.trans ((if_neg c1).trans rfl))) hP hD hS (lv_sub hl [0, 1, 2, 3] rfl)
    · skip
      have hE : res = (f_Mo_fails y 1 u).2 := (by subst ey; exact hq.trans ((if_pos c1).trans rfl))
      exact retWv hx hb hr hP hK hD hS hE.symm d_Mo_image_31 hlocks
  refine lv_if_lt (tgt := 19) hx hb d_Mo_image_2 (by decide) (fun c3 => ?_) (fun c3 => ?_)
  · skip
    refine lv_iconst (v := 1) hx hb d_Mo_image_19 (by decide) ?_
    refine lv_goto (tgt := 24) hx hb d_Mo_image_20 (by decide) ?_
    exact J24 true _ _ (Eq.symm ((if_pos c3).trans (rfl))) hP hD hS
  · skip
    refine lv_iload_n hx hb d_Mo_image_5 rfl (lv_at hl 1 rfl) ?_
    refine lv_sipush (v := 16376) hx hb d_Mo_image_6 (by decide) ?_
    refine lv_icmp_gt (tgt := 19) hx hb d_Mo_image_9 (by decide) (fun c4 => ?_) (fun c4 => ?_)
    · skip
      refine lv_iconst (v := 1) hx hb d_Mo_image_19 (by decide) ?_
      refine lv_goto (tgt := 24) hx hb d_Mo_image_20 (by decide) ?_
      exact J24 true _ _ (Eq.symm ((if_neg c3).trans ((if_pos c4).trans (rfl)))) hP hD hS
    · skip
      refine lv_iload_n hx hb d_Mo_image_12 rfl (lv_at hl 1 rfl) ?_
      refine lv_bipush (v := 8) hx hb d_Mo_image_13 (by decide) ?_
      refine lv_irem hx hb d_Mo_image_15 (by decide) ?_
      refine lv_if_eq (tgt := 23) hx hb d_Mo_image_16 (by decide) (fun c5 => ?_) (fun c5 => ?_)
      · skip
        refine lv_iconst (v := 0) hx hb d_Mo_image_23 (by decide) ?_
        exact J24 false _ _ (Eq.symm ((if_neg c3).trans ((if_neg c4).trans ((if_pos c5).trans (rfl))))) hP hD hS
      · skip
        refine lv_iconst (v := 1) hx hb d_Mo_image_19 (by decide) ?_
        refine lv_goto (tgt := 24) hx hb d_Mo_image_20 (by decide) ?_
        exact J24 true _ _ (Eq.symm ((if_neg c3).trans ((if_neg c4).trans ((if_neg c5).trans (rfl))))) hP hD hS
def w_Mo_register : List Cond := .code y_Mo_register b_Mo_register 2 (some .int) :: ALLW
def rm_Mo_register : Room := { frames := 21, cells := 0, slots := 0, locals := 622 }
theorem d_Mo_register_0 : decode b_Mo_register 0 = .ok (.aload_n 0, 1) := by decide +kernel
theorem d_Mo_register_1 : decode b_Mo_register 1 = .ok (.iload_n 1, 1) := by decide +kernel
theorem d_Mo_register_2 : decode b_Mo_register 2 = .ok (.ifCond .lt 9, 3) := by decide +kernel
theorem d_Mo_register_5 : decode b_Mo_register 5 = .ok (.iload_n 1, 1) := by decide +kernel
theorem d_Mo_register_6 : decode b_Mo_register 6 = .ok (.bipush 31, 2) := by decide +kernel
theorem d_Mo_register_8 : decode b_Mo_register 8 = .ok (.if_icmp .le 7, 3) := by decide +kernel
theorem d_Mo_register_11 : decode b_Mo_register 11 = .ok (.iconst 1, 1) := by decide +kernel
theorem d_Mo_register_12 : decode b_Mo_register 12 = .ok (.goto 4, 3) := by decide +kernel
theorem d_Mo_register_15 : decode b_Mo_register 15 = .ok (.iconst 0, 1) := by decide +kernel
theorem d_Mo_register_16 : decode b_Mo_register 16 = .ok (.iconst 1, 1) := by decide +kernel
theorem d_Mo_register_17 : decode b_Mo_register 17 = .ok (.invokevirtual 74, 3) := by decide +kernel
theorem d_Mo_register_20 : decode b_Mo_register 20 = .ok (.ifCond .eq 7, 3) := by decide +kernel
theorem d_Mo_register_23 : decode b_Mo_register 23 = .ok (.iconst 0, 1) := by decide +kernel
theorem d_Mo_register_24 : decode b_Mo_register 24 = .ok (.goto 9, 3) := by decide +kernel
theorem d_Mo_register_27 : decode b_Mo_register 27 = .ok (.aload_n 0, 1) := by decide +kernel
theorem d_Mo_register_28 : decode b_Mo_register 28 = .ok (.getfield 17, 3) := by decide +kernel
theorem d_Mo_register_31 : decode b_Mo_register 31 = .ok (.iload_n 1, 1) := by decide +kernel
theorem d_Mo_register_32 : decode b_Mo_register 32 = .ok (.iaload, 1) := by decide +kernel
theorem d_Mo_register_33 : decode b_Mo_register 33 = .ok (.ireturn, 1) := by decide +kernel
def f_Mo_register (a : Int32) (u : S5) : Int32 × S5 := let y : Bool := if a < 0 then true else if a ≤ 31 then false else true; if ((f_Mo_fails y 1 u).1) = true then (0, (f_Mo_fails y 1 u).2) else (aI ((f_Mo_fails y 1 u).2) 2 a.toNatClampNeg, (f_Mo_fails y 1 u).2)
set_option maxHeartbeats 8000000 in
set_option maxRecDepth 100000 in
theorem c_Mo_register (l : Launch) (dC : Nat → ClassId) (dI : Nat → Nat → Nat) (cI cZ : ClassId) (ad : Nat → Nat) (u : S5) (a : Int32) (sz : Nat) : Met l y_Mo_register w_Mo_register rm_Mo_register (PreW (dC, dI) classes [(cI, .int), (cZ, .boolean)] (wM cI cZ ad) u sz [.ref (ad 0), .int a]) (QWi (dC, dI) classes [(cI, .int), (cZ, .boolean)] (wM cI cZ ad) (va_A (wM cI cZ ad u) sz) (f_Mo_register a u).1 (f_Mo_register a u).2) 0 0 (va_A (wM cI cZ ad u) sz) := by
  generalize hres : f_Mo_register a u = res
  refine Met.ofW (cc := b_Mo_register) (maxL := 2) (ret := (some .int)) (by decide) rfl ?_
  intro p e s m args below meth c s₁ B hml hv
  obtain ⟨rfl, rfl, hP, hK, hD0⟩ := hv
  have hx := B.exec
  have hb := B.bytes
  have hr := B.returns
  have hts : ∀ w9 ∈ ALLW, w9.before ([.ref (ad 0), .int a] : List Value).toArray s = true := fun w9 h => atoms_spec (ws := w_Mo_register) B.pre w9 (List.mem_cons_of_mem _ h)
  have hown : s.vm.findClass R_Mo = some m.cls := findClass_of_methodNamed B.named
  have hlocks := B.notSynchronized
  have hD := hD0.self (sz := s.heap.size)
  generalize hAe : va_A (wM cI cZ ad u) s.heap.size = A at hD ⊢
  have hA : ∀ q : Nat, s.heap.size ≤ q → A q := fun q h => by rw [← hAe]; exact Or.inr h
  have hS : va_S A s.heap s.heap [] := va_S.rf
  have hl := lv_entry ([.ref (ad 0), .int a]) (n := 2) (Nat.le_of_ble_eq_true rfl)
  rw [lg_entry_eq]
  generalize (lg_sl ([.ref (ad 0), .int a]) ++ List.replicate (2 - (lg_sl ([.ref (ad 0), .int a])).length) Slot.unset).toArray = ls at hl ⊢
  have hl : lv_has ls 2 [(0, .ref (ad 0)), (1, .int a)] := hl
  have hq := hres.symm
  skip
  refine lv_aload_n hx hb d_Mo_register_0 rfl (lv_at hl 0 rfl) ?_
  refine lv_iload_n hx hb d_Mo_register_1 rfl (lv_at hl 1 rfl) ?_
  have J16 : ∀ (y : Bool) (H : Heap) (locs : List Loc), y = (if a < 0 then true else if a ≤ 31 then false else true) → va_P (dC, dI) classes (wM cI cZ ad u) H → va_D A (wM cI cZ ad u) → va_S A s.heap H locs → W p l e (headSpec w_Mo_register rm_Mo_register).room s m ([.ref (ad 0), .int a] : List Value).toArray below meth c H locs 0 0 (MQ below (QWi (dC, dI) classes [(cI, .int), (cZ, .boolean)] (wM cI cZ ad) A res.1 res.2) ([.ref (ad 0), .int a] : List Value).toArray s 0 0 A) (F0 m 16 ls [.int (b2i y), .ref (ad 0)]) := by
    intro y H locs ey hP hD hS
    refine lv_iconst (v := 1) hx hb d_Mo_register_16 (by decide) ?_
    refine callWi (va_runV (As := [.int (b2i y), .int 1]) (rest := []) ⟨hx, hb, hml, hown, hts⟩ (c_Mo_fails l dC dI cI cZ ad u y 1 H.size) (cwV 2 hts (goodV m_15_21 m_15_22 m_19_15 m_0_12 m_15_23) rfl rfl rfl (by decide +kernel) ⟨Nat.le_of_ble_eq_true rfl, Nat.le_of_ble_eq_true rfl⟩) ⟨preW_blind, va_recv hK hP (ci := 8) (q0 := 0) rfl rfl, preW_ok hP hD hK⟩ rfl rfl hl.1 rfl (lv_room (Nat.le_of_ble_eq_true rfl)) d_Mo_register_17 ⟨Nat.zero_le _, Nat.zero_le _⟩) hP hD hS hA (fun H locs hP hD hS => ?_)
    refine rb_eq (tgt := 27) hx hb d_Mo_register_20 (by decide) (fun c1 => ?_) (fun c1 => ?_)
    · skip
      have hy0 : ¬ y = true := by assumption
      have c1 : ¬ a < 0 := fun h => hy0 (by rw [ey, if_pos h])
      have c2 : a ≤ 31 := Decidable.not_not.mp (fun h => hy0 (by rw [ey, if_neg c1, if_neg h]))
      have hn1 : a.toNatClampNeg ≤ 31 := hp_nle (by decide) (by decide) c1 c2
      refine lv_aload_n hx hb d_Mo_register_27 rfl (lv_at hl 0 rfl) ?_
      refine va_get (D := (dC, dI)) (ci := 8) (v := .ref (ad 3)) (C := R_Mo) (T := F_Mo) (N := 31) hx hb hts in_Mo hown hK hP 0 rfl rfl 3 (by decide) (hts _ m_13_33) (fun _ h9 => h9) rfl d_Mo_register_28 ?_
      refine lv_iload_n hx hb d_Mo_register_31 rfl (lv_at hl 1 rfl) ?_
      refine rw_top (y := nI a.toNatClampNeg) (hp_n c1) ?_
      refine aldM_x (u := ((f_Mo_fails y 1 u).2)) (v := aI ((f_Mo_fails y 1 u).2) 2 a.toNatClampNeg) hx hb hK hP (by omega) rfl d_Mo_register_32 ?_
      have hE : res = (aI ((f_Mo_fails y 1 u).2) 2 a.toNatClampNeg, (f_Mo_fails y 1 u).2) := (by subst ey; exact hq.trans ((if_neg c1).trans rfl))
      exact retWi (x := aI ((f_Mo_fails y 1 u).2) 2 a.toNatClampNeg) hx hb hr hP hK hD hS (congrArg Prod.fst hE).symm (congrArg Prod.snd hE).symm d_Mo_register_33 hlocks
    · skip
      refine lv_iconst (v := 0) hx hb d_Mo_register_23 (by decide) ?_
      refine lv_goto (tgt := 33) hx hb d_Mo_register_24 (by decide) ?_
      have hE : res = (0, (f_Mo_fails y 1 u).2) := (by subst ey; exact hq.trans ((if_pos c1).trans rfl))
      exact retWi (x := 0) hx hb hr hP hK hD hS (congrArg Prod.fst hE).symm (congrArg Prod.snd hE).symm d_Mo_register_33 hlocks
  refine lv_if_lt (tgt := 11) hx hb d_Mo_register_2 (by decide) (fun c2 => ?_) (fun c2 => ?_)
  · skip
    refine lv_iconst (v := 1) hx hb d_Mo_register_11 (by decide) ?_
    refine lv_goto (tgt := 16) hx hb d_Mo_register_12 (by decide) ?_
    exact J16 true _ _ (Eq.symm ((if_pos c2).trans (rfl))) hP hD hS
  · skip
    refine lv_iload_n hx hb d_Mo_register_5 rfl (lv_at hl 1 rfl) ?_
    refine lv_bipush (v := 31) hx hb d_Mo_register_6 (by decide) ?_
    refine lv_icmp_le (tgt := 15) hx hb d_Mo_register_8 (by decide) (fun c3 => ?_) (fun c3 => ?_)
    · skip
      refine lv_iconst (v := 0) hx hb d_Mo_register_15 (by decide) ?_
      exact J16 false _ _ (Eq.symm ((if_neg c2).trans ((if_pos c3).trans (rfl)))) hP hD hS
    · skip
      refine lv_iconst (v := 1) hx hb d_Mo_register_11 (by decide) ?_
      refine lv_goto (tgt := 16) hx hb d_Mo_register_12 (by decide) ?_
      exact J16 true _ _ (Eq.symm ((if_neg c2).trans ((if_neg c3).trans (rfl)))) hP hD hS
def w_Mo_unknown : List Cond := .code y_Mo_unknown b_Mo_unknown 2 (some .int) :: ALLW
def rm_Mo_unknown : Room := { frames := 21, cells := 0, slots := 0, locals := 623 }
theorem d_Mo_unknown_0 : decode b_Mo_unknown 0 = .ok (.aload_n 0, 1) := by decide +kernel
theorem d_Mo_unknown_1 : decode b_Mo_unknown 1 = .ok (.iload_n 1, 1) := by decide +kernel
theorem d_Mo_unknown_2 : decode b_Mo_unknown 2 = .ok (.ifCond .lt 9, 3) := by decide +kernel
theorem d_Mo_unknown_5 : decode b_Mo_unknown 5 = .ok (.iload_n 1, 1) := by decide +kernel
theorem d_Mo_unknown_6 : decode b_Mo_unknown 6 = .ok (.bipush 31, 2) := by decide +kernel
theorem d_Mo_unknown_8 : decode b_Mo_unknown 8 = .ok (.if_icmp .le 7, 3) := by decide +kernel
theorem d_Mo_unknown_11 : decode b_Mo_unknown 11 = .ok (.iconst 1, 1) := by decide +kernel
theorem d_Mo_unknown_12 : decode b_Mo_unknown 12 = .ok (.goto 4, 3) := by decide +kernel
theorem d_Mo_unknown_15 : decode b_Mo_unknown 15 = .ok (.iconst 0, 1) := by decide +kernel
theorem d_Mo_unknown_16 : decode b_Mo_unknown 16 = .ok (.iconst 1, 1) := by decide +kernel
theorem d_Mo_unknown_17 : decode b_Mo_unknown 17 = .ok (.invokevirtual 74, 3) := by decide +kernel
theorem d_Mo_unknown_20 : decode b_Mo_unknown 20 = .ok (.ifCond .eq 7, 3) := by decide +kernel
theorem d_Mo_unknown_23 : decode b_Mo_unknown 23 = .ok (.iconst 0, 1) := by decide +kernel
theorem d_Mo_unknown_24 : decode b_Mo_unknown 24 = .ok (.goto 8, 3) := by decide +kernel
theorem d_Mo_unknown_27 : decode b_Mo_unknown 27 = .ok (.aload_n 0, 1) := by decide +kernel
theorem d_Mo_unknown_28 : decode b_Mo_unknown 28 = .ok (.iload_n 1, 1) := by decide +kernel
theorem d_Mo_unknown_29 : decode b_Mo_unknown 29 = .ok (.invokevirtual 160, 3) := by decide +kernel
theorem d_Mo_unknown_32 : decode b_Mo_unknown 32 = .ok (.ireturn, 1) := by decide +kernel
def f_Mo_unknown (a : Int32) (u : S5) : Int32 × S5 := let y : Bool := if a < 0 then true else if a ≤ 31 then false else true; if ((f_Mo_fails y 1 u).1) = true then (0, (f_Mo_fails y 1 u).2) else (f_Mo_dark a.toNatClampNeg ((f_Mo_fails y 1 u).2), (f_Mo_fails y 1 u).2)
set_option maxHeartbeats 8000000 in
set_option maxRecDepth 100000 in
theorem c_Mo_unknown (l : Launch) (dC : Nat → ClassId) (dI : Nat → Nat → Nat) (cI cZ : ClassId) (ad : Nat → Nat) (u : S5) (a : Int32) (sz : Nat) : Met l y_Mo_unknown w_Mo_unknown rm_Mo_unknown (PreW (dC, dI) classes [(cI, .int), (cZ, .boolean)] (wM cI cZ ad) u sz [.ref (ad 0), .int a]) (QWi (dC, dI) classes [(cI, .int), (cZ, .boolean)] (wM cI cZ ad) (va_A (wM cI cZ ad u) sz) (f_Mo_unknown a u).1 (f_Mo_unknown a u).2) 0 0 (va_A (wM cI cZ ad u) sz) := by
  generalize hres : f_Mo_unknown a u = res
  refine Met.ofW (cc := b_Mo_unknown) (maxL := 2) (ret := (some .int)) (by decide) rfl ?_
  intro p e s m args below meth c s₁ B hml hv
  obtain ⟨rfl, rfl, hP, hK, hD0⟩ := hv
  have hx := B.exec
  have hb := B.bytes
  have hr := B.returns
  have hts : ∀ w9 ∈ ALLW, w9.before ([.ref (ad 0), .int a] : List Value).toArray s = true := fun w9 h => atoms_spec (ws := w_Mo_unknown) B.pre w9 (List.mem_cons_of_mem _ h)
  have hown : s.vm.findClass R_Mo = some m.cls := findClass_of_methodNamed B.named
  have hlocks := B.notSynchronized
  have hD := hD0.self (sz := s.heap.size)
  generalize hAe : va_A (wM cI cZ ad u) s.heap.size = A at hD ⊢
  have hA : ∀ q : Nat, s.heap.size ≤ q → A q := fun q h => by rw [← hAe]; exact Or.inr h
  have hS : va_S A s.heap s.heap [] := va_S.rf
  have hl := lv_entry ([.ref (ad 0), .int a]) (n := 2) (Nat.le_of_ble_eq_true rfl)
  rw [lg_entry_eq]
  generalize (lg_sl ([.ref (ad 0), .int a]) ++ List.replicate (2 - (lg_sl ([.ref (ad 0), .int a])).length) Slot.unset).toArray = ls at hl ⊢
  have hl : lv_has ls 2 [(0, .ref (ad 0)), (1, .int a)] := hl
  have hq := hres.symm
  skip
  refine lv_aload_n hx hb d_Mo_unknown_0 rfl (lv_at hl 0 rfl) ?_
  refine lv_iload_n hx hb d_Mo_unknown_1 rfl (lv_at hl 1 rfl) ?_
  have J16 : ∀ (y : Bool) (H : Heap) (locs : List Loc), y = (if a < 0 then true else if a ≤ 31 then false else true) → va_P (dC, dI) classes (wM cI cZ ad u) H → va_D A (wM cI cZ ad u) → va_S A s.heap H locs → W p l e (headSpec w_Mo_unknown rm_Mo_unknown).room s m ([.ref (ad 0), .int a] : List Value).toArray below meth c H locs 0 0 (MQ below (QWi (dC, dI) classes [(cI, .int), (cZ, .boolean)] (wM cI cZ ad) A res.1 res.2) ([.ref (ad 0), .int a] : List Value).toArray s 0 0 A) (F0 m 16 ls [.int (b2i y), .ref (ad 0)]) := by
    intro y H locs ey hP hD hS
    refine lv_iconst (v := 1) hx hb d_Mo_unknown_16 (by decide) ?_
    refine callWi (va_runV (As := [.int (b2i y), .int 1]) (rest := []) ⟨hx, hb, hml, hown, hts⟩ (c_Mo_fails l dC dI cI cZ ad u y 1 H.size) (cwV 2 hts (goodV m_15_21 m_15_22 m_19_15 m_0_12 m_15_23) rfl rfl rfl (by decide +kernel) ⟨Nat.le_of_ble_eq_true rfl, Nat.le_of_ble_eq_true rfl⟩) ⟨preW_blind, va_recv hK hP (ci := 8) (q0 := 0) rfl rfl, preW_ok hP hD hK⟩ rfl rfl hl.1 rfl (lv_room (Nat.le_of_ble_eq_true rfl)) d_Mo_unknown_17 ⟨Nat.zero_le _, Nat.zero_le _⟩) hP hD hS hA (fun H locs hP hD hS => ?_)
    refine rb_eq (tgt := 27) hx hb d_Mo_unknown_20 (by decide) (fun c1 => ?_) (fun c1 => ?_)
    · skip
      have hy0 : ¬ y = true := by assumption
      have c1 : ¬ a < 0 := fun h => hy0 (by rw [ey, if_pos h])
      have c2 : a ≤ 31 := Decidable.not_not.mp (fun h => hy0 (by rw [ey, if_neg c1, if_neg h]))
      have hn1 : a.toNatClampNeg ≤ 31 := hp_nle (by decide) (by decide) c1 c2
      refine lv_aload_n hx hb d_Mo_unknown_27 rfl (lv_at hl 0 rfl) ?_
      refine lv_iload_n hx hb d_Mo_unknown_28 rfl (lv_at hl 1 rfl) ?_
      refine rw_top (y := nI a.toNatClampNeg) (hp_n c1) ?_
      refine callWi (va_runV (As := [.int (nI a.toNatClampNeg)]) (rest := []) ⟨hx, hb, hml, hown, hts⟩ (c_Mo_dark l dC dI cI cZ ad ((f_Mo_fails y 1 u).2) a.toNatClampNeg (by first | assumption | omega) H.size) (cwV 1 hts (goodV m_16_35 m_16_36 m_19_27 m_0_12 m_16_37) rfl rfl rfl (by decide +kernel) ⟨Nat.le_of_ble_eq_true rfl, Nat.le_of_ble_eq_true rfl⟩) ⟨preW_blind, va_recv hK hP (ci := 8) (q0 := 0) rfl rfl, preW_ok hP hD hK⟩ rfl rfl hl.1 rfl (lv_room (Nat.le_of_ble_eq_true rfl)) d_Mo_unknown_29 ⟨Nat.zero_le _, Nat.zero_le _⟩) hP hD hS hA (fun H locs hP hD hS => ?_)
      have hE : res = (f_Mo_dark a.toNatClampNeg ((f_Mo_fails y 1 u).2), (f_Mo_fails y 1 u).2) := (by subst ey; exact hq.trans ((if_neg c1).trans rfl))
      exact retWi (x := f_Mo_dark a.toNatClampNeg ((f_Mo_fails y 1 u).2)) hx hb hr hP hK hD hS (congrArg Prod.fst hE).symm (congrArg Prod.snd hE).symm d_Mo_unknown_32 hlocks
    · skip
      refine lv_iconst (v := 0) hx hb d_Mo_unknown_23 (by decide) ?_
      refine lv_goto (tgt := 32) hx hb d_Mo_unknown_24 (by decide) ?_
      have hE : res = (0, (f_Mo_fails y 1 u).2) := (by subst ey; exact hq.trans ((if_pos c1).trans rfl))
      exact retWi (x := 0) hx hb hr hP hK hD hS (congrArg Prod.fst hE).symm (congrArg Prod.snd hE).symm d_Mo_unknown_32 hlocks
  refine lv_if_lt (tgt := 11) hx hb d_Mo_unknown_2 (by decide) (fun c2 => ?_) (fun c2 => ?_)
  · skip
    refine lv_iconst (v := 1) hx hb d_Mo_unknown_11 (by decide) ?_
    refine lv_goto (tgt := 16) hx hb d_Mo_unknown_12 (by decide) ?_
    exact J16 true _ _ (Eq.symm ((if_pos c2).trans (rfl))) hP hD hS
  · skip
    refine lv_iload_n hx hb d_Mo_unknown_5 rfl (lv_at hl 1 rfl) ?_
    refine lv_bipush (v := 31) hx hb d_Mo_unknown_6 (by decide) ?_
    refine lv_icmp_le (tgt := 15) hx hb d_Mo_unknown_8 (by decide) (fun c3 => ?_) (fun c3 => ?_)
    · skip
      refine lv_iconst (v := 0) hx hb d_Mo_unknown_15 (by decide) ?_
      exact J16 false _ _ (Eq.symm ((if_neg c2).trans ((if_pos c3).trans (rfl)))) hP hD hS
    · skip
      refine lv_iconst (v := 1) hx hb d_Mo_unknown_11 (by decide) ?_
      refine lv_goto (tgt := 16) hx hb d_Mo_unknown_12 (by decide) ?_
      exact J16 true _ _ (Eq.symm ((if_neg c2).trans ((if_neg c3).trans (rfl)))) hP hD hS
def w_Mo_memory : List Cond := .code y_Mo_memory b_Mo_memory 4 (some .int) :: ALLW
def rm_Mo_memory : Room := { frames := 21, cells := 0, slots := 0, locals := 622 }
theorem d_Mo_memory_0 : decode b_Mo_memory 0 = .ok (.aload_n 0, 1) := by decide +kernel
theorem d_Mo_memory_1 : decode b_Mo_memory 1 = .ok (.iload_n 1, 1) := by decide +kernel
theorem d_Mo_memory_2 : decode b_Mo_memory 2 = .ok (.ifCond .lt 9, 3) := by decide +kernel
theorem d_Mo_memory_5 : decode b_Mo_memory 5 = .ok (.iload_n 1, 1) := by decide +kernel
theorem d_Mo_memory_6 : decode b_Mo_memory 6 = .ok (.ldc 13, 2) := by decide +kernel
theorem d_Mo_memory_8 : decode b_Mo_memory 8 = .ok (.if_icmp .lt 7, 3) := by decide +kernel
theorem d_Mo_memory_11 : decode b_Mo_memory 11 = .ok (.iconst 1, 1) := by decide +kernel
theorem d_Mo_memory_12 : decode b_Mo_memory 12 = .ok (.goto 4, 3) := by decide +kernel
theorem d_Mo_memory_15 : decode b_Mo_memory 15 = .ok (.iconst 0, 1) := by decide +kernel
theorem d_Mo_memory_16 : decode b_Mo_memory 16 = .ok (.iconst 1, 1) := by decide +kernel
theorem d_Mo_memory_17 : decode b_Mo_memory 17 = .ok (.invokevirtual 74, 3) := by decide +kernel
theorem d_Mo_memory_20 : decode b_Mo_memory 20 = .ok (.ifCond .eq 5, 3) := by decide +kernel
theorem d_Mo_memory_23 : decode b_Mo_memory 23 = .ok (.iconst 0, 1) := by decide +kernel
theorem d_Mo_memory_24 : decode b_Mo_memory 24 = .ok (.ireturn, 1) := by decide +kernel
theorem d_Mo_memory_25 : decode b_Mo_memory 25 = .ok (.aload_n 0, 1) := by decide +kernel
theorem d_Mo_memory_26 : decode b_Mo_memory 26 = .ok (.getfield 14, 3) := by decide +kernel
theorem d_Mo_memory_29 : decode b_Mo_memory 29 = .ok (.iload_n 1, 1) := by decide +kernel
theorem d_Mo_memory_30 : decode b_Mo_memory 30 = .ok (.iaload, 1) := by decide +kernel
theorem d_Mo_memory_31 : decode b_Mo_memory 31 = .ok (.aload_n 0, 1) := by decide +kernel
theorem d_Mo_memory_32 : decode b_Mo_memory 32 = .ok (.getfield 20, 3) := by decide +kernel
theorem d_Mo_memory_35 : decode b_Mo_memory 35 = .ok (.iload_n 1, 1) := by decide +kernel
theorem d_Mo_memory_36 : decode b_Mo_memory 36 = .ok (.baload, 1) := by decide +kernel
theorem d_Mo_memory_37 : decode b_Mo_memory 37 = .ok (.ifCond .eq 8, 3) := by decide +kernel
theorem d_Mo_memory_40 : decode b_Mo_memory 40 = .ok (.ldc 13, 2) := by decide +kernel
theorem d_Mo_memory_42 : decode b_Mo_memory 42 = .ok (.goto 4, 3) := by decide +kernel
theorem d_Mo_memory_45 : decode b_Mo_memory 45 = .ok (.iconst 0, 1) := by decide +kernel
theorem d_Mo_memory_46 : decode b_Mo_memory 46 = .ok (.ior, 1) := by decide +kernel
theorem d_Mo_memory_47 : decode b_Mo_memory 47 = .ok (.istore_n 2, 1) := by decide +kernel
theorem d_Mo_memory_48 : decode b_Mo_memory 48 = .ok (.iconst 0, 1) := by decide +kernel
theorem d_Mo_memory_49 : decode b_Mo_memory 49 = .ok (.istore_n 3, 1) := by decide +kernel
theorem d_Mo_memory_50 : decode b_Mo_memory 50 = .ok (.iload_n 3, 1) := by decide +kernel
theorem d_Mo_memory_51 : decode b_Mo_memory 51 = .ok (.bipush 8, 2) := by decide +kernel
theorem d_Mo_memory_53 : decode b_Mo_memory 53 = .ok (.if_icmp .ge 31, 3) := by decide +kernel
theorem d_Mo_memory_56 : decode b_Mo_memory 56 = .ok (.aload_n 0, 1) := by decide +kernel
theorem d_Mo_memory_57 : decode b_Mo_memory 57 = .ok (.getfield 25, 3) := by decide +kernel
theorem d_Mo_memory_60 : decode b_Mo_memory 60 = .ok (.bipush 8, 2) := by decide +kernel
theorem d_Mo_memory_62 : decode b_Mo_memory 62 = .ok (.iload_n 1, 1) := by decide +kernel
theorem d_Mo_memory_63 : decode b_Mo_memory 63 = .ok (.imul, 1) := by decide +kernel
theorem d_Mo_memory_64 : decode b_Mo_memory 64 = .ok (.iload_n 3, 1) := by decide +kernel
theorem d_Mo_memory_65 : decode b_Mo_memory 65 = .ok (.iadd, 1) := by decide +kernel
theorem d_Mo_memory_66 : decode b_Mo_memory 66 = .ok (.baload, 1) := by decide +kernel
theorem d_Mo_memory_67 : decode b_Mo_memory 67 = .ok (.ifCond .eq 11, 3) := by decide +kernel
theorem d_Mo_memory_70 : decode b_Mo_memory 70 = .ok (.iload_n 2, 1) := by decide +kernel
theorem d_Mo_memory_71 : decode b_Mo_memory 71 = .ok (.sipush 256, 3) := by decide +kernel
theorem d_Mo_memory_74 : decode b_Mo_memory 74 = .ok (.iload_n 3, 1) := by decide +kernel
theorem d_Mo_memory_75 : decode b_Mo_memory 75 = .ok (.ishl, 1) := by decide +kernel
theorem d_Mo_memory_76 : decode b_Mo_memory 76 = .ok (.ior, 1) := by decide +kernel
theorem d_Mo_memory_77 : decode b_Mo_memory 77 = .ok (.istore_n 2, 1) := by decide +kernel
theorem d_Mo_memory_78 : decode b_Mo_memory 78 = .ok (.iinc 3 1, 3) := by decide +kernel
theorem d_Mo_memory_81 : decode b_Mo_memory 81 = .ok (.goto (-31), 3) := by decide +kernel
theorem d_Mo_memory_84 : decode b_Mo_memory 84 = .ok (.iload_n 2, 1) := by decide +kernel
theorem d_Mo_memory_85 : decode b_Mo_memory 85 = .ok (.ireturn, 1) := by decide +kernel
def f_Mo_memory_50 (a : Int32) (u : S5) (y : Bool) : Nat → Nat → Int32 → (Int32 × S5)
  | 0, i, v => (0, u)
  | k50 + 1, i, v => if i < 8 then (if (aB ((f_Mo_fails y 1 u).2) 1 (8 * a.toNatClampNeg + i)) = true then f_Mo_memory_50 a u y k50 (i + 1) (v ||| ((256 : Int32) <<< ((nI i) &&& 31))) else f_Mo_memory_50 a u y k50 (i + 1) v) else (v, (f_Mo_fails y 1 u).2)
def f_Mo_memory (a : Int32) (u : S5) : Int32 × S5 := let y : Bool := if a < 0 then true else if a < 65536 then false else true; if ((f_Mo_fails y 1 u).1) = true then (0, (f_Mo_fails y 1 u).2) else let x2 : Int32 := if (aB ((f_Mo_fails y 1 u).2) 0 a.toNatClampNeg) = true then 65536 else 0; f_Mo_memory_50 a u y 9 0 ((aI ((f_Mo_fails y 1 u).2) 1 a.toNatClampNeg) ||| x2)
set_option maxHeartbeats 8000000 in
set_option maxRecDepth 100000 in
theorem c_Mo_memory (l : Launch) (dC : Nat → ClassId) (dI : Nat → Nat → Nat) (cI cZ : ClassId) (ad : Nat → Nat) (u : S5) (a : Int32) (sz : Nat) : Met l y_Mo_memory w_Mo_memory rm_Mo_memory (PreW (dC, dI) classes [(cI, .int), (cZ, .boolean)] (wM cI cZ ad) u sz [.ref (ad 0), .int a]) (QWi (dC, dI) classes [(cI, .int), (cZ, .boolean)] (wM cI cZ ad) (va_A (wM cI cZ ad u) sz) (f_Mo_memory a u).1 (f_Mo_memory a u).2) 0 0 (va_A (wM cI cZ ad u) sz) := by
  generalize hres : f_Mo_memory a u = res
  refine Met.ofW (cc := b_Mo_memory) (maxL := 4) (ret := (some .int)) (by decide) rfl ?_
  intro p e s m args below meth c s₁ B hml hv
  obtain ⟨rfl, rfl, hP, hK, hD0⟩ := hv
  have hx := B.exec
  have hb := B.bytes
  have hr := B.returns
  have hts : ∀ w9 ∈ ALLW, w9.before ([.ref (ad 0), .int a] : List Value).toArray s = true := fun w9 h => atoms_spec (ws := w_Mo_memory) B.pre w9 (List.mem_cons_of_mem _ h)
  have hown : s.vm.findClass R_Mo = some m.cls := findClass_of_methodNamed B.named
  have hlocks := B.notSynchronized
  have hD := hD0.self (sz := s.heap.size)
  generalize hAe : va_A (wM cI cZ ad u) s.heap.size = A at hD ⊢
  have hA : ∀ q : Nat, s.heap.size ≤ q → A q := fun q h => by rw [← hAe]; exact Or.inr h
  have hS : va_S A s.heap s.heap [] := va_S.rf
  have hl := lv_entry ([.ref (ad 0), .int a]) (n := 4) (Nat.le_of_ble_eq_true rfl)
  rw [lg_entry_eq]
  generalize (lg_sl ([.ref (ad 0), .int a]) ++ List.replicate (4 - (lg_sl ([.ref (ad 0), .int a])).length) Slot.unset).toArray = ls at hl ⊢
  have hl : lv_has ls 4 [(0, .ref (ad 0)), (1, .int a)] := hl
  have hq := hres.symm
  skip
  refine lv_aload_n hx hb d_Mo_memory_0 rfl (lv_at hl 0 rfl) ?_
  refine lv_iload_n hx hb d_Mo_memory_1 rfl (lv_at hl 1 rfl) ?_
  have J16 : ∀ (y : Bool) (H : Heap) (locs : List Loc), y = (if a < 0 then true else if a < 65536 then false else true) → va_P (dC, dI) classes (wM cI cZ ad u) H → va_D A (wM cI cZ ad u) → va_S A s.heap H locs → W p l e (headSpec w_Mo_memory rm_Mo_memory).room s m ([.ref (ad 0), .int a] : List Value).toArray below meth c H locs 0 0 (MQ below (QWi (dC, dI) classes [(cI, .int), (cZ, .boolean)] (wM cI cZ ad) A res.1 res.2) ([.ref (ad 0), .int a] : List Value).toArray s 0 0 A) (F0 m 16 ls [.int (b2i y), .ref (ad 0)]) := by
    intro y H locs ey hP hD hS
    refine lv_iconst (v := 1) hx hb d_Mo_memory_16 (by decide) ?_
    refine callWi (va_runV (As := [.int (b2i y), .int 1]) (rest := []) ⟨hx, hb, hml, hown, hts⟩ (c_Mo_fails l dC dI cI cZ ad u y 1 H.size) (cwV 2 hts (goodV m_15_21 m_15_22 m_19_15 m_0_12 m_15_23) rfl rfl rfl (by decide +kernel) ⟨Nat.le_of_ble_eq_true rfl, Nat.le_of_ble_eq_true rfl⟩) ⟨preW_blind, va_recv hK hP (ci := 8) (q0 := 0) rfl rfl, preW_ok hP hD hK⟩ rfl rfl hl.1 rfl (lv_room (Nat.le_of_ble_eq_true rfl)) d_Mo_memory_17 ⟨Nat.zero_le _, Nat.zero_le _⟩) hP hD hS hA (fun H locs hP hD hS => ?_)
    refine rb_eq (tgt := 25) hx hb d_Mo_memory_20 (by decide) (fun c1 => ?_) (fun c1 => ?_)
    · skip
      have hy0 : ¬ y = true := by assumption
      have c1 : ¬ a < 0 := fun h => hy0 (by rw [ey, if_pos h])
      have c2 : a < 65536 := Decidable.not_not.mp (fun h => hy0 (by rw [ey, if_neg c1, if_neg h]))
      have hn1 : a.toNatClampNeg < 65536 := hp_nlt (by decide) (by decide) c1 c2
      refine lv_aload_n hx hb d_Mo_memory_25 rfl (lv_at hl 0 rfl) ?_
      refine va_get (D := (dC, dI)) (ci := 8) (v := .ref (ad 2)) (C := R_Mo) (T := F_Mo) (N := 31) hx hb hts in_Mo hown hK hP 0 rfl rfl 2 (by decide) (hts _ m_13_32) (fun _ h9 => h9) rfl d_Mo_memory_26 ?_
      refine lv_iload_n hx hb d_Mo_memory_29 rfl (lv_at hl 1 rfl) ?_
      refine rw_top (y := nI a.toNatClampNeg) (hp_n c1) ?_
      refine aldM_octet (u := ((f_Mo_fails y 1 u).2)) (v := aI ((f_Mo_fails y 1 u).2) 1 a.toNatClampNeg) hx hb hK hP (by omega) rfl d_Mo_memory_30 ?_
      refine lv_aload_n hx hb d_Mo_memory_31 rfl (lv_at hl 0 rfl) ?_
      refine va_get (D := (dC, dI)) (ci := 8) (v := .ref (ad 4)) (C := R_Mo) (T := F_Mo) (N := 31) hx hb hts in_Mo hown hK hP 0 rfl rfl 4 (by decide) (hts _ m_13_34) (fun _ h9 => h9) rfl d_Mo_memory_32 ?_
      refine lv_iload_n hx hb d_Mo_memory_35 rfl (lv_at hl 1 rfl) ?_
      refine rw_top (y := nI a.toNatClampNeg) (hp_n c1) ?_
      refine aldM_open (u := ((f_Mo_fails y 1 u).2)) (v := aB ((f_Mo_fails y 1 u).2) 0 a.toNatClampNeg) hx hb hK hP (by omega) rfl d_Mo_memory_36 ?_
      have J46 : ∀ (x2 : Int32) (H : Heap) (locs : List Loc), x2 = (if (aB ((f_Mo_fails y 1 u).2) 0 a.toNatClampNeg) = true then 65536 else 0) → va_P (dC, dI) classes (wM cI cZ ad ((f_Mo_fails y 1 u).2)) H → va_D A (wM cI cZ ad ((f_Mo_fails y 1 u).2)) → va_S A s.heap H locs → W p l e (headSpec w_Mo_memory rm_Mo_memory).room s m ([.ref (ad 0), .int a] : List Value).toArray below meth c H locs 0 0 (MQ below (QWi (dC, dI) classes [(cI, .int), (cZ, .boolean)] (wM cI cZ ad) A res.1 res.2) ([.ref (ad 0), .int a] : List Value).toArray s 0 0 A) (F0 m 46 ls [.int x2, .int (aI ((f_Mo_fails y 1 u).2) 1 a.toNatClampNeg)]) := by
        intro x2 H locs ex2 hP hD hS
        refine lv_ior hx hb d_Mo_memory_46 ?_
        refine lv_istore_n (lv' := [(2, .int ((aI ((f_Mo_fails y 1 u).2) 1 a.toNatClampNeg) ||| x2)), (0, .ref (ad 0)), (1, .int a)]) hx hb d_Mo_memory_47 rfl hl (by decide) rfl (fun ls hl => ?_)
        refine lv_iconst (v := nI 0) hx hb d_Mo_memory_48 (by decide) ?_
        refine lv_istore_n (lv' := [(3, .int (nI 0)), (2, .int ((aI ((f_Mo_fails y 1 u).2) 1 a.toNatClampNeg) ||| x2)), (0, .ref (ad 0)), (1, .int a)]) hx hb d_Mo_memory_49 rfl hl (by decide) rfl (fun ls hl => ?_)
        have L50 : ∀ (k : Nat) (i : Nat) (v : Int32) (H : Heap) (locs : List Loc) (ls : Array Slot), (i ≤ 8) → (8 - i) < k → res = f_Mo_memory_50 a u y k i v → va_P (dC, dI) classes (wM cI cZ ad ((f_Mo_fails y 1 u).2)) H → va_D A (wM cI cZ ad ((f_Mo_fails y 1 u).2)) → va_S A s.heap H locs → lv_has ls 4 [(3, .int (nI i)), (2, .int v), (0, .ref (ad 0)), (1, .int a)] → W p l e (headSpec w_Mo_memory rm_Mo_memory).room s m ([.ref (ad 0), .int a] : List Value).toArray below meth c H locs 0 0 (MQ below (QWi (dC, dI) classes [(cI, .int), (cZ, .boolean)] (wM cI cZ ad) A res.1 res.2) ([.ref (ad 0), .int a] : List Value).toArray s 0 0 A) (F0 m 50 ls []) := by
          intro k
          induction k with
          | zero => intro i v H locs ls hi hm; exact absurd hm (Nat.not_lt_zero _)
          | succ k50 ih50 =>
            intro i v H locs ls hi hm hq50 hP hD hS hl
            refine lv_iload_n hx hb d_Mo_memory_50 rfl (lv_at hl 0 rfl) ?_
            refine lv_bipush (v := nI 8) hx hb d_Mo_memory_51 (by decide) ?_
            refine rn_ge (tgt := 84) hx hb (by omega) (by omega) d_Mo_memory_53 (by decide) (fun c3 => ?_) (fun c3 => ?_)
            · skip
              refine lv_iload_n hx hb d_Mo_memory_84 rfl (lv_at hl 1 rfl) ?_
              have hE : res = (v, (f_Mo_fails y 1 u).2) := hq50.trans ((if_neg (Nat.not_lt.mpr c3)).trans rfl)
              exact retWi (x := v) hx hb hr hP hK hD hS (congrArg Prod.fst hE).symm (congrArg Prod.snd hE).symm d_Mo_memory_85 hlocks
            · skip
              refine lv_aload_n hx hb d_Mo_memory_56 rfl (lv_at hl 2 rfl) ?_
              refine va_get (D := (dC, dI)) (ci := 8) (v := .ref (ad 5)) (C := R_Mo) (T := F_Mo) (N := 31) hx hb hts in_Mo hown hK hP 0 rfl rfl 5 (by decide) (hts _ m_13_35) (fun _ h9 => h9) rfl d_Mo_memory_57 ?_
              refine lv_bipush (v := nI 8) hx hb d_Mo_memory_60 (by decide) ?_
              refine lv_iload_n hx hb d_Mo_memory_62 rfl (lv_at hl 3 rfl) ?_
              refine rw_top (y := nI a.toNatClampNeg) (hp_n c1) ?_
              refine lv_imul hx hb d_Mo_memory_63 ?_
              refine rw_top (y := nI (8 * a.toNatClampNeg)) (pk_mul 8 a.toNatClampNeg) ?_
              refine lv_iload_n hx hb d_Mo_memory_64 rfl (lv_at hl 0 rfl) ?_
              refine lv_iadd hx hb d_Mo_memory_65 ?_
              refine rw_top (y := nI (8 * a.toNatClampNeg + i)) (nI_add (8 * a.toNatClampNeg) i) ?_
              refine aldM_dark (u := ((f_Mo_fails y 1 u).2)) (v := aB ((f_Mo_fails y 1 u).2) 1 (8 * a.toNatClampNeg + i)) hx hb hK hP (by omega) rfl d_Mo_memory_66 ?_
              refine rb_eq (tgt := 78) hx hb d_Mo_memory_67 (by decide) (fun c4 => ?_) (fun c4 => ?_)
              · skip
                refine lv_iinc (v := nI (i + 1)) (lv' := [(3, .int (nI (i + 1))), (2, .int v), (0, .ref (ad 0)), (1, .int a)]) hx hb d_Mo_memory_78 hl (k := 0) rfl (rn_inc i 1 (by decide)) (by decide) rfl (fun ls hl => ?_)
                refine lv_goto (tgt := 50) hx hb d_Mo_memory_81 (by decide) ?_
                exact ih50 (i + 1) v _ _ _ (by first | assumption | omega) (by omega) (hq50.trans ((if_pos c3).trans ((if_neg c4).trans rfl))) hP hD hS (lv_sub hl [0, 1, 2, 3] rfl)
              · skip
                refine lv_iload_n hx hb d_Mo_memory_70 rfl (lv_at hl 1 rfl) ?_
                refine lv_sipush (v := 256) hx hb d_Mo_memory_71 (by decide) ?_
                refine lv_iload_n hx hb d_Mo_memory_74 rfl (lv_at hl 0 rfl) ?_
                refine lv_ishl hx hb d_Mo_memory_75 ?_
                refine lv_ior hx hb d_Mo_memory_76 ?_
                refine lv_istore_n (lv' := [(2, .int (v ||| ((256 : Int32) <<< ((nI i) &&& 31)))), (3, .int (nI i)), (0, .ref (ad 0)), (1, .int a)]) hx hb d_Mo_memory_77 rfl hl (by decide) rfl (fun ls hl => ?_)
                refine lv_iinc (v := nI (i + 1)) (lv' := [(3, .int (nI (i + 1))), (2, .int (v ||| ((256 : Int32) <<< ((nI i) &&& 31)))), (0, .ref (ad 0)), (1, .int a)]) hx hb d_Mo_memory_78 hl (k := 1) rfl (rn_inc i 1 (by decide)) (by decide) rfl (fun ls hl => ?_)
                refine lv_goto (tgt := 50) hx hb d_Mo_memory_81 (by decide) ?_
                exact ih50 (i + 1) (v ||| ((256 : Int32) <<< ((nI i) &&& 31))) _ _ _ (by first | assumption | omega) (by omega) (hq50.trans ((if_pos c3).trans ((if_pos c4).trans rfl))) hP hD hS (lv_sub hl [0, 1, 2, 3] rfl)
        exact L50 9 0 ((aI ((f_Mo_fails y 1 u).2) 1 a.toNatClampNeg) ||| x2) _ _ _ (by first | assumption | omega) (by omega) ((by subst ex2; subst ey; exact hq.trans ((if_neg c1).trans rfl))) hP hD hS (lv_sub hl [0, 1, 2, 3] rfl)
      refine rb_eq (tgt := 45) hx hb d_Mo_memory_37 (by decide) (fun c5 => ?_) (fun c5 => ?_)
      · skip
        refine lv_iconst (v := 0) hx hb d_Mo_memory_45 (by decide) ?_
        exact J46 0 _ _ (Eq.symm ((if_neg c5).trans (rfl))) hP hD hS
      · skip
        refine lv_ldc (v := 65536) hx hb hown (hts _ m_13_23) d_Mo_memory_40 ?_
        refine lv_goto (tgt := 46) hx hb d_Mo_memory_42 (by decide) ?_
        exact J46 65536 _ _ (Eq.symm ((if_pos c5).trans (rfl))) hP hD hS
    · skip
      refine lv_iconst (v := 0) hx hb d_Mo_memory_23 (by decide) ?_
      have hE : res = (0, (f_Mo_fails y 1 u).2) := (by subst ey; exact hq.trans ((if_pos c1).trans rfl))
      exact retWi (x := 0) hx hb hr hP hK hD hS (congrArg Prod.fst hE).symm (congrArg Prod.snd hE).symm d_Mo_memory_24 hlocks
  refine lv_if_lt (tgt := 11) hx hb d_Mo_memory_2 (by decide) (fun c6 => ?_) (fun c6 => ?_)
  · skip
    refine lv_iconst (v := 1) hx hb d_Mo_memory_11 (by decide) ?_
    refine lv_goto (tgt := 16) hx hb d_Mo_memory_12 (by decide) ?_
    exact J16 true _ _ (Eq.symm ((if_pos c6).trans (rfl))) hP hD hS
  · skip
    refine lv_iload_n hx hb d_Mo_memory_5 rfl (lv_at hl 1 rfl) ?_
    refine lv_ldc (v := 65536) hx hb hown (hts _ m_13_23) d_Mo_memory_6 ?_
    refine lv_icmp_lt (tgt := 15) hx hb d_Mo_memory_8 (by decide) (fun c7 => ?_) (fun c7 => ?_)
    · skip
      refine lv_iconst (v := 0) hx hb d_Mo_memory_15 (by decide) ?_
      exact J16 false _ _ (Eq.symm ((if_neg c6).trans ((if_pos c7).trans (rfl)))) hP hD hS
    · skip
      refine lv_iconst (v := 1) hx hb d_Mo_memory_11 (by decide) ?_
      refine lv_goto (tgt := 16) hx hb d_Mo_memory_12 (by decide) ?_
      exact J16 true _ _ (Eq.symm ((if_neg c6).trans ((if_neg c7).trans (rfl)))) hP hD hS
theorem fl_0 {y : Bool} (q : Int32) (u : S5) (h : ¬ y = true) : (f_Mo_fails y q u).2 = sI u 0 0 := by
  cases y
  · rfl
  · exact absurd rfl h
def w_Mo_input : List Cond := .code y_Mo_input b_Mo_input 5 (some .int) :: ALLW
def rm_Mo_input : Room := { frames := 21, cells := 0, slots := 0, locals := 622 }
theorem d_Mo_input_0 : decode b_Mo_input 0 = .ok (.aload_n 0, 1) := by decide +kernel
theorem d_Mo_input_1 : decode b_Mo_input 1 = .ok (.iload_n 3, 1) := by decide +kernel
theorem d_Mo_input_2 : decode b_Mo_input 2 = .ok (.iconst 1, 1) := by decide +kernel
theorem d_Mo_input_3 : decode b_Mo_input 3 = .ok (.if_icmp .lt 9, 3) := by decide +kernel
theorem d_Mo_input_6 : decode b_Mo_input 6 = .ok (.iload_n 3, 1) := by decide +kernel
theorem d_Mo_input_7 : decode b_Mo_input 7 = .ok (.bipush 8, 2) := by decide +kernel
theorem d_Mo_input_9 : decode b_Mo_input 9 = .ok (.if_icmp .le 7, 3) := by decide +kernel
theorem d_Mo_input_12 : decode b_Mo_input 12 = .ok (.iconst 1, 1) := by decide +kernel
theorem d_Mo_input_13 : decode b_Mo_input 13 = .ok (.goto 4, 3) := by decide +kernel
theorem d_Mo_input_16 : decode b_Mo_input 16 = .ok (.iconst 0, 1) := by decide +kernel
theorem d_Mo_input_17 : decode b_Mo_input 17 = .ok (.iconst 1, 1) := by decide +kernel
theorem d_Mo_input_18 : decode b_Mo_input 18 = .ok (.invokevirtual 74, 3) := by decide +kernel
theorem d_Mo_input_21 : decode b_Mo_input 21 = .ok (.ifCond .eq 5, 3) := by decide +kernel
theorem d_Mo_input_24 : decode b_Mo_input 24 = .ok (.iconst 0, 1) := by decide +kernel
theorem d_Mo_input_25 : decode b_Mo_input 25 = .ok (.ireturn, 1) := by decide +kernel
theorem d_Mo_input_26 : decode b_Mo_input 26 = .ok (.aload_n 0, 1) := by decide +kernel
theorem d_Mo_input_27 : decode b_Mo_input 27 = .ok (.aload_n 0, 1) := by decide +kernel
theorem d_Mo_input_28 : decode b_Mo_input 28 = .ok (.getfield 78, 3) := by decide +kernel
theorem d_Mo_input_31 : decode b_Mo_input 31 = .ok (.iload_n 3, 1) := by decide +kernel
theorem d_Mo_input_32 : decode b_Mo_input 32 = .ok (.iadd, 1) := by decide +kernel
theorem d_Mo_input_33 : decode b_Mo_input 33 = .ok (.sipush 1024, 3) := by decide +kernel
theorem d_Mo_input_36 : decode b_Mo_input 36 = .ok (.if_icmp .le 7, 3) := by decide +kernel
theorem d_Mo_input_39 : decode b_Mo_input 39 = .ok (.iconst 1, 1) := by decide +kernel
theorem d_Mo_input_40 : decode b_Mo_input 40 = .ok (.goto 4, 3) := by decide +kernel
theorem d_Mo_input_43 : decode b_Mo_input 43 = .ok (.iconst 0, 1) := by decide +kernel
theorem d_Mo_input_44 : decode b_Mo_input 44 = .ok (.iconst 2, 1) := by decide +kernel
theorem d_Mo_input_45 : decode b_Mo_input 45 = .ok (.invokevirtual 74, 3) := by decide +kernel
theorem d_Mo_input_48 : decode b_Mo_input 48 = .ok (.ifCond .eq 5, 3) := by decide +kernel
theorem d_Mo_input_51 : decode b_Mo_input 51 = .ok (.iconst 0, 1) := by decide +kernel
theorem d_Mo_input_52 : decode b_Mo_input 52 = .ok (.ireturn, 1) := by decide +kernel
theorem d_Mo_input_53 : decode b_Mo_input 53 = .ok (.iconst 0, 1) := by decide +kernel
theorem d_Mo_input_54 : decode b_Mo_input 54 = .ok (.istore 4, 2) := by decide +kernel
theorem d_Mo_input_56 : decode b_Mo_input 56 = .ok (.iload 4, 2) := by decide +kernel
theorem d_Mo_input_58 : decode b_Mo_input 58 = .ok (.iload_n 3, 1) := by decide +kernel
theorem d_Mo_input_59 : decode b_Mo_input 59 = .ok (.if_icmp .ge 37, 3) := by decide +kernel
theorem d_Mo_input_62 : decode b_Mo_input 62 = .ok (.aload_n 0, 1) := by decide +kernel
theorem d_Mo_input_63 : decode b_Mo_input 63 = .ok (.getfield 43, 3) := by decide +kernel
theorem d_Mo_input_66 : decode b_Mo_input 66 = .ok (.aload_n 0, 1) := by decide +kernel
theorem d_Mo_input_67 : decode b_Mo_input 67 = .ok (.dup, 1) := by decide +kernel
theorem d_Mo_input_68 : decode b_Mo_input 68 = .ok (.getfield 78, 3) := by decide +kernel
theorem d_Mo_input_71 : decode b_Mo_input 71 = .ok (.dup_x1, 1) := by decide +kernel
theorem d_Mo_input_72 : decode b_Mo_input 72 = .ok (.iconst 1, 1) := by decide +kernel
theorem d_Mo_input_73 : decode b_Mo_input 73 = .ok (.iadd, 1) := by decide +kernel
theorem d_Mo_input_74 : decode b_Mo_input 74 = .ok (.putfield 78, 3) := by decide +kernel
theorem d_Mo_input_77 : decode b_Mo_input 77 = .ok (.lload_n 1, 1) := by decide +kernel
theorem d_Mo_input_78 : decode b_Mo_input 78 = .ok (.bipush 8, 2) := by decide +kernel
theorem d_Mo_input_80 : decode b_Mo_input 80 = .ok (.iload 4, 2) := by decide +kernel
theorem d_Mo_input_82 : decode b_Mo_input 82 = .ok (.imul, 1) := by decide +kernel
theorem d_Mo_input_83 : decode b_Mo_input 83 = .ok (.lushr, 1) := by decide +kernel
theorem d_Mo_input_84 : decode b_Mo_input 84 = .ok (.l2i, 1) := by decide +kernel
theorem d_Mo_input_85 : decode b_Mo_input 85 = .ok (.sipush 255, 3) := by decide +kernel
theorem d_Mo_input_88 : decode b_Mo_input 88 = .ok (.iand, 1) := by decide +kernel
theorem d_Mo_input_89 : decode b_Mo_input 89 = .ok (.iastore, 1) := by decide +kernel
theorem d_Mo_input_90 : decode b_Mo_input 90 = .ok (.iinc 4 1, 3) := by decide +kernel
theorem d_Mo_input_93 : decode b_Mo_input 93 = .ok (.goto (-37), 3) := by decide +kernel
theorem d_Mo_input_96 : decode b_Mo_input 96 = .ok (.aload_n 0, 1) := by decide +kernel
theorem d_Mo_input_97 : decode b_Mo_input 97 = .ok (.getfield 78, 3) := by decide +kernel
theorem d_Mo_input_100 : decode b_Mo_input 100 = .ok (.ireturn, 1) := by decide +kernel
def f_Mo_input_56 (w : Int64) (n : Int32) (u : S5) : Nat → Nat → S5 → (Nat × S5)
  | 0, i, u1 => (0, u1)
  | k56 + 1, i, u1 => if i < n.toNatClampNeg then f_Mo_input_56 w n u k56 (i + 1) (uI (sN u1 2 (gN u1 2 + 1)) 3 (gN u1 2) ((((w.toUInt64 >>> ((nI (8 * i)).toInt64.toUInt64 &&& Int64.toUInt64 63)).toInt64).toInt32) &&& (255 : Int32))) else (gN u1 2, u1)
def f_Mo_input (w : Int64) (n : Int32) (u : S5) : Nat × S5 := let y : Bool := if n < 1 then true else if n ≤ 8 then false else true; if ((f_Mo_fails y 1 u).1) = true then (0, (f_Mo_fails y 1 u).2) else let z : Bool := if ((nI (gN ((f_Mo_fails y 1 u).2) 2)) + n) ≤ 1024 then false else true; if ((f_Mo_fails z 2 ((f_Mo_fails y 1 u).2)).1) = true then (0, (f_Mo_fails z 2 ((f_Mo_fails y 1 u).2)).2) else f_Mo_input_56 w n u (n.toNatClampNeg + 1) 0 ((f_Mo_fails z 2 ((f_Mo_fails y 1 u).2)).2)
set_option maxHeartbeats 8000000 in
set_option maxRecDepth 100000 in
theorem c_Mo_input (l : Launch) (dC : Nat → ClassId) (dI : Nat → Nat → Nat) (cI cZ : ClassId) (ad : Nat → Nat) (u : S5) (w : Int64) (n : Int32) (h2 : gN u 2 ≤ 1024) (sz : Nat) : Met l y_Mo_input w_Mo_input rm_Mo_input (PreW (dC, dI) classes [(cI, .int), (cZ, .boolean)] (wM cI cZ ad) u sz [.ref (ad 0), .long w, .int n]) (QWi (dC, dI) classes [(cI, .int), (cZ, .boolean)] (wM cI cZ ad) (va_A (wM cI cZ ad u) sz) (nI (f_Mo_input w n u).1) (f_Mo_input w n u).2) 0 0 (va_A (wM cI cZ ad u) sz) := by
  generalize hres : f_Mo_input w n u = res
  refine Met.ofW (cc := b_Mo_input) (maxL := 5) (ret := (some .int)) (by decide) rfl ?_
  intro p e s m args below meth c s₁ B hml hv
  obtain ⟨rfl, rfl, hP, hK, hD0⟩ := hv
  have hx := B.exec
  have hb := B.bytes
  have hr := B.returns
  have hts : ∀ w9 ∈ ALLW, w9.before ([.ref (ad 0), .long w, .int n] : List Value).toArray s = true := fun w9 h => atoms_spec (ws := w_Mo_input) B.pre w9 (List.mem_cons_of_mem _ h)
  have hown : s.vm.findClass R_Mo = some m.cls := findClass_of_methodNamed B.named
  have hlocks := B.notSynchronized
  have hD := hD0.self (sz := s.heap.size)
  generalize hAe : va_A (wM cI cZ ad u) s.heap.size = A at hD ⊢
  have hA : ∀ q : Nat, s.heap.size ≤ q → A q := fun q h => by rw [← hAe]; exact Or.inr h
  have hS : va_S A s.heap s.heap [] := va_S.rf
  have hl := lv_entry ([.ref (ad 0), .long w, .int n]) (n := 5) (Nat.le_of_ble_eq_true rfl)
  rw [lg_entry_eq]
  generalize (lg_sl ([.ref (ad 0), .long w, .int n]) ++ List.replicate (5 - (lg_sl ([.ref (ad 0), .long w, .int n])).length) Slot.unset).toArray = ls at hl ⊢
  have hl : lv_has ls 5 [(0, .ref (ad 0)), (1, .long w), (3, .int n)] := hl
  have hq := hres.symm
  skip
  refine lv_aload_n hx hb d_Mo_input_0 rfl (lv_at hl 0 rfl) ?_
  refine lv_iload_n hx hb d_Mo_input_1 rfl (lv_at hl 2 rfl) ?_
  refine lv_iconst (v := 1) hx hb d_Mo_input_2 (by decide) ?_
  have J17 : ∀ (y : Bool) (H : Heap) (locs : List Loc), y = (if n < 1 then true else if n ≤ 8 then false else true) → va_P (dC, dI) classes (wM cI cZ ad u) H → va_D A (wM cI cZ ad u) → va_S A s.heap H locs → W p l e (headSpec w_Mo_input rm_Mo_input).room s m ([.ref (ad 0), .long w, .int n] : List Value).toArray below meth c H locs 0 0 (MQ below (QWi (dC, dI) classes [(cI, .int), (cZ, .boolean)] (wM cI cZ ad) A (nI res.1) res.2) ([.ref (ad 0), .long w, .int n] : List Value).toArray s 0 0 A) (F0 m 17 ls [.int (b2i y), .ref (ad 0)]) := by
    intro y H locs ey hP hD hS
    refine lv_iconst (v := 1) hx hb d_Mo_input_17 (by decide) ?_
    refine callWi (va_runV (As := [.int (b2i y), .int 1]) (rest := []) ⟨hx, hb, hml, hown, hts⟩ (c_Mo_fails l dC dI cI cZ ad u y 1 H.size) (cwV 2 hts (goodV m_15_21 m_15_22 m_19_15 m_0_12 m_15_23) rfl rfl rfl (by decide +kernel) ⟨Nat.le_of_ble_eq_true rfl, Nat.le_of_ble_eq_true rfl⟩) ⟨preW_blind, va_recv hK hP (ci := 8) (q0 := 0) rfl rfl, preW_ok hP hD hK⟩ rfl rfl hl.1 rfl (lv_room (Nat.le_of_ble_eq_true rfl)) d_Mo_input_18 ⟨Nat.zero_le _, Nat.zero_le _⟩) hP hD hS hA (fun H locs hP hD hS => ?_)
    refine rb_eq (tgt := 26) hx hb d_Mo_input_21 (by decide) (fun c1 => ?_) (fun c1 => ?_)
    · skip
      have hy0 : ¬ y = true := by assumption
      have c1 : ¬ n < 1 := fun h => hy0 (by rw [ey, if_pos h])
      have c2 : n ≤ 8 := Decidable.not_not.mp (fun h => hy0 (by rw [ey, if_neg c1, if_neg h]))
      have c0 : ¬ n < 0 := fun h => c1 (Int32.lt_trans h (by decide))
      have hn1 : n.toNatClampNeg ≤ 8 := hp_nle (by decide) (by decide) c0 c2
      refine lv_aload_n hx hb d_Mo_input_26 rfl (lv_at hl 0 rfl) ?_
      refine lv_aload_n hx hb d_Mo_input_27 rfl (lv_at hl 0 rfl) ?_
      refine va_get (D := (dC, dI)) (ci := 8) (v := .int (nI (gN ((f_Mo_fails y 1 u).2) 2))) (C := R_Mo) (T := F_Mo) (N := 31) hx hb hts in_Mo hown hK hP 0 rfl rfl 21 (by decide) (hts _ m_14_11) (fun _ h9 => h9) rfl d_Mo_input_28 ?_
      refine lv_iload_n hx hb d_Mo_input_31 rfl (lv_at hl 2 rfl) ?_
      refine lv_iadd hx hb d_Mo_input_32 ?_
      refine lv_sipush (v := 1024) hx hb d_Mo_input_33 (by decide) ?_
      have J44 : ∀ (z : Bool) (H : Heap) (locs : List Loc), z = (if ((nI (gN ((f_Mo_fails y 1 u).2) 2)) + n) ≤ 1024 then false else true) → va_P (dC, dI) classes (wM cI cZ ad ((f_Mo_fails y 1 u).2)) H → va_D A (wM cI cZ ad ((f_Mo_fails y 1 u).2)) → va_S A s.heap H locs → W p l e (headSpec w_Mo_input rm_Mo_input).room s m ([.ref (ad 0), .long w, .int n] : List Value).toArray below meth c H locs 0 0 (MQ below (QWi (dC, dI) classes [(cI, .int), (cZ, .boolean)] (wM cI cZ ad) A (nI res.1) res.2) ([.ref (ad 0), .long w, .int n] : List Value).toArray s 0 0 A) (F0 m 44 ls [.int (b2i z), .ref (ad 0)]) := by
        intro z H locs ez hP hD hS
        refine lv_iconst (v := 2) hx hb d_Mo_input_44 (by decide) ?_
        refine callWi (va_runV (As := [.int (b2i z), .int 2]) (rest := []) ⟨hx, hb, hml, hown, hts⟩ (c_Mo_fails l dC dI cI cZ ad ((f_Mo_fails y 1 u).2) z 2 H.size) (cwV 2 hts (goodV m_15_21 m_15_22 m_19_15 m_0_12 m_15_23) rfl rfl rfl (by decide +kernel) ⟨Nat.le_of_ble_eq_true rfl, Nat.le_of_ble_eq_true rfl⟩) ⟨preW_blind, va_recv hK hP (ci := 8) (q0 := 0) rfl rfl, preW_ok hP hD hK⟩ rfl rfl hl.1 rfl (lv_room (Nat.le_of_ble_eq_true rfl)) d_Mo_input_45 ⟨Nat.zero_le _, Nat.zero_le _⟩) hP hD hS hA (fun H locs hP hD hS => ?_)
        refine rb_eq (tgt := 53) hx hb d_Mo_input_48 (by decide) (fun c2 => ?_) (fun c2 => ?_)
        · skip
          have hz0 : ¬ z = true := by assumption
          have c3 : nI (gN u 2) + n ≤ 1024 := Decidable.not_not.mp (fun h => hz0 (ez.trans (if_neg h)))
          have hn2 : gN u 2 + n.toNatClampNeg ≤ 1024 := pn_le h2 hn1 (by rw [← hp_n c0]; exact c3)
          refine lv_iconst (v := nI 0) hx hb d_Mo_input_53 (by decide) ?_
          refine lv_istore (lv' := [(4, .int (nI 0)), (0, .ref (ad 0)), (1, .long w), (3, .int n)]) hx hb d_Mo_input_54 hl (by decide) rfl (fun ls hl => ?_)
          have L56 : ∀ (k : Nat) (i : Nat) (u1 : S5) (H : Heap) (locs : List Loc) (ls : Array Slot), (i ≤ n.toNatClampNeg) → (gN u1 2 = gN u 2 + i) → (n.toNatClampNeg - i) < k → res = f_Mo_input_56 w n u k i u1 → va_P (dC, dI) classes (wM cI cZ ad u1) H → va_D A (wM cI cZ ad u1) → va_S A s.heap H locs → lv_has ls 5 [(4, .int (nI i)), (0, .ref (ad 0)), (1, .long w), (3, .int n)] → W p l e (headSpec w_Mo_input rm_Mo_input).room s m ([.ref (ad 0), .long w, .int n] : List Value).toArray below meth c H locs 0 0 (MQ below (QWi (dC, dI) classes [(cI, .int), (cZ, .boolean)] (wM cI cZ ad) A (nI res.1) res.2) ([.ref (ad 0), .long w, .int n] : List Value).toArray s 0 0 A) (F0 m 56 ls []) := by
            intro k
            induction k with
            | zero => intro i u1 H locs ls hi g2 hm; exact absurd hm (Nat.not_lt_zero _)
            | succ k56 ih56 =>
              intro i u1 H locs ls hi g2 hm hq56 hP hD hS hl
              refine lv_iload hx hb d_Mo_input_56 (lv_at hl 0 rfl) ?_
              refine lv_iload_n hx hb d_Mo_input_58 rfl (lv_at hl 3 rfl) ?_
              refine rw_top (y := nI n.toNatClampNeg) (hp_n c0) ?_
              refine rn_ge (tgt := 96) hx hb (by omega) (by omega) d_Mo_input_59 (by decide) (fun c3 => ?_) (fun c3 => ?_)
              · skip
                refine lv_aload_n hx hb d_Mo_input_96 rfl (lv_at hl 1 rfl) ?_
                refine va_get (D := (dC, dI)) (ci := 8) (v := .int (nI (gN u1 2))) (C := R_Mo) (T := F_Mo) (N := 31) hx hb hts in_Mo hown hK hP 0 rfl rfl 21 (by decide) (hts _ m_14_11) (fun _ h9 => h9) rfl d_Mo_input_97 ?_
                have hE : res = (gN u1 2, u1) := hq56.trans ((if_neg (Nat.not_lt.mpr c3)).trans rfl)
                exact retWn (x := gN u1 2) hx hb hr hP hK hD hS (congrArg Prod.fst hE).symm (congrArg Prod.snd hE).symm d_Mo_input_100 hlocks
              · skip
                refine lv_aload_n hx hb d_Mo_input_62 rfl (lv_at hl 1 rfl) ?_
                refine va_get (D := (dC, dI)) (ci := 8) (v := .ref (ad 11)) (C := R_Mo) (T := F_Mo) (N := 31) hx hb hts in_Mo hown hK hP 0 rfl rfl 18 (by decide) (hts _ m_14_8) (fun _ h9 => h9) rfl d_Mo_input_63 ?_
                refine lv_aload_n hx hb d_Mo_input_66 rfl (lv_at hl 1 rfl) ?_
                refine lv_dup hx hb d_Mo_input_67 rfl ?_
                refine va_get (D := (dC, dI)) (ci := 8) (v := .int (nI (gN u1 2))) (C := R_Mo) (T := F_Mo) (N := 31) hx hb hts in_Mo hown hK hP 0 rfl rfl 21 (by decide) (hts _ m_14_11) (fun _ h9 => h9) rfl d_Mo_input_68 ?_
                refine lv_dup_x1 hx hb d_Mo_input_71 rfl rfl ?_
                refine lv_iconst (v := nI 1) hx hb d_Mo_input_72 (by decide) ?_
                refine lv_iadd hx hb d_Mo_input_73 ?_
                refine rw_top (y := nI (gN u1 2 + 1)) (nI_add (gN u1 2) 1) ?_
                refine va_put (D := (dC, dI)) (ci := 8) (v := .int (nI (gN u1 2 + 1))) (ty := .int) (C := R_Mo) (T := F_Mo) (N := 31) hx hb hts in_Mo t_Mo t_Mo_ok n_Mo hown hK hP hD hS 0 rfl rfl 21 (by decide) (hts _ m_14_11) (fun _ h9 => h9) rfl (by decide +kernel) rfl rfl (Nat.le_of_ble_eq_true rfl) d_Mo_input_74 (fun H locs hP hD hS => ?_)
                have hP : va_P (dC, dI) classes (wM cI cZ ad (sN u1 2 (gN u1 2 + 1))) H := hP
                have hD : va_D A (wM cI cZ ad (sN u1 2 (gN u1 2 + 1))) := hD
                refine lv_lload_n hx hb d_Mo_input_77 rfl (lv_at hl 2 rfl) ?_
                refine lv_bipush (v := nI 8) hx hb d_Mo_input_78 (by decide) ?_
                refine lv_iload hx hb d_Mo_input_80 (lv_at hl 0 rfl) ?_
                refine lv_imul hx hb d_Mo_input_82 ?_
                refine rw_top (y := nI (8 * i)) (pk_mul 8 i) ?_
                refine lv_lushr (v := (w.toUInt64 >>> ((nI (8 * i)).toInt64.toUInt64 &&& Int64.toUInt64 63)).toInt64) hx hb d_Mo_input_83 rfl ?_
                refine lv_l2i (v := ((w.toUInt64 >>> ((nI (8 * i)).toInt64.toUInt64 &&& Int64.toUInt64 63)).toInt64).toInt32) hx hb d_Mo_input_84 rfl ?_
                refine lv_sipush (v := 255) hx hb d_Mo_input_85 (by decide) ?_
                refine lv_iand hx hb d_Mo_input_88 ?_
                refine astM_put (u := (sN u1 2 (gN u1 2 + 1))) (n := gN u1 2) hx hb hK hP hD hS (by omega) d_Mo_input_89 (fun H locs hP hD hS => ?_)
                refine lv_iinc (v := nI (i + 1)) (lv' := [(4, .int (nI (i + 1))), (0, .ref (ad 0)), (1, .long w), (3, .int n)]) hx hb d_Mo_input_90 hl (k := 0) rfl (rn_inc i 1 (by decide)) (by decide) rfl (fun ls hl => ?_)
                refine lv_goto (tgt := 56) hx hb d_Mo_input_93 (by decide) ?_
                exact ih56 (i + 1) (uI (sN u1 2 (gN u1 2 + 1)) 3 (gN u1 2) ((((w.toUInt64 >>> ((nI (8 * i)).toInt64.toUInt64 &&& Int64.toUInt64 63)).toInt64).toInt32) &&& (255 : Int32))) _ _ _ (by first | assumption | omega) (show gN u1 2 + 1 = gN u 2 + (i + 1) by omega) (by omega) (hq56.trans ((if_pos c3).trans rfl)) hP hD hS (lv_sub hl [0, 1, 2, 3] rfl)
          exact L56 (n.toNatClampNeg + 1) 0 ((f_Mo_fails z 2 ((f_Mo_fails y 1 u).2)).2) _ _ _ (by first | assumption | omega) rfl (by omega) ((by subst ez; subst ey; exact hq.trans ((if_neg c1).trans ((if_neg c2).trans rfl)))) hP hD hS (lv_sub hl [0, 1, 2, 3] rfl)
        · skip
          refine lv_iconst (v := nI 0) hx hb d_Mo_input_51 (by decide) ?_
          have hE : res = (0, (f_Mo_fails z 2 ((f_Mo_fails y 1 u).2)).2) := (by subst ez; subst ey; exact hq.trans ((if_neg c1).trans ((if_pos c2).trans rfl)))
          exact retWn (x := 0) hx hb hr hP hK hD hS (congrArg Prod.fst hE).symm (congrArg Prod.snd hE).symm d_Mo_input_52 hlocks
      refine lv_icmp_le (tgt := 43) hx hb d_Mo_input_36 (by decide) (fun c4 => ?_) (fun c4 => ?_)
      · skip
        refine lv_iconst (v := 0) hx hb d_Mo_input_43 (by decide) ?_
        exact J44 false _ _ (Eq.symm ((if_pos c4).trans (rfl))) hP hD hS
      · skip
        refine lv_iconst (v := 1) hx hb d_Mo_input_39 (by decide) ?_
        refine lv_goto (tgt := 44) hx hb d_Mo_input_40 (by decide) ?_
        exact J44 true _ _ (Eq.symm ((if_neg c4).trans (rfl))) hP hD hS
    · skip
      refine lv_iconst (v := nI 0) hx hb d_Mo_input_24 (by decide) ?_
      have hE : res = (0, (f_Mo_fails y 1 u).2) := (by subst ey; exact hq.trans ((if_pos c1).trans rfl))
      exact retWn (x := 0) hx hb hr hP hK hD hS (congrArg Prod.fst hE).symm (congrArg Prod.snd hE).symm d_Mo_input_25 hlocks
  refine lv_icmp_lt (tgt := 12) hx hb d_Mo_input_3 (by decide) (fun c5 => ?_) (fun c5 => ?_)
  · skip
    refine lv_iconst (v := 1) hx hb d_Mo_input_12 (by decide) ?_
    refine lv_goto (tgt := 17) hx hb d_Mo_input_13 (by decide) ?_
    exact J17 true _ _ (Eq.symm ((if_pos c5).trans (rfl))) hP hD hS
  · skip
    refine lv_iload_n hx hb d_Mo_input_6 rfl (lv_at hl 2 rfl) ?_
    refine lv_bipush (v := 8) hx hb d_Mo_input_7 (by decide) ?_
    refine lv_icmp_le (tgt := 16) hx hb d_Mo_input_9 (by decide) (fun c6 => ?_) (fun c6 => ?_)
    · skip
      refine lv_iconst (v := 0) hx hb d_Mo_input_16 (by decide) ?_
      exact J17 false _ _ (Eq.symm ((if_neg c5).trans ((if_pos c6).trans (rfl)))) hP hD hS
    · skip
      refine lv_iconst (v := 1) hx hb d_Mo_input_12 (by decide) ?_
      refine lv_goto (tgt := 17) hx hb d_Mo_input_13 (by decide) ?_
      exact J17 true _ _ (Eq.symm ((if_neg c5).trans ((if_neg c6).trans (rfl)))) hP hD hS
def w_Mo_error : List Cond := .code y_Mo_error b_Mo_error 3 (some .int) :: ALLW
def rm_Mo_error : Room := { frames := 21, cells := 0, slots := 0, locals := 622 }
theorem d_Mo_error_0 : decode b_Mo_error 0 = .ok (.aload_n 0, 1) := by decide +kernel
theorem d_Mo_error_1 : decode b_Mo_error 1 = .ok (.iload_n 2, 1) := by decide +kernel
theorem d_Mo_error_2 : decode b_Mo_error 2 = .ok (.ifCond .lt 9, 3) := by decide +kernel
theorem d_Mo_error_5 : decode b_Mo_error 5 = .ok (.iload_n 2, 1) := by decide +kernel
theorem d_Mo_error_6 : decode b_Mo_error 6 = .ok (.bipush 6, 2) := by decide +kernel
theorem d_Mo_error_8 : decode b_Mo_error 8 = .ok (.if_icmp .le 7, 3) := by decide +kernel
theorem d_Mo_error_11 : decode b_Mo_error 11 = .ok (.iconst 1, 1) := by decide +kernel
theorem d_Mo_error_12 : decode b_Mo_error 12 = .ok (.goto 4, 3) := by decide +kernel
theorem d_Mo_error_15 : decode b_Mo_error 15 = .ok (.iconst 0, 1) := by decide +kernel
theorem d_Mo_error_16 : decode b_Mo_error 16 = .ok (.iconst 1, 1) := by decide +kernel
theorem d_Mo_error_17 : decode b_Mo_error 17 = .ok (.invokevirtual 74, 3) := by decide +kernel
theorem d_Mo_error_20 : decode b_Mo_error 20 = .ok (.ifCond .eq 5, 3) := by decide +kernel
theorem d_Mo_error_23 : decode b_Mo_error 23 = .ok (.iconst 0, 1) := by decide +kernel
theorem d_Mo_error_24 : decode b_Mo_error 24 = .ok (.ireturn, 1) := by decide +kernel
theorem d_Mo_error_25 : decode b_Mo_error 25 = .ok (.aload_n 0, 1) := by decide +kernel
theorem d_Mo_error_26 : decode b_Mo_error 26 = .ok (.iload_n 1, 1) := by decide +kernel
theorem d_Mo_error_27 : decode b_Mo_error 27 = .ok (.ifCond .lt 11, 3) := by decide +kernel
theorem d_Mo_error_30 : decode b_Mo_error 30 = .ok (.iload_n 1, 1) := by decide +kernel
theorem d_Mo_error_31 : decode b_Mo_error 31 = .ok (.aload_n 0, 1) := by decide +kernel
theorem d_Mo_error_32 : decode b_Mo_error 32 = .ok (.getfield 112, 3) := by decide +kernel
theorem d_Mo_error_35 : decode b_Mo_error 35 = .ok (.if_icmp .lt 7, 3) := by decide +kernel
theorem d_Mo_error_38 : decode b_Mo_error 38 = .ok (.iconst 1, 1) := by decide +kernel
theorem d_Mo_error_39 : decode b_Mo_error 39 = .ok (.goto 4, 3) := by decide +kernel
theorem d_Mo_error_42 : decode b_Mo_error 42 = .ok (.iconst 0, 1) := by decide +kernel
theorem d_Mo_error_43 : decode b_Mo_error 43 = .ok (.iconst 2, 1) := by decide +kernel
theorem d_Mo_error_44 : decode b_Mo_error 44 = .ok (.invokevirtual 74, 3) := by decide +kernel
theorem d_Mo_error_47 : decode b_Mo_error 47 = .ok (.ifCond .eq 5, 3) := by decide +kernel
theorem d_Mo_error_50 : decode b_Mo_error 50 = .ok (.iconst 0, 1) := by decide +kernel
theorem d_Mo_error_51 : decode b_Mo_error 51 = .ok (.ireturn, 1) := by decide +kernel
theorem d_Mo_error_52 : decode b_Mo_error 52 = .ok (.iload_n 2, 1) := by decide +kernel
theorem d_Mo_error_53 : decode b_Mo_error 53 = .ok (.ifCond .ne 12, 3) := by decide +kernel
theorem d_Mo_error_56 : decode b_Mo_error 56 = .ok (.aload_n 0, 1) := by decide +kernel
theorem d_Mo_error_57 : decode b_Mo_error 57 = .ok (.getfield 52, 3) := by decide +kernel
theorem d_Mo_error_60 : decode b_Mo_error 60 = .ok (.iload_n 1, 1) := by decide +kernel
theorem d_Mo_error_61 : decode b_Mo_error 61 = .ok (.iaload, 1) := by decide +kernel
theorem d_Mo_error_62 : decode b_Mo_error 62 = .ok (.goto 43, 3) := by decide +kernel
theorem d_Mo_error_65 : decode b_Mo_error 65 = .ok (.iload_n 2, 1) := by decide +kernel
theorem d_Mo_error_66 : decode b_Mo_error 66 = .ok (.iconst 1, 1) := by decide +kernel
theorem d_Mo_error_67 : decode b_Mo_error 67 = .ok (.if_icmp .ne 12, 3) := by decide +kernel
theorem d_Mo_error_70 : decode b_Mo_error 70 = .ok (.aload_n 0, 1) := by decide +kernel
theorem d_Mo_error_71 : decode b_Mo_error 71 = .ok (.getfield 55, 3) := by decide +kernel
theorem d_Mo_error_74 : decode b_Mo_error 74 = .ok (.iload_n 1, 1) := by decide +kernel
theorem d_Mo_error_75 : decode b_Mo_error 75 = .ok (.iaload, 1) := by decide +kernel
theorem d_Mo_error_76 : decode b_Mo_error 76 = .ok (.goto 29, 3) := by decide +kernel
theorem d_Mo_error_79 : decode b_Mo_error 79 = .ok (.iload_n 2, 1) := by decide +kernel
theorem d_Mo_error_80 : decode b_Mo_error 80 = .ok (.iconst 2, 1) := by decide +kernel
theorem d_Mo_error_81 : decode b_Mo_error 81 = .ok (.if_icmp .ne 12, 3) := by decide +kernel
theorem d_Mo_error_84 : decode b_Mo_error 84 = .ok (.aload_n 0, 1) := by decide +kernel
theorem d_Mo_error_85 : decode b_Mo_error 85 = .ok (.getfield 58, 3) := by decide +kernel
theorem d_Mo_error_88 : decode b_Mo_error 88 = .ok (.iload_n 1, 1) := by decide +kernel
theorem d_Mo_error_89 : decode b_Mo_error 89 = .ok (.iaload, 1) := by decide +kernel
theorem d_Mo_error_90 : decode b_Mo_error 90 = .ok (.goto 15, 3) := by decide +kernel
theorem d_Mo_error_93 : decode b_Mo_error 93 = .ok (.aload_n 0, 1) := by decide +kernel
theorem d_Mo_error_94 : decode b_Mo_error 94 = .ok (.getfield 61, 3) := by decide +kernel
theorem d_Mo_error_97 : decode b_Mo_error 97 = .ok (.iconst 4, 1) := by decide +kernel
theorem d_Mo_error_98 : decode b_Mo_error 98 = .ok (.iload_n 1, 1) := by decide +kernel
theorem d_Mo_error_99 : decode b_Mo_error 99 = .ok (.imul, 1) := by decide +kernel
theorem d_Mo_error_100 : decode b_Mo_error 100 = .ok (.iload_n 2, 1) := by decide +kernel
theorem d_Mo_error_101 : decode b_Mo_error 101 = .ok (.iadd, 1) := by decide +kernel
theorem d_Mo_error_102 : decode b_Mo_error 102 = .ok (.iconst 3, 1) := by decide +kernel
theorem d_Mo_error_103 : decode b_Mo_error 103 = .ok (.isub, 1) := by decide +kernel
theorem d_Mo_error_104 : decode b_Mo_error 104 = .ok (.iaload, 1) := by decide +kernel
theorem d_Mo_error_105 : decode b_Mo_error 105 = .ok (.ireturn, 1) := by decide +kernel
def f_Mo_error (a : Int32) (q : Int32) (u : S5) : Int32 × S5 := let y : Bool := if q < 0 then true else if q ≤ 6 then false else true; if ((f_Mo_fails y 1 u).1) = true then (0, (f_Mo_fails y 1 u).2) else let z : Bool := if a < 0 then true else if a < (nI (gN ((f_Mo_fails y 1 u).2) 6)) then false else true; if ((f_Mo_fails z 2 ((f_Mo_fails y 1 u).2)).1) = true then (0, (f_Mo_fails z 2 ((f_Mo_fails y 1 u).2)).2) else if q = 0 then (aI ((f_Mo_fails z 2 ((f_Mo_fails y 1 u).2)).2) 6 a.toNatClampNeg, (f_Mo_fails z 2 ((f_Mo_fails y 1 u).2)).2) else if q = 1 then (aI ((f_Mo_fails z 2 ((f_Mo_fails y 1 u).2)).2) 7 a.toNatClampNeg, (f_Mo_fails z 2 ((f_Mo_fails y 1 u).2)).2) else if q = 2 then (aI ((f_Mo_fails z 2 ((f_Mo_fails y 1 u).2)).2) 8 a.toNatClampNeg, (f_Mo_fails z 2 ((f_Mo_fails y 1 u).2)).2) else (aI ((f_Mo_fails z 2 ((f_Mo_fails y 1 u).2)).2) 9 (4 * a.toNatClampNeg + q.toNatClampNeg - 3), (f_Mo_fails z 2 ((f_Mo_fails y 1 u).2)).2)
set_option maxHeartbeats 8000000 in
set_option maxRecDepth 100000 in
theorem c_Mo_error (l : Launch) (dC : Nat → ClassId) (dI : Nat → Nat → Nat) (cI cZ : ClassId) (ad : Nat → Nat) (u : S5) (a : Int32) (q : Int32) (h6 : gN u 6 ≤ 60) (sz : Nat) : Met l y_Mo_error w_Mo_error rm_Mo_error (PreW (dC, dI) classes [(cI, .int), (cZ, .boolean)] (wM cI cZ ad) u sz [.ref (ad 0), .int a, .int q]) (QWi (dC, dI) classes [(cI, .int), (cZ, .boolean)] (wM cI cZ ad) (va_A (wM cI cZ ad u) sz) (f_Mo_error a q u).1 (f_Mo_error a q u).2) 0 0 (va_A (wM cI cZ ad u) sz) := by
  generalize hres : f_Mo_error a q u = res
  refine Met.ofW (cc := b_Mo_error) (maxL := 3) (ret := (some .int)) (by decide) rfl ?_
  intro p e s m args below meth c s₁ B hml hv
  obtain ⟨rfl, rfl, hP, hK, hD0⟩ := hv
  have hx := B.exec
  have hb := B.bytes
  have hr := B.returns
  have hts : ∀ w9 ∈ ALLW, w9.before ([.ref (ad 0), .int a, .int q] : List Value).toArray s = true := fun w9 h => atoms_spec (ws := w_Mo_error) B.pre w9 (List.mem_cons_of_mem _ h)
  have hown : s.vm.findClass R_Mo = some m.cls := findClass_of_methodNamed B.named
  have hlocks := B.notSynchronized
  have hD := hD0.self (sz := s.heap.size)
  generalize hAe : va_A (wM cI cZ ad u) s.heap.size = A at hD ⊢
  have hA : ∀ q : Nat, s.heap.size ≤ q → A q := fun q h => by rw [← hAe]; exact Or.inr h
  have hS : va_S A s.heap s.heap [] := va_S.rf
  have hl := lv_entry ([.ref (ad 0), .int a, .int q]) (n := 3) (Nat.le_of_ble_eq_true rfl)
  rw [lg_entry_eq]
  generalize (lg_sl ([.ref (ad 0), .int a, .int q]) ++ List.replicate (3 - (lg_sl ([.ref (ad 0), .int a, .int q])).length) Slot.unset).toArray = ls at hl ⊢
  have hl : lv_has ls 3 [(0, .ref (ad 0)), (1, .int a), (2, .int q)] := hl
  have hq := hres.symm
  skip
  refine lv_aload_n hx hb d_Mo_error_0 rfl (lv_at hl 0 rfl) ?_
  refine lv_iload_n hx hb d_Mo_error_1 rfl (lv_at hl 2 rfl) ?_
  have J16 : ∀ (y : Bool) (H : Heap) (locs : List Loc), y = (if q < 0 then true else if q ≤ 6 then false else true) → va_P (dC, dI) classes (wM cI cZ ad u) H → va_D A (wM cI cZ ad u) → va_S A s.heap H locs → W p l e (headSpec w_Mo_error rm_Mo_error).room s m ([.ref (ad 0), .int a, .int q] : List Value).toArray below meth c H locs 0 0 (MQ below (QWi (dC, dI) classes [(cI, .int), (cZ, .boolean)] (wM cI cZ ad) A res.1 res.2) ([.ref (ad 0), .int a, .int q] : List Value).toArray s 0 0 A) (F0 m 16 ls [.int (b2i y), .ref (ad 0)]) := by
    intro y H locs ey hP hD hS
    refine lv_iconst (v := 1) hx hb d_Mo_error_16 (by decide) ?_
    refine callWi (va_runV (As := [.int (b2i y), .int 1]) (rest := []) ⟨hx, hb, hml, hown, hts⟩ (c_Mo_fails l dC dI cI cZ ad u y 1 H.size) (cwV 2 hts (goodV m_15_21 m_15_22 m_19_15 m_0_12 m_15_23) rfl rfl rfl (by decide +kernel) ⟨Nat.le_of_ble_eq_true rfl, Nat.le_of_ble_eq_true rfl⟩) ⟨preW_blind, va_recv hK hP (ci := 8) (q0 := 0) rfl rfl, preW_ok hP hD hK⟩ rfl rfl hl.1 rfl (lv_room (Nat.le_of_ble_eq_true rfl)) d_Mo_error_17 ⟨Nat.zero_le _, Nat.zero_le _⟩) hP hD hS hA (fun H locs hP hD hS => ?_)
    refine rb_eq (tgt := 25) hx hb d_Mo_error_20 (by decide) (fun c1 => ?_) (fun c1 => ?_)
    · skip
      have hy0 : ¬ y = true := by assumption
      have q1 : ¬ q < 0 := fun h => hy0 (by rw [ey, if_pos h])
      have q2 : q ≤ 6 := Decidable.not_not.mp (fun h => hy0 (by rw [ey, if_neg q1, if_neg h]))
      have hq1 : q.toNatClampNeg ≤ 6 := hp_nle (by decide) (by decide) q1 q2
      refine lv_aload_n hx hb d_Mo_error_25 rfl (lv_at hl 0 rfl) ?_
      refine lv_iload_n hx hb d_Mo_error_26 rfl (lv_at hl 1 rfl) ?_
      have J43 : ∀ (z : Bool) (H : Heap) (locs : List Loc), z = (if a < 0 then true else if a < (nI (gN ((f_Mo_fails y 1 u).2) 6)) then false else true) → va_P (dC, dI) classes (wM cI cZ ad ((f_Mo_fails y 1 u).2)) H → va_D A (wM cI cZ ad ((f_Mo_fails y 1 u).2)) → va_S A s.heap H locs → W p l e (headSpec w_Mo_error rm_Mo_error).room s m ([.ref (ad 0), .int a, .int q] : List Value).toArray below meth c H locs 0 0 (MQ below (QWi (dC, dI) classes [(cI, .int), (cZ, .boolean)] (wM cI cZ ad) A res.1 res.2) ([.ref (ad 0), .int a, .int q] : List Value).toArray s 0 0 A) (F0 m 43 ls [.int (b2i z), .ref (ad 0)]) := by
        intro z H locs ez hP hD hS
        refine lv_iconst (v := 2) hx hb d_Mo_error_43 (by decide) ?_
        refine callWi (va_runV (As := [.int (b2i z), .int 2]) (rest := []) ⟨hx, hb, hml, hown, hts⟩ (c_Mo_fails l dC dI cI cZ ad ((f_Mo_fails y 1 u).2) z 2 H.size) (cwV 2 hts (goodV m_15_21 m_15_22 m_19_15 m_0_12 m_15_23) rfl rfl rfl (by decide +kernel) ⟨Nat.le_of_ble_eq_true rfl, Nat.le_of_ble_eq_true rfl⟩) ⟨preW_blind, va_recv hK hP (ci := 8) (q0 := 0) rfl rfl, preW_ok hP hD hK⟩ rfl rfl hl.1 rfl (lv_room (Nat.le_of_ble_eq_true rfl)) d_Mo_error_44 ⟨Nat.zero_le _, Nat.zero_le _⟩) hP hD hS hA (fun H locs hP hD hS => ?_)
        refine rb_eq (tgt := 52) hx hb d_Mo_error_47 (by decide) (fun c2 => ?_) (fun c2 => ?_)
        · skip
          have hz0 : ¬ z = true := by assumption
          have c1 : ¬ a < 0 := fun h => hz0 (by rw [ez, if_pos h])
          have c2 : a < nI (gN u 6) := Decidable.not_not.mp (fun h => hz0 (ez.trans ((if_neg c1).trans (if_neg h))))
          have hn1 : a.toNatClampNeg < gN u 6 := hp_nlt (by omega) rfl c1 c2
          refine lv_iload_n hx hb d_Mo_error_52 rfl (lv_at hl 2 rfl) ?_
          refine lv_if_ne (tgt := 65) hx hb d_Mo_error_53 (by decide) (fun c3 => ?_) (fun c3 => ?_)
          · skip
            refine lv_iload_n hx hb d_Mo_error_65 rfl (lv_at hl 2 rfl) ?_
            refine lv_iconst (v := 1) hx hb d_Mo_error_66 (by decide) ?_
            refine lv_icmp_ne (tgt := 79) hx hb d_Mo_error_67 (by decide) (fun c4 => ?_) (fun c4 => ?_)
            · skip
              refine lv_iload_n hx hb d_Mo_error_79 rfl (lv_at hl 2 rfl) ?_
              refine lv_iconst (v := 2) hx hb d_Mo_error_80 (by decide) ?_
              refine lv_icmp_ne (tgt := 93) hx hb d_Mo_error_81 (by decide) (fun c5 => ?_) (fun c5 => ?_)
              · skip
                have hq3 := q3_le q1 (by assumption) (by assumption) (by assumption)
                refine lv_aload_n hx hb d_Mo_error_93 rfl (lv_at hl 0 rfl) ?_
                refine va_get (D := (dC, dI)) (ci := 8) (v := .ref (ad 17)) (C := R_Mo) (T := F_Mo) (N := 31) hx hb hts in_Mo hown hK hP 0 rfl rfl 28 (by decide) (hts _ m_14_18) (fun _ h9 => h9) rfl d_Mo_error_94 ?_
                refine lv_iconst (v := nI 4) hx hb d_Mo_error_97 (by decide) ?_
                refine lv_iload_n hx hb d_Mo_error_98 rfl (lv_at hl 1 rfl) ?_
                refine rw_top (y := nI a.toNatClampNeg) (hp_n c1) ?_
                refine lv_imul hx hb d_Mo_error_99 ?_
                refine rw_top (y := nI (4 * a.toNatClampNeg)) (pk_mul 4 a.toNatClampNeg) ?_
                refine lv_iload_n hx hb d_Mo_error_100 rfl (lv_at hl 2 rfl) ?_
                refine rw_top (y := nI q.toNatClampNeg) (hp_n q1) ?_
                refine lv_iadd hx hb d_Mo_error_101 ?_
                refine rw_top (y := nI (4 * a.toNatClampNeg + q.toNatClampNeg)) (nI_add (4 * a.toNatClampNeg) q.toNatClampNeg) ?_
                refine lv_iconst (v := nI 3) hx hb d_Mo_error_102 (by decide) ?_
                refine lv_isub hx hb d_Mo_error_103 ?_
                refine rw_top (y := nI (4 * a.toNatClampNeg + q.toNatClampNeg - 3)) (pk_sub (by omega)) ?_
                refine aldM_errorReturn (u := ((f_Mo_fails z 2 ((f_Mo_fails y 1 u).2)).2)) (v := aI ((f_Mo_fails z 2 ((f_Mo_fails y 1 u).2)).2) 9 (4 * a.toNatClampNeg + q.toNatClampNeg - 3)) hx hb hK hP (by omega) rfl d_Mo_error_104 ?_
                have hE : res = (aI ((f_Mo_fails z 2 ((f_Mo_fails y 1 u).2)).2) 9 (4 * a.toNatClampNeg + q.toNatClampNeg - 3), (f_Mo_fails z 2 ((f_Mo_fails y 1 u).2)).2) := (by subst ez; subst ey; exact hq.trans ((if_neg c1).trans ((if_neg c2).trans ((if_neg c3).trans ((if_neg c4).trans ((if_neg c5).trans rfl))))))
                exact retWi (x := aI ((f_Mo_fails z 2 ((f_Mo_fails y 1 u).2)).2) 9 (4 * a.toNatClampNeg + q.toNatClampNeg - 3)) hx hb hr hP hK hD hS (congrArg Prod.fst hE).symm (congrArg Prod.snd hE).symm d_Mo_error_105 hlocks
              · skip
                refine lv_aload_n hx hb d_Mo_error_84 rfl (lv_at hl 0 rfl) ?_
                refine va_get (D := (dC, dI)) (ci := 8) (v := .ref (ad 16)) (C := R_Mo) (T := F_Mo) (N := 31) hx hb hts in_Mo hown hK hP 0 rfl rfl 27 (by decide) (hts _ m_14_17) (fun _ h9 => h9) rfl d_Mo_error_85 ?_
                refine lv_iload_n hx hb d_Mo_error_88 rfl (lv_at hl 1 rfl) ?_
                refine rw_top (y := nI a.toNatClampNeg) (hp_n c1) ?_
                refine aldM_errorNumber (u := ((f_Mo_fails z 2 ((f_Mo_fails y 1 u).2)).2)) (v := aI ((f_Mo_fails z 2 ((f_Mo_fails y 1 u).2)).2) 8 a.toNatClampNeg) hx hb hK hP (by omega) rfl d_Mo_error_89 ?_
                refine lv_goto (tgt := 105) hx hb d_Mo_error_90 (by decide) ?_
                have hE : res = (aI ((f_Mo_fails z 2 ((f_Mo_fails y 1 u).2)).2) 8 a.toNatClampNeg, (f_Mo_fails z 2 ((f_Mo_fails y 1 u).2)).2) := (by subst ez; subst ey; exact hq.trans ((if_neg c1).trans ((if_neg c2).trans ((if_neg c3).trans ((if_neg c4).trans ((if_pos c5).trans rfl))))))
                exact retWi (x := aI ((f_Mo_fails z 2 ((f_Mo_fails y 1 u).2)).2) 8 a.toNatClampNeg) hx hb hr hP hK hD hS (congrArg Prod.fst hE).symm (congrArg Prod.snd hE).symm d_Mo_error_105 hlocks
            · skip
              refine lv_aload_n hx hb d_Mo_error_70 rfl (lv_at hl 0 rfl) ?_
              refine va_get (D := (dC, dI)) (ci := 8) (v := .ref (ad 15)) (C := R_Mo) (T := F_Mo) (N := 31) hx hb hts in_Mo hown hK hP 0 rfl rfl 26 (by decide) (hts _ m_14_16) (fun _ h9 => h9) rfl d_Mo_error_71 ?_
              refine lv_iload_n hx hb d_Mo_error_74 rfl (lv_at hl 1 rfl) ?_
              refine rw_top (y := nI a.toNatClampNeg) (hp_n c1) ?_
              refine aldM_errorPc (u := ((f_Mo_fails z 2 ((f_Mo_fails y 1 u).2)).2)) (v := aI ((f_Mo_fails z 2 ((f_Mo_fails y 1 u).2)).2) 7 a.toNatClampNeg) hx hb hK hP (by omega) rfl d_Mo_error_75 ?_
              refine lv_goto (tgt := 105) hx hb d_Mo_error_76 (by decide) ?_
              have hE : res = (aI ((f_Mo_fails z 2 ((f_Mo_fails y 1 u).2)).2) 7 a.toNatClampNeg, (f_Mo_fails z 2 ((f_Mo_fails y 1 u).2)).2) := (by subst ez; subst ey; exact hq.trans ((if_neg c1).trans ((if_neg c2).trans ((if_neg c3).trans ((if_pos c4).trans rfl)))))
              exact retWi (x := aI ((f_Mo_fails z 2 ((f_Mo_fails y 1 u).2)).2) 7 a.toNatClampNeg) hx hb hr hP hK hD hS (congrArg Prod.fst hE).symm (congrArg Prod.snd hE).symm d_Mo_error_105 hlocks
          · skip
            refine lv_aload_n hx hb d_Mo_error_56 rfl (lv_at hl 0 rfl) ?_
            refine va_get (D := (dC, dI)) (ci := 8) (v := .ref (ad 14)) (C := R_Mo) (T := F_Mo) (N := 31) hx hb hts in_Mo hown hK hP 0 rfl rfl 25 (by decide) (hts _ m_14_15) (fun _ h9 => h9) rfl d_Mo_error_57 ?_
            refine lv_iload_n hx hb d_Mo_error_60 rfl (lv_at hl 1 rfl) ?_
            refine rw_top (y := nI a.toNatClampNeg) (hp_n c1) ?_
            refine aldM_errorKind (u := ((f_Mo_fails z 2 ((f_Mo_fails y 1 u).2)).2)) (v := aI ((f_Mo_fails z 2 ((f_Mo_fails y 1 u).2)).2) 6 a.toNatClampNeg) hx hb hK hP (by omega) rfl d_Mo_error_61 ?_
            refine lv_goto (tgt := 105) hx hb d_Mo_error_62 (by decide) ?_
            have hE : res = (aI ((f_Mo_fails z 2 ((f_Mo_fails y 1 u).2)).2) 6 a.toNatClampNeg, (f_Mo_fails z 2 ((f_Mo_fails y 1 u).2)).2) := (by subst ez; subst ey; exact hq.trans ((if_neg c1).trans ((if_neg c2).trans ((if_pos c3).trans rfl))))
            exact retWi (x := aI ((f_Mo_fails z 2 ((f_Mo_fails y 1 u).2)).2) 6 a.toNatClampNeg) hx hb hr hP hK hD hS (congrArg Prod.fst hE).symm (congrArg Prod.snd hE).symm d_Mo_error_105 hlocks
        · skip
          refine lv_iconst (v := 0) hx hb d_Mo_error_50 (by decide) ?_
          have hE : res = (0, (f_Mo_fails z 2 ((f_Mo_fails y 1 u).2)).2) := (by subst ez; subst ey; exact hq.trans ((if_neg c1).trans ((if_pos c2).trans rfl)))
          exact retWi (x := 0) hx hb hr hP hK hD hS (congrArg Prod.fst hE).symm (congrArg Prod.snd hE).symm d_Mo_error_51 hlocks
      refine lv_if_lt (tgt := 38) hx hb d_Mo_error_27 (by decide) (fun c6 => ?_) (fun c6 => ?_)
      · skip
        refine lv_iconst (v := 1) hx hb d_Mo_error_38 (by decide) ?_
        refine lv_goto (tgt := 43) hx hb d_Mo_error_39 (by decide) ?_
        exact J43 true _ _ (Eq.symm ((if_pos c6).trans (rfl))) hP hD hS
      · skip
        refine lv_iload_n hx hb d_Mo_error_30 rfl (lv_at hl 1 rfl) ?_
        refine lv_aload_n hx hb d_Mo_error_31 rfl (lv_at hl 0 rfl) ?_
        refine va_get (D := (dC, dI)) (ci := 8) (v := .int (nI (gN ((f_Mo_fails y 1 u).2) 6))) (C := R_Mo) (T := F_Mo) (N := 31) hx hb hts in_Mo hown hK hP 0 rfl rfl 29 (by decide) (hts _ m_14_19) (fun _ h9 => h9) rfl d_Mo_error_32 ?_
        refine lv_icmp_lt (tgt := 42) hx hb d_Mo_error_35 (by decide) (fun c7 => ?_) (fun c7 => ?_)
        · skip
          refine lv_iconst (v := 0) hx hb d_Mo_error_42 (by decide) ?_
          exact J43 false _ _ (Eq.symm ((if_neg c6).trans ((if_pos c7).trans (rfl)))) hP hD hS
        · skip
          refine lv_iconst (v := 1) hx hb d_Mo_error_38 (by decide) ?_
          refine lv_goto (tgt := 43) hx hb d_Mo_error_39 (by decide) ?_
          exact J43 true _ _ (Eq.symm ((if_neg c6).trans ((if_neg c7).trans (rfl)))) hP hD hS
    · skip
      refine lv_iconst (v := 0) hx hb d_Mo_error_23 (by decide) ?_
      have hE : res = (0, (f_Mo_fails y 1 u).2) := (by subst ey; exact hq.trans ((if_pos c1).trans rfl))
      exact retWi (x := 0) hx hb hr hP hK hD hS (congrArg Prod.fst hE).symm (congrArg Prod.snd hE).symm d_Mo_error_24 hlocks
  refine lv_if_lt (tgt := 11) hx hb d_Mo_error_2 (by decide) (fun c8 => ?_) (fun c8 => ?_)
  · skip
    refine lv_iconst (v := 1) hx hb d_Mo_error_11 (by decide) ?_
    refine lv_goto (tgt := 16) hx hb d_Mo_error_12 (by decide) ?_
    exact J16 true _ _ (Eq.symm ((if_pos c8).trans (rfl))) hP hD hS
  · skip
    refine lv_iload_n hx hb d_Mo_error_5 rfl (lv_at hl 2 rfl) ?_
    refine lv_bipush (v := 6) hx hb d_Mo_error_6 (by decide) ?_
    refine lv_icmp_le (tgt := 15) hx hb d_Mo_error_8 (by decide) (fun c9 => ?_) (fun c9 => ?_)
    · skip
      refine lv_iconst (v := 0) hx hb d_Mo_error_15 (by decide) ?_
      exact J16 false _ _ (Eq.symm ((if_neg c8).trans ((if_pos c9).trans (rfl)))) hP hD hS
    · skip
      refine lv_iconst (v := 1) hx hb d_Mo_error_11 (by decide) ?_
      refine lv_goto (tgt := 16) hx hb d_Mo_error_12 (by decide) ?_
      exact J16 true _ _ (Eq.symm ((if_neg c8).trans ((if_neg c9).trans (rfl)))) hP hD hS
def w_Mo_output : List Cond := .code y_Mo_output b_Mo_output 2 (some .int) :: ALLW
def rm_Mo_output : Room := { frames := 21, cells := 0, slots := 0, locals := 622 }
theorem d_Mo_output_0 : decode b_Mo_output 0 = .ok (.aload_n 0, 1) := by decide +kernel
theorem d_Mo_output_1 : decode b_Mo_output 1 = .ok (.iload_n 1, 1) := by decide +kernel
theorem d_Mo_output_2 : decode b_Mo_output 2 = .ok (.ifCond .lt 11, 3) := by decide +kernel
theorem d_Mo_output_5 : decode b_Mo_output 5 = .ok (.iload_n 1, 1) := by decide +kernel
theorem d_Mo_output_6 : decode b_Mo_output 6 = .ok (.aload_n 0, 1) := by decide +kernel
theorem d_Mo_output_7 : decode b_Mo_output 7 = .ok (.getfield 106, 3) := by decide +kernel
theorem d_Mo_output_10 : decode b_Mo_output 10 = .ok (.if_icmp .lt 7, 3) := by decide +kernel
theorem d_Mo_output_13 : decode b_Mo_output 13 = .ok (.iconst 1, 1) := by decide +kernel
theorem d_Mo_output_14 : decode b_Mo_output 14 = .ok (.goto 4, 3) := by decide +kernel
theorem d_Mo_output_17 : decode b_Mo_output 17 = .ok (.iconst 0, 1) := by decide +kernel
theorem d_Mo_output_18 : decode b_Mo_output 18 = .ok (.iconst 1, 1) := by decide +kernel
theorem d_Mo_output_19 : decode b_Mo_output 19 = .ok (.invokevirtual 74, 3) := by decide +kernel
theorem d_Mo_output_22 : decode b_Mo_output 22 = .ok (.ifCond .eq 7, 3) := by decide +kernel
theorem d_Mo_output_25 : decode b_Mo_output 25 = .ok (.iconst 0, 1) := by decide +kernel
theorem d_Mo_output_26 : decode b_Mo_output 26 = .ok (.goto 9, 3) := by decide +kernel
theorem d_Mo_output_29 : decode b_Mo_output 29 = .ok (.aload_n 0, 1) := by decide +kernel
theorem d_Mo_output_30 : decode b_Mo_output 30 = .ok (.getfield 46, 3) := by decide +kernel
theorem d_Mo_output_33 : decode b_Mo_output 33 = .ok (.iload_n 1, 1) := by decide +kernel
theorem d_Mo_output_34 : decode b_Mo_output 34 = .ok (.iaload, 1) := by decide +kernel
theorem d_Mo_output_35 : decode b_Mo_output 35 = .ok (.ireturn, 1) := by decide +kernel
def f_Mo_output (a : Int32) (u : S5) : Int32 × S5 := let y : Bool := if a < 0 then true else if a < (nI (gN u 4)) then false else true; if ((f_Mo_fails y 1 u).1) = true then (0, (f_Mo_fails y 1 u).2) else (aI ((f_Mo_fails y 1 u).2) 4 a.toNatClampNeg, (f_Mo_fails y 1 u).2)
set_option maxHeartbeats 8000000 in
set_option maxRecDepth 100000 in
theorem c_Mo_output (l : Launch) (dC : Nat → ClassId) (dI : Nat → Nat → Nat) (cI cZ : ClassId) (ad : Nat → Nat) (u : S5) (a : Int32) (h4 : gN u 4 ≤ 4096) (sz : Nat) : Met l y_Mo_output w_Mo_output rm_Mo_output (PreW (dC, dI) classes [(cI, .int), (cZ, .boolean)] (wM cI cZ ad) u sz [.ref (ad 0), .int a]) (QWi (dC, dI) classes [(cI, .int), (cZ, .boolean)] (wM cI cZ ad) (va_A (wM cI cZ ad u) sz) (f_Mo_output a u).1 (f_Mo_output a u).2) 0 0 (va_A (wM cI cZ ad u) sz) := by
  generalize hres : f_Mo_output a u = res
  refine Met.ofW (cc := b_Mo_output) (maxL := 2) (ret := (some .int)) (by decide) rfl ?_
  intro p e s m args below meth c s₁ B hml hv
  obtain ⟨rfl, rfl, hP, hK, hD0⟩ := hv
  have hx := B.exec
  have hb := B.bytes
  have hr := B.returns
  have hts : ∀ w9 ∈ ALLW, w9.before ([.ref (ad 0), .int a] : List Value).toArray s = true := fun w9 h => atoms_spec (ws := w_Mo_output) B.pre w9 (List.mem_cons_of_mem _ h)
  have hown : s.vm.findClass R_Mo = some m.cls := findClass_of_methodNamed B.named
  have hlocks := B.notSynchronized
  have hD := hD0.self (sz := s.heap.size)
  generalize hAe : va_A (wM cI cZ ad u) s.heap.size = A at hD ⊢
  have hA : ∀ q : Nat, s.heap.size ≤ q → A q := fun q h => by rw [← hAe]; exact Or.inr h
  have hS : va_S A s.heap s.heap [] := va_S.rf
  have hl := lv_entry ([.ref (ad 0), .int a]) (n := 2) (Nat.le_of_ble_eq_true rfl)
  rw [lg_entry_eq]
  generalize (lg_sl ([.ref (ad 0), .int a]) ++ List.replicate (2 - (lg_sl ([.ref (ad 0), .int a])).length) Slot.unset).toArray = ls at hl ⊢
  have hl : lv_has ls 2 [(0, .ref (ad 0)), (1, .int a)] := hl
  have hq := hres.symm
  skip
  refine lv_aload_n hx hb d_Mo_output_0 rfl (lv_at hl 0 rfl) ?_
  refine lv_iload_n hx hb d_Mo_output_1 rfl (lv_at hl 1 rfl) ?_
  have J18 : ∀ (y : Bool) (H : Heap) (locs : List Loc), y = (if a < 0 then true else if a < (nI (gN u 4)) then false else true) → va_P (dC, dI) classes (wM cI cZ ad u) H → va_D A (wM cI cZ ad u) → va_S A s.heap H locs → W p l e (headSpec w_Mo_output rm_Mo_output).room s m ([.ref (ad 0), .int a] : List Value).toArray below meth c H locs 0 0 (MQ below (QWi (dC, dI) classes [(cI, .int), (cZ, .boolean)] (wM cI cZ ad) A res.1 res.2) ([.ref (ad 0), .int a] : List Value).toArray s 0 0 A) (F0 m 18 ls [.int (b2i y), .ref (ad 0)]) := by
    intro y H locs ey hP hD hS
    refine lv_iconst (v := 1) hx hb d_Mo_output_18 (by decide) ?_
    refine callWi (va_runV (As := [.int (b2i y), .int 1]) (rest := []) ⟨hx, hb, hml, hown, hts⟩ (c_Mo_fails l dC dI cI cZ ad u y 1 H.size) (cwV 2 hts (goodV m_15_21 m_15_22 m_19_15 m_0_12 m_15_23) rfl rfl rfl (by decide +kernel) ⟨Nat.le_of_ble_eq_true rfl, Nat.le_of_ble_eq_true rfl⟩) ⟨preW_blind, va_recv hK hP (ci := 8) (q0 := 0) rfl rfl, preW_ok hP hD hK⟩ rfl rfl hl.1 rfl (lv_room (Nat.le_of_ble_eq_true rfl)) d_Mo_output_19 ⟨Nat.zero_le _, Nat.zero_le _⟩) hP hD hS hA (fun H locs hP hD hS => ?_)
    refine rb_eq (tgt := 29) hx hb d_Mo_output_22 (by decide) (fun c1 => ?_) (fun c1 => ?_)
    · skip
      have hy0 : ¬ y = true := by assumption
      have c1 : ¬ a < 0 := fun h => hy0 (by rw [ey, if_pos h])
      have c2 : a < nI (gN u 4) := Decidable.not_not.mp (fun h => hy0 (by rw [ey, if_neg c1, if_neg h]))
      have hn1 : a.toNatClampNeg < gN u 4 := hp_nlt (by omega) rfl c1 c2
      refine lv_aload_n hx hb d_Mo_output_29 rfl (lv_at hl 0 rfl) ?_
      refine va_get (D := (dC, dI)) (ci := 8) (v := .ref (ad 12)) (C := R_Mo) (T := F_Mo) (N := 31) hx hb hts in_Mo hown hK hP 0 rfl rfl 19 (by decide) (hts _ m_14_9) (fun _ h9 => h9) rfl d_Mo_output_30 ?_
      refine lv_iload_n hx hb d_Mo_output_33 rfl (lv_at hl 1 rfl) ?_
      refine rw_top (y := nI a.toNatClampNeg) (hp_n c1) ?_
      refine aldM_out (u := ((f_Mo_fails y 1 u).2)) (v := aI ((f_Mo_fails y 1 u).2) 4 a.toNatClampNeg) hx hb hK hP (by omega) rfl d_Mo_output_34 ?_
      have hE : res = (aI ((f_Mo_fails y 1 u).2) 4 a.toNatClampNeg, (f_Mo_fails y 1 u).2) := (by subst ey; exact hq.trans ((if_neg c1).trans rfl))
      exact retWi (x := aI ((f_Mo_fails y 1 u).2) 4 a.toNatClampNeg) hx hb hr hP hK hD hS (congrArg Prod.fst hE).symm (congrArg Prod.snd hE).symm d_Mo_output_35 hlocks
    · skip
      refine lv_iconst (v := 0) hx hb d_Mo_output_25 (by decide) ?_
      refine lv_goto (tgt := 35) hx hb d_Mo_output_26 (by decide) ?_
      have hE : res = (0, (f_Mo_fails y 1 u).2) := (by subst ey; exact hq.trans ((if_pos c1).trans rfl))
      exact retWi (x := 0) hx hb hr hP hK hD hS (congrArg Prod.fst hE).symm (congrArg Prod.snd hE).symm d_Mo_output_35 hlocks
  refine lv_if_lt (tgt := 13) hx hb d_Mo_output_2 (by decide) (fun c2 => ?_) (fun c2 => ?_)
  · skip
    refine lv_iconst (v := 1) hx hb d_Mo_output_13 (by decide) ?_
    refine lv_goto (tgt := 18) hx hb d_Mo_output_14 (by decide) ?_
    exact J18 true _ _ (Eq.symm ((if_pos c2).trans (rfl))) hP hD hS
  · skip
    refine lv_iload_n hx hb d_Mo_output_5 rfl (lv_at hl 1 rfl) ?_
    refine lv_aload_n hx hb d_Mo_output_6 rfl (lv_at hl 0 rfl) ?_
    refine va_get (D := (dC, dI)) (ci := 8) (v := .int (nI (gN u 4))) (C := R_Mo) (T := F_Mo) (N := 31) hx hb hts in_Mo hown hK hP 0 rfl rfl 23 (by decide) (hts _ m_14_13) (fun _ h9 => h9) rfl d_Mo_output_7 ?_
    refine lv_icmp_lt (tgt := 17) hx hb d_Mo_output_10 (by decide) (fun c3 => ?_) (fun c3 => ?_)
    · skip
      refine lv_iconst (v := 0) hx hb d_Mo_output_17 (by decide) ?_
      exact J18 false _ _ (Eq.symm ((if_neg c2).trans ((if_pos c3).trans (rfl)))) hP hD hS
    · skip
      refine lv_iconst (v := 1) hx hb d_Mo_output_13 (by decide) ?_
      refine lv_goto (tgt := 18) hx hb d_Mo_output_14 (by decide) ?_
      exact J18 true _ _ (Eq.symm ((if_neg c2).trans ((if_neg c3).trans (rfl)))) hP hD hS
def w_Mo_count : List Cond := .code y_Mo_count b_Mo_count 4 (some .int) :: ALLW
def rm_Mo_count : Room := { frames := 21, cells := 0, slots := 0, locals := 622 }
theorem d_Mo_count_0 : decode b_Mo_count 0 = .ok (.aload_n 0, 1) := by decide +kernel
theorem d_Mo_count_1 : decode b_Mo_count 1 = .ok (.iload_n 1, 1) := by decide +kernel
theorem d_Mo_count_2 : decode b_Mo_count 2 = .ok (.ifCond .lt 9, 3) := by decide +kernel
theorem d_Mo_count_5 : decode b_Mo_count 5 = .ok (.iload_n 1, 1) := by decide +kernel
theorem d_Mo_count_6 : decode b_Mo_count 6 = .ok (.bipush 10, 2) := by decide +kernel
theorem d_Mo_count_8 : decode b_Mo_count 8 = .ok (.if_icmp .le 7, 3) := by decide +kernel
theorem d_Mo_count_11 : decode b_Mo_count 11 = .ok (.iconst 1, 1) := by decide +kernel
theorem d_Mo_count_12 : decode b_Mo_count 12 = .ok (.goto 4, 3) := by decide +kernel
theorem d_Mo_count_15 : decode b_Mo_count 15 = .ok (.iconst 0, 1) := by decide +kernel
theorem d_Mo_count_16 : decode b_Mo_count 16 = .ok (.iconst 1, 1) := by decide +kernel
theorem d_Mo_count_17 : decode b_Mo_count 17 = .ok (.invokevirtual 74, 3) := by decide +kernel
theorem d_Mo_count_20 : decode b_Mo_count 20 = .ok (.ifCond .eq 5, 3) := by decide +kernel
theorem d_Mo_count_23 : decode b_Mo_count 23 = .ok (.iconst 0, 1) := by decide +kernel
theorem d_Mo_count_24 : decode b_Mo_count 24 = .ok (.ireturn, 1) := by decide +kernel
theorem d_Mo_count_25 : decode b_Mo_count 25 = .ok (.iconst 0, 1) := by decide +kernel
theorem d_Mo_count_26 : decode b_Mo_count 26 = .ok (.istore_n 2, 1) := by decide +kernel
theorem d_Mo_count_27 : decode b_Mo_count 27 = .ok (.iconst 0, 1) := by decide +kernel
theorem d_Mo_count_28 : decode b_Mo_count 28 = .ok (.istore_n 3, 1) := by decide +kernel
theorem d_Mo_count_29 : decode b_Mo_count 29 = .ok (.iload_n 3, 1) := by decide +kernel
theorem d_Mo_count_30 : decode b_Mo_count 30 = .ok (.aload_n 0, 1) := by decide +kernel
theorem d_Mo_count_31 : decode b_Mo_count 31 = .ok (.getfield 97, 3) := by decide +kernel
theorem d_Mo_count_34 : decode b_Mo_count 34 = .ok (.if_icmp .ge 18, 3) := by decide +kernel
theorem d_Mo_count_37 : decode b_Mo_count 37 = .ok (.iload_n 2, 1) := by decide +kernel
theorem d_Mo_count_38 : decode b_Mo_count 38 = .ok (.aload_n 0, 1) := by decide +kernel
theorem d_Mo_count_39 : decode b_Mo_count 39 = .ok (.getfield 34, 3) := by decide +kernel
theorem d_Mo_count_42 : decode b_Mo_count 42 = .ok (.iload_n 3, 1) := by decide +kernel
theorem d_Mo_count_43 : decode b_Mo_count 43 = .ok (.iaload, 1) := by decide +kernel
theorem d_Mo_count_44 : decode b_Mo_count 44 = .ok (.iadd, 1) := by decide +kernel
theorem d_Mo_count_45 : decode b_Mo_count 45 = .ok (.istore_n 2, 1) := by decide +kernel
theorem d_Mo_count_46 : decode b_Mo_count 46 = .ok (.iinc 3 1, 3) := by decide +kernel
theorem d_Mo_count_49 : decode b_Mo_count 49 = .ok (.goto (-20), 3) := by decide +kernel
theorem d_Mo_count_52 : decode b_Mo_count 52 = .ok (.iload_n 1, 1) := by decide +kernel
theorem d_Mo_count_53 : decode b_Mo_count 53 = .ok (.tableswitch 102 0 9 #[55, 60, 65, 70, 75, 80, 85, 90, 95, 100], 55) := by decide +kernel
theorem d_Mo_count_108 : decode b_Mo_count 108 = .ok (.aload_n 0, 1) := by decide +kernel
theorem d_Mo_count_109 : decode b_Mo_count 109 = .ok (.getfield 85, 3) := by decide +kernel
theorem d_Mo_count_112 : decode b_Mo_count 112 = .ok (.ireturn, 1) := by decide +kernel
theorem d_Mo_count_113 : decode b_Mo_count 113 = .ok (.aload_n 0, 1) := by decide +kernel
theorem d_Mo_count_114 : decode b_Mo_count 114 = .ok (.getfield 88, 3) := by decide +kernel
theorem d_Mo_count_117 : decode b_Mo_count 117 = .ok (.ireturn, 1) := by decide +kernel
theorem d_Mo_count_118 : decode b_Mo_count 118 = .ok (.aload_n 0, 1) := by decide +kernel
theorem d_Mo_count_119 : decode b_Mo_count 119 = .ok (.getfield 82, 3) := by decide +kernel
theorem d_Mo_count_122 : decode b_Mo_count 122 = .ok (.ireturn, 1) := by decide +kernel
theorem d_Mo_count_123 : decode b_Mo_count 123 = .ok (.aload_n 0, 1) := by decide +kernel
theorem d_Mo_count_124 : decode b_Mo_count 124 = .ok (.getfield 91, 3) := by decide +kernel
theorem d_Mo_count_127 : decode b_Mo_count 127 = .ok (.ireturn, 1) := by decide +kernel
theorem d_Mo_count_128 : decode b_Mo_count 128 = .ok (.aload_n 0, 1) := by decide +kernel
theorem d_Mo_count_129 : decode b_Mo_count 129 = .ok (.getfield 112, 3) := by decide +kernel
theorem d_Mo_count_132 : decode b_Mo_count 132 = .ok (.ireturn, 1) := by decide +kernel
theorem d_Mo_count_133 : decode b_Mo_count 133 = .ok (.aload_n 0, 1) := by decide +kernel
theorem d_Mo_count_134 : decode b_Mo_count 134 = .ok (.getfield 94, 3) := by decide +kernel
theorem d_Mo_count_137 : decode b_Mo_count 137 = .ok (.ireturn, 1) := by decide +kernel
theorem d_Mo_count_138 : decode b_Mo_count 138 = .ok (.aload_n 0, 1) := by decide +kernel
theorem d_Mo_count_139 : decode b_Mo_count 139 = .ok (.getfield 106, 3) := by decide +kernel
theorem d_Mo_count_142 : decode b_Mo_count 142 = .ok (.ireturn, 1) := by decide +kernel
theorem d_Mo_count_143 : decode b_Mo_count 143 = .ok (.aload_n 0, 1) := by decide +kernel
theorem d_Mo_count_144 : decode b_Mo_count 144 = .ok (.getfield 97, 3) := by decide +kernel
theorem d_Mo_count_147 : decode b_Mo_count 147 = .ok (.ireturn, 1) := by decide +kernel
theorem d_Mo_count_148 : decode b_Mo_count 148 = .ok (.aload_n 0, 1) := by decide +kernel
theorem d_Mo_count_149 : decode b_Mo_count 149 = .ok (.getfield 100, 3) := by decide +kernel
theorem d_Mo_count_152 : decode b_Mo_count 152 = .ok (.ireturn, 1) := by decide +kernel
theorem d_Mo_count_153 : decode b_Mo_count 153 = .ok (.iload_n 2, 1) := by decide +kernel
theorem d_Mo_count_154 : decode b_Mo_count 154 = .ok (.ireturn, 1) := by decide +kernel
theorem d_Mo_count_155 : decode b_Mo_count 155 = .ok (.aload_n 0, 1) := by decide +kernel
theorem d_Mo_count_156 : decode b_Mo_count 156 = .ok (.getfield 109, 3) := by decide +kernel
theorem d_Mo_count_159 : decode b_Mo_count 159 = .ok (.ireturn, 1) := by decide +kernel
def f_Mo_count_29 (q : Int32) (u : S5) (y : Bool) : Nat → Nat → Int32 → Int32
  | 0, i, v => 0
  | k29 + 1, i, v => if i < (gN ((f_Mo_fails y 1 u).2) 0) then f_Mo_count_29 q u y k29 (i + 1) (v + (nI (aN ((f_Mo_fails y 1 u).2) 1 i))) else v
def f_Mo_count (q : Int32) (u : S5) : Int32 × S5 := let y : Bool := if q < 0 then true else if q ≤ 10 then false else true; if ((f_Mo_fails y 1 u).1) = true then (0, (f_Mo_fails y 1 u).2) else let tot : Int32 := f_Mo_count_29 q u y (gN u 0 + 1) 0 0; if q = 0 then (gI ((f_Mo_fails y 1 u).2) 2, (f_Mo_fails y 1 u).2) else if q = 1 then (gI ((f_Mo_fails y 1 u).2) 3, (f_Mo_fails y 1 u).2) else if q = 2 then (gI ((f_Mo_fails y 1 u).2) 1, (f_Mo_fails y 1 u).2) else if q = 3 then (gI ((f_Mo_fails y 1 u).2) 4, (f_Mo_fails y 1 u).2) else if q = 4 then (nI (gN ((f_Mo_fails y 1 u).2) 6), (f_Mo_fails y 1 u).2) else if q = 5 then (gI ((f_Mo_fails y 1 u).2) 5, (f_Mo_fails y 1 u).2) else if q = 6 then (nI (gN ((f_Mo_fails y 1 u).2) 4), (f_Mo_fails y 1 u).2) else if q = 7 then (nI (gN ((f_Mo_fails y 1 u).2) 0), (f_Mo_fails y 1 u).2) else if q = 8 then (nI (gN ((f_Mo_fails y 1 u).2) 1), (f_Mo_fails y 1 u).2) else if q = 9 then (tot, (f_Mo_fails y 1 u).2) else (nI (gN ((f_Mo_fails y 1 u).2) 5), (f_Mo_fails y 1 u).2)
set_option maxHeartbeats 8000000 in
set_option maxRecDepth 100000 in
theorem c_Mo_count (l : Launch) (dC : Nat → ClassId) (dI : Nat → Nat → Nat) (cI cZ : ClassId) (ad : Nat → Nat) (u : S5) (q : Int32) (h0 : gN u 0 ≤ 799) (sz : Nat) : Met l y_Mo_count w_Mo_count rm_Mo_count (PreW (dC, dI) classes [(cI, .int), (cZ, .boolean)] (wM cI cZ ad) u sz [.ref (ad 0), .int q]) (QWi (dC, dI) classes [(cI, .int), (cZ, .boolean)] (wM cI cZ ad) (va_A (wM cI cZ ad u) sz) (f_Mo_count q u).1 (f_Mo_count q u).2) 0 0 (va_A (wM cI cZ ad u) sz) := by
  generalize hres : f_Mo_count q u = res
  refine Met.ofW (cc := b_Mo_count) (maxL := 4) (ret := (some .int)) (by decide) rfl ?_
  intro p e s m args below meth c s₁ B hml hv
  obtain ⟨rfl, rfl, hP, hK, hD0⟩ := hv
  have hx := B.exec
  have hb := B.bytes
  have hr := B.returns
  have hts : ∀ w9 ∈ ALLW, w9.before ([.ref (ad 0), .int q] : List Value).toArray s = true := fun w9 h => atoms_spec (ws := w_Mo_count) B.pre w9 (List.mem_cons_of_mem _ h)
  have hown : s.vm.findClass R_Mo = some m.cls := findClass_of_methodNamed B.named
  have hlocks := B.notSynchronized
  have hD := hD0.self (sz := s.heap.size)
  generalize hAe : va_A (wM cI cZ ad u) s.heap.size = A at hD ⊢
  have hA : ∀ q : Nat, s.heap.size ≤ q → A q := fun q h => by rw [← hAe]; exact Or.inr h
  have hS : va_S A s.heap s.heap [] := va_S.rf
  have hl := lv_entry ([.ref (ad 0), .int q]) (n := 4) (Nat.le_of_ble_eq_true rfl)
  rw [lg_entry_eq]
  generalize (lg_sl ([.ref (ad 0), .int q]) ++ List.replicate (4 - (lg_sl ([.ref (ad 0), .int q])).length) Slot.unset).toArray = ls at hl ⊢
  have hl : lv_has ls 4 [(0, .ref (ad 0)), (1, .int q)] := hl
  have hq := hres.symm
  skip
  refine lv_aload_n hx hb d_Mo_count_0 rfl (lv_at hl 0 rfl) ?_
  refine lv_iload_n hx hb d_Mo_count_1 rfl (lv_at hl 1 rfl) ?_
  have J16 : ∀ (y : Bool) (H : Heap) (locs : List Loc), y = (if q < 0 then true else if q ≤ 10 then false else true) → va_P (dC, dI) classes (wM cI cZ ad u) H → va_D A (wM cI cZ ad u) → va_S A s.heap H locs → W p l e (headSpec w_Mo_count rm_Mo_count).room s m ([.ref (ad 0), .int q] : List Value).toArray below meth c H locs 0 0 (MQ below (QWi (dC, dI) classes [(cI, .int), (cZ, .boolean)] (wM cI cZ ad) A res.1 res.2) ([.ref (ad 0), .int q] : List Value).toArray s 0 0 A) (F0 m 16 ls [.int (b2i y), .ref (ad 0)]) := by
    intro y H locs ey hP hD hS
    refine lv_iconst (v := 1) hx hb d_Mo_count_16 (by decide) ?_
    refine callWi (va_runV (As := [.int (b2i y), .int 1]) (rest := []) ⟨hx, hb, hml, hown, hts⟩ (c_Mo_fails l dC dI cI cZ ad u y 1 H.size) (cwV 2 hts (goodV m_15_21 m_15_22 m_19_15 m_0_12 m_15_23) rfl rfl rfl (by decide +kernel) ⟨Nat.le_of_ble_eq_true rfl, Nat.le_of_ble_eq_true rfl⟩) ⟨preW_blind, va_recv hK hP (ci := 8) (q0 := 0) rfl rfl, preW_ok hP hD hK⟩ rfl rfl hl.1 rfl (lv_room (Nat.le_of_ble_eq_true rfl)) d_Mo_count_17 ⟨Nat.zero_le _, Nat.zero_le _⟩) hP hD hS hA (fun H locs hP hD hS => ?_)
    refine rb_eq (tgt := 25) hx hb d_Mo_count_20 (by decide) (fun c1 => ?_) (fun c1 => ?_)
    · skip
      refine lv_iconst (v := 0) hx hb d_Mo_count_25 (by decide) ?_
      refine lv_istore_n (lv' := [(2, .int 0), (0, .ref (ad 0)), (1, .int q)]) hx hb d_Mo_count_26 rfl hl (by decide) rfl (fun ls hl => ?_)
      refine lv_iconst (v := nI 0) hx hb d_Mo_count_27 (by decide) ?_
      refine lv_istore_n (lv' := [(3, .int (nI 0)), (2, .int 0), (0, .ref (ad 0)), (1, .int q)]) hx hb d_Mo_count_28 rfl hl (by decide) rfl (fun ls hl => ?_)
      obtain ⟨o29, ho29⟩ : ∃ z : Int32, z = f_Mo_count_29 q u y (gN u 0 + 1) 0 0 := ⟨_, rfl⟩
      have K29 : ∀ (tot : Int32) (H : Heap) (locs : List Loc) (ls : Array Slot), tot = o29 → va_P (dC, dI) classes (wM cI cZ ad ((f_Mo_fails y 1 u).2)) H → va_D A (wM cI cZ ad ((f_Mo_fails y 1 u).2)) → va_S A s.heap H locs → lv_has ls 4 [(2, .int tot), (0, .ref (ad 0)), (1, .int q)] → W p l e (headSpec w_Mo_count rm_Mo_count).room s m ([.ref (ad 0), .int q] : List Value).toArray below meth c H locs 0 0 (MQ below (QWi (dC, dI) classes [(cI, .int), (cZ, .boolean)] (wM cI cZ ad) A res.1 res.2) ([.ref (ad 0), .int q] : List Value).toArray s 0 0 A) (F0 m 52 ls []) := by
        intro tot H locs ls eo hP hD hS hl
        have etot := eo
        refine lv_iload_n hx hb d_Mo_count_52 rfl (lv_at hl 2 rfl) ?_
        by_cases c2 : q = 0
        · skip
          refine lv_tableIn (off := 55) (tgt := 108) hx hb d_Mo_count_53 (by rw [c2]; decide) (by rw [c2]; decide) (by rw [c2]; decide) (by decide) ?_
          refine lv_aload_n hx hb d_Mo_count_108 rfl (lv_at hl 1 rfl) ?_
          refine va_get (D := (dC, dI)) (ci := 8) (v := .int (gI ((f_Mo_fails y 1 u).2) 2)) (C := R_Mo) (T := F_Mo) (N := 31) hx hb hts in_Mo hown hK hP 0 rfl rfl 8 (by decide) (hts _ m_13_38) (fun _ h9 => h9) rfl d_Mo_count_109 ?_
          have hE : res = (gI ((f_Mo_fails y 1 u).2) 2, (f_Mo_fails y 1 u).2) := (by subst etot; subst ho29; subst ey; exact hq.trans ((if_neg c1).trans ((if_pos c2).trans rfl)))
          exact retWi (x := gI ((f_Mo_fails y 1 u).2) 2) hx hb hr hP hK hD hS (congrArg Prod.fst hE).symm (congrArg Prod.snd hE).symm d_Mo_count_112 hlocks
        by_cases c3 : q = 1
        · skip
          refine lv_tableIn (off := 60) (tgt := 113) hx hb d_Mo_count_53 (by rw [c3]; decide) (by rw [c3]; decide) (by rw [c3]; decide) (by decide) ?_
          refine lv_aload_n hx hb d_Mo_count_113 rfl (lv_at hl 1 rfl) ?_
          refine va_get (D := (dC, dI)) (ci := 8) (v := .int (gI ((f_Mo_fails y 1 u).2) 3)) (C := R_Mo) (T := F_Mo) (N := 31) hx hb hts in_Mo hown hK hP 0 rfl rfl 9 (by decide) (hts _ m_13_39) (fun _ h9 => h9) rfl d_Mo_count_114 ?_
          have hE : res = (gI ((f_Mo_fails y 1 u).2) 3, (f_Mo_fails y 1 u).2) := (by subst etot; subst ho29; subst ey; exact hq.trans ((if_neg c1).trans ((if_neg c2).trans ((if_pos c3).trans rfl))))
          exact retWi (x := gI ((f_Mo_fails y 1 u).2) 3) hx hb hr hP hK hD hS (congrArg Prod.fst hE).symm (congrArg Prod.snd hE).symm d_Mo_count_117 hlocks
        by_cases c4 : q = 2
        · skip
          refine lv_tableIn (off := 65) (tgt := 118) hx hb d_Mo_count_53 (by rw [c4]; decide) (by rw [c4]; decide) (by rw [c4]; decide) (by decide) ?_
          refine lv_aload_n hx hb d_Mo_count_118 rfl (lv_at hl 1 rfl) ?_
          refine va_get (D := (dC, dI)) (ci := 8) (v := .int (gI ((f_Mo_fails y 1 u).2) 1)) (C := R_Mo) (T := F_Mo) (N := 31) hx hb hts in_Mo hown hK hP 0 rfl rfl 7 (by decide) (hts _ m_13_37) (fun _ h9 => h9) rfl d_Mo_count_119 ?_
          have hE : res = (gI ((f_Mo_fails y 1 u).2) 1, (f_Mo_fails y 1 u).2) := (by subst etot; subst ho29; subst ey; exact hq.trans ((if_neg c1).trans ((if_neg c2).trans ((if_neg c3).trans ((if_pos c4).trans rfl)))))
          exact retWi (x := gI ((f_Mo_fails y 1 u).2) 1) hx hb hr hP hK hD hS (congrArg Prod.fst hE).symm (congrArg Prod.snd hE).symm d_Mo_count_122 hlocks
        by_cases c5 : q = 3
        · skip
          refine lv_tableIn (off := 70) (tgt := 123) hx hb d_Mo_count_53 (by rw [c5]; decide) (by rw [c5]; decide) (by rw [c5]; decide) (by decide) ?_
          refine lv_aload_n hx hb d_Mo_count_123 rfl (lv_at hl 1 rfl) ?_
          refine va_get (D := (dC, dI)) (ci := 8) (v := .int (gI ((f_Mo_fails y 1 u).2) 4)) (C := R_Mo) (T := F_Mo) (N := 31) hx hb hts in_Mo hown hK hP 0 rfl rfl 10 (by decide) (hts _ m_14_0) (fun _ h9 => h9) rfl d_Mo_count_124 ?_
          have hE : res = (gI ((f_Mo_fails y 1 u).2) 4, (f_Mo_fails y 1 u).2) := (by subst etot; subst ho29; subst ey; exact hq.trans ((if_neg c1).trans ((if_neg c2).trans ((if_neg c3).trans ((if_neg c4).trans ((if_pos c5).trans rfl))))))
          exact retWi (x := gI ((f_Mo_fails y 1 u).2) 4) hx hb hr hP hK hD hS (congrArg Prod.fst hE).symm (congrArg Prod.snd hE).symm d_Mo_count_127 hlocks
        by_cases c6 : q = 4
        · skip
          refine lv_tableIn (off := 75) (tgt := 128) hx hb d_Mo_count_53 (by rw [c6]; decide) (by rw [c6]; decide) (by rw [c6]; decide) (by decide) ?_
          refine lv_aload_n hx hb d_Mo_count_128 rfl (lv_at hl 1 rfl) ?_
          refine va_get (D := (dC, dI)) (ci := 8) (v := .int (nI (gN ((f_Mo_fails y 1 u).2) 6))) (C := R_Mo) (T := F_Mo) (N := 31) hx hb hts in_Mo hown hK hP 0 rfl rfl 29 (by decide) (hts _ m_14_19) (fun _ h9 => h9) rfl d_Mo_count_129 ?_
          have hE : res = (nI (gN ((f_Mo_fails y 1 u).2) 6), (f_Mo_fails y 1 u).2) := (by subst etot; subst ho29; subst ey; exact hq.trans ((if_neg c1).trans ((if_neg c2).trans ((if_neg c3).trans ((if_neg c4).trans ((if_neg c5).trans ((if_pos c6).trans rfl)))))))
          exact retWi (x := nI (gN ((f_Mo_fails y 1 u).2) 6)) hx hb hr hP hK hD hS (congrArg Prod.fst hE).symm (congrArg Prod.snd hE).symm d_Mo_count_132 hlocks
        by_cases c7 : q = 5
        · skip
          refine lv_tableIn (off := 80) (tgt := 133) hx hb d_Mo_count_53 (by rw [c7]; decide) (by rw [c7]; decide) (by rw [c7]; decide) (by decide) ?_
          refine lv_aload_n hx hb d_Mo_count_133 rfl (lv_at hl 1 rfl) ?_
          refine va_get (D := (dC, dI)) (ci := 8) (v := .int (gI ((f_Mo_fails y 1 u).2) 5)) (C := R_Mo) (T := F_Mo) (N := 31) hx hb hts in_Mo hown hK hP 0 rfl rfl 11 (by decide) (hts _ m_14_1) (fun _ h9 => h9) rfl d_Mo_count_134 ?_
          have hE : res = (gI ((f_Mo_fails y 1 u).2) 5, (f_Mo_fails y 1 u).2) := (by subst etot; subst ho29; subst ey; exact hq.trans ((if_neg c1).trans ((if_neg c2).trans ((if_neg c3).trans ((if_neg c4).trans ((if_neg c5).trans ((if_neg c6).trans ((if_pos c7).trans rfl))))))))
          exact retWi (x := gI ((f_Mo_fails y 1 u).2) 5) hx hb hr hP hK hD hS (congrArg Prod.fst hE).symm (congrArg Prod.snd hE).symm d_Mo_count_137 hlocks
        by_cases c8 : q = 6
        · skip
          refine lv_tableIn (off := 85) (tgt := 138) hx hb d_Mo_count_53 (by rw [c8]; decide) (by rw [c8]; decide) (by rw [c8]; decide) (by decide) ?_
          refine lv_aload_n hx hb d_Mo_count_138 rfl (lv_at hl 1 rfl) ?_
          refine va_get (D := (dC, dI)) (ci := 8) (v := .int (nI (gN ((f_Mo_fails y 1 u).2) 4))) (C := R_Mo) (T := F_Mo) (N := 31) hx hb hts in_Mo hown hK hP 0 rfl rfl 23 (by decide) (hts _ m_14_13) (fun _ h9 => h9) rfl d_Mo_count_139 ?_
          have hE : res = (nI (gN ((f_Mo_fails y 1 u).2) 4), (f_Mo_fails y 1 u).2) := (by subst etot; subst ho29; subst ey; exact hq.trans ((if_neg c1).trans ((if_neg c2).trans ((if_neg c3).trans ((if_neg c4).trans ((if_neg c5).trans ((if_neg c6).trans ((if_neg c7).trans ((if_pos c8).trans rfl)))))))))
          exact retWi (x := nI (gN ((f_Mo_fails y 1 u).2) 4)) hx hb hr hP hK hD hS (congrArg Prod.fst hE).symm (congrArg Prod.snd hE).symm d_Mo_count_142 hlocks
        by_cases c9 : q = 7
        · skip
          refine lv_tableIn (off := 90) (tgt := 143) hx hb d_Mo_count_53 (by rw [c9]; decide) (by rw [c9]; decide) (by rw [c9]; decide) (by decide) ?_
          refine lv_aload_n hx hb d_Mo_count_143 rfl (lv_at hl 1 rfl) ?_
          refine va_get (D := (dC, dI)) (ci := 8) (v := .int (nI (gN ((f_Mo_fails y 1 u).2) 0))) (C := R_Mo) (T := F_Mo) (N := 31) hx hb hts in_Mo hown hK hP 0 rfl rfl 16 (by decide) (hts _ m_14_6) (fun _ h9 => h9) rfl d_Mo_count_144 ?_
          have hE : res = (nI (gN ((f_Mo_fails y 1 u).2) 0), (f_Mo_fails y 1 u).2) := (by subst etot; subst ho29; subst ey; exact hq.trans ((if_neg c1).trans ((if_neg c2).trans ((if_neg c3).trans ((if_neg c4).trans ((if_neg c5).trans ((if_neg c6).trans ((if_neg c7).trans ((if_neg c8).trans ((if_pos c9).trans rfl))))))))))
          exact retWi (x := nI (gN ((f_Mo_fails y 1 u).2) 0)) hx hb hr hP hK hD hS (congrArg Prod.fst hE).symm (congrArg Prod.snd hE).symm d_Mo_count_147 hlocks
        by_cases c10 : q = 8
        · skip
          refine lv_tableIn (off := 95) (tgt := 148) hx hb d_Mo_count_53 (by rw [c10]; decide) (by rw [c10]; decide) (by rw [c10]; decide) (by decide) ?_
          refine lv_aload_n hx hb d_Mo_count_148 rfl (lv_at hl 1 rfl) ?_
          refine va_get (D := (dC, dI)) (ci := 8) (v := .int (nI (gN ((f_Mo_fails y 1 u).2) 1))) (C := R_Mo) (T := F_Mo) (N := 31) hx hb hts in_Mo hown hK hP 0 rfl rfl 17 (by decide) (hts _ m_14_7) (fun _ h9 => h9) rfl d_Mo_count_149 ?_
          have hE : res = (nI (gN ((f_Mo_fails y 1 u).2) 1), (f_Mo_fails y 1 u).2) := (by subst etot; subst ho29; subst ey; exact hq.trans ((if_neg c1).trans ((if_neg c2).trans ((if_neg c3).trans ((if_neg c4).trans ((if_neg c5).trans ((if_neg c6).trans ((if_neg c7).trans ((if_neg c8).trans ((if_neg c9).trans ((if_pos c10).trans rfl)))))))))))
          exact retWi (x := nI (gN ((f_Mo_fails y 1 u).2) 1)) hx hb hr hP hK hD hS (congrArg Prod.fst hE).symm (congrArg Prod.snd hE).symm d_Mo_count_152 hlocks
        by_cases c11 : q = 9
        · skip
          refine lv_tableIn (off := 100) (tgt := 153) hx hb d_Mo_count_53 (by rw [c11]; decide) (by rw [c11]; decide) (by rw [c11]; decide) (by decide) ?_
          refine lv_iload_n hx hb d_Mo_count_153 rfl (lv_at hl 0 rfl) ?_
          have hE : res = (tot, (f_Mo_fails y 1 u).2) := (by subst etot; subst ho29; subst ey; exact hq.trans ((if_neg c1).trans ((if_neg c2).trans ((if_neg c3).trans ((if_neg c4).trans ((if_neg c5).trans ((if_neg c6).trans ((if_neg c7).trans ((if_neg c8).trans ((if_neg c9).trans ((if_neg c10).trans ((if_pos c11).trans rfl))))))))))))
          exact retWi (x := tot) hx hb hr hP hK hD hS (congrArg Prod.fst hE).symm (congrArg Prod.snd hE).symm d_Mo_count_154 hlocks
        have nc2 := lv_neT c2 (a := 0) (by decide)
        have nc3 := lv_neT c3 (a := 1) (by decide)
        have nc4 := lv_neT c4 (a := 2) (by decide)
        have nc5 := lv_neT c5 (a := 3) (by decide)
        have nc6 := lv_neT c6 (a := 4) (by decide)
        have nc7 := lv_neT c7 (a := 5) (by decide)
        have nc8 := lv_neT c8 (a := 6) (by decide)
        have nc9 := lv_neT c9 (a := 7) (by decide)
        have nc10 := lv_neT c10 (a := 8) (by decide)
        have nc11 := lv_neT c11 (a := 9) (by decide)
        refine lv_tableOut (tgt := 155) hx hb d_Mo_count_53 (by omega) (by decide) ?_
        refine lv_aload_n hx hb d_Mo_count_155 rfl (lv_at hl 1 rfl) ?_
        refine va_get (D := (dC, dI)) (ci := 8) (v := .int (nI (gN ((f_Mo_fails y 1 u).2) 5))) (C := R_Mo) (T := F_Mo) (N := 31) hx hb hts in_Mo hown hK hP 0 rfl rfl 24 (by decide) (hts _ m_14_14) (fun _ h9 => h9) rfl d_Mo_count_156 ?_
        have hE : res = (nI (gN ((f_Mo_fails y 1 u).2) 5), (f_Mo_fails y 1 u).2) := (by subst etot; subst ho29; subst ey; exact hq.trans ((if_neg c1).trans ((if_neg c2).trans ((if_neg c3).trans ((if_neg c4).trans ((if_neg c5).trans ((if_neg c6).trans ((if_neg c7).trans ((if_neg c8).trans ((if_neg c9).trans ((if_neg c10).trans ((if_neg c11).trans rfl))))))))))))
        exact retWi (x := nI (gN ((f_Mo_fails y 1 u).2) 5)) hx hb hr hP hK hD hS (congrArg Prod.fst hE).symm (congrArg Prod.snd hE).symm d_Mo_count_159 hlocks
      have L29 : ∀ (k : Nat) (i : Nat) (v : Int32) (H : Heap) (locs : List Loc) (ls : Array Slot), (i ≤ gN u 0) → (gN u 0 - i) < k → o29 = f_Mo_count_29 q u y k i v → va_P (dC, dI) classes (wM cI cZ ad ((f_Mo_fails y 1 u).2)) H → va_D A (wM cI cZ ad ((f_Mo_fails y 1 u).2)) → va_S A s.heap H locs → lv_has ls 4 [(3, .int (nI i)), (2, .int v), (0, .ref (ad 0)), (1, .int q)] → W p l e (headSpec w_Mo_count rm_Mo_count).room s m ([.ref (ad 0), .int q] : List Value).toArray below meth c H locs 0 0 (MQ below (QWi (dC, dI) classes [(cI, .int), (cZ, .boolean)] (wM cI cZ ad) A res.1 res.2) ([.ref (ad 0), .int q] : List Value).toArray s 0 0 A) (F0 m 29 ls []) := by
        intro k
        induction k with
        | zero => intro i v H locs ls hi hm; exact absurd hm (Nat.not_lt_zero _)
        | succ k29 ih29 =>
          intro i v H locs ls hi hm hq29 hP hD hS hl
          have e0 : gN (f_Mo_fails y 1 u).2 0 = gN u 0 := rfl
          refine lv_iload_n hx hb d_Mo_count_29 rfl (lv_at hl 0 rfl) ?_
          refine lv_aload_n hx hb d_Mo_count_30 rfl (lv_at hl 2 rfl) ?_
          refine va_get (D := (dC, dI)) (ci := 8) (v := .int (nI (gN ((f_Mo_fails y 1 u).2) 0))) (C := R_Mo) (T := F_Mo) (N := 31) hx hb hts in_Mo hown hK hP 0 rfl rfl 16 (by decide) (hts _ m_14_6) (fun _ h9 => h9) rfl d_Mo_count_31 ?_
          refine rn_ge (tgt := 52) hx hb (by omega) (by omega) d_Mo_count_34 (by decide) (fun c12 => ?_) (fun c12 => ?_)
          · skip
            exact K29 v _ _ _ (Eq.symm (hq29.trans ((if_neg (Nat.not_lt.mpr c12)).trans rfl))) hP hD hS (lv_sub hl [1, 2, 3] rfl)
          · skip
            refine lv_iload_n hx hb d_Mo_count_37 rfl (lv_at hl 1 rfl) ?_
            refine lv_aload_n hx hb d_Mo_count_38 rfl (lv_at hl 2 rfl) ?_
            refine va_get (D := (dC, dI)) (ci := 8) (v := .ref (ad 8)) (C := R_Mo) (T := F_Mo) (N := 31) hx hb hts in_Mo hown hK hP 0 rfl rfl 13 (by decide) (hts _ m_14_3) (fun _ h9 => h9) rfl d_Mo_count_39 ?_
            refine lv_iload_n hx hb d_Mo_count_42 rfl (lv_at hl 0 rfl) ?_
            refine aldM_length (u := ((f_Mo_fails y 1 u).2)) (v := aN ((f_Mo_fails y 1 u).2) 1 i) hx hb hK hP (by omega) rfl d_Mo_count_43 ?_
            refine lv_iadd hx hb d_Mo_count_44 ?_
            refine lv_istore_n (lv' := [(2, .int (v + (nI (aN ((f_Mo_fails y 1 u).2) 1 i)))), (3, .int (nI i)), (0, .ref (ad 0)), (1, .int q)]) hx hb d_Mo_count_45 rfl hl (by decide) rfl (fun ls hl => ?_)
            refine lv_iinc (v := nI (i + 1)) (lv' := [(3, .int (nI (i + 1))), (2, .int (v + (nI (aN ((f_Mo_fails y 1 u).2) 1 i)))), (0, .ref (ad 0)), (1, .int q)]) hx hb d_Mo_count_46 hl (k := 1) rfl (rn_inc i 1 (by decide)) (by decide) rfl (fun ls hl => ?_)
            refine lv_goto (tgt := 29) hx hb d_Mo_count_49 (by decide) ?_
            exact ih29 (i + 1) (v + (nI (aN ((f_Mo_fails y 1 u).2) 1 i))) _ _ _ (by first | assumption | omega) (by omega) (hq29.trans ((if_pos c12).trans rfl)) hP hD hS (lv_sub hl [0, 1, 2, 3] rfl)
      exact L29 (gN u 0 + 1) 0 0 _ _ _ (by first | assumption | omega) (by omega) (ho29) hP hD hS (lv_sub hl [0, 1, 2, 3] rfl)
    · skip
      refine lv_iconst (v := 0) hx hb d_Mo_count_23 (by decide) ?_
      have hE : res = (0, (f_Mo_fails y 1 u).2) := (by subst ey; exact hq.trans ((if_pos c1).trans rfl))
      exact retWi (x := 0) hx hb hr hP hK hD hS (congrArg Prod.fst hE).symm (congrArg Prod.snd hE).symm d_Mo_count_24 hlocks
  refine lv_if_lt (tgt := 11) hx hb d_Mo_count_2 (by decide) (fun c13 => ?_) (fun c13 => ?_)
  · skip
    refine lv_iconst (v := 1) hx hb d_Mo_count_11 (by decide) ?_
    refine lv_goto (tgt := 16) hx hb d_Mo_count_12 (by decide) ?_
    exact J16 true _ _ (Eq.symm ((if_pos c13).trans (rfl))) hP hD hS
  · skip
    refine lv_iload_n hx hb d_Mo_count_5 rfl (lv_at hl 1 rfl) ?_
    refine lv_bipush (v := 10) hx hb d_Mo_count_6 (by decide) ?_
    refine lv_icmp_le (tgt := 15) hx hb d_Mo_count_8 (by decide) (fun c14 => ?_) (fun c14 => ?_)
    · skip
      refine lv_iconst (v := 0) hx hb d_Mo_count_15 (by decide) ?_
      exact J16 false _ _ (Eq.symm ((if_neg c13).trans ((if_pos c14).trans (rfl)))) hP hD hS
    · skip
      refine lv_iconst (v := 1) hx hb d_Mo_count_11 (by decide) ?_
      refine lv_goto (tgt := 16) hx hb d_Mo_count_12 (by decide) ?_
      exact J16 true _ _ (Eq.symm ((if_neg c13).trans ((if_neg c14).trans (rfl)))) hP hD hS
def w_Mo_run : List Cond := .code y_Mo_run b_Mo_run 3 (some .int) :: ALLW
def rm_Mo_run : Room := { frames := 26, cells := 0, slots := 0, locals := 752 }
theorem d_Mo_run_0 : decode b_Mo_run 0 = .ok (.aload_n 0, 1) := by decide +kernel
theorem d_Mo_run_1 : decode b_Mo_run 1 = .ok (.iload_n 1, 1) := by decide +kernel
theorem d_Mo_run_2 : decode b_Mo_run 2 = .ok (.ifCond .lt 9, 3) := by decide +kernel
theorem d_Mo_run_5 : decode b_Mo_run 5 = .ok (.iload_n 1, 1) := by decide +kernel
theorem d_Mo_run_6 : decode b_Mo_run 6 = .ok (.ldc 115, 2) := by decide +kernel
theorem d_Mo_run_8 : decode b_Mo_run 8 = .ok (.if_icmp .le 7, 3) := by decide +kernel
theorem d_Mo_run_11 : decode b_Mo_run 11 = .ok (.iconst 1, 1) := by decide +kernel
theorem d_Mo_run_12 : decode b_Mo_run 12 = .ok (.goto 4, 3) := by decide +kernel
theorem d_Mo_run_15 : decode b_Mo_run 15 = .ok (.iconst 0, 1) := by decide +kernel
theorem d_Mo_run_16 : decode b_Mo_run 16 = .ok (.iconst 1, 1) := by decide +kernel
theorem d_Mo_run_17 : decode b_Mo_run 17 = .ok (.invokevirtual 74, 3) := by decide +kernel
theorem d_Mo_run_20 : decode b_Mo_run 20 = .ok (.ifCond .eq 5, 3) := by decide +kernel
theorem d_Mo_run_23 : decode b_Mo_run 23 = .ok (.iconst 0, 1) := by decide +kernel
theorem d_Mo_run_24 : decode b_Mo_run 24 = .ok (.ireturn, 1) := by decide +kernel
theorem d_Mo_run_25 : decode b_Mo_run 25 = .ok (.iconst 0, 1) := by decide +kernel
theorem d_Mo_run_26 : decode b_Mo_run 26 = .ok (.istore_n 2, 1) := by decide +kernel
theorem d_Mo_run_27 : decode b_Mo_run 27 = .ok (.iload_n 2, 1) := by decide +kernel
theorem d_Mo_run_28 : decode b_Mo_run 28 = .ok (.iload_n 1, 1) := by decide +kernel
theorem d_Mo_run_29 : decode b_Mo_run 29 = .ok (.if_icmp .ge 20, 3) := by decide +kernel
theorem d_Mo_run_32 : decode b_Mo_run 32 = .ok (.aload_n 0, 1) := by decide +kernel
theorem d_Mo_run_33 : decode b_Mo_run 33 = .ok (.getfield 85, 3) := by decide +kernel
theorem d_Mo_run_36 : decode b_Mo_run 36 = .ok (.ifCond .ne 13, 3) := by decide +kernel
theorem d_Mo_run_39 : decode b_Mo_run 39 = .ok (.aload_n 0, 1) := by decide +kernel
theorem d_Mo_run_40 : decode b_Mo_run 40 = .ok (.invokevirtual 116, 3) := by decide +kernel
theorem d_Mo_run_43 : decode b_Mo_run 43 = .ok (.iinc 2 1, 3) := by decide +kernel
theorem d_Mo_run_46 : decode b_Mo_run 46 = .ok (.goto (-19), 3) := by decide +kernel
theorem d_Mo_run_49 : decode b_Mo_run 49 = .ok (.aload_n 0, 1) := by decide +kernel
theorem d_Mo_run_50 : decode b_Mo_run 50 = .ok (.getfield 85, 3) := by decide +kernel
theorem d_Mo_run_53 : decode b_Mo_run 53 = .ok (.ireturn, 1) := by decide +kernel
def f_Mo_run_27 (n : Int32) (u : S5) : Nat → Nat → S5 → (Int32 × S5)
  | 0, i, u1 => (0, u1)
  | k27 + 1, i, u1 => if i < n.toNatClampNeg then (if (gI u1 2) = 0 then f_Mo_run_27 n u k27 (i + 1) (f_Mo_one u1) else (gI u1 2, u1)) else (gI u1 2, u1)
def f_Mo_run (n : Int32) (u : S5) : Int32 × S5 := let y : Bool := if n < 0 then true else if n ≤ 100000 then false else true; if ((f_Mo_fails y 1 u).1) = true then (0, (f_Mo_fails y 1 u).2) else f_Mo_run_27 n u (n.toNatClampNeg + 1) 0 ((f_Mo_fails y 1 u).2)
set_option maxHeartbeats 8000000 in
set_option maxRecDepth 100000 in
theorem c_Mo_run (l : Launch) (dC : Nat → ClassId) (dI : Nat → Nat → Nat) (cI cZ : ClassId) (ad : Nat → Nat) (u : S5) (n : Int32) (Iv : S5 → Prop) (hI0 : Iv (sI u 0 0)) (hI1 : ∀ v, Iv v → OkE v ∧ OkK v ∧ OkQ v) (hI2 : ∀ v, Iv v → gI v 2 = 0 → Iv (f_Mo_one v)) (sz : Nat) : Met l y_Mo_run w_Mo_run rm_Mo_run (PreW (dC, dI) classes [(cI, .int), (cZ, .boolean)] (wM cI cZ ad) u sz [.ref (ad 0), .int n]) (QWi (dC, dI) classes [(cI, .int), (cZ, .boolean)] (wM cI cZ ad) (va_A (wM cI cZ ad u) sz) (f_Mo_run n u).1 (f_Mo_run n u).2) 0 0 (va_A (wM cI cZ ad u) sz) := by
  generalize hres : f_Mo_run n u = res
  refine Met.ofW (cc := b_Mo_run) (maxL := 3) (ret := (some .int)) (by decide) rfl ?_
  intro p e s m args below meth c s₁ B hml hv
  obtain ⟨rfl, rfl, hP, hK, hD0⟩ := hv
  have hx := B.exec
  have hb := B.bytes
  have hr := B.returns
  have hts : ∀ w9 ∈ ALLW, w9.before ([.ref (ad 0), .int n] : List Value).toArray s = true := fun w9 h => atoms_spec (ws := w_Mo_run) B.pre w9 (List.mem_cons_of_mem _ h)
  have hown : s.vm.findClass R_Mo = some m.cls := findClass_of_methodNamed B.named
  have hlocks := B.notSynchronized
  have hD := hD0.self (sz := s.heap.size)
  generalize hAe : va_A (wM cI cZ ad u) s.heap.size = A at hD ⊢
  have hA : ∀ q : Nat, s.heap.size ≤ q → A q := fun q h => by rw [← hAe]; exact Or.inr h
  have hS : va_S A s.heap s.heap [] := va_S.rf
  have hl := lv_entry ([.ref (ad 0), .int n]) (n := 3) (Nat.le_of_ble_eq_true rfl)
  rw [lg_entry_eq]
  generalize (lg_sl ([.ref (ad 0), .int n]) ++ List.replicate (3 - (lg_sl ([.ref (ad 0), .int n])).length) Slot.unset).toArray = ls at hl ⊢
  have hl : lv_has ls 3 [(0, .ref (ad 0)), (1, .int n)] := hl
  have hq := hres.symm
  skip
  refine lv_aload_n hx hb d_Mo_run_0 rfl (lv_at hl 0 rfl) ?_
  refine lv_iload_n hx hb d_Mo_run_1 rfl (lv_at hl 1 rfl) ?_
  have J16 : ∀ (y : Bool) (H : Heap) (locs : List Loc), y = (if n < 0 then true else if n ≤ 100000 then false else true) → va_P (dC, dI) classes (wM cI cZ ad u) H → va_D A (wM cI cZ ad u) → va_S A s.heap H locs → W p l e (headSpec w_Mo_run rm_Mo_run).room s m ([.ref (ad 0), .int n] : List Value).toArray below meth c H locs 0 0 (MQ below (QWi (dC, dI) classes [(cI, .int), (cZ, .boolean)] (wM cI cZ ad) A res.1 res.2) ([.ref (ad 0), .int n] : List Value).toArray s 0 0 A) (F0 m 16 ls [.int (b2i y), .ref (ad 0)]) := by
    intro y H locs ey hP hD hS
    refine lv_iconst (v := 1) hx hb d_Mo_run_16 (by decide) ?_
    refine callWi (va_runV (As := [.int (b2i y), .int 1]) (rest := []) ⟨hx, hb, hml, hown, hts⟩ (c_Mo_fails l dC dI cI cZ ad u y 1 H.size) (cwV 2 hts (goodV m_15_21 m_15_22 m_19_15 m_0_12 m_15_23) rfl rfl rfl (by decide +kernel) ⟨Nat.le_of_ble_eq_true rfl, Nat.le_of_ble_eq_true rfl⟩) ⟨preW_blind, va_recv hK hP (ci := 8) (q0 := 0) rfl rfl, preW_ok hP hD hK⟩ rfl rfl hl.1 rfl (lv_room (Nat.le_of_ble_eq_true rfl)) d_Mo_run_17 ⟨Nat.zero_le _, Nat.zero_le _⟩) hP hD hS hA (fun H locs hP hD hS => ?_)
    refine rb_eq (tgt := 25) hx hb d_Mo_run_20 (by decide) (fun c1 => ?_) (fun c1 => ?_)
    · skip
      have hy0 : ¬ y = true := by assumption
      have c1 : ¬ n < 0 := fun h => hy0 (by rw [ey, if_pos h])
      have c2 : n ≤ 100000 := Decidable.not_not.mp (fun h => hy0 (by rw [ey, if_neg c1, if_neg h]))
      have hn1 : n.toNatClampNeg ≤ 100000 := hp_nle (by decide) (by decide) c1 c2
      have hIs : Iv (f_Mo_fails y 1 u).2 := by rw [fl_0 1 u hy0]; exact hI0
      refine lv_iconst (v := nI 0) hx hb d_Mo_run_25 (by decide) ?_
      refine lv_istore_n (lv' := [(2, .int (nI 0)), (0, .ref (ad 0)), (1, .int n)]) hx hb d_Mo_run_26 rfl hl (by decide) rfl (fun ls hl => ?_)
      have L27 : ∀ (k : Nat) (i : Nat) (u1 : S5) (H : Heap) (locs : List Loc) (ls : Array Slot), (i ≤ n.toNatClampNeg) → (Iv u1) → (n.toNatClampNeg - i) < k → res = f_Mo_run_27 n u k i u1 → va_P (dC, dI) classes (wM cI cZ ad u1) H → va_D A (wM cI cZ ad u1) → va_S A s.heap H locs → lv_has ls 3 [(2, .int (nI i)), (0, .ref (ad 0)), (1, .int n)] → W p l e (headSpec w_Mo_run rm_Mo_run).room s m ([.ref (ad 0), .int n] : List Value).toArray below meth c H locs 0 0 (MQ below (QWi (dC, dI) classes [(cI, .int), (cZ, .boolean)] (wM cI cZ ad) A res.1 res.2) ([.ref (ad 0), .int n] : List Value).toArray s 0 0 A) (F0 m 27 ls []) := by
        intro k
        induction k with
        | zero => intro i u1 H locs ls hi hI hm; exact absurd hm (Nat.not_lt_zero _)
        | succ k27 ih27 =>
          intro i u1 H locs ls hi hI hm hq27 hP hD hS hl
          obtain ⟨ie, ik, iq⟩ := hI1 u1 hI
          refine lv_iload_n hx hb d_Mo_run_27 rfl (lv_at hl 0 rfl) ?_
          refine lv_iload_n hx hb d_Mo_run_28 rfl (lv_at hl 2 rfl) ?_
          refine rw_top (y := nI n.toNatClampNeg) (hp_n c1) ?_
          refine rn_ge (tgt := 49) hx hb (by omega) (by omega) d_Mo_run_29 (by decide) (fun c2 => ?_) (fun c2 => ?_)
          · skip
            refine lv_aload_n hx hb d_Mo_run_49 rfl (lv_at hl 1 rfl) ?_
            refine va_get (D := (dC, dI)) (ci := 8) (v := .int (gI u1 2)) (C := R_Mo) (T := F_Mo) (N := 31) hx hb hts in_Mo hown hK hP 0 rfl rfl 8 (by decide) (hts _ m_13_38) (fun _ h9 => h9) rfl d_Mo_run_50 ?_
            have hE : res = (gI u1 2, u1) := hq27.trans ((if_neg (Nat.not_lt.mpr c2)).trans rfl)
            exact retWi (x := gI u1 2) hx hb hr hP hK hD hS (congrArg Prod.fst hE).symm (congrArg Prod.snd hE).symm d_Mo_run_53 hlocks
          · skip
            refine lv_aload_n hx hb d_Mo_run_32 rfl (lv_at hl 1 rfl) ?_
            refine va_get (D := (dC, dI)) (ci := 8) (v := .int (gI u1 2)) (C := R_Mo) (T := F_Mo) (N := 31) hx hb hts in_Mo hown hK hP 0 rfl rfl 8 (by decide) (hts _ m_13_38) (fun _ h9 => h9) rfl d_Mo_run_33 ?_
            refine lv_if_ne (tgt := 49) hx hb d_Mo_run_36 (by decide) (fun c3 => ?_) (fun c3 => ?_)
            · skip
              refine lv_aload_n hx hb d_Mo_run_49 rfl (lv_at hl 1 rfl) ?_
              refine va_get (D := (dC, dI)) (ci := 8) (v := .int (gI u1 2)) (C := R_Mo) (T := F_Mo) (N := 31) hx hb hts in_Mo hown hK hP 0 rfl rfl 8 (by decide) (hts _ m_13_38) (fun _ h9 => h9) rfl d_Mo_run_50 ?_
              have hE : res = (gI u1 2, u1) := hq27.trans ((if_pos c2).trans ((if_neg c3).trans rfl))
              exact retWi (x := gI u1 2) hx hb hr hP hK hD hS (congrArg Prod.fst hE).symm (congrArg Prod.snd hE).symm d_Mo_run_53 hlocks
            · skip
              refine lv_aload_n hx hb d_Mo_run_39 rfl (lv_at hl 1 rfl) ?_
              refine callWv (va_runV (As := []) (rest := []) ⟨hx, hb, hml, hown, hts⟩ (c_Mo_one l dC dI cI cZ ad u1 ie ik iq H.size) (cwV 0 hts (goodV m_15_34 m_15_35 m_19_16 m_0_12 m_15_36) rfl rfl rfl (by decide +kernel) ⟨Nat.le_of_ble_eq_true rfl, Nat.le_of_ble_eq_true rfl⟩) ⟨preW_blind, va_recv hK hP (ci := 8) (q0 := 0) rfl rfl, preW_ok hP hD hK⟩ rfl rfl hl.1 rfl (lv_room (Nat.le_of_ble_eq_true rfl)) d_Mo_run_40 ⟨Nat.zero_le _, Nat.zero_le _⟩) hP hD hS hA (fun H locs hP hD hS => ?_)
              refine lv_iinc (v := nI (i + 1)) (lv' := [(2, .int (nI (i + 1))), (0, .ref (ad 0)), (1, .int n)]) hx hb d_Mo_run_43 hl (k := 0) rfl (rn_inc i 1 (by decide)) (by decide) rfl (fun ls hl => ?_)
              refine lv_goto (tgt := 27) hx hb d_Mo_run_46 (by decide) ?_
              exact ih27 (i + 1) (f_Mo_one u1) _ _ _ (by first | assumption | omega) (hI2 u1 hI (by assumption)) (by omega) (hq27.trans ((if_pos c2).trans ((if_pos c3).trans rfl))) hP hD hS (lv_sub hl [0, 1, 2] rfl)
      exact L27 (n.toNatClampNeg + 1) 0 ((f_Mo_fails y 1 u).2) _ _ _ (by first | assumption | omega) hIs (by omega) ((by subst ey; exact hq.trans ((if_neg c1).trans rfl))) hP hD hS (lv_sub hl [0, 1, 2] rfl)
    · skip
      refine lv_iconst (v := 0) hx hb d_Mo_run_23 (by decide) ?_
      have hE : res = (0, (f_Mo_fails y 1 u).2) := (by subst ey; exact hq.trans ((if_pos c1).trans rfl))
      exact retWi (x := 0) hx hb hr hP hK hD hS (congrArg Prod.fst hE).symm (congrArg Prod.snd hE).symm d_Mo_run_24 hlocks
  refine lv_if_lt (tgt := 11) hx hb d_Mo_run_2 (by decide) (fun c4 => ?_) (fun c4 => ?_)
  · skip
    refine lv_iconst (v := 1) hx hb d_Mo_run_11 (by decide) ?_
    refine lv_goto (tgt := 16) hx hb d_Mo_run_12 (by decide) ?_
    exact J16 true _ _ (Eq.symm ((if_pos c4).trans (rfl))) hP hD hS
  · skip
    refine lv_iload_n hx hb d_Mo_run_5 rfl (lv_at hl 1 rfl) ?_
    refine lv_ldc (v := 100000) hx hb hown (hts _ m_15_33) d_Mo_run_6 ?_
    refine lv_icmp_le (tgt := 15) hx hb d_Mo_run_8 (by decide) (fun c5 => ?_) (fun c5 => ?_)
    · skip
      refine lv_iconst (v := 0) hx hb d_Mo_run_15 (by decide) ?_
      exact J16 false _ _ (Eq.symm ((if_neg c4).trans ((if_pos c5).trans (rfl)))) hP hD hS
    · skip
      refine lv_iconst (v := 1) hx hb d_Mo_run_11 (by decide) ?_
      refine lv_goto (tgt := 16) hx hb d_Mo_run_12 (by decide) ?_
      exact J16 true _ _ (Eq.symm ((if_neg c4).trans ((if_neg c5).trans (rfl)))) hP hD hS
