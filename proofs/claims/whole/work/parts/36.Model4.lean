def w_Mo_block : List Cond := .code y_Mo_block b_Mo_block 6 (some .int) :: ALLW
def rm_Mo_block : Room := { frames := 22, cells := 0, slots := 0, locals := 643 }
theorem d_Mo_block_0 : decode b_Mo_block 0 = .ok (.iload_n 1, 1) := by decide +kernel
theorem d_Mo_block_1 : decode b_Mo_block 1 = .ok (.ifCond .lt 10, 3) := by decide +kernel
theorem d_Mo_block_4 : decode b_Mo_block 4 = .ok (.iload_n 1, 1) := by decide +kernel
theorem d_Mo_block_5 : decode b_Mo_block 5 = .ok (.sipush 16384, 3) := by decide +kernel
theorem d_Mo_block_8 : decode b_Mo_block 8 = .ok (.if_icmp .le 5, 3) := by decide +kernel
theorem d_Mo_block_11 : decode b_Mo_block 11 = .ok (.iconst 0, 1) := by decide +kernel
theorem d_Mo_block_12 : decode b_Mo_block 12 = .ok (.ireturn, 1) := by decide +kernel
theorem d_Mo_block_13 : decode b_Mo_block 13 = .ok (.iload_n 1, 1) := by decide +kernel
theorem d_Mo_block_14 : decode b_Mo_block 14 = .ok (.invokestatic 203, 3) := by decide +kernel
theorem d_Mo_block_17 : decode b_Mo_block 17 = .ok (.istore_n 2, 1) := by decide +kernel
theorem d_Mo_block_18 : decode b_Mo_block 18 = .ok (.ldc 206, 2) := by decide +kernel
theorem d_Mo_block_20 : decode b_Mo_block 20 = .ok (.istore_n 3, 1) := by decide +kernel
theorem d_Mo_block_21 : decode b_Mo_block 21 = .ok (.iload_n 3, 1) := by decide +kernel
theorem d_Mo_block_22 : decode b_Mo_block 22 = .ok (.iload_n 2, 1) := by decide +kernel
theorem d_Mo_block_23 : decode b_Mo_block 23 = .ok (.iadd, 1) := by decide +kernel
theorem d_Mo_block_24 : decode b_Mo_block 24 = .ok (.bipush 16, 2) := by decide +kernel
theorem d_Mo_block_26 : decode b_Mo_block 26 = .ok (.iadd, 1) := by decide +kernel
theorem d_Mo_block_27 : decode b_Mo_block 27 = .ok (.ldc 81, 2) := by decide +kernel
theorem d_Mo_block_29 : decode b_Mo_block 29 = .ok (.if_icmp .gt 122, 3) := by decide +kernel
theorem d_Mo_block_32 : decode b_Mo_block 32 = .ok (.iload_n 3, 1) := by decide +kernel
theorem d_Mo_block_33 : decode b_Mo_block 33 = .ok (.bipush 16, 2) := by decide +kernel
theorem d_Mo_block_35 : decode b_Mo_block 35 = .ok (.isub, 1) := by decide +kernel
theorem d_Mo_block_36 : decode b_Mo_block 36 = .ok (.ldc 206, 2) := by decide +kernel
theorem d_Mo_block_38 : decode b_Mo_block 38 = .ok (.if_icmp .lt 107, 3) := by decide +kernel
theorem d_Mo_block_41 : decode b_Mo_block 41 = .ok (.aload_n 0, 1) := by decide +kernel
theorem d_Mo_block_42 : decode b_Mo_block 42 = .ok (.iload_n 3, 1) := by decide +kernel
theorem d_Mo_block_43 : decode b_Mo_block 43 = .ok (.bipush 16, 2) := by decide +kernel
theorem d_Mo_block_45 : decode b_Mo_block 45 = .ok (.isub, 1) := by decide +kernel
theorem d_Mo_block_46 : decode b_Mo_block 46 = .ok (.iload_n 3, 1) := by decide +kernel
theorem d_Mo_block_47 : decode b_Mo_block 47 = .ok (.iload_n 2, 1) := by decide +kernel
theorem d_Mo_block_48 : decode b_Mo_block 48 = .ok (.iadd, 1) := by decide +kernel
theorem d_Mo_block_49 : decode b_Mo_block 49 = .ok (.bipush 16, 2) := by decide +kernel
theorem d_Mo_block_51 : decode b_Mo_block 51 = .ok (.iadd, 1) := by decide +kernel
theorem d_Mo_block_52 : decode b_Mo_block 52 = .ok (.invokevirtual 207, 3) := by decide +kernel
theorem d_Mo_block_55 : decode b_Mo_block 55 = .ok (.ifCond .eq 6, 3) := by decide +kernel
theorem d_Mo_block_58 : decode b_Mo_block 58 = .ok (.goto 87, 3) := by decide +kernel
theorem d_Mo_block_61 : decode b_Mo_block 61 = .ok (.aload_n 0, 1) := by decide +kernel
theorem d_Mo_block_62 : decode b_Mo_block 62 = .ok (.getfield 31, 3) := by decide +kernel
theorem d_Mo_block_65 : decode b_Mo_block 65 = .ok (.aload_n 0, 1) := by decide +kernel
theorem d_Mo_block_66 : decode b_Mo_block 66 = .ok (.getfield 97, 3) := by decide +kernel
theorem d_Mo_block_69 : decode b_Mo_block 69 = .ok (.iload_n 3, 1) := by decide +kernel
theorem d_Mo_block_70 : decode b_Mo_block 70 = .ok (.iastore, 1) := by decide +kernel
theorem d_Mo_block_71 : decode b_Mo_block 71 = .ok (.aload_n 0, 1) := by decide +kernel
theorem d_Mo_block_72 : decode b_Mo_block 72 = .ok (.getfield 34, 3) := by decide +kernel
theorem d_Mo_block_75 : decode b_Mo_block 75 = .ok (.aload_n 0, 1) := by decide +kernel
theorem d_Mo_block_76 : decode b_Mo_block 76 = .ok (.dup, 1) := by decide +kernel
theorem d_Mo_block_77 : decode b_Mo_block 77 = .ok (.getfield 97, 3) := by decide +kernel
theorem d_Mo_block_80 : decode b_Mo_block 80 = .ok (.dup_x1, 1) := by decide +kernel
theorem d_Mo_block_81 : decode b_Mo_block 81 = .ok (.iconst 1, 1) := by decide +kernel
theorem d_Mo_block_82 : decode b_Mo_block 82 = .ok (.iadd, 1) := by decide +kernel
theorem d_Mo_block_83 : decode b_Mo_block 83 = .ok (.putfield 97, 3) := by decide +kernel
theorem d_Mo_block_86 : decode b_Mo_block 86 = .ok (.iload_n 1, 1) := by decide +kernel
theorem d_Mo_block_87 : decode b_Mo_block 87 = .ok (.iastore, 1) := by decide +kernel
theorem d_Mo_block_88 : decode b_Mo_block 88 = .ok (.iload_n 3, 1) := by decide +kernel
theorem d_Mo_block_89 : decode b_Mo_block 89 = .ok (.istore 4, 2) := by decide +kernel
theorem d_Mo_block_91 : decode b_Mo_block 91 = .ok (.iload 4, 2) := by decide +kernel
theorem d_Mo_block_93 : decode b_Mo_block 93 = .ok (.iload_n 3, 1) := by decide +kernel
theorem d_Mo_block_94 : decode b_Mo_block 94 = .ok (.iload_n 1, 1) := by decide +kernel
theorem d_Mo_block_95 : decode b_Mo_block 95 = .ok (.iadd, 1) := by decide +kernel
theorem d_Mo_block_96 : decode b_Mo_block 96 = .ok (.if_icmp .ge 47, 3) := by decide +kernel
theorem d_Mo_block_99 : decode b_Mo_block 99 = .ok (.aload_n 0, 1) := by decide +kernel
theorem d_Mo_block_100 : decode b_Mo_block 100 = .ok (.getfield 20, 3) := by decide +kernel
theorem d_Mo_block_103 : decode b_Mo_block 103 = .ok (.iload 4, 2) := by decide +kernel
theorem d_Mo_block_105 : decode b_Mo_block 105 = .ok (.iconst 1, 1) := by decide +kernel
theorem d_Mo_block_106 : decode b_Mo_block 106 = .ok (.bastore, 1) := by decide +kernel
theorem d_Mo_block_107 : decode b_Mo_block 107 = .ok (.iconst 0, 1) := by decide +kernel
theorem d_Mo_block_108 : decode b_Mo_block 108 = .ok (.istore 5, 2) := by decide +kernel
theorem d_Mo_block_110 : decode b_Mo_block 110 = .ok (.iload 5, 2) := by decide +kernel
theorem d_Mo_block_112 : decode b_Mo_block 112 = .ok (.bipush 8, 2) := by decide +kernel
theorem d_Mo_block_114 : decode b_Mo_block 114 = .ok (.if_icmp .ge 23, 3) := by decide +kernel
theorem d_Mo_block_117 : decode b_Mo_block 117 = .ok (.aload_n 0, 1) := by decide +kernel
theorem d_Mo_block_118 : decode b_Mo_block 118 = .ok (.getfield 25, 3) := by decide +kernel
theorem d_Mo_block_121 : decode b_Mo_block 121 = .ok (.bipush 8, 2) := by decide +kernel
theorem d_Mo_block_123 : decode b_Mo_block 123 = .ok (.iload 4, 2) := by decide +kernel
theorem d_Mo_block_125 : decode b_Mo_block 125 = .ok (.imul, 1) := by decide +kernel
theorem d_Mo_block_126 : decode b_Mo_block 126 = .ok (.iload 5, 2) := by decide +kernel
theorem d_Mo_block_128 : decode b_Mo_block 128 = .ok (.iadd, 1) := by decide +kernel
theorem d_Mo_block_129 : decode b_Mo_block 129 = .ok (.iconst 1, 1) := by decide +kernel
theorem d_Mo_block_130 : decode b_Mo_block 130 = .ok (.bastore, 1) := by decide +kernel
theorem d_Mo_block_131 : decode b_Mo_block 131 = .ok (.iinc 5 1, 3) := by decide +kernel
theorem d_Mo_block_134 : decode b_Mo_block 134 = .ok (.goto (-24), 3) := by decide +kernel
theorem d_Mo_block_137 : decode b_Mo_block 137 = .ok (.iinc 4 1, 3) := by decide +kernel
theorem d_Mo_block_140 : decode b_Mo_block 140 = .ok (.goto (-49), 3) := by decide +kernel
theorem d_Mo_block_143 : decode b_Mo_block 143 = .ok (.iload_n 3, 1) := by decide +kernel
theorem d_Mo_block_144 : decode b_Mo_block 144 = .ok (.ireturn, 1) := by decide +kernel
theorem d_Mo_block_145 : decode b_Mo_block 145 = .ok (.iinc 3 16, 3) := by decide +kernel
theorem d_Mo_block_148 : decode b_Mo_block 148 = .ok (.goto (-127), 3) := by decide +kernel
theorem d_Mo_block_151 : decode b_Mo_block 151 = .ok (.iconst 0, 1) := by decide +kernel
theorem d_Mo_block_152 : decode b_Mo_block 152 = .ok (.ireturn, 1) := by decide +kernel
def f_Mo_block_110 (n : Int32) (u : S5) (at_ : Nat) (i : Nat) : Nat → Nat → S5 → S5
  | 0, j, u2 => u2
  | k110 + 1, j, u2 => if j < 8 then f_Mo_block_110 n u at_ i k110 (j + 1) (uB u2 1 (8 * i + j) true) else u2
def f_Mo_block_91 (n : Int32) (u : S5) (at_ : Nat) : Nat → Nat → S5 → (Nat × S5)
  | 0, i, u1 => (0, u1)
  | k91 + 1, i, u1 => if i < (at_ + n.toNatClampNeg) then (let v2 : S5 := f_Mo_block_110 n u at_ i 9 0 (uB u1 0 i true); f_Mo_block_91 n u at_ k91 (i + 1) v2) else (at_, u1)
def f_Mo_block_21 (n : Int32) (u : S5) : Nat → Nat → (Nat × S5)
  | 0, at_ => (0, u)
  | k21 + 1, at_ => if (at_ + (f_Mo_takes n.toNatClampNeg) + 16) ≤ 57344 then (if (at_ - 16) < 32768 then f_Mo_block_21 n u k21 (at_ + 16) else if (f_Mo_taken (at_ - 16) (at_ + (f_Mo_takes n.toNatClampNeg) + 16) u) = true then f_Mo_block_21 n u k21 (at_ + 16) else f_Mo_block_91 n u at_ (n.toNatClampNeg + 1) at_ (uN (sN (uN u 0 (gN u 0) at_) 0 (gN u 0 + 1)) 1 (gN u 0) n.toNatClampNeg)) else (0, u)
def f_Mo_block (n : Int32) (u : S5) : Nat × S5 := if n < 0 then (0, u) else if n ≤ 16384 then f_Mo_block_21 n u 1538 32768 else (0, u)
set_option maxHeartbeats 8000000 in
set_option maxRecDepth 100000 in
theorem c_Mo_block (l : Launch) (dC : Nat → ClassId) (dI : Nat → Nat → Nat) (cI cZ : ClassId) (ad : Nat → Nat) (u : S5) (n : Int32) (h0 : gN u 0 ≤ 798) (okl : OkL u) (sz : Nat) : Met l y_Mo_block w_Mo_block rm_Mo_block (PreW (dC, dI) classes [(cI, .int), (cZ, .boolean)] (wM cI cZ ad) u sz [.ref (ad 0), .int n]) (QWi (dC, dI) classes [(cI, .int), (cZ, .boolean)] (wM cI cZ ad) (va_A (wM cI cZ ad u) sz) (nI (f_Mo_block n u).1) (f_Mo_block n u).2) 0 0 (va_A (wM cI cZ ad u) sz) := by
  generalize hres : f_Mo_block n u = res
  refine Met.ofW (cc := b_Mo_block) (maxL := 6) (ret := (some .int)) (by decide) rfl ?_
  intro p e s m args below meth c s₁ B hml hv
  obtain ⟨rfl, rfl, hP, hK, hD0⟩ := hv
  have hx := B.exec
  have hb := B.bytes
  have hr := B.returns
  have hts : ∀ w9 ∈ ALLW, w9.before ([.ref (ad 0), .int n] : List Value).toArray s = true := fun w9 h => atoms_spec (ws := w_Mo_block) B.pre w9 (List.mem_cons_of_mem _ h)
  have hown : s.vm.findClass R_Mo = some m.cls := findClass_of_methodNamed B.named
  have hlocks := B.notSynchronized
  have hD := hD0.self (sz := s.heap.size)
  generalize hAe : va_A (wM cI cZ ad u) s.heap.size = A at hD ⊢
  have hA : ∀ q : Nat, s.heap.size ≤ q → A q := fun q h => by rw [← hAe]; exact Or.inr h
  have hS : va_S A s.heap s.heap [] := va_S.rf
  have hl := lv_entry ([.ref (ad 0), .int n]) (n := 6) (Nat.le_of_ble_eq_true rfl)
  rw [lg_entry_eq]
  generalize (lg_sl ([.ref (ad 0), .int n]) ++ List.replicate (6 - (lg_sl ([.ref (ad 0), .int n])).length) Slot.unset).toArray = ls at hl ⊢
  have hl : lv_has ls 6 [(0, .ref (ad 0)), (1, .int n)] := hl
  have hq := hres.symm
  skip
  obtain ⟨l0, l1, lA, lK⟩ := id okl
  refine lv_iload_n hx hb d_Mo_block_0 rfl (lv_at hl 1 rfl) ?_
  refine lv_if_lt (tgt := 11) hx hb d_Mo_block_1 (by decide) (fun c1 => ?_) (fun c1 => ?_)
  · skip
    refine lv_iconst (v := nI 0) hx hb d_Mo_block_11 (by decide) ?_
    have hE : res = (0, u) := hq.trans ((if_pos c1).trans rfl)
    exact retWn (x := 0) hx hb hr hP hK hD hS (congrArg Prod.fst hE).symm (congrArg Prod.snd hE).symm d_Mo_block_12 hlocks
  · skip
    refine lv_iload_n hx hb d_Mo_block_4 rfl (lv_at hl 1 rfl) ?_
    refine lv_sipush (v := 16384) hx hb d_Mo_block_5 (by decide) ?_
    refine lv_icmp_le (tgt := 13) hx hb d_Mo_block_8 (by decide) (fun c2 => ?_) (fun c2 => ?_)
    · skip
      refine lv_iload_n hx hb d_Mo_block_13 rfl (lv_at hl 1 rfl) ?_
      refine rw_top (y := nI n.toNatClampNeg) (hp_n c1) ?_
      have hn1 : n.toNatClampNeg ≤ 16384 := hp_nle (by decide) (by decide) c1 c2
      have ht := tk_b (n.toNatClampNeg)
      refine callPi (va_runS (As := [.int (nI n.toNatClampNeg)]) (rest := []) ⟨hx, hb, hml, hown, hts⟩ (c_Mo_takes l n.toNatClampNeg (by first | assumption | omega) s.heap.size) (va_cwS 1 hts (goodS m_17_29 m_17_30 m_0_12 m_17_31) rfl rfl rfl (by decide +kernel) ⟨Nat.le_of_ble_eq_true rfl, Nat.le_of_ble_eq_true rfl⟩) ⟨preP_blind, preP_ok⟩ rfl rfl hl.1 rfl (lv_room (Nat.le_of_ble_eq_true rfl)) d_Mo_block_14 ⟨Nat.zero_le _, Nat.zero_le _⟩) hP hS hA (fun H locs hP hS => ?_)
      refine lv_istore_n (lv' := [(2, .int (nI (f_Mo_takes n.toNatClampNeg))), (0, .ref (ad 0)), (1, .int n)]) hx hb d_Mo_block_17 rfl hl (by decide) rfl (fun ls hl => ?_)
      refine lv_ldc (v := 32768) hx hb hown (hts _ m_17_22) d_Mo_block_18 ?_
      refine rw_top (y := nI 32768) (by decide) ?_
      refine lv_istore_n (lv' := [(3, .int (nI 32768)), (2, .int (nI (f_Mo_takes n.toNatClampNeg))), (0, .ref (ad 0)), (1, .int n)]) hx hb d_Mo_block_20 rfl hl (by decide) rfl (fun ls hl => ?_)
      have L21 : ∀ (k : Nat) (at_ : Nat) (H : Heap) (locs : List Loc) (ls : Array Slot), (32768 ≤ at_ ∧ at_ ≤ 57360) → ((57360 - at_) / 16) < k → res = f_Mo_block_21 n u k at_ → va_P (dC, dI) classes (wM cI cZ ad u) H → va_D A (wM cI cZ ad u) → va_S A s.heap H locs → lv_has ls 6 [(3, .int (nI at_)), (2, .int (nI (f_Mo_takes n.toNatClampNeg))), (0, .ref (ad 0)), (1, .int n)] → W p l e (headSpec w_Mo_block rm_Mo_block).room s m ([.ref (ad 0), .int n] : List Value).toArray below meth c H locs 0 0 (MQ below (QWi (dC, dI) classes [(cI, .int), (cZ, .boolean)] (wM cI cZ ad) A (nI res.1) res.2) ([.ref (ad 0), .int n] : List Value).toArray s 0 0 A) (F0 m 21 ls []) := by
        intro k
        induction k with
        | zero => intro at_ H locs ls hat hm; exact absurd hm (Nat.not_lt_zero _)
        | succ k21 ih21 =>
          intro at_ H locs ls hat hm hq21 hP hD hS hl
          obtain ⟨ha1, ha2⟩ := id hat
          refine lv_iload_n hx hb d_Mo_block_21 rfl (lv_at hl 0 rfl) ?_
          refine lv_iload_n hx hb d_Mo_block_22 rfl (lv_at hl 1 rfl) ?_
          refine lv_iadd hx hb d_Mo_block_23 ?_
          refine rw_top (y := nI (at_ + (f_Mo_takes n.toNatClampNeg))) (nI_add at_ (f_Mo_takes n.toNatClampNeg)) ?_
          refine lv_bipush (v := nI 16) hx hb d_Mo_block_24 (by decide) ?_
          refine lv_iadd hx hb d_Mo_block_26 ?_
          refine rw_top (y := nI (at_ + (f_Mo_takes n.toNatClampNeg) + 16)) (nI_add (at_ + (f_Mo_takes n.toNatClampNeg)) 16) ?_
          refine lv_ldc (v := 57344) hx hb hown (hts _ m_13_29) d_Mo_block_27 ?_
          refine rw_top (y := nI 57344) (by decide) ?_
          refine rn_gt (tgt := 151) hx hb (by omega) (by omega) d_Mo_block_29 (by decide) (fun c3 => ?_) (fun c3 => ?_)
          · skip
            refine lv_iconst (v := nI 0) hx hb d_Mo_block_151 (by decide) ?_
            have hE : res = (0, u) := hq21.trans ((if_neg (Nat.not_le.mpr c3)).trans rfl)
            exact retWn (x := 0) hx hb hr hP hK hD hS (congrArg Prod.fst hE).symm (congrArg Prod.snd hE).symm d_Mo_block_152 hlocks
          · skip
            refine lv_iload_n hx hb d_Mo_block_32 rfl (lv_at hl 0 rfl) ?_
            refine lv_bipush (v := nI 16) hx hb d_Mo_block_33 (by decide) ?_
            refine lv_isub hx hb d_Mo_block_35 ?_
            refine rw_top (y := nI (at_ - 16)) (pk_sub (by omega)) ?_
            refine lv_ldc (v := 32768) hx hb hown (hts _ m_17_22) d_Mo_block_36 ?_
            refine rw_top (y := nI 32768) (by decide) ?_
            refine rn_lt (tgt := 145) hx hb (by omega) (by omega) d_Mo_block_38 (by decide) (fun c4 => ?_) (fun c4 => ?_)
            · skip
              refine lv_iinc (v := nI (at_ + 16)) (lv' := [(3, .int (nI (at_ + 16))), (2, .int (nI (f_Mo_takes n.toNatClampNeg))), (0, .ref (ad 0)), (1, .int n)]) hx hb d_Mo_block_145 hl (k := 0) rfl (rn_inc at_ 16 (by decide)) (by decide) rfl (fun ls hl => ?_)
              refine lv_goto (tgt := 21) hx hb d_Mo_block_148 (by decide) ?_
              exact ih21 (at_ + 16) _ _ _ ⟨by omega, by omega⟩ (by omega) (hq21.trans ((if_pos c3).trans ((if_pos c4).trans rfl))) hP hD hS (lv_sub hl [0, 1, 2, 3] rfl)
            · skip
              refine lv_aload_n hx hb d_Mo_block_41 rfl (lv_at hl 2 rfl) ?_
              refine lv_iload_n hx hb d_Mo_block_42 rfl (lv_at hl 0 rfl) ?_
              refine lv_bipush (v := nI 16) hx hb d_Mo_block_43 (by decide) ?_
              refine lv_isub hx hb d_Mo_block_45 ?_
              refine rw_top (y := nI (at_ - 16)) (pk_sub (by omega)) ?_
              refine lv_iload_n hx hb d_Mo_block_46 rfl (lv_at hl 0 rfl) ?_
              refine lv_iload_n hx hb d_Mo_block_47 rfl (lv_at hl 1 rfl) ?_
              refine lv_iadd hx hb d_Mo_block_48 ?_
              refine rw_top (y := nI (at_ + (f_Mo_takes n.toNatClampNeg))) (nI_add at_ (f_Mo_takes n.toNatClampNeg)) ?_
              refine lv_bipush (v := nI 16) hx hb d_Mo_block_49 (by decide) ?_
              refine lv_iadd hx hb d_Mo_block_51 ?_
              refine rw_top (y := nI (at_ + (f_Mo_takes n.toNatClampNeg) + 16)) (nI_add (at_ + (f_Mo_takes n.toNatClampNeg)) 16) ?_
              refine callWi (va_runV (As := [.int (nI (at_ - 16)), .int (nI (at_ + (f_Mo_takes n.toNatClampNeg) + 16))]) (rest := []) ⟨hx, hb, hml, hown, hts⟩ (c_Mo_taken l dC dI cI cZ ad u (at_ - 16) (at_ + (f_Mo_takes n.toNatClampNeg) + 16) (by first | assumption | omega) (by first | assumption | omega) (by first | assumption | omega) H.size) (cwV 2 hts (goodV m_17_32 m_17_33 m_19_36 m_0_12 m_17_34) rfl rfl rfl (by decide +kernel) ⟨Nat.le_of_ble_eq_true rfl, Nat.le_of_ble_eq_true rfl⟩) ⟨preW_blind, va_recv hK hP (ci := 8) (q0 := 0) rfl rfl, preW_ok hP hD hK⟩ rfl rfl hl.1 rfl (lv_room (Nat.le_of_ble_eq_true rfl)) d_Mo_block_52 ⟨Nat.zero_le _, Nat.zero_le _⟩) hP hD hS hA (fun H locs hP hD hS => ?_)
              refine rb_eq (tgt := 61) hx hb d_Mo_block_55 (by decide) (fun c5 => ?_) (fun c5 => ?_)
              · skip
                refine lv_aload_n hx hb d_Mo_block_61 rfl (lv_at hl 2 rfl) ?_
                refine va_get (D := (dC, dI)) (ci := 8) (v := .ref (ad 7)) (C := R_Mo) (T := F_Mo) (N := 31) hx hb hts in_Mo hown hK hP 0 rfl rfl 12 (by decide) (hts _ m_14_2) (fun _ h9 => h9) rfl d_Mo_block_62 ?_
                refine lv_aload_n hx hb d_Mo_block_65 rfl (lv_at hl 2 rfl) ?_
                refine va_get (D := (dC, dI)) (ci := 8) (v := .int (nI (gN u 0))) (C := R_Mo) (T := F_Mo) (N := 31) hx hb hts in_Mo hown hK hP 0 rfl rfl 16 (by decide) (hts _ m_14_6) (fun _ h9 => h9) rfl d_Mo_block_66 ?_
                refine lv_iload_n hx hb d_Mo_block_69 rfl (lv_at hl 0 rfl) ?_
                refine astM_address (u := u) (n := gN u 0) hx hb hK hP hD hS (by omega) d_Mo_block_70 (fun H locs hP hD hS => ?_)
                refine lv_aload_n hx hb d_Mo_block_71 rfl (lv_at hl 2 rfl) ?_
                refine va_get (D := (dC, dI)) (ci := 8) (v := .ref (ad 8)) (C := R_Mo) (T := F_Mo) (N := 31) hx hb hts in_Mo hown hK hP 0 rfl rfl 13 (by decide) (hts _ m_14_3) (fun _ h9 => h9) rfl d_Mo_block_72 ?_
                refine lv_aload_n hx hb d_Mo_block_75 rfl (lv_at hl 2 rfl) ?_
                refine lv_dup hx hb d_Mo_block_76 rfl ?_
                refine va_get (D := (dC, dI)) (ci := 8) (v := .int (nI (gN u 0))) (C := R_Mo) (T := F_Mo) (N := 31) hx hb hts in_Mo hown hK hP 0 rfl rfl 16 (by decide) (hts _ m_14_6) (fun _ h9 => h9) rfl d_Mo_block_77 ?_
                refine lv_dup_x1 hx hb d_Mo_block_80 rfl rfl ?_
                refine lv_iconst (v := nI 1) hx hb d_Mo_block_81 (by decide) ?_
                refine lv_iadd hx hb d_Mo_block_82 ?_
                refine rw_top (y := nI (gN u 0 + 1)) (nI_add (gN u 0) 1) ?_
                refine va_put (D := (dC, dI)) (ci := 8) (v := .int (nI (gN u 0 + 1))) (ty := .int) (C := R_Mo) (T := F_Mo) (N := 31) hx hb hts in_Mo t_Mo t_Mo_ok n_Mo hown hK hP hD hS 0 rfl rfl 16 (by decide) (hts _ m_14_6) (fun _ h9 => h9) rfl (by decide +kernel) rfl rfl (Nat.le_of_ble_eq_true rfl) d_Mo_block_83 (fun H locs hP hD hS => ?_)
                have hP : va_P (dC, dI) classes (wM cI cZ ad (sN (uN u 0 (gN u 0) at_) 0 (gN u 0 + 1))) H := hP
                have hD : va_D A (wM cI cZ ad (sN (uN u 0 (gN u 0) at_) 0 (gN u 0 + 1))) := hD
                refine lv_iload_n hx hb d_Mo_block_86 rfl (lv_at hl 3 rfl) ?_
                refine rw_top (y := nI n.toNatClampNeg) (hp_n c1) ?_
                refine astM_length (u := (sN (uN u 0 (gN u 0) at_) 0 (gN u 0 + 1))) (n := gN u 0) hx hb hK hP hD hS (by omega) d_Mo_block_87 (fun H locs hP hD hS => ?_)
                refine lv_iload_n hx hb d_Mo_block_88 rfl (lv_at hl 0 rfl) ?_
                refine lv_istore (lv' := [(4, .int (nI at_)), (3, .int (nI at_)), (2, .int (nI (f_Mo_takes n.toNatClampNeg))), (0, .ref (ad 0)), (1, .int n)]) hx hb d_Mo_block_89 hl (by decide) rfl (fun ls hl => ?_)
                have L91 : ∀ (k : Nat) (i : Nat) (u1 : S5) (H : Heap) (locs : List Loc) (ls : Array Slot), (at_ ≤ i ∧ i ≤ at_ + n.toNatClampNeg) → (at_ + n.toNatClampNeg - i) < k → res = f_Mo_block_91 n u at_ k i u1 → va_P (dC, dI) classes (wM cI cZ ad u1) H → va_D A (wM cI cZ ad u1) → va_S A s.heap H locs → lv_has ls 6 [(4, .int (nI i)), (3, .int (nI at_)), (2, .int (nI (f_Mo_takes n.toNatClampNeg))), (0, .ref (ad 0)), (1, .int n)] → W p l e (headSpec w_Mo_block rm_Mo_block).room s m ([.ref (ad 0), .int n] : List Value).toArray below meth c H locs 0 0 (MQ below (QWi (dC, dI) classes [(cI, .int), (cZ, .boolean)] (wM cI cZ ad) A (nI res.1) res.2) ([.ref (ad 0), .int n] : List Value).toArray s 0 0 A) (F0 m 91 ls []) := by
                  intro k
                  induction k with
                  | zero => intro i u1 H locs ls hi hm; exact absurd hm (Nat.not_lt_zero _)
                  | succ k91 ih91 =>
                    intro i u1 H locs ls hi hm hq91 hP hD hS hl
                    obtain ⟨hi1, hi2⟩ := id hi
                    refine lv_iload hx hb d_Mo_block_91 (lv_at hl 0 rfl) ?_
                    refine lv_iload_n hx hb d_Mo_block_93 rfl (lv_at hl 1 rfl) ?_
                    refine lv_iload_n hx hb d_Mo_block_94 rfl (lv_at hl 4 rfl) ?_
                    refine rw_top (y := nI n.toNatClampNeg) (hp_n c1) ?_
                    refine lv_iadd hx hb d_Mo_block_95 ?_
                    refine rw_top (y := nI (at_ + n.toNatClampNeg)) (nI_add at_ n.toNatClampNeg) ?_
                    refine rn_ge (tgt := 143) hx hb (by omega) (by omega) d_Mo_block_96 (by decide) (fun c6 => ?_) (fun c6 => ?_)
                    · skip
                      refine lv_iload_n hx hb d_Mo_block_143 rfl (lv_at hl 1 rfl) ?_
                      have hE : res = (at_, u1) := hq91.trans ((if_neg (Nat.not_lt.mpr c6)).trans rfl)
                      exact retWn (x := at_) hx hb hr hP hK hD hS (congrArg Prod.fst hE).symm (congrArg Prod.snd hE).symm d_Mo_block_144 hlocks
                    · skip
                      refine lv_aload_n hx hb d_Mo_block_99 rfl (lv_at hl 3 rfl) ?_
                      refine va_get (D := (dC, dI)) (ci := 8) (v := .ref (ad 4)) (C := R_Mo) (T := F_Mo) (N := 31) hx hb hts in_Mo hown hK hP 0 rfl rfl 4 (by decide) (hts _ m_13_34) (fun _ h9 => h9) rfl d_Mo_block_100 ?_
                      refine lv_iload hx hb d_Mo_block_103 (lv_at hl 0 rfl) ?_
                      refine lv_iconst (v := 1) hx hb d_Mo_block_105 (by decide) ?_
                      refine astM_open (u := u1) (v := true) (n := i) hx hb hK hP hD hS (by omega) d_Mo_block_106 (fun H locs hP hD hS => ?_)
                      refine lv_iconst (v := nI 0) hx hb d_Mo_block_107 (by decide) ?_
                      refine lv_istore (lv' := [(5, .int (nI 0)), (4, .int (nI i)), (3, .int (nI at_)), (2, .int (nI (f_Mo_takes n.toNatClampNeg))), (0, .ref (ad 0)), (1, .int n)]) hx hb d_Mo_block_108 hl (by decide) rfl (fun ls hl => ?_)
                      obtain ⟨o110, ho110⟩ : ∃ z : S5, z = f_Mo_block_110 n u at_ i 9 0 (uB u1 0 i true) := ⟨_, rfl⟩
                      have K110 : ∀ (v2 : S5) (H : Heap) (locs : List Loc) (ls : Array Slot), v2 = o110 → va_P (dC, dI) classes (wM cI cZ ad v2) H → va_D A (wM cI cZ ad v2) → va_S A s.heap H locs → lv_has ls 6 [(4, .int (nI i)), (3, .int (nI at_)), (2, .int (nI (f_Mo_takes n.toNatClampNeg))), (0, .ref (ad 0)), (1, .int n)] → W p l e (headSpec w_Mo_block rm_Mo_block).room s m ([.ref (ad 0), .int n] : List Value).toArray below meth c H locs 0 0 (MQ below (QWi (dC, dI) classes [(cI, .int), (cZ, .boolean)] (wM cI cZ ad) A (nI res.1) res.2) ([.ref (ad 0), .int n] : List Value).toArray s 0 0 A) (F0 m 137 ls []) := by
                        intro v2 H locs ls eo hP hD hS hl
                        have ev2 := eo
                        refine lv_iinc (v := nI (i + 1)) (lv' := [(4, .int (nI (i + 1))), (3, .int (nI at_)), (2, .int (nI (f_Mo_takes n.toNatClampNeg))), (0, .ref (ad 0)), (1, .int n)]) hx hb d_Mo_block_137 hl (k := 0) rfl (rn_inc i 1 (by decide)) (by decide) rfl (fun ls hl => ?_)
                        refine lv_goto (tgt := 91) hx hb d_Mo_block_140 (by decide) ?_
                        exact ih91 (i + 1) v2 _ _ _ ⟨by omega, by omega⟩ (by omega) ((by subst ev2; subst ho110; exact hq91.trans ((if_pos c6).trans rfl))) hP hD hS (lv_sub hl [0, 1, 2, 3, 4] rfl)
                      have L110 : ∀ (k : Nat) (j : Nat) (u2 : S5) (H : Heap) (locs : List Loc) (ls : Array Slot), (j ≤ 8) → (8 - j) < k → o110 = f_Mo_block_110 n u at_ i k j u2 → va_P (dC, dI) classes (wM cI cZ ad u2) H → va_D A (wM cI cZ ad u2) → va_S A s.heap H locs → lv_has ls 6 [(5, .int (nI j)), (4, .int (nI i)), (3, .int (nI at_)), (2, .int (nI (f_Mo_takes n.toNatClampNeg))), (0, .ref (ad 0)), (1, .int n)] → W p l e (headSpec w_Mo_block rm_Mo_block).room s m ([.ref (ad 0), .int n] : List Value).toArray below meth c H locs 0 0 (MQ below (QWi (dC, dI) classes [(cI, .int), (cZ, .boolean)] (wM cI cZ ad) A (nI res.1) res.2) ([.ref (ad 0), .int n] : List Value).toArray s 0 0 A) (F0 m 110 ls []) := by
                        intro k
                        induction k with
                        | zero => intro j u2 H locs ls hj hm; exact absurd hm (Nat.not_lt_zero _)
                        | succ k110 ih110 =>
                          intro j u2 H locs ls hj hm hq110 hP hD hS hl
                          refine lv_iload hx hb d_Mo_block_110 (lv_at hl 0 rfl) ?_
                          refine lv_bipush (v := nI 8) hx hb d_Mo_block_112 (by decide) ?_
                          refine rn_ge (tgt := 137) hx hb (by omega) (by omega) d_Mo_block_114 (by decide) (fun c7 => ?_) (fun c7 => ?_)
                          · skip
                            exact K110 u2 _ _ _ (Eq.symm (hq110.trans ((if_neg (Nat.not_lt.mpr c7)).trans rfl))) hP hD hS (lv_sub hl [1, 2, 3, 4, 5] rfl)
                          · skip
                            refine lv_aload_n hx hb d_Mo_block_117 rfl (lv_at hl 4 rfl) ?_
                            refine va_get (D := (dC, dI)) (ci := 8) (v := .ref (ad 5)) (C := R_Mo) (T := F_Mo) (N := 31) hx hb hts in_Mo hown hK hP 0 rfl rfl 5 (by decide) (hts _ m_13_35) (fun _ h9 => h9) rfl d_Mo_block_118 ?_
                            refine lv_bipush (v := nI 8) hx hb d_Mo_block_121 (by decide) ?_
                            refine lv_iload hx hb d_Mo_block_123 (lv_at hl 1 rfl) ?_
                            refine lv_imul hx hb d_Mo_block_125 ?_
                            refine rw_top (y := nI (8 * i)) (pk_mul 8 i) ?_
                            refine lv_iload hx hb d_Mo_block_126 (lv_at hl 0 rfl) ?_
                            refine lv_iadd hx hb d_Mo_block_128 ?_
                            refine rw_top (y := nI (8 * i + j)) (nI_add (8 * i) j) ?_
                            refine lv_iconst (v := 1) hx hb d_Mo_block_129 (by decide) ?_
                            refine astM_dark (u := u2) (v := true) (n := 8 * i + j) hx hb hK hP hD hS (by omega) d_Mo_block_130 (fun H locs hP hD hS => ?_)
                            refine lv_iinc (v := nI (j + 1)) (lv' := [(5, .int (nI (j + 1))), (4, .int (nI i)), (3, .int (nI at_)), (2, .int (nI (f_Mo_takes n.toNatClampNeg))), (0, .ref (ad 0)), (1, .int n)]) hx hb d_Mo_block_131 hl (k := 0) rfl (rn_inc j 1 (by decide)) (by decide) rfl (fun ls hl => ?_)
                            refine lv_goto (tgt := 110) hx hb d_Mo_block_134 (by decide) ?_
                            exact ih110 (j + 1) (uB u2 1 (8 * i + j) true) _ _ _ (by first | assumption | omega) (by omega) (hq110.trans ((if_pos c7).trans rfl)) hP hD hS (lv_sub hl [0, 1, 2, 3, 4, 5] rfl)
                      exact L110 9 0 (uB u1 0 i true) _ _ _ (by first | assumption | omega) (by omega) (ho110) hP hD hS (lv_sub hl [0, 1, 2, 3, 4, 5] rfl)
                exact L91 (n.toNatClampNeg + 1) at_ (uN (sN (uN u 0 (gN u 0) at_) 0 (gN u 0 + 1)) 1 (gN u 0) n.toNatClampNeg) _ _ _ ⟨by omega, by omega⟩ (by omega) (hq21.trans ((if_pos c3).trans ((if_neg (Nat.not_lt.mpr c4)).trans ((if_neg c5).trans rfl)))) hP hD hS (lv_sub hl [0, 1, 2, 3, 4] rfl)
              · skip
                refine lv_goto (tgt := 145) hx hb d_Mo_block_58 (by decide) ?_
                refine lv_iinc (v := nI (at_ + 16)) (lv' := [(3, .int (nI (at_ + 16))), (2, .int (nI (f_Mo_takes n.toNatClampNeg))), (0, .ref (ad 0)), (1, .int n)]) hx hb d_Mo_block_145 hl (k := 0) rfl (rn_inc at_ 16 (by decide)) (by decide) rfl (fun ls hl => ?_)
                refine lv_goto (tgt := 21) hx hb d_Mo_block_148 (by decide) ?_
                exact ih21 (at_ + 16) _ _ _ ⟨by omega, by omega⟩ (by omega) (hq21.trans ((if_pos c3).trans ((if_neg (Nat.not_lt.mpr c4)).trans ((if_pos c5).trans rfl)))) hP hD hS (lv_sub hl [0, 1, 2, 3] rfl)
      exact L21 1538 32768 _ _ _ ⟨by omega, by omega⟩ (by omega) (hq.trans ((if_neg c1).trans ((if_pos c2).trans rfl))) hP hD hS (lv_sub hl [0, 1, 2, 3] rfl)
    · skip
      refine lv_iconst (v := nI 0) hx hb d_Mo_block_11 (by decide) ?_
      have hE : res = (0, u) := hq.trans ((if_neg c1).trans ((if_neg c2).trans rfl))
      exact retWn (x := 0) hx hb hr hP hK hD hS (congrArg Prod.fst hE).symm (congrArg Prod.snd hE).symm d_Mo_block_12 hlocks
theorem bk_110 (n : Int32) (u : S5) (at_ i : Nat) : ∀ (k j : Nat) (u2 : S5), FrM [] [] [] [] [0, 1] u2 (f_Mo_block_110 n u at_ i k j u2) := by
  intro k
  induction k with
  | zero => intro j u2; exact FrM.rf
  | succ k ih =>
    intro j u2
    unfold f_Mo_block_110
    split
    · exact FrM.tr (FrM.uB _ _ _ _ (by decide)) (ih _ _)
    · exact FrM.rf
theorem bk_91 (n : Int32) (u : S5) (at_ : Nat) : ∀ (k i : Nat) (u1 : S5), at_ + n.toNatClampNeg - i < k → FrM [] [] [] [] [0, 1] u1 (f_Mo_block_91 n u at_ k i u1).2 ∧ (f_Mo_block_91 n u at_ k i u1).1 = at_ := by
  intro k
  induction k with
  | zero => intro i u1 h; exact absurd h (Nat.not_lt_zero _)
  | succ k ih =>
    intro i u1 h
    unfold f_Mo_block_91
    split
    · dsimp only
      obtain ⟨h1, h2⟩ := ih (i + 1) (f_Mo_block_110 n u at_ i 9 0 (uB u1 0 i true)) (by omega)
      exact ⟨FrM.tr (FrM.uB _ _ _ _ (by decide)) (FrM.tr (bk_110 n u at_ i _ _ _) h1), h2⟩
    · exact ⟨FrM.rf, rfl⟩
theorem bk_21 (n : Int32) (u : S5) : ∀ (k at_ : Nat), 32768 ≤ at_ → at_ % 16 = 0 → f_Mo_block_21 n u k at_ = (0, u) ∨ ∃ o, at_ ≤ o ∧ 32784 ≤ o ∧ o % 16 = 0 ∧ o + f_Mo_takes n.toNatClampNeg + 16 ≤ 57344 ∧ ¬ f_Mo_taken (o - 16) (o + f_Mo_takes n.toNatClampNeg + 16) u = true ∧ f_Mo_block_21 n u k at_ = f_Mo_block_91 n u o (n.toNatClampNeg + 1) o (uN (sN (uN u 0 (gN u 0) o) 0 (gN u 0 + 1)) 1 (gN u 0) n.toNatClampNeg) := by
  intro k
  induction k with
  | zero => intro at_ _ _; exact Or.inl rfl
  | succ k ih =>
    intro at_ h hm
    have ih2 := ih (at_ + 16) (by omega) (by omega)
    have ih3 : f_Mo_block_21 n u k (at_ + 16) = (0, u) ∨ ∃ o, at_ ≤ o ∧ 32784 ≤ o ∧ o % 16 = 0 ∧ o + f_Mo_takes n.toNatClampNeg + 16 ≤ 57344 ∧ ¬ f_Mo_taken (o - 16) (o + f_Mo_takes n.toNatClampNeg + 16) u = true ∧ f_Mo_block_21 n u k (at_ + 16) = f_Mo_block_91 n u o (n.toNatClampNeg + 1) o (uN (sN (uN u 0 (gN u 0) o) 0 (gN u 0 + 1)) 1 (gN u 0) n.toNatClampNeg) := by
      rcases ih2 with e | ⟨o, q1, q2⟩
      · exact Or.inl e
      · exact Or.inr ⟨o, by omega, q2⟩
    unfold f_Mo_block_21
    split
    · split
      · exact ih3
      · split
        · exact ih3
        · exact Or.inr ⟨at_, Nat.le_refl _, by omega, hm, by omega, by assumption, rfl⟩
    · exact Or.inl rfl
theorem bk_c (n : Int32) (u : S5) : f_Mo_block n u = (0, u) ∨ ∃ o v, (¬ n < 0) ∧ n ≤ 16384 ∧ 32784 ≤ o ∧ o % 16 = 0 ∧ o + f_Mo_takes n.toNatClampNeg + 16 ≤ 57344 ∧ ¬ f_Mo_taken (o - 16) (o + f_Mo_takes n.toNatClampNeg + 16) u = true ∧ f_Mo_block n u = (o, v) ∧ FrM [] [] [] [] [0, 1] (uN (sN (uN u 0 (gN u 0) o) 0 (gN u 0 + 1)) 1 (gN u 0) n.toNatClampNeg) v := by
  unfold f_Mo_block
  split
  · exact Or.inl rfl
  · split
    · rcases bk_21 n u 1538 32768 (by omega) (by omega) with e | ⟨o, q1, q2, q3, q4, q5, e⟩
      · exact Or.inl e
      · obtain ⟨h1, h2⟩ := bk_91 n u o (n.toNatClampNeg + 1) o (uN (sN (uN u 0 (gN u 0) o) 0 (gN u 0 + 1)) 1 (gN u 0) n.toNatClampNeg) (by omega)
        refine Or.inr ⟨o, _, by assumption, by assumption, q2, q3, q4, q5, ?_, h1⟩
        rw [e]
        exact Prod.ext h2 rfl
    · exact Or.inl rfl
theorem bk_in {n : Int32} {u : S5} (h : ¬ (f_Mo_block n u).1 = 0) : ¬ n < 0 ∧ n ≤ 16384 ∧ 32784 ≤ (f_Mo_block n u).1 ∧ (f_Mo_block n u).1 + n.toNatClampNeg + 16 ≤ 57344 := by
  rcases bk_c n u with e | ⟨o, v, q1, q2, q3, q4, q5, q6, e, q7⟩
  · rw [e] at h; exact absurd rfl h
  · rw [e]
    have := tk_b n.toNatClampNeg
    exact ⟨q1, q2, q3, by show o + n.toNatClampNeg + 16 ≤ 57344; omega⟩
theorem bk_le (n : Int32) (u : S5) : (f_Mo_block n u).1 ≤ 57344 := by
  by_cases h : (f_Mo_block n u).1 = 0
  · omega
  · have := (bk_in h).2.2.2; omega
theorem bk_ok {n : Int32} {u : S5} (h0 : gN u 0 ≤ 798) (h : OkL u) : OkL (f_Mo_block n u).2 := by
  rcases bk_c n u with e | ⟨o, v, q1, q2, q3, q4, q5, q6, e, q7⟩
  · rw [e]; exact h
  · rw [e]
    refine OkL.fm ?_ q7 (by decide)
    obtain ⟨l0, l1, lA, lK⟩ := h
    have := tk_b n.toNatClampNeg
    refine ⟨by show gN u 0 + 1 ≤ 799; omega, l1, ?_, lK⟩
    intro k hk
    have hk : k < gN u 0 + 1 := hk
    show 32768 ≤ va_up (aN u 0) (gN u 0) o k ∧ va_up (aN u 0) (gN u 0) o k + va_up (aN u 1) (gN u 0) n.toNatClampNeg k ≤ 57344
    unfold va_up
    split
    · omega
    · exact lA k (by omega)
theorem bk_fi {n : Int32} {u : S5} {i : Nat} (hi : i < gN u 0) : aN (f_Mo_block n u).2 0 i = aN u 0 i ∧ aN (f_Mo_block n u).2 1 i = aN u 1 i ∧ i < gN (f_Mo_block n u).2 0 := by
  rcases bk_c n u with e | ⟨o, v, q1, q2, q3, q4, q5, q6, e, q7⟩
  · rw [e]; exact ⟨rfl, rfl, hi⟩
  · rw [e]
    show aN v 0 i = aN u 0 i ∧ aN v 1 i = aN u 1 i ∧ i < gN v 0
    rw [q7.2.2.2.1 0 (by decide), q7.2.2.2.1 1 (by decide), q7.2.1 0 (by decide)]
    show va_up (aN u 0) (gN u 0) o i = aN u 0 i ∧ va_up (aN u 1) (gN u 0) n.toNatClampNeg i = aN u 1 i ∧ i < gN u 0 + 1
    rw [va_up_ne _ _ (by omega), va_up_ne _ _ (by omega)]
    exact ⟨rfl, rfl, by omega⟩
theorem bk_1 (n : Int32) (u : S5) : gN (f_Mo_block n u).2 1 = gN u 1 := by
  rcases bk_c n u with e | ⟨o, v, q1, q2, q3, q4, q5, q6, e, q7⟩
  · rw [e]
  · rw [e]; show gN v 1 = gN u 1; rw [q7.2.1 1 (by decide)]; rfl
def w_Mo_back : List Cond := .code y_Mo_back b_Mo_back 6 none :: ALLW
def rm_Mo_back : Room := { frames := 21, cells := 0, slots := 0, locals := 622 }
theorem d_Mo_back_0 : decode b_Mo_back 0 = .ok (.aload_n 0, 1) := by decide +kernel
theorem d_Mo_back_1 : decode b_Mo_back 1 = .ok (.iload_n 1, 1) := by decide +kernel
theorem d_Mo_back_2 : decode b_Mo_back 2 = .ok (.invokevirtual 210, 3) := by decide +kernel
theorem d_Mo_back_5 : decode b_Mo_back 5 = .ok (.istore_n 2, 1) := by decide +kernel
theorem d_Mo_back_6 : decode b_Mo_back 6 = .ok (.aload_n 0, 1) := by decide +kernel
theorem d_Mo_back_7 : decode b_Mo_back 7 = .ok (.getfield 34, 3) := by decide +kernel
theorem d_Mo_back_10 : decode b_Mo_back 10 = .ok (.iload_n 2, 1) := by decide +kernel
theorem d_Mo_back_11 : decode b_Mo_back 11 = .ok (.iaload, 1) := by decide +kernel
theorem d_Mo_back_12 : decode b_Mo_back 12 = .ok (.istore_n 3, 1) := by decide +kernel
theorem d_Mo_back_13 : decode b_Mo_back 13 = .ok (.iload_n 1, 1) := by decide +kernel
theorem d_Mo_back_14 : decode b_Mo_back 14 = .ok (.istore 4, 2) := by decide +kernel
theorem d_Mo_back_16 : decode b_Mo_back 16 = .ok (.iload 4, 2) := by decide +kernel
theorem d_Mo_back_18 : decode b_Mo_back 18 = .ok (.iload_n 1, 1) := by decide +kernel
theorem d_Mo_back_19 : decode b_Mo_back 19 = .ok (.iload_n 3, 1) := by decide +kernel
theorem d_Mo_back_20 : decode b_Mo_back 20 = .ok (.iadd, 1) := by decide +kernel
theorem d_Mo_back_21 : decode b_Mo_back 21 = .ok (.if_icmp .ge 47, 3) := by decide +kernel
theorem d_Mo_back_24 : decode b_Mo_back 24 = .ok (.aload_n 0, 1) := by decide +kernel
theorem d_Mo_back_25 : decode b_Mo_back 25 = .ok (.getfield 20, 3) := by decide +kernel
theorem d_Mo_back_28 : decode b_Mo_back 28 = .ok (.iload 4, 2) := by decide +kernel
theorem d_Mo_back_30 : decode b_Mo_back 30 = .ok (.iconst 0, 1) := by decide +kernel
theorem d_Mo_back_31 : decode b_Mo_back 31 = .ok (.bastore, 1) := by decide +kernel
theorem d_Mo_back_32 : decode b_Mo_back 32 = .ok (.iconst 0, 1) := by decide +kernel
theorem d_Mo_back_33 : decode b_Mo_back 33 = .ok (.istore 5, 2) := by decide +kernel
theorem d_Mo_back_35 : decode b_Mo_back 35 = .ok (.iload 5, 2) := by decide +kernel
theorem d_Mo_back_37 : decode b_Mo_back 37 = .ok (.bipush 8, 2) := by decide +kernel
theorem d_Mo_back_39 : decode b_Mo_back 39 = .ok (.if_icmp .ge 23, 3) := by decide +kernel
theorem d_Mo_back_42 : decode b_Mo_back 42 = .ok (.aload_n 0, 1) := by decide +kernel
theorem d_Mo_back_43 : decode b_Mo_back 43 = .ok (.getfield 25, 3) := by decide +kernel
theorem d_Mo_back_46 : decode b_Mo_back 46 = .ok (.bipush 8, 2) := by decide +kernel
theorem d_Mo_back_48 : decode b_Mo_back 48 = .ok (.iload 4, 2) := by decide +kernel
theorem d_Mo_back_50 : decode b_Mo_back 50 = .ok (.imul, 1) := by decide +kernel
theorem d_Mo_back_51 : decode b_Mo_back 51 = .ok (.iload 5, 2) := by decide +kernel
theorem d_Mo_back_53 : decode b_Mo_back 53 = .ok (.iadd, 1) := by decide +kernel
theorem d_Mo_back_54 : decode b_Mo_back 54 = .ok (.iconst 0, 1) := by decide +kernel
theorem d_Mo_back_55 : decode b_Mo_back 55 = .ok (.bastore, 1) := by decide +kernel
theorem d_Mo_back_56 : decode b_Mo_back 56 = .ok (.iinc 5 1, 3) := by decide +kernel
theorem d_Mo_back_59 : decode b_Mo_back 59 = .ok (.goto (-24), 3) := by decide +kernel
theorem d_Mo_back_62 : decode b_Mo_back 62 = .ok (.iinc 4 1, 3) := by decide +kernel
theorem d_Mo_back_65 : decode b_Mo_back 65 = .ok (.goto (-49), 3) := by decide +kernel
theorem d_Mo_back_68 : decode b_Mo_back 68 = .ok (.aload_n 0, 1) := by decide +kernel
theorem d_Mo_back_69 : decode b_Mo_back 69 = .ok (.dup, 1) := by decide +kernel
theorem d_Mo_back_70 : decode b_Mo_back 70 = .ok (.getfield 97, 3) := by decide +kernel
theorem d_Mo_back_73 : decode b_Mo_back 73 = .ok (.iconst 1, 1) := by decide +kernel
theorem d_Mo_back_74 : decode b_Mo_back 74 = .ok (.isub, 1) := by decide +kernel
theorem d_Mo_back_75 : decode b_Mo_back 75 = .ok (.putfield 97, 3) := by decide +kernel
theorem d_Mo_back_78 : decode b_Mo_back 78 = .ok (.aload_n 0, 1) := by decide +kernel
theorem d_Mo_back_79 : decode b_Mo_back 79 = .ok (.getfield 31, 3) := by decide +kernel
theorem d_Mo_back_82 : decode b_Mo_back 82 = .ok (.iload_n 2, 1) := by decide +kernel
theorem d_Mo_back_83 : decode b_Mo_back 83 = .ok (.aload_n 0, 1) := by decide +kernel
theorem d_Mo_back_84 : decode b_Mo_back 84 = .ok (.getfield 31, 3) := by decide +kernel
theorem d_Mo_back_87 : decode b_Mo_back 87 = .ok (.aload_n 0, 1) := by decide +kernel
theorem d_Mo_back_88 : decode b_Mo_back 88 = .ok (.getfield 97, 3) := by decide +kernel
theorem d_Mo_back_91 : decode b_Mo_back 91 = .ok (.iaload, 1) := by decide +kernel
theorem d_Mo_back_92 : decode b_Mo_back 92 = .ok (.iastore, 1) := by decide +kernel
theorem d_Mo_back_93 : decode b_Mo_back 93 = .ok (.aload_n 0, 1) := by decide +kernel
theorem d_Mo_back_94 : decode b_Mo_back 94 = .ok (.getfield 34, 3) := by decide +kernel
theorem d_Mo_back_97 : decode b_Mo_back 97 = .ok (.iload_n 2, 1) := by decide +kernel
theorem d_Mo_back_98 : decode b_Mo_back 98 = .ok (.aload_n 0, 1) := by decide +kernel
theorem d_Mo_back_99 : decode b_Mo_back 99 = .ok (.getfield 34, 3) := by decide +kernel
theorem d_Mo_back_102 : decode b_Mo_back 102 = .ok (.aload_n 0, 1) := by decide +kernel
theorem d_Mo_back_103 : decode b_Mo_back 103 = .ok (.getfield 97, 3) := by decide +kernel
theorem d_Mo_back_106 : decode b_Mo_back 106 = .ok (.iaload, 1) := by decide +kernel
theorem d_Mo_back_107 : decode b_Mo_back 107 = .ok (.iastore, 1) := by decide +kernel
theorem d_Mo_back_108 : decode b_Mo_back 108 = .ok (.aload_n 0, 1) := by decide +kernel
theorem d_Mo_back_109 : decode b_Mo_back 109 = .ok (.getfield 37, 3) := by decide +kernel
theorem d_Mo_back_112 : decode b_Mo_back 112 = .ok (.aload_n 0, 1) := by decide +kernel
theorem d_Mo_back_113 : decode b_Mo_back 113 = .ok (.getfield 100, 3) := by decide +kernel
theorem d_Mo_back_116 : decode b_Mo_back 116 = .ok (.iload_n 1, 1) := by decide +kernel
theorem d_Mo_back_117 : decode b_Mo_back 117 = .ok (.iastore, 1) := by decide +kernel
theorem d_Mo_back_118 : decode b_Mo_back 118 = .ok (.aload_n 0, 1) := by decide +kernel
theorem d_Mo_back_119 : decode b_Mo_back 119 = .ok (.getfield 40, 3) := by decide +kernel
theorem d_Mo_back_122 : decode b_Mo_back 122 = .ok (.aload_n 0, 1) := by decide +kernel
theorem d_Mo_back_123 : decode b_Mo_back 123 = .ok (.dup, 1) := by decide +kernel
theorem d_Mo_back_124 : decode b_Mo_back 124 = .ok (.getfield 100, 3) := by decide +kernel
theorem d_Mo_back_127 : decode b_Mo_back 127 = .ok (.dup_x1, 1) := by decide +kernel
theorem d_Mo_back_128 : decode b_Mo_back 128 = .ok (.iconst 1, 1) := by decide +kernel
theorem d_Mo_back_129 : decode b_Mo_back 129 = .ok (.iadd, 1) := by decide +kernel
theorem d_Mo_back_130 : decode b_Mo_back 130 = .ok (.putfield 100, 3) := by decide +kernel
theorem d_Mo_back_133 : decode b_Mo_back 133 = .ok (.iload_n 3, 1) := by decide +kernel
theorem d_Mo_back_134 : decode b_Mo_back 134 = .ok (.iastore, 1) := by decide +kernel
theorem d_Mo_back_135 : decode b_Mo_back 135 = .ok (.aload_n 0, 1) := by decide +kernel
theorem d_Mo_back_136 : decode b_Mo_back 136 = .ok (.invokevirtual 213, 3) := by decide +kernel
theorem d_Mo_back_139 : decode b_Mo_back 139 = .ok (.sipush 2048, 3) := by decide +kernel
theorem d_Mo_back_142 : decode b_Mo_back 142 = .ok (.if_icmp .le 66, 3) := by decide +kernel
theorem d_Mo_back_145 : decode b_Mo_back 145 = .ok (.iconst 1, 1) := by decide +kernel
theorem d_Mo_back_146 : decode b_Mo_back 146 = .ok (.istore 4, 2) := by decide +kernel
theorem d_Mo_back_148 : decode b_Mo_back 148 = .ok (.iload 4, 2) := by decide +kernel
theorem d_Mo_back_150 : decode b_Mo_back 150 = .ok (.aload_n 0, 1) := by decide +kernel
theorem d_Mo_back_151 : decode b_Mo_back 151 = .ok (.getfield 100, 3) := by decide +kernel
theorem d_Mo_back_154 : decode b_Mo_back 154 = .ok (.if_icmp .ge 41, 3) := by decide +kernel
theorem d_Mo_back_157 : decode b_Mo_back 157 = .ok (.aload_n 0, 1) := by decide +kernel
theorem d_Mo_back_158 : decode b_Mo_back 158 = .ok (.getfield 37, 3) := by decide +kernel
theorem d_Mo_back_161 : decode b_Mo_back 161 = .ok (.iload 4, 2) := by decide +kernel
theorem d_Mo_back_163 : decode b_Mo_back 163 = .ok (.iconst 1, 1) := by decide +kernel
theorem d_Mo_back_164 : decode b_Mo_back 164 = .ok (.isub, 1) := by decide +kernel
theorem d_Mo_back_165 : decode b_Mo_back 165 = .ok (.aload_n 0, 1) := by decide +kernel
theorem d_Mo_back_166 : decode b_Mo_back 166 = .ok (.getfield 37, 3) := by decide +kernel
theorem d_Mo_back_169 : decode b_Mo_back 169 = .ok (.iload 4, 2) := by decide +kernel
theorem d_Mo_back_171 : decode b_Mo_back 171 = .ok (.iaload, 1) := by decide +kernel
theorem d_Mo_back_172 : decode b_Mo_back 172 = .ok (.iastore, 1) := by decide +kernel
theorem d_Mo_back_173 : decode b_Mo_back 173 = .ok (.aload_n 0, 1) := by decide +kernel
theorem d_Mo_back_174 : decode b_Mo_back 174 = .ok (.getfield 40, 3) := by decide +kernel
theorem d_Mo_back_177 : decode b_Mo_back 177 = .ok (.iload 4, 2) := by decide +kernel
theorem d_Mo_back_179 : decode b_Mo_back 179 = .ok (.iconst 1, 1) := by decide +kernel
theorem d_Mo_back_180 : decode b_Mo_back 180 = .ok (.isub, 1) := by decide +kernel
theorem d_Mo_back_181 : decode b_Mo_back 181 = .ok (.aload_n 0, 1) := by decide +kernel
theorem d_Mo_back_182 : decode b_Mo_back 182 = .ok (.getfield 40, 3) := by decide +kernel
theorem d_Mo_back_185 : decode b_Mo_back 185 = .ok (.iload 4, 2) := by decide +kernel
theorem d_Mo_back_187 : decode b_Mo_back 187 = .ok (.iaload, 1) := by decide +kernel
theorem d_Mo_back_188 : decode b_Mo_back 188 = .ok (.iastore, 1) := by decide +kernel
theorem d_Mo_back_189 : decode b_Mo_back 189 = .ok (.iinc 4 1, 3) := by decide +kernel
theorem d_Mo_back_192 : decode b_Mo_back 192 = .ok (.goto (-44), 3) := by decide +kernel
theorem d_Mo_back_195 : decode b_Mo_back 195 = .ok (.aload_n 0, 1) := by decide +kernel
theorem d_Mo_back_196 : decode b_Mo_back 196 = .ok (.dup, 1) := by decide +kernel
theorem d_Mo_back_197 : decode b_Mo_back 197 = .ok (.getfield 100, 3) := by decide +kernel
theorem d_Mo_back_200 : decode b_Mo_back 200 = .ok (.iconst 1, 1) := by decide +kernel
theorem d_Mo_back_201 : decode b_Mo_back 201 = .ok (.isub, 1) := by decide +kernel
theorem d_Mo_back_202 : decode b_Mo_back 202 = .ok (.putfield 100, 3) := by decide +kernel
theorem d_Mo_back_205 : decode b_Mo_back 205 = .ok (.goto (-70), 3) := by decide +kernel
theorem d_Mo_back_208 : decode b_Mo_back 208 = .ok (.return_, 1) := by decide +kernel
def f_Mo_back_148 (at_ : Nat) (u : S5) (kx : Nat) (u3 : S5) : Nat → Nat → S5 → S5
  | 0, i, u4 => u4
  | k148 + 1, i, u4 => if i < (gN u4 1) then f_Mo_back_148 at_ u kx u3 k148 (i + 1) (uN (uN u4 2 (i - 1) (aN u4 2 i)) 3 (i - 1) (aN u4 3 i)) else u4
def f_Mo_back_135 (at_ : Nat) (u : S5) (kx : Nat) : Nat → S5 → S5
  | 0, u3 => u3
  | k135 + 1, u3 => if (f_Mo_sum2 u3) ≤ 2048 then u3 else let v4 : S5 := f_Mo_back_148 at_ u kx u3 (gN u3 1 + 1) 1 u3; f_Mo_back_135 at_ u kx k135 (sN v4 1 (gN v4 1 - 1))
def f_Mo_back_35 (at_ : Nat) (u : S5) (kx : Nat) (i : Nat) : Nat → Nat → S5 → S5
  | 0, j, u2 => u2
  | k35 + 1, j, u2 => if j < 8 then f_Mo_back_35 at_ u kx i k35 (j + 1) (uB u2 1 (8 * i + j) false) else u2
def f_Mo_back_16 (at_ : Nat) (u : S5) (kx : Nat) : Nat → Nat → S5 → S5
  | 0, i, u1 => u1
  | k16 + 1, i, u1 => if i < (at_ + (aN u 1 kx)) then (let v2 : S5 := f_Mo_back_35 at_ u kx i 9 0 (uB u1 0 i false); f_Mo_back_16 at_ u kx k16 (i + 1) v2) else u1
def f_Mo_back (at_ : Nat) (u : S5) : S5 := let kx : Nat := (f_Mo_find (nI at_) u).toNatClampNeg; let v1 : S5 := f_Mo_back_16 at_ u kx (aN u 1 kx + 1) at_ u; f_Mo_back_135 at_ u kx (gN u 1 + 2) (uN (sN (uN (uN (uN (sN v1 0 (gN v1 0 - 1)) 0 kx (aN v1 0 (gN v1 0 - 1))) 1 kx (aN v1 1 (gN v1 0 - 1))) 2 (gN v1 1) at_) 1 (gN v1 1 + 1)) 3 (gN v1 1) (aN u 1 kx))
set_option maxHeartbeats 8000000 in
set_option maxRecDepth 100000 in
theorem c_Mo_back (l : Launch) (dC : Nat → ClassId) (dI : Nat → Nat → Nat) (cI cZ : ClassId) (ad : Nat → Nat) (u : S5) (at_ : Nat) (hat : at_ < 2 ^ 31) (hk : gN u 1 ≤ 798) (okl : OkL u) (hlv : ¬ f_Mo_find (nI at_) u < 0) (sz : Nat) : Met l y_Mo_back w_Mo_back rm_Mo_back (PreW (dC, dI) classes [(cI, .int), (cZ, .boolean)] (wM cI cZ ad) u sz [.ref (ad 0), .int (nI at_)]) (QWv (dC, dI) classes [(cI, .int), (cZ, .boolean)] (wM cI cZ ad) (va_A (wM cI cZ ad u) sz) (f_Mo_back at_ u)) 0 0 (va_A (wM cI cZ ad u) sz) := by
  generalize hres : f_Mo_back at_ u = res
  refine Met.ofW (cc := b_Mo_back) (maxL := 6) (ret := none) (by decide) rfl ?_
  intro p e s m args below meth c s₁ B hml hv
  obtain ⟨rfl, rfl, hP, hK, hD0⟩ := hv
  have hx := B.exec
  have hb := B.bytes
  have hr := B.returns
  have hts : ∀ w9 ∈ ALLW, w9.before ([.ref (ad 0), .int (nI at_)] : List Value).toArray s = true := fun w9 h => atoms_spec (ws := w_Mo_back) B.pre w9 (List.mem_cons_of_mem _ h)
  have hown : s.vm.findClass R_Mo = some m.cls := findClass_of_methodNamed B.named
  have hlocks := B.notSynchronized
  have hD := hD0.self (sz := s.heap.size)
  generalize hAe : va_A (wM cI cZ ad u) s.heap.size = A at hD ⊢
  have hA : ∀ q : Nat, s.heap.size ≤ q → A q := fun q h => by rw [← hAe]; exact Or.inr h
  have hS : va_S A s.heap s.heap [] := va_S.rf
  have hl := lv_entry ([.ref (ad 0), .int (nI at_)]) (n := 6) (Nat.le_of_ble_eq_true rfl)
  rw [lg_entry_eq]
  generalize (lg_sl ([.ref (ad 0), .int (nI at_)]) ++ List.replicate (6 - (lg_sl ([.ref (ad 0), .int (nI at_)])).length) Slot.unset).toArray = ls at hl ⊢
  have hl : lv_has ls 6 [(0, .ref (ad 0)), (1, .int (nI at_))] := hl
  have hq := hres.symm
  skip
  obtain ⟨l0, l1, lA, lK⟩ := id okl
  obtain ⟨f1, f2, f3⟩ := fi_in l0 hlv
  refine lv_aload_n hx hb d_Mo_back_0 rfl (lv_at hl 0 rfl) ?_
  refine lv_iload_n hx hb d_Mo_back_1 rfl (lv_at hl 1 rfl) ?_
  refine callWi (va_runV (As := [.int (nI at_)]) (rest := []) ⟨hx, hb, hml, hown, hts⟩ (c_Mo_find l dC dI cI cZ ad u (nI at_) (by first | assumption | omega) s.heap.size) (cwV 1 hts (goodV m_17_38 m_17_39 m_19_38 m_0_12 m_18_0) rfl rfl rfl (by decide +kernel) ⟨Nat.le_of_ble_eq_true rfl, Nat.le_of_ble_eq_true rfl⟩) ⟨preW_blind, va_recv hK hP (ci := 8) (q0 := 0) rfl rfl, preW_ok hP hD hK⟩ rfl rfl hl.1 rfl (lv_room (Nat.le_of_ble_eq_true rfl)) d_Mo_back_2 ⟨Nat.zero_le _, Nat.zero_le _⟩) hP hD hS hA (fun H locs hP hD hS => ?_)
  refine rw_top (y := nI ((f_Mo_find (nI at_) u).toNatClampNeg)) f1 ?_
  obtain ⟨kx, ekx⟩ : ∃ z : Nat, z = (f_Mo_find (nI at_) u).toNatClampNeg := ⟨_, rfl⟩
  refine rw_top (y := nI kx) (by rw [ekx]) ?_
  have k1 : kx < gN u 0 := by rw [ekx]; exact f2
  have k3 : nI (aN u 0 kx) = nI at_ := by rw [ekx]; exact f3
  have k4 := lA kx k1
  have k5 : aN u 0 kx = at_ := (nI_eq (by omega) hat).mp k3
  refine lv_istore_n (lv' := [(2, .int (nI kx)), (0, .ref (ad 0)), (1, .int (nI at_))]) hx hb d_Mo_back_5 rfl hl (by decide) rfl (fun ls hl => ?_)
  refine lv_aload_n hx hb d_Mo_back_6 rfl (lv_at hl 1 rfl) ?_
  refine va_get (D := (dC, dI)) (ci := 8) (v := .ref (ad 8)) (C := R_Mo) (T := F_Mo) (N := 31) hx hb hts in_Mo hown hK hP 0 rfl rfl 13 (by decide) (hts _ m_14_3) (fun _ h9 => h9) rfl d_Mo_back_7 ?_
  refine lv_iload_n hx hb d_Mo_back_10 rfl (lv_at hl 0 rfl) ?_
  refine aldM_length (u := u) (v := aN u 1 kx) hx hb hK hP (by omega) rfl d_Mo_back_11 ?_
  refine lv_istore_n (lv' := [(3, .int (nI (aN u 1 kx))), (2, .int (nI kx)), (0, .ref (ad 0)), (1, .int (nI at_))]) hx hb d_Mo_back_12 rfl hl (by decide) rfl (fun ls hl => ?_)
  refine lv_iload_n hx hb d_Mo_back_13 rfl (lv_at hl 3 rfl) ?_
  refine lv_istore (lv' := [(4, .int (nI at_)), (3, .int (nI (aN u 1 kx))), (2, .int (nI kx)), (0, .ref (ad 0)), (1, .int (nI at_))]) hx hb d_Mo_back_14 hl (by decide) rfl (fun ls hl => ?_)
  obtain ⟨o16, ho16⟩ : ∃ z : S5, z = f_Mo_back_16 at_ u kx (aN u 1 kx + 1) at_ u := ⟨_, rfl⟩
  have K16 : ∀ (v1 : S5) (H : Heap) (locs : List Loc) (ls : Array Slot), v1 = o16 → (FrM [] [] [] [] [0, 1] u v1) → va_P (dC, dI) classes (wM cI cZ ad v1) H → va_D A (wM cI cZ ad v1) → va_S A s.heap H locs → lv_has ls 6 [(3, .int (nI (aN u 1 kx))), (2, .int (nI kx)), (0, .ref (ad 0)), (1, .int (nI at_))] → W p l e (headSpec w_Mo_back rm_Mo_back).room s m ([.ref (ad 0), .int (nI at_)] : List Value).toArray below meth c H locs 0 0 (MQ below (QWv (dC, dI) classes [(cI, .int), (cZ, .boolean)] (wM cI cZ ad) A res) ([.ref (ad 0), .int (nI at_)] : List Value).toArray s 0 0 A) (F0 m 68 ls []) := by
    intro v1 H locs ls eo fo hP hD hS hl
    have ev1 := eo
    have e0 : gN v1 0 = gN u 0 := fo.2.1 0 (by decide)
    have e1 : gN v1 1 = gN u 1 := fo.2.1 1 (by decide)
    refine lv_aload_n hx hb d_Mo_back_68 rfl (lv_at hl 2 rfl) ?_
    refine lv_dup hx hb d_Mo_back_69 rfl ?_
    refine va_get (D := (dC, dI)) (ci := 8) (v := .int (nI (gN v1 0))) (C := R_Mo) (T := F_Mo) (N := 31) hx hb hts in_Mo hown hK hP 0 rfl rfl 16 (by decide) (hts _ m_14_6) (fun _ h9 => h9) rfl d_Mo_back_70 ?_
    refine lv_iconst (v := nI 1) hx hb d_Mo_back_73 (by decide) ?_
    refine lv_isub hx hb d_Mo_back_74 ?_
    refine rw_top (y := nI (gN v1 0 - 1)) (pk_sub (by omega)) ?_
    refine va_put (D := (dC, dI)) (ci := 8) (v := .int (nI (gN v1 0 - 1))) (ty := .int) (C := R_Mo) (T := F_Mo) (N := 31) hx hb hts in_Mo t_Mo t_Mo_ok n_Mo hown hK hP hD hS 0 rfl rfl 16 (by decide) (hts _ m_14_6) (fun _ h9 => h9) rfl (by decide +kernel) rfl rfl (Nat.le_of_ble_eq_true rfl) d_Mo_back_75 (fun H locs hP hD hS => ?_)
    have hP : va_P (dC, dI) classes (wM cI cZ ad (sN v1 0 (gN v1 0 - 1))) H := hP
    have hD : va_D A (wM cI cZ ad (sN v1 0 (gN v1 0 - 1))) := hD
    refine lv_aload_n hx hb d_Mo_back_78 rfl (lv_at hl 2 rfl) ?_
    refine va_get (D := (dC, dI)) (ci := 8) (v := .ref (ad 7)) (C := R_Mo) (T := F_Mo) (N := 31) hx hb hts in_Mo hown hK hP 0 rfl rfl 12 (by decide) (hts _ m_14_2) (fun _ h9 => h9) rfl d_Mo_back_79 ?_
    refine lv_iload_n hx hb d_Mo_back_82 rfl (lv_at hl 1 rfl) ?_
    refine lv_aload_n hx hb d_Mo_back_83 rfl (lv_at hl 2 rfl) ?_
    refine va_get (D := (dC, dI)) (ci := 8) (v := .ref (ad 7)) (C := R_Mo) (T := F_Mo) (N := 31) hx hb hts in_Mo hown hK hP 0 rfl rfl 12 (by decide) (hts _ m_14_2) (fun _ h9 => h9) rfl d_Mo_back_84 ?_
    refine lv_aload_n hx hb d_Mo_back_87 rfl (lv_at hl 2 rfl) ?_
    refine va_get (D := (dC, dI)) (ci := 8) (v := .int (nI (gN v1 0 - 1))) (C := R_Mo) (T := F_Mo) (N := 31) hx hb hts in_Mo hown hK hP 0 rfl rfl 16 (by decide) (hts _ m_14_6) (fun _ h9 => h9) rfl d_Mo_back_88 ?_
    refine aldM_address (u := (sN v1 0 (gN v1 0 - 1))) (v := aN v1 0 (gN v1 0 - 1)) hx hb hK hP (by omega) rfl d_Mo_back_91 ?_
    refine astM_address (u := (sN v1 0 (gN v1 0 - 1))) (n := kx) hx hb hK hP hD hS (by omega) d_Mo_back_92 (fun H locs hP hD hS => ?_)
    refine lv_aload_n hx hb d_Mo_back_93 rfl (lv_at hl 2 rfl) ?_
    refine va_get (D := (dC, dI)) (ci := 8) (v := .ref (ad 8)) (C := R_Mo) (T := F_Mo) (N := 31) hx hb hts in_Mo hown hK hP 0 rfl rfl 13 (by decide) (hts _ m_14_3) (fun _ h9 => h9) rfl d_Mo_back_94 ?_
    refine lv_iload_n hx hb d_Mo_back_97 rfl (lv_at hl 1 rfl) ?_
    refine lv_aload_n hx hb d_Mo_back_98 rfl (lv_at hl 2 rfl) ?_
    refine va_get (D := (dC, dI)) (ci := 8) (v := .ref (ad 8)) (C := R_Mo) (T := F_Mo) (N := 31) hx hb hts in_Mo hown hK hP 0 rfl rfl 13 (by decide) (hts _ m_14_3) (fun _ h9 => h9) rfl d_Mo_back_99 ?_
    refine lv_aload_n hx hb d_Mo_back_102 rfl (lv_at hl 2 rfl) ?_
    refine va_get (D := (dC, dI)) (ci := 8) (v := .int (nI (gN v1 0 - 1))) (C := R_Mo) (T := F_Mo) (N := 31) hx hb hts in_Mo hown hK hP 0 rfl rfl 16 (by decide) (hts _ m_14_6) (fun _ h9 => h9) rfl d_Mo_back_103 ?_
    refine aldM_length (u := (uN (sN v1 0 (gN v1 0 - 1)) 0 kx (aN v1 0 (gN v1 0 - 1)))) (v := aN v1 1 (gN v1 0 - 1)) hx hb hK hP (by omega) rfl d_Mo_back_106 ?_
    refine astM_length (u := (uN (sN v1 0 (gN v1 0 - 1)) 0 kx (aN v1 0 (gN v1 0 - 1)))) (n := kx) hx hb hK hP hD hS (by omega) d_Mo_back_107 (fun H locs hP hD hS => ?_)
    refine lv_aload_n hx hb d_Mo_back_108 rfl (lv_at hl 2 rfl) ?_
    refine va_get (D := (dC, dI)) (ci := 8) (v := .ref (ad 9)) (C := R_Mo) (T := F_Mo) (N := 31) hx hb hts in_Mo hown hK hP 0 rfl rfl 14 (by decide) (hts _ m_14_4) (fun _ h9 => h9) rfl d_Mo_back_109 ?_
    refine lv_aload_n hx hb d_Mo_back_112 rfl (lv_at hl 2 rfl) ?_
    refine va_get (D := (dC, dI)) (ci := 8) (v := .int (nI (gN v1 1))) (C := R_Mo) (T := F_Mo) (N := 31) hx hb hts in_Mo hown hK hP 0 rfl rfl 17 (by decide) (hts _ m_14_7) (fun _ h9 => h9) rfl d_Mo_back_113 ?_
    refine lv_iload_n hx hb d_Mo_back_116 rfl (lv_at hl 3 rfl) ?_
    refine astM_kept (u := (uN (uN (sN v1 0 (gN v1 0 - 1)) 0 kx (aN v1 0 (gN v1 0 - 1))) 1 kx (aN v1 1 (gN v1 0 - 1)))) (n := gN v1 1) hx hb hK hP hD hS (by omega) d_Mo_back_117 (fun H locs hP hD hS => ?_)
    refine lv_aload_n hx hb d_Mo_back_118 rfl (lv_at hl 2 rfl) ?_
    refine va_get (D := (dC, dI)) (ci := 8) (v := .ref (ad 10)) (C := R_Mo) (T := F_Mo) (N := 31) hx hb hts in_Mo hown hK hP 0 rfl rfl 15 (by decide) (hts _ m_14_5) (fun _ h9 => h9) rfl d_Mo_back_119 ?_
    refine lv_aload_n hx hb d_Mo_back_122 rfl (lv_at hl 2 rfl) ?_
    refine lv_dup hx hb d_Mo_back_123 rfl ?_
    refine va_get (D := (dC, dI)) (ci := 8) (v := .int (nI (gN v1 1))) (C := R_Mo) (T := F_Mo) (N := 31) hx hb hts in_Mo hown hK hP 0 rfl rfl 17 (by decide) (hts _ m_14_7) (fun _ h9 => h9) rfl d_Mo_back_124 ?_
    refine lv_dup_x1 hx hb d_Mo_back_127 rfl rfl ?_
    refine lv_iconst (v := nI 1) hx hb d_Mo_back_128 (by decide) ?_
    refine lv_iadd hx hb d_Mo_back_129 ?_
    refine rw_top (y := nI (gN v1 1 + 1)) (nI_add (gN v1 1) 1) ?_
    refine va_put (D := (dC, dI)) (ci := 8) (v := .int (nI (gN v1 1 + 1))) (ty := .int) (C := R_Mo) (T := F_Mo) (N := 31) hx hb hts in_Mo t_Mo t_Mo_ok n_Mo hown hK hP hD hS 0 rfl rfl 17 (by decide) (hts _ m_14_7) (fun _ h9 => h9) rfl (by decide +kernel) rfl rfl (Nat.le_of_ble_eq_true rfl) d_Mo_back_130 (fun H locs hP hD hS => ?_)
    have hP : va_P (dC, dI) classes (wM cI cZ ad (sN (uN (uN (uN (sN v1 0 (gN v1 0 - 1)) 0 kx (aN v1 0 (gN v1 0 - 1))) 1 kx (aN v1 1 (gN v1 0 - 1))) 2 (gN v1 1) at_) 1 (gN v1 1 + 1))) H := hP
    have hD : va_D A (wM cI cZ ad (sN (uN (uN (uN (sN v1 0 (gN v1 0 - 1)) 0 kx (aN v1 0 (gN v1 0 - 1))) 1 kx (aN v1 1 (gN v1 0 - 1))) 2 (gN v1 1) at_) 1 (gN v1 1 + 1))) := hD
    refine lv_iload_n hx hb d_Mo_back_133 rfl (lv_at hl 0 rfl) ?_
    refine astM_keptLength (u := (sN (uN (uN (uN (sN v1 0 (gN v1 0 - 1)) 0 kx (aN v1 0 (gN v1 0 - 1))) 1 kx (aN v1 1 (gN v1 0 - 1))) 2 (gN v1 1) at_) 1 (gN v1 1 + 1))) (n := gN v1 1) hx hb hK hP hD hS (by omega) d_Mo_back_134 (fun H locs hP hD hS => ?_)
    have L135 : ∀ (k : Nat) (u3 : S5) (H : Heap) (locs : List Loc) (ls : Array Slot), (gN u3 1 ≤ 799) → (gN u3 1) < k → res = f_Mo_back_135 at_ u kx k u3 → va_P (dC, dI) classes (wM cI cZ ad u3) H → va_D A (wM cI cZ ad u3) → va_S A s.heap H locs → lv_has ls 6 [(3, .int (nI (aN u 1 kx))), (2, .int (nI kx)), (0, .ref (ad 0)), (1, .int (nI at_))] → W p l e (headSpec w_Mo_back rm_Mo_back).room s m ([.ref (ad 0), .int (nI at_)] : List Value).toArray below meth c H locs 0 0 (MQ below (QWv (dC, dI) classes [(cI, .int), (cZ, .boolean)] (wM cI cZ ad) A res) ([.ref (ad 0), .int (nI at_)] : List Value).toArray s 0 0 A) (F0 m 135 ls []) := by
      intro k
      induction k with
      | zero => intro u3 H locs ls hk3 hm; exact absurd hm (Nat.not_lt_zero _)
      | succ k135 ih135 =>
        intro u3 H locs ls hk3 hm hq135 hP hD hS hl
        refine lv_aload_n hx hb d_Mo_back_135 rfl (lv_at hl 2 rfl) ?_
        refine callWi (va_runV (As := []) (rest := []) ⟨hx, hb, hml, hown, hts⟩ (c_Mo_sum2 l dC dI cI cZ ad u3 (by first | assumption | omega) H.size) (cwV 0 hts (goodV m_18_4 m_18_5 m_20_0 m_0_12 m_18_6) rfl rfl rfl (by decide +kernel) ⟨Nat.le_of_ble_eq_true rfl, Nat.le_of_ble_eq_true rfl⟩) ⟨preW_blind, va_recv hK hP (ci := 8) (q0 := 0) rfl rfl, preW_ok hP hD hK⟩ rfl rfl hl.1 rfl (lv_room (Nat.le_of_ble_eq_true rfl)) d_Mo_back_136 ⟨Nat.zero_le _, Nat.zero_le _⟩) hP hD hS hA (fun H locs hP hD hS => ?_)
        refine lv_sipush (v := 2048) hx hb d_Mo_back_139 (by decide) ?_
        have hs1 : gN u3 1 = 0 → f_Mo_sum2 u3 = 0 := s2_0 u3
        refine lv_icmp_le (tgt := 208) hx hb d_Mo_back_142 (by decide) (fun c1 => ?_) (fun c1 => ?_)
        · skip
          have hE : res = u3 := hq135.trans ((if_pos c1).trans rfl)
          exact retWv hx hb hr hP hK hD hS hE.symm d_Mo_back_208 hlocks
        · skip
          have hk1 : 1 ≤ gN u3 1 := Nat.pos_of_ne_zero (fun q => (by assumption : ¬ f_Mo_sum2 u3 ≤ 2048) (by rw [hs1 q]; decide))
          refine lv_iconst (v := nI 1) hx hb d_Mo_back_145 (by decide) ?_
          refine lv_istore (lv' := [(4, .int (nI 1)), (3, .int (nI (aN u 1 kx))), (2, .int (nI kx)), (0, .ref (ad 0)), (1, .int (nI at_))]) hx hb d_Mo_back_146 hl (by decide) rfl (fun ls hl => ?_)
          obtain ⟨o148, ho148⟩ : ∃ z : S5, z = f_Mo_back_148 at_ u kx u3 (gN u3 1 + 1) 1 u3 := ⟨_, rfl⟩
          have K148 : ∀ (v4 : S5) (H : Heap) (locs : List Loc) (ls : Array Slot), v4 = o148 → (gN v4 1 = gN u3 1) → va_P (dC, dI) classes (wM cI cZ ad v4) H → va_D A (wM cI cZ ad v4) → va_S A s.heap H locs → lv_has ls 6 [(3, .int (nI (aN u 1 kx))), (2, .int (nI kx)), (0, .ref (ad 0)), (1, .int (nI at_))] → W p l e (headSpec w_Mo_back rm_Mo_back).room s m ([.ref (ad 0), .int (nI at_)] : List Value).toArray below meth c H locs 0 0 (MQ below (QWv (dC, dI) classes [(cI, .int), (cZ, .boolean)] (wM cI cZ ad) A res) ([.ref (ad 0), .int (nI at_)] : List Value).toArray s 0 0 A) (F0 m 195 ls []) := by
            intro v4 H locs ls eo fo4 hP hD hS hl
            have ev4 := eo
            refine lv_aload_n hx hb d_Mo_back_195 rfl (lv_at hl 2 rfl) ?_
            refine lv_dup hx hb d_Mo_back_196 rfl ?_
            refine va_get (D := (dC, dI)) (ci := 8) (v := .int (nI (gN v4 1))) (C := R_Mo) (T := F_Mo) (N := 31) hx hb hts in_Mo hown hK hP 0 rfl rfl 17 (by decide) (hts _ m_14_7) (fun _ h9 => h9) rfl d_Mo_back_197 ?_
            refine lv_iconst (v := nI 1) hx hb d_Mo_back_200 (by decide) ?_
            refine lv_isub hx hb d_Mo_back_201 ?_
            refine rw_top (y := nI (gN v4 1 - 1)) (pk_sub (by omega)) ?_
            refine va_put (D := (dC, dI)) (ci := 8) (v := .int (nI (gN v4 1 - 1))) (ty := .int) (C := R_Mo) (T := F_Mo) (N := 31) hx hb hts in_Mo t_Mo t_Mo_ok n_Mo hown hK hP hD hS 0 rfl rfl 17 (by decide) (hts _ m_14_7) (fun _ h9 => h9) rfl (by decide +kernel) rfl rfl (Nat.le_of_ble_eq_true rfl) d_Mo_back_202 (fun H locs hP hD hS => ?_)
            have hP : va_P (dC, dI) classes (wM cI cZ ad (sN v4 1 (gN v4 1 - 1))) H := hP
            have hD : va_D A (wM cI cZ ad (sN v4 1 (gN v4 1 - 1))) := hD
            refine lv_goto (tgt := 135) hx hb d_Mo_back_205 (by decide) ?_
            exact ih135 (sN v4 1 (gN v4 1 - 1)) _ _ _ (show gN v4 1 - 1 ≤ 799 by omega) (show gN v4 1 - 1 < k135 by omega) ((by subst ev4; subst ho148; exact hq135.trans ((if_neg c1).trans rfl))) hP hD hS (lv_sub hl [0, 1, 2, 3] rfl)
          have L148 : ∀ (k : Nat) (i : Nat) (u4 : S5) (H : Heap) (locs : List Loc) (ls : Array Slot), (1 ≤ i ∧ i ≤ gN u3 1) → (gN u4 1 = gN u3 1) → (gN u3 1 - i) < k → o148 = f_Mo_back_148 at_ u kx u3 k i u4 → va_P (dC, dI) classes (wM cI cZ ad u4) H → va_D A (wM cI cZ ad u4) → va_S A s.heap H locs → lv_has ls 6 [(4, .int (nI i)), (3, .int (nI (aN u 1 kx))), (2, .int (nI kx)), (0, .ref (ad 0)), (1, .int (nI at_))] → W p l e (headSpec w_Mo_back rm_Mo_back).room s m ([.ref (ad 0), .int (nI at_)] : List Value).toArray below meth c H locs 0 0 (MQ below (QWv (dC, dI) classes [(cI, .int), (cZ, .boolean)] (wM cI cZ ad) A res) ([.ref (ad 0), .int (nI at_)] : List Value).toArray s 0 0 A) (F0 m 148 ls []) := by
            intro k
            induction k with
            | zero => intro i u4 H locs ls hi4 g4 hm; exact absurd hm (Nat.not_lt_zero _)
            | succ k148 ih148 =>
              intro i u4 H locs ls hi4 g4 hm hq148 hP hD hS hl
              obtain ⟨hi5, hi6⟩ := id hi4
              refine lv_iload hx hb d_Mo_back_148 (lv_at hl 0 rfl) ?_
              refine lv_aload_n hx hb d_Mo_back_150 rfl (lv_at hl 3 rfl) ?_
              refine va_get (D := (dC, dI)) (ci := 8) (v := .int (nI (gN u4 1))) (C := R_Mo) (T := F_Mo) (N := 31) hx hb hts in_Mo hown hK hP 0 rfl rfl 17 (by decide) (hts _ m_14_7) (fun _ h9 => h9) rfl d_Mo_back_151 ?_
              refine rn_ge (tgt := 195) hx hb (by omega) (by omega) d_Mo_back_154 (by decide) (fun c2 => ?_) (fun c2 => ?_)
              · skip
                exact K148 u4 _ _ _ (Eq.symm (hq148.trans ((if_neg (Nat.not_lt.mpr c2)).trans rfl))) g4 hP hD hS (lv_sub hl [1, 2, 3, 4] rfl)
              · skip
                refine lv_aload_n hx hb d_Mo_back_157 rfl (lv_at hl 3 rfl) ?_
                refine va_get (D := (dC, dI)) (ci := 8) (v := .ref (ad 9)) (C := R_Mo) (T := F_Mo) (N := 31) hx hb hts in_Mo hown hK hP 0 rfl rfl 14 (by decide) (hts _ m_14_4) (fun _ h9 => h9) rfl d_Mo_back_158 ?_
                refine lv_iload hx hb d_Mo_back_161 (lv_at hl 0 rfl) ?_
                refine lv_iconst (v := nI 1) hx hb d_Mo_back_163 (by decide) ?_
                refine lv_isub hx hb d_Mo_back_164 ?_
                refine rw_top (y := nI (i - 1)) (pk_sub (by omega)) ?_
                refine lv_aload_n hx hb d_Mo_back_165 rfl (lv_at hl 3 rfl) ?_
                refine va_get (D := (dC, dI)) (ci := 8) (v := .ref (ad 9)) (C := R_Mo) (T := F_Mo) (N := 31) hx hb hts in_Mo hown hK hP 0 rfl rfl 14 (by decide) (hts _ m_14_4) (fun _ h9 => h9) rfl d_Mo_back_166 ?_
                refine lv_iload hx hb d_Mo_back_169 (lv_at hl 0 rfl) ?_
                refine aldM_kept (u := u4) (v := aN u4 2 i) hx hb hK hP (by omega) rfl d_Mo_back_171 ?_
                refine astM_kept (u := u4) (n := i - 1) hx hb hK hP hD hS (by omega) d_Mo_back_172 (fun H locs hP hD hS => ?_)
                refine lv_aload_n hx hb d_Mo_back_173 rfl (lv_at hl 3 rfl) ?_
                refine va_get (D := (dC, dI)) (ci := 8) (v := .ref (ad 10)) (C := R_Mo) (T := F_Mo) (N := 31) hx hb hts in_Mo hown hK hP 0 rfl rfl 15 (by decide) (hts _ m_14_5) (fun _ h9 => h9) rfl d_Mo_back_174 ?_
                refine lv_iload hx hb d_Mo_back_177 (lv_at hl 0 rfl) ?_
                refine lv_iconst (v := nI 1) hx hb d_Mo_back_179 (by decide) ?_
                refine lv_isub hx hb d_Mo_back_180 ?_
                refine rw_top (y := nI (i - 1)) (pk_sub (by omega)) ?_
                refine lv_aload_n hx hb d_Mo_back_181 rfl (lv_at hl 3 rfl) ?_
                refine va_get (D := (dC, dI)) (ci := 8) (v := .ref (ad 10)) (C := R_Mo) (T := F_Mo) (N := 31) hx hb hts in_Mo hown hK hP 0 rfl rfl 15 (by decide) (hts _ m_14_5) (fun _ h9 => h9) rfl d_Mo_back_182 ?_
                refine lv_iload hx hb d_Mo_back_185 (lv_at hl 0 rfl) ?_
                refine aldM_keptLength (u := (uN u4 2 (i - 1) (aN u4 2 i))) (v := aN u4 3 i) hx hb hK hP (by omega) rfl d_Mo_back_187 ?_
                refine astM_keptLength (u := (uN u4 2 (i - 1) (aN u4 2 i))) (n := i - 1) hx hb hK hP hD hS (by omega) d_Mo_back_188 (fun H locs hP hD hS => ?_)
                refine lv_iinc (v := nI (i + 1)) (lv' := [(4, .int (nI (i + 1))), (3, .int (nI (aN u 1 kx))), (2, .int (nI kx)), (0, .ref (ad 0)), (1, .int (nI at_))]) hx hb d_Mo_back_189 hl (k := 0) rfl (rn_inc i 1 (by decide)) (by decide) rfl (fun ls hl => ?_)
                refine lv_goto (tgt := 148) hx hb d_Mo_back_192 (by decide) ?_
                exact ih148 (i + 1) (uN (uN u4 2 (i - 1) (aN u4 2 i)) 3 (i - 1) (aN u4 3 i)) _ _ _ ⟨by omega, by omega⟩ g4 (by omega) (hq148.trans ((if_pos c2).trans rfl)) hP hD hS (lv_sub hl [0, 1, 2, 3, 4] rfl)
          exact L148 (gN u3 1 + 1) 1 u3 _ _ _ ⟨by omega, by omega⟩ rfl (by omega) (ho148) hP hD hS (lv_sub hl [0, 1, 2, 3, 4] rfl)
    exact L135 (gN u 1 + 2) (uN (sN (uN (uN (uN (sN v1 0 (gN v1 0 - 1)) 0 kx (aN v1 0 (gN v1 0 - 1))) 1 kx (aN v1 1 (gN v1 0 - 1))) 2 (gN v1 1) at_) 1 (gN v1 1 + 1)) 3 (gN v1 1) (aN u 1 kx)) _ _ _ (show gN v1 1 + 1 ≤ 799 by omega) (show gN v1 1 + 1 < gN u 1 + 2 by omega) ((by subst ev1; subst ho16; subst ekx; exact hq.trans (rfl))) hP hD hS (lv_sub hl [0, 1, 2, 3] rfl)
  have L16 : ∀ (k : Nat) (i : Nat) (u1 : S5) (H : Heap) (locs : List Loc) (ls : Array Slot), (at_ ≤ i ∧ i ≤ at_ + aN u 1 kx) → (FrM [] [] [] [] [0, 1] u u1) → (at_ + aN u 1 kx - i) < k → o16 = f_Mo_back_16 at_ u kx k i u1 → va_P (dC, dI) classes (wM cI cZ ad u1) H → va_D A (wM cI cZ ad u1) → va_S A s.heap H locs → lv_has ls 6 [(4, .int (nI i)), (3, .int (nI (aN u 1 kx))), (2, .int (nI kx)), (0, .ref (ad 0)), (1, .int (nI at_))] → W p l e (headSpec w_Mo_back rm_Mo_back).room s m ([.ref (ad 0), .int (nI at_)] : List Value).toArray below meth c H locs 0 0 (MQ below (QWv (dC, dI) classes [(cI, .int), (cZ, .boolean)] (wM cI cZ ad) A res) ([.ref (ad 0), .int (nI at_)] : List Value).toArray s 0 0 A) (F0 m 16 ls []) := by
    intro k
    induction k with
    | zero => intro i u1 H locs ls hi fm hm; exact absurd hm (Nat.not_lt_zero _)
    | succ k16 ih16 =>
      intro i u1 H locs ls hi fm hm hq16 hP hD hS hl
      obtain ⟨hi1, hi2⟩ := id hi
      refine lv_iload hx hb d_Mo_back_16 (lv_at hl 0 rfl) ?_
      refine lv_iload_n hx hb d_Mo_back_18 rfl (lv_at hl 4 rfl) ?_
      refine lv_iload_n hx hb d_Mo_back_19 rfl (lv_at hl 1 rfl) ?_
      refine lv_iadd hx hb d_Mo_back_20 ?_
      refine rw_top (y := nI (at_ + (aN u 1 kx))) (nI_add at_ (aN u 1 kx)) ?_
      refine rn_ge (tgt := 68) hx hb (by omega) (by omega) d_Mo_back_21 (by decide) (fun c3 => ?_) (fun c3 => ?_)
      · skip
        exact K16 u1 _ _ _ (Eq.symm (hq16.trans ((if_neg (Nat.not_lt.mpr c3)).trans rfl))) fm hP hD hS (lv_sub hl [1, 2, 3, 4] rfl)
      · skip
        refine lv_aload_n hx hb d_Mo_back_24 rfl (lv_at hl 3 rfl) ?_
        refine va_get (D := (dC, dI)) (ci := 8) (v := .ref (ad 4)) (C := R_Mo) (T := F_Mo) (N := 31) hx hb hts in_Mo hown hK hP 0 rfl rfl 4 (by decide) (hts _ m_13_34) (fun _ h9 => h9) rfl d_Mo_back_25 ?_
        refine lv_iload hx hb d_Mo_back_28 (lv_at hl 0 rfl) ?_
        refine lv_iconst (v := 0) hx hb d_Mo_back_30 (by decide) ?_
        refine astM_open (u := u1) (v := false) (n := i) hx hb hK hP hD hS (by omega) d_Mo_back_31 (fun H locs hP hD hS => ?_)
        refine lv_iconst (v := nI 0) hx hb d_Mo_back_32 (by decide) ?_
        refine lv_istore (lv' := [(5, .int (nI 0)), (4, .int (nI i)), (3, .int (nI (aN u 1 kx))), (2, .int (nI kx)), (0, .ref (ad 0)), (1, .int (nI at_))]) hx hb d_Mo_back_33 hl (by decide) rfl (fun ls hl => ?_)
        obtain ⟨o35, ho35⟩ : ∃ z : S5, z = f_Mo_back_35 at_ u kx i 9 0 (uB u1 0 i false) := ⟨_, rfl⟩
        have K35 : ∀ (v2 : S5) (H : Heap) (locs : List Loc) (ls : Array Slot), v2 = o35 → (FrM [] [] [] [] [0, 1] u v2) → va_P (dC, dI) classes (wM cI cZ ad v2) H → va_D A (wM cI cZ ad v2) → va_S A s.heap H locs → lv_has ls 6 [(4, .int (nI i)), (3, .int (nI (aN u 1 kx))), (2, .int (nI kx)), (0, .ref (ad 0)), (1, .int (nI at_))] → W p l e (headSpec w_Mo_back rm_Mo_back).room s m ([.ref (ad 0), .int (nI at_)] : List Value).toArray below meth c H locs 0 0 (MQ below (QWv (dC, dI) classes [(cI, .int), (cZ, .boolean)] (wM cI cZ ad) A res) ([.ref (ad 0), .int (nI at_)] : List Value).toArray s 0 0 A) (F0 m 62 ls []) := by
          intro v2 H locs ls eo fo2 hP hD hS hl
          have ev2 := eo
          refine lv_iinc (v := nI (i + 1)) (lv' := [(4, .int (nI (i + 1))), (3, .int (nI (aN u 1 kx))), (2, .int (nI kx)), (0, .ref (ad 0)), (1, .int (nI at_))]) hx hb d_Mo_back_62 hl (k := 0) rfl (rn_inc i 1 (by decide)) (by decide) rfl (fun ls hl => ?_)
          refine lv_goto (tgt := 16) hx hb d_Mo_back_65 (by decide) ?_
          exact ih16 (i + 1) v2 _ _ _ ⟨by omega, by omega⟩ fo2 (by omega) ((by subst ev2; subst ho35; exact hq16.trans ((if_pos c3).trans rfl))) hP hD hS (lv_sub hl [0, 1, 2, 3, 4] rfl)
        have L35 : ∀ (k : Nat) (j : Nat) (u2 : S5) (H : Heap) (locs : List Loc) (ls : Array Slot), (j ≤ 8) → (FrM [] [] [] [] [0, 1] u u2) → (8 - j) < k → o35 = f_Mo_back_35 at_ u kx i k j u2 → va_P (dC, dI) classes (wM cI cZ ad u2) H → va_D A (wM cI cZ ad u2) → va_S A s.heap H locs → lv_has ls 6 [(5, .int (nI j)), (4, .int (nI i)), (3, .int (nI (aN u 1 kx))), (2, .int (nI kx)), (0, .ref (ad 0)), (1, .int (nI at_))] → W p l e (headSpec w_Mo_back rm_Mo_back).room s m ([.ref (ad 0), .int (nI at_)] : List Value).toArray below meth c H locs 0 0 (MQ below (QWv (dC, dI) classes [(cI, .int), (cZ, .boolean)] (wM cI cZ ad) A res) ([.ref (ad 0), .int (nI at_)] : List Value).toArray s 0 0 A) (F0 m 35 ls []) := by
          intro k
          induction k with
          | zero => intro j u2 H locs ls hj fm2 hm; exact absurd hm (Nat.not_lt_zero _)
          | succ k35 ih35 =>
            intro j u2 H locs ls hj fm2 hm hq35 hP hD hS hl
            refine lv_iload hx hb d_Mo_back_35 (lv_at hl 0 rfl) ?_
            refine lv_bipush (v := nI 8) hx hb d_Mo_back_37 (by decide) ?_
            refine rn_ge (tgt := 62) hx hb (by omega) (by omega) d_Mo_back_39 (by decide) (fun c4 => ?_) (fun c4 => ?_)
            · skip
              exact K35 u2 _ _ _ (Eq.symm (hq35.trans ((if_neg (Nat.not_lt.mpr c4)).trans rfl))) fm2 hP hD hS (lv_sub hl [1, 2, 3, 4, 5] rfl)
            · skip
              refine lv_aload_n hx hb d_Mo_back_42 rfl (lv_at hl 4 rfl) ?_
              refine va_get (D := (dC, dI)) (ci := 8) (v := .ref (ad 5)) (C := R_Mo) (T := F_Mo) (N := 31) hx hb hts in_Mo hown hK hP 0 rfl rfl 5 (by decide) (hts _ m_13_35) (fun _ h9 => h9) rfl d_Mo_back_43 ?_
              refine lv_bipush (v := nI 8) hx hb d_Mo_back_46 (by decide) ?_
              refine lv_iload hx hb d_Mo_back_48 (lv_at hl 1 rfl) ?_
              refine lv_imul hx hb d_Mo_back_50 ?_
              refine rw_top (y := nI (8 * i)) (pk_mul 8 i) ?_
              refine lv_iload hx hb d_Mo_back_51 (lv_at hl 0 rfl) ?_
              refine lv_iadd hx hb d_Mo_back_53 ?_
              refine rw_top (y := nI (8 * i + j)) (nI_add (8 * i) j) ?_
              refine lv_iconst (v := 0) hx hb d_Mo_back_54 (by decide) ?_
              refine astM_dark (u := u2) (v := false) (n := 8 * i + j) hx hb hK hP hD hS (by omega) d_Mo_back_55 (fun H locs hP hD hS => ?_)
              refine lv_iinc (v := nI (j + 1)) (lv' := [(5, .int (nI (j + 1))), (4, .int (nI i)), (3, .int (nI (aN u 1 kx))), (2, .int (nI kx)), (0, .ref (ad 0)), (1, .int (nI at_))]) hx hb d_Mo_back_56 hl (k := 0) rfl (rn_inc j 1 (by decide)) (by decide) rfl (fun ls hl => ?_)
              refine lv_goto (tgt := 35) hx hb d_Mo_back_59 (by decide) ?_
              exact ih35 (j + 1) (uB u2 1 (8 * i + j) false) _ _ _ (by first | assumption | omega) (FrM.tr fm2 (FrM.uB _ _ _ _ (by decide))) (by omega) (hq35.trans ((if_pos c4).trans rfl)) hP hD hS (lv_sub hl [0, 1, 2, 3, 4, 5] rfl)
        exact L35 9 0 (uB u1 0 i false) _ _ _ (by first | assumption | omega) (FrM.tr fm (FrM.uB _ _ _ _ (by decide))) (by omega) (ho35) hP hD hS (lv_sub hl [0, 1, 2, 3, 4, 5] rfl)
  exact L16 (aN u 1 kx + 1) at_ u _ _ _ ⟨by omega, by omega⟩ FrM.rf (by omega) (ho16) hP hD hS (lv_sub hl [0, 1, 2, 3, 4] rfl)
def w_Mo_again : List Cond := .code y_Mo_again b_Mo_again 7 (some .int) :: ALLW
def rm_Mo_again : Room := { frames := 23, cells := 0, slots := 0, locals := 668 }
theorem d_Mo_again_0 : decode b_Mo_again 0 = .ok (.iload_n 1, 1) := by decide +kernel
theorem d_Mo_again_1 : decode b_Mo_again 1 = .ok (.ifCond .ne 9, 3) := by decide +kernel
theorem d_Mo_again_4 : decode b_Mo_again 4 = .ok (.aload_n 0, 1) := by decide +kernel
theorem d_Mo_again_5 : decode b_Mo_again 5 = .ok (.iload_n 2, 1) := by decide +kernel
theorem d_Mo_again_6 : decode b_Mo_again 6 = .ok (.invokevirtual 190, 3) := by decide +kernel
theorem d_Mo_again_9 : decode b_Mo_again 9 = .ok (.ireturn, 1) := by decide +kernel
theorem d_Mo_again_10 : decode b_Mo_again 10 = .ok (.aload_n 0, 1) := by decide +kernel
theorem d_Mo_again_11 : decode b_Mo_again 11 = .ok (.iload_n 1, 1) := by decide +kernel
theorem d_Mo_again_12 : decode b_Mo_again 12 = .ok (.invokevirtual 193, 3) := by decide +kernel
theorem d_Mo_again_15 : decode b_Mo_again 15 = .ok (.ifCond .ne 5, 3) := by decide +kernel
theorem d_Mo_again_18 : decode b_Mo_again 18 = .ok (.iconst 0, 1) := by decide +kernel
theorem d_Mo_again_19 : decode b_Mo_again 19 = .ok (.ireturn, 1) := by decide +kernel
theorem d_Mo_again_20 : decode b_Mo_again 20 = .ok (.aload_n 0, 1) := by decide +kernel
theorem d_Mo_again_21 : decode b_Mo_again 21 = .ok (.getfield 34, 3) := by decide +kernel
theorem d_Mo_again_24 : decode b_Mo_again 24 = .ok (.aload_n 0, 1) := by decide +kernel
theorem d_Mo_again_25 : decode b_Mo_again 25 = .ok (.iload_n 1, 1) := by decide +kernel
theorem d_Mo_again_26 : decode b_Mo_again 26 = .ok (.invokevirtual 210, 3) := by decide +kernel
theorem d_Mo_again_29 : decode b_Mo_again 29 = .ok (.iaload, 1) := by decide +kernel
theorem d_Mo_again_30 : decode b_Mo_again 30 = .ok (.istore_n 3, 1) := by decide +kernel
theorem d_Mo_again_31 : decode b_Mo_again 31 = .ok (.aload_n 0, 1) := by decide +kernel
theorem d_Mo_again_32 : decode b_Mo_again 32 = .ok (.iload_n 2, 1) := by decide +kernel
theorem d_Mo_again_33 : decode b_Mo_again 33 = .ok (.invokevirtual 190, 3) := by decide +kernel
theorem d_Mo_again_36 : decode b_Mo_again 36 = .ok (.istore 4, 2) := by decide +kernel
theorem d_Mo_again_38 : decode b_Mo_again 38 = .ok (.iload 4, 2) := by decide +kernel
theorem d_Mo_again_40 : decode b_Mo_again 40 = .ok (.ifCond .ne 5, 3) := by decide +kernel
theorem d_Mo_again_43 : decode b_Mo_again 43 = .ok (.iconst 0, 1) := by decide +kernel
theorem d_Mo_again_44 : decode b_Mo_again 44 = .ok (.ireturn, 1) := by decide +kernel
theorem d_Mo_again_45 : decode b_Mo_again 45 = .ok (.iconst 0, 1) := by decide +kernel
theorem d_Mo_again_46 : decode b_Mo_again 46 = .ok (.istore 5, 2) := by decide +kernel
theorem d_Mo_again_48 : decode b_Mo_again 48 = .ok (.iload 5, 2) := by decide +kernel
theorem d_Mo_again_50 : decode b_Mo_again 50 = .ok (.iload_n 3, 1) := by decide +kernel
theorem d_Mo_again_51 : decode b_Mo_again 51 = .ok (.if_icmp .ge 81, 3) := by decide +kernel
theorem d_Mo_again_54 : decode b_Mo_again 54 = .ok (.iload 5, 2) := by decide +kernel
theorem d_Mo_again_56 : decode b_Mo_again 56 = .ok (.iload_n 2, 1) := by decide +kernel
theorem d_Mo_again_57 : decode b_Mo_again 57 = .ok (.if_icmp .ge 75, 3) := by decide +kernel
theorem d_Mo_again_60 : decode b_Mo_again 60 = .ok (.aload_n 0, 1) := by decide +kernel
theorem d_Mo_again_61 : decode b_Mo_again 61 = .ok (.getfield 14, 3) := by decide +kernel
theorem d_Mo_again_64 : decode b_Mo_again 64 = .ok (.iload 4, 2) := by decide +kernel
theorem d_Mo_again_66 : decode b_Mo_again 66 = .ok (.iload 5, 2) := by decide +kernel
theorem d_Mo_again_68 : decode b_Mo_again 68 = .ok (.iadd, 1) := by decide +kernel
theorem d_Mo_again_69 : decode b_Mo_again 69 = .ok (.aload_n 0, 1) := by decide +kernel
theorem d_Mo_again_70 : decode b_Mo_again 70 = .ok (.getfield 14, 3) := by decide +kernel
theorem d_Mo_again_73 : decode b_Mo_again 73 = .ok (.iload_n 1, 1) := by decide +kernel
theorem d_Mo_again_74 : decode b_Mo_again 74 = .ok (.iload 5, 2) := by decide +kernel
theorem d_Mo_again_76 : decode b_Mo_again 76 = .ok (.iadd, 1) := by decide +kernel
theorem d_Mo_again_77 : decode b_Mo_again 77 = .ok (.iaload, 1) := by decide +kernel
theorem d_Mo_again_78 : decode b_Mo_again 78 = .ok (.iastore, 1) := by decide +kernel
theorem d_Mo_again_79 : decode b_Mo_again 79 = .ok (.iconst 0, 1) := by decide +kernel
theorem d_Mo_again_80 : decode b_Mo_again 80 = .ok (.istore 6, 2) := by decide +kernel
theorem d_Mo_again_82 : decode b_Mo_again 82 = .ok (.iload 6, 2) := by decide +kernel
theorem d_Mo_again_84 : decode b_Mo_again 84 = .ok (.bipush 8, 2) := by decide +kernel
theorem d_Mo_again_86 : decode b_Mo_again 86 = .ok (.if_icmp .ge 40, 3) := by decide +kernel
theorem d_Mo_again_89 : decode b_Mo_again 89 = .ok (.aload_n 0, 1) := by decide +kernel
theorem d_Mo_again_90 : decode b_Mo_again 90 = .ok (.getfield 25, 3) := by decide +kernel
theorem d_Mo_again_93 : decode b_Mo_again 93 = .ok (.bipush 8, 2) := by decide +kernel
theorem d_Mo_again_95 : decode b_Mo_again 95 = .ok (.iload 4, 2) := by decide +kernel
theorem d_Mo_again_97 : decode b_Mo_again 97 = .ok (.iload 5, 2) := by decide +kernel
theorem d_Mo_again_99 : decode b_Mo_again 99 = .ok (.iadd, 1) := by decide +kernel
theorem d_Mo_again_100 : decode b_Mo_again 100 = .ok (.imul, 1) := by decide +kernel
theorem d_Mo_again_101 : decode b_Mo_again 101 = .ok (.iload 6, 2) := by decide +kernel
theorem d_Mo_again_103 : decode b_Mo_again 103 = .ok (.iadd, 1) := by decide +kernel
theorem d_Mo_again_104 : decode b_Mo_again 104 = .ok (.aload_n 0, 1) := by decide +kernel
theorem d_Mo_again_105 : decode b_Mo_again 105 = .ok (.getfield 25, 3) := by decide +kernel
theorem d_Mo_again_108 : decode b_Mo_again 108 = .ok (.bipush 8, 2) := by decide +kernel
theorem d_Mo_again_110 : decode b_Mo_again 110 = .ok (.iload_n 1, 1) := by decide +kernel
theorem d_Mo_again_111 : decode b_Mo_again 111 = .ok (.iload 5, 2) := by decide +kernel
theorem d_Mo_again_113 : decode b_Mo_again 113 = .ok (.iadd, 1) := by decide +kernel
theorem d_Mo_again_114 : decode b_Mo_again 114 = .ok (.imul, 1) := by decide +kernel
theorem d_Mo_again_115 : decode b_Mo_again 115 = .ok (.iload 6, 2) := by decide +kernel
theorem d_Mo_again_117 : decode b_Mo_again 117 = .ok (.iadd, 1) := by decide +kernel
theorem d_Mo_again_118 : decode b_Mo_again 118 = .ok (.baload, 1) := by decide +kernel
theorem d_Mo_again_119 : decode b_Mo_again 119 = .ok (.bastore, 1) := by decide +kernel
theorem d_Mo_again_120 : decode b_Mo_again 120 = .ok (.iinc 6 1, 3) := by decide +kernel
theorem d_Mo_again_123 : decode b_Mo_again 123 = .ok (.goto (-41), 3) := by decide +kernel
theorem d_Mo_again_126 : decode b_Mo_again 126 = .ok (.iinc 5 1, 3) := by decide +kernel
theorem d_Mo_again_129 : decode b_Mo_again 129 = .ok (.goto (-81), 3) := by decide +kernel
theorem d_Mo_again_132 : decode b_Mo_again 132 = .ok (.aload_n 0, 1) := by decide +kernel
theorem d_Mo_again_133 : decode b_Mo_again 133 = .ok (.iload_n 1, 1) := by decide +kernel
theorem d_Mo_again_134 : decode b_Mo_again 134 = .ok (.invokevirtual 197, 3) := by decide +kernel
theorem d_Mo_again_137 : decode b_Mo_again 137 = .ok (.iload 4, 2) := by decide +kernel
theorem d_Mo_again_139 : decode b_Mo_again 139 = .ok (.ireturn, 1) := by decide +kernel
def f_Mo_again_82 (a : Int32) (n : Int32) (u : S5) (kx : Nat) (i : Nat) : Nat → Nat → S5 → S5
  | 0, j, u3 => u3
  | k82 + 1, j, u3 => if j < 8 then f_Mo_again_82 a n u kx i k82 (j + 1) (uB u3 1 (8 * ((f_Mo_block n u).1 + i) + j) (aB u3 1 (8 * (a.toNatClampNeg + i) + j))) else u3
def f_Mo_again_48 (a : Int32) (n : Int32) (u : S5) (kx : Nat) : Nat → Nat → S5 → S5
  | 0, i, u2 => u2
  | k48 + 1, i, u2 => if i < (aN u 1 kx) then (if i < n.toNatClampNeg then (let v2 : S5 := f_Mo_again_82 a n u kx i 9 0 (uI u2 1 ((f_Mo_block n u).1 + i) (aI u2 1 (a.toNatClampNeg + i))); f_Mo_again_48 a n u kx k48 (i + 1) v2) else u2) else u2
def f_Mo_again (a : Int32) (n : Int32) (u : S5) : Nat × S5 := if a = 0 then ((f_Mo_block n u).1, (f_Mo_block n u).2) else if ((f_Mo_isLive a u).1) = true then (let kx : Nat := (f_Mo_find a u).toNatClampNeg; if ((f_Mo_block n u).1) = 0 then (0, (f_Mo_block n u).2) else let v1 : S5 := f_Mo_again_48 a n u kx (aN u 1 kx + 1) 0 ((f_Mo_block n u).2); ((f_Mo_block n u).1, f_Mo_back a.toNatClampNeg v1)) else (0, (f_Mo_isLive a u).2)
set_option maxHeartbeats 8000000 in
set_option maxRecDepth 100000 in
theorem c_Mo_again (l : Launch) (dC : Nat → ClassId) (dI : Nat → Nat → Nat) (cI cZ : ClassId) (ad : Nat → Nat) (u : S5) (a : Int32) (n : Int32) (h0 : gN u 0 ≤ 798) (h1 : gN u 1 ≤ 798) (ok : OkE u) (okl : OkL u) (sz : Nat) : Met l y_Mo_again w_Mo_again rm_Mo_again (PreW (dC, dI) classes [(cI, .int), (cZ, .boolean)] (wM cI cZ ad) u sz [.ref (ad 0), .int a, .int n]) (QWi (dC, dI) classes [(cI, .int), (cZ, .boolean)] (wM cI cZ ad) (va_A (wM cI cZ ad u) sz) (nI (f_Mo_again a n u).1) (f_Mo_again a n u).2) 0 0 (va_A (wM cI cZ ad u) sz) := by
  generalize hres : f_Mo_again a n u = res
  refine Met.ofW (cc := b_Mo_again) (maxL := 7) (ret := (some .int)) (by decide) rfl ?_
  intro p e s m args below meth c s₁ B hml hv
  obtain ⟨rfl, rfl, hP, hK, hD0⟩ := hv
  have hx := B.exec
  have hb := B.bytes
  have hr := B.returns
  have hts : ∀ w9 ∈ ALLW, w9.before ([.ref (ad 0), .int a, .int n] : List Value).toArray s = true := fun w9 h => atoms_spec (ws := w_Mo_again) B.pre w9 (List.mem_cons_of_mem _ h)
  have hown : s.vm.findClass R_Mo = some m.cls := findClass_of_methodNamed B.named
  have hlocks := B.notSynchronized
  have hD := hD0.self (sz := s.heap.size)
  generalize hAe : va_A (wM cI cZ ad u) s.heap.size = A at hD ⊢
  have hA : ∀ q : Nat, s.heap.size ≤ q → A q := fun q h => by rw [← hAe]; exact Or.inr h
  have hS : va_S A s.heap s.heap [] := va_S.rf
  have hl := lv_entry ([.ref (ad 0), .int a, .int n]) (n := 7) (Nat.le_of_ble_eq_true rfl)
  rw [lg_entry_eq]
  generalize (lg_sl ([.ref (ad 0), .int a, .int n]) ++ List.replicate (7 - (lg_sl ([.ref (ad 0), .int a, .int n])).length) Slot.unset).toArray = ls at hl ⊢
  have hl : lv_has ls 7 [(0, .ref (ad 0)), (1, .int a), (2, .int n)] := hl
  have hq := hres.symm
  skip
  obtain ⟨oe6, oe5⟩ := id ok
  obtain ⟨l0, l1, lA, lK⟩ := id okl
  refine lv_iload_n hx hb d_Mo_again_0 rfl (lv_at hl 1 rfl) ?_
  refine lv_if_ne (tgt := 10) hx hb d_Mo_again_1 (by decide) (fun c1 => ?_) (fun c1 => ?_)
  · skip
    refine lv_aload_n hx hb d_Mo_again_10 rfl (lv_at hl 0 rfl) ?_
    refine lv_iload_n hx hb d_Mo_again_11 rfl (lv_at hl 1 rfl) ?_
    refine callWi (va_runV (As := [.int a]) (rest := []) ⟨hx, hb, hml, hown, hts⟩ (c_Mo_isLive l dC dI cI cZ ad u a (by first | assumption | omega) (by first | assumption | omega) s.heap.size) (cwV 1 hts (goodV m_17_35 m_17_36 m_19_37 m_0_12 m_17_37) rfl rfl rfl (by decide +kernel) ⟨Nat.le_of_ble_eq_true rfl, Nat.le_of_ble_eq_true rfl⟩) ⟨preW_blind, va_recv hK hP (ci := 8) (q0 := 0) rfl rfl, preW_ok hP hD hK⟩ rfl rfl hl.1 rfl (lv_room (Nat.le_of_ble_eq_true rfl)) d_Mo_again_12 ⟨Nat.zero_le _, Nat.zero_le _⟩) hP hD hS hA (fun H locs hP hD hS => ?_)
    refine rb_ne (tgt := 20) hx hb d_Mo_again_15 (by decide) (fun c2 => ?_) (fun c2 => ?_)
    · skip
      obtain ⟨iv1, iv2⟩ := iv_1 (a := a) (u := u) (by assumption)
      obtain ⟨f1, f2, f3⟩ := fi_in l0 iv1
      rw [iv2] at hP hD
      have hP : va_P (dC, dI) classes (wM cI cZ ad u) H := hP
      have hD : va_D A (wM cI cZ ad u) := hD
      refine lv_aload_n hx hb d_Mo_again_20 rfl (lv_at hl 0 rfl) ?_
      refine va_get (D := (dC, dI)) (ci := 8) (v := .ref (ad 8)) (C := R_Mo) (T := F_Mo) (N := 31) hx hb hts in_Mo hown hK hP 0 rfl rfl 13 (by decide) (hts _ m_14_3) (fun _ h9 => h9) rfl d_Mo_again_21 ?_
      refine lv_aload_n hx hb d_Mo_again_24 rfl (lv_at hl 0 rfl) ?_
      refine lv_iload_n hx hb d_Mo_again_25 rfl (lv_at hl 1 rfl) ?_
      refine callWi (va_runV (As := [.int a]) (rest := [.ref (ad 8)]) ⟨hx, hb, hml, hown, hts⟩ (c_Mo_find l dC dI cI cZ ad u a (by first | assumption | omega) H.size) (cwV 1 hts (goodV m_17_38 m_17_39 m_19_38 m_0_12 m_18_0) rfl rfl rfl (by decide +kernel) ⟨Nat.le_of_ble_eq_true rfl, Nat.le_of_ble_eq_true rfl⟩) ⟨preW_blind, va_recv hK hP (ci := 8) (q0 := 0) rfl rfl, preW_ok hP hD hK⟩ rfl rfl hl.1 rfl (lv_room (Nat.le_of_ble_eq_true rfl)) d_Mo_again_26 ⟨Nat.zero_le _, Nat.zero_le _⟩) hP hD hS hA (fun H locs hP hD hS => ?_)
      refine rw_top (y := nI ((f_Mo_find a u).toNatClampNeg)) f1 ?_
      obtain ⟨kx, ekx⟩ : ∃ z : Nat, z = (f_Mo_find a u).toNatClampNeg := ⟨_, rfl⟩
      refine rw_top (y := nI kx) (by rw [ekx]) ?_
      have k1 : kx < gN u 0 := by rw [ekx]; exact f2
      have k3 : nI (aN u 0 kx) = a := by rw [ekx]; exact f3
      have k4 := lA kx k1
      have ha0 : a.toNatClampNeg = aN u 0 kx := by rw [← k3, nI_clamp (by omega)]
      have han : a = nI a.toNatClampNeg := by rw [ha0]; exact k3.symm
      refine aldM_length (u := u) (v := aN u 1 kx) hx hb hK hP (by omega) rfl d_Mo_again_29 ?_
      refine lv_istore_n (lv' := [(3, .int (nI (aN u 1 kx))), (0, .ref (ad 0)), (1, .int a), (2, .int n)]) hx hb d_Mo_again_30 rfl hl (by decide) rfl (fun ls hl => ?_)
      refine lv_aload_n hx hb d_Mo_again_31 rfl (lv_at hl 1 rfl) ?_
      refine lv_iload_n hx hb d_Mo_again_32 rfl (lv_at hl 3 rfl) ?_
      refine callWi (va_runV (As := [.int n]) (rest := []) ⟨hx, hb, hml, hown, hts⟩ (c_Mo_block l dC dI cI cZ ad u n (by first | assumption | omega) (by first | assumption | omega) H.size) (cwV 1 hts (goodV m_17_26 m_17_27 m_19_35 m_0_12 m_17_28) rfl rfl rfl (by decide +kernel) ⟨Nat.le_of_ble_eq_true rfl, Nat.le_of_ble_eq_true rfl⟩) ⟨preW_blind, va_recv hK hP (ci := 8) (q0 := 0) rfl rfl, preW_ok hP hD hK⟩ rfl rfl hl.1 rfl (lv_room (Nat.le_of_ble_eq_true rfl)) d_Mo_again_33 ⟨Nat.zero_le _, Nat.zero_le _⟩) hP hD hS hA (fun H locs hP hD hS => ?_)
      refine lv_istore (lv' := [(4, .int (nI ((f_Mo_block n u).1))), (3, .int (nI (aN u 1 kx))), (0, .ref (ad 0)), (1, .int a), (2, .int n)]) hx hb d_Mo_again_36 hl (by decide) rfl (fun ls hl => ?_)
      have hbl := bk_le n u
      refine lv_iload hx hb d_Mo_again_38 (lv_at hl 0 rfl) ?_
      refine rz_ne (tgt := 45) hx hb (by omega) d_Mo_again_40 (by decide) (fun c3 => ?_) (fun c3 => ?_)
      · skip
        obtain ⟨b1, b2, b3, b4⟩ := bk_in (n := n) (u := u) (by assumption)
        refine lv_iconst (v := nI 0) hx hb d_Mo_again_45 (by decide) ?_
        refine lv_istore (lv' := [(5, .int (nI 0)), (4, .int (nI ((f_Mo_block n u).1))), (3, .int (nI (aN u 1 kx))), (0, .ref (ad 0)), (1, .int a), (2, .int n)]) hx hb d_Mo_again_46 hl (by decide) rfl (fun ls hl => ?_)
        obtain ⟨o48, ho48⟩ : ∃ z : S5, z = f_Mo_again_48 a n u kx (aN u 1 kx + 1) 0 ((f_Mo_block n u).2) := ⟨_, rfl⟩
        have K48 : ∀ (v1 : S5) (H : Heap) (locs : List Loc) (ls : Array Slot), v1 = o48 → (FrM [] [] [1] [] [1] (f_Mo_block n u).2 v1) → va_P (dC, dI) classes (wM cI cZ ad v1) H → va_D A (wM cI cZ ad v1) → va_S A s.heap H locs → lv_has ls 7 [(4, .int (nI ((f_Mo_block n u).1))), (3, .int (nI (aN u 1 kx))), (0, .ref (ad 0)), (1, .int a), (2, .int n)] → W p l e (headSpec w_Mo_again rm_Mo_again).room s m ([.ref (ad 0), .int a, .int n] : List Value).toArray below meth c H locs 0 0 (MQ below (QWi (dC, dI) classes [(cI, .int), (cZ, .boolean)] (wM cI cZ ad) A (nI res.1) res.2) ([.ref (ad 0), .int a, .int n] : List Value).toArray s 0 0 A) (F0 m 132 ls []) := by
          intro v1 H locs ls eo fo hP hD hS hl
          have ev1 := eo
          have okv : OkL v1 := OkL.fm (bk_ok h0 okl) fo (by decide)
          have hv1 : gN v1 1 ≤ 798 := by rw [fo.2.1 1 (by decide), bk_1]; exact h1
          have hvf : ¬ f_Mo_find (nI a.toNatClampNeg) v1 < 0 := fi_ge (i := kx) okv.1 (by rw [fo.2.1 0 (by decide)]; exact (bk_fi k1).2.2) (by rw [fo.2.2.2.1 0 (by decide), (bk_fi k1).1, k3]; exact han)
          have hat : a.toNatClampNeg < 2 ^ 31 := by omega
          refine lv_aload_n hx hb d_Mo_again_132 rfl (lv_at hl 2 rfl) ?_
          refine lv_iload_n hx hb d_Mo_again_133 rfl (lv_at hl 3 rfl) ?_
          refine rw_top (y := nI a.toNatClampNeg) han ?_
          refine callWv (va_runV (As := [.int (nI a.toNatClampNeg)]) (rest := []) ⟨hx, hb, hml, hown, hts⟩ (c_Mo_back l dC dI cI cZ ad v1 a.toNatClampNeg (by first | assumption | omega) (by first | assumption | omega) (by first | assumption | omega) (by first | assumption | omega) H.size) (cwV 1 hts (goodV m_18_1 m_18_2 m_19_39 m_0_12 m_18_3) rfl rfl rfl (by decide +kernel) ⟨Nat.le_of_ble_eq_true rfl, Nat.le_of_ble_eq_true rfl⟩) ⟨preW_blind, va_recv hK hP (ci := 8) (q0 := 0) rfl rfl, preW_ok hP hD hK⟩ rfl rfl hl.1 rfl (lv_room (Nat.le_of_ble_eq_true rfl)) d_Mo_again_134 ⟨Nat.zero_le _, Nat.zero_le _⟩) hP hD hS hA (fun H locs hP hD hS => ?_)
          refine lv_iload hx hb d_Mo_again_137 (lv_at hl 0 rfl) ?_
          have hE : res = ((f_Mo_block n u).1, f_Mo_back a.toNatClampNeg v1) := (by subst ev1; subst ho48; subst ekx; exact hq.trans ((if_neg c1).trans ((if_pos c2).trans ((if_neg c3).trans rfl))))
          exact retWn (x := (f_Mo_block n u).1) hx hb hr hP hK hD hS (congrArg Prod.fst hE).symm (congrArg Prod.snd hE).symm d_Mo_again_139 hlocks
        have L48 : ∀ (k : Nat) (i : Nat) (u2 : S5) (H : Heap) (locs : List Loc) (ls : Array Slot), (i ≤ aN u 1 kx ∧ i ≤ n.toNatClampNeg) → (FrM [] [] [1] [] [1] (f_Mo_block n u).2 u2) → (aN u 1 kx - i) < k → o48 = f_Mo_again_48 a n u kx k i u2 → va_P (dC, dI) classes (wM cI cZ ad u2) H → va_D A (wM cI cZ ad u2) → va_S A s.heap H locs → lv_has ls 7 [(5, .int (nI i)), (4, .int (nI ((f_Mo_block n u).1))), (3, .int (nI (aN u 1 kx))), (0, .ref (ad 0)), (1, .int a), (2, .int n)] → W p l e (headSpec w_Mo_again rm_Mo_again).room s m ([.ref (ad 0), .int a, .int n] : List Value).toArray below meth c H locs 0 0 (MQ below (QWi (dC, dI) classes [(cI, .int), (cZ, .boolean)] (wM cI cZ ad) A (nI res.1) res.2) ([.ref (ad 0), .int a, .int n] : List Value).toArray s 0 0 A) (F0 m 48 ls []) := by
          intro k
          induction k with
          | zero => intro i u2 H locs ls hi fm hm; exact absurd hm (Nat.not_lt_zero _)
          | succ k48 ih48 =>
            intro i u2 H locs ls hi fm hm hq48 hP hD hS hl
            obtain ⟨hi1, hi2⟩ := id hi
            refine lv_iload hx hb d_Mo_again_48 (lv_at hl 0 rfl) ?_
            refine lv_iload_n hx hb d_Mo_again_50 rfl (lv_at hl 2 rfl) ?_
            refine rn_ge (tgt := 132) hx hb (by omega) (by omega) d_Mo_again_51 (by decide) (fun c4 => ?_) (fun c4 => ?_)
            · skip
              exact K48 u2 _ _ _ (Eq.symm (hq48.trans ((if_neg (Nat.not_lt.mpr c4)).trans rfl))) fm hP hD hS (lv_sub hl [1, 2, 3, 4, 5] rfl)
            · skip
              refine lv_iload hx hb d_Mo_again_54 (lv_at hl 0 rfl) ?_
              refine lv_iload_n hx hb d_Mo_again_56 rfl (lv_at hl 5 rfl) ?_
              refine rw_top (y := nI n.toNatClampNeg) (hp_n b1) ?_
              refine rn_ge (tgt := 132) hx hb (by omega) (by omega) d_Mo_again_57 (by decide) (fun c5 => ?_) (fun c5 => ?_)
              · skip
                exact K48 u2 _ _ _ (Eq.symm (hq48.trans ((if_pos c4).trans ((if_neg (Nat.not_lt.mpr c5)).trans rfl)))) fm hP hD hS (lv_sub hl [1, 2, 3, 4, 5] rfl)
              · skip
                refine lv_aload_n hx hb d_Mo_again_60 rfl (lv_at hl 3 rfl) ?_
                refine va_get (D := (dC, dI)) (ci := 8) (v := .ref (ad 2)) (C := R_Mo) (T := F_Mo) (N := 31) hx hb hts in_Mo hown hK hP 0 rfl rfl 2 (by decide) (hts _ m_13_32) (fun _ h9 => h9) rfl d_Mo_again_61 ?_
                refine lv_iload hx hb d_Mo_again_64 (lv_at hl 1 rfl) ?_
                refine lv_iload hx hb d_Mo_again_66 (lv_at hl 0 rfl) ?_
                refine lv_iadd hx hb d_Mo_again_68 ?_
                refine rw_top (y := nI ((f_Mo_block n u).1 + i)) (nI_add ((f_Mo_block n u).1) i) ?_
                refine lv_aload_n hx hb d_Mo_again_69 rfl (lv_at hl 3 rfl) ?_
                refine va_get (D := (dC, dI)) (ci := 8) (v := .ref (ad 2)) (C := R_Mo) (T := F_Mo) (N := 31) hx hb hts in_Mo hown hK hP 0 rfl rfl 2 (by decide) (hts _ m_13_32) (fun _ h9 => h9) rfl d_Mo_again_70 ?_
                refine lv_iload_n hx hb d_Mo_again_73 rfl (lv_at hl 4 rfl) ?_
                refine rw_top (y := nI a.toNatClampNeg) han ?_
                refine lv_iload hx hb d_Mo_again_74 (lv_at hl 0 rfl) ?_
                refine lv_iadd hx hb d_Mo_again_76 ?_
                refine rw_top (y := nI (a.toNatClampNeg + i)) (nI_add a.toNatClampNeg i) ?_
                refine aldM_octet (u := u2) (v := aI u2 1 (a.toNatClampNeg + i)) hx hb hK hP (by omega) rfl d_Mo_again_77 ?_
                refine astM_octet (u := u2) (n := (f_Mo_block n u).1 + i) hx hb hK hP hD hS (by omega) d_Mo_again_78 (fun H locs hP hD hS => ?_)
                refine lv_iconst (v := nI 0) hx hb d_Mo_again_79 (by decide) ?_
                refine lv_istore (lv' := [(6, .int (nI 0)), (5, .int (nI i)), (4, .int (nI ((f_Mo_block n u).1))), (3, .int (nI (aN u 1 kx))), (0, .ref (ad 0)), (1, .int a), (2, .int n)]) hx hb d_Mo_again_80 hl (by decide) rfl (fun ls hl => ?_)
                obtain ⟨o82, ho82⟩ : ∃ z : S5, z = f_Mo_again_82 a n u kx i 9 0 (uI u2 1 ((f_Mo_block n u).1 + i) (aI u2 1 (a.toNatClampNeg + i))) := ⟨_, rfl⟩
                have K82 : ∀ (v2 : S5) (H : Heap) (locs : List Loc) (ls : Array Slot), v2 = o82 → (FrM [] [] [1] [] [1] (f_Mo_block n u).2 v2) → va_P (dC, dI) classes (wM cI cZ ad v2) H → va_D A (wM cI cZ ad v2) → va_S A s.heap H locs → lv_has ls 7 [(5, .int (nI i)), (4, .int (nI ((f_Mo_block n u).1))), (3, .int (nI (aN u 1 kx))), (0, .ref (ad 0)), (1, .int a), (2, .int n)] → W p l e (headSpec w_Mo_again rm_Mo_again).room s m ([.ref (ad 0), .int a, .int n] : List Value).toArray below meth c H locs 0 0 (MQ below (QWi (dC, dI) classes [(cI, .int), (cZ, .boolean)] (wM cI cZ ad) A (nI res.1) res.2) ([.ref (ad 0), .int a, .int n] : List Value).toArray s 0 0 A) (F0 m 126 ls []) := by
                  intro v2 H locs ls eo fo2 hP hD hS hl
                  have ev2 := eo
                  refine lv_iinc (v := nI (i + 1)) (lv' := [(5, .int (nI (i + 1))), (4, .int (nI ((f_Mo_block n u).1))), (3, .int (nI (aN u 1 kx))), (0, .ref (ad 0)), (1, .int a), (2, .int n)]) hx hb d_Mo_again_126 hl (k := 0) rfl (rn_inc i 1 (by decide)) (by decide) rfl (fun ls hl => ?_)
                  refine lv_goto (tgt := 48) hx hb d_Mo_again_129 (by decide) ?_
                  exact ih48 (i + 1) v2 _ _ _ ⟨by omega, by omega⟩ fo2 (by omega) ((by subst ev2; subst ho82; exact hq48.trans ((if_pos c4).trans ((if_pos c5).trans rfl)))) hP hD hS (lv_sub hl [0, 1, 2, 3, 4, 5] rfl)
                have L82 : ∀ (k : Nat) (j : Nat) (u3 : S5) (H : Heap) (locs : List Loc) (ls : Array Slot), (j ≤ 8) → (FrM [] [] [1] [] [1] (f_Mo_block n u).2 u3) → (8 - j) < k → o82 = f_Mo_again_82 a n u kx i k j u3 → va_P (dC, dI) classes (wM cI cZ ad u3) H → va_D A (wM cI cZ ad u3) → va_S A s.heap H locs → lv_has ls 7 [(6, .int (nI j)), (5, .int (nI i)), (4, .int (nI ((f_Mo_block n u).1))), (3, .int (nI (aN u 1 kx))), (0, .ref (ad 0)), (1, .int a), (2, .int n)] → W p l e (headSpec w_Mo_again rm_Mo_again).room s m ([.ref (ad 0), .int a, .int n] : List Value).toArray below meth c H locs 0 0 (MQ below (QWi (dC, dI) classes [(cI, .int), (cZ, .boolean)] (wM cI cZ ad) A (nI res.1) res.2) ([.ref (ad 0), .int a, .int n] : List Value).toArray s 0 0 A) (F0 m 82 ls []) := by
                  intro k
                  induction k with
                  | zero => intro j u3 H locs ls hj fm2 hm; exact absurd hm (Nat.not_lt_zero _)
                  | succ k82 ih82 =>
                    intro j u3 H locs ls hj fm2 hm hq82 hP hD hS hl
                    refine lv_iload hx hb d_Mo_again_82 (lv_at hl 0 rfl) ?_
                    refine lv_bipush (v := nI 8) hx hb d_Mo_again_84 (by decide) ?_
                    refine rn_ge (tgt := 126) hx hb (by omega) (by omega) d_Mo_again_86 (by decide) (fun c6 => ?_) (fun c6 => ?_)
                    · skip
                      exact K82 u3 _ _ _ (Eq.symm (hq82.trans ((if_neg (Nat.not_lt.mpr c6)).trans rfl))) fm2 hP hD hS (lv_sub hl [1, 2, 3, 4, 5, 6] rfl)
                    · skip
                      refine lv_aload_n hx hb d_Mo_again_89 rfl (lv_at hl 4 rfl) ?_
                      refine va_get (D := (dC, dI)) (ci := 8) (v := .ref (ad 5)) (C := R_Mo) (T := F_Mo) (N := 31) hx hb hts in_Mo hown hK hP 0 rfl rfl 5 (by decide) (hts _ m_13_35) (fun _ h9 => h9) rfl d_Mo_again_90 ?_
                      refine lv_bipush (v := nI 8) hx hb d_Mo_again_93 (by decide) ?_
                      refine lv_iload hx hb d_Mo_again_95 (lv_at hl 2 rfl) ?_
                      refine lv_iload hx hb d_Mo_again_97 (lv_at hl 1 rfl) ?_
                      refine lv_iadd hx hb d_Mo_again_99 ?_
                      refine rw_top (y := nI ((f_Mo_block n u).1 + i)) (nI_add ((f_Mo_block n u).1) i) ?_
                      refine lv_imul hx hb d_Mo_again_100 ?_
                      refine rw_top (y := nI (8 * ((f_Mo_block n u).1 + i))) (pk_mul 8 ((f_Mo_block n u).1 + i)) ?_
                      refine lv_iload hx hb d_Mo_again_101 (lv_at hl 0 rfl) ?_
                      refine lv_iadd hx hb d_Mo_again_103 ?_
                      refine rw_top (y := nI (8 * ((f_Mo_block n u).1 + i) + j)) (nI_add (8 * ((f_Mo_block n u).1 + i)) j) ?_
                      refine lv_aload_n hx hb d_Mo_again_104 rfl (lv_at hl 4 rfl) ?_
                      refine va_get (D := (dC, dI)) (ci := 8) (v := .ref (ad 5)) (C := R_Mo) (T := F_Mo) (N := 31) hx hb hts in_Mo hown hK hP 0 rfl rfl 5 (by decide) (hts _ m_13_35) (fun _ h9 => h9) rfl d_Mo_again_105 ?_
                      refine lv_bipush (v := nI 8) hx hb d_Mo_again_108 (by decide) ?_
                      refine lv_iload_n hx hb d_Mo_again_110 rfl (lv_at hl 5 rfl) ?_
                      refine rw_top (y := nI a.toNatClampNeg) han ?_
                      refine lv_iload hx hb d_Mo_again_111 (lv_at hl 1 rfl) ?_
                      refine lv_iadd hx hb d_Mo_again_113 ?_
                      refine rw_top (y := nI (a.toNatClampNeg + i)) (nI_add a.toNatClampNeg i) ?_
                      refine lv_imul hx hb d_Mo_again_114 ?_
                      refine rw_top (y := nI (8 * (a.toNatClampNeg + i))) (pk_mul 8 (a.toNatClampNeg + i)) ?_
                      refine lv_iload hx hb d_Mo_again_115 (lv_at hl 0 rfl) ?_
                      refine lv_iadd hx hb d_Mo_again_117 ?_
                      refine rw_top (y := nI (8 * (a.toNatClampNeg + i) + j)) (nI_add (8 * (a.toNatClampNeg + i)) j) ?_
                      refine aldM_dark (u := u3) (v := aB u3 1 (8 * (a.toNatClampNeg + i) + j)) hx hb hK hP (by omega) rfl d_Mo_again_118 ?_
                      refine astM_dark (u := u3) (v := aB u3 1 (8 * (a.toNatClampNeg + i) + j)) (n := 8 * ((f_Mo_block n u).1 + i) + j) hx hb hK hP hD hS (by omega) d_Mo_again_119 (fun H locs hP hD hS => ?_)
                      refine lv_iinc (v := nI (j + 1)) (lv' := [(6, .int (nI (j + 1))), (5, .int (nI i)), (4, .int (nI ((f_Mo_block n u).1))), (3, .int (nI (aN u 1 kx))), (0, .ref (ad 0)), (1, .int a), (2, .int n)]) hx hb d_Mo_again_120 hl (k := 0) rfl (rn_inc j 1 (by decide)) (by decide) rfl (fun ls hl => ?_)
                      refine lv_goto (tgt := 82) hx hb d_Mo_again_123 (by decide) ?_
                      exact ih82 (j + 1) (uB u3 1 (8 * ((f_Mo_block n u).1 + i) + j) (aB u3 1 (8 * (a.toNatClampNeg + i) + j))) _ _ _ (by first | assumption | omega) (FrM.tr fm2 (FrM.uB _ _ _ _ (by decide))) (by omega) (hq82.trans ((if_pos c6).trans rfl)) hP hD hS (lv_sub hl [0, 1, 2, 3, 4, 5, 6] rfl)
                exact L82 9 0 (uI u2 1 ((f_Mo_block n u).1 + i) (aI u2 1 (a.toNatClampNeg + i))) _ _ _ (by first | assumption | omega) (FrM.tr fm (FrM.uI _ _ _ _ (by decide))) (by omega) (ho82) hP hD hS (lv_sub hl [0, 1, 2, 3, 4, 5, 6] rfl)
        exact L48 (aN u 1 kx + 1) 0 ((f_Mo_block n u).2) _ _ _ ⟨by omega, by omega⟩ FrM.rf (by omega) (ho48) hP hD hS (lv_sub hl [0, 1, 2, 3, 4, 5] rfl)
      · skip
        refine lv_iconst (v := nI 0) hx hb d_Mo_again_43 (by decide) ?_
        have hE : res = (0, (f_Mo_block n u).2) := (by subst ekx; exact hq.trans ((if_neg c1).trans ((if_pos c2).trans ((if_pos c3).trans rfl))))
        exact retWn (x := 0) hx hb hr hP hK hD hS (congrArg Prod.fst hE).symm (congrArg Prod.snd hE).symm d_Mo_again_44 hlocks
    · skip
      refine lv_iconst (v := nI 0) hx hb d_Mo_again_18 (by decide) ?_
      have hE : res = (0, (f_Mo_isLive a u).2) := hq.trans ((if_neg c1).trans ((if_neg c2).trans rfl))
      exact retWn (x := 0) hx hb hr hP hK hD hS (congrArg Prod.fst hE).symm (congrArg Prod.snd hE).symm d_Mo_again_19 hlocks
  · skip
    refine lv_aload_n hx hb d_Mo_again_4 rfl (lv_at hl 0 rfl) ?_
    refine lv_iload_n hx hb d_Mo_again_5 rfl (lv_at hl 2 rfl) ?_
    refine callWi (va_runV (As := [.int n]) (rest := []) ⟨hx, hb, hml, hown, hts⟩ (c_Mo_block l dC dI cI cZ ad u n (by first | assumption | omega) (by first | assumption | omega) s.heap.size) (cwV 1 hts (goodV m_17_26 m_17_27 m_19_35 m_0_12 m_17_28) rfl rfl rfl (by decide +kernel) ⟨Nat.le_of_ble_eq_true rfl, Nat.le_of_ble_eq_true rfl⟩) ⟨preW_blind, va_recv hK hP (ci := 8) (q0 := 0) rfl rfl, preW_ok hP hD hK⟩ rfl rfl hl.1 rfl (lv_room (Nat.le_of_ble_eq_true rfl)) d_Mo_again_6 ⟨Nat.zero_le _, Nat.zero_le _⟩) hP hD hS hA (fun H locs hP hD hS => ?_)
    have hE : res = ((f_Mo_block n u).1, (f_Mo_block n u).2) := hq.trans ((if_pos c1).trans rfl)
    exact retWn (x := (f_Mo_block n u).1) hx hb hr hP hK hD hS (congrArg Prod.fst hE).symm (congrArg Prod.snd hE).symm d_Mo_again_9 hlocks
