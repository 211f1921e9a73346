def w_Mo_lost : List Cond := .code y_Mo_lost b_Mo_lost 5 none :: ALLW
def rm_Mo_lost : Room := { frames := 23, cells := 0, slots := 0, locals := 669 }
theorem d_Mo_lost_0 : decode b_Mo_lost 0 = .ok (.iconst 0, 1) := by decide +kernel
theorem d_Mo_lost_1 : decode b_Mo_lost 1 = .ok (.istore_n 1, 1) := by decide +kernel
theorem d_Mo_lost_2 : decode b_Mo_lost 2 = .ok (.iload_n 1, 1) := by decide +kernel
theorem d_Mo_lost_3 : decode b_Mo_lost 3 = .ok (.aload_n 0, 1) := by decide +kernel
theorem d_Mo_lost_4 : decode b_Mo_lost 4 = .ok (.getfield 97, 3) := by decide +kernel
theorem d_Mo_lost_7 : decode b_Mo_lost 7 = .ok (.if_icmp .ge 16, 3) := by decide +kernel
theorem d_Mo_lost_10 : decode b_Mo_lost 10 = .ok (.aload_n 0, 1) := by decide +kernel
theorem d_Mo_lost_11 : decode b_Mo_lost 11 = .ok (.getfield 64, 3) := by decide +kernel
theorem d_Mo_lost_14 : decode b_Mo_lost 14 = .ok (.iload_n 1, 1) := by decide +kernel
theorem d_Mo_lost_15 : decode b_Mo_lost 15 = .ok (.iconst 0, 1) := by decide +kernel
theorem d_Mo_lost_16 : decode b_Mo_lost 16 = .ok (.bastore, 1) := by decide +kernel
theorem d_Mo_lost_17 : decode b_Mo_lost 17 = .ok (.iinc 1 1, 3) := by decide +kernel
theorem d_Mo_lost_20 : decode b_Mo_lost 20 = .ok (.goto (-18), 3) := by decide +kernel
theorem d_Mo_lost_23 : decode b_Mo_lost 23 = .ok (.iconst 1, 1) := by decide +kernel
theorem d_Mo_lost_24 : decode b_Mo_lost 24 = .ok (.istore_n 1, 1) := by decide +kernel
theorem d_Mo_lost_25 : decode b_Mo_lost 25 = .ok (.iload_n 1, 1) := by decide +kernel
theorem d_Mo_lost_26 : decode b_Mo_lost 26 = .ok (.ifCond .eq 50, 3) := by decide +kernel
theorem d_Mo_lost_29 : decode b_Mo_lost 29 = .ok (.iconst 0, 1) := by decide +kernel
theorem d_Mo_lost_30 : decode b_Mo_lost 30 = .ok (.istore_n 1, 1) := by decide +kernel
theorem d_Mo_lost_31 : decode b_Mo_lost 31 = .ok (.iconst 0, 1) := by decide +kernel
theorem d_Mo_lost_32 : decode b_Mo_lost 32 = .ok (.istore_n 2, 1) := by decide +kernel
theorem d_Mo_lost_33 : decode b_Mo_lost 33 = .ok (.iload_n 2, 1) := by decide +kernel
theorem d_Mo_lost_34 : decode b_Mo_lost 34 = .ok (.aload_n 0, 1) := by decide +kernel
theorem d_Mo_lost_35 : decode b_Mo_lost 35 = .ok (.getfield 97, 3) := by decide +kernel
theorem d_Mo_lost_38 : decode b_Mo_lost 38 = .ok (.if_icmp .ge 35, 3) := by decide +kernel
theorem d_Mo_lost_41 : decode b_Mo_lost 41 = .ok (.aload_n 0, 1) := by decide +kernel
theorem d_Mo_lost_42 : decode b_Mo_lost 42 = .ok (.getfield 64, 3) := by decide +kernel
theorem d_Mo_lost_45 : decode b_Mo_lost 45 = .ok (.iload_n 2, 1) := by decide +kernel
theorem d_Mo_lost_46 : decode b_Mo_lost 46 = .ok (.baload, 1) := by decide +kernel
theorem d_Mo_lost_47 : decode b_Mo_lost 47 = .ok (.ifCond .ne 20, 3) := by decide +kernel
theorem d_Mo_lost_50 : decode b_Mo_lost 50 = .ok (.aload_n 0, 1) := by decide +kernel
theorem d_Mo_lost_51 : decode b_Mo_lost 51 = .ok (.iload_n 2, 1) := by decide +kernel
theorem d_Mo_lost_52 : decode b_Mo_lost 52 = .ok (.invokevirtual 222, 3) := by decide +kernel
theorem d_Mo_lost_55 : decode b_Mo_lost 55 = .ok (.ifCond .eq 12, 3) := by decide +kernel
theorem d_Mo_lost_58 : decode b_Mo_lost 58 = .ok (.aload_n 0, 1) := by decide +kernel
theorem d_Mo_lost_59 : decode b_Mo_lost 59 = .ok (.getfield 64, 3) := by decide +kernel
theorem d_Mo_lost_62 : decode b_Mo_lost 62 = .ok (.iload_n 2, 1) := by decide +kernel
theorem d_Mo_lost_63 : decode b_Mo_lost 63 = .ok (.iconst 1, 1) := by decide +kernel
theorem d_Mo_lost_64 : decode b_Mo_lost 64 = .ok (.bastore, 1) := by decide +kernel
theorem d_Mo_lost_65 : decode b_Mo_lost 65 = .ok (.iconst 1, 1) := by decide +kernel
theorem d_Mo_lost_66 : decode b_Mo_lost 66 = .ok (.istore_n 1, 1) := by decide +kernel
theorem d_Mo_lost_67 : decode b_Mo_lost 67 = .ok (.iinc 2 1, 3) := by decide +kernel
theorem d_Mo_lost_70 : decode b_Mo_lost 70 = .ok (.goto (-37), 3) := by decide +kernel
theorem d_Mo_lost_73 : decode b_Mo_lost 73 = .ok (.goto (-48), 3) := by decide +kernel
theorem d_Mo_lost_76 : decode b_Mo_lost 76 = .ok (.iconst (-1), 1) := by decide +kernel
theorem d_Mo_lost_77 : decode b_Mo_lost 77 = .ok (.istore_n 2, 1) := by decide +kernel
theorem d_Mo_lost_78 : decode b_Mo_lost 78 = .ok (.iconst (-1), 1) := by decide +kernel
theorem d_Mo_lost_79 : decode b_Mo_lost 79 = .ok (.istore_n 3, 1) := by decide +kernel
theorem d_Mo_lost_80 : decode b_Mo_lost 80 = .ok (.iconst 0, 1) := by decide +kernel
theorem d_Mo_lost_81 : decode b_Mo_lost 81 = .ok (.istore 4, 2) := by decide +kernel
theorem d_Mo_lost_83 : decode b_Mo_lost 83 = .ok (.iload 4, 2) := by decide +kernel
theorem d_Mo_lost_85 : decode b_Mo_lost 85 = .ok (.aload_n 0, 1) := by decide +kernel
theorem d_Mo_lost_86 : decode b_Mo_lost 86 = .ok (.getfield 97, 3) := by decide +kernel
theorem d_Mo_lost_89 : decode b_Mo_lost 89 = .ok (.if_icmp .ge 53, 3) := by decide +kernel
theorem d_Mo_lost_92 : decode b_Mo_lost 92 = .ok (.aload_n 0, 1) := by decide +kernel
theorem d_Mo_lost_93 : decode b_Mo_lost 93 = .ok (.getfield 64, 3) := by decide +kernel
theorem d_Mo_lost_96 : decode b_Mo_lost 96 = .ok (.iload 4, 2) := by decide +kernel
theorem d_Mo_lost_98 : decode b_Mo_lost 98 = .ok (.baload, 1) := by decide +kernel
theorem d_Mo_lost_99 : decode b_Mo_lost 99 = .ok (.ifCond .ne 37, 3) := by decide +kernel
theorem d_Mo_lost_102 : decode b_Mo_lost 102 = .ok (.aload_n 0, 1) := by decide +kernel
theorem d_Mo_lost_103 : decode b_Mo_lost 103 = .ok (.getfield 31, 3) := by decide +kernel
theorem d_Mo_lost_106 : decode b_Mo_lost 106 = .ok (.iload 4, 2) := by decide +kernel
theorem d_Mo_lost_108 : decode b_Mo_lost 108 = .ok (.iaload, 1) := by decide +kernel
theorem d_Mo_lost_109 : decode b_Mo_lost 109 = .ok (.iload_n 2, 1) := by decide +kernel
theorem d_Mo_lost_110 : decode b_Mo_lost 110 = .ok (.if_icmp .le 26, 3) := by decide +kernel
theorem d_Mo_lost_113 : decode b_Mo_lost 113 = .ok (.iload_n 3, 1) := by decide +kernel
theorem d_Mo_lost_114 : decode b_Mo_lost 114 = .ok (.ifCond .lt 19, 3) := by decide +kernel
theorem d_Mo_lost_117 : decode b_Mo_lost 117 = .ok (.aload_n 0, 1) := by decide +kernel
theorem d_Mo_lost_118 : decode b_Mo_lost 118 = .ok (.getfield 31, 3) := by decide +kernel
theorem d_Mo_lost_121 : decode b_Mo_lost 121 = .ok (.iload 4, 2) := by decide +kernel
theorem d_Mo_lost_123 : decode b_Mo_lost 123 = .ok (.iaload, 1) := by decide +kernel
theorem d_Mo_lost_124 : decode b_Mo_lost 124 = .ok (.aload_n 0, 1) := by decide +kernel
theorem d_Mo_lost_125 : decode b_Mo_lost 125 = .ok (.getfield 31, 3) := by decide +kernel
theorem d_Mo_lost_128 : decode b_Mo_lost 128 = .ok (.iload_n 3, 1) := by decide +kernel
theorem d_Mo_lost_129 : decode b_Mo_lost 129 = .ok (.iaload, 1) := by decide +kernel
theorem d_Mo_lost_130 : decode b_Mo_lost 130 = .ok (.if_icmp .ge 6, 3) := by decide +kernel
theorem d_Mo_lost_133 : decode b_Mo_lost 133 = .ok (.iload 4, 2) := by decide +kernel
theorem d_Mo_lost_135 : decode b_Mo_lost 135 = .ok (.istore_n 3, 1) := by decide +kernel
theorem d_Mo_lost_136 : decode b_Mo_lost 136 = .ok (.iinc 4 1, 3) := by decide +kernel
theorem d_Mo_lost_139 : decode b_Mo_lost 139 = .ok (.goto (-56), 3) := by decide +kernel
theorem d_Mo_lost_142 : decode b_Mo_lost 142 = .ok (.iload_n 3, 1) := by decide +kernel
theorem d_Mo_lost_143 : decode b_Mo_lost 143 = .ok (.ifCond .ge 4, 3) := by decide +kernel
theorem d_Mo_lost_146 : decode b_Mo_lost 146 = .ok (.return_, 1) := by decide +kernel
theorem d_Mo_lost_147 : decode b_Mo_lost 147 = .ok (.aload_n 0, 1) := by decide +kernel
theorem d_Mo_lost_148 : decode b_Mo_lost 148 = .ok (.getfield 31, 3) := by decide +kernel
theorem d_Mo_lost_151 : decode b_Mo_lost 151 = .ok (.iload_n 3, 1) := by decide +kernel
theorem d_Mo_lost_152 : decode b_Mo_lost 152 = .ok (.iaload, 1) := by decide +kernel
theorem d_Mo_lost_153 : decode b_Mo_lost 153 = .ok (.istore_n 2, 1) := by decide +kernel
theorem d_Mo_lost_154 : decode b_Mo_lost 154 = .ok (.aload_n 0, 1) := by decide +kernel
theorem d_Mo_lost_155 : decode b_Mo_lost 155 = .ok (.bipush 8, 2) := by decide +kernel
theorem d_Mo_lost_157 : decode b_Mo_lost 157 = .ok (.iload_n 2, 1) := by decide +kernel
theorem d_Mo_lost_158 : decode b_Mo_lost 158 = .ok (.invokevirtual 128, 3) := by decide +kernel
theorem d_Mo_lost_161 : decode b_Mo_lost 161 = .ok (.goto (-83), 3) := by decide +kernel
def f_Mo_lost_83 (u : S5) (la : Int32) (u6 : S5) : Nat → Nat → Int32 → Int32
  | 0, j, le_ => 0
  | k83 + 1, j, le_ => if j < (gN u6 0) then (if (aB u6 3 j) = true then f_Mo_lost_83 u la u6 k83 (j + 1) le_ else if (nI (aN u6 0 j)) ≤ la then f_Mo_lost_83 u la u6 k83 (j + 1) le_ else if le_ < 0 then f_Mo_lost_83 u la u6 k83 (j + 1) (nI j) else if (aN u6 0 j) < (aN u6 0 le_.toNatClampNeg) then f_Mo_lost_83 u la u6 k83 (j + 1) (nI j) else f_Mo_lost_83 u la u6 k83 (j + 1) le_) else le_
def f_Mo_lost_78 (u : S5) : Nat → Int32 → S5 → S5
  | 0, la, u6 => u6
  | k78 + 1, la, u6 => let lt : Int32 := f_Mo_lost_83 u la u6 (gN u6 0 + 1) 0 (-1); if 0 ≤ lt then f_Mo_lost_78 u k78 (nI (aN u6 0 lt.toNatClampNeg)) (f_Mo_fault 8 (nI (aN u6 0 lt.toNatClampNeg)) u6) else u6
def f_Mo_lost_33 (u : S5) (u2 : S5) : Nat → Nat → Bool → S5 → (Bool × S5)
  | 0, j, mr, u3 => (false, u3)
  | k33 + 1, j, mr, u3 => if j < (gN u3 0) then (if (aB u3 3 j) = true then f_Mo_lost_33 u u2 k33 (j + 1) mr u3 else if (f_Mo_isFound j u3) = true then f_Mo_lost_33 u u2 k33 (j + 1) true (uB u3 3 j true) else f_Mo_lost_33 u u2 k33 (j + 1) mr u3) else (mr, u3)
def f_Mo_lost_25 (u : S5) : Nat → Bool → S5 → S5
  | 0, more, u2 => u2
  | k25 + 1, more, u2 => if more = true then (let o33 : Bool × S5 := f_Mo_lost_33 u u2 (gN u 0 + 1) 0 false u2; let mo : Bool := o33.1; let v3 : S5 := o33.2; f_Mo_lost_25 u k25 mo v3) else u2
def f_Mo_lost_2 (u : S5) : Nat → Nat → S5 → S5
  | 0, j, u1 => u1
  | k2 + 1, j, u1 => if j < (gN u1 0) then f_Mo_lost_2 u k2 (j + 1) (uB u1 3 j false) else u1
def f_Mo_lost (u : S5) : S5 := let v1 : S5 := f_Mo_lost_2 u (gN u 0 + 1) 0 u; let v5 : S5 := f_Mo_lost_25 u (gN u 0 + 2) true v1; f_Mo_lost_78 u (gN u 0 + 1) (-1) v5
set_option maxHeartbeats 8000000 in
set_option maxRecDepth 100000 in
theorem c_Mo_lost (l : Launch) (dC : Nat → ClassId) (dI : Nat → Nat → Nat) (cI cZ : ClassId) (ad : Nat → Nat) (u : S5) (ok : OkE u) (okl : OkL u) (sz : Nat) : Met l y_Mo_lost w_Mo_lost rm_Mo_lost (PreW (dC, dI) classes [(cI, .int), (cZ, .boolean)] (wM cI cZ ad) u sz [.ref (ad 0)]) (QWv (dC, dI) classes [(cI, .int), (cZ, .boolean)] (wM cI cZ ad) (va_A (wM cI cZ ad u) sz) (f_Mo_lost u)) 0 0 (va_A (wM cI cZ ad u) sz) := by
  generalize hres : f_Mo_lost u = res
  refine Met.ofW (cc := b_Mo_lost) (maxL := 5) (ret := none) (by decide) rfl ?_
  intro p e s m args below meth c s₁ B hml hv
  obtain ⟨rfl, rfl, hP, hK, hD0⟩ := hv
  have hx := B.exec
  have hb := B.bytes
  have hr := B.returns
  have hts : ∀ w9 ∈ ALLW, w9.before ([.ref (ad 0)] : List Value).toArray s = true := fun w9 h => atoms_spec (ws := w_Mo_lost) B.pre w9 (List.mem_cons_of_mem _ h)
  have hown : s.vm.findClass R_Mo = some m.cls := findClass_of_methodNamed B.named
  have hlocks := B.notSynchronized
  have hD := hD0.self (sz := s.heap.size)
  generalize hAe : va_A (wM cI cZ ad u) s.heap.size = A at hD ⊢
  have hA : ∀ q : Nat, s.heap.size ≤ q → A q := fun q h => by rw [← hAe]; exact Or.inr h
  have hS : va_S A s.heap s.heap [] := va_S.rf
  have hl := lv_entry ([.ref (ad 0)]) (n := 5) (Nat.le_of_ble_eq_true rfl)
  rw [lg_entry_eq]
  generalize (lg_sl ([.ref (ad 0)]) ++ List.replicate (5 - (lg_sl ([.ref (ad 0)])).length) Slot.unset).toArray = ls at hl ⊢
  have hl : lv_has ls 5 [(0, .ref (ad 0))] := hl
  have hq := hres.symm
  skip
  obtain ⟨oe6, oe5⟩ := id ok
  obtain ⟨l0, l1, lA, lK⟩ := id okl
  refine lv_iconst (v := nI 0) hx hb d_Mo_lost_0 (by decide) ?_
  refine lv_istore_n (lv' := [(1, .int (nI 0)), (0, .ref (ad 0))]) hx hb d_Mo_lost_1 rfl hl (by decide) rfl (fun ls hl => ?_)
  obtain ⟨o2, ho2⟩ : ∃ z : S5, z = f_Mo_lost_2 u (gN u 0 + 1) 0 u := ⟨_, rfl⟩
  have K2 : ∀ (v1 : S5) (H : Heap) (locs : List Loc) (ls : Array Slot), v1 = o2 → (FrM [] [] [] [] [3] u v1) → va_P (dC, dI) classes (wM cI cZ ad v1) H → va_D A (wM cI cZ ad v1) → va_S A s.heap H locs → lv_has ls 5 [(0, .ref (ad 0))] → W p l e (headSpec w_Mo_lost rm_Mo_lost).room s m ([.ref (ad 0)] : List Value).toArray below meth c H locs 0 0 (MQ below (QWv (dC, dI) classes [(cI, .int), (cZ, .boolean)] (wM cI cZ ad) A res) ([.ref (ad 0)] : List Value).toArray s 0 0 A) (F0 m 23 ls []) := by
    intro v1 H locs ls eo fo hP hD hS hl
    have ev1 := eo
    have e1 : gN v1 0 = gN u 0 := fo.2.1 0 (by decide)
    have hnf1 := nf_le v1
    refine lv_iconst (v := 1) hx hb d_Mo_lost_23 (by decide) ?_
    refine lv_istore_n (lv' := [(1, .int (b2i true)), (0, .ref (ad 0))]) hx hb d_Mo_lost_24 rfl hl (by decide) rfl (fun ls hl => ?_)
    obtain ⟨o25, ho25⟩ : ∃ z : S5, z = f_Mo_lost_25 u (gN u 0 + 2) true v1 := ⟨_, rfl⟩
    have K25 : ∀ (v5 : S5) (H : Heap) (locs : List Loc) (ls : Array Slot), v5 = o25 → (FrM [] [] [] [] [3] u v5) → va_P (dC, dI) classes (wM cI cZ ad v5) H → va_D A (wM cI cZ ad v5) → va_S A s.heap H locs → lv_has ls 5 [(0, .ref (ad 0))] → W p l e (headSpec w_Mo_lost rm_Mo_lost).room s m ([.ref (ad 0)] : List Value).toArray below meth c H locs 0 0 (MQ below (QWv (dC, dI) classes [(cI, .int), (cZ, .boolean)] (wM cI cZ ad) A res) ([.ref (ad 0)] : List Value).toArray s 0 0 A) (F0 m 76 ls []) := by
      intro v5 H locs ls eo fo5 hP hD hS hl
      have ev5 := eo
      have e5 : gN v5 0 = gN u 0 := fo5.2.1 0 (by decide)
      refine lv_iconst (v := (-1)) hx hb d_Mo_lost_76 (by decide) ?_
      refine lv_istore_n (lv' := [(2, .int (-1)), (0, .ref (ad 0))]) hx hb d_Mo_lost_77 rfl hl (by decide) rfl (fun ls hl => ?_)
      have L78 : ∀ (k : Nat) (la : Int32) (u6 : S5) (H : Heap) (locs : List Loc) (ls : Array Slot), (FrM [5] [6] [6, 7, 8, 9] [] [3] u u6) → (OkE u6) → (ng u6 la) < k → res = f_Mo_lost_78 u k la u6 → va_P (dC, dI) classes (wM cI cZ ad u6) H → va_D A (wM cI cZ ad u6) → va_S A s.heap H locs → lv_has ls 5 [(2, .int la), (0, .ref (ad 0))] → W p l e (headSpec w_Mo_lost rm_Mo_lost).room s m ([.ref (ad 0)] : List Value).toArray below meth c H locs 0 0 (MQ below (QWv (dC, dI) classes [(cI, .int), (cZ, .boolean)] (wM cI cZ ad) A res) ([.ref (ad 0)] : List Value).toArray s 0 0 A) (F0 m 78 ls []) := by
        intro k
        induction k with
        | zero => intro la u6 H locs ls fm6 oke6 hm; exact absurd hm (Nat.not_lt_zero _)
        | succ k78 ih78 =>
          intro la u6 H locs ls fm6 oke6 hm hq78 hP hD hS hl
          have e6 : gN u6 0 = gN u 0 := fm6.2.1 0 (by decide)
          obtain ⟨m0, m1, mA, mK⟩ : OkL u6 := OkL.fm okl fm6 (by decide)
          refine lv_iconst (v := (-1)) hx hb d_Mo_lost_78 (by decide) ?_
          refine lv_istore_n (lv' := [(3, .int (-1)), (2, .int la), (0, .ref (ad 0))]) hx hb d_Mo_lost_79 rfl hl (by decide) rfl (fun ls hl => ?_)
          refine lv_iconst (v := nI 0) hx hb d_Mo_lost_80 (by decide) ?_
          refine lv_istore (lv' := [(4, .int (nI 0)), (3, .int (-1)), (2, .int la), (0, .ref (ad 0))]) hx hb d_Mo_lost_81 hl (by decide) rfl (fun ls hl => ?_)
          obtain ⟨o83, ho83⟩ : ∃ z : Int32, z = f_Mo_lost_83 u la u6 (gN u6 0 + 1) 0 (-1) := ⟨_, rfl⟩
          have K83 : ∀ (lt : Int32) (H : Heap) (locs : List Loc) (ls : Array Slot), lt = o83 → (lt < 0 ∨ ∃ k, k < gN u6 0 ∧ lt = nI k ∧ (¬ aB u6 3 k = true ∧ la < nI (aN u6 0 k))) → va_P (dC, dI) classes (wM cI cZ ad u6) H → va_D A (wM cI cZ ad u6) → va_S A s.heap H locs → lv_has ls 5 [(3, .int lt), (2, .int la), (0, .ref (ad 0))] → W p l e (headSpec w_Mo_lost rm_Mo_lost).room s m ([.ref (ad 0)] : List Value).toArray below meth c H locs 0 0 (MQ below (QWv (dC, dI) classes [(cI, .int), (cZ, .boolean)] (wM cI cZ ad) A res) ([.ref (ad 0)] : List Value).toArray s 0 0 A) (F0 m 142 ls []) := by
            intro lt H locs ls eo hlt hP hD hS hl
            have elt := eo
            refine lv_iload_n hx hb d_Mo_lost_142 rfl (lv_at hl 0 rfl) ?_
            refine lv_if_ge (tgt := 147) hx hb d_Mo_lost_143 (by decide) (fun c1 => ?_) (fun c1 => ?_)
            · skip
              have hlt0 : ¬ lt < 0 := Int32.not_lt.mpr (by assumption)
              obtain ⟨hlt1, hlt2⟩ := ls_in m0 hlt0 hlt
              refine lv_aload_n hx hb d_Mo_lost_147 rfl (lv_at hl 2 rfl) ?_
              refine va_get (D := (dC, dI)) (ci := 8) (v := .ref (ad 7)) (C := R_Mo) (T := F_Mo) (N := 31) hx hb hts in_Mo hown hK hP 0 rfl rfl 12 (by decide) (hts _ m_14_2) (fun _ h9 => h9) rfl d_Mo_lost_148 ?_
              refine lv_iload_n hx hb d_Mo_lost_151 rfl (lv_at hl 0 rfl) ?_
              refine rw_top (y := nI lt.toNatClampNeg) (hp_n hlt0) ?_
              refine aldM_address (u := u6) (v := aN u6 0 lt.toNatClampNeg) hx hb hK hP (by omega) rfl d_Mo_lost_152 ?_
              refine lv_istore_n (lv' := [(2, .int (nI (aN u6 0 lt.toNatClampNeg))), (3, .int lt), (0, .ref (ad 0))]) hx hb d_Mo_lost_153 rfl hl (by decide) rfl (fun ls hl => ?_)
              refine lv_aload_n hx hb d_Mo_lost_154 rfl (lv_at hl 2 rfl) ?_
              refine lv_bipush (v := 8) hx hb d_Mo_lost_155 (by decide) ?_
              refine lv_iload_n hx hb d_Mo_lost_157 rfl (lv_at hl 0 rfl) ?_
              refine callWv (va_runV (As := [.int 8, .int (nI (aN u6 0 lt.toNatClampNeg))]) (rest := []) ⟨hx, hb, hml, hown, hts⟩ (c_Mo_fault l dC dI cI cZ ad u6 8 (nI (aN u6 0 lt.toNatClampNeg)) oke6 H.size) (cwV 2 hts (goodV m_16_4 m_16_5 m_19_19 m_0_12 m_16_6) rfl rfl rfl (by decide +kernel) ⟨Nat.le_of_ble_eq_true rfl, Nat.le_of_ble_eq_true rfl⟩) ⟨preW_blind, va_recv hK hP (ci := 8) (q0 := 0) rfl rfl, preW_ok hP hD hK⟩ rfl rfl hl.1 rfl (lv_room (Nat.le_of_ble_eq_true rfl)) d_Mo_lost_158 ⟨Nat.zero_le _, Nat.zero_le _⟩) hP hD hS hA (fun H locs hP hD hS => ?_)
              refine lv_goto (tgt := 78) hx hb d_Mo_lost_161 (by decide) ?_
              exact ih78 (nI (aN u6 0 lt.toNatClampNeg)) (f_Mo_fault 8 (nI (aN u6 0 lt.toNatClampNeg)) u6) _ _ _ (FrM.tr fm6 ((ft_fr _ _ _).wk (by simp) (by simp) (by simp) (by simp) (by simp))) (ft_ok _ _ oke6) (Nat.lt_of_lt_of_le (ng_dec (ft_fr _ _ _) (by decide) hlt1 hlt2.1 hlt2.2) (Nat.le_of_lt_succ hm)) ((by subst elt; subst ho83; exact hq78.trans ((if_pos c1).trans rfl))) hP hD hS (lv_sub hl [0, 2] rfl)
            · skip
              have hE : res = u6 := (by subst elt; subst ho83; exact hq78.trans ((if_neg c1).trans rfl))
              exact retWv hx hb hr hP hK hD hS hE.symm d_Mo_lost_146 hlocks
          have L83 : ∀ (k : Nat) (j : Nat) (le_ : Int32) (H : Heap) (locs : List Loc) (ls : Array Slot), (j ≤ gN u6 0) → (le_ < 0 ∨ ∃ k, k < gN u6 0 ∧ le_ = nI k ∧ (¬ aB u6 3 k = true ∧ la < nI (aN u6 0 k))) → (gN u6 0 - j) < k → o83 = f_Mo_lost_83 u la u6 k j le_ → va_P (dC, dI) classes (wM cI cZ ad u6) H → va_D A (wM cI cZ ad u6) → va_S A s.heap H locs → lv_has ls 5 [(4, .int (nI j)), (3, .int le_), (2, .int la), (0, .ref (ad 0))] → W p l e (headSpec w_Mo_lost rm_Mo_lost).room s m ([.ref (ad 0)] : List Value).toArray below meth c H locs 0 0 (MQ below (QWv (dC, dI) classes [(cI, .int), (cZ, .boolean)] (wM cI cZ ad) A res) ([.ref (ad 0)] : List Value).toArray s 0 0 A) (F0 m 83 ls []) := by
            intro k
            induction k with
            | zero => intro j le_ H locs ls hj hls hm; exact absurd hm (Nat.not_lt_zero _)
            | succ k83 ih83 =>
              intro j le_ H locs ls hj hls hm hq83 hP hD hS hl
              refine lv_iload hx hb d_Mo_lost_83 (lv_at hl 0 rfl) ?_
              refine lv_aload_n hx hb d_Mo_lost_85 rfl (lv_at hl 3 rfl) ?_
              refine va_get (D := (dC, dI)) (ci := 8) (v := .int (nI (gN u6 0))) (C := R_Mo) (T := F_Mo) (N := 31) hx hb hts in_Mo hown hK hP 0 rfl rfl 16 (by decide) (hts _ m_14_6) (fun _ h9 => h9) rfl d_Mo_lost_86 ?_
              refine rn_ge (tgt := 142) hx hb (by omega) (by omega) d_Mo_lost_89 (by decide) (fun c2 => ?_) (fun c2 => ?_)
              · skip
                exact K83 le_ _ _ _ (Eq.symm (hq83.trans ((if_neg (Nat.not_lt.mpr c2)).trans rfl))) hls hP hD hS (lv_sub hl [1, 2, 3] rfl)
              · skip
                refine lv_aload_n hx hb d_Mo_lost_92 rfl (lv_at hl 3 rfl) ?_
                refine va_get (D := (dC, dI)) (ci := 8) (v := .ref (ad 18)) (C := R_Mo) (T := F_Mo) (N := 31) hx hb hts in_Mo hown hK hP 0 rfl rfl 30 (by decide) (hts _ m_14_20) (fun _ h9 => h9) rfl d_Mo_lost_93 ?_
                refine lv_iload hx hb d_Mo_lost_96 (lv_at hl 0 rfl) ?_
                refine aldM_found (u := u6) (v := aB u6 3 j) hx hb hK hP (by omega) rfl d_Mo_lost_98 ?_
                refine rb_ne (tgt := 136) hx hb d_Mo_lost_99 (by decide) (fun c3 => ?_) (fun c3 => ?_)
                · skip
                  refine lv_iinc (v := nI (j + 1)) (lv' := [(4, .int (nI (j + 1))), (3, .int le_), (2, .int la), (0, .ref (ad 0))]) hx hb d_Mo_lost_136 hl (k := 0) rfl (rn_inc j 1 (by decide)) (by decide) rfl (fun ls hl => ?_)
                  refine lv_goto (tgt := 83) hx hb d_Mo_lost_139 (by decide) ?_
                  exact ih83 (j + 1) le_ _ _ _ (by first | assumption | omega) (by first | assumption | exact Or.inr ⟨j, by assumption, rfl, by assumption, Int32.not_le.mp (by assumption)⟩) (by omega) (hq83.trans ((if_pos c2).trans ((if_pos c3).trans rfl))) hP hD hS (lv_sub hl [0, 1, 2, 3] rfl)
                · skip
                  refine lv_aload_n hx hb d_Mo_lost_102 rfl (lv_at hl 3 rfl) ?_
                  refine va_get (D := (dC, dI)) (ci := 8) (v := .ref (ad 7)) (C := R_Mo) (T := F_Mo) (N := 31) hx hb hts in_Mo hown hK hP 0 rfl rfl 12 (by decide) (hts _ m_14_2) (fun _ h9 => h9) rfl d_Mo_lost_103 ?_
                  refine lv_iload hx hb d_Mo_lost_106 (lv_at hl 0 rfl) ?_
                  refine aldM_address (u := u6) (v := aN u6 0 j) hx hb hK hP (by omega) rfl d_Mo_lost_108 ?_
                  refine lv_iload_n hx hb d_Mo_lost_109 rfl (lv_at hl 2 rfl) ?_
                  refine lv_icmp_le (tgt := 136) hx hb d_Mo_lost_110 (by decide) (fun c4 => ?_) (fun c4 => ?_)
                  · skip
                    refine lv_iinc (v := nI (j + 1)) (lv' := [(4, .int (nI (j + 1))), (3, .int le_), (2, .int la), (0, .ref (ad 0))]) hx hb d_Mo_lost_136 hl (k := 0) rfl (rn_inc j 1 (by decide)) (by decide) rfl (fun ls hl => ?_)
                    refine lv_goto (tgt := 83) hx hb d_Mo_lost_139 (by decide) ?_
                    exact ih83 (j + 1) le_ _ _ _ (by first | assumption | omega) (by first | assumption | exact Or.inr ⟨j, by assumption, rfl, by assumption, Int32.not_le.mp (by assumption)⟩) (by omega) (hq83.trans ((if_pos c2).trans ((if_neg c3).trans ((if_pos c4).trans rfl)))) hP hD hS (lv_sub hl [0, 1, 2, 3] rfl)
                  · skip
                    refine lv_iload_n hx hb d_Mo_lost_113 rfl (lv_at hl 1 rfl) ?_
                    refine lv_if_lt (tgt := 133) hx hb d_Mo_lost_114 (by decide) (fun c5 => ?_) (fun c5 => ?_)
                    · skip
                      refine lv_iload hx hb d_Mo_lost_133 (lv_at hl 0 rfl) ?_
                      refine lv_istore_n (lv' := [(3, .int (nI j)), (4, .int (nI j)), (2, .int la), (0, .ref (ad 0))]) hx hb d_Mo_lost_135 rfl hl (by decide) rfl (fun ls hl => ?_)
                      refine lv_iinc (v := nI (j + 1)) (lv' := [(4, .int (nI (j + 1))), (3, .int (nI j)), (2, .int la), (0, .ref (ad 0))]) hx hb d_Mo_lost_136 hl (k := 1) rfl (rn_inc j 1 (by decide)) (by decide) rfl (fun ls hl => ?_)
                      refine lv_goto (tgt := 83) hx hb d_Mo_lost_139 (by decide) ?_
                      exact ih83 (j + 1) (nI j) _ _ _ (by first | assumption | omega) (by first | assumption | exact Or.inr ⟨j, by assumption, rfl, by assumption, Int32.not_le.mp (by assumption)⟩) (by omega) (hq83.trans ((if_pos c2).trans ((if_neg c3).trans ((if_neg c4).trans ((if_pos c5).trans rfl))))) hP hD hS (lv_sub hl [0, 1, 2, 3] rfl)
                    · skip
                      obtain ⟨hlb, -⟩ := ls_in m0 (by assumption) hls
                      have a1 := mA j (by assumption)
                      have a2 := mA _ hlb
                      refine lv_aload_n hx hb d_Mo_lost_117 rfl (lv_at hl 3 rfl) ?_
                      refine va_get (D := (dC, dI)) (ci := 8) (v := .ref (ad 7)) (C := R_Mo) (T := F_Mo) (N := 31) hx hb hts in_Mo hown hK hP 0 rfl rfl 12 (by decide) (hts _ m_14_2) (fun _ h9 => h9) rfl d_Mo_lost_118 ?_
                      refine lv_iload hx hb d_Mo_lost_121 (lv_at hl 0 rfl) ?_
                      refine aldM_address (u := u6) (v := aN u6 0 j) hx hb hK hP (by omega) rfl d_Mo_lost_123 ?_
                      refine lv_aload_n hx hb d_Mo_lost_124 rfl (lv_at hl 3 rfl) ?_
                      refine va_get (D := (dC, dI)) (ci := 8) (v := .ref (ad 7)) (C := R_Mo) (T := F_Mo) (N := 31) hx hb hts in_Mo hown hK hP 0 rfl rfl 12 (by decide) (hts _ m_14_2) (fun _ h9 => h9) rfl d_Mo_lost_125 ?_
                      refine lv_iload_n hx hb d_Mo_lost_128 rfl (lv_at hl 1 rfl) ?_
                      refine rw_top (y := nI le_.toNatClampNeg) (hp_n (by assumption)) ?_
                      refine aldM_address (u := u6) (v := aN u6 0 le_.toNatClampNeg) hx hb hK hP (by omega) rfl d_Mo_lost_129 ?_
                      refine rn_ge (tgt := 136) hx hb (by omega) (by omega) d_Mo_lost_130 (by decide) (fun c6 => ?_) (fun c6 => ?_)
                      · skip
                        refine lv_iinc (v := nI (j + 1)) (lv' := [(4, .int (nI (j + 1))), (3, .int le_), (2, .int la), (0, .ref (ad 0))]) hx hb d_Mo_lost_136 hl (k := 0) rfl (rn_inc j 1 (by decide)) (by decide) rfl (fun ls hl => ?_)
                        refine lv_goto (tgt := 83) hx hb d_Mo_lost_139 (by decide) ?_
                        exact ih83 (j + 1) le_ _ _ _ (by first | assumption | omega) (by first | assumption | exact Or.inr ⟨j, by assumption, rfl, by assumption, Int32.not_le.mp (by assumption)⟩) (by omega) (hq83.trans ((if_pos c2).trans ((if_neg c3).trans ((if_neg c4).trans ((if_neg c5).trans ((if_neg (Nat.not_lt.mpr c6)).trans rfl)))))) hP hD hS (lv_sub hl [0, 1, 2, 3] rfl)
                      · skip
                        refine lv_iload hx hb d_Mo_lost_133 (lv_at hl 0 rfl) ?_
                        refine lv_istore_n (lv' := [(3, .int (nI j)), (4, .int (nI j)), (2, .int la), (0, .ref (ad 0))]) hx hb d_Mo_lost_135 rfl hl (by decide) rfl (fun ls hl => ?_)
                        refine lv_iinc (v := nI (j + 1)) (lv' := [(4, .int (nI (j + 1))), (3, .int (nI j)), (2, .int la), (0, .ref (ad 0))]) hx hb d_Mo_lost_136 hl (k := 1) rfl (rn_inc j 1 (by decide)) (by decide) rfl (fun ls hl => ?_)
                        refine lv_goto (tgt := 83) hx hb d_Mo_lost_139 (by decide) ?_
                        exact ih83 (j + 1) (nI j) _ _ _ (by first | assumption | omega) (by first | assumption | exact Or.inr ⟨j, by assumption, rfl, by assumption, Int32.not_le.mp (by assumption)⟩) (by omega) (hq83.trans ((if_pos c2).trans ((if_neg c3).trans ((if_neg c4).trans ((if_neg c5).trans ((if_pos c6).trans rfl)))))) hP hD hS (lv_sub hl [0, 1, 2, 3] rfl)
          exact L83 (gN u6 0 + 1) 0 (-1) _ _ _ (by first | assumption | omega) (Or.inl (by decide)) (by omega) (ho83) hP hD hS (lv_sub hl [0, 1, 2, 3] rfl)
      exact L78 (gN u 0 + 1) (-1) v5 _ _ _ (fo5.wk (by simp) (by simp) (by simp) (by simp) (by simp)) (OkE.fm ok fo5 (by decide)) (by have := cntB_le (fun k => !(aB v5 3 k) && decide ((-1 : Int32) < nI (aN v5 0 k))) (gN v5 0); exact Nat.lt_succ_of_le (e5 ▸ this)) ((by subst ev5; subst ho25; subst ev1; subst ho2; exact hq.trans (rfl))) hP hD hS (lv_sub hl [0, 1] rfl)
    have L25 : ∀ (k : Nat) (more : Bool) (u2 : S5) (H : Heap) (locs : List Loc) (ls : Array Slot), (FrM [] [] [] [] [3] u u2) → (nf u2 + bz more) < k → o25 = f_Mo_lost_25 u k more u2 → va_P (dC, dI) classes (wM cI cZ ad u2) H → va_D A (wM cI cZ ad u2) → va_S A s.heap H locs → lv_has ls 5 [(1, .int (b2i more)), (0, .ref (ad 0))] → W p l e (headSpec w_Mo_lost rm_Mo_lost).room s m ([.ref (ad 0)] : List Value).toArray below meth c H locs 0 0 (MQ below (QWv (dC, dI) classes [(cI, .int), (cZ, .boolean)] (wM cI cZ ad) A res) ([.ref (ad 0)] : List Value).toArray s 0 0 A) (F0 m 25 ls []) := by
      intro k
      induction k with
      | zero => intro more u2 H locs ls fm2 hm; exact absurd hm (Nat.not_lt_zero _)
      | succ k25 ih25 =>
        intro more u2 H locs ls fm2 hm hq25 hP hD hS hl
        have e2 : gN u2 0 = gN u 0 := fm2.2.1 0 (by decide)
        refine lv_iload_n hx hb d_Mo_lost_25 rfl (lv_at hl 0 rfl) ?_
        refine rb_eq (tgt := 76) hx hb d_Mo_lost_26 (by decide) (fun c7 => ?_) (fun c7 => ?_)
        · skip
          exact K25 u2 _ _ _ (Eq.symm (hq25.trans ((if_neg c7).trans rfl))) fm2 hP hD hS (lv_sub hl [1] rfl)
        · skip
          have hb1 : bz more = 1 := by rw [show more = true by assumption]; rfl
          refine lv_iconst (v := 0) hx hb d_Mo_lost_29 (by decide) ?_
          refine lv_istore_n (lv' := [(1, .int (b2i false)), (0, .ref (ad 0))]) hx hb d_Mo_lost_30 rfl hl (by decide) rfl (fun ls hl => ?_)
          refine lv_iconst (v := nI 0) hx hb d_Mo_lost_31 (by decide) ?_
          refine lv_istore_n (lv' := [(2, .int (nI 0)), (1, .int (b2i false)), (0, .ref (ad 0))]) hx hb d_Mo_lost_32 rfl hl (by decide) rfl (fun ls hl => ?_)
          obtain ⟨o33, ho33⟩ : ∃ z : Bool × S5, z = f_Mo_lost_33 u u2 (gN u 0 + 1) 0 false u2 := ⟨_, rfl⟩
          have K33 : ∀ (mo : Bool) (v3 : S5) (H : Heap) (locs : List Loc) (ls : Array Slot), (mo, v3) = o33 → (FrM [] [] [] [] [3] u v3) → (nf v3 + bz mo ≤ nf u2) → va_P (dC, dI) classes (wM cI cZ ad v3) H → va_D A (wM cI cZ ad v3) → va_S A s.heap H locs → lv_has ls 5 [(1, .int (b2i mo)), (0, .ref (ad 0))] → W p l e (headSpec w_Mo_lost rm_Mo_lost).room s m ([.ref (ad 0)] : List Value).toArray below meth c H locs 0 0 (MQ below (QWv (dC, dI) classes [(cI, .int), (cZ, .boolean)] (wM cI cZ ad) A res) ([.ref (ad 0)] : List Value).toArray s 0 0 A) (F0 m 73 ls []) := by
            intro mo v3 H locs ls eo fo3 hn3 hP hD hS hl
            have emo : mo = o33.1 := by rw [← eo]
            have ev3 : v3 = o33.2 := by rw [← eo]
            refine lv_goto (tgt := 25) hx hb d_Mo_lost_73 (by decide) ?_
            exact ih25 mo v3 _ _ _ fo3 (by omega) ((by subst emo; subst ev3; subst ho33; exact hq25.trans ((if_pos c7).trans rfl))) hP hD hS (lv_sub hl [0, 1] rfl)
          have L33 : ∀ (k : Nat) (j : Nat) (mr : Bool) (u3 : S5) (H : Heap) (locs : List Loc) (ls : Array Slot), (j ≤ gN u 0) → (FrM [] [] [] [] [3] u u3) → (nf u3 + bz mr ≤ nf u2) → (gN u 0 - j) < k → o33 = f_Mo_lost_33 u u2 k j mr u3 → va_P (dC, dI) classes (wM cI cZ ad u3) H → va_D A (wM cI cZ ad u3) → va_S A s.heap H locs → lv_has ls 5 [(2, .int (nI j)), (1, .int (b2i mr)), (0, .ref (ad 0))] → W p l e (headSpec w_Mo_lost rm_Mo_lost).room s m ([.ref (ad 0)] : List Value).toArray below meth c H locs 0 0 (MQ below (QWv (dC, dI) classes [(cI, .int), (cZ, .boolean)] (wM cI cZ ad) A res) ([.ref (ad 0)] : List Value).toArray s 0 0 A) (F0 m 33 ls []) := by
            intro k
            induction k with
            | zero => intro j mr u3 H locs ls hj fm3 hnf hm; exact absurd hm (Nat.not_lt_zero _)
            | succ k33 ih33 =>
              intro j mr u3 H locs ls hj fm3 hnf hm hq33 hP hD hS hl
              have e3 : gN u3 0 = gN u 0 := fm3.2.1 0 (by decide)
              have okl3 : OkL u3 := OkL.fm okl fm3 (by decide)
              refine lv_iload_n hx hb d_Mo_lost_33 rfl (lv_at hl 0 rfl) ?_
              refine lv_aload_n hx hb d_Mo_lost_34 rfl (lv_at hl 2 rfl) ?_
              refine va_get (D := (dC, dI)) (ci := 8) (v := .int (nI (gN u3 0))) (C := R_Mo) (T := F_Mo) (N := 31) hx hb hts in_Mo hown hK hP 0 rfl rfl 16 (by decide) (hts _ m_14_6) (fun _ h9 => h9) rfl d_Mo_lost_35 ?_
              refine rn_ge (tgt := 73) hx hb (by omega) (by omega) d_Mo_lost_38 (by decide) (fun c8 => ?_) (fun c8 => ?_)
              · skip
                exact K33 mr u3 _ _ _ (Eq.symm (hq33.trans ((if_neg (Nat.not_lt.mpr c8)).trans rfl))) fm3 hnf hP hD hS (lv_sub hl [1, 2] rfl)
              · skip
                refine lv_aload_n hx hb d_Mo_lost_41 rfl (lv_at hl 2 rfl) ?_
                refine va_get (D := (dC, dI)) (ci := 8) (v := .ref (ad 18)) (C := R_Mo) (T := F_Mo) (N := 31) hx hb hts in_Mo hown hK hP 0 rfl rfl 30 (by decide) (hts _ m_14_20) (fun _ h9 => h9) rfl d_Mo_lost_42 ?_
                refine lv_iload_n hx hb d_Mo_lost_45 rfl (lv_at hl 0 rfl) ?_
                refine aldM_found (u := u3) (v := aB u3 3 j) hx hb hK hP (by omega) rfl d_Mo_lost_46 ?_
                refine rb_ne (tgt := 67) hx hb d_Mo_lost_47 (by decide) (fun c9 => ?_) (fun c9 => ?_)
                · skip
                  refine lv_iinc (v := nI (j + 1)) (lv' := [(2, .int (nI (j + 1))), (1, .int (b2i mr)), (0, .ref (ad 0))]) hx hb d_Mo_lost_67 hl (k := 0) rfl (rn_inc j 1 (by decide)) (by decide) rfl (fun ls hl => ?_)
                  refine lv_goto (tgt := 33) hx hb d_Mo_lost_70 (by decide) ?_
                  exact ih33 (j + 1) mr u3 _ _ _ (by first | assumption | omega) (by first | assumption | exact FrM.tr fm3 (FrM.uB _ _ _ _ (by decide))) (by first | assumption | exact nf_flip hnf (by omega) (by assumption)) (by omega) (hq33.trans ((if_pos c8).trans ((if_pos c9).trans rfl))) hP hD hS (lv_sub hl [0, 1, 2] rfl)
                · skip
                  refine lv_aload_n hx hb d_Mo_lost_50 rfl (lv_at hl 2 rfl) ?_
                  refine lv_iload_n hx hb d_Mo_lost_51 rfl (lv_at hl 0 rfl) ?_
                  refine callWi (va_runV (As := [.int (nI j)]) (rest := []) ⟨hx, hb, hml, hown, hts⟩ (c_Mo_isFound l dC dI cI cZ ad u3 j (by omega) okl3 H.size) (cwV 1 hts (goodV m_17_16 m_17_17 m_19_32 m_0_12 m_17_18) rfl rfl rfl (by decide +kernel) ⟨Nat.le_of_ble_eq_true rfl, Nat.le_of_ble_eq_true rfl⟩) ⟨preW_blind, va_recv hK hP (ci := 8) (q0 := 0) rfl rfl, preW_ok hP hD hK⟩ rfl rfl hl.1 rfl (lv_room (Nat.le_of_ble_eq_true rfl)) d_Mo_lost_52 ⟨Nat.zero_le _, Nat.zero_le _⟩) hP hD hS hA (fun H locs hP hD hS => ?_)
                  refine rb_eq (tgt := 67) hx hb d_Mo_lost_55 (by decide) (fun c10 => ?_) (fun c10 => ?_)
                  · skip
                    refine lv_iinc (v := nI (j + 1)) (lv' := [(2, .int (nI (j + 1))), (1, .int (b2i mr)), (0, .ref (ad 0))]) hx hb d_Mo_lost_67 hl (k := 0) rfl (rn_inc j 1 (by decide)) (by decide) rfl (fun ls hl => ?_)
                    refine lv_goto (tgt := 33) hx hb d_Mo_lost_70 (by decide) ?_
                    exact ih33 (j + 1) mr u3 _ _ _ (by first | assumption | omega) (by first | assumption | exact FrM.tr fm3 (FrM.uB _ _ _ _ (by decide))) (by first | assumption | exact nf_flip hnf (by omega) (by assumption)) (by omega) (hq33.trans ((if_pos c8).trans ((if_neg c9).trans ((if_neg c10).trans rfl)))) hP hD hS (lv_sub hl [0, 1, 2] rfl)
                  · skip
                    refine lv_aload_n hx hb d_Mo_lost_58 rfl (lv_at hl 2 rfl) ?_
                    refine va_get (D := (dC, dI)) (ci := 8) (v := .ref (ad 18)) (C := R_Mo) (T := F_Mo) (N := 31) hx hb hts in_Mo hown hK hP 0 rfl rfl 30 (by decide) (hts _ m_14_20) (fun _ h9 => h9) rfl d_Mo_lost_59 ?_
                    refine lv_iload_n hx hb d_Mo_lost_62 rfl (lv_at hl 0 rfl) ?_
                    refine lv_iconst (v := 1) hx hb d_Mo_lost_63 (by decide) ?_
                    refine astM_found (u := u3) (v := true) (n := j) hx hb hK hP hD hS (by omega) d_Mo_lost_64 (fun H locs hP hD hS => ?_)
                    refine lv_iconst (v := 1) hx hb d_Mo_lost_65 (by decide) ?_
                    refine lv_istore_n (lv' := [(1, .int (b2i true)), (2, .int (nI j)), (0, .ref (ad 0))]) hx hb d_Mo_lost_66 rfl hl (by decide) rfl (fun ls hl => ?_)
                    refine lv_iinc (v := nI (j + 1)) (lv' := [(2, .int (nI (j + 1))), (1, .int (b2i true)), (0, .ref (ad 0))]) hx hb d_Mo_lost_67 hl (k := 1) rfl (rn_inc j 1 (by decide)) (by decide) rfl (fun ls hl => ?_)
                    refine lv_goto (tgt := 33) hx hb d_Mo_lost_70 (by decide) ?_
                    exact ih33 (j + 1) true (uB u3 3 j true) _ _ _ (by first | assumption | omega) (by first | assumption | exact FrM.tr fm3 (FrM.uB _ _ _ _ (by decide))) (by first | assumption | exact nf_flip hnf (by omega) (by assumption)) (by omega) (hq33.trans ((if_pos c8).trans ((if_neg c9).trans ((if_pos c10).trans rfl)))) hP hD hS (lv_sub hl [0, 1, 2] rfl)
          exact L33 (gN u 0 + 1) 0 false u2 _ _ _ (by first | assumption | omega) fm2 (Nat.le_refl _) (by omega) (ho33) hP hD hS (lv_sub hl [0, 1, 2] rfl)
    exact L25 (gN u 0 + 2) true v1 _ _ _ fo (show nf v1 + 1 < gN u 0 + 2 by omega) (ho25) hP hD hS (lv_sub hl [0, 1] rfl)
  have L2 : ∀ (k : Nat) (j : Nat) (u1 : S5) (H : Heap) (locs : List Loc) (ls : Array Slot), (j ≤ gN u 0) → (FrM [] [] [] [] [3] u u1) → (gN u 0 - j) < k → o2 = f_Mo_lost_2 u k j u1 → va_P (dC, dI) classes (wM cI cZ ad u1) H → va_D A (wM cI cZ ad u1) → va_S A s.heap H locs → lv_has ls 5 [(1, .int (nI j)), (0, .ref (ad 0))] → W p l e (headSpec w_Mo_lost rm_Mo_lost).room s m ([.ref (ad 0)] : List Value).toArray below meth c H locs 0 0 (MQ below (QWv (dC, dI) classes [(cI, .int), (cZ, .boolean)] (wM cI cZ ad) A res) ([.ref (ad 0)] : List Value).toArray s 0 0 A) (F0 m 2 ls []) := by
    intro k
    induction k with
    | zero => intro j u1 H locs ls hj fm hm; exact absurd hm (Nat.not_lt_zero _)
    | succ k2 ih2 =>
      intro j u1 H locs ls hj fm hm hq2 hP hD hS hl
      have e0 : gN u1 0 = gN u 0 := fm.2.1 0 (by decide)
      refine lv_iload_n hx hb d_Mo_lost_2 rfl (lv_at hl 0 rfl) ?_
      refine lv_aload_n hx hb d_Mo_lost_3 rfl (lv_at hl 1 rfl) ?_
      refine va_get (D := (dC, dI)) (ci := 8) (v := .int (nI (gN u1 0))) (C := R_Mo) (T := F_Mo) (N := 31) hx hb hts in_Mo hown hK hP 0 rfl rfl 16 (by decide) (hts _ m_14_6) (fun _ h9 => h9) rfl d_Mo_lost_4 ?_
      refine rn_ge (tgt := 23) hx hb (by omega) (by omega) d_Mo_lost_7 (by decide) (fun c11 => ?_) (fun c11 => ?_)
      · skip
        exact K2 u1 _ _ _ (Eq.symm (hq2.trans ((if_neg (Nat.not_lt.mpr c11)).trans rfl))) fm hP hD hS (lv_sub hl [1] rfl)
      · skip
        refine lv_aload_n hx hb d_Mo_lost_10 rfl (lv_at hl 1 rfl) ?_
        refine va_get (D := (dC, dI)) (ci := 8) (v := .ref (ad 18)) (C := R_Mo) (T := F_Mo) (N := 31) hx hb hts in_Mo hown hK hP 0 rfl rfl 30 (by decide) (hts _ m_14_20) (fun _ h9 => h9) rfl d_Mo_lost_11 ?_
        refine lv_iload_n hx hb d_Mo_lost_14 rfl (lv_at hl 0 rfl) ?_
        refine lv_iconst (v := 0) hx hb d_Mo_lost_15 (by decide) ?_
        refine astM_found (u := u1) (v := false) (n := j) hx hb hK hP hD hS (by omega) d_Mo_lost_16 (fun H locs hP hD hS => ?_)
        refine lv_iinc (v := nI (j + 1)) (lv' := [(1, .int (nI (j + 1))), (0, .ref (ad 0))]) hx hb d_Mo_lost_17 hl (k := 0) rfl (rn_inc j 1 (by decide)) (by decide) rfl (fun ls hl => ?_)
        refine lv_goto (tgt := 2) hx hb d_Mo_lost_20 (by decide) ?_
        exact ih2 (j + 1) (uB u1 3 j false) _ _ _ (by first | assumption | omega) (FrM.tr fm (FrM.uB _ _ _ _ (by decide))) (by omega) (hq2.trans ((if_pos c11).trans rfl)) hP hD hS (lv_sub hl [0, 1] rfl)
  exact L2 (gN u 0 + 1) 0 u _ _ _ (by first | assumption | omega) FrM.rf (by omega) (ho2) hP hD hS (lv_sub hl [0, 1] rfl)
