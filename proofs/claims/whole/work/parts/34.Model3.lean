def w_Mo_takes : List Cond := .code y_Mo_takes b_Mo_takes 1 (some .int) :: ALLW
def rm_Mo_takes : Room := { frames := 20, cells := 0, slots := 0, locals := 600 }
theorem d_Mo_takes_0 : decode b_Mo_takes 0 = .ok (.iload_n 0, 1) := by decide +kernel
theorem d_Mo_takes_1 : decode b_Mo_takes 1 = .ok (.bipush 16, 2) := by decide +kernel
theorem d_Mo_takes_3 : decode b_Mo_takes 3 = .ok (.if_icmp .gt 8, 3) := by decide +kernel
theorem d_Mo_takes_6 : decode b_Mo_takes 6 = .ok (.bipush 16, 2) := by decide +kernel
theorem d_Mo_takes_8 : decode b_Mo_takes 8 = .ok (.goto 13, 3) := by decide +kernel
theorem d_Mo_takes_11 : decode b_Mo_takes 11 = .ok (.iload_n 0, 1) := by decide +kernel
theorem d_Mo_takes_12 : decode b_Mo_takes 12 = .ok (.bipush 15, 2) := by decide +kernel
theorem d_Mo_takes_14 : decode b_Mo_takes 14 = .ok (.iadd, 1) := by decide +kernel
theorem d_Mo_takes_15 : decode b_Mo_takes 15 = .ok (.bipush 16, 2) := by decide +kernel
theorem d_Mo_takes_17 : decode b_Mo_takes 17 = .ok (.idiv, 1) := by decide +kernel
theorem d_Mo_takes_18 : decode b_Mo_takes 18 = .ok (.bipush 16, 2) := by decide +kernel
theorem d_Mo_takes_20 : decode b_Mo_takes 20 = .ok (.imul, 1) := by decide +kernel
theorem d_Mo_takes_21 : decode b_Mo_takes 21 = .ok (.ireturn, 1) := by decide +kernel
def f_Mo_takes (n : Nat) : Nat := if n ≤ 16 then 16 else ((n + 15) / 16) * 16
set_option maxHeartbeats 8000000 in
set_option maxRecDepth 100000 in
theorem c_Mo_takes (l : Launch) (n : Nat) (hn : n ≤ 30000) (sz : Nat) : Met l y_Mo_takes w_Mo_takes rm_Mo_takes (PreP sz [.int (nI n)]) (QPi (fun q : Nat => sz ≤ q) (nI (f_Mo_takes n))) 0 0 (fun q : Nat => sz ≤ q) := by
  generalize hres : f_Mo_takes n = res
  refine Met.ofW (cc := b_Mo_takes) (maxL := 1) (ret := (some .int)) (by decide) rfl ?_
  intro p e s m args below meth c s₁ B hml hv
  obtain ⟨rfl, rfl⟩ := hv
  have hx := B.exec
  have hb := B.bytes
  have hr := B.returns
  have hts : ∀ w9 ∈ ALLW, w9.before ([.int (nI n)] : List Value).toArray s = true := fun w9 h => atoms_spec (ws := w_Mo_takes) B.pre w9 (List.mem_cons_of_mem _ h)
  have hown : s.vm.findClass R_Mo = some m.cls := findClass_of_methodNamed B.named
  have hlocks := B.notSynchronized
  generalize hAe : (fun q : Nat => s.heap.size ≤ q) = A
  have hA : ∀ q : Nat, s.heap.size ≤ q → A q := fun q h => by rw [← hAe]; exact h
  have hS : va_S A s.heap s.heap [] := va_S.rf
  have hl := lv_entry ([.int (nI n)]) (n := 1) (Nat.le_of_ble_eq_true rfl)
  rw [lg_entry_eq]
  generalize (lg_sl ([.int (nI n)]) ++ List.replicate (1 - (lg_sl ([.int (nI n)])).length) Slot.unset).toArray = ls at hl ⊢
  have hl : lv_has ls 1 [(0, .int (nI n))] := hl
  have hq := hres.symm
  refine lv_iload_n hx hb d_Mo_takes_0 rfl (lv_at hl 0 rfl) ?_
  refine lv_bipush (v := nI 16) hx hb d_Mo_takes_1 (by decide) ?_
  refine rn_gt (tgt := 11) hx hb (by omega) (by omega) d_Mo_takes_3 (by decide) (fun c1 => ?_) (fun c1 => ?_)
  · skip
    refine lv_iload_n hx hb d_Mo_takes_11 rfl (lv_at hl 0 rfl) ?_
    refine lv_bipush (v := nI 15) hx hb d_Mo_takes_12 (by decide) ?_
    refine lv_iadd hx hb d_Mo_takes_14 ?_
    refine rw_top (y := nI (n + 15)) (nI_add n 15) ?_
    refine lv_bipush (v := nI 16) hx hb d_Mo_takes_15 (by decide) ?_
    refine lv_idiv hx hb d_Mo_takes_17 (by decide) ?_
    refine rw_top (y := nI ((n + 15) / 16)) (pk_div (by omega) (by omega) (by omega)) ?_
    refine lv_bipush (v := nI 16) hx hb d_Mo_takes_18 (by decide) ?_
    refine lv_imul hx hb d_Mo_takes_20 ?_
    refine rw_top (y := nI (((n + 15) / 16) * 16)) (pk_mul ((n + 15) / 16) 16) ?_
    have hE : res = ((n + 15) / 16) * 16 := hq.trans ((if_neg (Nat.not_le.mpr c1)).trans rfl)
    exact retPn (x := ((n + 15) / 16) * 16) hx hb hr hS hE.symm d_Mo_takes_21 hlocks
  · skip
    refine lv_bipush (v := nI 16) hx hb d_Mo_takes_6 (by decide) ?_
    refine lv_goto (tgt := 21) hx hb d_Mo_takes_8 (by decide) ?_
    have hE : res = 16 := hq.trans ((if_pos c1).trans rfl)
    exact retPn (x := 16) hx hb hr hS hE.symm d_Mo_takes_21 hlocks
theorem tk_b (n : Nat) : 16 ≤ f_Mo_takes n ∧ n ≤ f_Mo_takes n ∧ f_Mo_takes n ≤ n + 16 := by
  unfold f_Mo_takes
  split <;> omega
def w_Mo_taken : List Cond := .code y_Mo_taken b_Mo_taken 4 (some .boolean) :: ALLW
def rm_Mo_taken : Room := { frames := 21, cells := 0, slots := 0, locals := 620 }
theorem d_Mo_taken_0 : decode b_Mo_taken 0 = .ok (.iconst 0, 1) := by decide +kernel
theorem d_Mo_taken_1 : decode b_Mo_taken 1 = .ok (.istore_n 3, 1) := by decide +kernel
theorem d_Mo_taken_2 : decode b_Mo_taken 2 = .ok (.iload_n 3, 1) := by decide +kernel
theorem d_Mo_taken_3 : decode b_Mo_taken 3 = .ok (.aload_n 0, 1) := by decide +kernel
theorem d_Mo_taken_4 : decode b_Mo_taken 4 = .ok (.getfield 97, 3) := by decide +kernel
theorem d_Mo_taken_7 : decode b_Mo_taken 7 = .ok (.if_icmp .ge 41, 3) := by decide +kernel
theorem d_Mo_taken_10 : decode b_Mo_taken 10 = .ok (.aload_n 0, 1) := by decide +kernel
theorem d_Mo_taken_11 : decode b_Mo_taken 11 = .ok (.getfield 31, 3) := by decide +kernel
theorem d_Mo_taken_14 : decode b_Mo_taken 14 = .ok (.iload_n 3, 1) := by decide +kernel
theorem d_Mo_taken_15 : decode b_Mo_taken 15 = .ok (.iaload, 1) := by decide +kernel
theorem d_Mo_taken_16 : decode b_Mo_taken 16 = .ok (.iload_n 2, 1) := by decide +kernel
theorem d_Mo_taken_17 : decode b_Mo_taken 17 = .ok (.if_icmp .ge 25, 3) := by decide +kernel
theorem d_Mo_taken_20 : decode b_Mo_taken 20 = .ok (.aload_n 0, 1) := by decide +kernel
theorem d_Mo_taken_21 : decode b_Mo_taken 21 = .ok (.getfield 31, 3) := by decide +kernel
theorem d_Mo_taken_24 : decode b_Mo_taken 24 = .ok (.iload_n 3, 1) := by decide +kernel
theorem d_Mo_taken_25 : decode b_Mo_taken 25 = .ok (.iaload, 1) := by decide +kernel
theorem d_Mo_taken_26 : decode b_Mo_taken 26 = .ok (.aload_n 0, 1) := by decide +kernel
theorem d_Mo_taken_27 : decode b_Mo_taken 27 = .ok (.getfield 34, 3) := by decide +kernel
theorem d_Mo_taken_30 : decode b_Mo_taken 30 = .ok (.iload_n 3, 1) := by decide +kernel
theorem d_Mo_taken_31 : decode b_Mo_taken 31 = .ok (.iaload, 1) := by decide +kernel
theorem d_Mo_taken_32 : decode b_Mo_taken 32 = .ok (.invokestatic 203, 3) := by decide +kernel
theorem d_Mo_taken_35 : decode b_Mo_taken 35 = .ok (.iadd, 1) := by decide +kernel
theorem d_Mo_taken_36 : decode b_Mo_taken 36 = .ok (.iload_n 1, 1) := by decide +kernel
theorem d_Mo_taken_37 : decode b_Mo_taken 37 = .ok (.if_icmp .le 5, 3) := by decide +kernel
theorem d_Mo_taken_40 : decode b_Mo_taken 40 = .ok (.iconst 1, 1) := by decide +kernel
theorem d_Mo_taken_41 : decode b_Mo_taken 41 = .ok (.ireturn, 1) := by decide +kernel
theorem d_Mo_taken_42 : decode b_Mo_taken 42 = .ok (.iinc 3 1, 3) := by decide +kernel
theorem d_Mo_taken_45 : decode b_Mo_taken 45 = .ok (.goto (-43), 3) := by decide +kernel
theorem d_Mo_taken_48 : decode b_Mo_taken 48 = .ok (.iconst 0, 1) := by decide +kernel
theorem d_Mo_taken_49 : decode b_Mo_taken 49 = .ok (.istore_n 3, 1) := by decide +kernel
theorem d_Mo_taken_50 : decode b_Mo_taken 50 = .ok (.iload_n 3, 1) := by decide +kernel
theorem d_Mo_taken_51 : decode b_Mo_taken 51 = .ok (.aload_n 0, 1) := by decide +kernel
theorem d_Mo_taken_52 : decode b_Mo_taken 52 = .ok (.getfield 100, 3) := by decide +kernel
theorem d_Mo_taken_55 : decode b_Mo_taken 55 = .ok (.if_icmp .ge 41, 3) := by decide +kernel
theorem d_Mo_taken_58 : decode b_Mo_taken 58 = .ok (.aload_n 0, 1) := by decide +kernel
theorem d_Mo_taken_59 : decode b_Mo_taken 59 = .ok (.getfield 37, 3) := by decide +kernel
theorem d_Mo_taken_62 : decode b_Mo_taken 62 = .ok (.iload_n 3, 1) := by decide +kernel
theorem d_Mo_taken_63 : decode b_Mo_taken 63 = .ok (.iaload, 1) := by decide +kernel
theorem d_Mo_taken_64 : decode b_Mo_taken 64 = .ok (.iload_n 2, 1) := by decide +kernel
theorem d_Mo_taken_65 : decode b_Mo_taken 65 = .ok (.if_icmp .ge 25, 3) := by decide +kernel
theorem d_Mo_taken_68 : decode b_Mo_taken 68 = .ok (.aload_n 0, 1) := by decide +kernel
theorem d_Mo_taken_69 : decode b_Mo_taken 69 = .ok (.getfield 37, 3) := by decide +kernel
theorem d_Mo_taken_72 : decode b_Mo_taken 72 = .ok (.iload_n 3, 1) := by decide +kernel
theorem d_Mo_taken_73 : decode b_Mo_taken 73 = .ok (.iaload, 1) := by decide +kernel
theorem d_Mo_taken_74 : decode b_Mo_taken 74 = .ok (.aload_n 0, 1) := by decide +kernel
theorem d_Mo_taken_75 : decode b_Mo_taken 75 = .ok (.getfield 40, 3) := by decide +kernel
theorem d_Mo_taken_78 : decode b_Mo_taken 78 = .ok (.iload_n 3, 1) := by decide +kernel
theorem d_Mo_taken_79 : decode b_Mo_taken 79 = .ok (.iaload, 1) := by decide +kernel
theorem d_Mo_taken_80 : decode b_Mo_taken 80 = .ok (.invokestatic 203, 3) := by decide +kernel
theorem d_Mo_taken_83 : decode b_Mo_taken 83 = .ok (.iadd, 1) := by decide +kernel
theorem d_Mo_taken_84 : decode b_Mo_taken 84 = .ok (.iload_n 1, 1) := by decide +kernel
theorem d_Mo_taken_85 : decode b_Mo_taken 85 = .ok (.if_icmp .le 5, 3) := by decide +kernel
theorem d_Mo_taken_88 : decode b_Mo_taken 88 = .ok (.iconst 1, 1) := by decide +kernel
theorem d_Mo_taken_89 : decode b_Mo_taken 89 = .ok (.ireturn, 1) := by decide +kernel
theorem d_Mo_taken_90 : decode b_Mo_taken 90 = .ok (.iinc 3 1, 3) := by decide +kernel
theorem d_Mo_taken_93 : decode b_Mo_taken 93 = .ok (.goto (-43), 3) := by decide +kernel
theorem d_Mo_taken_96 : decode b_Mo_taken 96 = .ok (.iconst 0, 1) := by decide +kernel
theorem d_Mo_taken_97 : decode b_Mo_taken 97 = .ok (.ireturn, 1) := by decide +kernel
def f_Mo_taken_50 (fr : Nat) (to : Nat) (u : S5) : Nat → Nat → Bool
  | 0, i => false
  | k50 + 1, i => if i < (gN u 1) then (if (aN u 2 i) < to then (if (aN u 2 i + (f_Mo_takes (aN u 3 i))) ≤ fr then f_Mo_taken_50 fr to u k50 (i + 1) else true) else f_Mo_taken_50 fr to u k50 (i + 1)) else false
def f_Mo_taken_2 (fr : Nat) (to : Nat) (u : S5) : Nat → Nat → Bool
  | 0, j => false
  | k2 + 1, j => if j < (gN u 0) then (if (aN u 0 j) < to then (if (aN u 0 j + (f_Mo_takes (aN u 1 j))) ≤ fr then f_Mo_taken_2 fr to u k2 (j + 1) else true) else f_Mo_taken_2 fr to u k2 (j + 1)) else f_Mo_taken_50 fr to u (gN u 1 + 1) 0
def f_Mo_taken (fr : Nat) (to : Nat) (u : S5) : Bool := f_Mo_taken_2 fr to u (gN u 0 + 1) 0
set_option maxHeartbeats 8000000 in
set_option maxRecDepth 100000 in
theorem c_Mo_taken (l : Launch) (dC : Nat → ClassId) (dI : Nat → Nat → Nat) (cI cZ : ClassId) (ad : Nat → Nat) (u : S5) (fr : Nat) (to : Nat) (hfr : fr ≤ 60000) (hto : to ≤ 60000) (okl : OkL u) (sz : Nat) : Met l y_Mo_taken w_Mo_taken rm_Mo_taken (PreW (dC, dI) classes [(cI, .int), (cZ, .boolean)] (wM cI cZ ad) u sz [.ref (ad 0), .int (nI fr), .int (nI to)]) (QWi (dC, dI) classes [(cI, .int), (cZ, .boolean)] (wM cI cZ ad) (va_A (wM cI cZ ad u) sz) (b2i (f_Mo_taken fr to u)) u) 0 0 (va_A (wM cI cZ ad u) sz) := by
  generalize hres : f_Mo_taken fr to u = res
  refine Met.ofW (cc := b_Mo_taken) (maxL := 4) (ret := (some .boolean)) (by decide) rfl ?_
  intro p e s m args below meth c s₁ B hml hv
  obtain ⟨rfl, rfl, hP, hK, hD0⟩ := hv
  have hx := B.exec
  have hb := B.bytes
  have hr := B.returns
  have hts : ∀ w9 ∈ ALLW, w9.before ([.ref (ad 0), .int (nI fr), .int (nI to)] : List Value).toArray s = true := fun w9 h => atoms_spec (ws := w_Mo_taken) B.pre w9 (List.mem_cons_of_mem _ h)
  have hown : s.vm.findClass R_Mo = some m.cls := findClass_of_methodNamed B.named
  have hlocks := B.notSynchronized
  have hD := hD0.self (sz := s.heap.size)
  generalize hAe : va_A (wM cI cZ ad u) s.heap.size = A at hD ⊢
  have hA : ∀ q : Nat, s.heap.size ≤ q → A q := fun q h => by rw [← hAe]; exact Or.inr h
  have hS : va_S A s.heap s.heap [] := va_S.rf
  have hl := lv_entry ([.ref (ad 0), .int (nI fr), .int (nI to)]) (n := 4) (Nat.le_of_ble_eq_true rfl)
  rw [lg_entry_eq]
  generalize (lg_sl ([.ref (ad 0), .int (nI fr), .int (nI to)]) ++ List.replicate (4 - (lg_sl ([.ref (ad 0), .int (nI fr), .int (nI to)])).length) Slot.unset).toArray = ls at hl ⊢
  have hl : lv_has ls 4 [(0, .ref (ad 0)), (1, .int (nI fr)), (2, .int (nI to))] := hl
  have hq := hres.symm
  skip
  obtain ⟨l0, l1, lA, lK⟩ := id okl
  refine lv_iconst (v := nI 0) hx hb d_Mo_taken_0 (by decide) ?_
  refine lv_istore_n (lv' := [(3, .int (nI 0)), (0, .ref (ad 0)), (1, .int (nI fr)), (2, .int (nI to))]) hx hb d_Mo_taken_1 rfl hl (by decide) rfl (fun ls hl => ?_)
  have L2 : ∀ (k : Nat) (j : Nat) (H : Heap) (locs : List Loc) (ls : Array Slot), (j ≤ gN u 0) → (gN u 0 - j) < k → res = f_Mo_taken_2 fr to u k j → va_P (dC, dI) classes (wM cI cZ ad u) H → va_D A (wM cI cZ ad u) → va_S A s.heap H locs → lv_has ls 4 [(3, .int (nI j)), (0, .ref (ad 0)), (1, .int (nI fr)), (2, .int (nI to))] → W p l e (headSpec w_Mo_taken rm_Mo_taken).room s m ([.ref (ad 0), .int (nI fr), .int (nI to)] : List Value).toArray below meth c H locs 0 0 (MQ below (QWi (dC, dI) classes [(cI, .int), (cZ, .boolean)] (wM cI cZ ad) A (b2i res) u) ([.ref (ad 0), .int (nI fr), .int (nI to)] : List Value).toArray s 0 0 A) (F0 m 2 ls []) := by
    intro k
    induction k with
    | zero => intro j H locs ls hj hm; exact absurd hm (Nat.not_lt_zero _)
    | succ k2 ih2 =>
      intro j H locs ls hj hm hq2 hP hD hS hl
      refine lv_iload_n hx hb d_Mo_taken_2 rfl (lv_at hl 0 rfl) ?_
      refine lv_aload_n hx hb d_Mo_taken_3 rfl (lv_at hl 1 rfl) ?_
      refine va_get (D := (dC, dI)) (ci := 8) (v := .int (nI (gN u 0))) (C := R_Mo) (T := F_Mo) (N := 31) hx hb hts in_Mo hown hK hP 0 rfl rfl 16 (by decide) (hts _ m_14_6) (fun _ h9 => h9) rfl d_Mo_taken_4 ?_
      refine rn_ge (tgt := 48) hx hb (by omega) (by omega) d_Mo_taken_7 (by decide) (fun c1 => ?_) (fun c1 => ?_)
      · skip
        refine lv_iconst (v := nI 0) hx hb d_Mo_taken_48 (by decide) ?_
        refine lv_istore_n (lv' := [(3, .int (nI 0)), (0, .ref (ad 0)), (1, .int (nI fr)), (2, .int (nI to))]) hx hb d_Mo_taken_49 rfl hl (by decide) rfl (fun ls hl => ?_)
        have L50 : ∀ (k : Nat) (i : Nat) (H : Heap) (locs : List Loc) (ls : Array Slot), (i ≤ gN u 1) → (gN u 1 - i) < k → res = f_Mo_taken_50 fr to u k i → va_P (dC, dI) classes (wM cI cZ ad u) H → va_D A (wM cI cZ ad u) → va_S A s.heap H locs → lv_has ls 4 [(3, .int (nI i)), (0, .ref (ad 0)), (1, .int (nI fr)), (2, .int (nI to))] → W p l e (headSpec w_Mo_taken rm_Mo_taken).room s m ([.ref (ad 0), .int (nI fr), .int (nI to)] : List Value).toArray below meth c H locs 0 0 (MQ below (QWi (dC, dI) classes [(cI, .int), (cZ, .boolean)] (wM cI cZ ad) A (b2i res) u) ([.ref (ad 0), .int (nI fr), .int (nI to)] : List Value).toArray s 0 0 A) (F0 m 50 ls []) := by
          intro k
          induction k with
          | zero => intro i H locs ls hi hm; exact absurd hm (Nat.not_lt_zero _)
          | succ k50 ih50 =>
            intro i H locs ls hi hm hq50 hP hD hS hl
            refine lv_iload_n hx hb d_Mo_taken_50 rfl (lv_at hl 0 rfl) ?_
            refine lv_aload_n hx hb d_Mo_taken_51 rfl (lv_at hl 1 rfl) ?_
            refine va_get (D := (dC, dI)) (ci := 8) (v := .int (nI (gN u 1))) (C := R_Mo) (T := F_Mo) (N := 31) hx hb hts in_Mo hown hK hP 0 rfl rfl 17 (by decide) (hts _ m_14_7) (fun _ h9 => h9) rfl d_Mo_taken_52 ?_
            refine rn_ge (tgt := 96) hx hb (by omega) (by omega) d_Mo_taken_55 (by decide) (fun c2 => ?_) (fun c2 => ?_)
            · skip
              refine lv_iconst (v := 0) hx hb d_Mo_taken_96 (by decide) ?_
              have hE : res = false := hq50.trans ((if_neg (Nat.not_lt.mpr c2)).trans rfl)
              exact retWb (x := false) hx hb hr hP hK hD hS hE.symm rfl d_Mo_taken_97 hlocks
            · skip
              refine lv_aload_n hx hb d_Mo_taken_58 rfl (lv_at hl 1 rfl) ?_
              refine va_get (D := (dC, dI)) (ci := 8) (v := .ref (ad 9)) (C := R_Mo) (T := F_Mo) (N := 31) hx hb hts in_Mo hown hK hP 0 rfl rfl 14 (by decide) (hts _ m_14_4) (fun _ h9 => h9) rfl d_Mo_taken_59 ?_
              refine lv_iload_n hx hb d_Mo_taken_62 rfl (lv_at hl 0 rfl) ?_
              refine aldM_kept (u := u) (v := aN u 2 i) hx hb hK hP (by omega) rfl d_Mo_taken_63 ?_
              refine lv_iload_n hx hb d_Mo_taken_64 rfl (lv_at hl 3 rfl) ?_
              have ha := lK i (by assumption)
              refine rn_ge (tgt := 90) hx hb (by omega) (by omega) d_Mo_taken_65 (by decide) (fun c3 => ?_) (fun c3 => ?_)
              · skip
                refine lv_iinc (v := nI (i + 1)) (lv' := [(3, .int (nI (i + 1))), (0, .ref (ad 0)), (1, .int (nI fr)), (2, .int (nI to))]) hx hb d_Mo_taken_90 hl (k := 0) rfl (rn_inc i 1 (by decide)) (by decide) rfl (fun ls hl => ?_)
                refine lv_goto (tgt := 50) hx hb d_Mo_taken_93 (by decide) ?_
                exact ih50 (i + 1) _ _ _ (by first | assumption | omega) (by omega) (hq50.trans ((if_pos c2).trans ((if_neg (Nat.not_lt.mpr c3)).trans rfl))) hP hD hS (lv_sub hl [0, 1, 2, 3] rfl)
              · skip
                refine lv_aload_n hx hb d_Mo_taken_68 rfl (lv_at hl 1 rfl) ?_
                refine va_get (D := (dC, dI)) (ci := 8) (v := .ref (ad 9)) (C := R_Mo) (T := F_Mo) (N := 31) hx hb hts in_Mo hown hK hP 0 rfl rfl 14 (by decide) (hts _ m_14_4) (fun _ h9 => h9) rfl d_Mo_taken_69 ?_
                refine lv_iload_n hx hb d_Mo_taken_72 rfl (lv_at hl 0 rfl) ?_
                refine aldM_kept (u := u) (v := aN u 2 i) hx hb hK hP (by omega) rfl d_Mo_taken_73 ?_
                refine lv_aload_n hx hb d_Mo_taken_74 rfl (lv_at hl 1 rfl) ?_
                refine va_get (D := (dC, dI)) (ci := 8) (v := .ref (ad 10)) (C := R_Mo) (T := F_Mo) (N := 31) hx hb hts in_Mo hown hK hP 0 rfl rfl 15 (by decide) (hts _ m_14_5) (fun _ h9 => h9) rfl d_Mo_taken_75 ?_
                refine lv_iload_n hx hb d_Mo_taken_78 rfl (lv_at hl 0 rfl) ?_
                refine aldM_keptLength (u := u) (v := aN u 3 i) hx hb hK hP (by omega) rfl d_Mo_taken_79 ?_
                refine callPi (va_runS (As := [.int (nI (aN u 3 i))]) (rest := [.int (nI (aN u 2 i))]) ⟨hx, hb, hml, hown, hts⟩ (c_Mo_takes l (aN u 3 i) (by first | assumption | omega) H.size) (va_cwS 1 hts (goodS m_17_29 m_17_30 m_0_12 m_17_31) rfl rfl rfl (by decide +kernel) ⟨Nat.le_of_ble_eq_true rfl, Nat.le_of_ble_eq_true rfl⟩) ⟨preP_blind, preP_ok⟩ rfl rfl hl.1 rfl (lv_room (Nat.le_of_ble_eq_true rfl)) d_Mo_taken_80 ⟨Nat.zero_le _, Nat.zero_le _⟩) hP hS hA (fun H locs hP hS => ?_)
                refine lv_iadd hx hb d_Mo_taken_83 ?_
                refine rw_top (y := nI (aN u 2 i + (f_Mo_takes (aN u 3 i)))) (nI_add (aN u 2 i) (f_Mo_takes (aN u 3 i))) ?_
                refine lv_iload_n hx hb d_Mo_taken_84 rfl (lv_at hl 2 rfl) ?_
                have ht := tk_b (aN u 3 i)
                refine rn_le (tgt := 90) hx hb (by omega) (by omega) d_Mo_taken_85 (by decide) (fun c4 => ?_) (fun c4 => ?_)
                · skip
                  refine lv_iinc (v := nI (i + 1)) (lv' := [(3, .int (nI (i + 1))), (0, .ref (ad 0)), (1, .int (nI fr)), (2, .int (nI to))]) hx hb d_Mo_taken_90 hl (k := 0) rfl (rn_inc i 1 (by decide)) (by decide) rfl (fun ls hl => ?_)
                  refine lv_goto (tgt := 50) hx hb d_Mo_taken_93 (by decide) ?_
                  exact ih50 (i + 1) _ _ _ (by first | assumption | omega) (by omega) (hq50.trans ((if_pos c2).trans ((if_pos c3).trans ((if_pos c4).trans rfl)))) hP hD hS (lv_sub hl [0, 1, 2, 3] rfl)
                · skip
                  refine lv_iconst (v := 1) hx hb d_Mo_taken_88 (by decide) ?_
                  have hE : res = true := hq50.trans ((if_pos c2).trans ((if_pos c3).trans ((if_neg (Nat.not_le.mpr c4)).trans rfl)))
                  exact retWb (x := true) hx hb hr hP hK hD hS hE.symm rfl d_Mo_taken_89 hlocks
        exact L50 (gN u 1 + 1) 0 _ _ _ (by first | assumption | omega) (by omega) (hq2.trans ((if_neg (Nat.not_lt.mpr c1)).trans rfl)) hP hD hS (lv_sub hl [0, 1, 2, 3] rfl)
      · skip
        refine lv_aload_n hx hb d_Mo_taken_10 rfl (lv_at hl 1 rfl) ?_
        refine va_get (D := (dC, dI)) (ci := 8) (v := .ref (ad 7)) (C := R_Mo) (T := F_Mo) (N := 31) hx hb hts in_Mo hown hK hP 0 rfl rfl 12 (by decide) (hts _ m_14_2) (fun _ h9 => h9) rfl d_Mo_taken_11 ?_
        refine lv_iload_n hx hb d_Mo_taken_14 rfl (lv_at hl 0 rfl) ?_
        refine aldM_address (u := u) (v := aN u 0 j) hx hb hK hP (by omega) rfl d_Mo_taken_15 ?_
        refine lv_iload_n hx hb d_Mo_taken_16 rfl (lv_at hl 3 rfl) ?_
        have ha := lA j (by assumption)
        refine rn_ge (tgt := 42) hx hb (by omega) (by omega) d_Mo_taken_17 (by decide) (fun c5 => ?_) (fun c5 => ?_)
        · skip
          refine lv_iinc (v := nI (j + 1)) (lv' := [(3, .int (nI (j + 1))), (0, .ref (ad 0)), (1, .int (nI fr)), (2, .int (nI to))]) hx hb d_Mo_taken_42 hl (k := 0) rfl (rn_inc j 1 (by decide)) (by decide) rfl (fun ls hl => ?_)
          refine lv_goto (tgt := 2) hx hb d_Mo_taken_45 (by decide) ?_
          exact ih2 (j + 1) _ _ _ (by first | assumption | omega) (by omega) (hq2.trans ((if_pos c1).trans ((if_neg (Nat.not_lt.mpr c5)).trans rfl))) hP hD hS (lv_sub hl [0, 1, 2, 3] rfl)
        · skip
          refine lv_aload_n hx hb d_Mo_taken_20 rfl (lv_at hl 1 rfl) ?_
          refine va_get (D := (dC, dI)) (ci := 8) (v := .ref (ad 7)) (C := R_Mo) (T := F_Mo) (N := 31) hx hb hts in_Mo hown hK hP 0 rfl rfl 12 (by decide) (hts _ m_14_2) (fun _ h9 => h9) rfl d_Mo_taken_21 ?_
          refine lv_iload_n hx hb d_Mo_taken_24 rfl (lv_at hl 0 rfl) ?_
          refine aldM_address (u := u) (v := aN u 0 j) hx hb hK hP (by omega) rfl d_Mo_taken_25 ?_
          refine lv_aload_n hx hb d_Mo_taken_26 rfl (lv_at hl 1 rfl) ?_
          refine va_get (D := (dC, dI)) (ci := 8) (v := .ref (ad 8)) (C := R_Mo) (T := F_Mo) (N := 31) hx hb hts in_Mo hown hK hP 0 rfl rfl 13 (by decide) (hts _ m_14_3) (fun _ h9 => h9) rfl d_Mo_taken_27 ?_
          refine lv_iload_n hx hb d_Mo_taken_30 rfl (lv_at hl 0 rfl) ?_
          refine aldM_length (u := u) (v := aN u 1 j) hx hb hK hP (by omega) rfl d_Mo_taken_31 ?_
          refine callPi (va_runS (As := [.int (nI (aN u 1 j))]) (rest := [.int (nI (aN u 0 j))]) ⟨hx, hb, hml, hown, hts⟩ (c_Mo_takes l (aN u 1 j) (by first | assumption | omega) H.size) (va_cwS 1 hts (goodS m_17_29 m_17_30 m_0_12 m_17_31) rfl rfl rfl (by decide +kernel) ⟨Nat.le_of_ble_eq_true rfl, Nat.le_of_ble_eq_true rfl⟩) ⟨preP_blind, preP_ok⟩ rfl rfl hl.1 rfl (lv_room (Nat.le_of_ble_eq_true rfl)) d_Mo_taken_32 ⟨Nat.zero_le _, Nat.zero_le _⟩) hP hS hA (fun H locs hP hS => ?_)
          refine lv_iadd hx hb d_Mo_taken_35 ?_
          refine rw_top (y := nI (aN u 0 j + (f_Mo_takes (aN u 1 j)))) (nI_add (aN u 0 j) (f_Mo_takes (aN u 1 j))) ?_
          refine lv_iload_n hx hb d_Mo_taken_36 rfl (lv_at hl 2 rfl) ?_
          have ht := tk_b (aN u 1 j)
          refine rn_le (tgt := 42) hx hb (by omega) (by omega) d_Mo_taken_37 (by decide) (fun c6 => ?_) (fun c6 => ?_)
          · skip
            refine lv_iinc (v := nI (j + 1)) (lv' := [(3, .int (nI (j + 1))), (0, .ref (ad 0)), (1, .int (nI fr)), (2, .int (nI to))]) hx hb d_Mo_taken_42 hl (k := 0) rfl (rn_inc j 1 (by decide)) (by decide) rfl (fun ls hl => ?_)
            refine lv_goto (tgt := 2) hx hb d_Mo_taken_45 (by decide) ?_
            exact ih2 (j + 1) _ _ _ (by first | assumption | omega) (by omega) (hq2.trans ((if_pos c1).trans ((if_pos c5).trans ((if_pos c6).trans rfl)))) hP hD hS (lv_sub hl [0, 1, 2, 3] rfl)
          · skip
            refine lv_iconst (v := 1) hx hb d_Mo_taken_40 (by decide) ?_
            have hE : res = true := hq2.trans ((if_pos c1).trans ((if_pos c5).trans ((if_neg (Nat.not_le.mpr c6)).trans rfl)))
            exact retWb (x := true) hx hb hr hP hK hD hS hE.symm rfl d_Mo_taken_41 hlocks
  exact L2 (gN u 0 + 1) 0 _ _ _ (by first | assumption | omega) (by omega) (hq.trans (rfl)) hP hD hS (lv_sub hl [0, 1, 2, 3] rfl)
def w_Mo_find : List Cond := .code y_Mo_find b_Mo_find 3 (some .int) :: ALLW
def rm_Mo_find : Room := { frames := 20, cells := 0, slots := 0, locals := 600 }
theorem d_Mo_find_0 : decode b_Mo_find 0 = .ok (.iconst 0, 1) := by decide +kernel
theorem d_Mo_find_1 : decode b_Mo_find 1 = .ok (.istore_n 2, 1) := by decide +kernel
theorem d_Mo_find_2 : decode b_Mo_find 2 = .ok (.iload_n 2, 1) := by decide +kernel
theorem d_Mo_find_3 : decode b_Mo_find 3 = .ok (.aload_n 0, 1) := by decide +kernel
theorem d_Mo_find_4 : decode b_Mo_find 4 = .ok (.getfield 97, 3) := by decide +kernel
theorem d_Mo_find_7 : decode b_Mo_find 7 = .ok (.if_icmp .ge 21, 3) := by decide +kernel
theorem d_Mo_find_10 : decode b_Mo_find 10 = .ok (.aload_n 0, 1) := by decide +kernel
theorem d_Mo_find_11 : decode b_Mo_find 11 = .ok (.getfield 31, 3) := by decide +kernel
theorem d_Mo_find_14 : decode b_Mo_find 14 = .ok (.iload_n 2, 1) := by decide +kernel
theorem d_Mo_find_15 : decode b_Mo_find 15 = .ok (.iaload, 1) := by decide +kernel
theorem d_Mo_find_16 : decode b_Mo_find 16 = .ok (.iload_n 1, 1) := by decide +kernel
theorem d_Mo_find_17 : decode b_Mo_find 17 = .ok (.if_icmp .ne 5, 3) := by decide +kernel
theorem d_Mo_find_20 : decode b_Mo_find 20 = .ok (.iload_n 2, 1) := by decide +kernel
theorem d_Mo_find_21 : decode b_Mo_find 21 = .ok (.ireturn, 1) := by decide +kernel
theorem d_Mo_find_22 : decode b_Mo_find 22 = .ok (.iinc 2 1, 3) := by decide +kernel
theorem d_Mo_find_25 : decode b_Mo_find 25 = .ok (.goto (-23), 3) := by decide +kernel
theorem d_Mo_find_28 : decode b_Mo_find 28 = .ok (.iconst (-1), 1) := by decide +kernel
theorem d_Mo_find_29 : decode b_Mo_find 29 = .ok (.ireturn, 1) := by decide +kernel
def f_Mo_find_2 (a : Int32) (u : S5) : Nat → Nat → Int32
  | 0, j => 0
  | k2 + 1, j => if j < (gN u 0) then (if (nI (aN u 0 j)) = a then nI j else f_Mo_find_2 a u k2 (j + 1)) else (-1)
def f_Mo_find (a : Int32) (u : S5) : Int32 := f_Mo_find_2 a u (gN u 0 + 1) 0
set_option maxHeartbeats 8000000 in
set_option maxRecDepth 100000 in
theorem c_Mo_find (l : Launch) (dC : Nat → ClassId) (dI : Nat → Nat → Nat) (cI cZ : ClassId) (ad : Nat → Nat) (u : S5) (a : Int32) (h0 : gN u 0 ≤ 799) (sz : Nat) : Met l y_Mo_find w_Mo_find rm_Mo_find (PreW (dC, dI) classes [(cI, .int), (cZ, .boolean)] (wM cI cZ ad) u sz [.ref (ad 0), .int a]) (QWi (dC, dI) classes [(cI, .int), (cZ, .boolean)] (wM cI cZ ad) (va_A (wM cI cZ ad u) sz) (f_Mo_find a u) u) 0 0 (va_A (wM cI cZ ad u) sz) := by
  generalize hres : f_Mo_find a u = res
  refine Met.ofW (cc := b_Mo_find) (maxL := 3) (ret := (some .int)) (by decide) rfl ?_
  intro p e s m args below meth c s₁ B hml hv
  obtain ⟨rfl, rfl, hP, hK, hD0⟩ := hv
  have hx := B.exec
  have hb := B.bytes
  have hr := B.returns
  have hts : ∀ w9 ∈ ALLW, w9.before ([.ref (ad 0), .int a] : List Value).toArray s = true := fun w9 h => atoms_spec (ws := w_Mo_find) B.pre w9 (List.mem_cons_of_mem _ h)
  have hown : s.vm.findClass R_Mo = some m.cls := findClass_of_methodNamed B.named
  have hlocks := B.notSynchronized
  have hD := hD0.self (sz := s.heap.size)
  generalize hAe : va_A (wM cI cZ ad u) s.heap.size = A at hD ⊢
  have hA : ∀ q : Nat, s.heap.size ≤ q → A q := fun q h => by rw [← hAe]; exact Or.inr h
  have hS : va_S A s.heap s.heap [] := va_S.rf
  have hl := lv_entry ([.ref (ad 0), .int a]) (n := 3) (Nat.le_of_ble_eq_true rfl)
  rw [lg_entry_eq]
  generalize (lg_sl ([.ref (ad 0), .int a]) ++ List.replicate (3 - (lg_sl ([.ref (ad 0), .int a])).length) Slot.unset).toArray = ls at hl ⊢
  have hl : lv_has ls 3 [(0, .ref (ad 0)), (1, .int a)] := hl
  have hq := hres.symm
  skip
  refine lv_iconst (v := nI 0) hx hb d_Mo_find_0 (by decide) ?_
  refine lv_istore_n (lv' := [(2, .int (nI 0)), (0, .ref (ad 0)), (1, .int a)]) hx hb d_Mo_find_1 rfl hl (by decide) rfl (fun ls hl => ?_)
  have L2 : ∀ (k : Nat) (j : Nat) (H : Heap) (locs : List Loc) (ls : Array Slot), (j ≤ gN u 0) → (gN u 0 - j) < k → res = f_Mo_find_2 a u k j → va_P (dC, dI) classes (wM cI cZ ad u) H → va_D A (wM cI cZ ad u) → va_S A s.heap H locs → lv_has ls 3 [(2, .int (nI j)), (0, .ref (ad 0)), (1, .int a)] → W p l e (headSpec w_Mo_find rm_Mo_find).room s m ([.ref (ad 0), .int a] : List Value).toArray below meth c H locs 0 0 (MQ below (QWi (dC, dI) classes [(cI, .int), (cZ, .boolean)] (wM cI cZ ad) A res u) ([.ref (ad 0), .int a] : List Value).toArray s 0 0 A) (F0 m 2 ls []) := by
    intro k
    induction k with
    | zero => intro j H locs ls hj hm; exact absurd hm (Nat.not_lt_zero _)
    | succ k2 ih2 =>
      intro j H locs ls hj hm hq2 hP hD hS hl
      refine lv_iload_n hx hb d_Mo_find_2 rfl (lv_at hl 0 rfl) ?_
      refine lv_aload_n hx hb d_Mo_find_3 rfl (lv_at hl 1 rfl) ?_
      refine va_get (D := (dC, dI)) (ci := 8) (v := .int (nI (gN u 0))) (C := R_Mo) (T := F_Mo) (N := 31) hx hb hts in_Mo hown hK hP 0 rfl rfl 16 (by decide) (hts _ m_14_6) (fun _ h9 => h9) rfl d_Mo_find_4 ?_
      refine rn_ge (tgt := 28) hx hb (by omega) (by omega) d_Mo_find_7 (by decide) (fun c1 => ?_) (fun c1 => ?_)
      · skip
        refine lv_iconst (v := (-1)) hx hb d_Mo_find_28 (by decide) ?_
        have hE : res = (-1) := hq2.trans ((if_neg (Nat.not_lt.mpr c1)).trans rfl)
        exact retWi (x := (-1)) hx hb hr hP hK hD hS hE.symm rfl d_Mo_find_29 hlocks
      · skip
        refine lv_aload_n hx hb d_Mo_find_10 rfl (lv_at hl 1 rfl) ?_
        refine va_get (D := (dC, dI)) (ci := 8) (v := .ref (ad 7)) (C := R_Mo) (T := F_Mo) (N := 31) hx hb hts in_Mo hown hK hP 0 rfl rfl 12 (by decide) (hts _ m_14_2) (fun _ h9 => h9) rfl d_Mo_find_11 ?_
        refine lv_iload_n hx hb d_Mo_find_14 rfl (lv_at hl 0 rfl) ?_
        refine aldM_address (u := u) (v := aN u 0 j) hx hb hK hP (by omega) rfl d_Mo_find_15 ?_
        refine lv_iload_n hx hb d_Mo_find_16 rfl (lv_at hl 2 rfl) ?_
        refine lv_icmp_ne (tgt := 22) hx hb d_Mo_find_17 (by decide) (fun c2 => ?_) (fun c2 => ?_)
        · skip
          refine lv_iinc (v := nI (j + 1)) (lv' := [(2, .int (nI (j + 1))), (0, .ref (ad 0)), (1, .int a)]) hx hb d_Mo_find_22 hl (k := 0) rfl (rn_inc j 1 (by decide)) (by decide) rfl (fun ls hl => ?_)
          refine lv_goto (tgt := 2) hx hb d_Mo_find_25 (by decide) ?_
          exact ih2 (j + 1) _ _ _ (by first | assumption | omega) (by omega) (hq2.trans ((if_pos c1).trans ((if_neg c2).trans rfl))) hP hD hS (lv_sub hl [0, 1, 2] rfl)
        · skip
          refine lv_iload_n hx hb d_Mo_find_20 rfl (lv_at hl 0 rfl) ?_
          have hE : res = nI j := hq2.trans ((if_pos c1).trans ((if_pos c2).trans rfl))
          exact retWi (x := nI j) hx hb hr hP hK hD hS hE.symm rfl d_Mo_find_21 hlocks
  exact L2 (gN u 0 + 1) 0 _ _ _ (by first | assumption | omega) (by omega) (hq.trans (rfl)) hP hD hS (lv_sub hl [0, 1, 2] rfl)
theorem fi_loop (a : Int32) (u : S5) : ∀ (k j : Nat), gN u 0 - j < k → f_Mo_find_2 a u k j = (-1) ∧ (∀ i, j ≤ i → i < gN u 0 → ¬ nI (aN u 0 i) = a) ∨ ∃ i, j ≤ i ∧ i < gN u 0 ∧ f_Mo_find_2 a u k j = nI i ∧ nI (aN u 0 i) = a ∧ ∀ q, j ≤ q → q < i → ¬ nI (aN u 0 q) = a := by
  intro k
  induction k with
  | zero => intro j h; exact absurd h (Nat.not_lt_zero _)
  | succ k ih =>
    intro j h
    unfold f_Mo_find_2
    by_cases h1 : j < gN u 0
    · rw [if_pos h1]
      by_cases h2 : nI (aN u 0 j) = a
      · rw [if_pos h2]
        exact Or.inr ⟨j, Nat.le_refl _, h1, rfl, h2, fun q h3 h4 => absurd h3 (by omega)⟩
      · rw [if_neg h2]
        rcases ih (j + 1) (by omega) with ⟨e, h3⟩ | ⟨i, h3, h4, e, h5, h6⟩
        · refine Or.inl ⟨e, fun i h4 h5 => ?_⟩
          by_cases hi : i = j
          · subst hi; exact h2
          · exact h3 i (by omega) h5
        · refine Or.inr ⟨i, by omega, h4, e, h5, fun q h7 h8 => ?_⟩
          by_cases hq : q = j
          · subst hq; exact h2
          · exact h6 q (by omega) h8
    · rw [if_neg h1]
      exact Or.inl ⟨rfl, fun i h2 h3 => absurd h3 (by omega)⟩
theorem fi_c (a : Int32) (u : S5) : f_Mo_find a u = (-1) ∧ (∀ i, i < gN u 0 → ¬ nI (aN u 0 i) = a) ∨ ∃ i, i < gN u 0 ∧ f_Mo_find a u = nI i ∧ nI (aN u 0 i) = a ∧ ∀ q, q < i → ¬ nI (aN u 0 q) = a := by
  unfold f_Mo_find
  rcases fi_loop a u (gN u 0 + 1) 0 (by omega) with ⟨e, h⟩ | ⟨i, h3, h4, e, h5, h6⟩
  · exact Or.inl ⟨e, fun i hi => h i (Nat.zero_le _) hi⟩
  · exact Or.inr ⟨i, h4, e, h5, fun q hq => h6 q (Nat.zero_le _) hq⟩
theorem fi_in {a : Int32} {u : S5} (h0 : gN u 0 ≤ 799) (h : ¬ f_Mo_find a u < 0) : f_Mo_find a u = nI (f_Mo_find a u).toNatClampNeg ∧ (f_Mo_find a u).toNatClampNeg < gN u 0 ∧ nI (aN u 0 (f_Mo_find a u).toNatClampNeg) = a := by
  rcases fi_c a u with ⟨e, -⟩ | ⟨i, h1, e, h2, -⟩
  · rw [e] at h; exact absurd (by decide) h
  · rw [e, nI_clamp (by omega)]
    exact ⟨rfl, h1, h2⟩
theorem fi_ge {a : Int32} {u : S5} {i : Nat} (h0 : gN u 0 ≤ 799) (hi : i < gN u 0) (h : nI (aN u 0 i) = a) : ¬ f_Mo_find a u < 0 := by
  rcases fi_c a u with ⟨-, h2⟩ | ⟨j, h1, e, -, -⟩
  · exact absurd h (h2 i hi)
  · rw [e]; exact nI_pos (by omega)
def w_Mo_isLive : List Cond := .code y_Mo_isLive b_Mo_isLive 4 (some .boolean) :: ALLW
def rm_Mo_isLive : Room := { frames := 21, cells := 0, slots := 0, locals := 623 }
theorem d_Mo_isLive_0 : decode b_Mo_isLive 0 = .ok (.aload_n 0, 1) := by decide +kernel
theorem d_Mo_isLive_1 : decode b_Mo_isLive 1 = .ok (.iload_n 1, 1) := by decide +kernel
theorem d_Mo_isLive_2 : decode b_Mo_isLive 2 = .ok (.invokevirtual 210, 3) := by decide +kernel
theorem d_Mo_isLive_5 : decode b_Mo_isLive 5 = .ok (.ifCond .lt 5, 3) := by decide +kernel
theorem d_Mo_isLive_8 : decode b_Mo_isLive 8 = .ok (.iconst 1, 1) := by decide +kernel
theorem d_Mo_isLive_9 : decode b_Mo_isLive 9 = .ok (.ireturn, 1) := by decide +kernel
theorem d_Mo_isLive_10 : decode b_Mo_isLive 10 = .ok (.iconst 0, 1) := by decide +kernel
theorem d_Mo_isLive_11 : decode b_Mo_isLive 11 = .ok (.istore_n 2, 1) := by decide +kernel
theorem d_Mo_isLive_12 : decode b_Mo_isLive 12 = .ok (.iconst 0, 1) := by decide +kernel
theorem d_Mo_isLive_13 : decode b_Mo_isLive 13 = .ok (.istore_n 3, 1) := by decide +kernel
theorem d_Mo_isLive_14 : decode b_Mo_isLive 14 = .ok (.iload_n 3, 1) := by decide +kernel
theorem d_Mo_isLive_15 : decode b_Mo_isLive 15 = .ok (.aload_n 0, 1) := by decide +kernel
theorem d_Mo_isLive_16 : decode b_Mo_isLive 16 = .ok (.getfield 100, 3) := by decide +kernel
theorem d_Mo_isLive_19 : decode b_Mo_isLive 19 = .ok (.if_icmp .ge 21, 3) := by decide +kernel
theorem d_Mo_isLive_22 : decode b_Mo_isLive 22 = .ok (.aload_n 0, 1) := by decide +kernel
theorem d_Mo_isLive_23 : decode b_Mo_isLive 23 = .ok (.getfield 37, 3) := by decide +kernel
theorem d_Mo_isLive_26 : decode b_Mo_isLive 26 = .ok (.iload_n 3, 1) := by decide +kernel
theorem d_Mo_isLive_27 : decode b_Mo_isLive 27 = .ok (.iaload, 1) := by decide +kernel
theorem d_Mo_isLive_28 : decode b_Mo_isLive 28 = .ok (.iload_n 1, 1) := by decide +kernel
theorem d_Mo_isLive_29 : decode b_Mo_isLive 29 = .ok (.if_icmp .ne 5, 3) := by decide +kernel
theorem d_Mo_isLive_32 : decode b_Mo_isLive 32 = .ok (.iconst 1, 1) := by decide +kernel
theorem d_Mo_isLive_33 : decode b_Mo_isLive 33 = .ok (.istore_n 2, 1) := by decide +kernel
theorem d_Mo_isLive_34 : decode b_Mo_isLive 34 = .ok (.iinc 3 1, 3) := by decide +kernel
theorem d_Mo_isLive_37 : decode b_Mo_isLive 37 = .ok (.goto (-23), 3) := by decide +kernel
theorem d_Mo_isLive_40 : decode b_Mo_isLive 40 = .ok (.aload_n 0, 1) := by decide +kernel
theorem d_Mo_isLive_41 : decode b_Mo_isLive 41 = .ok (.iload_n 2, 1) := by decide +kernel
theorem d_Mo_isLive_42 : decode b_Mo_isLive 42 = .ok (.ifCond .eq 8, 3) := by decide +kernel
theorem d_Mo_isLive_45 : decode b_Mo_isLive 45 = .ok (.bipush 6, 2) := by decide +kernel
theorem d_Mo_isLive_47 : decode b_Mo_isLive 47 = .ok (.goto 5, 3) := by decide +kernel
theorem d_Mo_isLive_50 : decode b_Mo_isLive 50 = .ok (.bipush 7, 2) := by decide +kernel
theorem d_Mo_isLive_52 : decode b_Mo_isLive 52 = .ok (.iload_n 1, 1) := by decide +kernel
theorem d_Mo_isLive_53 : decode b_Mo_isLive 53 = .ok (.invokevirtual 128, 3) := by decide +kernel
theorem d_Mo_isLive_56 : decode b_Mo_isLive 56 = .ok (.iconst 0, 1) := by decide +kernel
theorem d_Mo_isLive_57 : decode b_Mo_isLive 57 = .ok (.ireturn, 1) := by decide +kernel
def f_Mo_isLive_14 (a : Int32) (u : S5) : Nat → Nat → Bool → Bool
  | 0, j, was => false
  | k14 + 1, j, was => if j < (gN u 1) then (if (nI (aN u 2 j)) = a then f_Mo_isLive_14 a u k14 (j + 1) true else f_Mo_isLive_14 a u k14 (j + 1) was) else was
def f_Mo_isLive (a : Int32) (u : S5) : Bool × S5 := if (f_Mo_find a u) < 0 then (let was1 : Bool := f_Mo_isLive_14 a u (gN u 1 + 1) 0 false; let x2 : Int32 := if was1 = true then 6 else 7; (false, f_Mo_fault x2 a u)) else (true, u)
set_option maxHeartbeats 8000000 in
set_option maxRecDepth 100000 in
theorem c_Mo_isLive (l : Launch) (dC : Nat → ClassId) (dI : Nat → Nat → Nat) (cI cZ : ClassId) (ad : Nat → Nat) (u : S5) (a : Int32) (ok : OkE u) (okl : OkL u) (sz : Nat) : Met l y_Mo_isLive w_Mo_isLive rm_Mo_isLive (PreW (dC, dI) classes [(cI, .int), (cZ, .boolean)] (wM cI cZ ad) u sz [.ref (ad 0), .int a]) (QWi (dC, dI) classes [(cI, .int), (cZ, .boolean)] (wM cI cZ ad) (va_A (wM cI cZ ad u) sz) (b2i (f_Mo_isLive a u).1) (f_Mo_isLive a u).2) 0 0 (va_A (wM cI cZ ad u) sz) := by
  generalize hres : f_Mo_isLive a u = res
  refine Met.ofW (cc := b_Mo_isLive) (maxL := 4) (ret := (some .boolean)) (by decide) rfl ?_
  intro p e s m args below meth c s₁ B hml hv
  obtain ⟨rfl, rfl, hP, hK, hD0⟩ := hv
  have hx := B.exec
  have hb := B.bytes
  have hr := B.returns
  have hts : ∀ w9 ∈ ALLW, w9.before ([.ref (ad 0), .int a] : List Value).toArray s = true := fun w9 h => atoms_spec (ws := w_Mo_isLive) B.pre w9 (List.mem_cons_of_mem _ h)
  have hown : s.vm.findClass R_Mo = some m.cls := findClass_of_methodNamed B.named
  have hlocks := B.notSynchronized
  have hD := hD0.self (sz := s.heap.size)
  generalize hAe : va_A (wM cI cZ ad u) s.heap.size = A at hD ⊢
  have hA : ∀ q : Nat, s.heap.size ≤ q → A q := fun q h => by rw [← hAe]; exact Or.inr h
  have hS : va_S A s.heap s.heap [] := va_S.rf
  have hl := lv_entry ([.ref (ad 0), .int a]) (n := 4) (Nat.le_of_ble_eq_true rfl)
  rw [lg_entry_eq]
  generalize (lg_sl ([.ref (ad 0), .int a]) ++ List.replicate (4 - (lg_sl ([.ref (ad 0), .int a])).length) Slot.unset).toArray = ls at hl ⊢
  have hl : lv_has ls 4 [(0, .ref (ad 0)), (1, .int a)] := hl
  have hq := hres.symm
  skip
  obtain ⟨oe6, oe5⟩ := id ok
  obtain ⟨l0, l1, lA, lK⟩ := id okl
  refine lv_aload_n hx hb d_Mo_isLive_0 rfl (lv_at hl 0 rfl) ?_
  refine lv_iload_n hx hb d_Mo_isLive_1 rfl (lv_at hl 1 rfl) ?_
  refine callWi (va_runV (As := [.int a]) (rest := []) ⟨hx, hb, hml, hown, hts⟩ (c_Mo_find l dC dI cI cZ ad u a (by first | assumption | omega) s.heap.size) (cwV 1 hts (goodV m_17_38 m_17_39 m_19_38 m_0_12 m_18_0) rfl rfl rfl (by decide +kernel) ⟨Nat.le_of_ble_eq_true rfl, Nat.le_of_ble_eq_true rfl⟩) ⟨preW_blind, va_recv hK hP (ci := 8) (q0 := 0) rfl rfl, preW_ok hP hD hK⟩ rfl rfl hl.1 rfl (lv_room (Nat.le_of_ble_eq_true rfl)) d_Mo_isLive_2 ⟨Nat.zero_le _, Nat.zero_le _⟩) hP hD hS hA (fun H locs hP hD hS => ?_)
  refine lv_if_lt (tgt := 10) hx hb d_Mo_isLive_5 (by decide) (fun c1 => ?_) (fun c1 => ?_)
  · skip
    refine lv_iconst (v := 0) hx hb d_Mo_isLive_10 (by decide) ?_
    refine lv_istore_n (lv' := [(2, .int (b2i false)), (0, .ref (ad 0)), (1, .int a)]) hx hb d_Mo_isLive_11 rfl hl (by decide) rfl (fun ls hl => ?_)
    refine lv_iconst (v := nI 0) hx hb d_Mo_isLive_12 (by decide) ?_
    refine lv_istore_n (lv' := [(3, .int (nI 0)), (2, .int (b2i false)), (0, .ref (ad 0)), (1, .int a)]) hx hb d_Mo_isLive_13 rfl hl (by decide) rfl (fun ls hl => ?_)
    obtain ⟨o14, ho14⟩ : ∃ z : Bool, z = f_Mo_isLive_14 a u (gN u 1 + 1) 0 false := ⟨_, rfl⟩
    have K14 : ∀ (was1 : Bool) (H : Heap) (locs : List Loc) (ls : Array Slot), was1 = o14 → va_P (dC, dI) classes (wM cI cZ ad u) H → va_D A (wM cI cZ ad u) → va_S A s.heap H locs → lv_has ls 4 [(2, .int (b2i was1)), (0, .ref (ad 0)), (1, .int a)] → W p l e (headSpec w_Mo_isLive rm_Mo_isLive).room s m ([.ref (ad 0), .int a] : List Value).toArray below meth c H locs 0 0 (MQ below (QWi (dC, dI) classes [(cI, .int), (cZ, .boolean)] (wM cI cZ ad) A (b2i res.1) res.2) ([.ref (ad 0), .int a] : List Value).toArray s 0 0 A) (F0 m 40 ls []) := by
      intro was1 H locs ls eo hP hD hS hl
      have ewas1 := eo
      refine lv_aload_n hx hb d_Mo_isLive_40 rfl (lv_at hl 1 rfl) ?_
      refine lv_iload_n hx hb d_Mo_isLive_41 rfl (lv_at hl 0 rfl) ?_
      have J52 : ∀ (x2 : Int32) (H : Heap) (locs : List Loc), x2 = (if was1 = true then 6 else 7) → va_P (dC, dI) classes (wM cI cZ ad u) H → va_D A (wM cI cZ ad u) → va_S A s.heap H locs → W p l e (headSpec w_Mo_isLive rm_Mo_isLive).room s m ([.ref (ad 0), .int a] : List Value).toArray below meth c H locs 0 0 (MQ below (QWi (dC, dI) classes [(cI, .int), (cZ, .boolean)] (wM cI cZ ad) A (b2i res.1) res.2) ([.ref (ad 0), .int a] : List Value).toArray s 0 0 A) (F0 m 52 ls [.int x2, .ref (ad 0)]) := by
        intro x2 H locs ex2 hP hD hS
        refine lv_iload_n hx hb d_Mo_isLive_52 rfl (lv_at hl 2 rfl) ?_
        refine callWv (va_runV (As := [.int x2, .int a]) (rest := []) ⟨hx, hb, hml, hown, hts⟩ (c_Mo_fault l dC dI cI cZ ad u x2 a (by first | assumption | omega) H.size) (cwV 2 hts (goodV m_16_4 m_16_5 m_19_19 m_0_12 m_16_6) rfl rfl rfl (by decide +kernel) ⟨Nat.le_of_ble_eq_true rfl, Nat.le_of_ble_eq_true rfl⟩) ⟨preW_blind, va_recv hK hP (ci := 8) (q0 := 0) rfl rfl, preW_ok hP hD hK⟩ rfl rfl hl.1 rfl (lv_room (Nat.le_of_ble_eq_true rfl)) d_Mo_isLive_53 ⟨Nat.zero_le _, Nat.zero_le _⟩) hP hD hS hA (fun H locs hP hD hS => ?_)
        refine lv_iconst (v := 0) hx hb d_Mo_isLive_56 (by decide) ?_
        have hE : res = (false, f_Mo_fault x2 a u) := (by subst ex2; subst ewas1; subst ho14; exact hq.trans ((if_pos c1).trans rfl))
        exact retWb (x := false) hx hb hr hP hK hD hS (congrArg Prod.fst hE).symm (congrArg Prod.snd hE).symm d_Mo_isLive_57 hlocks
      refine rb_eq (tgt := 50) hx hb d_Mo_isLive_42 (by decide) (fun c3 => ?_) (fun c3 => ?_)
      · skip
        refine lv_bipush (v := 7) hx hb d_Mo_isLive_50 (by decide) ?_
        exact J52 7 _ _ (Eq.symm ((if_neg c3).trans (rfl))) hP hD hS
      · skip
        refine lv_bipush (v := 6) hx hb d_Mo_isLive_45 (by decide) ?_
        refine lv_goto (tgt := 52) hx hb d_Mo_isLive_47 (by decide) ?_
        exact J52 6 _ _ (Eq.symm ((if_pos c3).trans (rfl))) hP hD hS
    have L14 : ∀ (k : Nat) (j : Nat) (was : Bool) (H : Heap) (locs : List Loc) (ls : Array Slot), (j ≤ gN u 1) → (gN u 1 - j) < k → o14 = f_Mo_isLive_14 a u k j was → va_P (dC, dI) classes (wM cI cZ ad u) H → va_D A (wM cI cZ ad u) → va_S A s.heap H locs → lv_has ls 4 [(3, .int (nI j)), (2, .int (b2i was)), (0, .ref (ad 0)), (1, .int a)] → W p l e (headSpec w_Mo_isLive rm_Mo_isLive).room s m ([.ref (ad 0), .int a] : List Value).toArray below meth c H locs 0 0 (MQ below (QWi (dC, dI) classes [(cI, .int), (cZ, .boolean)] (wM cI cZ ad) A (b2i res.1) res.2) ([.ref (ad 0), .int a] : List Value).toArray s 0 0 A) (F0 m 14 ls []) := by
      intro k
      induction k with
      | zero => intro j was H locs ls hj hm; exact absurd hm (Nat.not_lt_zero _)
      | succ k14 ih14 =>
        intro j was H locs ls hj hm hq14 hP hD hS hl
        refine lv_iload_n hx hb d_Mo_isLive_14 rfl (lv_at hl 0 rfl) ?_
        refine lv_aload_n hx hb d_Mo_isLive_15 rfl (lv_at hl 2 rfl) ?_
        refine va_get (D := (dC, dI)) (ci := 8) (v := .int (nI (gN u 1))) (C := R_Mo) (T := F_Mo) (N := 31) hx hb hts in_Mo hown hK hP 0 rfl rfl 17 (by decide) (hts _ m_14_7) (fun _ h9 => h9) rfl d_Mo_isLive_16 ?_
        refine rn_ge (tgt := 40) hx hb (by omega) (by omega) d_Mo_isLive_19 (by decide) (fun c4 => ?_) (fun c4 => ?_)
        · skip
          exact K14 was _ _ _ (Eq.symm (hq14.trans ((if_neg (Nat.not_lt.mpr c4)).trans rfl))) hP hD hS (lv_sub hl [1, 2, 3] rfl)
        · skip
          refine lv_aload_n hx hb d_Mo_isLive_22 rfl (lv_at hl 2 rfl) ?_
          refine va_get (D := (dC, dI)) (ci := 8) (v := .ref (ad 9)) (C := R_Mo) (T := F_Mo) (N := 31) hx hb hts in_Mo hown hK hP 0 rfl rfl 14 (by decide) (hts _ m_14_4) (fun _ h9 => h9) rfl d_Mo_isLive_23 ?_
          refine lv_iload_n hx hb d_Mo_isLive_26 rfl (lv_at hl 0 rfl) ?_
          refine aldM_kept (u := u) (v := aN u 2 j) hx hb hK hP (by omega) rfl d_Mo_isLive_27 ?_
          refine lv_iload_n hx hb d_Mo_isLive_28 rfl (lv_at hl 3 rfl) ?_
          refine lv_icmp_ne (tgt := 34) hx hb d_Mo_isLive_29 (by decide) (fun c5 => ?_) (fun c5 => ?_)
          · skip
            refine lv_iinc (v := nI (j + 1)) (lv' := [(3, .int (nI (j + 1))), (2, .int (b2i was)), (0, .ref (ad 0)), (1, .int a)]) hx hb d_Mo_isLive_34 hl (k := 0) rfl (rn_inc j 1 (by decide)) (by decide) rfl (fun ls hl => ?_)
            refine lv_goto (tgt := 14) hx hb d_Mo_isLive_37 (by decide) ?_
            exact ih14 (j + 1) was _ _ _ (by first | assumption | omega) (by omega) (hq14.trans ((if_pos c4).trans ((if_neg c5).trans rfl))) hP hD hS (lv_sub hl [0, 1, 2, 3] rfl)
          · skip
            refine lv_iconst (v := 1) hx hb d_Mo_isLive_32 (by decide) ?_
            refine lv_istore_n (lv' := [(2, .int (b2i true)), (3, .int (nI j)), (0, .ref (ad 0)), (1, .int a)]) hx hb d_Mo_isLive_33 rfl hl (by decide) rfl (fun ls hl => ?_)
            refine lv_iinc (v := nI (j + 1)) (lv' := [(3, .int (nI (j + 1))), (2, .int (b2i true)), (0, .ref (ad 0)), (1, .int a)]) hx hb d_Mo_isLive_34 hl (k := 1) rfl (rn_inc j 1 (by decide)) (by decide) rfl (fun ls hl => ?_)
            refine lv_goto (tgt := 14) hx hb d_Mo_isLive_37 (by decide) ?_
            exact ih14 (j + 1) true _ _ _ (by first | assumption | omega) (by omega) (hq14.trans ((if_pos c4).trans ((if_pos c5).trans rfl))) hP hD hS (lv_sub hl [0, 1, 2, 3] rfl)
    exact L14 (gN u 1 + 1) 0 false _ _ _ (by first | assumption | omega) (by omega) (ho14) hP hD hS (lv_sub hl [0, 1, 2, 3] rfl)
  · skip
    refine lv_iconst (v := 1) hx hb d_Mo_isLive_8 (by decide) ?_
    have hE : res = (true, u) := hq.trans ((if_neg c1).trans rfl)
    exact retWb (x := true) hx hb hr hP hK hD hS (congrArg Prod.fst hE).symm (congrArg Prod.snd hE).symm d_Mo_isLive_9 hlocks
theorem iv_1 {a : Int32} {u : S5} (h : (f_Mo_isLive a u).1 = true) : ¬ f_Mo_find a u < 0 ∧ f_Mo_isLive a u = (true, u) := by
  unfold f_Mo_isLive at h ⊢
  by_cases h1 : f_Mo_find a u < 0
  · rw [if_pos h1] at h; exact absurd h Bool.false_ne_true
  · rw [if_neg h1]; exact ⟨h1, rfl⟩
def w_Mo_sum2 : List Cond := .code y_Mo_sum2 b_Mo_sum2 3 (some .int) :: ALLW
def rm_Mo_sum2 : Room := { frames := 20, cells := 0, slots := 0, locals := 600 }
theorem d_Mo_sum2_0 : decode b_Mo_sum2 0 = .ok (.iconst 0, 1) := by decide +kernel
theorem d_Mo_sum2_1 : decode b_Mo_sum2 1 = .ok (.istore_n 1, 1) := by decide +kernel
theorem d_Mo_sum2_2 : decode b_Mo_sum2 2 = .ok (.iconst 0, 1) := by decide +kernel
theorem d_Mo_sum2_3 : decode b_Mo_sum2 3 = .ok (.istore_n 2, 1) := by decide +kernel
theorem d_Mo_sum2_4 : decode b_Mo_sum2 4 = .ok (.iload_n 2, 1) := by decide +kernel
theorem d_Mo_sum2_5 : decode b_Mo_sum2 5 = .ok (.aload_n 0, 1) := by decide +kernel
theorem d_Mo_sum2_6 : decode b_Mo_sum2 6 = .ok (.getfield 100, 3) := by decide +kernel
theorem d_Mo_sum2_9 : decode b_Mo_sum2 9 = .ok (.if_icmp .ge 18, 3) := by decide +kernel
theorem d_Mo_sum2_12 : decode b_Mo_sum2 12 = .ok (.iload_n 1, 1) := by decide +kernel
theorem d_Mo_sum2_13 : decode b_Mo_sum2 13 = .ok (.aload_n 0, 1) := by decide +kernel
theorem d_Mo_sum2_14 : decode b_Mo_sum2 14 = .ok (.getfield 40, 3) := by decide +kernel
theorem d_Mo_sum2_17 : decode b_Mo_sum2 17 = .ok (.iload_n 2, 1) := by decide +kernel
theorem d_Mo_sum2_18 : decode b_Mo_sum2 18 = .ok (.iaload, 1) := by decide +kernel
theorem d_Mo_sum2_19 : decode b_Mo_sum2 19 = .ok (.iadd, 1) := by decide +kernel
theorem d_Mo_sum2_20 : decode b_Mo_sum2 20 = .ok (.istore_n 1, 1) := by decide +kernel
theorem d_Mo_sum2_21 : decode b_Mo_sum2 21 = .ok (.iinc 2 1, 3) := by decide +kernel
theorem d_Mo_sum2_24 : decode b_Mo_sum2 24 = .ok (.goto (-20), 3) := by decide +kernel
theorem d_Mo_sum2_27 : decode b_Mo_sum2 27 = .ok (.iload_n 1, 1) := by decide +kernel
theorem d_Mo_sum2_28 : decode b_Mo_sum2 28 = .ok (.ireturn, 1) := by decide +kernel
def f_Mo_sum2_4 (u : S5) : Nat → Nat → Int32 → Int32
  | 0, j, v => 0
  | k4 + 1, j, v => if j < (gN u 1) then f_Mo_sum2_4 u k4 (j + 1) (v + (nI (aN u 3 j))) else v
def f_Mo_sum2 (u : S5) : Int32 := f_Mo_sum2_4 u (gN u 1 + 1) 0 0
set_option maxHeartbeats 8000000 in
set_option maxRecDepth 100000 in
theorem c_Mo_sum2 (l : Launch) (dC : Nat → ClassId) (dI : Nat → Nat → Nat) (cI cZ : ClassId) (ad : Nat → Nat) (u : S5) (h1 : gN u 1 ≤ 799) (sz : Nat) : Met l y_Mo_sum2 w_Mo_sum2 rm_Mo_sum2 (PreW (dC, dI) classes [(cI, .int), (cZ, .boolean)] (wM cI cZ ad) u sz [.ref (ad 0)]) (QWi (dC, dI) classes [(cI, .int), (cZ, .boolean)] (wM cI cZ ad) (va_A (wM cI cZ ad u) sz) (f_Mo_sum2 u) u) 0 0 (va_A (wM cI cZ ad u) sz) := by
  generalize hres : f_Mo_sum2 u = res
  refine Met.ofW (cc := b_Mo_sum2) (maxL := 3) (ret := (some .int)) (by decide) rfl ?_
  intro p e s m args below meth c s₁ B hml hv
  obtain ⟨rfl, rfl, hP, hK, hD0⟩ := hv
  have hx := B.exec
  have hb := B.bytes
  have hr := B.returns
  have hts : ∀ w9 ∈ ALLW, w9.before ([.ref (ad 0)] : List Value).toArray s = true := fun w9 h => atoms_spec (ws := w_Mo_sum2) B.pre w9 (List.mem_cons_of_mem _ h)
  have hown : s.vm.findClass R_Mo = some m.cls := findClass_of_methodNamed B.named
  have hlocks := B.notSynchronized
  have hD := hD0.self (sz := s.heap.size)
  generalize hAe : va_A (wM cI cZ ad u) s.heap.size = A at hD ⊢
  have hA : ∀ q : Nat, s.heap.size ≤ q → A q := fun q h => by rw [← hAe]; exact Or.inr h
  have hS : va_S A s.heap s.heap [] := va_S.rf
  have hl := lv_entry ([.ref (ad 0)]) (n := 3) (Nat.le_of_ble_eq_true rfl)
  rw [lg_entry_eq]
  generalize (lg_sl ([.ref (ad 0)]) ++ List.replicate (3 - (lg_sl ([.ref (ad 0)])).length) Slot.unset).toArray = ls at hl ⊢
  have hl : lv_has ls 3 [(0, .ref (ad 0))] := hl
  have hq := hres.symm
  skip
  refine lv_iconst (v := 0) hx hb d_Mo_sum2_0 (by decide) ?_
  refine lv_istore_n (lv' := [(1, .int 0), (0, .ref (ad 0))]) hx hb d_Mo_sum2_1 rfl hl (by decide) rfl (fun ls hl => ?_)
  refine lv_iconst (v := nI 0) hx hb d_Mo_sum2_2 (by decide) ?_
  refine lv_istore_n (lv' := [(2, .int (nI 0)), (1, .int 0), (0, .ref (ad 0))]) hx hb d_Mo_sum2_3 rfl hl (by decide) rfl (fun ls hl => ?_)
  have L4 : ∀ (k : Nat) (j : Nat) (v : Int32) (H : Heap) (locs : List Loc) (ls : Array Slot), (j ≤ gN u 1) → (gN u 1 - j) < k → res = f_Mo_sum2_4 u k j v → va_P (dC, dI) classes (wM cI cZ ad u) H → va_D A (wM cI cZ ad u) → va_S A s.heap H locs → lv_has ls 3 [(2, .int (nI j)), (1, .int v), (0, .ref (ad 0))] → W p l e (headSpec w_Mo_sum2 rm_Mo_sum2).room s m ([.ref (ad 0)] : List Value).toArray below meth c H locs 0 0 (MQ below (QWi (dC, dI) classes [(cI, .int), (cZ, .boolean)] (wM cI cZ ad) A res u) ([.ref (ad 0)] : List Value).toArray s 0 0 A) (F0 m 4 ls []) := by
    intro k
    induction k with
    | zero => intro j v H locs ls hj hm; exact absurd hm (Nat.not_lt_zero _)
    | succ k4 ih4 =>
      intro j v H locs ls hj hm hq4 hP hD hS hl
      refine lv_iload_n hx hb d_Mo_sum2_4 rfl (lv_at hl 0 rfl) ?_
      refine lv_aload_n hx hb d_Mo_sum2_5 rfl (lv_at hl 2 rfl) ?_
      refine va_get (D := (dC, dI)) (ci := 8) (v := .int (nI (gN u 1))) (C := R_Mo) (T := F_Mo) (N := 31) hx hb hts in_Mo hown hK hP 0 rfl rfl 17 (by decide) (hts _ m_14_7) (fun _ h9 => h9) rfl d_Mo_sum2_6 ?_
      refine rn_ge (tgt := 27) hx hb (by omega) (by omega) d_Mo_sum2_9 (by decide) (fun c1 => ?_) (fun c1 => ?_)
      · skip
        refine lv_iload_n hx hb d_Mo_sum2_27 rfl (lv_at hl 1 rfl) ?_
        have hE : res = v := hq4.trans ((if_neg (Nat.not_lt.mpr c1)).trans rfl)
        exact retWi (x := v) hx hb hr hP hK hD hS hE.symm rfl d_Mo_sum2_28 hlocks
      · skip
        refine lv_iload_n hx hb d_Mo_sum2_12 rfl (lv_at hl 1 rfl) ?_
        refine lv_aload_n hx hb d_Mo_sum2_13 rfl (lv_at hl 2 rfl) ?_
        refine va_get (D := (dC, dI)) (ci := 8) (v := .ref (ad 10)) (C := R_Mo) (T := F_Mo) (N := 31) hx hb hts in_Mo hown hK hP 0 rfl rfl 15 (by decide) (hts _ m_14_5) (fun _ h9 => h9) rfl d_Mo_sum2_14 ?_
        refine lv_iload_n hx hb d_Mo_sum2_17 rfl (lv_at hl 0 rfl) ?_
        refine aldM_keptLength (u := u) (v := aN u 3 j) hx hb hK hP (by omega) rfl d_Mo_sum2_18 ?_
        refine lv_iadd hx hb d_Mo_sum2_19 ?_
        refine lv_istore_n (lv' := [(1, .int (v + (nI (aN u 3 j)))), (2, .int (nI j)), (0, .ref (ad 0))]) hx hb d_Mo_sum2_20 rfl hl (by decide) rfl (fun ls hl => ?_)
        refine lv_iinc (v := nI (j + 1)) (lv' := [(2, .int (nI (j + 1))), (1, .int (v + (nI (aN u 3 j)))), (0, .ref (ad 0))]) hx hb d_Mo_sum2_21 hl (k := 1) rfl (rn_inc j 1 (by decide)) (by decide) rfl (fun ls hl => ?_)
        refine lv_goto (tgt := 4) hx hb d_Mo_sum2_24 (by decide) ?_
        exact ih4 (j + 1) (v + (nI (aN u 3 j))) _ _ _ (by first | assumption | omega) (by omega) (hq4.trans ((if_pos c1).trans rfl)) hP hD hS (lv_sub hl [0, 1, 2] rfl)
  exact L4 (gN u 1 + 1) 0 0 _ _ _ (by first | assumption | omega) (by omega) (hq.trans (rfl)) hP hD hS (lv_sub hl [0, 1, 2] rfl)
theorem s2_0 (u : S5) (h : gN u 1 = 0) : f_Mo_sum2 u = 0 := by
  unfold f_Mo_sum2
  rw [h]
  unfold f_Mo_sum2_4
  rw [h, if_neg (Nat.not_lt_zero _)]
def w_Mo_of : List Cond := .code y_Mo_of b_Mo_of 3 (some .boolean) :: ALLW
def rm_Mo_of : Room := { frames := 20, cells := 0, slots := 0, locals := 600 }
theorem d_Mo_of_0 : decode b_Mo_of 0 = .ok (.iload_n 2, 1) := by decide +kernel
theorem d_Mo_of_1 : decode b_Mo_of 1 = .ok (.aload_n 0, 1) := by decide +kernel
theorem d_Mo_of_2 : decode b_Mo_of 2 = .ok (.getfield 31, 3) := by decide +kernel
theorem d_Mo_of_5 : decode b_Mo_of 5 = .ok (.iload_n 1, 1) := by decide +kernel
theorem d_Mo_of_6 : decode b_Mo_of 6 = .ok (.iaload, 1) := by decide +kernel
theorem d_Mo_of_7 : decode b_Mo_of 7 = .ok (.if_icmp .eq 30, 3) := by decide +kernel
theorem d_Mo_of_10 : decode b_Mo_of 10 = .ok (.iload_n 2, 1) := by decide +kernel
theorem d_Mo_of_11 : decode b_Mo_of 11 = .ok (.aload_n 0, 1) := by decide +kernel
theorem d_Mo_of_12 : decode b_Mo_of 12 = .ok (.getfield 31, 3) := by decide +kernel
theorem d_Mo_of_15 : decode b_Mo_of 15 = .ok (.iload_n 1, 1) := by decide +kernel
theorem d_Mo_of_16 : decode b_Mo_of 16 = .ok (.iaload, 1) := by decide +kernel
theorem d_Mo_of_17 : decode b_Mo_of 17 = .ok (.if_icmp .lt 24, 3) := by decide +kernel
theorem d_Mo_of_20 : decode b_Mo_of 20 = .ok (.iload_n 2, 1) := by decide +kernel
theorem d_Mo_of_21 : decode b_Mo_of 21 = .ok (.aload_n 0, 1) := by decide +kernel
theorem d_Mo_of_22 : decode b_Mo_of 22 = .ok (.getfield 31, 3) := by decide +kernel
theorem d_Mo_of_25 : decode b_Mo_of 25 = .ok (.iload_n 1, 1) := by decide +kernel
theorem d_Mo_of_26 : decode b_Mo_of 26 = .ok (.iaload, 1) := by decide +kernel
theorem d_Mo_of_27 : decode b_Mo_of 27 = .ok (.aload_n 0, 1) := by decide +kernel
theorem d_Mo_of_28 : decode b_Mo_of 28 = .ok (.getfield 34, 3) := by decide +kernel
theorem d_Mo_of_31 : decode b_Mo_of 31 = .ok (.iload_n 1, 1) := by decide +kernel
theorem d_Mo_of_32 : decode b_Mo_of 32 = .ok (.iaload, 1) := by decide +kernel
theorem d_Mo_of_33 : decode b_Mo_of 33 = .ok (.iadd, 1) := by decide +kernel
theorem d_Mo_of_34 : decode b_Mo_of 34 = .ok (.if_icmp .ge 7, 3) := by decide +kernel
theorem d_Mo_of_37 : decode b_Mo_of 37 = .ok (.iconst 1, 1) := by decide +kernel
theorem d_Mo_of_38 : decode b_Mo_of 38 = .ok (.goto 4, 3) := by decide +kernel
theorem d_Mo_of_41 : decode b_Mo_of 41 = .ok (.iconst 0, 1) := by decide +kernel
theorem d_Mo_of_42 : decode b_Mo_of 42 = .ok (.ireturn, 1) := by decide +kernel
def f_Mo_of (j : Nat) (v : Int32) (u : S5) : Bool := let x1 : Bool := if v = (nI (aN u 0 j)) then true else if v < (nI (aN u 0 j)) then false else if (nI (aN u 0 j + (aN u 1 j))) ≤ v then false else true; x1
set_option maxHeartbeats 8000000 in
set_option maxRecDepth 100000 in
theorem c_Mo_of (l : Launch) (dC : Nat → ClassId) (dI : Nat → Nat → Nat) (cI cZ : ClassId) (ad : Nat → Nat) (u : S5) (j : Nat) (v : Int32) (hj : j < 800) (sz : Nat) : Met l y_Mo_of w_Mo_of rm_Mo_of (PreW (dC, dI) classes [(cI, .int), (cZ, .boolean)] (wM cI cZ ad) u sz [.ref (ad 0), .int (nI j), .int v]) (QWi (dC, dI) classes [(cI, .int), (cZ, .boolean)] (wM cI cZ ad) (va_A (wM cI cZ ad u) sz) (b2i (f_Mo_of j v u)) u) 0 0 (va_A (wM cI cZ ad u) sz) := by
  generalize hres : f_Mo_of j v u = res
  refine Met.ofW (cc := b_Mo_of) (maxL := 3) (ret := (some .boolean)) (by decide) rfl ?_
  intro p e s m args below meth c s₁ B hml hv
  obtain ⟨rfl, rfl, hP, hK, hD0⟩ := hv
  have hx := B.exec
  have hb := B.bytes
  have hr := B.returns
  have hts : ∀ w9 ∈ ALLW, w9.before ([.ref (ad 0), .int (nI j), .int v] : List Value).toArray s = true := fun w9 h => atoms_spec (ws := w_Mo_of) B.pre w9 (List.mem_cons_of_mem _ h)
  have hown : s.vm.findClass R_Mo = some m.cls := findClass_of_methodNamed B.named
  have hlocks := B.notSynchronized
  have hD := hD0.self (sz := s.heap.size)
  generalize hAe : va_A (wM cI cZ ad u) s.heap.size = A at hD ⊢
  have hA : ∀ q : Nat, s.heap.size ≤ q → A q := fun q h => by rw [← hAe]; exact Or.inr h
  have hS : va_S A s.heap s.heap [] := va_S.rf
  have hl := lv_entry ([.ref (ad 0), .int (nI j), .int v]) (n := 3) (Nat.le_of_ble_eq_true rfl)
  rw [lg_entry_eq]
  generalize (lg_sl ([.ref (ad 0), .int (nI j), .int v]) ++ List.replicate (3 - (lg_sl ([.ref (ad 0), .int (nI j), .int v])).length) Slot.unset).toArray = ls at hl ⊢
  have hl : lv_has ls 3 [(0, .ref (ad 0)), (1, .int (nI j)), (2, .int v)] := hl
  have hq := hres.symm
  skip
  refine lv_iload_n hx hb d_Mo_of_0 rfl (lv_at hl 2 rfl) ?_
  refine lv_aload_n hx hb d_Mo_of_1 rfl (lv_at hl 0 rfl) ?_
  refine va_get (D := (dC, dI)) (ci := 8) (v := .ref (ad 7)) (C := R_Mo) (T := F_Mo) (N := 31) hx hb hts in_Mo hown hK hP 0 rfl rfl 12 (by decide) (hts _ m_14_2) (fun _ h9 => h9) rfl d_Mo_of_2 ?_
  refine lv_iload_n hx hb d_Mo_of_5 rfl (lv_at hl 1 rfl) ?_
  refine aldM_address (u := u) (v := aN u 0 j) hx hb hK hP (by omega) rfl d_Mo_of_6 ?_
  have J42 : ∀ (x1 : Bool) (H : Heap) (locs : List Loc), x1 = (if v = (nI (aN u 0 j)) then true else if v < (nI (aN u 0 j)) then false else if (nI (aN u 0 j + (aN u 1 j))) ≤ v then false else true) → va_P (dC, dI) classes (wM cI cZ ad u) H → va_D A (wM cI cZ ad u) → va_S A s.heap H locs → W p l e (headSpec w_Mo_of rm_Mo_of).room s m ([.ref (ad 0), .int (nI j), .int v] : List Value).toArray below meth c H locs 0 0 (MQ below (QWi (dC, dI) classes [(cI, .int), (cZ, .boolean)] (wM cI cZ ad) A (b2i res) u) ([.ref (ad 0), .int (nI j), .int v] : List Value).toArray s 0 0 A) (F0 m 42 ls [.int (b2i x1)]) := by
    intro x1 H locs ex1 hP hD hS
    have hE : res = x1 := (by subst ex1; exact hq.trans (rfl))
    exact retWb (x := x1) hx hb hr hP hK hD hS hE.symm rfl d_Mo_of_42 hlocks
  refine lv_icmp_eq (tgt := 37) hx hb d_Mo_of_7 (by decide) (fun c2 => ?_) (fun c2 => ?_)
  · skip
    refine lv_iconst (v := 1) hx hb d_Mo_of_37 (by decide) ?_
    refine lv_goto (tgt := 42) hx hb d_Mo_of_38 (by decide) ?_
    exact J42 true _ _ (Eq.symm ((if_pos c2).trans (rfl))) hP hD hS
  · skip
    refine lv_iload_n hx hb d_Mo_of_10 rfl (lv_at hl 2 rfl) ?_
    refine lv_aload_n hx hb d_Mo_of_11 rfl (lv_at hl 0 rfl) ?_
    refine va_get (D := (dC, dI)) (ci := 8) (v := .ref (ad 7)) (C := R_Mo) (T := F_Mo) (N := 31) hx hb hts in_Mo hown hK hP 0 rfl rfl 12 (by decide) (hts _ m_14_2) (fun _ h9 => h9) rfl d_Mo_of_12 ?_
    refine lv_iload_n hx hb d_Mo_of_15 rfl (lv_at hl 1 rfl) ?_
    refine aldM_address (u := u) (v := aN u 0 j) hx hb hK hP (by omega) rfl d_Mo_of_16 ?_
    refine lv_icmp_lt (tgt := 41) hx hb d_Mo_of_17 (by decide) (fun c3 => ?_) (fun c3 => ?_)
    · skip
      refine lv_iconst (v := 0) hx hb d_Mo_of_41 (by decide) ?_
      exact J42 false _ _ (Eq.symm ((if_neg c2).trans ((if_pos c3).trans (rfl)))) hP hD hS
    · skip
      refine lv_iload_n hx hb d_Mo_of_20 rfl (lv_at hl 2 rfl) ?_
      refine lv_aload_n hx hb d_Mo_of_21 rfl (lv_at hl 0 rfl) ?_
      refine va_get (D := (dC, dI)) (ci := 8) (v := .ref (ad 7)) (C := R_Mo) (T := F_Mo) (N := 31) hx hb hts in_Mo hown hK hP 0 rfl rfl 12 (by decide) (hts _ m_14_2) (fun _ h9 => h9) rfl d_Mo_of_22 ?_
      refine lv_iload_n hx hb d_Mo_of_25 rfl (lv_at hl 1 rfl) ?_
      refine aldM_address (u := u) (v := aN u 0 j) hx hb hK hP (by omega) rfl d_Mo_of_26 ?_
      refine lv_aload_n hx hb d_Mo_of_27 rfl (lv_at hl 0 rfl) ?_
      refine va_get (D := (dC, dI)) (ci := 8) (v := .ref (ad 8)) (C := R_Mo) (T := F_Mo) (N := 31) hx hb hts in_Mo hown hK hP 0 rfl rfl 13 (by decide) (hts _ m_14_3) (fun _ h9 => h9) rfl d_Mo_of_28 ?_
      refine lv_iload_n hx hb d_Mo_of_31 rfl (lv_at hl 1 rfl) ?_
      refine aldM_length (u := u) (v := aN u 1 j) hx hb hK hP (by omega) rfl d_Mo_of_32 ?_
      refine lv_iadd hx hb d_Mo_of_33 ?_
      refine rw_top (y := nI (aN u 0 j + (aN u 1 j))) (nI_add (aN u 0 j) (aN u 1 j)) ?_
      refine lv_icmp_ge (tgt := 41) hx hb d_Mo_of_34 (by decide) (fun c4 => ?_) (fun c4 => ?_)
      · skip
        refine lv_iconst (v := 0) hx hb d_Mo_of_41 (by decide) ?_
        exact J42 false _ _ (Eq.symm ((if_neg c2).trans ((if_neg c3).trans ((if_pos c4).trans (rfl))))) hP hD hS
      · skip
        refine lv_iconst (v := 1) hx hb d_Mo_of_37 (by decide) ?_
        refine lv_goto (tgt := 42) hx hb d_Mo_of_38 (by decide) ?_
        exact J42 true _ _ (Eq.symm ((if_neg c2).trans ((if_neg c3).trans ((if_neg c4).trans (rfl))))) hP hD hS
def w_Mo_tells : List Cond := .code y_Mo_tells b_Mo_tells 5 (some .boolean) :: ALLW
def rm_Mo_tells : Room := { frames := 21, cells := 0, slots := 0, locals := 622 }
theorem d_Mo_tells_0 : decode b_Mo_tells 0 = .ok (.iconst 0, 1) := by decide +kernel
theorem d_Mo_tells_1 : decode b_Mo_tells 1 = .ok (.istore_n 3, 1) := by decide +kernel
theorem d_Mo_tells_2 : decode b_Mo_tells 2 = .ok (.iload_n 3, 1) := by decide +kernel
theorem d_Mo_tells_3 : decode b_Mo_tells 3 = .ok (.iconst 4, 1) := by decide +kernel
theorem d_Mo_tells_4 : decode b_Mo_tells 4 = .ok (.if_icmp .ge 57, 3) := by decide +kernel
theorem d_Mo_tells_7 : decode b_Mo_tells 7 = .ok (.aload_n 0, 1) := by decide +kernel
theorem d_Mo_tells_8 : decode b_Mo_tells 8 = .ok (.getfield 20, 3) := by decide +kernel
theorem d_Mo_tells_11 : decode b_Mo_tells 11 = .ok (.iload_n 1, 1) := by decide +kernel
theorem d_Mo_tells_12 : decode b_Mo_tells 12 = .ok (.iload_n 3, 1) := by decide +kernel
theorem d_Mo_tells_13 : decode b_Mo_tells 13 = .ok (.iadd, 1) := by decide +kernel
theorem d_Mo_tells_14 : decode b_Mo_tells 14 = .ok (.baload, 1) := by decide +kernel
theorem d_Mo_tells_15 : decode b_Mo_tells 15 = .ok (.ifCond .ne 5, 3) := by decide +kernel
theorem d_Mo_tells_18 : decode b_Mo_tells 18 = .ok (.iconst 0, 1) := by decide +kernel
theorem d_Mo_tells_19 : decode b_Mo_tells 19 = .ok (.ireturn, 1) := by decide +kernel
theorem d_Mo_tells_20 : decode b_Mo_tells 20 = .ok (.iconst 0, 1) := by decide +kernel
theorem d_Mo_tells_21 : decode b_Mo_tells 21 = .ok (.istore 4, 2) := by decide +kernel
theorem d_Mo_tells_23 : decode b_Mo_tells 23 = .ok (.iload 4, 2) := by decide +kernel
theorem d_Mo_tells_25 : decode b_Mo_tells 25 = .ok (.bipush 8, 2) := by decide +kernel
theorem d_Mo_tells_27 : decode b_Mo_tells 27 = .ok (.if_icmp .ge 28, 3) := by decide +kernel
theorem d_Mo_tells_30 : decode b_Mo_tells 30 = .ok (.aload_n 0, 1) := by decide +kernel
theorem d_Mo_tells_31 : decode b_Mo_tells 31 = .ok (.getfield 25, 3) := by decide +kernel
theorem d_Mo_tells_34 : decode b_Mo_tells 34 = .ok (.bipush 8, 2) := by decide +kernel
theorem d_Mo_tells_36 : decode b_Mo_tells 36 = .ok (.iload_n 1, 1) := by decide +kernel
theorem d_Mo_tells_37 : decode b_Mo_tells 37 = .ok (.iload_n 3, 1) := by decide +kernel
theorem d_Mo_tells_38 : decode b_Mo_tells 38 = .ok (.iadd, 1) := by decide +kernel
theorem d_Mo_tells_39 : decode b_Mo_tells 39 = .ok (.imul, 1) := by decide +kernel
theorem d_Mo_tells_40 : decode b_Mo_tells 40 = .ok (.iload 4, 2) := by decide +kernel
theorem d_Mo_tells_42 : decode b_Mo_tells 42 = .ok (.iadd, 1) := by decide +kernel
theorem d_Mo_tells_43 : decode b_Mo_tells 43 = .ok (.baload, 1) := by decide +kernel
theorem d_Mo_tells_44 : decode b_Mo_tells 44 = .ok (.ifCond .eq 5, 3) := by decide +kernel
theorem d_Mo_tells_47 : decode b_Mo_tells 47 = .ok (.iconst 0, 1) := by decide +kernel
theorem d_Mo_tells_48 : decode b_Mo_tells 48 = .ok (.ireturn, 1) := by decide +kernel
theorem d_Mo_tells_49 : decode b_Mo_tells 49 = .ok (.iinc 4 1, 3) := by decide +kernel
theorem d_Mo_tells_52 : decode b_Mo_tells 52 = .ok (.goto (-29), 3) := by decide +kernel
theorem d_Mo_tells_55 : decode b_Mo_tells 55 = .ok (.iinc 3 1, 3) := by decide +kernel
theorem d_Mo_tells_58 : decode b_Mo_tells 58 = .ok (.goto (-56), 3) := by decide +kernel
theorem d_Mo_tells_61 : decode b_Mo_tells 61 = .ok (.aload_n 0, 1) := by decide +kernel
theorem d_Mo_tells_62 : decode b_Mo_tells 62 = .ok (.iload_n 2, 1) := by decide +kernel
theorem d_Mo_tells_63 : decode b_Mo_tells 63 = .ok (.aload_n 0, 1) := by decide +kernel
theorem d_Mo_tells_64 : decode b_Mo_tells 64 = .ok (.iload_n 1, 1) := by decide +kernel
theorem d_Mo_tells_65 : decode b_Mo_tells 65 = .ok (.invokevirtual 124, 3) := by decide +kernel
theorem d_Mo_tells_68 : decode b_Mo_tells 68 = .ok (.invokevirtual 216, 3) := by decide +kernel
theorem d_Mo_tells_71 : decode b_Mo_tells 71 = .ok (.ireturn, 1) := by decide +kernel
def f_Mo_tells_23 (at_ : Nat) (q : Nat) (u : S5) (i : Nat) (kk23 : Nat → Bool) : Nat → Nat → Bool
  | 0, j => false
  | k23 + 1, j => if j < 8 then (if (aB u 1 (8 * (at_ + i) + j)) = true then false else f_Mo_tells_23 at_ q u i kk23 k23 (j + 1)) else kk23 (i + 1)
def f_Mo_tells_2 (at_ : Nat) (q : Nat) (u : S5) : Nat → Nat → Bool
  | 0, i => false
  | k2 + 1, i => if i < 4 then (if (aB u 0 (at_ + i)) = true then f_Mo_tells_23 at_ q u i (fun i9 => f_Mo_tells_2 at_ q u k2 i9) 9 0 else false) else f_Mo_of q (f_Mo_word at_ u) u
def f_Mo_tells (at_ : Nat) (q : Nat) (u : S5) : Bool := f_Mo_tells_2 at_ q u 5 0
set_option maxHeartbeats 8000000 in
set_option maxRecDepth 100000 in
theorem c_Mo_tells (l : Launch) (dC : Nat → ClassId) (dI : Nat → Nat → Nat) (cI cZ : ClassId) (ad : Nat → Nat) (u : S5) (at_ : Nat) (q : Nat) (ha : at_ + 4 ≤ 65536) (hq : q < 800) (sz : Nat) : Met l y_Mo_tells w_Mo_tells rm_Mo_tells (PreW (dC, dI) classes [(cI, .int), (cZ, .boolean)] (wM cI cZ ad) u sz [.ref (ad 0), .int (nI at_), .int (nI q)]) (QWi (dC, dI) classes [(cI, .int), (cZ, .boolean)] (wM cI cZ ad) (va_A (wM cI cZ ad u) sz) (b2i (f_Mo_tells at_ q u)) u) 0 0 (va_A (wM cI cZ ad u) sz) := by
  generalize hres : f_Mo_tells at_ q u = res
  refine Met.ofW (cc := b_Mo_tells) (maxL := 5) (ret := (some .boolean)) (by decide) rfl ?_
  intro p e s m args below meth c s₁ B hml hv
  obtain ⟨rfl, rfl, hP, hK, hD0⟩ := hv
  have hx := B.exec
  have hb := B.bytes
  have hr := B.returns
  have hts : ∀ w9 ∈ ALLW, w9.before ([.ref (ad 0), .int (nI at_), .int (nI q)] : List Value).toArray s = true := fun w9 h => atoms_spec (ws := w_Mo_tells) B.pre w9 (List.mem_cons_of_mem _ h)
  have hown : s.vm.findClass R_Mo = some m.cls := findClass_of_methodNamed B.named
  have hlocks := B.notSynchronized
  have hD := hD0.self (sz := s.heap.size)
  generalize hAe : va_A (wM cI cZ ad u) s.heap.size = A at hD ⊢
  have hA : ∀ q : Nat, s.heap.size ≤ q → A q := fun q h => by rw [← hAe]; exact Or.inr h
  have hS : va_S A s.heap s.heap [] := va_S.rf
  have hl := lv_entry ([.ref (ad 0), .int (nI at_), .int (nI q)]) (n := 5) (Nat.le_of_ble_eq_true rfl)
  rw [lg_entry_eq]
  generalize (lg_sl ([.ref (ad 0), .int (nI at_), .int (nI q)]) ++ List.replicate (5 - (lg_sl ([.ref (ad 0), .int (nI at_), .int (nI q)])).length) Slot.unset).toArray = ls at hl ⊢
  have hl : lv_has ls 5 [(0, .ref (ad 0)), (1, .int (nI at_)), (2, .int (nI q))] := hl
  have hq := hres.symm
  skip
  refine lv_iconst (v := nI 0) hx hb d_Mo_tells_0 (by decide) ?_
  refine lv_istore_n (lv' := [(3, .int (nI 0)), (0, .ref (ad 0)), (1, .int (nI at_)), (2, .int (nI q))]) hx hb d_Mo_tells_1 rfl hl (by decide) rfl (fun ls hl => ?_)
  have L2 : ∀ (k : Nat) (i : Nat) (H : Heap) (locs : List Loc) (ls : Array Slot), (i ≤ 4) → (4 - i) < k → res = f_Mo_tells_2 at_ q u k i → va_P (dC, dI) classes (wM cI cZ ad u) H → va_D A (wM cI cZ ad u) → va_S A s.heap H locs → lv_has ls 5 [(3, .int (nI i)), (0, .ref (ad 0)), (1, .int (nI at_)), (2, .int (nI q))] → W p l e (headSpec w_Mo_tells rm_Mo_tells).room s m ([.ref (ad 0), .int (nI at_), .int (nI q)] : List Value).toArray below meth c H locs 0 0 (MQ below (QWi (dC, dI) classes [(cI, .int), (cZ, .boolean)] (wM cI cZ ad) A (b2i res) u) ([.ref (ad 0), .int (nI at_), .int (nI q)] : List Value).toArray s 0 0 A) (F0 m 2 ls []) := by
    intro k
    induction k with
    | zero => intro i H locs ls hi hm; exact absurd hm (Nat.not_lt_zero _)
    | succ k2 ih2 =>
      intro i H locs ls hi hm hq2 hP hD hS hl
      refine lv_iload_n hx hb d_Mo_tells_2 rfl (lv_at hl 0 rfl) ?_
      refine lv_iconst (v := nI 4) hx hb d_Mo_tells_3 (by decide) ?_
      refine rn_ge (tgt := 61) hx hb (by omega) (by omega) d_Mo_tells_4 (by decide) (fun c1 => ?_) (fun c1 => ?_)
      · skip
        refine lv_aload_n hx hb d_Mo_tells_61 rfl (lv_at hl 1 rfl) ?_
        refine lv_iload_n hx hb d_Mo_tells_62 rfl (lv_at hl 3 rfl) ?_
        refine lv_aload_n hx hb d_Mo_tells_63 rfl (lv_at hl 1 rfl) ?_
        refine lv_iload_n hx hb d_Mo_tells_64 rfl (lv_at hl 2 rfl) ?_
        refine callWi (va_runV (As := [.int (nI at_)]) (rest := [.int (nI q), .ref (ad 0)]) ⟨hx, hb, hml, hown, hts⟩ (c_Mo_word l dC dI cI cZ ad u at_ (by first | assumption | omega) H.size) (cwV 1 hts (goodV m_16_1 m_16_2 m_19_18 m_0_12 m_16_3) rfl rfl rfl (by decide +kernel) ⟨Nat.le_of_ble_eq_true rfl, Nat.le_of_ble_eq_true rfl⟩) ⟨preW_blind, va_recv hK hP (ci := 8) (q0 := 0) rfl rfl, preW_ok hP hD hK⟩ rfl rfl hl.1 rfl (lv_room (Nat.le_of_ble_eq_true rfl)) d_Mo_tells_65 ⟨Nat.zero_le _, Nat.zero_le _⟩) hP hD hS hA (fun H locs hP hD hS => ?_)
        refine callWi (va_runV (As := [.int (nI q), .int (f_Mo_word at_ u)]) (rest := []) ⟨hx, hb, hml, hown, hts⟩ (c_Mo_of l dC dI cI cZ ad u q (f_Mo_word at_ u) (by first | assumption | omega) H.size) (cwV 2 hts (goodV m_17_19 m_17_20 m_19_33 m_0_12 m_17_21) rfl rfl rfl (by decide +kernel) ⟨Nat.le_of_ble_eq_true rfl, Nat.le_of_ble_eq_true rfl⟩) ⟨preW_blind, va_recv hK hP (ci := 8) (q0 := 0) rfl rfl, preW_ok hP hD hK⟩ rfl rfl hl.1 rfl (lv_room (Nat.le_of_ble_eq_true rfl)) d_Mo_tells_68 ⟨Nat.zero_le _, Nat.zero_le _⟩) hP hD hS hA (fun H locs hP hD hS => ?_)
        have hE : res = f_Mo_of q (f_Mo_word at_ u) u := hq2.trans ((if_neg (Nat.not_lt.mpr c1)).trans rfl)
        exact retWb (x := f_Mo_of q (f_Mo_word at_ u) u) hx hb hr hP hK hD hS hE.symm rfl d_Mo_tells_71 hlocks
      · skip
        refine lv_aload_n hx hb d_Mo_tells_7 rfl (lv_at hl 1 rfl) ?_
        refine va_get (D := (dC, dI)) (ci := 8) (v := .ref (ad 4)) (C := R_Mo) (T := F_Mo) (N := 31) hx hb hts in_Mo hown hK hP 0 rfl rfl 4 (by decide) (hts _ m_13_34) (fun _ h9 => h9) rfl d_Mo_tells_8 ?_
        refine lv_iload_n hx hb d_Mo_tells_11 rfl (lv_at hl 2 rfl) ?_
        refine lv_iload_n hx hb d_Mo_tells_12 rfl (lv_at hl 0 rfl) ?_
        refine lv_iadd hx hb d_Mo_tells_13 ?_
        refine rw_top (y := nI (at_ + i)) (nI_add at_ i) ?_
        refine aldM_open (u := u) (v := aB u 0 (at_ + i)) hx hb hK hP (by omega) rfl d_Mo_tells_14 ?_
        refine rb_ne (tgt := 20) hx hb d_Mo_tells_15 (by decide) (fun c2 => ?_) (fun c2 => ?_)
        · skip
          refine lv_iconst (v := nI 0) hx hb d_Mo_tells_20 (by decide) ?_
          refine lv_istore (lv' := [(4, .int (nI 0)), (3, .int (nI i)), (0, .ref (ad 0)), (1, .int (nI at_)), (2, .int (nI q))]) hx hb d_Mo_tells_21 hl (by decide) rfl (fun ls hl => ?_)
          have L23 : ∀ (k : Nat) (j : Nat) (H : Heap) (locs : List Loc) (ls : Array Slot), (j ≤ 8) → (8 - j) < k → res = f_Mo_tells_23 at_ q u i (fun i9 => f_Mo_tells_2 at_ q u k2 i9) k j → va_P (dC, dI) classes (wM cI cZ ad u) H → va_D A (wM cI cZ ad u) → va_S A s.heap H locs → lv_has ls 5 [(4, .int (nI j)), (3, .int (nI i)), (0, .ref (ad 0)), (1, .int (nI at_)), (2, .int (nI q))] → W p l e (headSpec w_Mo_tells rm_Mo_tells).room s m ([.ref (ad 0), .int (nI at_), .int (nI q)] : List Value).toArray below meth c H locs 0 0 (MQ below (QWi (dC, dI) classes [(cI, .int), (cZ, .boolean)] (wM cI cZ ad) A (b2i res) u) ([.ref (ad 0), .int (nI at_), .int (nI q)] : List Value).toArray s 0 0 A) (F0 m 23 ls []) := by
            intro k
            induction k with
            | zero => intro j H locs ls hj hm; exact absurd hm (Nat.not_lt_zero _)
            | succ k23 ih23 =>
              intro j H locs ls hj hm hq23 hP hD hS hl
              refine lv_iload hx hb d_Mo_tells_23 (lv_at hl 0 rfl) ?_
              refine lv_bipush (v := nI 8) hx hb d_Mo_tells_25 (by decide) ?_
              refine rn_ge (tgt := 55) hx hb (by omega) (by omega) d_Mo_tells_27 (by decide) (fun c3 => ?_) (fun c3 => ?_)
              · skip
                refine lv_iinc (v := nI (i + 1)) (lv' := [(3, .int (nI (i + 1))), (4, .int (nI j)), (0, .ref (ad 0)), (1, .int (nI at_)), (2, .int (nI q))]) hx hb d_Mo_tells_55 hl (k := 1) rfl (rn_inc i 1 (by decide)) (by decide) rfl (fun ls hl => ?_)
                refine lv_goto (tgt := 2) hx hb d_Mo_tells_58 (by decide) ?_
                exact ih2 (i + 1) _ _ _ (by first | assumption | omega) (by omega) (hq23.trans ((if_neg (Nat.not_lt.mpr c3)).trans rfl)) hP hD hS (lv_sub hl [0, 2, 3, 4] rfl)
              · skip
                refine lv_aload_n hx hb d_Mo_tells_30 rfl (lv_at hl 2 rfl) ?_
                refine va_get (D := (dC, dI)) (ci := 8) (v := .ref (ad 5)) (C := R_Mo) (T := F_Mo) (N := 31) hx hb hts in_Mo hown hK hP 0 rfl rfl 5 (by decide) (hts _ m_13_35) (fun _ h9 => h9) rfl d_Mo_tells_31 ?_
                refine lv_bipush (v := nI 8) hx hb d_Mo_tells_34 (by decide) ?_
                refine lv_iload_n hx hb d_Mo_tells_36 rfl (lv_at hl 3 rfl) ?_
                refine lv_iload_n hx hb d_Mo_tells_37 rfl (lv_at hl 1 rfl) ?_
                refine lv_iadd hx hb d_Mo_tells_38 ?_
                refine rw_top (y := nI (at_ + i)) (nI_add at_ i) ?_
                refine lv_imul hx hb d_Mo_tells_39 ?_
                refine rw_top (y := nI (8 * (at_ + i))) (pk_mul 8 (at_ + i)) ?_
                refine lv_iload hx hb d_Mo_tells_40 (lv_at hl 0 rfl) ?_
                refine lv_iadd hx hb d_Mo_tells_42 ?_
                refine rw_top (y := nI (8 * (at_ + i) + j)) (nI_add (8 * (at_ + i)) j) ?_
                refine aldM_dark (u := u) (v := aB u 1 (8 * (at_ + i) + j)) hx hb hK hP (by omega) rfl d_Mo_tells_43 ?_
                refine rb_eq (tgt := 49) hx hb d_Mo_tells_44 (by decide) (fun c4 => ?_) (fun c4 => ?_)
                · skip
                  refine lv_iinc (v := nI (j + 1)) (lv' := [(4, .int (nI (j + 1))), (3, .int (nI i)), (0, .ref (ad 0)), (1, .int (nI at_)), (2, .int (nI q))]) hx hb d_Mo_tells_49 hl (k := 0) rfl (rn_inc j 1 (by decide)) (by decide) rfl (fun ls hl => ?_)
                  refine lv_goto (tgt := 23) hx hb d_Mo_tells_52 (by decide) ?_
                  exact ih23 (j + 1) _ _ _ (by first | assumption | omega) (by omega) (hq23.trans ((if_pos c3).trans ((if_neg c4).trans rfl))) hP hD hS (lv_sub hl [0, 1, 2, 3, 4] rfl)
                · skip
                  refine lv_iconst (v := 0) hx hb d_Mo_tells_47 (by decide) ?_
                  have hE : res = false := hq23.trans ((if_pos c3).trans ((if_pos c4).trans rfl))
                  exact retWb (x := false) hx hb hr hP hK hD hS hE.symm rfl d_Mo_tells_48 hlocks
          exact L23 9 0 _ _ _ (by first | assumption | omega) (by omega) (hq2.trans ((if_pos c1).trans ((if_pos c2).trans rfl))) hP hD hS (lv_sub hl [0, 1, 2, 3, 4] rfl)
        · skip
          refine lv_iconst (v := 0) hx hb d_Mo_tells_18 (by decide) ?_
          have hE : res = false := hq2.trans ((if_pos c1).trans ((if_neg c2).trans rfl))
          exact retWb (x := false) hx hb hr hP hK hD hS hE.symm rfl d_Mo_tells_19 hlocks
  exact L2 5 0 _ _ _ (by first | assumption | omega) (by omega) (hq.trans (rfl)) hP hD hS (lv_sub hl [0, 1, 2, 3] rfl)
def w_Mo_isFound : List Cond := .code y_Mo_isFound b_Mo_isFound 4 (some .boolean) :: ALLW
def rm_Mo_isFound : Room := { frames := 22, cells := 0, slots := 0, locals := 646 }
theorem d_Mo_isFound_0 : decode b_Mo_isFound 0 = .ok (.iconst 0, 1) := by decide +kernel
theorem d_Mo_isFound_1 : decode b_Mo_isFound 1 = .ok (.istore_n 2, 1) := by decide +kernel
theorem d_Mo_isFound_2 : decode b_Mo_isFound 2 = .ok (.iload_n 2, 1) := by decide +kernel
theorem d_Mo_isFound_3 : decode b_Mo_isFound 3 = .ok (.bipush 32, 2) := by decide +kernel
theorem d_Mo_isFound_5 : decode b_Mo_isFound 5 = .ok (.if_icmp .ge 35, 3) := by decide +kernel
theorem d_Mo_isFound_8 : decode b_Mo_isFound 8 = .ok (.aload_n 0, 1) := by decide +kernel
theorem d_Mo_isFound_9 : decode b_Mo_isFound 9 = .ok (.iload_n 2, 1) := by decide +kernel
theorem d_Mo_isFound_10 : decode b_Mo_isFound 10 = .ok (.bipush 32, 2) := by decide +kernel
theorem d_Mo_isFound_12 : decode b_Mo_isFound 12 = .ok (.invokevirtual 143, 3) := by decide +kernel
theorem d_Mo_isFound_15 : decode b_Mo_isFound 15 = .ok (.ifCond .ne 19, 3) := by decide +kernel
theorem d_Mo_isFound_18 : decode b_Mo_isFound 18 = .ok (.aload_n 0, 1) := by decide +kernel
theorem d_Mo_isFound_19 : decode b_Mo_isFound 19 = .ok (.iload_n 1, 1) := by decide +kernel
theorem d_Mo_isFound_20 : decode b_Mo_isFound 20 = .ok (.aload_n 0, 1) := by decide +kernel
theorem d_Mo_isFound_21 : decode b_Mo_isFound 21 = .ok (.getfield 17, 3) := by decide +kernel
theorem d_Mo_isFound_24 : decode b_Mo_isFound 24 = .ok (.iload_n 2, 1) := by decide +kernel
theorem d_Mo_isFound_25 : decode b_Mo_isFound 25 = .ok (.iaload, 1) := by decide +kernel
theorem d_Mo_isFound_26 : decode b_Mo_isFound 26 = .ok (.invokevirtual 216, 3) := by decide +kernel
theorem d_Mo_isFound_29 : decode b_Mo_isFound 29 = .ok (.ifCond .eq 5, 3) := by decide +kernel
theorem d_Mo_isFound_32 : decode b_Mo_isFound 32 = .ok (.iconst 1, 1) := by decide +kernel
theorem d_Mo_isFound_33 : decode b_Mo_isFound 33 = .ok (.ireturn, 1) := by decide +kernel
theorem d_Mo_isFound_34 : decode b_Mo_isFound 34 = .ok (.iinc 2 1, 3) := by decide +kernel
theorem d_Mo_isFound_37 : decode b_Mo_isFound 37 = .ok (.goto (-35), 3) := by decide +kernel
theorem d_Mo_isFound_40 : decode b_Mo_isFound 40 = .ok (.iconst 0, 1) := by decide +kernel
theorem d_Mo_isFound_41 : decode b_Mo_isFound 41 = .ok (.istore_n 2, 1) := by decide +kernel
theorem d_Mo_isFound_42 : decode b_Mo_isFound 42 = .ok (.iload_n 2, 1) := by decide +kernel
theorem d_Mo_isFound_43 : decode b_Mo_isFound 43 = .ok (.ldc 13, 2) := by decide +kernel
theorem d_Mo_isFound_45 : decode b_Mo_isFound 45 = .ok (.if_icmp .ge 32, 3) := by decide +kernel
theorem d_Mo_isFound_48 : decode b_Mo_isFound 48 = .ok (.iload_n 2, 1) := by decide +kernel
theorem d_Mo_isFound_49 : decode b_Mo_isFound 49 = .ok (.ldc 206, 2) := by decide +kernel
theorem d_Mo_isFound_51 : decode b_Mo_isFound 51 = .ok (.if_icmp .lt 9, 3) := by decide +kernel
theorem d_Mo_isFound_54 : decode b_Mo_isFound 54 = .ok (.iload_n 2, 1) := by decide +kernel
theorem d_Mo_isFound_55 : decode b_Mo_isFound 55 = .ok (.ldc 81, 2) := by decide +kernel
theorem d_Mo_isFound_57 : decode b_Mo_isFound 57 = .ok (.if_icmp .lt 14, 3) := by decide +kernel
theorem d_Mo_isFound_60 : decode b_Mo_isFound 60 = .ok (.aload_n 0, 1) := by decide +kernel
theorem d_Mo_isFound_61 : decode b_Mo_isFound 61 = .ok (.iload_n 2, 1) := by decide +kernel
theorem d_Mo_isFound_62 : decode b_Mo_isFound 62 = .ok (.iload_n 1, 1) := by decide +kernel
theorem d_Mo_isFound_63 : decode b_Mo_isFound 63 = .ok (.invokevirtual 219, 3) := by decide +kernel
theorem d_Mo_isFound_66 : decode b_Mo_isFound 66 = .ok (.ifCond .eq 5, 3) := by decide +kernel
theorem d_Mo_isFound_69 : decode b_Mo_isFound 69 = .ok (.iconst 1, 1) := by decide +kernel
theorem d_Mo_isFound_70 : decode b_Mo_isFound 70 = .ok (.ireturn, 1) := by decide +kernel
theorem d_Mo_isFound_71 : decode b_Mo_isFound 71 = .ok (.iinc 2 4, 3) := by decide +kernel
theorem d_Mo_isFound_74 : decode b_Mo_isFound 74 = .ok (.goto (-32), 3) := by decide +kernel
theorem d_Mo_isFound_77 : decode b_Mo_isFound 77 = .ok (.iconst 0, 1) := by decide +kernel
theorem d_Mo_isFound_78 : decode b_Mo_isFound 78 = .ok (.istore_n 2, 1) := by decide +kernel
theorem d_Mo_isFound_79 : decode b_Mo_isFound 79 = .ok (.iload_n 2, 1) := by decide +kernel
theorem d_Mo_isFound_80 : decode b_Mo_isFound 80 = .ok (.aload_n 0, 1) := by decide +kernel
theorem d_Mo_isFound_81 : decode b_Mo_isFound 81 = .ok (.getfield 97, 3) := by decide +kernel
theorem d_Mo_isFound_84 : decode b_Mo_isFound 84 = .ok (.if_icmp .ge 61, 3) := by decide +kernel
theorem d_Mo_isFound_87 : decode b_Mo_isFound 87 = .ok (.aload_n 0, 1) := by decide +kernel
theorem d_Mo_isFound_88 : decode b_Mo_isFound 88 = .ok (.getfield 64, 3) := by decide +kernel
theorem d_Mo_isFound_91 : decode b_Mo_isFound 91 = .ok (.iload_n 2, 1) := by decide +kernel
theorem d_Mo_isFound_92 : decode b_Mo_isFound 92 = .ok (.baload, 1) := by decide +kernel
theorem d_Mo_isFound_93 : decode b_Mo_isFound 93 = .ok (.ifCond .eq 46, 3) := by decide +kernel
theorem d_Mo_isFound_96 : decode b_Mo_isFound 96 = .ok (.aload_n 0, 1) := by decide +kernel
theorem d_Mo_isFound_97 : decode b_Mo_isFound 97 = .ok (.getfield 31, 3) := by decide +kernel
theorem d_Mo_isFound_100 : decode b_Mo_isFound 100 = .ok (.iload_n 2, 1) := by decide +kernel
theorem d_Mo_isFound_101 : decode b_Mo_isFound 101 = .ok (.iaload, 1) := by decide +kernel
theorem d_Mo_isFound_102 : decode b_Mo_isFound 102 = .ok (.istore_n 3, 1) := by decide +kernel
theorem d_Mo_isFound_103 : decode b_Mo_isFound 103 = .ok (.iload_n 3, 1) := by decide +kernel
theorem d_Mo_isFound_104 : decode b_Mo_isFound 104 = .ok (.iconst 4, 1) := by decide +kernel
theorem d_Mo_isFound_105 : decode b_Mo_isFound 105 = .ok (.iadd, 1) := by decide +kernel
theorem d_Mo_isFound_106 : decode b_Mo_isFound 106 = .ok (.aload_n 0, 1) := by decide +kernel
theorem d_Mo_isFound_107 : decode b_Mo_isFound 107 = .ok (.getfield 31, 3) := by decide +kernel
theorem d_Mo_isFound_110 : decode b_Mo_isFound 110 = .ok (.iload_n 2, 1) := by decide +kernel
theorem d_Mo_isFound_111 : decode b_Mo_isFound 111 = .ok (.iaload, 1) := by decide +kernel
theorem d_Mo_isFound_112 : decode b_Mo_isFound 112 = .ok (.aload_n 0, 1) := by decide +kernel
theorem d_Mo_isFound_113 : decode b_Mo_isFound 113 = .ok (.getfield 34, 3) := by decide +kernel
theorem d_Mo_isFound_116 : decode b_Mo_isFound 116 = .ok (.iload_n 2, 1) := by decide +kernel
theorem d_Mo_isFound_117 : decode b_Mo_isFound 117 = .ok (.iaload, 1) := by decide +kernel
theorem d_Mo_isFound_118 : decode b_Mo_isFound 118 = .ok (.iadd, 1) := by decide +kernel
theorem d_Mo_isFound_119 : decode b_Mo_isFound 119 = .ok (.if_icmp .gt 20, 3) := by decide +kernel
theorem d_Mo_isFound_122 : decode b_Mo_isFound 122 = .ok (.aload_n 0, 1) := by decide +kernel
theorem d_Mo_isFound_123 : decode b_Mo_isFound 123 = .ok (.iload_n 3, 1) := by decide +kernel
theorem d_Mo_isFound_124 : decode b_Mo_isFound 124 = .ok (.iload_n 1, 1) := by decide +kernel
theorem d_Mo_isFound_125 : decode b_Mo_isFound 125 = .ok (.invokevirtual 219, 3) := by decide +kernel
theorem d_Mo_isFound_128 : decode b_Mo_isFound 128 = .ok (.ifCond .eq 5, 3) := by decide +kernel
theorem d_Mo_isFound_131 : decode b_Mo_isFound 131 = .ok (.iconst 1, 1) := by decide +kernel
theorem d_Mo_isFound_132 : decode b_Mo_isFound 132 = .ok (.ireturn, 1) := by decide +kernel
theorem d_Mo_isFound_133 : decode b_Mo_isFound 133 = .ok (.iinc 3 4, 3) := by decide +kernel
theorem d_Mo_isFound_136 : decode b_Mo_isFound 136 = .ok (.goto (-33), 3) := by decide +kernel
theorem d_Mo_isFound_139 : decode b_Mo_isFound 139 = .ok (.iinc 2 1, 3) := by decide +kernel
theorem d_Mo_isFound_142 : decode b_Mo_isFound 142 = .ok (.goto (-63), 3) := by decide +kernel
theorem d_Mo_isFound_145 : decode b_Mo_isFound 145 = .ok (.iconst 0, 1) := by decide +kernel
theorem d_Mo_isFound_146 : decode b_Mo_isFound 146 = .ok (.ireturn, 1) := by decide +kernel
def f_Mo_isFound_103 (q : Nat) (u : S5) (b : Nat) (kk103 : Nat → Bool) : Nat → Nat → Bool
  | 0, o => false
  | k103 + 1, o => if (o + 4) ≤ (aN u 0 b + (aN u 1 b)) then (if (f_Mo_tells o q u) = true then true else f_Mo_isFound_103 q u b kk103 k103 (o + 4)) else kk103 (b + 1)
def f_Mo_isFound_79 (q : Nat) (u : S5) : Nat → Nat → Bool
  | 0, b => false
  | k79 + 1, b => if b < (gN u 0) then (if (aB u 3 b) = true then f_Mo_isFound_103 q u b (fun b9 => f_Mo_isFound_79 q u k79 b9) (aN u 1 b + 1) (aN u 0 b) else f_Mo_isFound_79 q u k79 (b + 1)) else false
def f_Mo_isFound_42 (q : Nat) (u : S5) : Nat → Nat → Bool
  | 0, at_ => false
  | k42 + 1, at_ => if at_ < 65536 then (if at_ < 32768 then (if (f_Mo_tells at_ q u) = true then true else f_Mo_isFound_42 q u k42 (at_ + 4)) else if at_ < 57344 then f_Mo_isFound_42 q u k42 (at_ + 4) else if (f_Mo_tells at_ q u) = true then true else f_Mo_isFound_42 q u k42 (at_ + 4)) else f_Mo_isFound_79 q u (gN u 0 + 1) 0
def f_Mo_isFound_2 (q : Nat) (u : S5) : Nat → Nat → Bool
  | 0, r => false
  | k2 + 1, r => if r < 32 then (if (f_Mo_anyDark r 32 u) = true then f_Mo_isFound_2 q u k2 (r + 1) else if (f_Mo_of q (aI u 2 r) u) = true then true else f_Mo_isFound_2 q u k2 (r + 1)) else f_Mo_isFound_42 q u 65537 0
def f_Mo_isFound (q : Nat) (u : S5) : Bool := f_Mo_isFound_2 q u 33 0
set_option maxHeartbeats 8000000 in
set_option maxRecDepth 100000 in
theorem c_Mo_isFound (l : Launch) (dC : Nat → ClassId) (dI : Nat → Nat → Nat) (cI cZ : ClassId) (ad : Nat → Nat) (u : S5) (q : Nat) (hq : q < 800) (okl : OkL u) (sz : Nat) : Met l y_Mo_isFound w_Mo_isFound rm_Mo_isFound (PreW (dC, dI) classes [(cI, .int), (cZ, .boolean)] (wM cI cZ ad) u sz [.ref (ad 0), .int (nI q)]) (QWi (dC, dI) classes [(cI, .int), (cZ, .boolean)] (wM cI cZ ad) (va_A (wM cI cZ ad u) sz) (b2i (f_Mo_isFound q u)) u) 0 0 (va_A (wM cI cZ ad u) sz) := by
  generalize hres : f_Mo_isFound q u = res
  refine Met.ofW (cc := b_Mo_isFound) (maxL := 4) (ret := (some .boolean)) (by decide) rfl ?_
  intro p e s m args below meth c s₁ B hml hv
  obtain ⟨rfl, rfl, hP, hK, hD0⟩ := hv
  have hx := B.exec
  have hb := B.bytes
  have hr := B.returns
  have hts : ∀ w9 ∈ ALLW, w9.before ([.ref (ad 0), .int (nI q)] : List Value).toArray s = true := fun w9 h => atoms_spec (ws := w_Mo_isFound) B.pre w9 (List.mem_cons_of_mem _ h)
  have hown : s.vm.findClass R_Mo = some m.cls := findClass_of_methodNamed B.named
  have hlocks := B.notSynchronized
  have hD := hD0.self (sz := s.heap.size)
  generalize hAe : va_A (wM cI cZ ad u) s.heap.size = A at hD ⊢
  have hA : ∀ q : Nat, s.heap.size ≤ q → A q := fun q h => by rw [← hAe]; exact Or.inr h
  have hS : va_S A s.heap s.heap [] := va_S.rf
  have hl := lv_entry ([.ref (ad 0), .int (nI q)]) (n := 4) (Nat.le_of_ble_eq_true rfl)
  rw [lg_entry_eq]
  generalize (lg_sl ([.ref (ad 0), .int (nI q)]) ++ List.replicate (4 - (lg_sl ([.ref (ad 0), .int (nI q)])).length) Slot.unset).toArray = ls at hl ⊢
  have hl : lv_has ls 4 [(0, .ref (ad 0)), (1, .int (nI q))] := hl
  have hq := hres.symm
  skip
  obtain ⟨l0, l1, lA, lK⟩ := id okl
  refine lv_iconst (v := nI 0) hx hb d_Mo_isFound_0 (by decide) ?_
  refine lv_istore_n (lv' := [(2, .int (nI 0)), (0, .ref (ad 0)), (1, .int (nI q))]) hx hb d_Mo_isFound_1 rfl hl (by decide) rfl (fun ls hl => ?_)
  have L2 : ∀ (k : Nat) (r : Nat) (H : Heap) (locs : List Loc) (ls : Array Slot), (r ≤ 32) → (32 - r) < k → res = f_Mo_isFound_2 q u k r → va_P (dC, dI) classes (wM cI cZ ad u) H → va_D A (wM cI cZ ad u) → va_S A s.heap H locs → lv_has ls 4 [(2, .int (nI r)), (0, .ref (ad 0)), (1, .int (nI q))] → W p l e (headSpec w_Mo_isFound rm_Mo_isFound).room s m ([.ref (ad 0), .int (nI q)] : List Value).toArray below meth c H locs 0 0 (MQ below (QWi (dC, dI) classes [(cI, .int), (cZ, .boolean)] (wM cI cZ ad) A (b2i res) u) ([.ref (ad 0), .int (nI q)] : List Value).toArray s 0 0 A) (F0 m 2 ls []) := by
    intro k
    induction k with
    | zero => intro r H locs ls hr_ hm; exact absurd hm (Nat.not_lt_zero _)
    | succ k2 ih2 =>
      intro r H locs ls hr_ hm hq2 hP hD hS hl
      refine lv_iload_n hx hb d_Mo_isFound_2 rfl (lv_at hl 0 rfl) ?_
      refine lv_bipush (v := nI 32) hx hb d_Mo_isFound_3 (by decide) ?_
      refine rn_ge (tgt := 40) hx hb (by omega) (by omega) d_Mo_isFound_5 (by decide) (fun c1 => ?_) (fun c1 => ?_)
      · skip
        refine lv_iconst (v := nI 0) hx hb d_Mo_isFound_40 (by decide) ?_
        refine lv_istore_n (lv' := [(2, .int (nI 0)), (0, .ref (ad 0)), (1, .int (nI q))]) hx hb d_Mo_isFound_41 rfl hl (by decide) rfl (fun ls hl => ?_)
        have L42 : ∀ (k : Nat) (at_ : Nat) (H : Heap) (locs : List Loc) (ls : Array Slot), (at_ % 4 = 0 ∧ at_ ≤ 65536) → (65536 - at_) < k → res = f_Mo_isFound_42 q u k at_ → va_P (dC, dI) classes (wM cI cZ ad u) H → va_D A (wM cI cZ ad u) → va_S A s.heap H locs → lv_has ls 4 [(2, .int (nI at_)), (0, .ref (ad 0)), (1, .int (nI q))] → W p l e (headSpec w_Mo_isFound rm_Mo_isFound).room s m ([.ref (ad 0), .int (nI q)] : List Value).toArray below meth c H locs 0 0 (MQ below (QWi (dC, dI) classes [(cI, .int), (cZ, .boolean)] (wM cI cZ ad) A (b2i res) u) ([.ref (ad 0), .int (nI q)] : List Value).toArray s 0 0 A) (F0 m 42 ls []) := by
          intro k
          induction k with
          | zero => intro at_ H locs ls hat hm; exact absurd hm (Nat.not_lt_zero _)
          | succ k42 ih42 =>
            intro at_ H locs ls hat hm hq42 hP hD hS hl
            obtain ⟨ha1, ha2⟩ := id hat
            refine lv_iload_n hx hb d_Mo_isFound_42 rfl (lv_at hl 0 rfl) ?_
            refine lv_ldc (v := 65536) hx hb hown (hts _ m_13_23) d_Mo_isFound_43 ?_
            refine rw_top (y := nI 65536) (by decide) ?_
            refine rn_ge (tgt := 77) hx hb (by omega) (by omega) d_Mo_isFound_45 (by decide) (fun c2 => ?_) (fun c2 => ?_)
            · skip
              refine lv_iconst (v := nI 0) hx hb d_Mo_isFound_77 (by decide) ?_
              refine lv_istore_n (lv' := [(2, .int (nI 0)), (0, .ref (ad 0)), (1, .int (nI q))]) hx hb d_Mo_isFound_78 rfl hl (by decide) rfl (fun ls hl => ?_)
              have L79 : ∀ (k : Nat) (b : Nat) (H : Heap) (locs : List Loc) (ls : Array Slot), (b ≤ gN u 0) → (gN u 0 - b) < k → res = f_Mo_isFound_79 q u k b → va_P (dC, dI) classes (wM cI cZ ad u) H → va_D A (wM cI cZ ad u) → va_S A s.heap H locs → lv_has ls 4 [(2, .int (nI b)), (0, .ref (ad 0)), (1, .int (nI q))] → W p l e (headSpec w_Mo_isFound rm_Mo_isFound).room s m ([.ref (ad 0), .int (nI q)] : List Value).toArray below meth c H locs 0 0 (MQ below (QWi (dC, dI) classes [(cI, .int), (cZ, .boolean)] (wM cI cZ ad) A (b2i res) u) ([.ref (ad 0), .int (nI q)] : List Value).toArray s 0 0 A) (F0 m 79 ls []) := by
                intro k
                induction k with
                | zero => intro b H locs ls hb_ hm; exact absurd hm (Nat.not_lt_zero _)
                | succ k79 ih79 =>
                  intro b H locs ls hb_ hm hq79 hP hD hS hl
                  refine lv_iload_n hx hb d_Mo_isFound_79 rfl (lv_at hl 0 rfl) ?_
                  refine lv_aload_n hx hb d_Mo_isFound_80 rfl (lv_at hl 1 rfl) ?_
                  refine va_get (D := (dC, dI)) (ci := 8) (v := .int (nI (gN u 0))) (C := R_Mo) (T := F_Mo) (N := 31) hx hb hts in_Mo hown hK hP 0 rfl rfl 16 (by decide) (hts _ m_14_6) (fun _ h9 => h9) rfl d_Mo_isFound_81 ?_
                  refine rn_ge (tgt := 145) hx hb (by omega) (by omega) d_Mo_isFound_84 (by decide) (fun c3 => ?_) (fun c3 => ?_)
                  · skip
                    refine lv_iconst (v := 0) hx hb d_Mo_isFound_145 (by decide) ?_
                    have hE : res = false := hq79.trans ((if_neg (Nat.not_lt.mpr c3)).trans rfl)
                    exact retWb (x := false) hx hb hr hP hK hD hS hE.symm rfl d_Mo_isFound_146 hlocks
                  · skip
                    refine lv_aload_n hx hb d_Mo_isFound_87 rfl (lv_at hl 1 rfl) ?_
                    refine va_get (D := (dC, dI)) (ci := 8) (v := .ref (ad 18)) (C := R_Mo) (T := F_Mo) (N := 31) hx hb hts in_Mo hown hK hP 0 rfl rfl 30 (by decide) (hts _ m_14_20) (fun _ h9 => h9) rfl d_Mo_isFound_88 ?_
                    refine lv_iload_n hx hb d_Mo_isFound_91 rfl (lv_at hl 0 rfl) ?_
                    refine aldM_found (u := u) (v := aB u 3 b) hx hb hK hP (by omega) rfl d_Mo_isFound_92 ?_
                    refine rb_eq (tgt := 139) hx hb d_Mo_isFound_93 (by decide) (fun c4 => ?_) (fun c4 => ?_)
                    · skip
                      refine lv_iinc (v := nI (b + 1)) (lv' := [(2, .int (nI (b + 1))), (0, .ref (ad 0)), (1, .int (nI q))]) hx hb d_Mo_isFound_139 hl (k := 0) rfl (rn_inc b 1 (by decide)) (by decide) rfl (fun ls hl => ?_)
                      refine lv_goto (tgt := 79) hx hb d_Mo_isFound_142 (by decide) ?_
                      exact ih79 (b + 1) _ _ _ (by first | assumption | omega) (by omega) (hq79.trans ((if_pos c3).trans ((if_neg c4).trans rfl))) hP hD hS (lv_sub hl [0, 1, 2] rfl)
                    · skip
                      refine lv_aload_n hx hb d_Mo_isFound_96 rfl (lv_at hl 1 rfl) ?_
                      refine va_get (D := (dC, dI)) (ci := 8) (v := .ref (ad 7)) (C := R_Mo) (T := F_Mo) (N := 31) hx hb hts in_Mo hown hK hP 0 rfl rfl 12 (by decide) (hts _ m_14_2) (fun _ h9 => h9) rfl d_Mo_isFound_97 ?_
                      refine lv_iload_n hx hb d_Mo_isFound_100 rfl (lv_at hl 0 rfl) ?_
                      refine aldM_address (u := u) (v := aN u 0 b) hx hb hK hP (by omega) rfl d_Mo_isFound_101 ?_
                      refine lv_istore_n (lv' := [(3, .int (nI (aN u 0 b))), (2, .int (nI b)), (0, .ref (ad 0)), (1, .int (nI q))]) hx hb d_Mo_isFound_102 rfl hl (by decide) rfl (fun ls hl => ?_)
                      have L103 : ∀ (k : Nat) (o : Nat) (H : Heap) (locs : List Loc) (ls : Array Slot), (aN u 0 b ≤ o ∧ o ≤ 57344) → (aN u 0 b + aN u 1 b - o) < k → res = f_Mo_isFound_103 q u b (fun b9 => f_Mo_isFound_79 q u k79 b9) k o → va_P (dC, dI) classes (wM cI cZ ad u) H → va_D A (wM cI cZ ad u) → va_S A s.heap H locs → lv_has ls 4 [(3, .int (nI o)), (2, .int (nI b)), (0, .ref (ad 0)), (1, .int (nI q))] → W p l e (headSpec w_Mo_isFound rm_Mo_isFound).room s m ([.ref (ad 0), .int (nI q)] : List Value).toArray below meth c H locs 0 0 (MQ below (QWi (dC, dI) classes [(cI, .int), (cZ, .boolean)] (wM cI cZ ad) A (b2i res) u) ([.ref (ad 0), .int (nI q)] : List Value).toArray s 0 0 A) (F0 m 103 ls []) := by
                        intro k
                        induction k with
                        | zero => intro o H locs ls ho hm; exact absurd hm (Nat.not_lt_zero _)
                        | succ k103 ih103 =>
                          intro o H locs ls ho hm hq103 hP hD hS hl
                          have ha := lA b (by assumption)
                          obtain ⟨ho1, ho2⟩ := id ho
                          refine lv_iload_n hx hb d_Mo_isFound_103 rfl (lv_at hl 0 rfl) ?_
                          refine lv_iconst (v := nI 4) hx hb d_Mo_isFound_104 (by decide) ?_
                          refine lv_iadd hx hb d_Mo_isFound_105 ?_
                          refine rw_top (y := nI (o + 4)) (nI_add o 4) ?_
                          refine lv_aload_n hx hb d_Mo_isFound_106 rfl (lv_at hl 2 rfl) ?_
                          refine va_get (D := (dC, dI)) (ci := 8) (v := .ref (ad 7)) (C := R_Mo) (T := F_Mo) (N := 31) hx hb hts in_Mo hown hK hP 0 rfl rfl 12 (by decide) (hts _ m_14_2) (fun _ h9 => h9) rfl d_Mo_isFound_107 ?_
                          refine lv_iload_n hx hb d_Mo_isFound_110 rfl (lv_at hl 1 rfl) ?_
                          refine aldM_address (u := u) (v := aN u 0 b) hx hb hK hP (by omega) rfl d_Mo_isFound_111 ?_
                          refine lv_aload_n hx hb d_Mo_isFound_112 rfl (lv_at hl 2 rfl) ?_
                          refine va_get (D := (dC, dI)) (ci := 8) (v := .ref (ad 8)) (C := R_Mo) (T := F_Mo) (N := 31) hx hb hts in_Mo hown hK hP 0 rfl rfl 13 (by decide) (hts _ m_14_3) (fun _ h9 => h9) rfl d_Mo_isFound_113 ?_
                          refine lv_iload_n hx hb d_Mo_isFound_116 rfl (lv_at hl 1 rfl) ?_
                          refine aldM_length (u := u) (v := aN u 1 b) hx hb hK hP (by omega) rfl d_Mo_isFound_117 ?_
                          refine lv_iadd hx hb d_Mo_isFound_118 ?_
                          refine rw_top (y := nI (aN u 0 b + (aN u 1 b))) (nI_add (aN u 0 b) (aN u 1 b)) ?_
                          refine rn_gt (tgt := 139) hx hb (by omega) (by omega) d_Mo_isFound_119 (by decide) (fun c5 => ?_) (fun c5 => ?_)
                          · skip
                            refine lv_iinc (v := nI (b + 1)) (lv' := [(2, .int (nI (b + 1))), (3, .int (nI o)), (0, .ref (ad 0)), (1, .int (nI q))]) hx hb d_Mo_isFound_139 hl (k := 1) rfl (rn_inc b 1 (by decide)) (by decide) rfl (fun ls hl => ?_)
                            refine lv_goto (tgt := 79) hx hb d_Mo_isFound_142 (by decide) ?_
                            exact ih79 (b + 1) _ _ _ (by first | assumption | omega) (by omega) (hq103.trans ((if_neg (Nat.not_le.mpr c5)).trans rfl)) hP hD hS (lv_sub hl [0, 2, 3] rfl)
                          · skip
                            refine lv_aload_n hx hb d_Mo_isFound_122 rfl (lv_at hl 2 rfl) ?_
                            refine lv_iload_n hx hb d_Mo_isFound_123 rfl (lv_at hl 0 rfl) ?_
                            refine lv_iload_n hx hb d_Mo_isFound_124 rfl (lv_at hl 3 rfl) ?_
                            refine callWi (va_runV (As := [.int (nI o), .int (nI q)]) (rest := []) ⟨hx, hb, hml, hown, hts⟩ (c_Mo_tells l dC dI cI cZ ad u o q (by first | assumption | omega) (by first | assumption | omega) H.size) (cwV 2 hts (goodV m_17_23 m_17_24 m_19_34 m_0_12 m_17_25) rfl rfl rfl (by decide +kernel) ⟨Nat.le_of_ble_eq_true rfl, Nat.le_of_ble_eq_true rfl⟩) ⟨preW_blind, va_recv hK hP (ci := 8) (q0 := 0) rfl rfl, preW_ok hP hD hK⟩ rfl rfl hl.1 rfl (lv_room (Nat.le_of_ble_eq_true rfl)) d_Mo_isFound_125 ⟨Nat.zero_le _, Nat.zero_le _⟩) hP hD hS hA (fun H locs hP hD hS => ?_)
                            refine rb_eq (tgt := 133) hx hb d_Mo_isFound_128 (by decide) (fun c6 => ?_) (fun c6 => ?_)
                            · skip
                              refine lv_iinc (v := nI (o + 4)) (lv' := [(3, .int (nI (o + 4))), (2, .int (nI b)), (0, .ref (ad 0)), (1, .int (nI q))]) hx hb d_Mo_isFound_133 hl (k := 0) rfl (rn_inc o 4 (by decide)) (by decide) rfl (fun ls hl => ?_)
                              refine lv_goto (tgt := 103) hx hb d_Mo_isFound_136 (by decide) ?_
                              exact ih103 (o + 4) _ _ _ ⟨by omega, by omega⟩ (by omega) (hq103.trans ((if_pos c5).trans ((if_neg c6).trans rfl))) hP hD hS (lv_sub hl [0, 1, 2, 3] rfl)
                            · skip
                              refine lv_iconst (v := 1) hx hb d_Mo_isFound_131 (by decide) ?_
                              have hE : res = true := hq103.trans ((if_pos c5).trans ((if_pos c6).trans rfl))
                              exact retWb (x := true) hx hb hr hP hK hD hS hE.symm rfl d_Mo_isFound_132 hlocks
                      exact L103 (aN u 1 b + 1) (aN u 0 b) _ _ _ ⟨Nat.le_refl _, by have := lA b (by assumption); omega⟩ (by omega) (hq79.trans ((if_pos c3).trans ((if_pos c4).trans rfl))) hP hD hS (lv_sub hl [0, 1, 2, 3] rfl)
              exact L79 (gN u 0 + 1) 0 _ _ _ (by first | assumption | omega) (by omega) (hq42.trans ((if_neg (Nat.not_lt.mpr c2)).trans rfl)) hP hD hS (lv_sub hl [0, 1, 2] rfl)
            · skip
              refine lv_iload_n hx hb d_Mo_isFound_48 rfl (lv_at hl 0 rfl) ?_
              refine lv_ldc (v := 32768) hx hb hown (hts _ m_17_22) d_Mo_isFound_49 ?_
              refine rw_top (y := nI 32768) (by decide) ?_
              refine rn_lt (tgt := 60) hx hb (by omega) (by omega) d_Mo_isFound_51 (by decide) (fun c7 => ?_) (fun c7 => ?_)
              · skip
                refine lv_aload_n hx hb d_Mo_isFound_60 rfl (lv_at hl 1 rfl) ?_
                refine lv_iload_n hx hb d_Mo_isFound_61 rfl (lv_at hl 0 rfl) ?_
                refine lv_iload_n hx hb d_Mo_isFound_62 rfl (lv_at hl 2 rfl) ?_
                refine callWi (va_runV (As := [.int (nI at_), .int (nI q)]) (rest := []) ⟨hx, hb, hml, hown, hts⟩ (c_Mo_tells l dC dI cI cZ ad u at_ q (by first | assumption | omega) (by first | assumption | omega) H.size) (cwV 2 hts (goodV m_17_23 m_17_24 m_19_34 m_0_12 m_17_25) rfl rfl rfl (by decide +kernel) ⟨Nat.le_of_ble_eq_true rfl, Nat.le_of_ble_eq_true rfl⟩) ⟨preW_blind, va_recv hK hP (ci := 8) (q0 := 0) rfl rfl, preW_ok hP hD hK⟩ rfl rfl hl.1 rfl (lv_room (Nat.le_of_ble_eq_true rfl)) d_Mo_isFound_63 ⟨Nat.zero_le _, Nat.zero_le _⟩) hP hD hS hA (fun H locs hP hD hS => ?_)
                refine rb_eq (tgt := 71) hx hb d_Mo_isFound_66 (by decide) (fun c8 => ?_) (fun c8 => ?_)
                · skip
                  refine lv_iinc (v := nI (at_ + 4)) (lv' := [(2, .int (nI (at_ + 4))), (0, .ref (ad 0)), (1, .int (nI q))]) hx hb d_Mo_isFound_71 hl (k := 0) rfl (rn_inc at_ 4 (by decide)) (by decide) rfl (fun ls hl => ?_)
                  refine lv_goto (tgt := 42) hx hb d_Mo_isFound_74 (by decide) ?_
                  exact ih42 (at_ + 4) _ _ _ ⟨by omega, by omega⟩ (by omega) (hq42.trans ((if_pos c2).trans ((if_pos c7).trans ((if_neg c8).trans rfl)))) hP hD hS (lv_sub hl [0, 1, 2] rfl)
                · skip
                  refine lv_iconst (v := 1) hx hb d_Mo_isFound_69 (by decide) ?_
                  have hE : res = true := hq42.trans ((if_pos c2).trans ((if_pos c7).trans ((if_pos c8).trans rfl)))
                  exact retWb (x := true) hx hb hr hP hK hD hS hE.symm rfl d_Mo_isFound_70 hlocks
              · skip
                refine lv_iload_n hx hb d_Mo_isFound_54 rfl (lv_at hl 0 rfl) ?_
                refine lv_ldc (v := 57344) hx hb hown (hts _ m_13_29) d_Mo_isFound_55 ?_
                refine rw_top (y := nI 57344) (by decide) ?_
                refine rn_lt (tgt := 71) hx hb (by omega) (by omega) d_Mo_isFound_57 (by decide) (fun c9 => ?_) (fun c9 => ?_)
                · skip
                  refine lv_iinc (v := nI (at_ + 4)) (lv' := [(2, .int (nI (at_ + 4))), (0, .ref (ad 0)), (1, .int (nI q))]) hx hb d_Mo_isFound_71 hl (k := 0) rfl (rn_inc at_ 4 (by decide)) (by decide) rfl (fun ls hl => ?_)
                  refine lv_goto (tgt := 42) hx hb d_Mo_isFound_74 (by decide) ?_
                  exact ih42 (at_ + 4) _ _ _ ⟨by omega, by omega⟩ (by omega) (hq42.trans ((if_pos c2).trans ((if_neg (Nat.not_lt.mpr c7)).trans ((if_pos c9).trans rfl)))) hP hD hS (lv_sub hl [0, 1, 2] rfl)
                · skip
                  refine lv_aload_n hx hb d_Mo_isFound_60 rfl (lv_at hl 1 rfl) ?_
                  refine lv_iload_n hx hb d_Mo_isFound_61 rfl (lv_at hl 0 rfl) ?_
                  refine lv_iload_n hx hb d_Mo_isFound_62 rfl (lv_at hl 2 rfl) ?_
                  refine callWi (va_runV (As := [.int (nI at_), .int (nI q)]) (rest := []) ⟨hx, hb, hml, hown, hts⟩ (c_Mo_tells l dC dI cI cZ ad u at_ q (by first | assumption | omega) (by first | assumption | omega) H.size) (cwV 2 hts (goodV m_17_23 m_17_24 m_19_34 m_0_12 m_17_25) rfl rfl rfl (by decide +kernel) ⟨Nat.le_of_ble_eq_true rfl, Nat.le_of_ble_eq_true rfl⟩) ⟨preW_blind, va_recv hK hP (ci := 8) (q0 := 0) rfl rfl, preW_ok hP hD hK⟩ rfl rfl hl.1 rfl (lv_room (Nat.le_of_ble_eq_true rfl)) d_Mo_isFound_63 ⟨Nat.zero_le _, Nat.zero_le _⟩) hP hD hS hA (fun H locs hP hD hS => ?_)
                  refine rb_eq (tgt := 71) hx hb d_Mo_isFound_66 (by decide) (fun c10 => ?_) (fun c10 => ?_)
                  · skip
                    refine lv_iinc (v := nI (at_ + 4)) (lv' := [(2, .int (nI (at_ + 4))), (0, .ref (ad 0)), (1, .int (nI q))]) hx hb d_Mo_isFound_71 hl (k := 0) rfl (rn_inc at_ 4 (by decide)) (by decide) rfl (fun ls hl => ?_)
                    refine lv_goto (tgt := 42) hx hb d_Mo_isFound_74 (by decide) ?_
                    exact ih42 (at_ + 4) _ _ _ ⟨by omega, by omega⟩ (by omega) (hq42.trans ((if_pos c2).trans ((if_neg (Nat.not_lt.mpr c7)).trans ((if_neg (Nat.not_lt.mpr c9)).trans ((if_neg c10).trans rfl))))) hP hD hS (lv_sub hl [0, 1, 2] rfl)
                  · skip
                    refine lv_iconst (v := 1) hx hb d_Mo_isFound_69 (by decide) ?_
                    have hE : res = true := hq42.trans ((if_pos c2).trans ((if_neg (Nat.not_lt.mpr c7)).trans ((if_neg (Nat.not_lt.mpr c9)).trans ((if_pos c10).trans rfl))))
                    exact retWb (x := true) hx hb hr hP hK hD hS hE.symm rfl d_Mo_isFound_70 hlocks
        exact L42 65537 0 _ _ _ ⟨by omega, by omega⟩ (by omega) (hq2.trans ((if_neg (Nat.not_lt.mpr c1)).trans rfl)) hP hD hS (lv_sub hl [0, 1, 2] rfl)
      · skip
        refine lv_aload_n hx hb d_Mo_isFound_8 rfl (lv_at hl 1 rfl) ?_
        refine lv_iload_n hx hb d_Mo_isFound_9 rfl (lv_at hl 0 rfl) ?_
        refine lv_bipush (v := nI 32) hx hb d_Mo_isFound_10 (by decide) ?_
        refine callWi (va_runV (As := [.int (nI r), .int (nI 32)]) (rest := []) ⟨hx, hb, hml, hown, hts⟩ (c_Mo_anyDark l dC dI cI cZ ad u r 32 (by first | assumption | omega) (by first | assumption | omega) H.size) (cwV 2 hts (goodV m_16_16 m_16_17 m_19_22 m_0_12 m_16_18) rfl rfl rfl (by decide +kernel) ⟨Nat.le_of_ble_eq_true rfl, Nat.le_of_ble_eq_true rfl⟩) ⟨preW_blind, va_recv hK hP (ci := 8) (q0 := 0) rfl rfl, preW_ok hP hD hK⟩ rfl rfl hl.1 rfl (lv_room (Nat.le_of_ble_eq_true rfl)) d_Mo_isFound_12 ⟨Nat.zero_le _, Nat.zero_le _⟩) hP hD hS hA (fun H locs hP hD hS => ?_)
        refine rb_ne (tgt := 34) hx hb d_Mo_isFound_15 (by decide) (fun c11 => ?_) (fun c11 => ?_)
        · skip
          refine lv_iinc (v := nI (r + 1)) (lv' := [(2, .int (nI (r + 1))), (0, .ref (ad 0)), (1, .int (nI q))]) hx hb d_Mo_isFound_34 hl (k := 0) rfl (rn_inc r 1 (by decide)) (by decide) rfl (fun ls hl => ?_)
          refine lv_goto (tgt := 2) hx hb d_Mo_isFound_37 (by decide) ?_
          exact ih2 (r + 1) _ _ _ (by first | assumption | omega) (by omega) (hq2.trans ((if_pos c1).trans ((if_pos c11).trans rfl))) hP hD hS (lv_sub hl [0, 1, 2] rfl)
        · skip
          refine lv_aload_n hx hb d_Mo_isFound_18 rfl (lv_at hl 1 rfl) ?_
          refine lv_iload_n hx hb d_Mo_isFound_19 rfl (lv_at hl 2 rfl) ?_
          refine lv_aload_n hx hb d_Mo_isFound_20 rfl (lv_at hl 1 rfl) ?_
          refine va_get (D := (dC, dI)) (ci := 8) (v := .ref (ad 3)) (C := R_Mo) (T := F_Mo) (N := 31) hx hb hts in_Mo hown hK hP 0 rfl rfl 3 (by decide) (hts _ m_13_33) (fun _ h9 => h9) rfl d_Mo_isFound_21 ?_
          refine lv_iload_n hx hb d_Mo_isFound_24 rfl (lv_at hl 0 rfl) ?_
          refine aldM_x (u := u) (v := aI u 2 r) hx hb hK hP (by omega) rfl d_Mo_isFound_25 ?_
          refine callWi (va_runV (As := [.int (nI q), .int (aI u 2 r)]) (rest := []) ⟨hx, hb, hml, hown, hts⟩ (c_Mo_of l dC dI cI cZ ad u q (aI u 2 r) (by first | assumption | omega) H.size) (cwV 2 hts (goodV m_17_19 m_17_20 m_19_33 m_0_12 m_17_21) rfl rfl rfl (by decide +kernel) ⟨Nat.le_of_ble_eq_true rfl, Nat.le_of_ble_eq_true rfl⟩) ⟨preW_blind, va_recv hK hP (ci := 8) (q0 := 0) rfl rfl, preW_ok hP hD hK⟩ rfl rfl hl.1 rfl (lv_room (Nat.le_of_ble_eq_true rfl)) d_Mo_isFound_26 ⟨Nat.zero_le _, Nat.zero_le _⟩) hP hD hS hA (fun H locs hP hD hS => ?_)
          refine rb_eq (tgt := 34) hx hb d_Mo_isFound_29 (by decide) (fun c12 => ?_) (fun c12 => ?_)
          · skip
            refine lv_iinc (v := nI (r + 1)) (lv' := [(2, .int (nI (r + 1))), (0, .ref (ad 0)), (1, .int (nI q))]) hx hb d_Mo_isFound_34 hl (k := 0) rfl (rn_inc r 1 (by decide)) (by decide) rfl (fun ls hl => ?_)
            refine lv_goto (tgt := 2) hx hb d_Mo_isFound_37 (by decide) ?_
            exact ih2 (r + 1) _ _ _ (by first | assumption | omega) (by omega) (hq2.trans ((if_pos c1).trans ((if_neg c11).trans ((if_neg c12).trans rfl)))) hP hD hS (lv_sub hl [0, 1, 2] rfl)
          · skip
            refine lv_iconst (v := 1) hx hb d_Mo_isFound_32 (by decide) ?_
            have hE : res = true := hq2.trans ((if_pos c1).trans ((if_neg c11).trans ((if_pos c12).trans rfl)))
            exact retWb (x := true) hx hb hr hP hK hD hS hE.symm rfl d_Mo_isFound_33 hlocks
  exact L2 33 0 _ _ _ (by first | assumption | omega) (by omega) (hq.trans (rfl)) hP hD hS (lv_sub hl [0, 1, 2] rfl)
