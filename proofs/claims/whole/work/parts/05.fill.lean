def w_Ar_rangeCheck : List Cond := .code y_Ar_rangeCheck b_Ar_rangeCheck 3 none :: ALLW
def rm_Ar_rangeCheck : Room := { frames := 20, cells := 0, slots := 0, locals := 600 }
theorem d_Ar_rangeCheck_0 : decode b_Ar_rangeCheck 0 = .ok (.iload_n 1, 1) := by decide +kernel
theorem d_Ar_rangeCheck_1 : decode b_Ar_rangeCheck 1 = .ok (.iload_n 2, 1) := by decide +kernel
theorem d_Ar_rangeCheck_2 : decode b_Ar_rangeCheck 2 = .ok (.if_icmp .le 44, 3) := by decide +kernel
theorem d_Ar_rangeCheck_5 : decode b_Ar_rangeCheck 5 = .ok (.new 43, 3) := by decide +kernel
theorem d_Ar_rangeCheck_8 : decode b_Ar_rangeCheck 8 = .ok (.dup, 1) := by decide +kernel
theorem d_Ar_rangeCheck_9 : decode b_Ar_rangeCheck 9 = .ok (.new 45, 3) := by decide +kernel
theorem d_Ar_rangeCheck_12 : decode b_Ar_rangeCheck 12 = .ok (.dup, 1) := by decide +kernel
theorem d_Ar_rangeCheck_13 : decode b_Ar_rangeCheck 13 = .ok (.invokespecial 47, 3) := by decide +kernel
theorem d_Ar_rangeCheck_16 : decode b_Ar_rangeCheck 16 = .ok (.ldc 48, 2) := by decide +kernel
theorem d_Ar_rangeCheck_18 : decode b_Ar_rangeCheck 18 = .ok (.invokevirtual 50, 3) := by decide +kernel
theorem d_Ar_rangeCheck_21 : decode b_Ar_rangeCheck 21 = .ok (.iload_n 1, 1) := by decide +kernel
theorem d_Ar_rangeCheck_22 : decode b_Ar_rangeCheck 22 = .ok (.invokevirtual 54, 3) := by decide +kernel
theorem d_Ar_rangeCheck_25 : decode b_Ar_rangeCheck 25 = .ok (.ldc 57, 2) := by decide +kernel
theorem d_Ar_rangeCheck_27 : decode b_Ar_rangeCheck 27 = .ok (.invokevirtual 50, 3) := by decide +kernel
theorem d_Ar_rangeCheck_30 : decode b_Ar_rangeCheck 30 = .ok (.iload_n 2, 1) := by decide +kernel
theorem d_Ar_rangeCheck_31 : decode b_Ar_rangeCheck 31 = .ok (.invokevirtual 54, 3) := by decide +kernel
theorem d_Ar_rangeCheck_34 : decode b_Ar_rangeCheck 34 = .ok (.ldc 59, 2) := by decide +kernel
theorem d_Ar_rangeCheck_36 : decode b_Ar_rangeCheck 36 = .ok (.invokevirtual 50, 3) := by decide +kernel
theorem d_Ar_rangeCheck_39 : decode b_Ar_rangeCheck 39 = .ok (.invokevirtual 61, 3) := by decide +kernel
theorem d_Ar_rangeCheck_42 : decode b_Ar_rangeCheck 42 = .ok (.invokespecial 65, 3) := by decide +kernel
theorem d_Ar_rangeCheck_45 : decode b_Ar_rangeCheck 45 = .ok (.athrow, 1) := by decide +kernel
theorem d_Ar_rangeCheck_46 : decode b_Ar_rangeCheck 46 = .ok (.iload_n 1, 1) := by decide +kernel
theorem d_Ar_rangeCheck_47 : decode b_Ar_rangeCheck 47 = .ok (.ifCond .ge 12, 3) := by decide +kernel
theorem d_Ar_rangeCheck_50 : decode b_Ar_rangeCheck 50 = .ok (.new 68, 3) := by decide +kernel
theorem d_Ar_rangeCheck_53 : decode b_Ar_rangeCheck 53 = .ok (.dup, 1) := by decide +kernel
theorem d_Ar_rangeCheck_54 : decode b_Ar_rangeCheck 54 = .ok (.iload_n 1, 1) := by decide +kernel
theorem d_Ar_rangeCheck_55 : decode b_Ar_rangeCheck 55 = .ok (.invokespecial 70, 3) := by decide +kernel
theorem d_Ar_rangeCheck_58 : decode b_Ar_rangeCheck 58 = .ok (.athrow, 1) := by decide +kernel
theorem d_Ar_rangeCheck_59 : decode b_Ar_rangeCheck 59 = .ok (.iload_n 2, 1) := by decide +kernel
theorem d_Ar_rangeCheck_60 : decode b_Ar_rangeCheck 60 = .ok (.iload_n 0, 1) := by decide +kernel
theorem d_Ar_rangeCheck_61 : decode b_Ar_rangeCheck 61 = .ok (.if_icmp .le 12, 3) := by decide +kernel
theorem d_Ar_rangeCheck_64 : decode b_Ar_rangeCheck 64 = .ok (.new 68, 3) := by decide +kernel
theorem d_Ar_rangeCheck_67 : decode b_Ar_rangeCheck 67 = .ok (.dup, 1) := by decide +kernel
theorem d_Ar_rangeCheck_68 : decode b_Ar_rangeCheck 68 = .ok (.iload_n 2, 1) := by decide +kernel
theorem d_Ar_rangeCheck_69 : decode b_Ar_rangeCheck 69 = .ok (.invokespecial 70, 3) := by decide +kernel
theorem d_Ar_rangeCheck_72 : decode b_Ar_rangeCheck 72 = .ok (.athrow, 1) := by decide +kernel
theorem d_Ar_rangeCheck_73 : decode b_Ar_rangeCheck 73 = .ok (.return_, 1) := by decide +kernel
def f_Ar_rangeCheck (ln : Nat) (i0 : Nat) (i1 : Nat) : Unit := ()
set_option maxHeartbeats 8000000 in
set_option maxRecDepth 100000 in
theorem c_Ar_rangeCheck (l : Launch) (ln : Nat) (i0 : Nat) (i1 : Nat) (hn : ln < 2 ^ 31) (h01 : i0 ≤ i1) (h1n : i1 ≤ ln) (sz : Nat) : Met l y_Ar_rangeCheck w_Ar_rangeCheck rm_Ar_rangeCheck (PreP sz [.int (nI ln), .int (nI i0), .int (nI i1)]) (QPv (fun q : Nat => sz ≤ q)) 0 0 (fun q : Nat => sz ≤ q) := by
  generalize hres : f_Ar_rangeCheck ln i0 i1 = res
  refine Met.ofW (cc := b_Ar_rangeCheck) (maxL := 3) (ret := none) (by decide) rfl ?_
  intro p e s m args below meth c s₁ B hml hv
  obtain ⟨rfl, rfl⟩ := hv
  have hx := B.exec
  have hb := B.bytes
  have hr := B.returns
  have hts : ∀ w9 ∈ ALLW, w9.before ([.int (nI ln), .int (nI i0), .int (nI i1)] : List Value).toArray s = true := fun w9 h => atoms_spec (ws := w_Ar_rangeCheck) B.pre w9 (List.mem_cons_of_mem _ h)
  have hown : s.vm.findClass R_Ar = some m.cls := findClass_of_methodNamed B.named
  have hlocks := B.notSynchronized
  generalize hAe : (fun q : Nat => s.heap.size ≤ q) = A
  have hA : ∀ q : Nat, s.heap.size ≤ q → A q := fun q h => by rw [← hAe]; exact h
  have hS : va_S A s.heap s.heap [] := va_S.rf
  have hl := lv_entry ([.int (nI ln), .int (nI i0), .int (nI i1)]) (n := 3) (Nat.le_of_ble_eq_true rfl)
  rw [lg_entry_eq]
  generalize (lg_sl ([.int (nI ln), .int (nI i0), .int (nI i1)]) ++ List.replicate (3 - (lg_sl ([.int (nI ln), .int (nI i0), .int (nI i1)])).length) Slot.unset).toArray = ls at hl ⊢
  have hl : lv_has ls 3 [(0, .int (nI ln)), (1, .int (nI i0)), (2, .int (nI i1))] := hl
  have hq := hres.symm
  refine lv_iload_n hx hb d_Ar_rangeCheck_0 rfl (lv_at hl 1 rfl) ?_
  refine lv_iload_n hx hb d_Ar_rangeCheck_1 rfl (lv_at hl 2 rfl) ?_
  refine rn_le (tgt := 46) hx hb (by omega) (by omega) d_Ar_rangeCheck_2 (by decide) (fun c1 => ?_) (fun c1 => ?_)
  · skip
    refine lv_iload_n hx hb d_Ar_rangeCheck_46 rfl (lv_at hl 1 rfl) ?_
    refine rz_ge (tgt := 59) hx hb (by omega) d_Ar_rangeCheck_47 (by decide) ?_
    refine lv_iload_n hx hb d_Ar_rangeCheck_59 rfl (lv_at hl 2 rfl) ?_
    refine lv_iload_n hx hb d_Ar_rangeCheck_60 rfl (lv_at hl 0 rfl) ?_
    refine rn_le (tgt := 73) hx hb (by omega) (by omega) d_Ar_rangeCheck_61 (by decide) (fun c2 => ?_) (fun c2 => ?_)
    · skip
      exact retPv hx hb hr hS d_Ar_rangeCheck_73 hlocks
    · skip
      exact absurd c2 (by omega)
  · skip
    exact absurd c1 (by omega)
def w_Ar_fill1 : List Cond := .code y_Ar_fill1 b_Ar_fill1 4 none :: ALLW
def rm_Ar_fill1 : Room := { frames := 20, cells := 0, slots := 0, locals := 600 }
theorem d_Ar_fill1_0 : decode b_Ar_fill1 0 = .ok (.iconst 0, 1) := by decide +kernel
theorem d_Ar_fill1_1 : decode b_Ar_fill1 1 = .ok (.istore_n 2, 1) := by decide +kernel
theorem d_Ar_fill1_2 : decode b_Ar_fill1 2 = .ok (.aload_n 0, 1) := by decide +kernel
theorem d_Ar_fill1_3 : decode b_Ar_fill1 3 = .ok (.arraylength, 1) := by decide +kernel
theorem d_Ar_fill1_4 : decode b_Ar_fill1 4 = .ok (.istore_n 3, 1) := by decide +kernel
theorem d_Ar_fill1_5 : decode b_Ar_fill1 5 = .ok (.iload_n 2, 1) := by decide +kernel
theorem d_Ar_fill1_6 : decode b_Ar_fill1 6 = .ok (.iload_n 3, 1) := by decide +kernel
theorem d_Ar_fill1_7 : decode b_Ar_fill1 7 = .ok (.if_icmp .ge 13, 3) := by decide +kernel
theorem d_Ar_fill1_10 : decode b_Ar_fill1 10 = .ok (.aload_n 0, 1) := by decide +kernel
theorem d_Ar_fill1_11 : decode b_Ar_fill1 11 = .ok (.iload_n 2, 1) := by decide +kernel
theorem d_Ar_fill1_12 : decode b_Ar_fill1 12 = .ok (.iload_n 1, 1) := by decide +kernel
theorem d_Ar_fill1_13 : decode b_Ar_fill1 13 = .ok (.iastore, 1) := by decide +kernel
theorem d_Ar_fill1_14 : decode b_Ar_fill1 14 = .ok (.iinc 2 1, 3) := by decide +kernel
theorem d_Ar_fill1_17 : decode b_Ar_fill1 17 = .ok (.goto (-12), 3) := by decide +kernel
theorem d_Ar_fill1_20 : decode b_Ar_fill1 20 = .ok (.return_, 1) := by decide +kernel
def w_Ar_fill2 : List Cond := .code y_Ar_fill2 b_Ar_fill2 5 none :: ALLW
def rm_Ar_fill2 : Room := { frames := 21, cells := 0, slots := 0, locals := 622 }
theorem d_Ar_fill2_0 : decode b_Ar_fill2 0 = .ok (.aload_n 0, 1) := by decide +kernel
theorem d_Ar_fill2_1 : decode b_Ar_fill2 1 = .ok (.arraylength, 1) := by decide +kernel
theorem d_Ar_fill2_2 : decode b_Ar_fill2 2 = .ok (.iload_n 1, 1) := by decide +kernel
theorem d_Ar_fill2_3 : decode b_Ar_fill2 3 = .ok (.iload_n 2, 1) := by decide +kernel
theorem d_Ar_fill2_4 : decode b_Ar_fill2 4 = .ok (.invokestatic 13, 3) := by decide +kernel
theorem d_Ar_fill2_7 : decode b_Ar_fill2 7 = .ok (.iload_n 1, 1) := by decide +kernel
theorem d_Ar_fill2_8 : decode b_Ar_fill2 8 = .ok (.istore 4, 2) := by decide +kernel
theorem d_Ar_fill2_10 : decode b_Ar_fill2 10 = .ok (.iload 4, 2) := by decide +kernel
theorem d_Ar_fill2_12 : decode b_Ar_fill2 12 = .ok (.iload_n 2, 1) := by decide +kernel
theorem d_Ar_fill2_13 : decode b_Ar_fill2 13 = .ok (.if_icmp .ge 14, 3) := by decide +kernel
theorem d_Ar_fill2_16 : decode b_Ar_fill2 16 = .ok (.aload_n 0, 1) := by decide +kernel
theorem d_Ar_fill2_17 : decode b_Ar_fill2 17 = .ok (.iload 4, 2) := by decide +kernel
theorem d_Ar_fill2_19 : decode b_Ar_fill2 19 = .ok (.iload_n 3, 1) := by decide +kernel
theorem d_Ar_fill2_20 : decode b_Ar_fill2 20 = .ok (.iastore, 1) := by decide +kernel
theorem d_Ar_fill2_21 : decode b_Ar_fill2 21 = .ok (.iinc 4 1, 3) := by decide +kernel
theorem d_Ar_fill2_24 : decode b_Ar_fill2 24 = .ok (.goto (-14), 3) := by decide +kernel
theorem d_Ar_fill2_27 : decode b_Ar_fill2 27 = .ok (.return_, 1) := by decide +kernel
/-! an array's places a .. b - 1 get v -/
def fillI (f : Nat → Int32) (a b : Nat) (v : Int32) : Nat → Int32 := fun j => if a ≤ j ∧ j < b then v else f j
def fillN (f : Nat → Nat) (a b : Nat) (v : Nat) : Nat → Nat := fun j => if a ≤ j ∧ j < b then v else f j
def fI (u : S5) (k a b : Nat) (v : Int32) : S5 := sAI u k (fillI (aI u k) a b v)
def fN (u : S5) (k a b : Nat) (v : Nat) : S5 := sAN u k (fillN (aN u k) a b v)
def cp (u : S5) (k : Nat) (f : Nat → Int32) (sp dp n : Nat) : S5 := sAI u k (va_cpy f (aI u k) sp dp n)
theorem fillI_nI (g : Nat → Nat) (a b v : Nat) : fillI (fun j => nI (g j)) a b (nI v) = fun j => nI (fillN g a b v j) := by
  funext j; simp only [fillI, fillN]; split <;> rfl
theorem fillI_z (f : Nat → Int32) (a : Nat) (v : Int32) : fillI f a a v = f := by
  funext j; simp only [fillI]; rw [if_neg (by omega)]
theorem fillI_s (f : Nat → Int32) (a b : Nat) (v : Int32) (h : a ≤ b) : upd (fillI f a b v) b v = fillI f a (b + 1) v := by
  funext j; simp only [fillI, upd]
  by_cases h1 : j = b
  · subst h1; rw [if_pos rfl, if_pos ⟨h, by omega⟩]
  · rw [if_neg h1]
    by_cases h2 : a ≤ j ∧ j < b
    · rw [if_pos h2, if_pos ⟨h2.1, by omega⟩]
    · rw [if_neg h2, if_neg (by omega)]
theorem set_same {α : Type} {l : List α} {i : Nat} {x : α} (h : l[i]? = some x) : l.set i x = l := by
  apply List.ext_getElem?
  intro j
  by_cases hj : j = i
  · subst hj; rw [List.getElem?_set_self (List.getElem?_eq_some_iff.mp h).1, h]
  · rw [List.getElem?_set_ne (Ne.symm hj)]
/-- a world with one array of ints in it that may change -/
def wZ (ws : va_W) (q0 a : Nat) (cI : ClassId) (n : Nat) (f : Nat → Int32) : va_W := ws.set q0 (a, .inl (cI, n, .inl f))
theorem wZ_at {ws : va_W} {q0 a : Nat} {cI : ClassId} {n : Nat} {f : Nat → Int32} (h : q0 < ws.length) : (wZ ws q0 a cI n f)[q0]? = some (a, .inl (cI, n, .inl f)) := List.getElem?_set_self h
theorem wZ_set {ws : va_W} {q0 a : Nat} {cI : ClassId} {n : Nat} {f g : Nat → Int32} : (wZ ws q0 a cI n f).set q0 (a, .inl (cI, n, .inl g)) = wZ ws q0 a cI n g := List.set_set ..
def PreZ (D : va_G) (cl : List vw_C) (tys : List (ClassId × FieldType)) (ws : va_W) (sz : Nat) (As : List Value) : Array Value → State → Prop := va_Pc As (fun U => U.heap.size = sz ∧ va_P D cl ws U.heap ∧ va_K D cl tys U ∧ va_D (fun _ => True) ws)
def QZv (D : va_G) (cl : List vw_C) (tys : List (ClassId × FieldType)) (A : Nat → Prop) (ws' : va_W) : Array Value → State → Outcome → State → Prop := va_Qv (fun v : va_W => v = ws') (fun v t => va_P D cl v t.heap ∧ va_K D cl tys t ∧ va_D A v) A
theorem preZ_blind {D : va_G} {cl : List vw_C} {tys : List (ClassId × FieldType)} {ws : va_W} {sz : Nat} {As : List Value} : FrameBlind (PreZ D cl tys ws sz As) := fun a U g mk q => by
  obtain ⟨q0, q1, qP, qK, qD⟩ := q
  exact ⟨q0, q1, qP, va_K.moved (u := U) (U := U.calling g mk a) (Vm.Alike.refl U.vm) qK, qD⟩
theorem preZ_ok {D : va_G} {cl : List vw_C} {tys : List (ClassId × FieldType)} {ws : va_W} {As : List Value} {s : State} {H : Heap} {A : Nat → Prop} (hP : va_P D cl ws H) (hD : va_D A ws) (hK : va_K D cl tys s) : ∀ U : State, U.heap = H → s.WarmedH U.vm → PreZ D cl tys ws H.size As As.toArray U :=
  fun U hU hW => ⟨rfl, by rw [hU], by rw [hU]; exact hP, va_K.moved hW.alike hK, hD.weaken (fun _ _ _ _ => trivial)⟩
theorem va_A_set {ws : va_W} {q0 a : Nat} {e0 e : va_E} {sz : Nat} (h : ws[q0]? = some (a, e0)) : ∀ q, va_A (ws.set q0 (a, e)) sz q → va_A ws sz q := by
  intro q hq
  rcases hq with ⟨k, e1, hk⟩ | hq
  · by_cases hkq : k = q0
    · subst hkq
      rw [List.getElem?_set_self (List.getElem?_eq_some_iff.mp h).1] at hk
      cases hk
      exact Or.inl ⟨k, e0, h⟩
    · rw [List.getElem?_set_ne (Ne.symm hkq)] at hk
      exact Or.inl ⟨k, e1, hk⟩
  · exact Or.inr hq
set_option maxHeartbeats 8000000 in
set_option maxRecDepth 100000 in
theorem c_Ar_fill1 (l : Launch) (D : va_G) (cl : List vw_C) (tys : List (ClassId × FieldType)) (cI : ClassId) (t0 : Nat) (ht : tys[t0]? = some (cI, .int)) (ws : va_W) (q0 a n : Nat) (f : Nat → Int32) (hq : ws[q0]? = some (a, .inl (cI, n, .inl f))) (hn : n < 2 ^ 31) (v : Int32) (sz : Nat) : Met l y_Ar_fill1 w_Ar_fill1 rm_Ar_fill1 (PreZ D cl tys ws sz [.ref a, .int v]) (QZv D cl tys (va_A ws sz) (wZ ws q0 a cI n (fillI f 0 n v))) 0 0 (va_A ws sz) := by
  refine Met.ofW (cc := b_Ar_fill1) (maxL := 4) (ret := none) (by decide) rfl ?_
  intro p e s m args below meth c s₁ B hml hv
  obtain ⟨rfl, rfl, hP, hK, hD0⟩ := hv
  have hx := B.exec
  have hb := B.bytes
  have hr := B.returns
  have hlocks := B.notSynchronized
  have hD := hD0.self (sz := s.heap.size)
  generalize hAe : va_A ws s.heap.size = A at hD ⊢
  have hS : va_S A s.heap s.heap [] := va_S.rf
  have hl := lv_entry ([.ref a, .int v]) (n := 4) (Nat.le_of_ble_eq_true rfl)
  rw [lg_entry_eq]
  generalize (lg_sl ([.ref a, .int v]) ++ List.replicate (4 - (lg_sl ([.ref a, .int v])).length) Slot.unset).toArray = ls at hl ⊢
  have hl : lv_has ls 4 [(0, .ref a), (1, .int v)] := hl
  have hq0 : q0 < ws.length := (List.getElem?_eq_some_iff.mp hq).1
  have hws : ws = wZ ws q0 a cI n f := by
    unfold wZ; rw [set_same hq]
  refine lv_iconst (v := nI 0) hx hb d_Ar_fill1_0 (by decide) ?_
  refine lv_istore_n (lv' := [(2, .int (nI 0)), (0, .ref a), (1, .int v)]) hx hb d_Ar_fill1_1 rfl hl (by decide) rfl (fun ls hl => ?_)
  refine lv_aload_n hx hb d_Ar_fill1_2 rfl (lv_at hl 1 rfl) ?_
  refine va_alen (v := nI n) hx hb hK hP q0 t0 hq ht rfl d_Ar_fill1_3 ?_
  refine lv_istore_n (lv' := [(3, .int (nI n)), (2, .int (nI 0)), (0, .ref a), (1, .int v)]) hx hb d_Ar_fill1_4 rfl hl (by decide) rfl (fun ls hl => ?_)
  have L : ∀ (k i : Nat) (H : Heap) (locs : List Loc) (ls : Array Slot), i ≤ n → n - i < k → va_P D cl (wZ ws q0 a cI n (fillI f 0 i v)) H → va_D A (wZ ws q0 a cI n (fillI f 0 i v)) → va_S A s.heap H locs → lv_has ls 4 [(3, .int (nI n)), (2, .int (nI i)), (0, .ref a), (1, .int v)] → W p l e (headSpec w_Ar_fill1 rm_Ar_fill1).room s m ([.ref a, .int v] : List Value).toArray below meth c H locs 0 0 (MQ below (QZv D cl tys A (wZ ws q0 a cI n (fillI f 0 n v))) ([.ref a, .int v] : List Value).toArray s 0 0 A) (F0 m 5 ls []) := by
    intro k
    induction k with
    | zero => intro i H locs ls hi hm; exact absurd hm (Nat.not_lt_zero _)
    | succ k ih =>
      intro i H locs ls hi hm hP hD hS hl
      refine lv_iload_n hx hb d_Ar_fill1_5 rfl (lv_at hl 1 rfl) ?_
      refine lv_iload_n hx hb d_Ar_fill1_6 rfl (lv_at hl 0 rfl) ?_
      refine rn_ge (tgt := 20) hx hb (by omega) (by omega) d_Ar_fill1_7 (by decide) (fun h => ?_) (fun h => ?_)
      · have hin : i = n := by omega
        subst hin
        exact W.vret hx hb hr (fun t ht hW => ⟨⟨_, rfl, rfl, by rw [ht]; exact hP, va_K.moved hW.alike hK, hD⟩, hS.F ht⟩) hS.2.2 d_Ar_fill1_20 hlocks
      · refine lv_aload_n hx hb d_Ar_fill1_10 rfl (lv_at hl 2 rfl) ?_
        refine lv_iload_n hx hb d_Ar_fill1_11 rfl (lv_at hl 1 rfl) ?_
        refine lv_iload_n hx hb d_Ar_fill1_12 rfl (lv_at hl 3 rfl) ?_
        refine va_iast hx hb hK hP hD hS q0 t0 (wZ_at hq0) ht (vp_in_nI h hn) d_Ar_fill1_13 (fun H locs hP hD hS => ?_)
        rw [nI_clamp (by omega), wZ_set, fillI_s _ _ _ _ (Nat.zero_le _)] at hP hD
        refine lv_iinc (v := nI (i + 1)) (lv' := [(2, .int (nI (i + 1))), (3, .int (nI n)), (0, .ref a), (1, .int v)]) hx hb d_Ar_fill1_14 hl (k := 1) rfl (rn_inc i 1 (by decide)) (by decide) rfl (fun ls hl => ?_)
        refine lv_goto (tgt := 5) hx hb d_Ar_fill1_17 (by decide) ?_
        exact ih (i + 1) _ _ _ (by omega) (by omega) hP hD hS (lv_sub hl [1, 0, 2, 3] rfl)
  exact L (n + 1) 0 _ _ _ (by omega) (by omega) (by rw [fillI_z]; exact hws ▸ hP) (by rw [fillI_z]; exact hws ▸ hD) hS (lv_sub hl [0, 1, 2, 3] rfl)
set_option maxHeartbeats 8000000 in
set_option maxRecDepth 100000 in
theorem c_Ar_fill2 (l : Launch) (D : va_G) (cl : List vw_C) (tys : List (ClassId × FieldType)) (cI : ClassId) (t0 : Nat) (ht : tys[t0]? = some (cI, .int)) (ws : va_W) (q0 a n : Nat) (f : Nat → Int32) (hq : ws[q0]? = some (a, .inl (cI, n, .inl f))) (hn : n < 2 ^ 31) (i0 i1 : Nat) (h01 : i0 ≤ i1) (h1n : i1 ≤ n) (v : Int32) (sz : Nat) : Met l y_Ar_fill2 w_Ar_fill2 rm_Ar_fill2 (PreZ D cl tys ws sz [.ref a, .int (nI i0), .int (nI i1), .int v]) (QZv D cl tys (va_A ws sz) (wZ ws q0 a cI n (fillI f i0 i1 v))) 0 0 (va_A ws sz) := by
  refine Met.ofW (cc := b_Ar_fill2) (maxL := 5) (ret := none) (by decide) rfl ?_
  intro p e s m args below meth c s₁ B hml hv
  obtain ⟨rfl, rfl, hP, hK, hD0⟩ := hv
  have hx := B.exec
  have hb := B.bytes
  have hr := B.returns
  have hts : ∀ w9 ∈ ALLW, w9.before ([.ref a, .int (nI i0), .int (nI i1), .int v] : List Value).toArray s = true := fun w9 h => atoms_spec (ws := w_Ar_fill2) B.pre w9 (List.mem_cons_of_mem _ h)
  have hown : s.vm.findClass R_Ar = some m.cls := findClass_of_methodNamed B.named
  have hlocks := B.notSynchronized
  have hD := hD0.self (sz := s.heap.size)
  generalize hAe : va_A ws s.heap.size = A at hD ⊢
  have hA : ∀ q : Nat, s.heap.size ≤ q → A q := fun q h => by rw [← hAe]; exact Or.inr h
  have hS : va_S A s.heap s.heap [] := va_S.rf
  have hl := lv_entry ([.ref a, .int (nI i0), .int (nI i1), .int v]) (n := 5) (Nat.le_of_ble_eq_true rfl)
  rw [lg_entry_eq]
  generalize (lg_sl ([.ref a, .int (nI i0), .int (nI i1), .int v]) ++ List.replicate (5 - (lg_sl ([.ref a, .int (nI i0), .int (nI i1), .int v])).length) Slot.unset).toArray = ls at hl ⊢
  have hl : lv_has ls 5 [(0, .ref a), (1, .int (nI i0)), (2, .int (nI i1)), (3, .int v)] := hl
  have hq0 : q0 < ws.length := (List.getElem?_eq_some_iff.mp hq).1
  have hws : ws = wZ ws q0 a cI n f := by
    unfold wZ; rw [set_same hq]
  refine lv_aload_n hx hb d_Ar_fill2_0 rfl (lv_at hl 0 rfl) ?_
  refine va_alen (v := nI n) hx hb hK hP q0 t0 hq ht rfl d_Ar_fill2_1 ?_
  refine lv_iload_n hx hb d_Ar_fill2_2 rfl (lv_at hl 1 rfl) ?_
  refine lv_iload_n hx hb d_Ar_fill2_3 rfl (lv_at hl 2 rfl) ?_
  refine callPv (va_runS (As := [.int (nI n), .int (nI i0), .int (nI i1)]) (rest := []) ⟨hx, hb, hml, hown, hts⟩ (c_Ar_rangeCheck l n i0 i1 hn h01 h1n s.heap.size) (va_cwS 3 hts (goodS m_1_9 m_1_10 m_0_4 m_1_11) rfl rfl rfl (by decide +kernel) ⟨Nat.le_of_ble_eq_true rfl, Nat.le_of_ble_eq_true rfl⟩) ⟨preP_blind, preP_ok⟩ rfl rfl hl.1 rfl (lv_room (Nat.le_of_ble_eq_true rfl)) d_Ar_fill2_4 ⟨Nat.zero_le _, Nat.zero_le _⟩) hP hS hA (fun H locs hP hS => ?_)
  refine lv_iload_n hx hb d_Ar_fill2_7 rfl (lv_at hl 1 rfl) ?_
  refine lv_istore (lv' := [(4, .int (nI i0)), (0, .ref a), (1, .int (nI i0)), (2, .int (nI i1)), (3, .int v)]) hx hb d_Ar_fill2_8 hl (by decide) rfl (fun ls hl => ?_)
  have L : ∀ (k i : Nat) (H : Heap) (locs : List Loc) (ls : Array Slot), i0 ≤ i → i ≤ i1 → i1 - i < k → va_P D cl (wZ ws q0 a cI n (fillI f i0 i v)) H → va_D A (wZ ws q0 a cI n (fillI f i0 i v)) → va_S A s.heap H locs → lv_has ls 5 [(4, .int (nI i)), (0, .ref a), (2, .int (nI i1)), (3, .int v)] → W p l e (headSpec w_Ar_fill2 rm_Ar_fill2).room s m ([.ref a, .int (nI i0), .int (nI i1), .int v] : List Value).toArray below meth c H locs 0 0 (MQ below (QZv D cl tys A (wZ ws q0 a cI n (fillI f i0 i1 v))) ([.ref a, .int (nI i0), .int (nI i1), .int v] : List Value).toArray s 0 0 A) (F0 m 10 ls []) := by
    intro k
    induction k with
    | zero => intro i H locs ls h0 hi hm; exact absurd hm (Nat.not_lt_zero _)
    | succ k ih =>
      intro i H locs ls h0 hi hm hP hD hS hl
      refine lv_iload hx hb d_Ar_fill2_10 (lv_at hl 0 rfl) ?_
      refine lv_iload_n hx hb d_Ar_fill2_12 rfl (lv_at hl 2 rfl) ?_
      refine rn_ge (tgt := 27) hx hb (by omega) (by omega) d_Ar_fill2_13 (by decide) (fun h => ?_) (fun h => ?_)
      · have hin : i = i1 := by omega
        subst hin
        exact W.vret hx hb hr (fun t ht hW => ⟨⟨_, rfl, rfl, by rw [ht]; exact hP, va_K.moved hW.alike hK, hD⟩, hS.F ht⟩) hS.2.2 d_Ar_fill2_27 hlocks
      · refine lv_aload_n hx hb d_Ar_fill2_16 rfl (lv_at hl 1 rfl) ?_
        refine lv_iload hx hb d_Ar_fill2_17 (lv_at hl 0 rfl) ?_
        refine lv_iload_n hx hb d_Ar_fill2_19 rfl (lv_at hl 3 rfl) ?_
        refine va_iast hx hb hK hP hD hS q0 t0 (wZ_at hq0) ht (vp_in_nI (by omega) hn) d_Ar_fill2_20 (fun H locs hP hD hS => ?_)
        rw [nI_clamp (by omega), wZ_set, fillI_s _ _ _ _ h0] at hP hD
        refine lv_iinc (v := nI (i + 1)) (lv' := [(4, .int (nI (i + 1))), (0, .ref a), (2, .int (nI i1)), (3, .int v)]) hx hb d_Ar_fill2_21 hl (k := 0) rfl (rn_inc i 1 (by decide)) (by decide) rfl (fun ls hl => ?_)
        refine lv_goto (tgt := 10) hx hb d_Ar_fill2_24 (by decide) ?_
        exact ih (i + 1) _ _ _ (by omega) (by omega) (by omega) hP hD hS (lv_sub hl [0, 1, 2, 3] rfl)
  exact L (n + 1) i0 _ _ _ (Nat.le_refl _) h01 (by omega) (by rw [fillI_z]; exact hws ▸ hP) (by rw [fillI_z]; exact hws ▸ hD) hS (lv_sub hl [0, 1, 3, 4] rfl)
section FILLROW
variable {p : Program} {l : Launch} {e : Env} {R : Room} {s : State} {m : MethodId} {args : Array Value} {below : List Frame} {meth : Method} {c : Code} {H : Heap} {locs : List Loc} {cells slots : Nat} {Q : State → Prop}
variable {cc : ByteArray} {pc : Nat} {ls : Array Slot} {rest st0 : List Value} {A : Nat → Prop} {H0 : Heap} {D : va_G} {cl : List vw_C} {tys : List (ClassId × FieldType)} {a : Array Value}
theorem callZv {ws ws' : va_W} (hr : va_Run p l e R s m args below meth c H locs cells slots 0 0 (F0 m pc ls st0) rest (QZv D cl tys (va_A ws H.size) ws' a) (va_A ws H.size)) (hP : va_P D cl ws H) (hD : va_D A ws) (hS : va_S A H0 H locs) (hA : ∀ q, H0.size ≤ q → A q) (kk : ∀ (H1 : Heap) (locs1 : List Loc), va_P D cl ws' H1 → va_D A ws' → va_S A H0 H1 locs1 → W p l e R s m args below meth c H1 locs1 cells slots Q (F0 m (pc + 3) ls rest)) : W p l e R s m args below meth c H locs cells slots Q (F0 m pc ls st0) := by
  have hF := freeW hD hS hA
  refine va_callv hr hS (fun q _ h => hF q h) hF (fun v t H1 locs1 ht hvm hw hB hz hk hS1 => ?_)
  obtain ⟨hP1, hK1, hD1⟩ := hB
  rw [ht] at hP1
  subst hw
  exact kk H1 locs1 hP1 (hD1.weaken (fun _ _ _ h => hF _ h)) hS1
end FILLROW
section CPROW
variable {p : Program} {l : Launch} {e : Env} {R : Room} {s : State} {m : MethodId} {args : Array Value} {below : List Frame} {meth : Method} {c : Code} {H : Heap} {locs : List Loc} {cells slots : Nat} {Q : State → Prop}
variable {cc : ByteArray} {pc : Nat} {ls : Array Slot} {rest : List Value} {A : Nat → Prop} {H0 : Heap} {D : va_G} {cl : List vw_C} {tys : List (ClassId × FieldType)} {ws : va_W} {a : Nat}
theorem cpN (hexec : p.tables.exec = Jvm.exec) (hb : c.code = cc) (hml : c.maxLocals = ls.size) {own : String} {index : Nat} (hown : s.vm.findClass own = some m.cls) (hlink : (Cond.methodLink own index arraycopyName).before args s = true) (hnat : (Cond.native arraycopyName).before args s = true) (hstat : (Cond.static arraycopyName).before args s = true) (hini : (Cond.initialized "java/lang/System").before args s = true)
    (hK : va_K D cl tys s) (hP : va_P D cl ws H) (hD : va_D A ws) (hS : va_S A H0 H locs) (q0 q1 t0 t1 : Nat) {a0 : Nat} {c0 c1 : ClassId} {n0 n1 : Nat} {f g : Nat → Int32} (ha0 : ws[q0]? = some (a0, .inl (c0, n0, .inl f))) (ha1 : ws[q1]? = some (a, .inl (c1, n1, .inl g))) (ht0 : tys[t0]? = some (c0, .int)) (ht1 : tys[t1]? = some (c1, .int))
    {sp dp n : Nat} (hs : sp < 2 ^ 31) (hd : dp < 2 ^ 31) (hn : n < 2 ^ 31) (h4 : sp + n ≤ n0) (h5 : dp + n ≤ n1)
    (hframes : 1 ≤ R.frames) (hlocals : (rest.map fun v => v.category).sum + (nativeFrameWords "java/lang/System" "arraycopy" 5 + 11) ≤ R.locals) (hdg : decode cc pc = .ok (.invokestatic index, 3))
    (kk : ∀ (H1 : Heap) (locs1 : List Loc), va_P D cl (ws.set q1 (a, .inl (c1, n1, .inl (va_cpy f g sp dp n)))) H1 → va_D A (ws.set q1 (a, .inl (c1, n1, .inl (va_cpy f g sp dp n)))) → va_S A H0 H1 locs1 → W p l e R s m args below meth c H1 locs1 cells slots Q (F0 m (pc + 3) ls rest)) : W p l e R s m args below meth c H locs cells slots Q (F0 m pc ls (.int (nI n) :: .int (nI dp) :: .ref a :: .int (nI sp) :: .ref a0 :: rest)) := by
  refine va_copyi hexec hb hml hown hlink hnat hstat hini hK hP hD hS q0 q1 t0 t1 ha0 ha1 ht0 ht1 rfl (nI_pos hs) (nI_pos hd) (nI_pos hn) (by rw [nI_clamp hs, nI_clamp hn]; exact h4) (by rw [nI_clamp hd, nI_clamp hn]; exact h5) (fun _ _ => rfl) hframes hlocals hdg (fun H1 locs1 h1 h2 h3 => ?_)
  rw [nI_clamp hs, nI_clamp hd, nI_clamp hn] at h1 h2
  exact kk H1 locs1 h1 h2 h3
theorem mn_nat {x y : Nat} (hx : x < 2 ^ 31) (hy : y < 2 ^ 31) : (if nI y < nI x then nI y else nI x) = nI (if y < x then y else x) := by
  by_cases h : y < x
  · rw [if_pos h, if_pos ((nI_ltI hy hx).mpr h)]
  · rw [if_neg h, if_neg (fun q => h ((nI_ltI hy hx).mp q))]
end CPROW
theorem rg_1 : ∀ t, t < 32 → (nI t - (1 : Int32)) &&& (31 : Int32) = nI ((t + 31) % 32) := by decide +kernel
theorem rg_p : ∀ t, t < 32 → nI (t + 1) &&& (31 : Int32) = nI ((t + 1) % 32) := by decide +kernel
theorem rg_2 : ∀ t, t < 32 → ∀ i, i < 4 → (nI t - (1 : Int32) - nI i) &&& (31 : Int32) = nI ((t + 31 - i) % 32) := by decide +kernel

