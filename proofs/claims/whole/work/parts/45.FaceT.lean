def PreT (D : va_G) (cl : List vw_C) (tys : List (ClassId × FieldType)) (Wd : S5 → va_W) (u : S5) (sz : Nat) (As : List Value) : Array Value → State → Prop := fun a U => PreW D cl tys Wd u sz As a U ∧ thS U
theorem preT_blind {D : va_G} {cl : List vw_C} {tys : List (ClassId × FieldType)} {Wd : S5 → va_W} {u : S5} {sz : Nat} {As : List Value} : FrameBlind (PreT D cl tys Wd u sz As) := fun a U g mk q => ⟨preW_blind a U g mk q.1, thS.calling q.2⟩
def wt_SH_image : List Cond := .code y_SH_image b_SH_image 4 none :: (ALLW ++ THX)
def rmt_SH_image : Room := { frames := 30, cells := 1, slots := 6, locals := 600 }
set_option maxHeartbeats 8000000 in
set_option maxRecDepth 100000 in
theorem t_SH_image_IAE (l : Launch) (hfl : l.flags = pinnedFlags ++ [noTraceFlag]) (dC : Nat → ClassId) (dI : Nat → Nat → Nat) (cI : ClassId) (ad : Nat → Nat) (u : S5) (at_ : Int32) (w : Int64) (ht : at_ < 0 ∨ 16376 < at_ ∨ ¬ (at_ &&& 7) = 0) (sz : Nat) : MetT l y_SH_image wt_SH_image rmt_SH_image (PreT (dC, dI) classes [(cI, .int)] (wC cI ad) u sz [.ref (ad 0), .int at_, .long w]) thIAE := by
  refine MetT.ofW (cc := b_SH_image) (maxL := 4) (ret := none) (by decide) rfl ?_
  intro p e s m args below meth c s₁ B hml hout hv
  obtain ⟨⟨rfl, rfl, hP, hK, hD0⟩, hthS⟩ := hv
  have hx := B.exec
  have hb := B.bytes
  have hr := B.returns
  have hts : ∀ w9 ∈ ALLW, w9.before ([.ref (ad 0), .int at_, .long w] : List Value).toArray s = true := fun w9 h => atoms_spec (ws := wt_SH_image) B.pre w9 (List.mem_cons_of_mem _ (List.mem_append_left _ h))
  have hthx : ∀ w9 ∈ THX, w9.before ([.ref (ad 0), .int at_, .long w] : List Value).toArray s = true := fun w9 h => atoms_spec (ws := wt_SH_image) B.pre w9 (List.mem_cons_of_mem _ (List.mem_append_right _ h))
  have htr : e.platform.stackTraces = false := Launch.traces_off hfl B.admits
  have hown : s.vm.findClass R_SH = some m.cls := findClass_of_methodNamed B.named
  have hlocks := B.notSynchronized
  have hD := hD0.self (sz := s.heap.size)
  generalize hAe : va_A (wC cI ad u) s.heap.size = A at hD
  have hA : ∀ q : Nat, s.heap.size ≤ q → A q := fun q h => by rw [← hAe]; exact Or.inr h
  have hS : va_S A s.heap s.heap [] := va_S.rf
  have hl := lv_entry ([.ref (ad 0), .int at_, .long w]) (n := 4) (Nat.le_of_ble_eq_true rfl)
  rw [lg_entry_eq]
  generalize (lg_sl ([.ref (ad 0), .int at_, .long w]) ++ List.replicate (4 - (lg_sl ([.ref (ad 0), .int at_, .long w])).length) Slot.unset).toArray = ls at hl ⊢
  have hl : lv_has ls 4 [(0, .ref (ad 0)), (1, .int at_), (2, .long w)] := hl
  skip
  refine lv_iload_n hx hb d_SH_image_0 rfl (lv_at hl 1 rfl) ?_
  refine lv_if_lt (tgt := 18) hx hb d_SH_image_1 (by decide) (fun c1 => ?_) (fun c1 => ?_)
  · skip
    exact thr_end hx hb htr hown (by decide) (thS_iae hthx hthS) (hthx _ (by simp [THX])) (hthx _ (by simp [THX])) (hl.1.trans hml.symm) hout ⟨by decide, by decide, by decide, by decide⟩ d_SH_image_18 d_SH_image_21 d_SH_image_22 d_SH_image_25 hlocks
  · skip
    refine lv_iload_n hx hb d_SH_image_4 rfl (lv_at hl 1 rfl) ?_
    refine lv_sipush (v := 16376) hx hb d_SH_image_5 (by decide) ?_
    refine lv_icmp_gt (tgt := 18) hx hb d_SH_image_8 (by decide) (fun c2 => ?_) (fun c2 => ?_)
    · skip
      exact thr_end hx hb htr hown (by decide) (thS_iae hthx hthS) (hthx _ (by simp [THX])) (hthx _ (by simp [THX])) (hl.1.trans hml.symm) hout ⟨by decide, by decide, by decide, by decide⟩ d_SH_image_18 d_SH_image_21 d_SH_image_22 d_SH_image_25 hlocks
    · skip
      refine lv_iload_n hx hb d_SH_image_11 rfl (lv_at hl 1 rfl) ?_
      refine lv_bipush (v := 7) hx hb d_SH_image_12 (by decide) ?_
      refine lv_iand hx hb d_SH_image_14 ?_
      refine lv_if_eq (tgt := 26) hx hb d_SH_image_15 (by decide) (fun c3 => ?_) (fun c3 => ?_)
      · skip
        rcases ht with h9 | h9 | h9 <;> contradiction
      · skip
        exact thr_end hx hb htr hown (by decide) (thS_iae hthx hthS) (hthx _ (by simp [THX])) (hthx _ (by simp [THX])) (hl.1.trans hml.symm) hout ⟨by decide, by decide, by decide, by decide⟩ d_SH_image_18 d_SH_image_21 d_SH_image_22 d_SH_image_25 hlocks
def wt_SH_input : List Cond := .code y_SH_input b_SH_input 5 (some .int) :: (ALLW ++ THX)
def rmt_SH_input : Room := { frames := 30, cells := 1, slots := 6, locals := 600 }
set_option maxHeartbeats 8000000 in
set_option maxRecDepth 100000 in
theorem t_SH_input_IAE (l : Launch) (hfl : l.flags = pinnedFlags ++ [noTraceFlag]) (dC : Nat → ClassId) (dI : Nat → Nat → Nat) (cI : ClassId) (ad : Nat → Nat) (u : S5) (w : Int64) (n : Int32) (ht : n < 1 ∨ ¬ n ≤ 8) (sz : Nat) : MetT l y_SH_input wt_SH_input rmt_SH_input (PreT (dC, dI) classes [(cI, .int)] (wC cI ad) u sz [.ref (ad 0), .long w, .int n]) thIAE := by
  refine MetT.ofW (cc := b_SH_input) (maxL := 5) (ret := (some .int)) (by decide) rfl ?_
  intro p e s m args below meth c s₁ B hml hout hv
  obtain ⟨⟨rfl, rfl, hP, hK, hD0⟩, hthS⟩ := hv
  have hx := B.exec
  have hb := B.bytes
  have hr := B.returns
  have hts : ∀ w9 ∈ ALLW, w9.before ([.ref (ad 0), .long w, .int n] : List Value).toArray s = true := fun w9 h => atoms_spec (ws := wt_SH_input) B.pre w9 (List.mem_cons_of_mem _ (List.mem_append_left _ h))
  have hthx : ∀ w9 ∈ THX, w9.before ([.ref (ad 0), .long w, .int n] : List Value).toArray s = true := fun w9 h => atoms_spec (ws := wt_SH_input) B.pre w9 (List.mem_cons_of_mem _ (List.mem_append_right _ h))
  have htr : e.platform.stackTraces = false := Launch.traces_off hfl B.admits
  have hown : s.vm.findClass R_SH = some m.cls := findClass_of_methodNamed B.named
  have hlocks := B.notSynchronized
  have hD := hD0.self (sz := s.heap.size)
  generalize hAe : va_A (wC cI ad u) s.heap.size = A at hD
  have hA : ∀ q : Nat, s.heap.size ≤ q → A q := fun q h => by rw [← hAe]; exact Or.inr h
  have hS : va_S A s.heap s.heap [] := va_S.rf
  have hl := lv_entry ([.ref (ad 0), .long w, .int n]) (n := 5) (Nat.le_of_ble_eq_true rfl)
  rw [lg_entry_eq]
  generalize (lg_sl ([.ref (ad 0), .long w, .int n]) ++ List.replicate (5 - (lg_sl ([.ref (ad 0), .long w, .int n])).length) Slot.unset).toArray = ls at hl ⊢
  have hl : lv_has ls 5 [(0, .ref (ad 0)), (1, .long w), (3, .int n)] := hl
  skip
  refine lv_iload_n hx hb d_SH_input_0 rfl (lv_at hl 2 rfl) ?_
  refine lv_iconst (v := 1) hx hb d_SH_input_1 (by decide) ?_
  refine lv_icmp_lt (tgt := 11) hx hb d_SH_input_2 (by decide) (fun c1 => ?_) (fun c1 => ?_)
  · skip
    exact thr_end hx hb htr hown (by decide) (thS_iae hthx hthS) (hthx _ (by simp [THX])) (hthx _ (by simp [THX])) (hl.1.trans hml.symm) hout ⟨by decide, by decide, by decide, by decide⟩ d_SH_input_11 d_SH_input_14 d_SH_input_15 d_SH_input_18 hlocks
  · skip
    refine lv_iload_n hx hb d_SH_input_5 rfl (lv_at hl 2 rfl) ?_
    refine lv_bipush (v := 8) hx hb d_SH_input_6 (by decide) ?_
    refine lv_icmp_le (tgt := 19) hx hb d_SH_input_8 (by decide) (fun c2 => ?_) (fun c2 => ?_)
    · skip
      rcases ht with h9 | h9 <;> contradiction
    · skip
      exact thr_end hx hb htr hown (by decide) (thS_iae hthx hthS) (hthx _ (by simp [THX])) (hthx _ (by simp [THX])) (hl.1.trans hml.symm) hout ⟨by decide, by decide, by decide, by decide⟩ d_SH_input_11 d_SH_input_14 d_SH_input_15 d_SH_input_18 hlocks
set_option maxHeartbeats 8000000 in
set_option maxRecDepth 100000 in
theorem t_SH_input_IOB (l : Launch) (hfl : l.flags = pinnedFlags ++ [noTraceFlag]) (dC : Nat → ClassId) (dI : Nat → Nat → Nat) (cI : ClassId) (ad : Nat → Nat) (u : S5) (w : Int64) (n : Nat) (h1 : 1 ≤ n) (h8 : n ≤ 8) (hp : gN u 3 ≤ 1024) (ht : 1024 < gN u 3 + n) (sz : Nat) : MetT l y_SH_input wt_SH_input rmt_SH_input (PreT (dC, dI) classes [(cI, .int)] (wC cI ad) u sz [.ref (ad 0), .long w, .int (nI n)]) thIOB := by
  refine MetT.ofW (cc := b_SH_input) (maxL := 5) (ret := (some .int)) (by decide) rfl ?_
  intro p e s m args below meth c s₁ B hml hout hv
  obtain ⟨⟨rfl, rfl, hP, hK, hD0⟩, hthS⟩ := hv
  have hx := B.exec
  have hb := B.bytes
  have hr := B.returns
  have hts : ∀ w9 ∈ ALLW, w9.before ([.ref (ad 0), .long w, .int (nI n)] : List Value).toArray s = true := fun w9 h => atoms_spec (ws := wt_SH_input) B.pre w9 (List.mem_cons_of_mem _ (List.mem_append_left _ h))
  have hthx : ∀ w9 ∈ THX, w9.before ([.ref (ad 0), .long w, .int (nI n)] : List Value).toArray s = true := fun w9 h => atoms_spec (ws := wt_SH_input) B.pre w9 (List.mem_cons_of_mem _ (List.mem_append_right _ h))
  have htr : e.platform.stackTraces = false := Launch.traces_off hfl B.admits
  have hown : s.vm.findClass R_SH = some m.cls := findClass_of_methodNamed B.named
  have hlocks := B.notSynchronized
  have hD := hD0.self (sz := s.heap.size)
  generalize hAe : va_A (wC cI ad u) s.heap.size = A at hD
  have hA : ∀ q : Nat, s.heap.size ≤ q → A q := fun q h => by rw [← hAe]; exact Or.inr h
  have hS : va_S A s.heap s.heap [] := va_S.rf
  have hl := lv_entry ([.ref (ad 0), .long w, .int (nI n)]) (n := 5) (Nat.le_of_ble_eq_true rfl)
  rw [lg_entry_eq]
  generalize (lg_sl ([.ref (ad 0), .long w, .int (nI n)]) ++ List.replicate (5 - (lg_sl ([.ref (ad 0), .long w, .int (nI n)])).length) Slot.unset).toArray = ls at hl ⊢
  have hl : lv_has ls 5 [(0, .ref (ad 0)), (1, .long w), (3, .int (nI n))] := hl
  skip
  refine lv_iload_n hx hb d_SH_input_0 rfl (lv_at hl 2 rfl) ?_
  refine lv_iconst (v := nI 1) hx hb d_SH_input_1 (by decide) ?_
  refine rn_lt (tgt := 11) hx hb (by omega) (by omega) d_SH_input_2 (by decide) (fun c1 => ?_) (fun c1 => ?_)
  · skip
    exact absurd c1 (by omega)
  · skip
    refine lv_iload_n hx hb d_SH_input_5 rfl (lv_at hl 2 rfl) ?_
    refine lv_bipush (v := nI 8) hx hb d_SH_input_6 (by decide) ?_
    refine rn_le (tgt := 19) hx hb (by omega) (by omega) d_SH_input_8 (by decide) (fun c2 => ?_) (fun c2 => ?_)
    · skip
      refine lv_aload_n hx hb d_SH_input_19 rfl (lv_at hl 0 rfl) ?_
      refine va_get (D := (dC, dI)) (ci := 0) (v := .ref (ad 1)) (C := R_SH) (T := F_SH) (N := 1) hx hb hts in_SH hown hK hP 0 rfl rfl 0 (by decide) (hts _ m_4_38) (fun _ h9 => h9) rfl d_SH_input_20 ?_
      refine va_get (D := (dC, dI)) (ci := 1) (v := .ref (ad 5)) (C := R_Ma) (T := F_Ma) (N := 10) hx hb hts in_Ma hown hK hP 1 rfl rfl 3 (by decide) (hts _ m_4_17) (fun _ h9 => h9) rfl d_SH_input_23 ?_
      refine va_get (D := (dC, dI)) (ci := 5) (v := .ref (ad 7)) (C := R_Ho) (T := F_Ho) (N := 2) hx hb hts in_Ho hown hK hP 5 rfl rfl 1 (by decide) (hts _ m_4_7) (fun _ h9 => h9) rfl d_SH_input_26 ?_
      refine lv_astore (lv' := [(4, .ref (ad 7)), (0, .ref (ad 0)), (1, .long w), (3, .int (nI n))]) hx hb d_SH_input_29 hl (by decide) rfl (fun ls hl => ?_)
      refine lv_iload_n hx hb d_SH_input_31 rfl (lv_at hl 3 rfl) ?_
      refine lv_sipush (v := nI 1024) hx hb d_SH_input_32 (by decide) ?_
      refine lv_aload hx hb d_SH_input_35 (lv_at hl 0 rfl) ?_
      refine va_get (D := (dC, dI)) (ci := 7) (v := .int (nI (gN u 3))) (C := R_Po) (T := F_Po) (N := 5) hx hb hts in_Po hown hK hP 7 rfl rfl 1 (by decide) (hts _ m_3_33) (fun _ h9 => h9) rfl d_SH_input_37 ?_
      refine lv_isub hx hb d_SH_input_40 ?_
      refine rw_top (y := nI (1024 - (gN u 3))) (pk_sub (by omega)) ?_
      refine rn_le (tgt := 52) hx hb (by omega) (by omega) d_SH_input_41 (by decide) (fun c3 => ?_) (fun c3 => ?_)
      · skip
        exact absurd c3 (by omega)
      · skip
        exact thr_end hx hb htr hown (by decide) (thS_iob hthx hthS) (hthx _ (by simp [THX])) (hthx _ (by simp [THX])) (hl.1.trans hml.symm) hout ⟨by decide, by decide, by decide, by decide⟩ d_SH_input_44 d_SH_input_47 d_SH_input_48 d_SH_input_51 hlocks
    · skip
      exact absurd c2 (by omega)
def wt_SH_run : List Cond := .code y_SH_run b_SH_run 3 (some .int) :: (ALLW ++ THX)
def rmt_SH_run : Room := { frames := 30, cells := 1, slots := 6, locals := 600 }
set_option maxHeartbeats 8000000 in
set_option maxRecDepth 100000 in
theorem t_SH_run_IAE (l : Launch) (hfl : l.flags = pinnedFlags ++ [noTraceFlag]) (dC : Nat → ClassId) (dI : Nat → Nat → Nat) (cI : ClassId) (ad : Nat → Nat) (u : S5) (n : Int32) (ht : n < 0 ∨ ¬ n ≤ 100000) (sz : Nat) : MetT l y_SH_run wt_SH_run rmt_SH_run (PreT (dC, dI) classes [(cI, .int)] (wC cI ad) u sz [.ref (ad 0), .int n]) thIAE := by
  refine MetT.ofW (cc := b_SH_run) (maxL := 3) (ret := (some .int)) (by decide) rfl ?_
  intro p e s m args below meth c s₁ B hml hout hv
  obtain ⟨⟨rfl, rfl, hP, hK, hD0⟩, hthS⟩ := hv
  have hx := B.exec
  have hb := B.bytes
  have hr := B.returns
  have hts : ∀ w9 ∈ ALLW, w9.before ([.ref (ad 0), .int n] : List Value).toArray s = true := fun w9 h => atoms_spec (ws := wt_SH_run) B.pre w9 (List.mem_cons_of_mem _ (List.mem_append_left _ h))
  have hthx : ∀ w9 ∈ THX, w9.before ([.ref (ad 0), .int n] : List Value).toArray s = true := fun w9 h => atoms_spec (ws := wt_SH_run) B.pre w9 (List.mem_cons_of_mem _ (List.mem_append_right _ h))
  have htr : e.platform.stackTraces = false := Launch.traces_off hfl B.admits
  have hown : s.vm.findClass R_SH = some m.cls := findClass_of_methodNamed B.named
  have hlocks := B.notSynchronized
  have hD := hD0.self (sz := s.heap.size)
  generalize hAe : va_A (wC cI ad u) s.heap.size = A at hD
  have hA : ∀ q : Nat, s.heap.size ≤ q → A q := fun q h => by rw [← hAe]; exact Or.inr h
  have hS : va_S A s.heap s.heap [] := va_S.rf
  have hl := lv_entry ([.ref (ad 0), .int n]) (n := 3) (Nat.le_of_ble_eq_true rfl)
  rw [lg_entry_eq]
  generalize (lg_sl ([.ref (ad 0), .int n]) ++ List.replicate (3 - (lg_sl ([.ref (ad 0), .int n])).length) Slot.unset).toArray = ls at hl ⊢
  have hl : lv_has ls 3 [(0, .ref (ad 0)), (1, .int n)] := hl
  skip
  refine lv_iload_n hx hb d_SH_run_0 rfl (lv_at hl 1 rfl) ?_
  refine lv_if_lt (tgt := 10) hx hb d_SH_run_1 (by decide) (fun c1 => ?_) (fun c1 => ?_)
  · skip
    exact thr_end hx hb htr hown (by decide) (thS_iae hthx hthS) (hthx _ (by simp [THX])) (hthx _ (by simp [THX])) (hl.1.trans hml.symm) hout ⟨by decide, by decide, by decide, by decide⟩ d_SH_run_10 d_SH_run_13 d_SH_run_14 d_SH_run_17 hlocks
  · skip
    refine lv_iload_n hx hb d_SH_run_4 rfl (lv_at hl 1 rfl) ?_
    refine lv_ldc (v := 100000) hx hb hown (hts _ m_6_13) d_SH_run_5 ?_
    refine lv_icmp_le (tgt := 18) hx hb d_SH_run_7 (by decide) (fun c2 => ?_) (fun c2 => ?_)
    · skip
      rcases ht with h9 | h9 <;> contradiction
    · skip
      exact thr_end hx hb htr hown (by decide) (thS_iae hthx hthS) (hthx _ (by simp [THX])) (hthx _ (by simp [THX])) (hl.1.trans hml.symm) hout ⟨by decide, by decide, by decide, by decide⟩ d_SH_run_10 d_SH_run_13 d_SH_run_14 d_SH_run_17 hlocks
def wt_SH_register : List Cond := .code y_SH_register b_SH_register 2 (some .int) :: (ALLW ++ THX)
def rmt_SH_register : Room := { frames := 30, cells := 1, slots := 6, locals := 600 }
set_option maxHeartbeats 8000000 in
set_option maxRecDepth 100000 in
theorem t_SH_register_IOB (l : Launch) (hfl : l.flags = pinnedFlags ++ [noTraceFlag]) (dC : Nat → ClassId) (dI : Nat → Nat → Nat) (cI : ClassId) (ad : Nat → Nat) (u : S5) (a : Int32) (ht : a < 0 ∨ ¬ a < 32) (sz : Nat) : MetT l y_SH_register wt_SH_register rmt_SH_register (PreT (dC, dI) classes [(cI, .int)] (wC cI ad) u sz [.ref (ad 0), .int a]) thIOB := by
  refine MetT.ofW (cc := b_SH_register) (maxL := 2) (ret := (some .int)) (by decide) rfl ?_
  intro p e s m args below meth c s₁ B hml hout hv
  obtain ⟨⟨rfl, rfl, hP, hK, hD0⟩, hthS⟩ := hv
  have hx := B.exec
  have hb := B.bytes
  have hr := B.returns
  have hts : ∀ w9 ∈ ALLW, w9.before ([.ref (ad 0), .int a] : List Value).toArray s = true := fun w9 h => atoms_spec (ws := wt_SH_register) B.pre w9 (List.mem_cons_of_mem _ (List.mem_append_left _ h))
  have hthx : ∀ w9 ∈ THX, w9.before ([.ref (ad 0), .int a] : List Value).toArray s = true := fun w9 h => atoms_spec (ws := wt_SH_register) B.pre w9 (List.mem_cons_of_mem _ (List.mem_append_right _ h))
  have htr : e.platform.stackTraces = false := Launch.traces_off hfl B.admits
  have hown : s.vm.findClass R_SH = some m.cls := findClass_of_methodNamed B.named
  have hlocks := B.notSynchronized
  have hD := hD0.self (sz := s.heap.size)
  generalize hAe : va_A (wC cI ad u) s.heap.size = A at hD
  have hA : ∀ q : Nat, s.heap.size ≤ q → A q := fun q h => by rw [← hAe]; exact Or.inr h
  have hS : va_S A s.heap s.heap [] := va_S.rf
  have hl := lv_entry ([.ref (ad 0), .int a]) (n := 2) (Nat.le_of_ble_eq_true rfl)
  rw [lg_entry_eq]
  generalize (lg_sl ([.ref (ad 0), .int a]) ++ List.replicate (2 - (lg_sl ([.ref (ad 0), .int a])).length) Slot.unset).toArray = ls at hl ⊢
  have hl : lv_has ls 2 [(0, .ref (ad 0)), (1, .int a)] := hl
  skip
  refine lv_iload_n hx hb d_SH_register_0 rfl (lv_at hl 1 rfl) ?_
  refine lv_if_lt (tgt := 10) hx hb d_SH_register_1 (by decide) (fun c1 => ?_) (fun c1 => ?_)
  · skip
    exact thr_end hx hb htr hown (by decide) (thS_iob hthx hthS) (hthx _ (by simp [THX])) (hthx _ (by simp [THX])) (hl.1.trans hml.symm) hout ⟨by decide, by decide, by decide, by decide⟩ d_SH_register_10 d_SH_register_13 d_SH_register_14 d_SH_register_17 hlocks
  · skip
    refine lv_iload_n hx hb d_SH_register_4 rfl (lv_at hl 1 rfl) ?_
    refine lv_bipush (v := 32) hx hb d_SH_register_5 (by decide) ?_
    refine lv_icmp_lt (tgt := 18) hx hb d_SH_register_7 (by decide) (fun c2 => ?_) (fun c2 => ?_)
    · skip
      rcases ht with h9 | h9 <;> contradiction
    · skip
      exact thr_end hx hb htr hown (by decide) (thS_iob hthx hthS) (hthx _ (by simp [THX])) (hthx _ (by simp [THX])) (hl.1.trans hml.symm) hout ⟨by decide, by decide, by decide, by decide⟩ d_SH_register_10 d_SH_register_13 d_SH_register_14 d_SH_register_17 hlocks
def wt_SH_unknown : List Cond := .code y_SH_unknown b_SH_unknown 2 (some .int) :: (ALLW ++ THX)
def rmt_SH_unknown : Room := { frames := 30, cells := 1, slots := 6, locals := 600 }
set_option maxHeartbeats 8000000 in
set_option maxRecDepth 100000 in
theorem t_SH_unknown_IOB (l : Launch) (hfl : l.flags = pinnedFlags ++ [noTraceFlag]) (dC : Nat → ClassId) (dI : Nat → Nat → Nat) (cI : ClassId) (ad : Nat → Nat) (u : S5) (a : Int32) (ht : a < 0 ∨ ¬ a < 32) (sz : Nat) : MetT l y_SH_unknown wt_SH_unknown rmt_SH_unknown (PreT (dC, dI) classes [(cI, .int)] (wC cI ad) u sz [.ref (ad 0), .int a]) thIOB := by
  refine MetT.ofW (cc := b_SH_unknown) (maxL := 2) (ret := (some .int)) (by decide) rfl ?_
  intro p e s m args below meth c s₁ B hml hout hv
  obtain ⟨⟨rfl, rfl, hP, hK, hD0⟩, hthS⟩ := hv
  have hx := B.exec
  have hb := B.bytes
  have hr := B.returns
  have hts : ∀ w9 ∈ ALLW, w9.before ([.ref (ad 0), .int a] : List Value).toArray s = true := fun w9 h => atoms_spec (ws := wt_SH_unknown) B.pre w9 (List.mem_cons_of_mem _ (List.mem_append_left _ h))
  have hthx : ∀ w9 ∈ THX, w9.before ([.ref (ad 0), .int a] : List Value).toArray s = true := fun w9 h => atoms_spec (ws := wt_SH_unknown) B.pre w9 (List.mem_cons_of_mem _ (List.mem_append_right _ h))
  have htr : e.platform.stackTraces = false := Launch.traces_off hfl B.admits
  have hown : s.vm.findClass R_SH = some m.cls := findClass_of_methodNamed B.named
  have hlocks := B.notSynchronized
  have hD := hD0.self (sz := s.heap.size)
  generalize hAe : va_A (wC cI ad u) s.heap.size = A at hD
  have hA : ∀ q : Nat, s.heap.size ≤ q → A q := fun q h => by rw [← hAe]; exact Or.inr h
  have hS : va_S A s.heap s.heap [] := va_S.rf
  have hl := lv_entry ([.ref (ad 0), .int a]) (n := 2) (Nat.le_of_ble_eq_true rfl)
  rw [lg_entry_eq]
  generalize (lg_sl ([.ref (ad 0), .int a]) ++ List.replicate (2 - (lg_sl ([.ref (ad 0), .int a])).length) Slot.unset).toArray = ls at hl ⊢
  have hl : lv_has ls 2 [(0, .ref (ad 0)), (1, .int a)] := hl
  skip
  refine lv_iload_n hx hb d_SH_unknown_0 rfl (lv_at hl 1 rfl) ?_
  refine lv_if_lt (tgt := 10) hx hb d_SH_unknown_1 (by decide) (fun c1 => ?_) (fun c1 => ?_)
  · skip
    exact thr_end hx hb htr hown (by decide) (thS_iob hthx hthS) (hthx _ (by simp [THX])) (hthx _ (by simp [THX])) (hl.1.trans hml.symm) hout ⟨by decide, by decide, by decide, by decide⟩ d_SH_unknown_10 d_SH_unknown_13 d_SH_unknown_14 d_SH_unknown_17 hlocks
  · skip
    refine lv_iload_n hx hb d_SH_unknown_4 rfl (lv_at hl 1 rfl) ?_
    refine lv_bipush (v := 32) hx hb d_SH_unknown_5 (by decide) ?_
    refine lv_icmp_lt (tgt := 18) hx hb d_SH_unknown_7 (by decide) (fun c2 => ?_) (fun c2 => ?_)
    · skip
      rcases ht with h9 | h9 <;> contradiction
    · skip
      exact thr_end hx hb htr hown (by decide) (thS_iob hthx hthS) (hthx _ (by simp [THX])) (hthx _ (by simp [THX])) (hl.1.trans hml.symm) hout ⟨by decide, by decide, by decide, by decide⟩ d_SH_unknown_10 d_SH_unknown_13 d_SH_unknown_14 d_SH_unknown_17 hlocks
def wt_SH_memory : List Cond := .code y_SH_memory b_SH_memory 2 (some .int) :: (ALLW ++ THX)
def rmt_SH_memory : Room := { frames := 30, cells := 1, slots := 6, locals := 600 }
set_option maxHeartbeats 8000000 in
set_option maxRecDepth 100000 in
theorem t_SH_memory_IOB (l : Launch) (hfl : l.flags = pinnedFlags ++ [noTraceFlag]) (dC : Nat → ClassId) (dI : Nat → Nat → Nat) (cI : ClassId) (ad : Nat → Nat) (u : S5) (a : Int32) (ht : a < 0 ∨ ¬ a < 65536) (sz : Nat) : MetT l y_SH_memory wt_SH_memory rmt_SH_memory (PreT (dC, dI) classes [(cI, .int)] (wC cI ad) u sz [.ref (ad 0), .int a]) thIOB := by
  refine MetT.ofW (cc := b_SH_memory) (maxL := 2) (ret := (some .int)) (by decide) rfl ?_
  intro p e s m args below meth c s₁ B hml hout hv
  obtain ⟨⟨rfl, rfl, hP, hK, hD0⟩, hthS⟩ := hv
  have hx := B.exec
  have hb := B.bytes
  have hr := B.returns
  have hts : ∀ w9 ∈ ALLW, w9.before ([.ref (ad 0), .int a] : List Value).toArray s = true := fun w9 h => atoms_spec (ws := wt_SH_memory) B.pre w9 (List.mem_cons_of_mem _ (List.mem_append_left _ h))
  have hthx : ∀ w9 ∈ THX, w9.before ([.ref (ad 0), .int a] : List Value).toArray s = true := fun w9 h => atoms_spec (ws := wt_SH_memory) B.pre w9 (List.mem_cons_of_mem _ (List.mem_append_right _ h))
  have htr : e.platform.stackTraces = false := Launch.traces_off hfl B.admits
  have hown : s.vm.findClass R_SH = some m.cls := findClass_of_methodNamed B.named
  have hlocks := B.notSynchronized
  have hD := hD0.self (sz := s.heap.size)
  generalize hAe : va_A (wC cI ad u) s.heap.size = A at hD
  have hA : ∀ q : Nat, s.heap.size ≤ q → A q := fun q h => by rw [← hAe]; exact Or.inr h
  have hS : va_S A s.heap s.heap [] := va_S.rf
  have hl := lv_entry ([.ref (ad 0), .int a]) (n := 2) (Nat.le_of_ble_eq_true rfl)
  rw [lg_entry_eq]
  generalize (lg_sl ([.ref (ad 0), .int a]) ++ List.replicate (2 - (lg_sl ([.ref (ad 0), .int a])).length) Slot.unset).toArray = ls at hl ⊢
  have hl : lv_has ls 2 [(0, .ref (ad 0)), (1, .int a)] := hl
  skip
  refine lv_iload_n hx hb d_SH_memory_0 rfl (lv_at hl 1 rfl) ?_
  refine lv_if_lt (tgt := 10) hx hb d_SH_memory_1 (by decide) (fun c1 => ?_) (fun c1 => ?_)
  · skip
    exact thr_end hx hb htr hown (by decide) (thS_iob hthx hthS) (hthx _ (by simp [THX])) (hthx _ (by simp [THX])) (hl.1.trans hml.symm) hout ⟨by decide, by decide, by decide, by decide⟩ d_SH_memory_10 d_SH_memory_13 d_SH_memory_14 d_SH_memory_17 hlocks
  · skip
    refine lv_iload_n hx hb d_SH_memory_4 rfl (lv_at hl 1 rfl) ?_
    refine lv_ldc (v := 65536) hx hb hown (hts _ m_12_38) d_SH_memory_5 ?_
    refine lv_icmp_lt (tgt := 18) hx hb d_SH_memory_7 (by decide) (fun c2 => ?_) (fun c2 => ?_)
    · skip
      rcases ht with h9 | h9 <;> contradiction
    · skip
      exact thr_end hx hb htr hown (by decide) (thS_iob hthx hthS) (hthx _ (by simp [THX])) (hthx _ (by simp [THX])) (hl.1.trans hml.symm) hout ⟨by decide, by decide, by decide, by decide⟩ d_SH_memory_10 d_SH_memory_13 d_SH_memory_14 d_SH_memory_17 hlocks
def wt_SH_error : List Cond := .code y_SH_error b_SH_error 3 (some .int) :: (ALLW ++ THX)
def rmt_SH_error : Room := { frames := 30, cells := 1, slots := 6, locals := 600 }
set_option maxHeartbeats 8000000 in
set_option maxRecDepth 100000 in
theorem t_SH_error_IAE (l : Launch) (hfl : l.flags = pinnedFlags ++ [noTraceFlag]) (dC : Nat → ClassId) (dI : Nat → Nat → Nat) (cI : ClassId) (ad : Nat → Nat) (u : S5) (a : Int32) (q : Int32) (ht : q < 0 ∨ ¬ q < 7) (sz : Nat) : MetT l y_SH_error wt_SH_error rmt_SH_error (PreT (dC, dI) classes [(cI, .int)] (wC cI ad) u sz [.ref (ad 0), .int a, .int q]) thIAE := by
  refine MetT.ofW (cc := b_SH_error) (maxL := 3) (ret := (some .int)) (by decide) rfl ?_
  intro p e s m args below meth c s₁ B hml hout hv
  obtain ⟨⟨rfl, rfl, hP, hK, hD0⟩, hthS⟩ := hv
  have hx := B.exec
  have hb := B.bytes
  have hr := B.returns
  have hts : ∀ w9 ∈ ALLW, w9.before ([.ref (ad 0), .int a, .int q] : List Value).toArray s = true := fun w9 h => atoms_spec (ws := wt_SH_error) B.pre w9 (List.mem_cons_of_mem _ (List.mem_append_left _ h))
  have hthx : ∀ w9 ∈ THX, w9.before ([.ref (ad 0), .int a, .int q] : List Value).toArray s = true := fun w9 h => atoms_spec (ws := wt_SH_error) B.pre w9 (List.mem_cons_of_mem _ (List.mem_append_right _ h))
  have htr : e.platform.stackTraces = false := Launch.traces_off hfl B.admits
  have hown : s.vm.findClass R_SH = some m.cls := findClass_of_methodNamed B.named
  have hlocks := B.notSynchronized
  have hD := hD0.self (sz := s.heap.size)
  generalize hAe : va_A (wC cI ad u) s.heap.size = A at hD
  have hA : ∀ q : Nat, s.heap.size ≤ q → A q := fun q h => by rw [← hAe]; exact Or.inr h
  have hS : va_S A s.heap s.heap [] := va_S.rf
  have hl := lv_entry ([.ref (ad 0), .int a, .int q]) (n := 3) (Nat.le_of_ble_eq_true rfl)
  rw [lg_entry_eq]
  generalize (lg_sl ([.ref (ad 0), .int a, .int q]) ++ List.replicate (3 - (lg_sl ([.ref (ad 0), .int a, .int q])).length) Slot.unset).toArray = ls at hl ⊢
  have hl : lv_has ls 3 [(0, .ref (ad 0)), (1, .int a), (2, .int q)] := hl
  skip
  refine lv_iload_n hx hb d_SH_error_0 rfl (lv_at hl 2 rfl) ?_
  refine lv_if_lt (tgt := 10) hx hb d_SH_error_1 (by decide) (fun c1 => ?_) (fun c1 => ?_)
  · skip
    exact thr_end hx hb htr hown (by decide) (thS_iae hthx hthS) (hthx _ (by simp [THX])) (hthx _ (by simp [THX])) (hl.1.trans hml.symm) hout ⟨by decide, by decide, by decide, by decide⟩ d_SH_error_10 d_SH_error_13 d_SH_error_14 d_SH_error_17 hlocks
  · skip
    refine lv_iload_n hx hb d_SH_error_4 rfl (lv_at hl 2 rfl) ?_
    refine lv_bipush (v := 7) hx hb d_SH_error_5 (by decide) ?_
    refine lv_icmp_lt (tgt := 18) hx hb d_SH_error_7 (by decide) (fun c2 => ?_) (fun c2 => ?_)
    · skip
      rcases ht with h9 | h9 <;> contradiction
    · skip
      exact thr_end hx hb htr hown (by decide) (thS_iae hthx hthS) (hthx _ (by simp [THX])) (hthx _ (by simp [THX])) (hl.1.trans hml.symm) hout ⟨by decide, by decide, by decide, by decide⟩ d_SH_error_10 d_SH_error_13 d_SH_error_14 d_SH_error_17 hlocks
set_option maxHeartbeats 8000000 in
set_option maxRecDepth 100000 in
theorem t_SH_error_IOB (l : Launch) (hfl : l.flags = pinnedFlags ++ [noTraceFlag]) (dC : Nat → ClassId) (dI : Nat → Nat → Nat) (cI : ClassId) (ad : Nat → Nat) (u : S5) (a : Int32) (q : Nat) (hq7 : q < 7) (ht : a < 0 ∨ ¬ a < nI (gN u 0)) (sz : Nat) : MetT l y_SH_error wt_SH_error rmt_SH_error (PreT (dC, dI) classes [(cI, .int)] (wC cI ad) u sz [.ref (ad 0), .int a, .int (nI q)]) thIOB := by
  refine MetT.ofW (cc := b_SH_error) (maxL := 3) (ret := (some .int)) (by decide) rfl ?_
  intro p e s m args below meth c s₁ B hml hout hv
  obtain ⟨⟨rfl, rfl, hP, hK, hD0⟩, hthS⟩ := hv
  have hx := B.exec
  have hb := B.bytes
  have hr := B.returns
  have hts : ∀ w9 ∈ ALLW, w9.before ([.ref (ad 0), .int a, .int (nI q)] : List Value).toArray s = true := fun w9 h => atoms_spec (ws := wt_SH_error) B.pre w9 (List.mem_cons_of_mem _ (List.mem_append_left _ h))
  have hthx : ∀ w9 ∈ THX, w9.before ([.ref (ad 0), .int a, .int (nI q)] : List Value).toArray s = true := fun w9 h => atoms_spec (ws := wt_SH_error) B.pre w9 (List.mem_cons_of_mem _ (List.mem_append_right _ h))
  have htr : e.platform.stackTraces = false := Launch.traces_off hfl B.admits
  have hown : s.vm.findClass R_SH = some m.cls := findClass_of_methodNamed B.named
  have hlocks := B.notSynchronized
  have hD := hD0.self (sz := s.heap.size)
  generalize hAe : va_A (wC cI ad u) s.heap.size = A at hD
  have hA : ∀ q : Nat, s.heap.size ≤ q → A q := fun q h => by rw [← hAe]; exact Or.inr h
  have hS : va_S A s.heap s.heap [] := va_S.rf
  have hl := lv_entry ([.ref (ad 0), .int a, .int (nI q)]) (n := 3) (Nat.le_of_ble_eq_true rfl)
  rw [lg_entry_eq]
  generalize (lg_sl ([.ref (ad 0), .int a, .int (nI q)]) ++ List.replicate (3 - (lg_sl ([.ref (ad 0), .int a, .int (nI q)])).length) Slot.unset).toArray = ls at hl ⊢
  have hl : lv_has ls 3 [(0, .ref (ad 0)), (1, .int a), (2, .int (nI q))] := hl
  skip
  refine lv_iload_n hx hb d_SH_error_0 rfl (lv_at hl 2 rfl) ?_
  refine rz_lt (tgt := 10) hx hb (by omega) d_SH_error_1 (by decide) ?_
  refine lv_iload_n hx hb d_SH_error_4 rfl (lv_at hl 2 rfl) ?_
  refine lv_bipush (v := nI 7) hx hb d_SH_error_5 (by decide) ?_
  refine rn_lt (tgt := 18) hx hb (by omega) (by omega) d_SH_error_7 (by decide) (fun c1 => ?_) (fun c1 => ?_)
  · skip
    refine lv_iload_n hx hb d_SH_error_18 rfl (lv_at hl 1 rfl) ?_
    refine lv_if_lt (tgt := 36) hx hb d_SH_error_19 (by decide) (fun c2 => ?_) (fun c2 => ?_)
    · skip
      exact thr_end hx hb htr hown (by decide) (thS_iob hthx hthS) (hthx _ (by simp [THX])) (hthx _ (by simp [THX])) (hl.1.trans hml.symm) hout ⟨by decide, by decide, by decide, by decide⟩ d_SH_error_36 d_SH_error_39 d_SH_error_40 d_SH_error_43 hlocks
    · skip
      refine lv_iload_n hx hb d_SH_error_22 rfl (lv_at hl 1 rfl) ?_
      refine lv_aload_n hx hb d_SH_error_23 rfl (lv_at hl 0 rfl) ?_
      refine va_get (D := (dC, dI)) (ci := 0) (v := .ref (ad 1)) (C := R_SH) (T := F_SH) (N := 1) hx hb hts in_SH hown hK hP 0 rfl rfl 0 (by decide) (hts _ m_4_38) (fun _ h9 => h9) rfl d_SH_error_24 ?_
      refine va_get (D := (dC, dI)) (ci := 1) (v := .ref (ad 4)) (C := R_Ma) (T := F_Ma) (N := 10) hx hb hts in_Ma hown hK hP 1 rfl rfl 2 (by decide) (hts _ m_4_15) (fun _ h9 => h9) rfl d_SH_error_27 ?_
      refine va_get (D := (dC, dI)) (ci := 4) (v := .int (nI (gN u 0))) (C := R_Rp) (T := F_Rp) (N := 6) hx hb hts in_Rp hown hK hP 4 rfl rfl 1 (by decide) (hts _ m_2_13) (fun _ h9 => h9) rfl d_SH_error_30 ?_
      refine lv_icmp_lt (tgt := 44) hx hb d_SH_error_33 (by decide) (fun c3 => ?_) (fun c3 => ?_)
      · skip
        rcases ht with h9 | h9 <;> contradiction
      · skip
        exact thr_end hx hb htr hown (by decide) (thS_iob hthx hthS) (hthx _ (by simp [THX])) (hthx _ (by simp [THX])) (hl.1.trans hml.symm) hout ⟨by decide, by decide, by decide, by decide⟩ d_SH_error_36 d_SH_error_39 d_SH_error_40 d_SH_error_43 hlocks
  · skip
    exact absurd c1 (by omega)
def wt_SH_output : List Cond := .code y_SH_output b_SH_output 3 (some .int) :: (ALLW ++ THX)
def rmt_SH_output : Room := { frames := 30, cells := 1, slots := 6, locals := 600 }
set_option maxHeartbeats 8000000 in
set_option maxRecDepth 100000 in
theorem t_SH_output_IOB (l : Launch) (hfl : l.flags = pinnedFlags ++ [noTraceFlag]) (dC : Nat → ClassId) (dI : Nat → Nat → Nat) (cI : ClassId) (ad : Nat → Nat) (u : S5) (a : Int32) (ht : a < 0 ∨ ¬ a < nI (gN u 5)) (sz : Nat) : MetT l y_SH_output wt_SH_output rmt_SH_output (PreT (dC, dI) classes [(cI, .int)] (wC cI ad) u sz [.ref (ad 0), .int a]) thIOB := by
  refine MetT.ofW (cc := b_SH_output) (maxL := 3) (ret := (some .int)) (by decide) rfl ?_
  intro p e s m args below meth c s₁ B hml hout hv
  obtain ⟨⟨rfl, rfl, hP, hK, hD0⟩, hthS⟩ := hv
  have hx := B.exec
  have hb := B.bytes
  have hr := B.returns
  have hts : ∀ w9 ∈ ALLW, w9.before ([.ref (ad 0), .int a] : List Value).toArray s = true := fun w9 h => atoms_spec (ws := wt_SH_output) B.pre w9 (List.mem_cons_of_mem _ (List.mem_append_left _ h))
  have hthx : ∀ w9 ∈ THX, w9.before ([.ref (ad 0), .int a] : List Value).toArray s = true := fun w9 h => atoms_spec (ws := wt_SH_output) B.pre w9 (List.mem_cons_of_mem _ (List.mem_append_right _ h))
  have htr : e.platform.stackTraces = false := Launch.traces_off hfl B.admits
  have hown : s.vm.findClass R_SH = some m.cls := findClass_of_methodNamed B.named
  have hlocks := B.notSynchronized
  have hD := hD0.self (sz := s.heap.size)
  generalize hAe : va_A (wC cI ad u) s.heap.size = A at hD
  have hA : ∀ q : Nat, s.heap.size ≤ q → A q := fun q h => by rw [← hAe]; exact Or.inr h
  have hS : va_S A s.heap s.heap [] := va_S.rf
  have hl := lv_entry ([.ref (ad 0), .int a]) (n := 3) (Nat.le_of_ble_eq_true rfl)
  rw [lg_entry_eq]
  generalize (lg_sl ([.ref (ad 0), .int a]) ++ List.replicate (3 - (lg_sl ([.ref (ad 0), .int a])).length) Slot.unset).toArray = ls at hl ⊢
  have hl : lv_has ls 3 [(0, .ref (ad 0)), (1, .int a)] := hl
  skip
  refine lv_aload_n hx hb d_SH_output_0 rfl (lv_at hl 0 rfl) ?_
  refine va_get (D := (dC, dI)) (ci := 0) (v := .ref (ad 1)) (C := R_SH) (T := F_SH) (N := 1) hx hb hts in_SH hown hK hP 0 rfl rfl 0 (by decide) (hts _ m_4_38) (fun _ h9 => h9) rfl d_SH_output_1 ?_
  refine va_get (D := (dC, dI)) (ci := 1) (v := .ref (ad 5)) (C := R_Ma) (T := F_Ma) (N := 10) hx hb hts in_Ma hown hK hP 1 rfl rfl 3 (by decide) (hts _ m_4_17) (fun _ h9 => h9) rfl d_SH_output_4 ?_
  refine va_get (D := (dC, dI)) (ci := 5) (v := .ref (ad 7)) (C := R_Ho) (T := F_Ho) (N := 2) hx hb hts in_Ho hown hK hP 5 rfl rfl 1 (by decide) (hts _ m_4_7) (fun _ h9 => h9) rfl d_SH_output_7 ?_
  refine lv_astore_n (lv' := [(2, .ref (ad 7)), (0, .ref (ad 0)), (1, .int a)]) hx hb d_SH_output_10 rfl hl (by decide) rfl (fun ls hl => ?_)
  refine lv_iload_n hx hb d_SH_output_11 rfl (lv_at hl 2 rfl) ?_
  refine lv_if_lt (tgt := 23) hx hb d_SH_output_12 (by decide) (fun c1 => ?_) (fun c1 => ?_)
  · skip
    exact thr_end hx hb htr hown (by decide) (thS_iob hthx hthS) (hthx _ (by simp [THX])) (hthx _ (by simp [THX])) (hl.1.trans hml.symm) hout ⟨by decide, by decide, by decide, by decide⟩ d_SH_output_23 d_SH_output_26 d_SH_output_27 d_SH_output_30 hlocks
  · skip
    refine lv_iload_n hx hb d_SH_output_15 rfl (lv_at hl 2 rfl) ?_
    refine lv_aload_n hx hb d_SH_output_16 rfl (lv_at hl 0 rfl) ?_
    refine va_get (D := (dC, dI)) (ci := 7) (v := .int (nI (gN u 5))) (C := R_Po) (T := F_Po) (N := 5) hx hb hts in_Po hown hK hP 7 rfl rfl 4 (by decide) (hts _ m_3_38) (fun _ h9 => h9) rfl d_SH_output_17 ?_
    refine lv_icmp_lt (tgt := 31) hx hb d_SH_output_20 (by decide) (fun c2 => ?_) (fun c2 => ?_)
    · skip
      rcases ht with h9 | h9 <;> contradiction
    · skip
      exact thr_end hx hb htr hown (by decide) (thS_iob hthx hthS) (hthx _ (by simp [THX])) (hthx _ (by simp [THX])) (hl.1.trans hml.symm) hout ⟨by decide, by decide, by decide, by decide⟩ d_SH_output_23 d_SH_output_26 d_SH_output_27 d_SH_output_30 hlocks
def wt_SH_count : List Cond := .code y_SH_count b_SH_count 3 (some .int) :: (ALLW ++ THX)
def rmt_SH_count : Room := { frames := 30, cells := 1, slots := 6, locals := 600 }
set_option maxHeartbeats 8000000 in
set_option maxRecDepth 100000 in
theorem t_SH_count_IAE (l : Launch) (hfl : l.flags = pinnedFlags ++ [noTraceFlag]) (dC : Nat → ClassId) (dI : Nat → Nat → Nat) (cI : ClassId) (ad : Nat → Nat) (u : S5) (q : Int32) (ht : q.toInt < 0 ∨ 10 < q.toInt) (sz : Nat) : MetT l y_SH_count wt_SH_count rmt_SH_count (PreT (dC, dI) classes [(cI, .int)] (wC cI ad) u sz [.ref (ad 0), .int q]) thIAE := by
  refine MetT.ofW (cc := b_SH_count) (maxL := 3) (ret := (some .int)) (by decide) rfl ?_
  intro p e s m args below meth c s₁ B hml hout hv
  obtain ⟨⟨rfl, rfl, hP, hK, hD0⟩, hthS⟩ := hv
  have hx := B.exec
  have hb := B.bytes
  have hr := B.returns
  have hts : ∀ w9 ∈ ALLW, w9.before ([.ref (ad 0), .int q] : List Value).toArray s = true := fun w9 h => atoms_spec (ws := wt_SH_count) B.pre w9 (List.mem_cons_of_mem _ (List.mem_append_left _ h))
  have hthx : ∀ w9 ∈ THX, w9.before ([.ref (ad 0), .int q] : List Value).toArray s = true := fun w9 h => atoms_spec (ws := wt_SH_count) B.pre w9 (List.mem_cons_of_mem _ (List.mem_append_right _ h))
  have htr : e.platform.stackTraces = false := Launch.traces_off hfl B.admits
  have hown : s.vm.findClass R_SH = some m.cls := findClass_of_methodNamed B.named
  have hlocks := B.notSynchronized
  have hD := hD0.self (sz := s.heap.size)
  generalize hAe : va_A (wC cI ad u) s.heap.size = A at hD
  have hA : ∀ q : Nat, s.heap.size ≤ q → A q := fun q h => by rw [← hAe]; exact Or.inr h
  have hS : va_S A s.heap s.heap [] := va_S.rf
  have hl := lv_entry ([.ref (ad 0), .int q]) (n := 3) (Nat.le_of_ble_eq_true rfl)
  rw [lg_entry_eq]
  generalize (lg_sl ([.ref (ad 0), .int q]) ++ List.replicate (3 - (lg_sl ([.ref (ad 0), .int q])).length) Slot.unset).toArray = ls at hl ⊢
  have hl : lv_has ls 3 [(0, .ref (ad 0)), (1, .int q)] := hl
  skip
  refine lv_aload_n hx hb d_SH_count_0 rfl (lv_at hl 0 rfl) ?_
  refine va_get (D := (dC, dI)) (ci := 0) (v := .ref (ad 1)) (C := R_SH) (T := F_SH) (N := 1) hx hb hts in_SH hown hK hP 0 rfl rfl 0 (by decide) (hts _ m_4_38) (fun _ h9 => h9) rfl d_SH_count_1 ?_
  refine va_get (D := (dC, dI)) (ci := 1) (v := .ref (ad 5)) (C := R_Ma) (T := F_Ma) (N := 10) hx hb hts in_Ma hown hK hP 1 rfl rfl 3 (by decide) (hts _ m_4_17) (fun _ h9 => h9) rfl d_SH_count_4 ?_
  refine lv_astore_n (lv' := [(2, .ref (ad 5)), (0, .ref (ad 0)), (1, .int q)]) hx hb d_SH_count_7 rfl hl (by decide) rfl (fun ls hl => ?_)
  refine lv_iload_n hx hb d_SH_count_8 rfl (lv_at hl 2 rfl) ?_
  by_cases c1 : q = 0
  · skip
    refine lv_tableIn (off := 59) (tgt := 68) hx hb d_SH_count_9 (by rw [c1]; decide) (by rw [c1]; decide) (by rw [c1]; decide) (by decide) ?_
    rw [c1] at ht; exact absurd ht (by decide)
  by_cases c2 : q = 1
  · skip
    refine lv_tableIn (off := 67) (tgt := 76) hx hb d_SH_count_9 (by rw [c2]; decide) (by rw [c2]; decide) (by rw [c2]; decide) (by decide) ?_
    rw [c2] at ht; exact absurd ht (by decide)
  by_cases c3 : q = 2
  · skip
    refine lv_tableIn (off := 75) (tgt := 84) hx hb d_SH_count_9 (by rw [c3]; decide) (by rw [c3]; decide) (by rw [c3]; decide) (by decide) ?_
    rw [c3] at ht; exact absurd ht (by decide)
  by_cases c4 : q = 3
  · skip
    refine lv_tableIn (off := 83) (tgt := 92) hx hb d_SH_count_9 (by rw [c4]; decide) (by rw [c4]; decide) (by rw [c4]; decide) (by decide) ?_
    rw [c4] at ht; exact absurd ht (by decide)
  by_cases c5 : q = 4
  · skip
    refine lv_tableIn (off := 91) (tgt := 100) hx hb d_SH_count_9 (by rw [c5]; decide) (by rw [c5]; decide) (by rw [c5]; decide) (by decide) ?_
    rw [c5] at ht; exact absurd ht (by decide)
  by_cases c6 : q = 5
  · skip
    refine lv_tableIn (off := 102) (tgt := 111) hx hb d_SH_count_9 (by rw [c6]; decide) (by rw [c6]; decide) (by rw [c6]; decide) (by decide) ?_
    rw [c6] at ht; exact absurd ht (by decide)
  by_cases c7 : q = 6
  · skip
    refine lv_tableIn (off := 113) (tgt := 122) hx hb d_SH_count_9 (by rw [c7]; decide) (by rw [c7]; decide) (by rw [c7]; decide) (by decide) ?_
    rw [c7] at ht; exact absurd ht (by decide)
  by_cases c8 : q = 7
  · skip
    refine lv_tableIn (off := 121) (tgt := 130) hx hb d_SH_count_9 (by rw [c8]; decide) (by rw [c8]; decide) (by rw [c8]; decide) (by decide) ?_
    rw [c8] at ht; exact absurd ht (by decide)
  by_cases c9 : q = 8
  · skip
    refine lv_tableIn (off := 129) (tgt := 138) hx hb d_SH_count_9 (by rw [c9]; decide) (by rw [c9]; decide) (by rw [c9]; decide) (by decide) ?_
    rw [c9] at ht; exact absurd ht (by decide)
  by_cases c10 : q = 9
  · skip
    refine lv_tableIn (off := 137) (tgt := 146) hx hb d_SH_count_9 (by rw [c10]; decide) (by rw [c10]; decide) (by rw [c10]; decide) (by decide) ?_
    rw [c10] at ht; exact absurd ht (by decide)
  by_cases c11 : q = 10
  · skip
    refine lv_tableIn (off := 145) (tgt := 154) hx hb d_SH_count_9 (by rw [c11]; decide) (by rw [c11]; decide) (by rw [c11]; decide) (by decide) ?_
    rw [c11] at ht; exact absurd ht (by decide)
  have nc1 := lv_neT c1 (a := 0) (by decide)
  have nc2 := lv_neT c2 (a := 1) (by decide)
  have nc3 := lv_neT c3 (a := 2) (by decide)
  have nc4 := lv_neT c4 (a := 3) (by decide)
  have nc5 := lv_neT c5 (a := 4) (by decide)
  have nc6 := lv_neT c6 (a := 5) (by decide)
  have nc7 := lv_neT c7 (a := 6) (by decide)
  have nc8 := lv_neT c8 (a := 7) (by decide)
  have nc9 := lv_neT c9 (a := 8) (by decide)
  have nc10 := lv_neT c10 (a := 9) (by decide)
  have nc11 := lv_neT c11 (a := 10) (by decide)
  refine lv_tableOut (tgt := 165) hx hb d_SH_count_9 (by omega) (by decide) ?_
  exact thr_end hx hb htr hown (by decide) (thS_iae hthx hthS) (hthx _ (by simp [THX])) (hthx _ (by simp [THX])) (hl.1.trans hml.symm) hout ⟨by decide, by decide, by decide, by decide⟩ d_SH_count_165 d_SH_count_168 d_SH_count_169 d_SH_count_172 hlocks
