-- ===== the law's helpers
abbrev ZL : Type := S5 × (Nat → Int64)
def wX (cI cJ : ClassId) (ad : Nat → Nat) (o : Nat) (z : ZL) : va_W := wC cI ad z.1 ++ [(o, .inl (cJ, 1, .inr (.inl z.2)))]
def THY : List Cond := THX ++ [.classLink R_La 13 thIAE, .classLink R_La 19 thIOB, .castable thIAE thIAE, .castable thIOB thIOB]
theorem thy_good : THY.all goodF = true := by decide +kernel
/-- the one is no other -/
def thN (U : State) : Prop := ∀ a : Array Value, (Cond.not (.castable thIOB thIAE)).before a U = true
theorem thN.calling {U : State} {g : JFrame} {mk : MethodId} {a : Array Value} (h : thN U) : thN (U.calling g mk a) := fun b => h b
def PreX (D : va_G) (cl : List vw_C) (tys : List (ClassId × FieldType)) (Wd : ZL → va_W) (z : ZL) (sz : Nat) (As : List Value) : Array Value → State → Prop := fun a U => va_Pc As (fun U => U.heap.size = sz ∧ va_P D cl (Wd z) U.heap ∧ va_K D cl tys U ∧ va_D (fun _ => True) (Wd z)) a U ∧ thS U ∧ thN U
theorem preX_blind {D : va_G} {cl : List vw_C} {tys : List (ClassId × FieldType)} {Wd : ZL → va_W} {z : ZL} {sz : Nat} {As : List Value} : FrameBlind (PreX D cl tys Wd z sz As) := fun a U g mk q => by
  obtain ⟨⟨q0, q1, qP, qK, qD⟩, q2, q3⟩ := q
  exact ⟨⟨q0, q1, qP, va_K.moved (u := U) (U := U.calling g mk a) (Vm.Alike.refl U.vm) qK, qD⟩, q2.calling, q3.calling⟩
theorem thy_at {args : Array Value} {s : State} (hts : ∀ w ∈ ALLW, w.before args s = true) (hthy : ∀ w ∈ THY, w.before args s = true) {cd : Cond} (hcd : cd ∈ ALLW) : ∀ w ∈ cd :: (ALLW ++ THX), ∀ (a' : Array Value) (U : State), s.WarmedH U.vm → w.before a' U = true := by
  have hA : ∀ w ∈ ALLW, ∀ (a' : Array Value) (U : State), s.WarmedH U.vm → w.before a' U = true := fun w hw a' U hW => word_at hW (all_good w hw) (hts w hw)
  intro w hw a' U hW
  rcases List.mem_cons.mp hw with e | hw
  · rw [e]; exact hA _ hcd a' U hW
  · rcases List.mem_append.mp hw with hw | hw
    · exact hA w hw a' U hW
    · have h1 : w ∈ THY := List.mem_append_left _ hw
      exact goodF_at hW (List.all_eq_true.mp thy_good w h1) (hthy w h1)
/-- the words of the heap, wherever a state stands on the same -/
theorem thS_moved {s U : State} (hvm : s.vm.Alike U.vm) (hq : ∀ q : Nat, q < s.heap.size → U.heap[q]? = s.heap[q]?) (h : thS s) : thS U := by
  have l1 : ∀ (C n d : String), (Cond.laysStatic C n d).before #[] s = true → ∀ a : Array Value, (Cond.laysStatic C n d).before a U = true := by
    intro C n d h1 a
    have h2 : (Cond.laysStatic C n d).before #[] (s.setVm U.vm) = true := Cond.laysStatic_setVm hvm h1
    obtain ⟨c, k, i, f, q, cell, g1, g2, g3, g4, g5, g6, g7, g8, g9⟩ := Cond.laysStatic_spec h2
    have g5' : s.heap[q]? = some cell := g5
    have g5U : U.heap[q]? = some cell := by rw [hq q (Array.getElem?_eq_some_iff.mp g5').1]; exact g5'
    have g1U : U.vm.findClass C = some c := g1
    have g2U : U.fieldFound? C n d = some (c, k, i, f) := g2
    simp [Cond.before, Cond.holds, Cond.value, g1U, g2U, g3, g4, g5U, g6, g7, g8, g9]
  have l2 : ∀ (C n d : String), (Cond.laysStatic C n d).before #[] s = true → (Cond.isRef (.static C n d)).before #[] s = true → ∀ a : Array Value, (Cond.isRef (.static C n d)).before a U = true := by
    intro C n d h1 h3 a
    obtain ⟨c, k, i, f, q, cell, g1, g2, g3, g4, g5, g6, g7, g8, g9⟩ := Cond.laysStatic_spec h1
    obtain ⟨k', hi', he⟩ := State.fieldFound?_setVm hvm g2
    have hi2 : U.fieldFound? C n d = some (c, k', i, f) := hi'
    have g5' : s.heap[q]? = some cell := g5
    have g5U : U.heap[q]? = some cell := by rw [hq q (Array.getElem?_eq_some_iff.mp g5').1]; exact g5'
    have g4' : k'.statics = some q := by rw [he]; exact g4
    have hv : cell.slots[f.slot]? = some cell.slots[f.slot] := Array.getElem?_eq_getElem g8
    have ev1 : (Term.static C n d).eval #[] s none [] s = some cell.slots[f.slot] := by
      simp [Term.eval, State.fieldNamed?, g2, g3, g4, g5', g6, hv]
    have ev2 : (Term.static C n d).eval a U none [] U = some cell.slots[f.slot] := by
      simp [Term.eval, State.fieldNamed?, hi2, g3, g4', g5U, g6, hv]
    simp only [Cond.before, Cond.holds, Cond.value, ev1] at h3
    simp only [Cond.before, Cond.holds, Cond.value, ev2]
    exact h3
  intro w hw a
  have hl1 := h (.laysStatic Bundle.tN "UNASSIGNED_STACK" Bundle.steD) (by simp [thW]) #[]
  have hl2 := h (.laysStatic Bundle.tN "SUPPRESSED_SENTINEL" Bundle.listD) (by simp [thW]) #[]
  have hr1 := h (.isRef (.static Bundle.tN "UNASSIGNED_STACK" Bundle.steD)) (by simp [thW]) #[]
  have hr2 := h (.isRef (.static Bundle.tN "SUPPRESSED_SENTINEL" Bundle.listD)) (by simp [thW]) #[]
  simp only [thW, List.mem_cons, List.not_mem_nil, or_false] at hw
  rcases hw with rfl | rfl | rfl | rfl
  · exact l1 _ _ _ hl1 a
  · exact l1 _ _ _ hl2 a
  · exact l2 _ _ _ hl1 hr1 a
  · exact l2 _ _ _ hl2 hr2 a
theorem tbl1 {t : List ExceptionTableEntry} {q1 : Nat × Nat × Nat × Nat} (h : t.map (fun h => (h.startPc, h.endPc, h.handlerPc, h.catchType)) = [q1]) : ∃ h1 : ExceptionTableEntry, t = [h1] ∧ (h1.startPc, h1.endPc, h1.handlerPc, h1.catchType) = q1 := by
  match t, h with
  | [h1], h => exact ⟨h1, rfl, by simpa using h⟩
theorem tbl2 {t : List ExceptionTableEntry} {q1 q2 : Nat × Nat × Nat × Nat} (h : t.map (fun h => (h.startPc, h.endPc, h.handlerPc, h.catchType)) = [q1, q2]) : ∃ h1 h2 : ExceptionTableEntry, t = [h1, h2] ∧ (h1.startPc, h1.endPc, h1.handlerPc, h1.catchType) = q1 ∧ (h2.startPc, h2.endPc, h2.handlerPc, h2.catchType) = q2 := by
  match t, h with
  | [h1, h2], h =>
    simp only [List.map_cons, List.map_nil, List.cons.injEq, and_true] at h
    exact ⟨h1, h2, rfl, h.1, h.2⟩
theorem keptP {D : va_G} {cl : List vw_C} {ws : va_W} {H H1 : Heap} (hP : va_P D cl ws H) (hk : ∀ q : Nat, q < H.size → H1[q]? = H[q]?) : va_P D cl ws H1 := hP.kept (fun k q hq => hk q.1 ((hP k q hq).lt))
theorem keptS {A : Nat → Prop} {H0 H H1 : Heap} {locs : List Loc} (hS : va_S A H0 H locs) (hz : H.size ≤ H1.size) (hk : ∀ q : Nat, q < H.size → H1[q]? = H[q]?) : va_S A H0 H1 locs := ⟨Nat.le_trans hS.1 hz, fun q h1 h2 => (hk q (Nat.lt_of_lt_of_le h1 hS.1)).trans (hS.2.1 q h1 h2), hS.2.2⟩
section RTG
variable {p : Program} {l : Launch} {e : Env} {R : Room} {s : State} {m : MethodId} {args : Array Value} {below : List Frame} {meth : Method} {c : Code} {H : Heap} {locs : List Loc} {cells slots : Nat}
variable {cc : ByteArray} {pc : Nat} {ls : Array Slot} {A : Nat → Prop} {D : va_G} {cl : List vw_C} {tys : List (ClassId × FieldType)} {σ : Type} {Wd : σ → va_W}
theorem retGi {x r : Int32} {z z' : σ} {k n : Nat} (hexec : p.tables.exec = Jvm.exec) (hb : c.code = cc) (hr : meth.sig.returnType = some .int) (hP : va_P D cl (Wd z) H) (hK : va_K D cl tys s) (hD : va_D A (Wd z)) (hS : va_S A s.heap H locs) (e1 : x = r) (e2 : z = z') (h1 : cells ≤ k) (h2 : slots ≤ n) (hdg : decode cc pc = .ok (.ireturn, 1)) (hlocks : meth.locks = false) :
    W p l e R s m args below meth c H locs cells slots (MQ below (QGi D cl tys Wd A r z') args s k n A) (F0 m pc ls [.int x]) := by
  subst e1; subst e2
  intro T hT X
  exact W.iret (cells := k) (slots := n) hexec hb hr (fun t ht hW => ⟨⟨_, _, rfl, ⟨rfl, rfl⟩, by rw [ht]; exact hP, va_K.moved hW.alike hK, hD⟩, hS.F ht⟩) hS.2.2 hdg hlocks T hT (stand_widen X h1 h2)
end RTG

def wl_La_image : List Cond := .codeWith y_La_image b_La_image 5 (some .int) [(0, 6, 9, 13)] :: (ALLW ++ THY)
def rml_La_image : Room := { frames := 100, cells := 1, slots := 6, locals := 4000 }
theorem d_La_image_0 : decode b_La_image 0 = .ok (.aload_n 0, 1) := by decide +kernel
theorem d_La_image_1 : decode b_La_image 1 = .ok (.iload_n 1, 1) := by decide +kernel
theorem d_La_image_2 : decode b_La_image 2 = .ok (.lload_n 2, 1) := by decide +kernel
theorem d_La_image_3 : decode b_La_image 3 = .ok (.invokevirtual 7, 3) := by decide +kernel
theorem d_La_image_6 : decode b_La_image 6 = .ok (.goto 7, 3) := by decide +kernel
theorem d_La_image_9 : decode b_La_image 9 = .ok (.astore 4, 2) := by decide +kernel
theorem d_La_image_11 : decode b_La_image 11 = .ok (.iconst 1, 1) := by decide +kernel
theorem d_La_image_12 : decode b_La_image 12 = .ok (.ireturn, 1) := by decide +kernel
theorem d_La_image_13 : decode b_La_image 13 = .ok (.iconst 0, 1) := by decide +kernel
theorem d_La_image_14 : decode b_La_image 14 = .ok (.ireturn, 1) := by decide +kernel
set_option maxHeartbeats 4000000 in
set_option maxRecDepth 100000 in
theorem h_image_ok (l : Launch) (hfl : l.flags = pinnedFlags ++ [noTraceFlag]) (dC : Nat → ClassId) (dI : Nat → Nat → Nat) (cI cJ : ClassId) (ad : Nat → Nat) (o : Nat) (u : S5) (x : Nat → Int64) (at_ : Nat) (w : Int64) (ha : at_ ≤ 16376) (h7 : at_ % 8 = 0) (sz : Nat) : Met l y_La_image wl_La_image rml_La_image (PreX (dC, dI) classes [(cI, .int), (cJ, .long)] (wX cI cJ ad o) (u, x) sz [.ref (ad 0), .int (nI at_), .long w]) (QGi (dC, dI) classes [(cI, .int), (cJ, .long)] (wX cI cJ ad o) (va_A (wX cI cJ ad o (u, x)) sz) 0 ((f_SH_image at_ w u), x)) 1 6 (va_A (wX cI cJ ad o (u, x)) sz) := by
  refine va_MetW (cc := b_La_image) (maxL := 5) (ret := some .int) (hh := [(0, 6, 9, 13)]) (by decide) rfl ?_
  intro p e s m args below meth c s₁ B hml hv
  obtain ⟨⟨rfl, rfl, hP, hK, hD0⟩, hthS, hthN⟩ := hv
  have hx := B.exec
  have hb := B.bytes
  have hr := B.returns
  have hts : ∀ w9 ∈ ALLW, w9.before ([.ref (ad 0), .int (nI at_), .long w] : List Value).toArray s = true := fun w9 h => atoms_spec (ws := wl_La_image) B.pre w9 (List.mem_cons_of_mem _ (List.mem_append_left _ h))
  have hthy : ∀ w9 ∈ THY, w9.before ([.ref (ad 0), .int (nI at_), .long w] : List Value).toArray s = true := fun w9 h => atoms_spec (ws := wl_La_image) B.pre w9 (List.mem_cons_of_mem _ (List.mem_append_right _ h))
  have hown : s.vm.findClass R_La = some m.cls := findClass_of_methodNamed B.named
  have hlocks := B.notSynchronized
  have hD := hD0.self (sz := s.heap.size)
  generalize hAe : va_A (wX cI cJ ad o (u, x)) s.heap.size = A at hD ⊢
  have hA : ∀ q : Nat, s.heap.size ≤ q → A q := fun q h => by rw [← hAe]; exact Or.inr h
  have hS : va_S A s.heap s.heap [] := va_S.rf
  have hK1 : va_K (dC, dI) classes [(cI, .int)] s := kv_sub hK (fun k q hq => ⟨k, by cases k with | zero => exact hq | succ k => cases hq⟩)
  have hl := lv_entry ([.ref (ad 0), .int (nI at_), .long w]) (n := 5) (Nat.le_of_ble_eq_true rfl)
  rw [lg_entry_eq]
  generalize (lg_sl ([.ref (ad 0), .int (nI at_), .long w]) ++ List.replicate (5 - (lg_sl ([.ref (ad 0), .int (nI at_), .long w])).length) Slot.unset).toArray = ls at hl ⊢
  have hl : lv_has ls 5 [(0, .ref (ad 0)), (1, .int (nI at_)), (2, .long w)] := hl
  refine lv_aload_n hx hb d_La_image_0 rfl (lv_at hl 0 rfl) ?_
  refine lv_iload_n hx hb d_La_image_1 rfl (lv_at hl 1 rfl) ?_
  refine lv_lload_n hx hb d_La_image_2 rfl (lv_at hl 2 rfl) ?_
  refine callGv (Wd := wC cI ad) (z := u) (z' := (f_SH_image at_ w u)) (ot := [(o, .inl (cJ, 1, .inr (.inl x)))]) (tys := [(cI, .int)]) (va_runV (As := [.int (nI at_), .long w]) (rest := []) ⟨hx, hb, hml, hown, hts⟩ (c_SH_image l dC dI cI ad u at_ w ha h7 s.heap.size) (cwV 2 hts (goodV m_5_29 m_5_30 m_5_31 m_0_1 m_5_32) rfl rfl rfl (by decide +kernel) ⟨Nat.le_of_ble_eq_true rfl, Nat.le_of_ble_eq_true rfl⟩) ⟨preW_blind, va_recv hK hP (ci := 0) (q0 := 0) rfl rfl, preW_ok (pv_l hP) (dv_l hD) hK1⟩ rfl rfl hl.1 rfl (lv_room (Nat.le_of_ble_eq_true rfl)) d_La_image_3 ⟨Nat.zero_le _, Nat.zero_le _⟩) hP hD hS hA rfl (fun H locs hP hD hS => ?_)
  refine lv_goto (tgt := 13) hx hb d_La_image_6 (by decide) ?_
  refine lv_iconst hx hb d_La_image_13 rfl ?_
  exact retGi (Wd := wX cI cJ ad o) (z := ((f_SH_image at_ w u), x)) hx hb hr hP hK hD hS rfl rfl (by decide) (by decide) d_La_image_14 hlocks
set_option maxHeartbeats 4000000 in
set_option maxRecDepth 100000 in
theorem h_image_IAE (l : Launch) (hfl : l.flags = pinnedFlags ++ [noTraceFlag]) (dC : Nat → ClassId) (dI : Nat → Nat → Nat) (cI cJ : ClassId) (ad : Nat → Nat) (o : Nat) (u : S5) (x : Nat → Int64) (at_ : Int32) (w : Int64) (ht : at_ < 0 ∨ 16376 < at_ ∨ ¬ (at_ &&& 7) = 0) (sz : Nat) : Met l y_La_image wl_La_image rml_La_image (PreX (dC, dI) classes [(cI, .int), (cJ, .long)] (wX cI cJ ad o) (u, x) sz [.ref (ad 0), .int at_, .long w]) (QGi (dC, dI) classes [(cI, .int), (cJ, .long)] (wX cI cJ ad o) (va_A (wX cI cJ ad o (u, x)) sz) 1 (u, x)) 1 6 (va_A (wX cI cJ ad o (u, x)) sz) := by
  refine va_MetW (cc := b_La_image) (maxL := 5) (ret := some .int) (hh := [(0, 6, 9, 13)]) (by decide) rfl ?_
  intro p e s m args below meth c s₁ B hml hv
  obtain ⟨⟨rfl, rfl, hP, hK, hD0⟩, hthS, hthN⟩ := hv
  have hx := B.exec
  have hb := B.bytes
  have hr := B.returns
  have hts : ∀ w9 ∈ ALLW, w9.before ([.ref (ad 0), .int at_, .long w] : List Value).toArray s = true := fun w9 h => atoms_spec (ws := wl_La_image) B.pre w9 (List.mem_cons_of_mem _ (List.mem_append_left _ h))
  have hthy : ∀ w9 ∈ THY, w9.before ([.ref (ad 0), .int at_, .long w] : List Value).toArray s = true := fun w9 h => atoms_spec (ws := wl_La_image) B.pre w9 (List.mem_cons_of_mem _ (List.mem_append_right _ h))
  have hown : s.vm.findClass R_La = some m.cls := findClass_of_methodNamed B.named
  have hlocks := B.notSynchronized
  have hD := hD0.self (sz := s.heap.size)
  generalize hAe : va_A (wX cI cJ ad o (u, x)) s.heap.size = A at hD ⊢
  have hA : ∀ q : Nat, s.heap.size ≤ q → A q := fun q h => by rw [← hAe]; exact Or.inr h
  have hS : va_S A s.heap s.heap [] := va_S.rf
  have hK1 : va_K (dC, dI) classes [(cI, .int)] s := kv_sub hK (fun k q hq => ⟨k, by cases k with | zero => exact hq | succ k => cases hq⟩)
  have hmc : meth.code = some c := (Stand.of_body B).code
  obtain ⟨m9, meth9, c9, hn9, g1, g2, -, -, g5, -, -, -⟩ := Cond.codeWith_spec (atoms_spec (ws := wl_La_image) B.pre _ List.mem_cons_self)
  cases B.named.symm.trans hn9
  cases B.method.symm.trans g1
  cases hmc.symm.trans g2
  obtain ⟨x1, hsp, hh1⟩ := tbl1 g5
  have e1a : x1.startPc = 0 := congrArg (·.1) hh1
  have e1b : x1.endPc = 6 := congrArg (·.2.1) hh1
  have e1c : x1.handlerPc = 9 := congrArg (·.2.2.1) hh1
  have e1d : x1.catchType = 13 := congrArg (·.2.2.2) hh1
  have hl := lv_entry ([.ref (ad 0), .int at_, .long w]) (n := 5) (Nat.le_of_ble_eq_true rfl)
  rw [lg_entry_eq]
  generalize (lg_sl ([.ref (ad 0), .int at_, .long w]) ++ List.replicate (5 - (lg_sl ([.ref (ad 0), .int at_, .long w])).length) Slot.unset).toArray = ls at hl ⊢
  have hl : lv_has ls 5 [(0, .ref (ad 0)), (1, .int at_), (2, .long w)] := hl
  refine lv_aload_n hx hb d_La_image_0 rfl (lv_at hl 0 rfl) ?_
  refine lv_iload_n hx hb d_La_image_1 rfl (lv_at hl 1 rfl) ?_
  refine lv_lload_n hx hb d_La_image_2 rfl (lv_at hl 2 rfl) ?_
  obtain ⟨cellB, k1, k2, k3⟩ := va_recv hK hP (ci := 0) (q0 := 0) rfl rfl
  refine callT1 (h1 := x1) (t := []) (As := [.int at_, .long w]) (rest := []) hx hb (hl.1.trans hml.symm) (t_SH_image_IAE l hfl dC dI cI ad u at_ w ht s.heap.size) preT_blind hown (hts _ m_5_29) (hts _ m_5_30) (hts _ m_5_31) (hts _ m_0_1) (thy_at hts hthy m_5_32) List.mem_cons_self (by decide) ⟨by decide, by decide, rfl, rfl, by decide, by decide⟩ k1 k2 k3 (fun sig h => by cases h; rfl) (Nat.le_of_ble_eq_true rfl) d_La_image_3 (fun U hU hW => ⟨preW_ok (pv_l hP) (dv_l hD) hK1 U hU hW, thS_moved hW.alike (fun q _ => by rw [hU]) hthS⟩) hsp (by simp [covers, e1a, e1b]) (by rw [e1d]; decide) (by rw [e1d]; exact hthy _ (by simp [THY])) (hthy _ (by simp [THY])) (fun x9 H1 hz hk => ?_)
  rw [e1c]
  refine lv_astore hx hb d_La_image_9 hl (by decide) rfl (fun ls hl => ?_)
  refine lv_iconst hx hb d_La_image_11 rfl ?_
  exact retGi (Wd := wX cI cJ ad o) (z := (u, x)) hx hb hr (keptP hP hk) hK hD (keptS hS hz hk) rfl rfl (by decide) (by decide) d_La_image_12 hlocks
def wl_La_input : List Cond := .codeWith y_La_input b_La_input 6 (some .int) [(0, 11, 14, 13), (0, 11, 18, 19)] :: (ALLW ++ THY)
def rml_La_input : Room := { frames := 100, cells := 1, slots := 6, locals := 4000 }
theorem d_La_input_0 : decode b_La_input 0 = .ok (.aload 4, 2) := by decide +kernel
theorem d_La_input_2 : decode b_La_input 2 = .ok (.iconst 0, 1) := by decide +kernel
theorem d_La_input_3 : decode b_La_input 3 = .ok (.aload_n 0, 1) := by decide +kernel
theorem d_La_input_4 : decode b_La_input 4 = .ok (.lload_n 1, 1) := by decide +kernel
theorem d_La_input_5 : decode b_La_input 5 = .ok (.iload_n 3, 1) := by decide +kernel
theorem d_La_input_6 : decode b_La_input 6 = .ok (.invokevirtual 15, 3) := by decide +kernel
theorem d_La_input_9 : decode b_La_input 9 = .ok (.i2l, 1) := by decide +kernel
theorem d_La_input_10 : decode b_La_input 10 = .ok (.lastore, 1) := by decide +kernel
theorem d_La_input_11 : decode b_La_input 11 = .ok (.goto 11, 3) := by decide +kernel
theorem d_La_input_14 : decode b_La_input 14 = .ok (.astore 5, 2) := by decide +kernel
theorem d_La_input_16 : decode b_La_input 16 = .ok (.iconst 1, 1) := by decide +kernel
theorem d_La_input_17 : decode b_La_input 17 = .ok (.ireturn, 1) := by decide +kernel
theorem d_La_input_18 : decode b_La_input 18 = .ok (.astore 5, 2) := by decide +kernel
theorem d_La_input_20 : decode b_La_input 20 = .ok (.iconst 2, 1) := by decide +kernel
theorem d_La_input_21 : decode b_La_input 21 = .ok (.ireturn, 1) := by decide +kernel
theorem d_La_input_22 : decode b_La_input 22 = .ok (.iconst 0, 1) := by decide +kernel
theorem d_La_input_23 : decode b_La_input 23 = .ok (.ireturn, 1) := by decide +kernel
set_option maxHeartbeats 4000000 in
set_option maxRecDepth 100000 in
theorem h_input_ok (l : Launch) (hfl : l.flags = pinnedFlags ++ [noTraceFlag]) (dC : Nat → ClassId) (dI : Nat → Nat → Nat) (cI cJ : ClassId) (ad : Nat → Nat) (o : Nat) (u : S5) (x : Nat → Int64) (w : Int64) (n : Nat) (h1 : 1 ≤ n) (h8 : n ≤ 8) (hp : gN u 3 + n ≤ 1024) (sz : Nat) : Met l y_La_input wl_La_input rml_La_input (PreX (dC, dI) classes [(cI, .int), (cJ, .long)] (wX cI cJ ad o) (u, x) sz [.ref (ad 0), .long w, .int (nI n), .ref o]) (QGi (dC, dI) classes [(cI, .int), (cJ, .long)] (wX cI cJ ad o) (va_A (wX cI cJ ad o (u, x)) sz) 0 ((f_SH_input w n u).2, (vp_updL x 0 ((nI (f_SH_input w n u).1)).toInt64))) 1 6 (va_A (wX cI cJ ad o (u, x)) sz) := by
  refine va_MetW (cc := b_La_input) (maxL := 6) (ret := some .int) (hh := [(0, 11, 14, 13), (0, 11, 18, 19)]) (by decide) rfl ?_
  intro p e s m args below meth c s₁ B hml hv
  obtain ⟨⟨rfl, rfl, hP, hK, hD0⟩, hthS, hthN⟩ := hv
  have hx := B.exec
  have hb := B.bytes
  have hr := B.returns
  have hts : ∀ w9 ∈ ALLW, w9.before ([.ref (ad 0), .long w, .int (nI n), .ref o] : List Value).toArray s = true := fun w9 h => atoms_spec (ws := wl_La_input) B.pre w9 (List.mem_cons_of_mem _ (List.mem_append_left _ h))
  have hthy : ∀ w9 ∈ THY, w9.before ([.ref (ad 0), .long w, .int (nI n), .ref o] : List Value).toArray s = true := fun w9 h => atoms_spec (ws := wl_La_input) B.pre w9 (List.mem_cons_of_mem _ (List.mem_append_right _ h))
  have hown : s.vm.findClass R_La = some m.cls := findClass_of_methodNamed B.named
  have hlocks := B.notSynchronized
  have hD := hD0.self (sz := s.heap.size)
  generalize hAe : va_A (wX cI cJ ad o (u, x)) s.heap.size = A at hD ⊢
  have hA : ∀ q : Nat, s.heap.size ≤ q → A q := fun q h => by rw [← hAe]; exact Or.inr h
  have hS : va_S A s.heap s.heap [] := va_S.rf
  have hK1 : va_K (dC, dI) classes [(cI, .int)] s := kv_sub hK (fun k q hq => ⟨k, by cases k with | zero => exact hq | succ k => cases hq⟩)
  have hl := lv_entry ([.ref (ad 0), .long w, .int (nI n), .ref o]) (n := 6) (Nat.le_of_ble_eq_true rfl)
  rw [lg_entry_eq]
  generalize (lg_sl ([.ref (ad 0), .long w, .int (nI n), .ref o]) ++ List.replicate (6 - (lg_sl ([.ref (ad 0), .long w, .int (nI n), .ref o])).length) Slot.unset).toArray = ls at hl ⊢
  have hl : lv_has ls 6 [(0, .ref (ad 0)), (1, .long w), (3, .int (nI n)), (4, .ref o)] := hl
  refine lv_aload hx hb d_La_input_0 (lv_at hl 3 rfl) ?_
  refine lv_iconst hx hb d_La_input_2 rfl ?_
  refine lv_aload_n hx hb d_La_input_3 rfl (lv_at hl 0 rfl) ?_
  refine lv_lload_n hx hb d_La_input_4 rfl (lv_at hl 1 rfl) ?_
  refine lv_iload_n hx hb d_La_input_5 rfl (lv_at hl 2 rfl) ?_
  refine callGi (Wd := wC cI ad) (z := u) (z' := (f_SH_input w n u).2) (ot := [(o, .inl (cJ, 1, .inr (.inl x)))]) (tys := [(cI, .int)]) (va_runV (As := [.long w, .int (nI n)]) (rest := [.int 0, .ref o]) ⟨hx, hb, hml, hown, hts⟩ (c_SH_input l dC dI cI ad u w n h1 h8 hp s.heap.size) (cwV 2 hts (goodV m_5_39 m_6_0 m_6_1 m_0_1 m_6_2) rfl rfl rfl (by decide +kernel) ⟨Nat.le_of_ble_eq_true rfl, Nat.le_of_ble_eq_true rfl⟩) ⟨preW_blind, va_recv hK hP (ci := 0) (q0 := 0) rfl rfl, preW_ok (pv_l hP) (dv_l hD) hK1⟩ rfl rfl hl.1 rfl (lv_room (Nat.le_of_ble_eq_true rfl)) d_La_input_6 ⟨Nat.zero_le _, Nat.zero_le _⟩) hP hD hS hA rfl (fun H locs hP hD hS => ?_)
  refine lv_i2l hx hb d_La_input_9 rfl ?_
  refine va_last hx hb hK hP hD hS 22 1 rfl rfl (vp_in_nI (n := 0) (by decide) (by decide)) d_La_input_10 (fun H locs hP hD hS => ?_)
  refine lv_goto (tgt := 22) hx hb d_La_input_11 (by decide) ?_
  refine lv_iconst hx hb d_La_input_22 rfl ?_
  exact retGi (Wd := wX cI cJ ad o) (z := ((f_SH_input w n u).2, (vp_updL x 0 ((nI (f_SH_input w n u).1)).toInt64))) hx hb hr hP hK hD hS rfl rfl (by decide) (by decide) d_La_input_23 hlocks
set_option maxHeartbeats 4000000 in
set_option maxRecDepth 100000 in
theorem h_input_IAE (l : Launch) (hfl : l.flags = pinnedFlags ++ [noTraceFlag]) (dC : Nat → ClassId) (dI : Nat → Nat → Nat) (cI cJ : ClassId) (ad : Nat → Nat) (o : Nat) (u : S5) (x : Nat → Int64) (w : Int64) (n : Int32) (ht : n < 1 ∨ ¬ n ≤ 8) (sz : Nat) : Met l y_La_input wl_La_input rml_La_input (PreX (dC, dI) classes [(cI, .int), (cJ, .long)] (wX cI cJ ad o) (u, x) sz [.ref (ad 0), .long w, .int n, .ref o]) (QGi (dC, dI) classes [(cI, .int), (cJ, .long)] (wX cI cJ ad o) (va_A (wX cI cJ ad o (u, x)) sz) 1 (u, x)) 1 6 (va_A (wX cI cJ ad o (u, x)) sz) := by
  refine va_MetW (cc := b_La_input) (maxL := 6) (ret := some .int) (hh := [(0, 11, 14, 13), (0, 11, 18, 19)]) (by decide) rfl ?_
  intro p e s m args below meth c s₁ B hml hv
  obtain ⟨⟨rfl, rfl, hP, hK, hD0⟩, hthS, hthN⟩ := hv
  have hx := B.exec
  have hb := B.bytes
  have hr := B.returns
  have hts : ∀ w9 ∈ ALLW, w9.before ([.ref (ad 0), .long w, .int n, .ref o] : List Value).toArray s = true := fun w9 h => atoms_spec (ws := wl_La_input) B.pre w9 (List.mem_cons_of_mem _ (List.mem_append_left _ h))
  have hthy : ∀ w9 ∈ THY, w9.before ([.ref (ad 0), .long w, .int n, .ref o] : List Value).toArray s = true := fun w9 h => atoms_spec (ws := wl_La_input) B.pre w9 (List.mem_cons_of_mem _ (List.mem_append_right _ h))
  have hown : s.vm.findClass R_La = some m.cls := findClass_of_methodNamed B.named
  have hlocks := B.notSynchronized
  have hD := hD0.self (sz := s.heap.size)
  generalize hAe : va_A (wX cI cJ ad o (u, x)) s.heap.size = A at hD ⊢
  have hA : ∀ q : Nat, s.heap.size ≤ q → A q := fun q h => by rw [← hAe]; exact Or.inr h
  have hS : va_S A s.heap s.heap [] := va_S.rf
  have hK1 : va_K (dC, dI) classes [(cI, .int)] s := kv_sub hK (fun k q hq => ⟨k, by cases k with | zero => exact hq | succ k => cases hq⟩)
  have hmc : meth.code = some c := (Stand.of_body B).code
  obtain ⟨m9, meth9, c9, hn9, g1, g2, -, -, g5, -, -, -⟩ := Cond.codeWith_spec (atoms_spec (ws := wl_La_input) B.pre _ List.mem_cons_self)
  cases B.named.symm.trans hn9
  cases B.method.symm.trans g1
  cases hmc.symm.trans g2
  obtain ⟨x1, x2, hsp, hh1, hh2⟩ := tbl2 g5
  have e1a : x1.startPc = 0 := congrArg (·.1) hh1
  have e1b : x1.endPc = 11 := congrArg (·.2.1) hh1
  have e1c : x1.handlerPc = 14 := congrArg (·.2.2.1) hh1
  have e1d : x1.catchType = 13 := congrArg (·.2.2.2) hh1
  have e2a : x2.startPc = 0 := congrArg (·.1) hh2
  have e2b : x2.endPc = 11 := congrArg (·.2.1) hh2
  have e2c : x2.handlerPc = 18 := congrArg (·.2.2.1) hh2
  have e2d : x2.catchType = 19 := congrArg (·.2.2.2) hh2
  have hl := lv_entry ([.ref (ad 0), .long w, .int n, .ref o]) (n := 6) (Nat.le_of_ble_eq_true rfl)
  rw [lg_entry_eq]
  generalize (lg_sl ([.ref (ad 0), .long w, .int n, .ref o]) ++ List.replicate (6 - (lg_sl ([.ref (ad 0), .long w, .int n, .ref o])).length) Slot.unset).toArray = ls at hl ⊢
  have hl : lv_has ls 6 [(0, .ref (ad 0)), (1, .long w), (3, .int n), (4, .ref o)] := hl
  refine lv_aload hx hb d_La_input_0 (lv_at hl 3 rfl) ?_
  refine lv_iconst hx hb d_La_input_2 rfl ?_
  refine lv_aload_n hx hb d_La_input_3 rfl (lv_at hl 0 rfl) ?_
  refine lv_lload_n hx hb d_La_input_4 rfl (lv_at hl 1 rfl) ?_
  refine lv_iload_n hx hb d_La_input_5 rfl (lv_at hl 2 rfl) ?_
  obtain ⟨cellB, k1, k2, k3⟩ := va_recv hK hP (ci := 0) (q0 := 0) rfl rfl
  refine callT1 (h1 := x1) (t := [x2]) (As := [.long w, .int n]) (rest := [.int 0, .ref o]) hx hb (hl.1.trans hml.symm) (t_SH_input_IAE l hfl dC dI cI ad u w n ht s.heap.size) preT_blind hown (hts _ m_5_39) (hts _ m_6_0) (hts _ m_6_1) (hts _ m_0_1) (thy_at hts hthy m_6_2) List.mem_cons_self (by decide) ⟨by decide, by decide, rfl, rfl, by decide, by decide⟩ k1 k2 k3 (fun sig h => by cases h; rfl) (Nat.le_of_ble_eq_true rfl) d_La_input_6 (fun U hU hW => ⟨preW_ok (pv_l hP) (dv_l hD) hK1 U hU hW, thS_moved hW.alike (fun q _ => by rw [hU]) hthS⟩) hsp (by simp [covers, e1a, e1b]) (by rw [e1d]; decide) (by rw [e1d]; exact hthy _ (by simp [THY])) (hthy _ (by simp [THY])) (fun x9 H1 hz hk => ?_)
  rw [e1c]
  refine lv_astore hx hb d_La_input_14 hl (by decide) rfl (fun ls hl => ?_)
  refine lv_iconst hx hb d_La_input_16 rfl ?_
  exact retGi (Wd := wX cI cJ ad o) (z := (u, x)) hx hb hr (keptP hP hk) hK hD (keptS hS hz hk) rfl rfl (by decide) (by decide) d_La_input_17 hlocks
set_option maxHeartbeats 4000000 in
set_option maxRecDepth 100000 in
theorem h_input_IOB (l : Launch) (hfl : l.flags = pinnedFlags ++ [noTraceFlag]) (dC : Nat → ClassId) (dI : Nat → Nat → Nat) (cI cJ : ClassId) (ad : Nat → Nat) (o : Nat) (u : S5) (x : Nat → Int64) (w : Int64) (n : Nat) (h1 : 1 ≤ n) (h8 : n ≤ 8) (hp : gN u 3 ≤ 1024) (ht : 1024 < gN u 3 + n) (sz : Nat) : Met l y_La_input wl_La_input rml_La_input (PreX (dC, dI) classes [(cI, .int), (cJ, .long)] (wX cI cJ ad o) (u, x) sz [.ref (ad 0), .long w, .int (nI n), .ref o]) (QGi (dC, dI) classes [(cI, .int), (cJ, .long)] (wX cI cJ ad o) (va_A (wX cI cJ ad o (u, x)) sz) 2 (u, x)) 1 6 (va_A (wX cI cJ ad o (u, x)) sz) := by
  refine va_MetW (cc := b_La_input) (maxL := 6) (ret := some .int) (hh := [(0, 11, 14, 13), (0, 11, 18, 19)]) (by decide) rfl ?_
  intro p e s m args below meth c s₁ B hml hv
  obtain ⟨⟨rfl, rfl, hP, hK, hD0⟩, hthS, hthN⟩ := hv
  have hx := B.exec
  have hb := B.bytes
  have hr := B.returns
  have hts : ∀ w9 ∈ ALLW, w9.before ([.ref (ad 0), .long w, .int (nI n), .ref o] : List Value).toArray s = true := fun w9 h => atoms_spec (ws := wl_La_input) B.pre w9 (List.mem_cons_of_mem _ (List.mem_append_left _ h))
  have hthy : ∀ w9 ∈ THY, w9.before ([.ref (ad 0), .long w, .int (nI n), .ref o] : List Value).toArray s = true := fun w9 h => atoms_spec (ws := wl_La_input) B.pre w9 (List.mem_cons_of_mem _ (List.mem_append_right _ h))
  have hown : s.vm.findClass R_La = some m.cls := findClass_of_methodNamed B.named
  have hlocks := B.notSynchronized
  have hD := hD0.self (sz := s.heap.size)
  generalize hAe : va_A (wX cI cJ ad o (u, x)) s.heap.size = A at hD ⊢
  have hA : ∀ q : Nat, s.heap.size ≤ q → A q := fun q h => by rw [← hAe]; exact Or.inr h
  have hS : va_S A s.heap s.heap [] := va_S.rf
  have hK1 : va_K (dC, dI) classes [(cI, .int)] s := kv_sub hK (fun k q hq => ⟨k, by cases k with | zero => exact hq | succ k => cases hq⟩)
  have hmc : meth.code = some c := (Stand.of_body B).code
  obtain ⟨m9, meth9, c9, hn9, g1, g2, -, -, g5, -, -, -⟩ := Cond.codeWith_spec (atoms_spec (ws := wl_La_input) B.pre _ List.mem_cons_self)
  cases B.named.symm.trans hn9
  cases B.method.symm.trans g1
  cases hmc.symm.trans g2
  obtain ⟨x1, x2, hsp, hh1, hh2⟩ := tbl2 g5
  have e1a : x1.startPc = 0 := congrArg (·.1) hh1
  have e1b : x1.endPc = 11 := congrArg (·.2.1) hh1
  have e1c : x1.handlerPc = 14 := congrArg (·.2.2.1) hh1
  have e1d : x1.catchType = 13 := congrArg (·.2.2.2) hh1
  have e2a : x2.startPc = 0 := congrArg (·.1) hh2
  have e2b : x2.endPc = 11 := congrArg (·.2.1) hh2
  have e2c : x2.handlerPc = 18 := congrArg (·.2.2.1) hh2
  have e2d : x2.catchType = 19 := congrArg (·.2.2.2) hh2
  have hl := lv_entry ([.ref (ad 0), .long w, .int (nI n), .ref o]) (n := 6) (Nat.le_of_ble_eq_true rfl)
  rw [lg_entry_eq]
  generalize (lg_sl ([.ref (ad 0), .long w, .int (nI n), .ref o]) ++ List.replicate (6 - (lg_sl ([.ref (ad 0), .long w, .int (nI n), .ref o])).length) Slot.unset).toArray = ls at hl ⊢
  have hl : lv_has ls 6 [(0, .ref (ad 0)), (1, .long w), (3, .int (nI n)), (4, .ref o)] := hl
  refine lv_aload hx hb d_La_input_0 (lv_at hl 3 rfl) ?_
  refine lv_iconst hx hb d_La_input_2 rfl ?_
  refine lv_aload_n hx hb d_La_input_3 rfl (lv_at hl 0 rfl) ?_
  refine lv_lload_n hx hb d_La_input_4 rfl (lv_at hl 1 rfl) ?_
  refine lv_iload_n hx hb d_La_input_5 rfl (lv_at hl 2 rfl) ?_
  obtain ⟨cellB, k1, k2, k3⟩ := va_recv hK hP (ci := 0) (q0 := 0) rfl rfl
  refine callT2 (C1 := thIAE) (h1 := x1) (h2 := x2) (t := []) (As := [.long w, .int (nI n)]) (rest := [.int 0, .ref o]) hx hb (hl.1.trans hml.symm) (t_SH_input_IOB l hfl dC dI cI ad u w n h1 h8 hp ht s.heap.size) preT_blind hown (hts _ m_5_39) (hts _ m_6_0) (hts _ m_6_1) (hts _ m_0_1) (thy_at hts hthy m_6_2) List.mem_cons_self (by decide) ⟨by decide, by decide, rfl, rfl, by decide, by decide⟩ k1 k2 k3 (fun sig h => by cases h; rfl) (Nat.le_of_ble_eq_true rfl) d_La_input_6 (fun U hU hW => ⟨preW_ok (pv_l hP) (dv_l hD) hK1 U hU hW, thS_moved hW.alike (fun q _ => by rw [hU]) hthS⟩) hsp (by simp [covers, e1a, e1b]) (by rw [e1d]; decide) (by simp [covers, e2a, e2b]) (by rw [e2d]; decide) (by rw [e1d]; exact hthy _ (by simp [THY])) (hthN _) (by rw [e2d]; exact hthy _ (by simp [THY])) (hthy _ (by simp [THY])) (fun x9 H1 hz hk => ?_)
  rw [e2c]
  refine lv_astore hx hb d_La_input_18 hl (by decide) rfl (fun ls hl => ?_)
  refine lv_iconst hx hb d_La_input_20 rfl ?_
  exact retGi (Wd := wX cI cJ ad o) (z := (u, x)) hx hb hr (keptP hP hk) hK hD (keptS hS hz hk) rfl rfl (by decide) (by decide) d_La_input_21 hlocks
def wl_La_run : List Cond := .codeWith y_La_run b_La_run 4 (some .int) [(0, 9, 12, 13)] :: (ALLW ++ THY)
def rml_La_run : Room := { frames := 100, cells := 1, slots := 6, locals := 4000 }
theorem d_La_run_0 : decode b_La_run 0 = .ok (.aload_n 2, 1) := by decide +kernel
theorem d_La_run_1 : decode b_La_run 1 = .ok (.iconst 0, 1) := by decide +kernel
theorem d_La_run_2 : decode b_La_run 2 = .ok (.aload_n 0, 1) := by decide +kernel
theorem d_La_run_3 : decode b_La_run 3 = .ok (.iload_n 1, 1) := by decide +kernel
theorem d_La_run_4 : decode b_La_run 4 = .ok (.invokevirtual 21, 3) := by decide +kernel
theorem d_La_run_7 : decode b_La_run 7 = .ok (.i2l, 1) := by decide +kernel
theorem d_La_run_8 : decode b_La_run 8 = .ok (.lastore, 1) := by decide +kernel
theorem d_La_run_9 : decode b_La_run 9 = .ok (.goto 6, 3) := by decide +kernel
theorem d_La_run_12 : decode b_La_run 12 = .ok (.astore_n 3, 1) := by decide +kernel
theorem d_La_run_13 : decode b_La_run 13 = .ok (.iconst 1, 1) := by decide +kernel
theorem d_La_run_14 : decode b_La_run 14 = .ok (.ireturn, 1) := by decide +kernel
theorem d_La_run_15 : decode b_La_run 15 = .ok (.iconst 0, 1) := by decide +kernel
theorem d_La_run_16 : decode b_La_run 16 = .ok (.ireturn, 1) := by decide +kernel
set_option maxHeartbeats 4000000 in
set_option maxRecDepth 100000 in
theorem h_run_ok (l : Launch) (hfl : l.flags = pinnedFlags ++ [noTraceFlag]) (dC : Nat → ClassId) (dI : Nat → Nat → Nat) (cI cJ : ClassId) (ad : Nat → Nat) (o : Nat) (u : S5) (x : Nat → Int64) (n : Nat) (hn : n ≤ 100000) (Iv : S5 → Prop) (hI0 : Iv u) (hI1 : ∀ v, Iv v → OkR v) (hI2 : ∀ v, Iv v → gI v 3 = 0 → (f_Ma_fetch v).1 = true → OkR (f_Ma_fetch v).2 ∧ OkH (f_Ma_fetch v).2 ∧ OkP (f_Ma_fetch v).2 ∧ Iv (f_Ma_perform (f_Ma_fetch v).2)) (hI3 : ∀ v, Iv v → gI v 3 = 0 → ¬ (f_Ma_fetch v).1 = true → Iv (f_Ma_fetch v).2) (sz : Nat) : Met l y_La_run wl_La_run rml_La_run (PreX (dC, dI) classes [(cI, .int), (cJ, .long)] (wX cI cJ ad o) (u, x) sz [.ref (ad 0), .int (nI n), .ref o]) (QGi (dC, dI) classes [(cI, .int), (cJ, .long)] (wX cI cJ ad o) (va_A (wX cI cJ ad o (u, x)) sz) 0 ((f_SH_run n u).2, (vp_updL x 0 ((f_SH_run n u).1).toInt64))) 1 6 (va_A (wX cI cJ ad o (u, x)) sz) := by
  refine va_MetW (cc := b_La_run) (maxL := 4) (ret := some .int) (hh := [(0, 9, 12, 13)]) (by decide) rfl ?_
  intro p e s m args below meth c s₁ B hml hv
  obtain ⟨⟨rfl, rfl, hP, hK, hD0⟩, hthS, hthN⟩ := hv
  have hx := B.exec
  have hb := B.bytes
  have hr := B.returns
  have hts : ∀ w9 ∈ ALLW, w9.before ([.ref (ad 0), .int (nI n), .ref o] : List Value).toArray s = true := fun w9 h => atoms_spec (ws := wl_La_run) B.pre w9 (List.mem_cons_of_mem _ (List.mem_append_left _ h))
  have hthy : ∀ w9 ∈ THY, w9.before ([.ref (ad 0), .int (nI n), .ref o] : List Value).toArray s = true := fun w9 h => atoms_spec (ws := wl_La_run) B.pre w9 (List.mem_cons_of_mem _ (List.mem_append_right _ h))
  have hown : s.vm.findClass R_La = some m.cls := findClass_of_methodNamed B.named
  have hlocks := B.notSynchronized
  have hD := hD0.self (sz := s.heap.size)
  generalize hAe : va_A (wX cI cJ ad o (u, x)) s.heap.size = A at hD ⊢
  have hA : ∀ q : Nat, s.heap.size ≤ q → A q := fun q h => by rw [← hAe]; exact Or.inr h
  have hS : va_S A s.heap s.heap [] := va_S.rf
  have hK1 : va_K (dC, dI) classes [(cI, .int)] s := kv_sub hK (fun k q hq => ⟨k, by cases k with | zero => exact hq | succ k => cases hq⟩)
  have hl := lv_entry ([.ref (ad 0), .int (nI n), .ref o]) (n := 4) (Nat.le_of_ble_eq_true rfl)
  rw [lg_entry_eq]
  generalize (lg_sl ([.ref (ad 0), .int (nI n), .ref o]) ++ List.replicate (4 - (lg_sl ([.ref (ad 0), .int (nI n), .ref o])).length) Slot.unset).toArray = ls at hl ⊢
  have hl : lv_has ls 4 [(0, .ref (ad 0)), (1, .int (nI n)), (2, .ref o)] := hl
  refine lv_aload_n hx hb d_La_run_0 rfl (lv_at hl 2 rfl) ?_
  refine lv_iconst hx hb d_La_run_1 rfl ?_
  refine lv_aload_n hx hb d_La_run_2 rfl (lv_at hl 0 rfl) ?_
  refine lv_iload_n hx hb d_La_run_3 rfl (lv_at hl 1 rfl) ?_
  refine callGi (Wd := wC cI ad) (z := u) (z' := (f_SH_run n u).2) (ot := [(o, .inl (cJ, 1, .inr (.inl x)))]) (tys := [(cI, .int)]) (va_runV (As := [.int (nI n)]) (rest := [.int 0, .ref o]) ⟨hx, hb, hml, hown, hts⟩ (c_SH_run l dC dI cI ad u n hn Iv hI0 hI1 hI2 hI3 s.heap.size) (cwV 1 hts (goodV m_6_9 m_6_10 m_6_11 m_0_1 m_6_12) rfl rfl rfl (by decide +kernel) ⟨Nat.le_of_ble_eq_true rfl, Nat.le_of_ble_eq_true rfl⟩) ⟨preW_blind, va_recv hK hP (ci := 0) (q0 := 0) rfl rfl, preW_ok (pv_l hP) (dv_l hD) hK1⟩ rfl rfl hl.1 rfl (lv_room (Nat.le_of_ble_eq_true rfl)) d_La_run_4 ⟨Nat.zero_le _, Nat.zero_le _⟩) hP hD hS hA rfl (fun H locs hP hD hS => ?_)
  refine lv_i2l hx hb d_La_run_7 rfl ?_
  refine va_last hx hb hK hP hD hS 22 1 rfl rfl (vp_in_nI (n := 0) (by decide) (by decide)) d_La_run_8 (fun H locs hP hD hS => ?_)
  refine lv_goto (tgt := 15) hx hb d_La_run_9 (by decide) ?_
  refine lv_iconst hx hb d_La_run_15 rfl ?_
  exact retGi (Wd := wX cI cJ ad o) (z := ((f_SH_run n u).2, (vp_updL x 0 ((f_SH_run n u).1).toInt64))) hx hb hr hP hK hD hS rfl rfl (by decide) (by decide) d_La_run_16 hlocks
set_option maxHeartbeats 4000000 in
set_option maxRecDepth 100000 in
theorem h_run_IAE (l : Launch) (hfl : l.flags = pinnedFlags ++ [noTraceFlag]) (dC : Nat → ClassId) (dI : Nat → Nat → Nat) (cI cJ : ClassId) (ad : Nat → Nat) (o : Nat) (u : S5) (x : Nat → Int64) (n : Int32) (ht : n < 0 ∨ ¬ n ≤ 100000) (sz : Nat) : Met l y_La_run wl_La_run rml_La_run (PreX (dC, dI) classes [(cI, .int), (cJ, .long)] (wX cI cJ ad o) (u, x) sz [.ref (ad 0), .int n, .ref o]) (QGi (dC, dI) classes [(cI, .int), (cJ, .long)] (wX cI cJ ad o) (va_A (wX cI cJ ad o (u, x)) sz) 1 (u, x)) 1 6 (va_A (wX cI cJ ad o (u, x)) sz) := by
  refine va_MetW (cc := b_La_run) (maxL := 4) (ret := some .int) (hh := [(0, 9, 12, 13)]) (by decide) rfl ?_
  intro p e s m args below meth c s₁ B hml hv
  obtain ⟨⟨rfl, rfl, hP, hK, hD0⟩, hthS, hthN⟩ := hv
  have hx := B.exec
  have hb := B.bytes
  have hr := B.returns
  have hts : ∀ w9 ∈ ALLW, w9.before ([.ref (ad 0), .int n, .ref o] : List Value).toArray s = true := fun w9 h => atoms_spec (ws := wl_La_run) B.pre w9 (List.mem_cons_of_mem _ (List.mem_append_left _ h))
  have hthy : ∀ w9 ∈ THY, w9.before ([.ref (ad 0), .int n, .ref o] : List Value).toArray s = true := fun w9 h => atoms_spec (ws := wl_La_run) B.pre w9 (List.mem_cons_of_mem _ (List.mem_append_right _ h))
  have hown : s.vm.findClass R_La = some m.cls := findClass_of_methodNamed B.named
  have hlocks := B.notSynchronized
  have hD := hD0.self (sz := s.heap.size)
  generalize hAe : va_A (wX cI cJ ad o (u, x)) s.heap.size = A at hD ⊢
  have hA : ∀ q : Nat, s.heap.size ≤ q → A q := fun q h => by rw [← hAe]; exact Or.inr h
  have hS : va_S A s.heap s.heap [] := va_S.rf
  have hK1 : va_K (dC, dI) classes [(cI, .int)] s := kv_sub hK (fun k q hq => ⟨k, by cases k with | zero => exact hq | succ k => cases hq⟩)
  have hmc : meth.code = some c := (Stand.of_body B).code
  obtain ⟨m9, meth9, c9, hn9, g1, g2, -, -, g5, -, -, -⟩ := Cond.codeWith_spec (atoms_spec (ws := wl_La_run) B.pre _ List.mem_cons_self)
  cases B.named.symm.trans hn9
  cases B.method.symm.trans g1
  cases hmc.symm.trans g2
  obtain ⟨x1, hsp, hh1⟩ := tbl1 g5
  have e1a : x1.startPc = 0 := congrArg (·.1) hh1
  have e1b : x1.endPc = 9 := congrArg (·.2.1) hh1
  have e1c : x1.handlerPc = 12 := congrArg (·.2.2.1) hh1
  have e1d : x1.catchType = 13 := congrArg (·.2.2.2) hh1
  have hl := lv_entry ([.ref (ad 0), .int n, .ref o]) (n := 4) (Nat.le_of_ble_eq_true rfl)
  rw [lg_entry_eq]
  generalize (lg_sl ([.ref (ad 0), .int n, .ref o]) ++ List.replicate (4 - (lg_sl ([.ref (ad 0), .int n, .ref o])).length) Slot.unset).toArray = ls at hl ⊢
  have hl : lv_has ls 4 [(0, .ref (ad 0)), (1, .int n), (2, .ref o)] := hl
  refine lv_aload_n hx hb d_La_run_0 rfl (lv_at hl 2 rfl) ?_
  refine lv_iconst hx hb d_La_run_1 rfl ?_
  refine lv_aload_n hx hb d_La_run_2 rfl (lv_at hl 0 rfl) ?_
  refine lv_iload_n hx hb d_La_run_3 rfl (lv_at hl 1 rfl) ?_
  obtain ⟨cellB, k1, k2, k3⟩ := va_recv hK hP (ci := 0) (q0 := 0) rfl rfl
  refine callT1 (h1 := x1) (t := []) (As := [.int n]) (rest := [.int 0, .ref o]) hx hb (hl.1.trans hml.symm) (t_SH_run_IAE l hfl dC dI cI ad u n ht s.heap.size) preT_blind hown (hts _ m_6_9) (hts _ m_6_10) (hts _ m_6_11) (hts _ m_0_1) (thy_at hts hthy m_6_12) List.mem_cons_self (by decide) ⟨by decide, by decide, rfl, rfl, by decide, by decide⟩ k1 k2 k3 (fun sig h => by cases h; rfl) (Nat.le_of_ble_eq_true rfl) d_La_run_4 (fun U hU hW => ⟨preW_ok (pv_l hP) (dv_l hD) hK1 U hU hW, thS_moved hW.alike (fun q _ => by rw [hU]) hthS⟩) hsp (by simp [covers, e1a, e1b]) (by rw [e1d]; decide) (by rw [e1d]; exact hthy _ (by simp [THY])) (hthy _ (by simp [THY])) (fun x9 H1 hz hk => ?_)
  rw [e1c]
  refine lv_astore_n hx hb d_La_run_12 rfl hl (by decide) rfl (fun ls hl => ?_)
  refine lv_iconst hx hb d_La_run_13 rfl ?_
  exact retGi (Wd := wX cI cJ ad o) (z := (u, x)) hx hb hr (keptP hP hk) hK hD (keptS hS hz hk) rfl rfl (by decide) (by decide) d_La_run_14 hlocks
def wl_La_register : List Cond := .codeWith y_La_register b_La_register 4 (some .int) [(0, 9, 12, 19)] :: (ALLW ++ THY)
def rml_La_register : Room := { frames := 100, cells := 1, slots := 6, locals := 4000 }
theorem d_La_register_0 : decode b_La_register 0 = .ok (.aload_n 2, 1) := by decide +kernel
theorem d_La_register_1 : decode b_La_register 1 = .ok (.iconst 0, 1) := by decide +kernel
theorem d_La_register_2 : decode b_La_register 2 = .ok (.aload_n 0, 1) := by decide +kernel
theorem d_La_register_3 : decode b_La_register 3 = .ok (.iload_n 1, 1) := by decide +kernel
theorem d_La_register_4 : decode b_La_register 4 = .ok (.invokevirtual 25, 3) := by decide +kernel
theorem d_La_register_7 : decode b_La_register 7 = .ok (.i2l, 1) := by decide +kernel
theorem d_La_register_8 : decode b_La_register 8 = .ok (.lastore, 1) := by decide +kernel
theorem d_La_register_9 : decode b_La_register 9 = .ok (.goto 6, 3) := by decide +kernel
theorem d_La_register_12 : decode b_La_register 12 = .ok (.astore_n 3, 1) := by decide +kernel
theorem d_La_register_13 : decode b_La_register 13 = .ok (.iconst 1, 1) := by decide +kernel
theorem d_La_register_14 : decode b_La_register 14 = .ok (.ireturn, 1) := by decide +kernel
theorem d_La_register_15 : decode b_La_register 15 = .ok (.iconst 0, 1) := by decide +kernel
theorem d_La_register_16 : decode b_La_register 16 = .ok (.ireturn, 1) := by decide +kernel
set_option maxHeartbeats 4000000 in
set_option maxRecDepth 100000 in
theorem h_register_ok (l : Launch) (hfl : l.flags = pinnedFlags ++ [noTraceFlag]) (dC : Nat → ClassId) (dI : Nat → Nat → Nat) (cI cJ : ClassId) (ad : Nat → Nat) (o : Nat) (u : S5) (x : Nat → Int64) (a : Nat) (ha : a < 32) (sz : Nat) : Met l y_La_register wl_La_register rml_La_register (PreX (dC, dI) classes [(cI, .int), (cJ, .long)] (wX cI cJ ad o) (u, x) sz [.ref (ad 0), .int (nI a), .ref o]) (QGi (dC, dI) classes [(cI, .int), (cJ, .long)] (wX cI cJ ad o) (va_A (wX cI cJ ad o (u, x)) sz) 0 (u, (vp_updL x 0 ((f_SH_register a u)).toInt64))) 1 6 (va_A (wX cI cJ ad o (u, x)) sz) := by
  refine va_MetW (cc := b_La_register) (maxL := 4) (ret := some .int) (hh := [(0, 9, 12, 19)]) (by decide) rfl ?_
  intro p e s m args below meth c s₁ B hml hv
  obtain ⟨⟨rfl, rfl, hP, hK, hD0⟩, hthS, hthN⟩ := hv
  have hx := B.exec
  have hb := B.bytes
  have hr := B.returns
  have hts : ∀ w9 ∈ ALLW, w9.before ([.ref (ad 0), .int (nI a), .ref o] : List Value).toArray s = true := fun w9 h => atoms_spec (ws := wl_La_register) B.pre w9 (List.mem_cons_of_mem _ (List.mem_append_left _ h))
  have hthy : ∀ w9 ∈ THY, w9.before ([.ref (ad 0), .int (nI a), .ref o] : List Value).toArray s = true := fun w9 h => atoms_spec (ws := wl_La_register) B.pre w9 (List.mem_cons_of_mem _ (List.mem_append_right _ h))
  have hown : s.vm.findClass R_La = some m.cls := findClass_of_methodNamed B.named
  have hlocks := B.notSynchronized
  have hD := hD0.self (sz := s.heap.size)
  generalize hAe : va_A (wX cI cJ ad o (u, x)) s.heap.size = A at hD ⊢
  have hA : ∀ q : Nat, s.heap.size ≤ q → A q := fun q h => by rw [← hAe]; exact Or.inr h
  have hS : va_S A s.heap s.heap [] := va_S.rf
  have hK1 : va_K (dC, dI) classes [(cI, .int)] s := kv_sub hK (fun k q hq => ⟨k, by cases k with | zero => exact hq | succ k => cases hq⟩)
  have hl := lv_entry ([.ref (ad 0), .int (nI a), .ref o]) (n := 4) (Nat.le_of_ble_eq_true rfl)
  rw [lg_entry_eq]
  generalize (lg_sl ([.ref (ad 0), .int (nI a), .ref o]) ++ List.replicate (4 - (lg_sl ([.ref (ad 0), .int (nI a), .ref o])).length) Slot.unset).toArray = ls at hl ⊢
  have hl : lv_has ls 4 [(0, .ref (ad 0)), (1, .int (nI a)), (2, .ref o)] := hl
  refine lv_aload_n hx hb d_La_register_0 rfl (lv_at hl 2 rfl) ?_
  refine lv_iconst hx hb d_La_register_1 rfl ?_
  refine lv_aload_n hx hb d_La_register_2 rfl (lv_at hl 0 rfl) ?_
  refine lv_iload_n hx hb d_La_register_3 rfl (lv_at hl 1 rfl) ?_
  refine callGi (Wd := wC cI ad) (z := u) (z' := u) (ot := [(o, .inl (cJ, 1, .inr (.inl x)))]) (tys := [(cI, .int)]) (va_runV (As := [.int (nI a)]) (rest := [.int 0, .ref o]) ⟨hx, hb, hml, hown, hts⟩ (c_SH_register l dC dI cI ad u a ha s.heap.size) (cwV 1 hts (goodV m_12_22 m_12_23 m_12_24 m_0_1 m_12_25) rfl rfl rfl (by decide +kernel) ⟨Nat.le_of_ble_eq_true rfl, Nat.le_of_ble_eq_true rfl⟩) ⟨preW_blind, va_recv hK hP (ci := 0) (q0 := 0) rfl rfl, preW_ok (pv_l hP) (dv_l hD) hK1⟩ rfl rfl hl.1 rfl (lv_room (Nat.le_of_ble_eq_true rfl)) d_La_register_4 ⟨Nat.zero_le _, Nat.zero_le _⟩) hP hD hS hA rfl (fun H locs hP hD hS => ?_)
  refine lv_i2l hx hb d_La_register_7 rfl ?_
  refine va_last hx hb hK hP hD hS 22 1 rfl rfl (vp_in_nI (n := 0) (by decide) (by decide)) d_La_register_8 (fun H locs hP hD hS => ?_)
  refine lv_goto (tgt := 15) hx hb d_La_register_9 (by decide) ?_
  refine lv_iconst hx hb d_La_register_15 rfl ?_
  exact retGi (Wd := wX cI cJ ad o) (z := (u, (vp_updL x 0 ((f_SH_register a u)).toInt64))) hx hb hr hP hK hD hS rfl rfl (by decide) (by decide) d_La_register_16 hlocks
set_option maxHeartbeats 4000000 in
set_option maxRecDepth 100000 in
theorem h_register_IOB (l : Launch) (hfl : l.flags = pinnedFlags ++ [noTraceFlag]) (dC : Nat → ClassId) (dI : Nat → Nat → Nat) (cI cJ : ClassId) (ad : Nat → Nat) (o : Nat) (u : S5) (x : Nat → Int64) (a : Int32) (ht : a < 0 ∨ ¬ a < 32) (sz : Nat) : Met l y_La_register wl_La_register rml_La_register (PreX (dC, dI) classes [(cI, .int), (cJ, .long)] (wX cI cJ ad o) (u, x) sz [.ref (ad 0), .int a, .ref o]) (QGi (dC, dI) classes [(cI, .int), (cJ, .long)] (wX cI cJ ad o) (va_A (wX cI cJ ad o (u, x)) sz) 1 (u, x)) 1 6 (va_A (wX cI cJ ad o (u, x)) sz) := by
  refine va_MetW (cc := b_La_register) (maxL := 4) (ret := some .int) (hh := [(0, 9, 12, 19)]) (by decide) rfl ?_
  intro p e s m args below meth c s₁ B hml hv
  obtain ⟨⟨rfl, rfl, hP, hK, hD0⟩, hthS, hthN⟩ := hv
  have hx := B.exec
  have hb := B.bytes
  have hr := B.returns
  have hts : ∀ w9 ∈ ALLW, w9.before ([.ref (ad 0), .int a, .ref o] : List Value).toArray s = true := fun w9 h => atoms_spec (ws := wl_La_register) B.pre w9 (List.mem_cons_of_mem _ (List.mem_append_left _ h))
  have hthy : ∀ w9 ∈ THY, w9.before ([.ref (ad 0), .int a, .ref o] : List Value).toArray s = true := fun w9 h => atoms_spec (ws := wl_La_register) B.pre w9 (List.mem_cons_of_mem _ (List.mem_append_right _ h))
  have hown : s.vm.findClass R_La = some m.cls := findClass_of_methodNamed B.named
  have hlocks := B.notSynchronized
  have hD := hD0.self (sz := s.heap.size)
  generalize hAe : va_A (wX cI cJ ad o (u, x)) s.heap.size = A at hD ⊢
  have hA : ∀ q : Nat, s.heap.size ≤ q → A q := fun q h => by rw [← hAe]; exact Or.inr h
  have hS : va_S A s.heap s.heap [] := va_S.rf
  have hK1 : va_K (dC, dI) classes [(cI, .int)] s := kv_sub hK (fun k q hq => ⟨k, by cases k with | zero => exact hq | succ k => cases hq⟩)
  have hmc : meth.code = some c := (Stand.of_body B).code
  obtain ⟨m9, meth9, c9, hn9, g1, g2, -, -, g5, -, -, -⟩ := Cond.codeWith_spec (atoms_spec (ws := wl_La_register) B.pre _ List.mem_cons_self)
  cases B.named.symm.trans hn9
  cases B.method.symm.trans g1
  cases hmc.symm.trans g2
  obtain ⟨x1, hsp, hh1⟩ := tbl1 g5
  have e1a : x1.startPc = 0 := congrArg (·.1) hh1
  have e1b : x1.endPc = 9 := congrArg (·.2.1) hh1
  have e1c : x1.handlerPc = 12 := congrArg (·.2.2.1) hh1
  have e1d : x1.catchType = 19 := congrArg (·.2.2.2) hh1
  have hl := lv_entry ([.ref (ad 0), .int a, .ref o]) (n := 4) (Nat.le_of_ble_eq_true rfl)
  rw [lg_entry_eq]
  generalize (lg_sl ([.ref (ad 0), .int a, .ref o]) ++ List.replicate (4 - (lg_sl ([.ref (ad 0), .int a, .ref o])).length) Slot.unset).toArray = ls at hl ⊢
  have hl : lv_has ls 4 [(0, .ref (ad 0)), (1, .int a), (2, .ref o)] := hl
  refine lv_aload_n hx hb d_La_register_0 rfl (lv_at hl 2 rfl) ?_
  refine lv_iconst hx hb d_La_register_1 rfl ?_
  refine lv_aload_n hx hb d_La_register_2 rfl (lv_at hl 0 rfl) ?_
  refine lv_iload_n hx hb d_La_register_3 rfl (lv_at hl 1 rfl) ?_
  obtain ⟨cellB, k1, k2, k3⟩ := va_recv hK hP (ci := 0) (q0 := 0) rfl rfl
  refine callT1 (h1 := x1) (t := []) (As := [.int a]) (rest := [.int 0, .ref o]) hx hb (hl.1.trans hml.symm) (t_SH_register_IOB l hfl dC dI cI ad u a ht s.heap.size) preT_blind hown (hts _ m_12_22) (hts _ m_12_23) (hts _ m_12_24) (hts _ m_0_1) (thy_at hts hthy m_12_25) List.mem_cons_self (by decide) ⟨by decide, by decide, rfl, rfl, by decide, by decide⟩ k1 k2 k3 (fun sig h => by cases h; rfl) (Nat.le_of_ble_eq_true rfl) d_La_register_4 (fun U hU hW => ⟨preW_ok (pv_l hP) (dv_l hD) hK1 U hU hW, thS_moved hW.alike (fun q _ => by rw [hU]) hthS⟩) hsp (by simp [covers, e1a, e1b]) (by rw [e1d]; decide) (by rw [e1d]; exact hthy _ (by simp [THY])) (hthy _ (by simp [THY])) (fun x9 H1 hz hk => ?_)
  rw [e1c]
  refine lv_astore_n hx hb d_La_register_12 rfl hl (by decide) rfl (fun ls hl => ?_)
  refine lv_iconst hx hb d_La_register_13 rfl ?_
  exact retGi (Wd := wX cI cJ ad o) (z := (u, x)) hx hb hr (keptP hP hk) hK hD (keptS hS hz hk) rfl rfl (by decide) (by decide) d_La_register_14 hlocks
def wl_La_unknown : List Cond := .codeWith y_La_unknown b_La_unknown 4 (some .int) [(0, 9, 12, 19)] :: (ALLW ++ THY)
def rml_La_unknown : Room := { frames := 100, cells := 1, slots := 6, locals := 4000 }
theorem d_La_unknown_0 : decode b_La_unknown 0 = .ok (.aload_n 2, 1) := by decide +kernel
theorem d_La_unknown_1 : decode b_La_unknown 1 = .ok (.iconst 0, 1) := by decide +kernel
theorem d_La_unknown_2 : decode b_La_unknown 2 = .ok (.aload_n 0, 1) := by decide +kernel
theorem d_La_unknown_3 : decode b_La_unknown 3 = .ok (.iload_n 1, 1) := by decide +kernel
theorem d_La_unknown_4 : decode b_La_unknown 4 = .ok (.invokevirtual 28, 3) := by decide +kernel
theorem d_La_unknown_7 : decode b_La_unknown 7 = .ok (.i2l, 1) := by decide +kernel
theorem d_La_unknown_8 : decode b_La_unknown 8 = .ok (.lastore, 1) := by decide +kernel
theorem d_La_unknown_9 : decode b_La_unknown 9 = .ok (.goto 6, 3) := by decide +kernel
theorem d_La_unknown_12 : decode b_La_unknown 12 = .ok (.astore_n 3, 1) := by decide +kernel
theorem d_La_unknown_13 : decode b_La_unknown 13 = .ok (.iconst 1, 1) := by decide +kernel
theorem d_La_unknown_14 : decode b_La_unknown 14 = .ok (.ireturn, 1) := by decide +kernel
theorem d_La_unknown_15 : decode b_La_unknown 15 = .ok (.iconst 0, 1) := by decide +kernel
theorem d_La_unknown_16 : decode b_La_unknown 16 = .ok (.ireturn, 1) := by decide +kernel
set_option maxHeartbeats 4000000 in
set_option maxRecDepth 100000 in
theorem h_unknown_ok (l : Launch) (hfl : l.flags = pinnedFlags ++ [noTraceFlag]) (dC : Nat → ClassId) (dI : Nat → Nat → Nat) (cI cJ : ClassId) (ad : Nat → Nat) (o : Nat) (u : S5) (x : Nat → Int64) (a : Nat) (ha : a < 32) (sz : Nat) : Met l y_La_unknown wl_La_unknown rml_La_unknown (PreX (dC, dI) classes [(cI, .int), (cJ, .long)] (wX cI cJ ad o) (u, x) sz [.ref (ad 0), .int (nI a), .ref o]) (QGi (dC, dI) classes [(cI, .int), (cJ, .long)] (wX cI cJ ad o) (va_A (wX cI cJ ad o (u, x)) sz) 0 (u, (vp_updL x 0 ((f_SH_unknown a u)).toInt64))) 1 6 (va_A (wX cI cJ ad o (u, x)) sz) := by
  refine va_MetW (cc := b_La_unknown) (maxL := 4) (ret := some .int) (hh := [(0, 9, 12, 19)]) (by decide) rfl ?_
  intro p e s m args below meth c s₁ B hml hv
  obtain ⟨⟨rfl, rfl, hP, hK, hD0⟩, hthS, hthN⟩ := hv
  have hx := B.exec
  have hb := B.bytes
  have hr := B.returns
  have hts : ∀ w9 ∈ ALLW, w9.before ([.ref (ad 0), .int (nI a), .ref o] : List Value).toArray s = true := fun w9 h => atoms_spec (ws := wl_La_unknown) B.pre w9 (List.mem_cons_of_mem _ (List.mem_append_left _ h))
  have hthy : ∀ w9 ∈ THY, w9.before ([.ref (ad 0), .int (nI a), .ref o] : List Value).toArray s = true := fun w9 h => atoms_spec (ws := wl_La_unknown) B.pre w9 (List.mem_cons_of_mem _ (List.mem_append_right _ h))
  have hown : s.vm.findClass R_La = some m.cls := findClass_of_methodNamed B.named
  have hlocks := B.notSynchronized
  have hD := hD0.self (sz := s.heap.size)
  generalize hAe : va_A (wX cI cJ ad o (u, x)) s.heap.size = A at hD ⊢
  have hA : ∀ q : Nat, s.heap.size ≤ q → A q := fun q h => by rw [← hAe]; exact Or.inr h
  have hS : va_S A s.heap s.heap [] := va_S.rf
  have hK1 : va_K (dC, dI) classes [(cI, .int)] s := kv_sub hK (fun k q hq => ⟨k, by cases k with | zero => exact hq | succ k => cases hq⟩)
  have hl := lv_entry ([.ref (ad 0), .int (nI a), .ref o]) (n := 4) (Nat.le_of_ble_eq_true rfl)
  rw [lg_entry_eq]
  generalize (lg_sl ([.ref (ad 0), .int (nI a), .ref o]) ++ List.replicate (4 - (lg_sl ([.ref (ad 0), .int (nI a), .ref o])).length) Slot.unset).toArray = ls at hl ⊢
  have hl : lv_has ls 4 [(0, .ref (ad 0)), (1, .int (nI a)), (2, .ref o)] := hl
  refine lv_aload_n hx hb d_La_unknown_0 rfl (lv_at hl 2 rfl) ?_
  refine lv_iconst hx hb d_La_unknown_1 rfl ?_
  refine lv_aload_n hx hb d_La_unknown_2 rfl (lv_at hl 0 rfl) ?_
  refine lv_iload_n hx hb d_La_unknown_3 rfl (lv_at hl 1 rfl) ?_
  refine callGi (Wd := wC cI ad) (z := u) (z' := u) (ot := [(o, .inl (cJ, 1, .inr (.inl x)))]) (tys := [(cI, .int)]) (va_runV (As := [.int (nI a)]) (rest := [.int 0, .ref o]) ⟨hx, hb, hml, hown, hts⟩ (c_SH_unknown l dC dI cI ad u a ha s.heap.size) (cwV 1 hts (goodV m_12_28 m_12_29 m_12_30 m_0_1 m_12_31) rfl rfl rfl (by decide +kernel) ⟨Nat.le_of_ble_eq_true rfl, Nat.le_of_ble_eq_true rfl⟩) ⟨preW_blind, va_recv hK hP (ci := 0) (q0 := 0) rfl rfl, preW_ok (pv_l hP) (dv_l hD) hK1⟩ rfl rfl hl.1 rfl (lv_room (Nat.le_of_ble_eq_true rfl)) d_La_unknown_4 ⟨Nat.zero_le _, Nat.zero_le _⟩) hP hD hS hA rfl (fun H locs hP hD hS => ?_)
  refine lv_i2l hx hb d_La_unknown_7 rfl ?_
  refine va_last hx hb hK hP hD hS 22 1 rfl rfl (vp_in_nI (n := 0) (by decide) (by decide)) d_La_unknown_8 (fun H locs hP hD hS => ?_)
  refine lv_goto (tgt := 15) hx hb d_La_unknown_9 (by decide) ?_
  refine lv_iconst hx hb d_La_unknown_15 rfl ?_
  exact retGi (Wd := wX cI cJ ad o) (z := (u, (vp_updL x 0 ((f_SH_unknown a u)).toInt64))) hx hb hr hP hK hD hS rfl rfl (by decide) (by decide) d_La_unknown_16 hlocks
set_option maxHeartbeats 4000000 in
set_option maxRecDepth 100000 in
theorem h_unknown_IOB (l : Launch) (hfl : l.flags = pinnedFlags ++ [noTraceFlag]) (dC : Nat → ClassId) (dI : Nat → Nat → Nat) (cI cJ : ClassId) (ad : Nat → Nat) (o : Nat) (u : S5) (x : Nat → Int64) (a : Int32) (ht : a < 0 ∨ ¬ a < 32) (sz : Nat) : Met l y_La_unknown wl_La_unknown rml_La_unknown (PreX (dC, dI) classes [(cI, .int), (cJ, .long)] (wX cI cJ ad o) (u, x) sz [.ref (ad 0), .int a, .ref o]) (QGi (dC, dI) classes [(cI, .int), (cJ, .long)] (wX cI cJ ad o) (va_A (wX cI cJ ad o (u, x)) sz) 1 (u, x)) 1 6 (va_A (wX cI cJ ad o (u, x)) sz) := by
  refine va_MetW (cc := b_La_unknown) (maxL := 4) (ret := some .int) (hh := [(0, 9, 12, 19)]) (by decide) rfl ?_
  intro p e s m args below meth c s₁ B hml hv
  obtain ⟨⟨rfl, rfl, hP, hK, hD0⟩, hthS, hthN⟩ := hv
  have hx := B.exec
  have hb := B.bytes
  have hr := B.returns
  have hts : ∀ w9 ∈ ALLW, w9.before ([.ref (ad 0), .int a, .ref o] : List Value).toArray s = true := fun w9 h => atoms_spec (ws := wl_La_unknown) B.pre w9 (List.mem_cons_of_mem _ (List.mem_append_left _ h))
  have hthy : ∀ w9 ∈ THY, w9.before ([.ref (ad 0), .int a, .ref o] : List Value).toArray s = true := fun w9 h => atoms_spec (ws := wl_La_unknown) B.pre w9 (List.mem_cons_of_mem _ (List.mem_append_right _ h))
  have hown : s.vm.findClass R_La = some m.cls := findClass_of_methodNamed B.named
  have hlocks := B.notSynchronized
  have hD := hD0.self (sz := s.heap.size)
  generalize hAe : va_A (wX cI cJ ad o (u, x)) s.heap.size = A at hD ⊢
  have hA : ∀ q : Nat, s.heap.size ≤ q → A q := fun q h => by rw [← hAe]; exact Or.inr h
  have hS : va_S A s.heap s.heap [] := va_S.rf
  have hK1 : va_K (dC, dI) classes [(cI, .int)] s := kv_sub hK (fun k q hq => ⟨k, by cases k with | zero => exact hq | succ k => cases hq⟩)
  have hmc : meth.code = some c := (Stand.of_body B).code
  obtain ⟨m9, meth9, c9, hn9, g1, g2, -, -, g5, -, -, -⟩ := Cond.codeWith_spec (atoms_spec (ws := wl_La_unknown) B.pre _ List.mem_cons_self)
  cases B.named.symm.trans hn9
  cases B.method.symm.trans g1
  cases hmc.symm.trans g2
  obtain ⟨x1, hsp, hh1⟩ := tbl1 g5
  have e1a : x1.startPc = 0 := congrArg (·.1) hh1
  have e1b : x1.endPc = 9 := congrArg (·.2.1) hh1
  have e1c : x1.handlerPc = 12 := congrArg (·.2.2.1) hh1
  have e1d : x1.catchType = 19 := congrArg (·.2.2.2) hh1
  have hl := lv_entry ([.ref (ad 0), .int a, .ref o]) (n := 4) (Nat.le_of_ble_eq_true rfl)
  rw [lg_entry_eq]
  generalize (lg_sl ([.ref (ad 0), .int a, .ref o]) ++ List.replicate (4 - (lg_sl ([.ref (ad 0), .int a, .ref o])).length) Slot.unset).toArray = ls at hl ⊢
  have hl : lv_has ls 4 [(0, .ref (ad 0)), (1, .int a), (2, .ref o)] := hl
  refine lv_aload_n hx hb d_La_unknown_0 rfl (lv_at hl 2 rfl) ?_
  refine lv_iconst hx hb d_La_unknown_1 rfl ?_
  refine lv_aload_n hx hb d_La_unknown_2 rfl (lv_at hl 0 rfl) ?_
  refine lv_iload_n hx hb d_La_unknown_3 rfl (lv_at hl 1 rfl) ?_
  obtain ⟨cellB, k1, k2, k3⟩ := va_recv hK hP (ci := 0) (q0 := 0) rfl rfl
  refine callT1 (h1 := x1) (t := []) (As := [.int a]) (rest := [.int 0, .ref o]) hx hb (hl.1.trans hml.symm) (t_SH_unknown_IOB l hfl dC dI cI ad u a ht s.heap.size) preT_blind hown (hts _ m_12_28) (hts _ m_12_29) (hts _ m_12_30) (hts _ m_0_1) (thy_at hts hthy m_12_31) List.mem_cons_self (by decide) ⟨by decide, by decide, rfl, rfl, by decide, by decide⟩ k1 k2 k3 (fun sig h => by cases h; rfl) (Nat.le_of_ble_eq_true rfl) d_La_unknown_4 (fun U hU hW => ⟨preW_ok (pv_l hP) (dv_l hD) hK1 U hU hW, thS_moved hW.alike (fun q _ => by rw [hU]) hthS⟩) hsp (by simp [covers, e1a, e1b]) (by rw [e1d]; decide) (by rw [e1d]; exact hthy _ (by simp [THY])) (hthy _ (by simp [THY])) (fun x9 H1 hz hk => ?_)
  rw [e1c]
  refine lv_astore_n hx hb d_La_unknown_12 rfl hl (by decide) rfl (fun ls hl => ?_)
  refine lv_iconst hx hb d_La_unknown_13 rfl ?_
  exact retGi (Wd := wX cI cJ ad o) (z := (u, x)) hx hb hr (keptP hP hk) hK hD (keptS hS hz hk) rfl rfl (by decide) (by decide) d_La_unknown_14 hlocks
def wl_La_memory : List Cond := .codeWith y_La_memory b_La_memory 4 (some .int) [(0, 9, 12, 19)] :: (ALLW ++ THY)
def rml_La_memory : Room := { frames := 100, cells := 1, slots := 6, locals := 4000 }
theorem d_La_memory_0 : decode b_La_memory 0 = .ok (.aload_n 2, 1) := by decide +kernel
theorem d_La_memory_1 : decode b_La_memory 1 = .ok (.iconst 0, 1) := by decide +kernel
theorem d_La_memory_2 : decode b_La_memory 2 = .ok (.aload_n 0, 1) := by decide +kernel
theorem d_La_memory_3 : decode b_La_memory 3 = .ok (.iload_n 1, 1) := by decide +kernel
theorem d_La_memory_4 : decode b_La_memory 4 = .ok (.invokevirtual 31, 3) := by decide +kernel
theorem d_La_memory_7 : decode b_La_memory 7 = .ok (.i2l, 1) := by decide +kernel
theorem d_La_memory_8 : decode b_La_memory 8 = .ok (.lastore, 1) := by decide +kernel
theorem d_La_memory_9 : decode b_La_memory 9 = .ok (.goto 6, 3) := by decide +kernel
theorem d_La_memory_12 : decode b_La_memory 12 = .ok (.astore_n 3, 1) := by decide +kernel
theorem d_La_memory_13 : decode b_La_memory 13 = .ok (.iconst 1, 1) := by decide +kernel
theorem d_La_memory_14 : decode b_La_memory 14 = .ok (.ireturn, 1) := by decide +kernel
theorem d_La_memory_15 : decode b_La_memory 15 = .ok (.iconst 0, 1) := by decide +kernel
theorem d_La_memory_16 : decode b_La_memory 16 = .ok (.ireturn, 1) := by decide +kernel
set_option maxHeartbeats 4000000 in
set_option maxRecDepth 100000 in
theorem h_memory_ok (l : Launch) (hfl : l.flags = pinnedFlags ++ [noTraceFlag]) (dC : Nat → ClassId) (dI : Nat → Nat → Nat) (cI cJ : ClassId) (ad : Nat → Nat) (o : Nat) (u : S5) (x : Nat → Int64) (a : Nat) (ha : a < 65536) (sz : Nat) : Met l y_La_memory wl_La_memory rml_La_memory (PreX (dC, dI) classes [(cI, .int), (cJ, .long)] (wX cI cJ ad o) (u, x) sz [.ref (ad 0), .int (nI a), .ref o]) (QGi (dC, dI) classes [(cI, .int), (cJ, .long)] (wX cI cJ ad o) (va_A (wX cI cJ ad o (u, x)) sz) 0 (u, (vp_updL x 0 ((f_SH_memory a u)).toInt64))) 1 6 (va_A (wX cI cJ ad o (u, x)) sz) := by
  refine va_MetW (cc := b_La_memory) (maxL := 4) (ret := some .int) (hh := [(0, 9, 12, 19)]) (by decide) rfl ?_
  intro p e s m args below meth c s₁ B hml hv
  obtain ⟨⟨rfl, rfl, hP, hK, hD0⟩, hthS, hthN⟩ := hv
  have hx := B.exec
  have hb := B.bytes
  have hr := B.returns
  have hts : ∀ w9 ∈ ALLW, w9.before ([.ref (ad 0), .int (nI a), .ref o] : List Value).toArray s = true := fun w9 h => atoms_spec (ws := wl_La_memory) B.pre w9 (List.mem_cons_of_mem _ (List.mem_append_left _ h))
  have hthy : ∀ w9 ∈ THY, w9.before ([.ref (ad 0), .int (nI a), .ref o] : List Value).toArray s = true := fun w9 h => atoms_spec (ws := wl_La_memory) B.pre w9 (List.mem_cons_of_mem _ (List.mem_append_right _ h))
  have hown : s.vm.findClass R_La = some m.cls := findClass_of_methodNamed B.named
  have hlocks := B.notSynchronized
  have hD := hD0.self (sz := s.heap.size)
  generalize hAe : va_A (wX cI cJ ad o (u, x)) s.heap.size = A at hD ⊢
  have hA : ∀ q : Nat, s.heap.size ≤ q → A q := fun q h => by rw [← hAe]; exact Or.inr h
  have hS : va_S A s.heap s.heap [] := va_S.rf
  have hK1 : va_K (dC, dI) classes [(cI, .int)] s := kv_sub hK (fun k q hq => ⟨k, by cases k with | zero => exact hq | succ k => cases hq⟩)
  have hl := lv_entry ([.ref (ad 0), .int (nI a), .ref o]) (n := 4) (Nat.le_of_ble_eq_true rfl)
  rw [lg_entry_eq]
  generalize (lg_sl ([.ref (ad 0), .int (nI a), .ref o]) ++ List.replicate (4 - (lg_sl ([.ref (ad 0), .int (nI a), .ref o])).length) Slot.unset).toArray = ls at hl ⊢
  have hl : lv_has ls 4 [(0, .ref (ad 0)), (1, .int (nI a)), (2, .ref o)] := hl
  refine lv_aload_n hx hb d_La_memory_0 rfl (lv_at hl 2 rfl) ?_
  refine lv_iconst hx hb d_La_memory_1 rfl ?_
  refine lv_aload_n hx hb d_La_memory_2 rfl (lv_at hl 0 rfl) ?_
  refine lv_iload_n hx hb d_La_memory_3 rfl (lv_at hl 1 rfl) ?_
  refine callGi (Wd := wC cI ad) (z := u) (z' := u) (ot := [(o, .inl (cJ, 1, .inr (.inl x)))]) (tys := [(cI, .int)]) (va_runV (As := [.int (nI a)]) (rest := [.int 0, .ref o]) ⟨hx, hb, hml, hown, hts⟩ (c_SH_memory l dC dI cI ad u a ha s.heap.size) (cwV 1 hts (goodV m_12_34 m_12_35 m_12_36 m_0_1 m_12_37) rfl rfl rfl (by decide +kernel) ⟨Nat.le_of_ble_eq_true rfl, Nat.le_of_ble_eq_true rfl⟩) ⟨preW_blind, va_recv hK hP (ci := 0) (q0 := 0) rfl rfl, preW_ok (pv_l hP) (dv_l hD) hK1⟩ rfl rfl hl.1 rfl (lv_room (Nat.le_of_ble_eq_true rfl)) d_La_memory_4 ⟨Nat.zero_le _, Nat.zero_le _⟩) hP hD hS hA rfl (fun H locs hP hD hS => ?_)
  refine lv_i2l hx hb d_La_memory_7 rfl ?_
  refine va_last hx hb hK hP hD hS 22 1 rfl rfl (vp_in_nI (n := 0) (by decide) (by decide)) d_La_memory_8 (fun H locs hP hD hS => ?_)
  refine lv_goto (tgt := 15) hx hb d_La_memory_9 (by decide) ?_
  refine lv_iconst hx hb d_La_memory_15 rfl ?_
  exact retGi (Wd := wX cI cJ ad o) (z := (u, (vp_updL x 0 ((f_SH_memory a u)).toInt64))) hx hb hr hP hK hD hS rfl rfl (by decide) (by decide) d_La_memory_16 hlocks
set_option maxHeartbeats 4000000 in
set_option maxRecDepth 100000 in
theorem h_memory_IOB (l : Launch) (hfl : l.flags = pinnedFlags ++ [noTraceFlag]) (dC : Nat → ClassId) (dI : Nat → Nat → Nat) (cI cJ : ClassId) (ad : Nat → Nat) (o : Nat) (u : S5) (x : Nat → Int64) (a : Int32) (ht : a < 0 ∨ ¬ a < 65536) (sz : Nat) : Met l y_La_memory wl_La_memory rml_La_memory (PreX (dC, dI) classes [(cI, .int), (cJ, .long)] (wX cI cJ ad o) (u, x) sz [.ref (ad 0), .int a, .ref o]) (QGi (dC, dI) classes [(cI, .int), (cJ, .long)] (wX cI cJ ad o) (va_A (wX cI cJ ad o (u, x)) sz) 1 (u, x)) 1 6 (va_A (wX cI cJ ad o (u, x)) sz) := by
  refine va_MetW (cc := b_La_memory) (maxL := 4) (ret := some .int) (hh := [(0, 9, 12, 19)]) (by decide) rfl ?_
  intro p e s m args below meth c s₁ B hml hv
  obtain ⟨⟨rfl, rfl, hP, hK, hD0⟩, hthS, hthN⟩ := hv
  have hx := B.exec
  have hb := B.bytes
  have hr := B.returns
  have hts : ∀ w9 ∈ ALLW, w9.before ([.ref (ad 0), .int a, .ref o] : List Value).toArray s = true := fun w9 h => atoms_spec (ws := wl_La_memory) B.pre w9 (List.mem_cons_of_mem _ (List.mem_append_left _ h))
  have hthy : ∀ w9 ∈ THY, w9.before ([.ref (ad 0), .int a, .ref o] : List Value).toArray s = true := fun w9 h => atoms_spec (ws := wl_La_memory) B.pre w9 (List.mem_cons_of_mem _ (List.mem_append_right _ h))
  have hown : s.vm.findClass R_La = some m.cls := findClass_of_methodNamed B.named
  have hlocks := B.notSynchronized
  have hD := hD0.self (sz := s.heap.size)
  generalize hAe : va_A (wX cI cJ ad o (u, x)) s.heap.size = A at hD ⊢
  have hA : ∀ q : Nat, s.heap.size ≤ q → A q := fun q h => by rw [← hAe]; exact Or.inr h
  have hS : va_S A s.heap s.heap [] := va_S.rf
  have hK1 : va_K (dC, dI) classes [(cI, .int)] s := kv_sub hK (fun k q hq => ⟨k, by cases k with | zero => exact hq | succ k => cases hq⟩)
  have hmc : meth.code = some c := (Stand.of_body B).code
  obtain ⟨m9, meth9, c9, hn9, g1, g2, -, -, g5, -, -, -⟩ := Cond.codeWith_spec (atoms_spec (ws := wl_La_memory) B.pre _ List.mem_cons_self)
  cases B.named.symm.trans hn9
  cases B.method.symm.trans g1
  cases hmc.symm.trans g2
  obtain ⟨x1, hsp, hh1⟩ := tbl1 g5
  have e1a : x1.startPc = 0 := congrArg (·.1) hh1
  have e1b : x1.endPc = 9 := congrArg (·.2.1) hh1
  have e1c : x1.handlerPc = 12 := congrArg (·.2.2.1) hh1
  have e1d : x1.catchType = 19 := congrArg (·.2.2.2) hh1
  have hl := lv_entry ([.ref (ad 0), .int a, .ref o]) (n := 4) (Nat.le_of_ble_eq_true rfl)
  rw [lg_entry_eq]
  generalize (lg_sl ([.ref (ad 0), .int a, .ref o]) ++ List.replicate (4 - (lg_sl ([.ref (ad 0), .int a, .ref o])).length) Slot.unset).toArray = ls at hl ⊢
  have hl : lv_has ls 4 [(0, .ref (ad 0)), (1, .int a), (2, .ref o)] := hl
  refine lv_aload_n hx hb d_La_memory_0 rfl (lv_at hl 2 rfl) ?_
  refine lv_iconst hx hb d_La_memory_1 rfl ?_
  refine lv_aload_n hx hb d_La_memory_2 rfl (lv_at hl 0 rfl) ?_
  refine lv_iload_n hx hb d_La_memory_3 rfl (lv_at hl 1 rfl) ?_
  obtain ⟨cellB, k1, k2, k3⟩ := va_recv hK hP (ci := 0) (q0 := 0) rfl rfl
  refine callT1 (h1 := x1) (t := []) (As := [.int a]) (rest := [.int 0, .ref o]) hx hb (hl.1.trans hml.symm) (t_SH_memory_IOB l hfl dC dI cI ad u a ht s.heap.size) preT_blind hown (hts _ m_12_34) (hts _ m_12_35) (hts _ m_12_36) (hts _ m_0_1) (thy_at hts hthy m_12_37) List.mem_cons_self (by decide) ⟨by decide, by decide, rfl, rfl, by decide, by decide⟩ k1 k2 k3 (fun sig h => by cases h; rfl) (Nat.le_of_ble_eq_true rfl) d_La_memory_4 (fun U hU hW => ⟨preW_ok (pv_l hP) (dv_l hD) hK1 U hU hW, thS_moved hW.alike (fun q _ => by rw [hU]) hthS⟩) hsp (by simp [covers, e1a, e1b]) (by rw [e1d]; decide) (by rw [e1d]; exact hthy _ (by simp [THY])) (hthy _ (by simp [THY])) (fun x9 H1 hz hk => ?_)
  rw [e1c]
  refine lv_astore_n hx hb d_La_memory_12 rfl hl (by decide) rfl (fun ls hl => ?_)
  refine lv_iconst hx hb d_La_memory_13 rfl ?_
  exact retGi (Wd := wX cI cJ ad o) (z := (u, x)) hx hb hr (keptP hP hk) hK hD (keptS hS hz hk) rfl rfl (by decide) (by decide) d_La_memory_14 hlocks
def wl_La_error : List Cond := .codeWith y_La_error b_La_error 5 (some .int) [(0, 10, 13, 13), (0, 10, 17, 19)] :: (ALLW ++ THY)
def rml_La_error : Room := { frames := 100, cells := 1, slots := 6, locals := 4000 }
theorem d_La_error_0 : decode b_La_error 0 = .ok (.aload_n 3, 1) := by decide +kernel
theorem d_La_error_1 : decode b_La_error 1 = .ok (.iconst 0, 1) := by decide +kernel
theorem d_La_error_2 : decode b_La_error 2 = .ok (.aload_n 0, 1) := by decide +kernel
theorem d_La_error_3 : decode b_La_error 3 = .ok (.iload_n 1, 1) := by decide +kernel
theorem d_La_error_4 : decode b_La_error 4 = .ok (.iload_n 2, 1) := by decide +kernel
theorem d_La_error_5 : decode b_La_error 5 = .ok (.invokevirtual 34, 3) := by decide +kernel
theorem d_La_error_8 : decode b_La_error 8 = .ok (.i2l, 1) := by decide +kernel
theorem d_La_error_9 : decode b_La_error 9 = .ok (.lastore, 1) := by decide +kernel
theorem d_La_error_10 : decode b_La_error 10 = .ok (.goto 11, 3) := by decide +kernel
theorem d_La_error_13 : decode b_La_error 13 = .ok (.astore 4, 2) := by decide +kernel
theorem d_La_error_15 : decode b_La_error 15 = .ok (.iconst 1, 1) := by decide +kernel
theorem d_La_error_16 : decode b_La_error 16 = .ok (.ireturn, 1) := by decide +kernel
theorem d_La_error_17 : decode b_La_error 17 = .ok (.astore 4, 2) := by decide +kernel
theorem d_La_error_19 : decode b_La_error 19 = .ok (.iconst 2, 1) := by decide +kernel
theorem d_La_error_20 : decode b_La_error 20 = .ok (.ireturn, 1) := by decide +kernel
theorem d_La_error_21 : decode b_La_error 21 = .ok (.iconst 0, 1) := by decide +kernel
theorem d_La_error_22 : decode b_La_error 22 = .ok (.ireturn, 1) := by decide +kernel
set_option maxHeartbeats 4000000 in
set_option maxRecDepth 100000 in
theorem h_error_ok (l : Launch) (hfl : l.flags = pinnedFlags ++ [noTraceFlag]) (dC : Nat → ClassId) (dI : Nat → Nat → Nat) (cI cJ : ClassId) (ad : Nat → Nat) (o : Nat) (u : S5) (x : Nat → Int64) (a : Nat) (q : Nat) (hq7 : q < 7) (ha : a < gN u 0) (h60 : gN u 0 ≤ 60) (sz : Nat) : Met l y_La_error wl_La_error rml_La_error (PreX (dC, dI) classes [(cI, .int), (cJ, .long)] (wX cI cJ ad o) (u, x) sz [.ref (ad 0), .int (nI a), .int (nI q), .ref o]) (QGi (dC, dI) classes [(cI, .int), (cJ, .long)] (wX cI cJ ad o) (va_A (wX cI cJ ad o (u, x)) sz) 0 (u, (vp_updL x 0 ((f_SH_error a q u)).toInt64))) 1 6 (va_A (wX cI cJ ad o (u, x)) sz) := by
  refine va_MetW (cc := b_La_error) (maxL := 5) (ret := some .int) (hh := [(0, 10, 13, 13), (0, 10, 17, 19)]) (by decide) rfl ?_
  intro p e s m args below meth c s₁ B hml hv
  obtain ⟨⟨rfl, rfl, hP, hK, hD0⟩, hthS, hthN⟩ := hv
  have hx := B.exec
  have hb := B.bytes
  have hr := B.returns
  have hts : ∀ w9 ∈ ALLW, w9.before ([.ref (ad 0), .int (nI a), .int (nI q), .ref o] : List Value).toArray s = true := fun w9 h => atoms_spec (ws := wl_La_error) B.pre w9 (List.mem_cons_of_mem _ (List.mem_append_left _ h))
  have hthy : ∀ w9 ∈ THY, w9.before ([.ref (ad 0), .int (nI a), .int (nI q), .ref o] : List Value).toArray s = true := fun w9 h => atoms_spec (ws := wl_La_error) B.pre w9 (List.mem_cons_of_mem _ (List.mem_append_right _ h))
  have hown : s.vm.findClass R_La = some m.cls := findClass_of_methodNamed B.named
  have hlocks := B.notSynchronized
  have hD := hD0.self (sz := s.heap.size)
  generalize hAe : va_A (wX cI cJ ad o (u, x)) s.heap.size = A at hD ⊢
  have hA : ∀ q : Nat, s.heap.size ≤ q → A q := fun q h => by rw [← hAe]; exact Or.inr h
  have hS : va_S A s.heap s.heap [] := va_S.rf
  have hK1 : va_K (dC, dI) classes [(cI, .int)] s := kv_sub hK (fun k q hq => ⟨k, by cases k with | zero => exact hq | succ k => cases hq⟩)
  have hl := lv_entry ([.ref (ad 0), .int (nI a), .int (nI q), .ref o]) (n := 5) (Nat.le_of_ble_eq_true rfl)
  rw [lg_entry_eq]
  generalize (lg_sl ([.ref (ad 0), .int (nI a), .int (nI q), .ref o]) ++ List.replicate (5 - (lg_sl ([.ref (ad 0), .int (nI a), .int (nI q), .ref o])).length) Slot.unset).toArray = ls at hl ⊢
  have hl : lv_has ls 5 [(0, .ref (ad 0)), (1, .int (nI a)), (2, .int (nI q)), (3, .ref o)] := hl
  refine lv_aload_n hx hb d_La_error_0 rfl (lv_at hl 3 rfl) ?_
  refine lv_iconst hx hb d_La_error_1 rfl ?_
  refine lv_aload_n hx hb d_La_error_2 rfl (lv_at hl 0 rfl) ?_
  refine lv_iload_n hx hb d_La_error_3 rfl (lv_at hl 1 rfl) ?_
  refine lv_iload_n hx hb d_La_error_4 rfl (lv_at hl 2 rfl) ?_
  refine callGi (Wd := wC cI ad) (z := u) (z' := u) (ot := [(o, .inl (cJ, 1, .inr (.inl x)))]) (tys := [(cI, .int)]) (va_runV (As := [.int (nI a), .int (nI q)]) (rest := [.int 0, .ref o]) ⟨hx, hb, hml, hown, hts⟩ (c_SH_error l dC dI cI ad u a q hq7 ha h60 s.heap.size) (cwV 2 hts (goodV m_13_1 m_13_2 m_13_3 m_0_1 m_13_4) rfl rfl rfl (by decide +kernel) ⟨Nat.le_of_ble_eq_true rfl, Nat.le_of_ble_eq_true rfl⟩) ⟨preW_blind, va_recv hK hP (ci := 0) (q0 := 0) rfl rfl, preW_ok (pv_l hP) (dv_l hD) hK1⟩ rfl rfl hl.1 rfl (lv_room (Nat.le_of_ble_eq_true rfl)) d_La_error_5 ⟨Nat.zero_le _, Nat.zero_le _⟩) hP hD hS hA rfl (fun H locs hP hD hS => ?_)
  refine lv_i2l hx hb d_La_error_8 rfl ?_
  refine va_last hx hb hK hP hD hS 22 1 rfl rfl (vp_in_nI (n := 0) (by decide) (by decide)) d_La_error_9 (fun H locs hP hD hS => ?_)
  refine lv_goto (tgt := 21) hx hb d_La_error_10 (by decide) ?_
  refine lv_iconst hx hb d_La_error_21 rfl ?_
  exact retGi (Wd := wX cI cJ ad o) (z := (u, (vp_updL x 0 ((f_SH_error a q u)).toInt64))) hx hb hr hP hK hD hS rfl rfl (by decide) (by decide) d_La_error_22 hlocks
set_option maxHeartbeats 4000000 in
set_option maxRecDepth 100000 in
theorem h_error_IAE (l : Launch) (hfl : l.flags = pinnedFlags ++ [noTraceFlag]) (dC : Nat → ClassId) (dI : Nat → Nat → Nat) (cI cJ : ClassId) (ad : Nat → Nat) (o : Nat) (u : S5) (x : Nat → Int64) (a : Int32) (q : Int32) (ht : q < 0 ∨ ¬ q < 7) (sz : Nat) : Met l y_La_error wl_La_error rml_La_error (PreX (dC, dI) classes [(cI, .int), (cJ, .long)] (wX cI cJ ad o) (u, x) sz [.ref (ad 0), .int a, .int q, .ref o]) (QGi (dC, dI) classes [(cI, .int), (cJ, .long)] (wX cI cJ ad o) (va_A (wX cI cJ ad o (u, x)) sz) 1 (u, x)) 1 6 (va_A (wX cI cJ ad o (u, x)) sz) := by
  refine va_MetW (cc := b_La_error) (maxL := 5) (ret := some .int) (hh := [(0, 10, 13, 13), (0, 10, 17, 19)]) (by decide) rfl ?_
  intro p e s m args below meth c s₁ B hml hv
  obtain ⟨⟨rfl, rfl, hP, hK, hD0⟩, hthS, hthN⟩ := hv
  have hx := B.exec
  have hb := B.bytes
  have hr := B.returns
  have hts : ∀ w9 ∈ ALLW, w9.before ([.ref (ad 0), .int a, .int q, .ref o] : List Value).toArray s = true := fun w9 h => atoms_spec (ws := wl_La_error) B.pre w9 (List.mem_cons_of_mem _ (List.mem_append_left _ h))
  have hthy : ∀ w9 ∈ THY, w9.before ([.ref (ad 0), .int a, .int q, .ref o] : List Value).toArray s = true := fun w9 h => atoms_spec (ws := wl_La_error) B.pre w9 (List.mem_cons_of_mem _ (List.mem_append_right _ h))
  have hown : s.vm.findClass R_La = some m.cls := findClass_of_methodNamed B.named
  have hlocks := B.notSynchronized
  have hD := hD0.self (sz := s.heap.size)
  generalize hAe : va_A (wX cI cJ ad o (u, x)) s.heap.size = A at hD ⊢
  have hA : ∀ q : Nat, s.heap.size ≤ q → A q := fun q h => by rw [← hAe]; exact Or.inr h
  have hS : va_S A s.heap s.heap [] := va_S.rf
  have hK1 : va_K (dC, dI) classes [(cI, .int)] s := kv_sub hK (fun k q hq => ⟨k, by cases k with | zero => exact hq | succ k => cases hq⟩)
  have hmc : meth.code = some c := (Stand.of_body B).code
  obtain ⟨m9, meth9, c9, hn9, g1, g2, -, -, g5, -, -, -⟩ := Cond.codeWith_spec (atoms_spec (ws := wl_La_error) B.pre _ List.mem_cons_self)
  cases B.named.symm.trans hn9
  cases B.method.symm.trans g1
  cases hmc.symm.trans g2
  obtain ⟨x1, x2, hsp, hh1, hh2⟩ := tbl2 g5
  have e1a : x1.startPc = 0 := congrArg (·.1) hh1
  have e1b : x1.endPc = 10 := congrArg (·.2.1) hh1
  have e1c : x1.handlerPc = 13 := congrArg (·.2.2.1) hh1
  have e1d : x1.catchType = 13 := congrArg (·.2.2.2) hh1
  have e2a : x2.startPc = 0 := congrArg (·.1) hh2
  have e2b : x2.endPc = 10 := congrArg (·.2.1) hh2
  have e2c : x2.handlerPc = 17 := congrArg (·.2.2.1) hh2
  have e2d : x2.catchType = 19 := congrArg (·.2.2.2) hh2
  have hl := lv_entry ([.ref (ad 0), .int a, .int q, .ref o]) (n := 5) (Nat.le_of_ble_eq_true rfl)
  rw [lg_entry_eq]
  generalize (lg_sl ([.ref (ad 0), .int a, .int q, .ref o]) ++ List.replicate (5 - (lg_sl ([.ref (ad 0), .int a, .int q, .ref o])).length) Slot.unset).toArray = ls at hl ⊢
  have hl : lv_has ls 5 [(0, .ref (ad 0)), (1, .int a), (2, .int q), (3, .ref o)] := hl
  refine lv_aload_n hx hb d_La_error_0 rfl (lv_at hl 3 rfl) ?_
  refine lv_iconst hx hb d_La_error_1 rfl ?_
  refine lv_aload_n hx hb d_La_error_2 rfl (lv_at hl 0 rfl) ?_
  refine lv_iload_n hx hb d_La_error_3 rfl (lv_at hl 1 rfl) ?_
  refine lv_iload_n hx hb d_La_error_4 rfl (lv_at hl 2 rfl) ?_
  obtain ⟨cellB, k1, k2, k3⟩ := va_recv hK hP (ci := 0) (q0 := 0) rfl rfl
  refine callT1 (h1 := x1) (t := [x2]) (As := [.int a, .int q]) (rest := [.int 0, .ref o]) hx hb (hl.1.trans hml.symm) (t_SH_error_IAE l hfl dC dI cI ad u a q ht s.heap.size) preT_blind hown (hts _ m_13_1) (hts _ m_13_2) (hts _ m_13_3) (hts _ m_0_1) (thy_at hts hthy m_13_4) List.mem_cons_self (by decide) ⟨by decide, by decide, rfl, rfl, by decide, by decide⟩ k1 k2 k3 (fun sig h => by cases h; rfl) (Nat.le_of_ble_eq_true rfl) d_La_error_5 (fun U hU hW => ⟨preW_ok (pv_l hP) (dv_l hD) hK1 U hU hW, thS_moved hW.alike (fun q _ => by rw [hU]) hthS⟩) hsp (by simp [covers, e1a, e1b]) (by rw [e1d]; decide) (by rw [e1d]; exact hthy _ (by simp [THY])) (hthy _ (by simp [THY])) (fun x9 H1 hz hk => ?_)
  rw [e1c]
  refine lv_astore hx hb d_La_error_13 hl (by decide) rfl (fun ls hl => ?_)
  refine lv_iconst hx hb d_La_error_15 rfl ?_
  exact retGi (Wd := wX cI cJ ad o) (z := (u, x)) hx hb hr (keptP hP hk) hK hD (keptS hS hz hk) rfl rfl (by decide) (by decide) d_La_error_16 hlocks
set_option maxHeartbeats 4000000 in
set_option maxRecDepth 100000 in
theorem h_error_IOB (l : Launch) (hfl : l.flags = pinnedFlags ++ [noTraceFlag]) (dC : Nat → ClassId) (dI : Nat → Nat → Nat) (cI cJ : ClassId) (ad : Nat → Nat) (o : Nat) (u : S5) (x : Nat → Int64) (a : Int32) (q : Nat) (hq7 : q < 7) (ht : a < 0 ∨ ¬ a < nI (gN u 0)) (sz : Nat) : Met l y_La_error wl_La_error rml_La_error (PreX (dC, dI) classes [(cI, .int), (cJ, .long)] (wX cI cJ ad o) (u, x) sz [.ref (ad 0), .int a, .int (nI q), .ref o]) (QGi (dC, dI) classes [(cI, .int), (cJ, .long)] (wX cI cJ ad o) (va_A (wX cI cJ ad o (u, x)) sz) 2 (u, x)) 1 6 (va_A (wX cI cJ ad o (u, x)) sz) := by
  refine va_MetW (cc := b_La_error) (maxL := 5) (ret := some .int) (hh := [(0, 10, 13, 13), (0, 10, 17, 19)]) (by decide) rfl ?_
  intro p e s m args below meth c s₁ B hml hv
  obtain ⟨⟨rfl, rfl, hP, hK, hD0⟩, hthS, hthN⟩ := hv
  have hx := B.exec
  have hb := B.bytes
  have hr := B.returns
  have hts : ∀ w9 ∈ ALLW, w9.before ([.ref (ad 0), .int a, .int (nI q), .ref o] : List Value).toArray s = true := fun w9 h => atoms_spec (ws := wl_La_error) B.pre w9 (List.mem_cons_of_mem _ (List.mem_append_left _ h))
  have hthy : ∀ w9 ∈ THY, w9.before ([.ref (ad 0), .int a, .int (nI q), .ref o] : List Value).toArray s = true := fun w9 h => atoms_spec (ws := wl_La_error) B.pre w9 (List.mem_cons_of_mem _ (List.mem_append_right _ h))
  have hown : s.vm.findClass R_La = some m.cls := findClass_of_methodNamed B.named
  have hlocks := B.notSynchronized
  have hD := hD0.self (sz := s.heap.size)
  generalize hAe : va_A (wX cI cJ ad o (u, x)) s.heap.size = A at hD ⊢
  have hA : ∀ q : Nat, s.heap.size ≤ q → A q := fun q h => by rw [← hAe]; exact Or.inr h
  have hS : va_S A s.heap s.heap [] := va_S.rf
  have hK1 : va_K (dC, dI) classes [(cI, .int)] s := kv_sub hK (fun k q hq => ⟨k, by cases k with | zero => exact hq | succ k => cases hq⟩)
  have hmc : meth.code = some c := (Stand.of_body B).code
  obtain ⟨m9, meth9, c9, hn9, g1, g2, -, -, g5, -, -, -⟩ := Cond.codeWith_spec (atoms_spec (ws := wl_La_error) B.pre _ List.mem_cons_self)
  cases B.named.symm.trans hn9
  cases B.method.symm.trans g1
  cases hmc.symm.trans g2
  obtain ⟨x1, x2, hsp, hh1, hh2⟩ := tbl2 g5
  have e1a : x1.startPc = 0 := congrArg (·.1) hh1
  have e1b : x1.endPc = 10 := congrArg (·.2.1) hh1
  have e1c : x1.handlerPc = 13 := congrArg (·.2.2.1) hh1
  have e1d : x1.catchType = 13 := congrArg (·.2.2.2) hh1
  have e2a : x2.startPc = 0 := congrArg (·.1) hh2
  have e2b : x2.endPc = 10 := congrArg (·.2.1) hh2
  have e2c : x2.handlerPc = 17 := congrArg (·.2.2.1) hh2
  have e2d : x2.catchType = 19 := congrArg (·.2.2.2) hh2
  have hl := lv_entry ([.ref (ad 0), .int a, .int (nI q), .ref o]) (n := 5) (Nat.le_of_ble_eq_true rfl)
  rw [lg_entry_eq]
  generalize (lg_sl ([.ref (ad 0), .int a, .int (nI q), .ref o]) ++ List.replicate (5 - (lg_sl ([.ref (ad 0), .int a, .int (nI q), .ref o])).length) Slot.unset).toArray = ls at hl ⊢
  have hl : lv_has ls 5 [(0, .ref (ad 0)), (1, .int a), (2, .int (nI q)), (3, .ref o)] := hl
  refine lv_aload_n hx hb d_La_error_0 rfl (lv_at hl 3 rfl) ?_
  refine lv_iconst hx hb d_La_error_1 rfl ?_
  refine lv_aload_n hx hb d_La_error_2 rfl (lv_at hl 0 rfl) ?_
  refine lv_iload_n hx hb d_La_error_3 rfl (lv_at hl 1 rfl) ?_
  refine lv_iload_n hx hb d_La_error_4 rfl (lv_at hl 2 rfl) ?_
  obtain ⟨cellB, k1, k2, k3⟩ := va_recv hK hP (ci := 0) (q0 := 0) rfl rfl
  refine callT2 (C1 := thIAE) (h1 := x1) (h2 := x2) (t := []) (As := [.int a, .int (nI q)]) (rest := [.int 0, .ref o]) hx hb (hl.1.trans hml.symm) (t_SH_error_IOB l hfl dC dI cI ad u a q hq7 ht s.heap.size) preT_blind hown (hts _ m_13_1) (hts _ m_13_2) (hts _ m_13_3) (hts _ m_0_1) (thy_at hts hthy m_13_4) List.mem_cons_self (by decide) ⟨by decide, by decide, rfl, rfl, by decide, by decide⟩ k1 k2 k3 (fun sig h => by cases h; rfl) (Nat.le_of_ble_eq_true rfl) d_La_error_5 (fun U hU hW => ⟨preW_ok (pv_l hP) (dv_l hD) hK1 U hU hW, thS_moved hW.alike (fun q _ => by rw [hU]) hthS⟩) hsp (by simp [covers, e1a, e1b]) (by rw [e1d]; decide) (by simp [covers, e2a, e2b]) (by rw [e2d]; decide) (by rw [e1d]; exact hthy _ (by simp [THY])) (hthN _) (by rw [e2d]; exact hthy _ (by simp [THY])) (hthy _ (by simp [THY])) (fun x9 H1 hz hk => ?_)
  rw [e2c]
  refine lv_astore hx hb d_La_error_17 hl (by decide) rfl (fun ls hl => ?_)
  refine lv_iconst hx hb d_La_error_19 rfl ?_
  exact retGi (Wd := wX cI cJ ad o) (z := (u, x)) hx hb hr (keptP hP hk) hK hD (keptS hS hz hk) rfl rfl (by decide) (by decide) d_La_error_20 hlocks
def wl_La_output : List Cond := .codeWith y_La_output b_La_output 4 (some .int) [(0, 9, 12, 19)] :: (ALLW ++ THY)
def rml_La_output : Room := { frames := 100, cells := 1, slots := 6, locals := 4000 }
theorem d_La_output_0 : decode b_La_output 0 = .ok (.aload_n 2, 1) := by decide +kernel
theorem d_La_output_1 : decode b_La_output 1 = .ok (.iconst 0, 1) := by decide +kernel
theorem d_La_output_2 : decode b_La_output 2 = .ok (.aload_n 0, 1) := by decide +kernel
theorem d_La_output_3 : decode b_La_output 3 = .ok (.iload_n 1, 1) := by decide +kernel
theorem d_La_output_4 : decode b_La_output 4 = .ok (.invokevirtual 38, 3) := by decide +kernel
theorem d_La_output_7 : decode b_La_output 7 = .ok (.i2l, 1) := by decide +kernel
theorem d_La_output_8 : decode b_La_output 8 = .ok (.lastore, 1) := by decide +kernel
theorem d_La_output_9 : decode b_La_output 9 = .ok (.goto 6, 3) := by decide +kernel
theorem d_La_output_12 : decode b_La_output 12 = .ok (.astore_n 3, 1) := by decide +kernel
theorem d_La_output_13 : decode b_La_output 13 = .ok (.iconst 1, 1) := by decide +kernel
theorem d_La_output_14 : decode b_La_output 14 = .ok (.ireturn, 1) := by decide +kernel
theorem d_La_output_15 : decode b_La_output 15 = .ok (.iconst 0, 1) := by decide +kernel
theorem d_La_output_16 : decode b_La_output 16 = .ok (.ireturn, 1) := by decide +kernel
set_option maxHeartbeats 4000000 in
set_option maxRecDepth 100000 in
theorem h_output_ok (l : Launch) (hfl : l.flags = pinnedFlags ++ [noTraceFlag]) (dC : Nat → ClassId) (dI : Nat → Nat → Nat) (cI cJ : ClassId) (ad : Nat → Nat) (o : Nat) (u : S5) (x : Nat → Int64) (a : Nat) (ha : a < gN u 5) (h5 : gN u 5 ≤ 4096) (sz : Nat) : Met l y_La_output wl_La_output rml_La_output (PreX (dC, dI) classes [(cI, .int), (cJ, .long)] (wX cI cJ ad o) (u, x) sz [.ref (ad 0), .int (nI a), .ref o]) (QGi (dC, dI) classes [(cI, .int), (cJ, .long)] (wX cI cJ ad o) (va_A (wX cI cJ ad o (u, x)) sz) 0 (u, (vp_updL x 0 ((f_SH_output a u)).toInt64))) 1 6 (va_A (wX cI cJ ad o (u, x)) sz) := by
  refine va_MetW (cc := b_La_output) (maxL := 4) (ret := some .int) (hh := [(0, 9, 12, 19)]) (by decide) rfl ?_
  intro p e s m args below meth c s₁ B hml hv
  obtain ⟨⟨rfl, rfl, hP, hK, hD0⟩, hthS, hthN⟩ := hv
  have hx := B.exec
  have hb := B.bytes
  have hr := B.returns
  have hts : ∀ w9 ∈ ALLW, w9.before ([.ref (ad 0), .int (nI a), .ref o] : List Value).toArray s = true := fun w9 h => atoms_spec (ws := wl_La_output) B.pre w9 (List.mem_cons_of_mem _ (List.mem_append_left _ h))
  have hthy : ∀ w9 ∈ THY, w9.before ([.ref (ad 0), .int (nI a), .ref o] : List Value).toArray s = true := fun w9 h => atoms_spec (ws := wl_La_output) B.pre w9 (List.mem_cons_of_mem _ (List.mem_append_right _ h))
  have hown : s.vm.findClass R_La = some m.cls := findClass_of_methodNamed B.named
  have hlocks := B.notSynchronized
  have hD := hD0.self (sz := s.heap.size)
  generalize hAe : va_A (wX cI cJ ad o (u, x)) s.heap.size = A at hD ⊢
  have hA : ∀ q : Nat, s.heap.size ≤ q → A q := fun q h => by rw [← hAe]; exact Or.inr h
  have hS : va_S A s.heap s.heap [] := va_S.rf
  have hK1 : va_K (dC, dI) classes [(cI, .int)] s := kv_sub hK (fun k q hq => ⟨k, by cases k with | zero => exact hq | succ k => cases hq⟩)
  have hl := lv_entry ([.ref (ad 0), .int (nI a), .ref o]) (n := 4) (Nat.le_of_ble_eq_true rfl)
  rw [lg_entry_eq]
  generalize (lg_sl ([.ref (ad 0), .int (nI a), .ref o]) ++ List.replicate (4 - (lg_sl ([.ref (ad 0), .int (nI a), .ref o])).length) Slot.unset).toArray = ls at hl ⊢
  have hl : lv_has ls 4 [(0, .ref (ad 0)), (1, .int (nI a)), (2, .ref o)] := hl
  refine lv_aload_n hx hb d_La_output_0 rfl (lv_at hl 2 rfl) ?_
  refine lv_iconst hx hb d_La_output_1 rfl ?_
  refine lv_aload_n hx hb d_La_output_2 rfl (lv_at hl 0 rfl) ?_
  refine lv_iload_n hx hb d_La_output_3 rfl (lv_at hl 1 rfl) ?_
  refine callGi (Wd := wC cI ad) (z := u) (z' := u) (ot := [(o, .inl (cJ, 1, .inr (.inl x)))]) (tys := [(cI, .int)]) (va_runV (As := [.int (nI a)]) (rest := [.int 0, .ref o]) ⟨hx, hb, hml, hown, hts⟩ (c_SH_output l dC dI cI ad u a ha h5 s.heap.size) (cwV 1 hts (goodV m_13_7 m_13_8 m_13_9 m_0_1 m_13_10) rfl rfl rfl (by decide +kernel) ⟨Nat.le_of_ble_eq_true rfl, Nat.le_of_ble_eq_true rfl⟩) ⟨preW_blind, va_recv hK hP (ci := 0) (q0 := 0) rfl rfl, preW_ok (pv_l hP) (dv_l hD) hK1⟩ rfl rfl hl.1 rfl (lv_room (Nat.le_of_ble_eq_true rfl)) d_La_output_4 ⟨Nat.zero_le _, Nat.zero_le _⟩) hP hD hS hA rfl (fun H locs hP hD hS => ?_)
  refine lv_i2l hx hb d_La_output_7 rfl ?_
  refine va_last hx hb hK hP hD hS 22 1 rfl rfl (vp_in_nI (n := 0) (by decide) (by decide)) d_La_output_8 (fun H locs hP hD hS => ?_)
  refine lv_goto (tgt := 15) hx hb d_La_output_9 (by decide) ?_
  refine lv_iconst hx hb d_La_output_15 rfl ?_
  exact retGi (Wd := wX cI cJ ad o) (z := (u, (vp_updL x 0 ((f_SH_output a u)).toInt64))) hx hb hr hP hK hD hS rfl rfl (by decide) (by decide) d_La_output_16 hlocks
set_option maxHeartbeats 4000000 in
set_option maxRecDepth 100000 in
theorem h_output_IOB (l : Launch) (hfl : l.flags = pinnedFlags ++ [noTraceFlag]) (dC : Nat → ClassId) (dI : Nat → Nat → Nat) (cI cJ : ClassId) (ad : Nat → Nat) (o : Nat) (u : S5) (x : Nat → Int64) (a : Int32) (ht : a < 0 ∨ ¬ a < nI (gN u 5)) (sz : Nat) : Met l y_La_output wl_La_output rml_La_output (PreX (dC, dI) classes [(cI, .int), (cJ, .long)] (wX cI cJ ad o) (u, x) sz [.ref (ad 0), .int a, .ref o]) (QGi (dC, dI) classes [(cI, .int), (cJ, .long)] (wX cI cJ ad o) (va_A (wX cI cJ ad o (u, x)) sz) 1 (u, x)) 1 6 (va_A (wX cI cJ ad o (u, x)) sz) := by
  refine va_MetW (cc := b_La_output) (maxL := 4) (ret := some .int) (hh := [(0, 9, 12, 19)]) (by decide) rfl ?_
  intro p e s m args below meth c s₁ B hml hv
  obtain ⟨⟨rfl, rfl, hP, hK, hD0⟩, hthS, hthN⟩ := hv
  have hx := B.exec
  have hb := B.bytes
  have hr := B.returns
  have hts : ∀ w9 ∈ ALLW, w9.before ([.ref (ad 0), .int a, .ref o] : List Value).toArray s = true := fun w9 h => atoms_spec (ws := wl_La_output) B.pre w9 (List.mem_cons_of_mem _ (List.mem_append_left _ h))
  have hthy : ∀ w9 ∈ THY, w9.before ([.ref (ad 0), .int a, .ref o] : List Value).toArray s = true := fun w9 h => atoms_spec (ws := wl_La_output) B.pre w9 (List.mem_cons_of_mem _ (List.mem_append_right _ h))
  have hown : s.vm.findClass R_La = some m.cls := findClass_of_methodNamed B.named
  have hlocks := B.notSynchronized
  have hD := hD0.self (sz := s.heap.size)
  generalize hAe : va_A (wX cI cJ ad o (u, x)) s.heap.size = A at hD ⊢
  have hA : ∀ q : Nat, s.heap.size ≤ q → A q := fun q h => by rw [← hAe]; exact Or.inr h
  have hS : va_S A s.heap s.heap [] := va_S.rf
  have hK1 : va_K (dC, dI) classes [(cI, .int)] s := kv_sub hK (fun k q hq => ⟨k, by cases k with | zero => exact hq | succ k => cases hq⟩)
  have hmc : meth.code = some c := (Stand.of_body B).code
  obtain ⟨m9, meth9, c9, hn9, g1, g2, -, -, g5, -, -, -⟩ := Cond.codeWith_spec (atoms_spec (ws := wl_La_output) B.pre _ List.mem_cons_self)
  cases B.named.symm.trans hn9
  cases B.method.symm.trans g1
  cases hmc.symm.trans g2
  obtain ⟨x1, hsp, hh1⟩ := tbl1 g5
  have e1a : x1.startPc = 0 := congrArg (·.1) hh1
  have e1b : x1.endPc = 9 := congrArg (·.2.1) hh1
  have e1c : x1.handlerPc = 12 := congrArg (·.2.2.1) hh1
  have e1d : x1.catchType = 19 := congrArg (·.2.2.2) hh1
  have hl := lv_entry ([.ref (ad 0), .int a, .ref o]) (n := 4) (Nat.le_of_ble_eq_true rfl)
  rw [lg_entry_eq]
  generalize (lg_sl ([.ref (ad 0), .int a, .ref o]) ++ List.replicate (4 - (lg_sl ([.ref (ad 0), .int a, .ref o])).length) Slot.unset).toArray = ls at hl ⊢
  have hl : lv_has ls 4 [(0, .ref (ad 0)), (1, .int a), (2, .ref o)] := hl
  refine lv_aload_n hx hb d_La_output_0 rfl (lv_at hl 2 rfl) ?_
  refine lv_iconst hx hb d_La_output_1 rfl ?_
  refine lv_aload_n hx hb d_La_output_2 rfl (lv_at hl 0 rfl) ?_
  refine lv_iload_n hx hb d_La_output_3 rfl (lv_at hl 1 rfl) ?_
  obtain ⟨cellB, k1, k2, k3⟩ := va_recv hK hP (ci := 0) (q0 := 0) rfl rfl
  refine callT1 (h1 := x1) (t := []) (As := [.int a]) (rest := [.int 0, .ref o]) hx hb (hl.1.trans hml.symm) (t_SH_output_IOB l hfl dC dI cI ad u a ht s.heap.size) preT_blind hown (hts _ m_13_7) (hts _ m_13_8) (hts _ m_13_9) (hts _ m_0_1) (thy_at hts hthy m_13_10) List.mem_cons_self (by decide) ⟨by decide, by decide, rfl, rfl, by decide, by decide⟩ k1 k2 k3 (fun sig h => by cases h; rfl) (Nat.le_of_ble_eq_true rfl) d_La_output_4 (fun U hU hW => ⟨preW_ok (pv_l hP) (dv_l hD) hK1 U hU hW, thS_moved hW.alike (fun q _ => by rw [hU]) hthS⟩) hsp (by simp [covers, e1a, e1b]) (by rw [e1d]; decide) (by rw [e1d]; exact hthy _ (by simp [THY])) (hthy _ (by simp [THY])) (fun x9 H1 hz hk => ?_)
  rw [e1c]
  refine lv_astore_n hx hb d_La_output_12 rfl hl (by decide) rfl (fun ls hl => ?_)
  refine lv_iconst hx hb d_La_output_13 rfl ?_
  exact retGi (Wd := wX cI cJ ad o) (z := (u, x)) hx hb hr (keptP hP hk) hK hD (keptS hS hz hk) rfl rfl (by decide) (by decide) d_La_output_14 hlocks
def wl_La_count : List Cond := .codeWith y_La_count b_La_count 4 (some .int) [(0, 9, 12, 13)] :: (ALLW ++ THY)
def rml_La_count : Room := { frames := 100, cells := 1, slots := 6, locals := 4000 }
theorem d_La_count_0 : decode b_La_count 0 = .ok (.aload_n 2, 1) := by decide +kernel
theorem d_La_count_1 : decode b_La_count 1 = .ok (.iconst 0, 1) := by decide +kernel
theorem d_La_count_2 : decode b_La_count 2 = .ok (.aload_n 0, 1) := by decide +kernel
theorem d_La_count_3 : decode b_La_count 3 = .ok (.iload_n 1, 1) := by decide +kernel
theorem d_La_count_4 : decode b_La_count 4 = .ok (.invokevirtual 41, 3) := by decide +kernel
theorem d_La_count_7 : decode b_La_count 7 = .ok (.i2l, 1) := by decide +kernel
theorem d_La_count_8 : decode b_La_count 8 = .ok (.lastore, 1) := by decide +kernel
theorem d_La_count_9 : decode b_La_count 9 = .ok (.goto 6, 3) := by decide +kernel
theorem d_La_count_12 : decode b_La_count 12 = .ok (.astore_n 3, 1) := by decide +kernel
theorem d_La_count_13 : decode b_La_count 13 = .ok (.iconst 1, 1) := by decide +kernel
theorem d_La_count_14 : decode b_La_count 14 = .ok (.ireturn, 1) := by decide +kernel
theorem d_La_count_15 : decode b_La_count 15 = .ok (.iconst 0, 1) := by decide +kernel
theorem d_La_count_16 : decode b_La_count 16 = .ok (.ireturn, 1) := by decide +kernel
set_option maxHeartbeats 4000000 in
set_option maxRecDepth 100000 in
theorem h_count_ok (l : Launch) (hfl : l.flags = pinnedFlags ++ [noTraceFlag]) (dC : Nat → ClassId) (dI : Nat → Nat → Nat) (cI cJ : ClassId) (ad : Nat → Nat) (o : Nat) (u : S5) (x : Nat → Int64) (q : Int32) (hq1 : 0 ≤ q.toInt) (hq2 : q.toInt ≤ 10) (sz : Nat) : Met l y_La_count wl_La_count rml_La_count (PreX (dC, dI) classes [(cI, .int), (cJ, .long)] (wX cI cJ ad o) (u, x) sz [.ref (ad 0), .int q, .ref o]) (QGi (dC, dI) classes [(cI, .int), (cJ, .long)] (wX cI cJ ad o) (va_A (wX cI cJ ad o (u, x)) sz) 0 (u, (vp_updL x 0 ((f_SH_count q u)).toInt64))) 1 6 (va_A (wX cI cJ ad o (u, x)) sz) := by
  refine va_MetW (cc := b_La_count) (maxL := 4) (ret := some .int) (hh := [(0, 9, 12, 13)]) (by decide) rfl ?_
  intro p e s m args below meth c s₁ B hml hv
  obtain ⟨⟨rfl, rfl, hP, hK, hD0⟩, hthS, hthN⟩ := hv
  have hx := B.exec
  have hb := B.bytes
  have hr := B.returns
  have hts : ∀ w9 ∈ ALLW, w9.before ([.ref (ad 0), .int q, .ref o] : List Value).toArray s = true := fun w9 h => atoms_spec (ws := wl_La_count) B.pre w9 (List.mem_cons_of_mem _ (List.mem_append_left _ h))
  have hthy : ∀ w9 ∈ THY, w9.before ([.ref (ad 0), .int q, .ref o] : List Value).toArray s = true := fun w9 h => atoms_spec (ws := wl_La_count) B.pre w9 (List.mem_cons_of_mem _ (List.mem_append_right _ h))
  have hown : s.vm.findClass R_La = some m.cls := findClass_of_methodNamed B.named
  have hlocks := B.notSynchronized
  have hD := hD0.self (sz := s.heap.size)
  generalize hAe : va_A (wX cI cJ ad o (u, x)) s.heap.size = A at hD ⊢
  have hA : ∀ q : Nat, s.heap.size ≤ q → A q := fun q h => by rw [← hAe]; exact Or.inr h
  have hS : va_S A s.heap s.heap [] := va_S.rf
  have hK1 : va_K (dC, dI) classes [(cI, .int)] s := kv_sub hK (fun k q hq => ⟨k, by cases k with | zero => exact hq | succ k => cases hq⟩)
  have hl := lv_entry ([.ref (ad 0), .int q, .ref o]) (n := 4) (Nat.le_of_ble_eq_true rfl)
  rw [lg_entry_eq]
  generalize (lg_sl ([.ref (ad 0), .int q, .ref o]) ++ List.replicate (4 - (lg_sl ([.ref (ad 0), .int q, .ref o])).length) Slot.unset).toArray = ls at hl ⊢
  have hl : lv_has ls 4 [(0, .ref (ad 0)), (1, .int q), (2, .ref o)] := hl
  refine lv_aload_n hx hb d_La_count_0 rfl (lv_at hl 2 rfl) ?_
  refine lv_iconst hx hb d_La_count_1 rfl ?_
  refine lv_aload_n hx hb d_La_count_2 rfl (lv_at hl 0 rfl) ?_
  refine lv_iload_n hx hb d_La_count_3 rfl (lv_at hl 1 rfl) ?_
  refine callGi (Wd := wC cI ad) (z := u) (z' := u) (ot := [(o, .inl (cJ, 1, .inr (.inl x)))]) (tys := [(cI, .int)]) (va_runV (As := [.int q]) (rest := [.int 0, .ref o]) ⟨hx, hb, hml, hown, hts⟩ (c_SH_count l dC dI cI ad u q hq1 hq2 s.heap.size) (cwV 1 hts (goodV m_13_13 m_13_14 m_13_15 m_0_1 m_13_16) rfl rfl rfl (by decide +kernel) ⟨Nat.le_of_ble_eq_true rfl, Nat.le_of_ble_eq_true rfl⟩) ⟨preW_blind, va_recv hK hP (ci := 0) (q0 := 0) rfl rfl, preW_ok (pv_l hP) (dv_l hD) hK1⟩ rfl rfl hl.1 rfl (lv_room (Nat.le_of_ble_eq_true rfl)) d_La_count_4 ⟨Nat.zero_le _, Nat.zero_le _⟩) hP hD hS hA rfl (fun H locs hP hD hS => ?_)
  refine lv_i2l hx hb d_La_count_7 rfl ?_
  refine va_last hx hb hK hP hD hS 22 1 rfl rfl (vp_in_nI (n := 0) (by decide) (by decide)) d_La_count_8 (fun H locs hP hD hS => ?_)
  refine lv_goto (tgt := 15) hx hb d_La_count_9 (by decide) ?_
  refine lv_iconst hx hb d_La_count_15 rfl ?_
  exact retGi (Wd := wX cI cJ ad o) (z := (u, (vp_updL x 0 ((f_SH_count q u)).toInt64))) hx hb hr hP hK hD hS rfl rfl (by decide) (by decide) d_La_count_16 hlocks
set_option maxHeartbeats 4000000 in
set_option maxRecDepth 100000 in
theorem h_count_IAE (l : Launch) (hfl : l.flags = pinnedFlags ++ [noTraceFlag]) (dC : Nat → ClassId) (dI : Nat → Nat → Nat) (cI cJ : ClassId) (ad : Nat → Nat) (o : Nat) (u : S5) (x : Nat → Int64) (q : Int32) (ht : q.toInt < 0 ∨ 10 < q.toInt) (sz : Nat) : Met l y_La_count wl_La_count rml_La_count (PreX (dC, dI) classes [(cI, .int), (cJ, .long)] (wX cI cJ ad o) (u, x) sz [.ref (ad 0), .int q, .ref o]) (QGi (dC, dI) classes [(cI, .int), (cJ, .long)] (wX cI cJ ad o) (va_A (wX cI cJ ad o (u, x)) sz) 1 (u, x)) 1 6 (va_A (wX cI cJ ad o (u, x)) sz) := by
  refine va_MetW (cc := b_La_count) (maxL := 4) (ret := some .int) (hh := [(0, 9, 12, 13)]) (by decide) rfl ?_
  intro p e s m args below meth c s₁ B hml hv
  obtain ⟨⟨rfl, rfl, hP, hK, hD0⟩, hthS, hthN⟩ := hv
  have hx := B.exec
  have hb := B.bytes
  have hr := B.returns
  have hts : ∀ w9 ∈ ALLW, w9.before ([.ref (ad 0), .int q, .ref o] : List Value).toArray s = true := fun w9 h => atoms_spec (ws := wl_La_count) B.pre w9 (List.mem_cons_of_mem _ (List.mem_append_left _ h))
  have hthy : ∀ w9 ∈ THY, w9.before ([.ref (ad 0), .int q, .ref o] : List Value).toArray s = true := fun w9 h => atoms_spec (ws := wl_La_count) B.pre w9 (List.mem_cons_of_mem _ (List.mem_append_right _ h))
  have hown : s.vm.findClass R_La = some m.cls := findClass_of_methodNamed B.named
  have hlocks := B.notSynchronized
  have hD := hD0.self (sz := s.heap.size)
  generalize hAe : va_A (wX cI cJ ad o (u, x)) s.heap.size = A at hD ⊢
  have hA : ∀ q : Nat, s.heap.size ≤ q → A q := fun q h => by rw [← hAe]; exact Or.inr h
  have hS : va_S A s.heap s.heap [] := va_S.rf
  have hK1 : va_K (dC, dI) classes [(cI, .int)] s := kv_sub hK (fun k q hq => ⟨k, by cases k with | zero => exact hq | succ k => cases hq⟩)
  have hmc : meth.code = some c := (Stand.of_body B).code
  obtain ⟨m9, meth9, c9, hn9, g1, g2, -, -, g5, -, -, -⟩ := Cond.codeWith_spec (atoms_spec (ws := wl_La_count) B.pre _ List.mem_cons_self)
  cases B.named.symm.trans hn9
  cases B.method.symm.trans g1
  cases hmc.symm.trans g2
  obtain ⟨x1, hsp, hh1⟩ := tbl1 g5
  have e1a : x1.startPc = 0 := congrArg (·.1) hh1
  have e1b : x1.endPc = 9 := congrArg (·.2.1) hh1
  have e1c : x1.handlerPc = 12 := congrArg (·.2.2.1) hh1
  have e1d : x1.catchType = 13 := congrArg (·.2.2.2) hh1
  have hl := lv_entry ([.ref (ad 0), .int q, .ref o]) (n := 4) (Nat.le_of_ble_eq_true rfl)
  rw [lg_entry_eq]
  generalize (lg_sl ([.ref (ad 0), .int q, .ref o]) ++ List.replicate (4 - (lg_sl ([.ref (ad 0), .int q, .ref o])).length) Slot.unset).toArray = ls at hl ⊢
  have hl : lv_has ls 4 [(0, .ref (ad 0)), (1, .int q), (2, .ref o)] := hl
  refine lv_aload_n hx hb d_La_count_0 rfl (lv_at hl 2 rfl) ?_
  refine lv_iconst hx hb d_La_count_1 rfl ?_
  refine lv_aload_n hx hb d_La_count_2 rfl (lv_at hl 0 rfl) ?_
  refine lv_iload_n hx hb d_La_count_3 rfl (lv_at hl 1 rfl) ?_
  obtain ⟨cellB, k1, k2, k3⟩ := va_recv hK hP (ci := 0) (q0 := 0) rfl rfl
  refine callT1 (h1 := x1) (t := []) (As := [.int q]) (rest := [.int 0, .ref o]) hx hb (hl.1.trans hml.symm) (t_SH_count_IAE l hfl dC dI cI ad u q ht s.heap.size) preT_blind hown (hts _ m_13_13) (hts _ m_13_14) (hts _ m_13_15) (hts _ m_0_1) (thy_at hts hthy m_13_16) List.mem_cons_self (by decide) ⟨by decide, by decide, rfl, rfl, by decide, by decide⟩ k1 k2 k3 (fun sig h => by cases h; rfl) (Nat.le_of_ble_eq_true rfl) d_La_count_4 (fun U hU hW => ⟨preW_ok (pv_l hP) (dv_l hD) hK1 U hU hW, thS_moved hW.alike (fun q _ => by rw [hU]) hthS⟩) hsp (by simp [covers, e1a, e1b]) (by rw [e1d]; decide) (by rw [e1d]; exact hthy _ (by simp [THY])) (hthy _ (by simp [THY])) (fun x9 H1 hz hk => ?_)
  rw [e1c]
  refine lv_astore_n hx hb d_La_count_12 rfl hl (by decide) rfl (fun ls hl => ?_)
  refine lv_iconst hx hb d_La_count_13 rfl ?_
  exact retGi (Wd := wX cI cJ ad o) (z := (u, x)) hx hb hr (keptP hP hk) hK hD (keptS hS hz hk) rfl rfl (by decide) (by decide) d_La_count_14 hlocks
