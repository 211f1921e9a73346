-- ===== rows of the law's walk
theorem thN_moved {s U : State} (hvm : s.vm.Alike U.vm) (h : thN s) : thN U := fun a => by
  have h1 := h a
  simp only [Cond.before, Cond.holds, Cond.value, hvm.findClass, hvm.assignable] at h1 ⊢
  exact h1
theorem img_al {n : Nat} (hn : n ≤ 16376) (h : (nI n &&& 7) = 0) : n % 8 = 0 := by
  have h1 := congrArg Int32.toInt (a₂ := 0) h
  have h2 : (nI n &&& 7) = nI (n % 8) := by
    apply Int32.toBitVec_inj.mp
    apply BitVec.eq_of_toNat_eq
    have e1 : (nI n).toBitVec.toNat = n := by
      show (BitVec.ofNat 32 n).toNat = n
      rw [BitVec.toNat_ofNat]; omega
    have e2 : (nI (n % 8)).toBitVec.toNat = n % 8 := by
      show (BitVec.ofNat 32 (n % 8)).toNat = n % 8
      rw [BitVec.toNat_ofNat]; omega
    rw [Int32.toBitVec_and, BitVec.toNat_and, e1, e2]
    show n &&& 7 = n % 8
    exact Nat.and_two_pow_sub_one_eq_mod n 3
  rw [h2, nI_toInt (by omega)] at h1
  have h3 : (0 : Int32).toInt = 0 := by decide
  omega
theorem loop_in {i L : Nat} (h1 : i ≤ 4096) (h2 : L ≤ 4096) (h : ¬ Int32.ofNat L - 4 < nI i) : i + 4 ≤ L := by
  rcases Nat.lt_or_ge L 4 with h4 | h4
  · exfalso
    apply h
    rw [Int32.lt_iff_toInt_lt, nI_toInt (by omega)]
    rcases (show L = 0 ∨ L = 1 ∨ L = 2 ∨ L = 3 by omega) with rfl | rfl | rfl | rfl
    · rw [show (Int32.ofNat 0 - 4).toInt = -4 by decide]; omega
    · rw [show (Int32.ofNat 1 - 4).toInt = -3 by decide]; omega
    · rw [show (Int32.ofNat 2 - 4).toInt = -2 by decide]; omega
    · rw [show (Int32.ofNat 3 - 4).toInt = -1 by decide]; omega
  · have e : Int32.ofNat L - 4 = nI (L - 4) := by
      have e1 : nI L = nI (L - 4) + nI 4 := by rw [nI_add]; congr 1; omega
      show nI L - nI 4 = nI (L - 4)
      rw [e1, Int32.add_sub_cancel]
    rw [e] at h
    have h5 : ¬ L - 4 < i := fun q => h ((nI_ltI (by omega) (by omega)).mpr q)
    omega
section LRN
variable {p : Program} {l : Launch} {e : Env} {R : Room} {s : State} {m : MethodId} {args : Array Value} {below : List Frame} {meth : Method} {c : Code} {H : Heap} {locs : List Loc} {cells slots mc ms : Nat} {Q : State → Prop}
/-- invokestatic of a method with a table -/
theorem runSH {y : MethodName} {bytes cc : ByteArray} {maxL index : Nat} {ret : Option FieldType} {hh : List (Nat × Nat × Nat × Nat)} {ws : List Cond} {rm : Room} {Pc : Array Value → State → Prop} {Qc : Array Value → State → Outcome → State → Prop} {free : Addr → Prop} {own : String} {As rest : List Value} {g : JFrame}
    (hexec : p.tables.exec = Jvm.exec) (hb : c.code = cc) (hM : Met l y ws rm Pc Qc mc ms free) (hblind : FrameBlind Pc) (hrc : rm.cells = mc) (hrs : rm.slots = ms) (hfr : rm.frames + 1 ≤ R.frames) (hlo : 8 + (maxL + 11) + rm.locals ≤ R.locals)
    (hws : ∀ w ∈ ws, ∀ (a' : Array Value) (U : State), s.WarmedH U.vm → w.before a' U = true) (hcw : Cond.codeWith y bytes maxL ret hh ∈ ws) (hown : s.vm.findClass own = some m.cls) (hlink : (Cond.methodLink own index y).before args s = true) (hstat : (Cond.static y).before args s = true) (hini : (Cond.initialized y.cls).before args s = true) (hcode : (Cond.codeWith y bytes maxL ret hh).before args s = true)
    (hy : y.cls ≠ "java/lang/invoke/MethodHandle" ∧ y.cls ≠ "java/lang/invoke/VarHandle") (hg : g.method = m) (hsize : g.locals.size = c.maxLocals) (hlen : ∀ sig, parseMethodDescriptor y.desc = some sig → As.length = sig.parameters.length) (hstack : g.stack = As.reverse ++ rest) (hW : 2 * g.monitorRoom + (rest.map fun v => v.category).sum ≤ 8) (hdg : decode cc g.pc = .ok (.invokestatic index, 3)) (hf : cells + mc ≤ R.cells ∧ slots + ms ≤ R.slots)
    (hp : ∀ U : State, U.heap = H → s.WarmedH U.vm → Pc As.toArray U) : va_Run p l e R s m args below meth c H locs cells slots mc ms g rest (Qc As.toArray) free := by
  have hK : Back l R p e below s args y 3 8 (PreOf R mc ms Pc) (PostOf Qc mc ms free) := va_backW hM hblind hrc hrs hfr hlo hws hcw (fun a' U hW => word_at hW (Or.inl (by first | rfl | simp [Cond.onTables, Cond.keeps, Cond.steady])) hini)
  intro T hT X
  obtain ⟨mk, mth, cM, hnm, hmm, -, -, -, -, -, -, hsg⟩ := Cond.codeWith_spec hcode
  obtain ⟨kP, hkP, -⟩ := className_of_methodNamed hnm
  obtain ⟨vm₁, X₁, hst₁⟩ := X.invokestatic hexec hown hlink hnm hmm (Cond.static_spec hnm hmm hstat) hkP (Cond.initialized_spec (findClass_of_methodNamed hnm) hkP hini) hy (g := g) hg (argsL := As) (rest := rest) (hlen _ hsg) hstack (by rw [hb]; exact hdg)
  obtain ⟨v, ⟨U', l2, c2, s2⟩, X', ⟨g', mk2, t, L, e1, e2, hq, h1, hL, h2, h3⟩, hst₂⟩ := hK m meth c ⟨T.setVm vm₁, locs, cells, slots⟩ { g with stack := rest } (.invokestatic index) mk As.toArray X₁ hg hsize (by rw [hb]; exact hdg) hW (X₁.named hnm) ⟨hf.1, hf.2, hp (T.setVm vm₁) hT X₁.warmed⟩
  dsimp only [Pt.U, Pt.locs, Pt.cells, Pt.slots] at X' e1 e2 h1 h2 h3 hst₂
  subst h1; subst h2; subst h3
  exact ⟨v, (T.setVm vm₁).calling g' mk2 As.toArray, t, U', L, hT, X', hL, e1, e2, hq, fun target h => hst₁ _ fun acts => by rw [doInvoke_state]; exact hst₂.trans h⟩
end LRN
theorem he_C (cI : ClassId) (ad : Nat → Nat) (u u2 : S5) : (wC cI ad u).map (fun q => q.1) = (wC cI ad u2).map (fun q => q.1) := rfl
theorem he_M (cI cZ : ClassId) (ad : Nat → Nat) (u u2 : S5) : (wM cI cZ ad u).map (fun q => q.1) = (wM cI cZ ad u2).map (fun q => q.1) := rfl
def LA (s : State) : Nat → Prop := fun q => s.heap.size ≤ q
def LC (p : Program) (l : Launch) (s : State) (m : MethodId) (meth : Method) (c : Code) (b L : Nat) (xs : Nat → Int32) (dC : Nat → ClassId) (dI : Nat → Nat → Nat) (cI cZ cJ : ClassId) : Prop :=
  lw_At p s m meth c b L xs ∧ L ≤ 2048 ∧ l.flags = pinnedFlags ++ [noTraceFlag] ∧ thS s ∧ thN s ∧ va_K (dC, dI) classes [(cI, .int), (cZ, .boolean), (cJ, .long)] s
theorem LC.at0 {p : Program} {l : Launch} {s : State} {m : MethodId} {meth : Method} {c : Code} {b L : Nat} {xs : Nat → Int32} {dC : Nat → ClassId} {dI : Nat → Nat → Nat} {cI cZ cJ : ClassId} (C : LC p l s m meth c b L xs dC dI cI cZ cJ) : lw_At p s m meth c b L xs := C.1
theorem LC.len {p : Program} {l : Launch} {s : State} {m : MethodId} {meth : Method} {c : Code} {b L : Nat} {xs : Nat → Int32} {dC : Nat → ClassId} {dI : Nat → Nat → Nat} {cI cZ cJ : ClassId} (C : LC p l s m meth c b L xs dC dI cI cZ cJ) : L ≤ 2048 := C.2.1
theorem LC.fl {p : Program} {l : Launch} {s : State} {m : MethodId} {meth : Method} {c : Code} {b L : Nat} {xs : Nat → Int32} {dC : Nat → ClassId} {dI : Nat → Nat → Nat} {cI cZ cJ : ClassId} (C : LC p l s m meth c b L xs dC dI cI cZ cJ) : l.flags = pinnedFlags ++ [noTraceFlag] := C.2.2.1
theorem LC.th {p : Program} {l : Launch} {s : State} {m : MethodId} {meth : Method} {c : Code} {b L : Nat} {xs : Nat → Int32} {dC : Nat → ClassId} {dI : Nat → Nat → Nat} {cI cZ cJ : ClassId} (C : LC p l s m meth c b L xs dC dI cI cZ cJ) : thS s := C.2.2.2.1
theorem LC.tn {p : Program} {l : Launch} {s : State} {m : MethodId} {meth : Method} {c : Code} {b L : Nat} {xs : Nat → Int32} {dC : Nat → ClassId} {dI : Nat → Nat → Nat} {cI cZ cJ : ClassId} (C : LC p l s m meth c b L xs dC dI cI cZ cJ) : thN s := C.2.2.2.2.1
theorem LC.K {p : Program} {l : Launch} {s : State} {m : MethodId} {meth : Method} {c : Code} {b L : Nat} {xs : Nat → Int32} {dC : Nat → ClassId} {dI : Nat → Nat → Nat} {cI cZ cJ : ClassId} (C : LC p l s m meth c b L xs dC dI cI cZ cJ) : va_K (dC, dI) classes [(cI, .int), (cZ, .boolean), (cJ, .long)] s := C.2.2.2.2.2
def LV (s : State) (dC : Nat → ClassId) (dI : Nat → Nat → Nat) (cI cZ cJ : ClassId) (ad : Nat → Nat) (o : Nat) (ad2 : Nat → Nat) (u : S5) (x : Nat → Int64) (v : S5) (H : Heap) (locs : List Loc) : Prop :=
  va_P (dC, dI) classes (wX cI cJ ad o (u, x) ++ wM cI cZ ad2 v) H ∧ va_D (LA s) (wX cI cJ ad o (u, x) ++ wM cI cZ ad2 v) ∧ va_S (LA s) s.heap H locs
theorem LV.P {s : State} {dC : Nat → ClassId} {dI : Nat → Nat → Nat} {cI cZ cJ : ClassId} {ad : Nat → Nat} {o : Nat} {ad2 : Nat → Nat} {u : S5} {x : Nat → Int64} {v : S5} {H : Heap} {locs : List Loc} (V : LV s dC dI cI cZ cJ ad o ad2 u x v H locs) : va_P (dC, dI) classes (wX cI cJ ad o (u, x) ++ wM cI cZ ad2 v) H := V.1
theorem LV.D {s : State} {dC : Nat → ClassId} {dI : Nat → Nat → Nat} {cI cZ cJ : ClassId} {ad : Nat → Nat} {o : Nat} {ad2 : Nat → Nat} {u : S5} {x : Nat → Int64} {v : S5} {H : Heap} {locs : List Loc} (V : LV s dC dI cI cZ cJ ad o ad2 u x v H locs) : va_D (LA s) (wX cI cJ ad o (u, x) ++ wM cI cZ ad2 v) := V.2.1
theorem LV.S {s : State} {dC : Nat → ClassId} {dI : Nat → Nat → Nat} {cI cZ cJ : ClassId} {ad : Nat → Nat} {o : Nat} {ad2 : Nat → Nat} {u : S5} {x : Nat → Int64} {v : S5} {H : Heap} {locs : List Loc} (V : LV s dC dI cI cZ cJ ad o ad2 u x v H locs) : va_S (LA s) s.heap H locs := V.2.2
section LWK
variable {p : Program} {l : Launch} {e : Env} {s : State} {m : MethodId} {below : List Frame} {meth : Method} {c : Code} {H : Heap} {locs : List Loc} {cells slots : Nat} {Q : State → Prop} {b L : Nat} {xs : Nat → Int32} {dC : Nat → ClassId} {dI : Nat → Nat → Nat} {cI cZ cJ : ClassId} {ad : Nat → Nat} {o : Nat} {ad2 : Nat → Nat} {u : S5} {x : Nat → Int64} {v : S5} {ls : Array Slot} {pc : Nat} {st0 : List Value}
theorem LC.words (C : LC p l s m meth c b L xs dC dI cI cZ cJ) : ∀ w ∈ ALLW, w.before #[Value.ref b] s = true := fun w hw => C.at0.2.2.2.2.2.1 w (sub_ALLW w hw)
theorem LC.KX (C : LC p l s m meth c b L xs dC dI cI cZ cJ) : va_K (dC, dI) classes [(cI, .int), (cJ, .long)] s := C.K.sub [0, 2] rfl
theorem LC.KM (C : LC p l s m meth c b L xs dC dI cI cZ cJ) : va_K (dC, dI) classes [(cI, .int), (cZ, .boolean)] s := C.K.sub [0, 1] rfl
theorem LC.KC (C : LC p l s m meth c b L xs dC dI cI cZ cJ) : va_K (dC, dI) classes [(cI, .int)] s := C.K.sub [0] rfl
theorem la_all {s : State} : ∀ q : Nat, s.heap.size ≤ q → LA s q := fun _ h => h
/-- an int of the script -/
theorem lscr (C : LC p l s m meth c b L xs dC dI cI cZ cJ) (V : LV s dC dI cI cZ cJ ad o ad2 u x v H locs) {lv : List (Nat × Value)} (hl : lv_has ls 7 lv) (k0 k4 : Nat) {i j : Nat} {jv : Int} (hij : i + j < L) (h0 : lv[k0]? = some (0, .ref b)) (hj : Int32.ofInt jv = nI j) (h4 : lv[k4]? = some (4, .int (nI i)))
    (d0 : decode code pc = .ok (.aload_n 0, 1)) (d1 : decode code (pc + 1) = .ok (.iload 4, 2)) (d2 : decode code (pc + 3) = .ok (.iconst jv, 1)) (d3 : decode code (pc + 4) = .ok (.iadd, 1)) (d4 : decode code (pc + 5) = .ok (.iaload, 1))
    (kk : W p l e room_1 s m #[Value.ref b] below meth c H locs cells slots Q (F0 m (pc + 6) ls (.int (xs (i + j)) :: st0))) : W p l e room_1 s m #[Value.ref b] below meth c H locs cells slots Q (F0 m pc ls st0) := by
  obtain ⟨hx, hb, hr, hml, hown, hT, hX, hbl, hlocks, hgv⟩ := C.at0
  have hL := C.len
  refine lv_aload_n hx hb d0 rfl (lv_at hl k0 h0) ?_
  refine lv_iload hx hb d1 (lv_at hl k4 h4) ?_
  refine lv_iconst (v := nI j) hx hb d2 hj ?_
  refine lv_iadd hx hb d3 ?_
  rw [nI_add]
  refine va_sld hx hb hX hbl (Nat.not_le.mpr hbl) V.S (vp_in_nI hij (by omega)) d4 ?_
  rw [nI_clamp (by omega)]
  exact kk
/-- a helper of the law -/
theorem lhcall (C : LC p l s m meth c b L xs dC dI cI cZ cJ) (V : LV s dC dI cI cZ cJ ad o ad2 u x v H locs) {y : MethodName} {bytes : ByteArray} {maxL index : Nat} {hh : List (Nat × Nat × Nat × Nat)} {ws : List Cond} {rm : Room} {As : List Value} {k : Int32} {u2 : S5} {x2 : Nat → Int64}
    (hM : Met l y ws rm (PreX (dC, dI) classes [(cI, .int), (cJ, .long)] (wX cI cJ ad o) (u, x) H.size As) (QGi (dC, dI) classes [(cI, .int), (cJ, .long)] (wX cI cJ ad o) (va_A (wX cI cJ ad o (u, x)) H.size) k (u2, x2)) 1 6 (va_A (wX cI cJ ad o (u, x)) H.size))
    (hws : ws = Cond.codeWith y bytes maxL (some .int) hh :: (ALLW ++ THY)) (hrm : rm = { frames := 100, cells := 1, slots := 6, locals := 4000 }) (hlink : (Cond.methodLink R_law index y).before #[Value.ref b] s = true) (hstat : (Cond.static y).before #[Value.ref b] s = true) (hini : (Cond.initialized y.cls).before #[Value.ref b] s = true) (hcode : (Cond.codeWith y bytes maxL (some .int) hh).before #[Value.ref b] s = true)
    (hmx : maxL ≤ 10) (hy : y.cls ≠ "java/lang/invoke/MethodHandle" ∧ y.cls ≠ "java/lang/invoke/VarHandle") (hlen : ∀ sig, parseMethodDescriptor y.desc = some sig → As.length = sig.parameters.length) (hst : st0 = As.reverse) (hls : ls.size = 7) (hdg : decode code pc = .ok (.invokestatic index, 3)) (hr1 : cells + 1 ≤ 601024) (hr2 : slots + 6 ≤ 7293034)
    (kk : ∀ (H2 : Heap) (locs2 : List Loc), LV s dC dI cI cZ cJ ad o ad2 u2 x2 v H2 locs2 → W p l e room_1 s m #[Value.ref b] below meth c H2 locs2 (cells + 1) (slots + 6) Q (F0 m (pc + 3) ls [.int k])) : W p l e room_1 s m #[Value.ref b] below meth c H locs cells slots Q (F0 m pc ls st0) := by
  obtain ⟨hx, hb, hr, hml, hown, hT, hX, hbl, hlocks, hgv⟩ := C.at0
  subst hws; subst hrm; subst hst
  have hTab : ∀ w ∈ tables_1, w.before #[Value.ref b] s = true := fun w hw => hT w (List.mem_append_right _ hw)
  refine callGi (Wd := wX cI cJ ad o) (z := (u, x)) (z' := (u2, x2)) (ot := wM cI cZ ad2 v) (tys := [(cI, .int), (cJ, .long)]) (rest := []) (runSH (rest := []) hx hb hM preX_blind rfl rfl (Nat.le_of_ble_eq_true rfl) (by show 8 + (maxL + 11) + 4000 ≤ 84000; omega) ?_ List.mem_cons_self hown hlink hstat hini hcode hy rfl (hls.trans hml.symm) hlen (List.append_nil _).symm (lv_room (Nat.le_of_ble_eq_true rfl)) hdg ⟨hr1, hr2⟩ (fun U hU hW => ⟨⟨rfl, by rw [hU], by rw [hU]; exact pv_l V.P, va_K.moved hW.alike C.KX, (dv_l V.D).weaken (fun _ _ _ _ => trivial)⟩, thS_moved hW.alike (fun q hq => by rw [hU]; exact V.S.2.1 q hq (Nat.not_le.mpr hq)) C.th, thN_moved hW.alike C.tn⟩)) V.P V.D V.S la_all rfl (fun H2 locs2 h1 h2 h3 => kk H2 locs2 ⟨h1, h2, h3⟩)
  intro w hw a' U hW
  rcases List.mem_cons.mp hw with h | h
  · subst h; exact goodF_at hW (by rfl) hcode
  · rcases List.mem_append.mp h with h | h
    · exact word_at hW (all_good w h) (C.words w h)
    · exact goodF_at hW (List.all_eq_true.mp thy_good w h) (hTab w (thy_in w h))
/-- a method of the class that returns nothing, called by the law itself -/
theorem lccall (C : LC p l s m meth c b L xs dC dI cI cZ cJ) (V : LV s dC dI cI cZ cJ ad o ad2 u x v H locs) {y : MethodName} {bytes : ByteArray} {maxL index : Nat} {ws : List Cond} {rm : Room} {As : List Value} {v2 : S5}
    (hM : Met l y ws rm (PreW (dC, dI) classes [(cI, .int)] (wC cI ad) u H.size (.ref (ad 0) :: As)) (QWv (dC, dI) classes [(cI, .int)] (wC cI ad) (va_A (wC cI ad u) H.size) v2) 0 0 (va_A (wC cI ad u) H.size))
    (cw : CallW room_1 s #[Value.ref b] R_law R_SH index y bytes maxL none ws rm 0 0 As.length) (hst : st0 = As.reverse ++ [.ref (ad 0)]) (hls : ls.size = 7) (hdg : decode code pc = .ok (.invokevirtual index, 3)) (hr1 : cells ≤ 601024) (hr2 : slots ≤ 7293034)
    (kk : ∀ (H2 : Heap) (locs2 : List Loc), LV s dC dI cI cZ cJ ad o ad2 v2 x v H2 locs2 → W p l e room_1 s m #[Value.ref b] below meth c H2 locs2 cells slots Q (F0 m (pc + 3) ls [])) : W p l e room_1 s m #[Value.ref b] below meth c H locs cells slots Q (F0 m pc ls st0) := by
  obtain ⟨hx, hb, hr, hml, hown, hT, hX, hbl, hlocks, hgv⟩ := C.at0
  subst hst
  have hP : va_P (dC, dI) classes (wC cI ad u ++ ([(o, .inl (cJ, 1, .inr (.inl x)))] ++ wM cI cZ ad2 v)) H := by rw [← List.append_assoc]; exact V.P
  have hD : va_D (LA s) (wC cI ad u ++ ([(o, .inl (cJ, 1, .inr (.inl x)))] ++ wM cI cZ ad2 v)) := by rw [← List.append_assoc]; exact V.D
  refine callGv (Wd := wC cI ad) (z := u) (z' := v2) (ot := [(o, .inl (cJ, 1, .inr (.inl x)))] ++ wM cI cZ ad2 v) (tys := [(cI, .int)]) (rest := []) (va_runV (As := As) (rest := []) ⟨hx, hb, hml, hown, C.words⟩ hM cw ⟨preW_blind, va_recv C.KC hP (ci := 0) (q0 := 0) rfl rfl, preW_ok (pv_l hP) (dv_l hD) C.KC⟩ rfl rfl hls rfl (lv_room (Nat.le_of_ble_eq_true rfl)) hdg ⟨hr1, hr2⟩) hP hD V.S la_all (he_C _ _ _ _) (fun H2 locs2 h1 h2 h3 => kk H2 locs2 ⟨by rw [← List.append_assoc] at h1; exact h1, by rw [← List.append_assoc] at h2; exact h2, h3⟩)
/-- a method of the reference that returns nothing -/
theorem lmcall_v (C : LC p l s m meth c b L xs dC dI cI cZ cJ) (V : LV s dC dI cI cZ cJ ad o ad2 u x v H locs) {y : MethodName} {bytes : ByteArray} {maxL index : Nat} {ws : List Cond} {rm : Room} {As : List Value} {v2 : S5}
    (hM : Met l y ws rm (PreW (dC, dI) classes [(cI, .int), (cZ, .boolean)] (wM cI cZ ad2) v H.size (.ref (ad2 0) :: As)) (QWv (dC, dI) classes [(cI, .int), (cZ, .boolean)] (wM cI cZ ad2) (va_A (wM cI cZ ad2 v) H.size) v2) 0 0 (va_A (wM cI cZ ad2 v) H.size))
    (cw : CallW room_1 s #[Value.ref b] R_law R_Mo index y bytes maxL none ws rm 0 0 As.length) (hst : st0 = As.reverse ++ [.ref (ad2 0)]) (hls : ls.size = 7) (hdg : decode code pc = .ok (.invokevirtual index, 3)) (hr1 : cells ≤ 601024) (hr2 : slots ≤ 7293034)
    (kk : ∀ (H2 : Heap) (locs2 : List Loc), LV s dC dI cI cZ cJ ad o ad2 u x v2 H2 locs2 → W p l e room_1 s m #[Value.ref b] below meth c H2 locs2 cells slots Q (F0 m (pc + 3) ls [])) : W p l e room_1 s m #[Value.ref b] below meth c H locs cells slots Q (F0 m pc ls st0) := by
  obtain ⟨hx, hb, hr, hml, hown, hT, hX, hbl, hlocks, hgv⟩ := C.at0
  subst hst
  have hP := pv_swap V.P
  have hD := dv_swap V.D
  exact callGv (Wd := wM cI cZ ad2) (z := v) (z' := v2) (ot := wX cI cJ ad o (u, x)) (tys := [(cI, .int), (cZ, .boolean)]) (rest := []) (va_runV (As := As) (rest := []) ⟨hx, hb, hml, hown, C.words⟩ hM cw ⟨preW_blind, va_recv C.KM hP (ci := 8) (q0 := 0) rfl rfl, preW_ok (pv_l hP) (dv_l hD) C.KM⟩ rfl rfl hls rfl (lv_room (Nat.le_of_ble_eq_true rfl)) hdg ⟨hr1, hr2⟩) hP hD V.S la_all (he_M _ _ _ _ _) (fun H2 locs2 h1 h2 h3 => kk H2 locs2 ⟨pv_swap h1, dv_swap h2, h3⟩)
/-- a method of the reference that returns an int -/
theorem lmcall_i (C : LC p l s m meth c b L xs dC dI cI cZ cJ) (V : LV s dC dI cI cZ cJ ad o ad2 u x v H locs) {y : MethodName} {bytes : ByteArray} {maxL index : Nat} {ws : List Cond} {rm : Room} {As : List Value} {r : Int32} {v2 : S5}
    (hM : Met l y ws rm (PreW (dC, dI) classes [(cI, .int), (cZ, .boolean)] (wM cI cZ ad2) v H.size (.ref (ad2 0) :: As)) (QWi (dC, dI) classes [(cI, .int), (cZ, .boolean)] (wM cI cZ ad2) (va_A (wM cI cZ ad2 v) H.size) r v2) 0 0 (va_A (wM cI cZ ad2 v) H.size))
    (cw : CallW room_1 s #[Value.ref b] R_law R_Mo index y bytes maxL (some .int) ws rm 0 0 As.length) (hst : st0 = As.reverse ++ [.ref (ad2 0)]) (hls : ls.size = 7) (hdg : decode code pc = .ok (.invokevirtual index, 3)) (hr1 : cells ≤ 601024) (hr2 : slots ≤ 7293034)
    (kk : ∀ (H2 : Heap) (locs2 : List Loc), LV s dC dI cI cZ cJ ad o ad2 u x v2 H2 locs2 → W p l e room_1 s m #[Value.ref b] below meth c H2 locs2 cells slots Q (F0 m (pc + 3) ls [.int r])) : W p l e room_1 s m #[Value.ref b] below meth c H locs cells slots Q (F0 m pc ls st0) := by
  obtain ⟨hx, hb, hr, hml, hown, hT, hX, hbl, hlocks, hgv⟩ := C.at0
  subst hst
  have hP := pv_swap V.P
  have hD := dv_swap V.D
  exact callGi (Wd := wM cI cZ ad2) (z := v) (z' := v2) (ot := wX cI cJ ad o (u, x)) (tys := [(cI, .int), (cZ, .boolean)]) (rest := []) (va_runV (As := As) (rest := []) ⟨hx, hb, hml, hown, C.words⟩ hM cw ⟨preW_blind, va_recv C.KM hP (ci := 8) (q0 := 0) rfl rfl, preW_ok (pv_l hP) (dv_l hD) C.KM⟩ rfl rfl hls rfl (lv_room (Nat.le_of_ble_eq_true rfl)) hdg ⟨hr1, hr2⟩) hP hD V.S la_all (he_M _ _ _ _ _) (fun H2 locs2 h1 h2 h3 => kk H2 locs2 ⟨pv_swap h1, dv_swap h2, h3⟩)
end LWK
