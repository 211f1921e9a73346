def wE (cI : ClassId) (ad : Nat → Nat) (u : S5) : va_W := [(ad 0, .inr (2, [.ref (ad 1), .ref (ad 2)])),
  (ad 1, .inl (cI, 65536, .inl (aI u 0))),
  (ad 2, .inl (cI, 16384, .inl (aI u 1)))]
def wG (cI : ClassId) (ad : Nat → Nat) (u : S5) : va_W := [(ad 0, .inr (3, [.ref (ad 1), .ref (ad 2)])),
  (ad 1, .inl (cI, 32, .inl (aI u 2))),
  (ad 2, .inl (cI, 32, .inl (aI u 3)))]
section WRL
variable {p : Program} {l : Launch} {e : Env} {R : Room} {s : State} {m : MethodId} {args : Array Value} {below : List Frame} {meth : Method} {c : Code} {H : Heap} {locs : List Loc} {cells slots : Nat} {Q : State → Prop}
variable {cc : ByteArray} {pc : Nat} {ls : Array Slot} {rest : List Value} {A : Nat → Prop} {H0 : Heap} {dC : Nat → ClassId} {dI : Nat → Nat → Nat} {cI cZ : ClassId} {ad : Nat → Nat} {u : S5}
theorem aldE_cells {v : Int32} (hexec : p.tables.exec = Jvm.exec) (hb : c.code = cc) (hK : va_K (dC, dI) classes [(cI, .int)] s) (hP : va_P (dC, dI) classes (wE cI ad u) H) {n : Nat} (hn : n < 65536) (hv : aI u 0 n = v) (hdg : decode cc pc = .ok (.iaload, 1)) (kk : W p l e R s m args below meth c H locs cells slots Q (F0 m (pc + 1) ls (.int v :: rest))) : W p l e R s m args below meth c H locs cells slots Q (F0 m pc ls (.int (nI n) :: .ref (ad 1) :: rest)) := by
  refine va_iald hexec hb hK hP 1 0 rfl rfl (vp_in_nI hn (by decide)) hdg ?_
  rw [nI_clamp (by omega)]; subst hv; exact kk
theorem astE_cells {v : Int32} (hexec : p.tables.exec = Jvm.exec) (hb : c.code = cc) (hK : va_K (dC, dI) classes [(cI, .int)] s) (hP : va_P (dC, dI) classes (wE cI ad u) H) (hD : va_D A (wE cI ad u)) (hS : va_S A H0 H locs) {n : Nat} (hn : n < 65536) (hdg : decode cc pc = .ok (.iastore, 1)) (kk : ∀ (H1 : Heap) (locs1 : List Loc), va_P (dC, dI) classes (wE cI ad (uI u 0 n v)) H1 → va_D A (wE cI ad (uI u 0 n v)) → va_S A H0 H1 locs1 → W p l e R s m args below meth c H1 locs1 cells slots Q (F0 m (pc + 1) ls rest)) : W p l e R s m args below meth c H locs cells slots Q (F0 m pc ls (.int v :: .int (nI n) :: .ref (ad 1) :: rest)) := by
  refine va_iast hexec hb hK hP hD hS 1 0 rfl rfl (vp_in_nI hn (by decide)) hdg (fun H1 locs1 h1 h2 h3 => ?_)
  rw [nI_clamp (by omega)] at h1 h2
  exact kk H1 locs1 h1 h2 h3
theorem aldE_image {v : Int32} (hexec : p.tables.exec = Jvm.exec) (hb : c.code = cc) (hK : va_K (dC, dI) classes [(cI, .int)] s) (hP : va_P (dC, dI) classes (wE cI ad u) H) {n : Nat} (hn : n < 16384) (hv : aI u 1 n = v) (hdg : decode cc pc = .ok (.iaload, 1)) (kk : W p l e R s m args below meth c H locs cells slots Q (F0 m (pc + 1) ls (.int v :: rest))) : W p l e R s m args below meth c H locs cells slots Q (F0 m pc ls (.int (nI n) :: .ref (ad 2) :: rest)) := by
  refine va_iald hexec hb hK hP 2 0 rfl rfl (vp_in_nI hn (by decide)) hdg ?_
  rw [nI_clamp (by omega)]; subst hv; exact kk
theorem astE_image {v : Int32} (hexec : p.tables.exec = Jvm.exec) (hb : c.code = cc) (hK : va_K (dC, dI) classes [(cI, .int)] s) (hP : va_P (dC, dI) classes (wE cI ad u) H) (hD : va_D A (wE cI ad u)) (hS : va_S A H0 H locs) {n : Nat} (hn : n < 16384) (hdg : decode cc pc = .ok (.iastore, 1)) (kk : ∀ (H1 : Heap) (locs1 : List Loc), va_P (dC, dI) classes (wE cI ad (uI u 1 n v)) H1 → va_D A (wE cI ad (uI u 1 n v)) → va_S A H0 H1 locs1 → W p l e R s m args below meth c H1 locs1 cells slots Q (F0 m (pc + 1) ls rest)) : W p l e R s m args below meth c H locs cells slots Q (F0 m pc ls (.int v :: .int (nI n) :: .ref (ad 2) :: rest)) := by
  refine va_iast hexec hb hK hP hD hS 2 0 rfl rfl (vp_in_nI hn (by decide)) hdg (fun H1 locs1 h1 h2 h3 => ?_)
  rw [nI_clamp (by omega)] at h1 h2
  exact kk H1 locs1 h1 h2 h3
theorem aldG_value {v : Int32} (hexec : p.tables.exec = Jvm.exec) (hb : c.code = cc) (hK : va_K (dC, dI) classes [(cI, .int)] s) (hP : va_P (dC, dI) classes (wG cI ad u) H) {n : Nat} (hn : n < 32) (hv : aI u 2 n = v) (hdg : decode cc pc = .ok (.iaload, 1)) (kk : W p l e R s m args below meth c H locs cells slots Q (F0 m (pc + 1) ls (.int v :: rest))) : W p l e R s m args below meth c H locs cells slots Q (F0 m pc ls (.int (nI n) :: .ref (ad 1) :: rest)) := by
  refine va_iald hexec hb hK hP 1 0 rfl rfl (vp_in_nI hn (by decide)) hdg ?_
  rw [nI_clamp (by omega)]; subst hv; exact kk
theorem astG_value {v : Int32} (hexec : p.tables.exec = Jvm.exec) (hb : c.code = cc) (hK : va_K (dC, dI) classes [(cI, .int)] s) (hP : va_P (dC, dI) classes (wG cI ad u) H) (hD : va_D A (wG cI ad u)) (hS : va_S A H0 H locs) {n : Nat} (hn : n < 32) (hdg : decode cc pc = .ok (.iastore, 1)) (kk : ∀ (H1 : Heap) (locs1 : List Loc), va_P (dC, dI) classes (wG cI ad (uI u 2 n v)) H1 → va_D A (wG cI ad (uI u 2 n v)) → va_S A H0 H1 locs1 → W p l e R s m args below meth c H1 locs1 cells slots Q (F0 m (pc + 1) ls rest)) : W p l e R s m args below meth c H locs cells slots Q (F0 m pc ls (.int v :: .int (nI n) :: .ref (ad 1) :: rest)) := by
  refine va_iast hexec hb hK hP hD hS 1 0 rfl rfl (vp_in_nI hn (by decide)) hdg (fun H1 locs1 h1 h2 h3 => ?_)
  rw [nI_clamp (by omega)] at h1 h2
  exact kk H1 locs1 h1 h2 h3
theorem aldG_ungiven {v : Int32} (hexec : p.tables.exec = Jvm.exec) (hb : c.code = cc) (hK : va_K (dC, dI) classes [(cI, .int)] s) (hP : va_P (dC, dI) classes (wG cI ad u) H) {n : Nat} (hn : n < 32) (hv : aI u 3 n = v) (hdg : decode cc pc = .ok (.iaload, 1)) (kk : W p l e R s m args below meth c H locs cells slots Q (F0 m (pc + 1) ls (.int v :: rest))) : W p l e R s m args below meth c H locs cells slots Q (F0 m pc ls (.int (nI n) :: .ref (ad 2) :: rest)) := by
  refine va_iald hexec hb hK hP 2 0 rfl rfl (vp_in_nI hn (by decide)) hdg ?_
  rw [nI_clamp (by omega)]; subst hv; exact kk
theorem astG_ungiven {v : Int32} (hexec : p.tables.exec = Jvm.exec) (hb : c.code = cc) (hK : va_K (dC, dI) classes [(cI, .int)] s) (hP : va_P (dC, dI) classes (wG cI ad u) H) (hD : va_D A (wG cI ad u)) (hS : va_S A H0 H locs) {n : Nat} (hn : n < 32) (hdg : decode cc pc = .ok (.iastore, 1)) (kk : ∀ (H1 : Heap) (locs1 : List Loc), va_P (dC, dI) classes (wG cI ad (uI u 3 n v)) H1 → va_D A (wG cI ad (uI u 3 n v)) → va_S A H0 H1 locs1 → W p l e R s m args below meth c H1 locs1 cells slots Q (F0 m (pc + 1) ls rest)) : W p l e R s m args below meth c H locs cells slots Q (F0 m pc ls (.int v :: .int (nI n) :: .ref (ad 2) :: rest)) := by
  refine va_iast hexec hb hK hP hD hS 2 0 rfl rfl (vp_in_nI hn (by decide)) hdg (fun H1 locs1 h1 h2 h3 => ?_)
  rw [nI_clamp (by omega)] at h1 h2
  exact kk H1 locs1 h1 h2 h3
end WRL
def fE_Me_reset (u : S5) : S5 := fI (fI (cp u 0 (aI u 1) 0 0 16384) 0 16384 57344 0) 0 57344 65536 130816
set_option maxHeartbeats 8000000 in
set_option maxRecDepth 100000 in
theorem cE_Me_reset (l : Launch) (dC : Nat → ClassId) (dI : Nat → Nat → Nat) (cI : ClassId) (ad : Nat → Nat) (u : S5) (sz : Nat) : Met l y_Me_reset w_Me_reset rm_Me_reset (PreW (dC, dI) classes [(cI, .int)] (wE cI ad) u sz [.ref (ad 0)]) (QWv (dC, dI) classes [(cI, .int)] (wE cI ad) (va_A (wE cI ad u) sz) (fE_Me_reset u)) 0 0 (va_A (wE cI ad u) sz) := by
  generalize hres : fE_Me_reset u = res
  refine Met.ofW (cc := b_Me_reset) (maxL := 1) (ret := none) (by decide) rfl ?_
  intro p e s m args below meth c s₁ B hml hv
  obtain ⟨rfl, rfl, hP, hK, hD0⟩ := hv
  have hx := B.exec
  have hb := B.bytes
  have hr := B.returns
  have hts : ∀ w9 ∈ ALLW, w9.before ([.ref (ad 0)] : List Value).toArray s = true := fun w9 h => atoms_spec (ws := w_Me_reset) B.pre w9 (List.mem_cons_of_mem _ h)
  have hown : s.vm.findClass R_Me = some m.cls := findClass_of_methodNamed B.named
  have hlocks := B.notSynchronized
  have hD := hD0.self (sz := s.heap.size)
  generalize hAe : va_A (wE cI ad u) s.heap.size = A at hD ⊢
  have hA : ∀ q : Nat, s.heap.size ≤ q → A q := fun q h => by rw [← hAe]; exact Or.inr h
  have hS : va_S A s.heap s.heap [] := va_S.rf
  have hl := lv_entry ([.ref (ad 0)]) (n := 1) (Nat.le_of_ble_eq_true rfl)
  rw [lg_entry_eq]
  generalize (lg_sl ([.ref (ad 0)]) ++ List.replicate (1 - (lg_sl ([.ref (ad 0)])).length) Slot.unset).toArray = ls at hl ⊢
  have hl : lv_has ls 1 [(0, .ref (ad 0))] := hl
  have hq := hres.symm
  skip
  refine lv_aload_n hx hb d_Me_reset_0 rfl (lv_at hl 0 rfl) ?_
  refine va_get (D := (dC, dI)) (ci := 2) (v := .ref (ad 2)) (C := R_Me) (T := F_Me) (N := 2) hx hb hts in_Me hown hK hP 0 rfl rfl 1 (by decide) (hts _ m_1_20) (fun _ h9 => h9) rfl d_Me_reset_1 ?_
  refine lv_iconst (v := nI 0) hx hb d_Me_reset_4 (by decide) ?_
  refine lv_aload_n hx hb d_Me_reset_5 rfl (lv_at hl 0 rfl) ?_
  refine va_get (D := (dC, dI)) (ci := 2) (v := .ref (ad 1)) (C := R_Me) (T := F_Me) (N := 2) hx hb hts in_Me hown hK hP 0 rfl rfl 0 (by decide) (hts _ m_1_18) (fun _ h9 => h9) rfl d_Me_reset_6 ?_
  refine lv_iconst (v := nI 0) hx hb d_Me_reset_9 (by decide) ?_
  refine lv_sipush (v := nI 16384) hx hb d_Me_reset_10 (by decide) ?_
  refine cpN hx hb (hml.trans hl.1.symm) hown (hts _ m_1_2) (hts _ m_1_4) (hts _ m_1_3) (hts _ m_0_5) hK hP hD hS 2 1 0 0 rfl rfl rfl rfl (by omega) (by omega) (by omega) (by omega) (by omega) (Nat.le_of_ble_eq_true rfl) (Nat.le_of_ble_eq_true rfl) d_Me_reset_13 (fun H locs hP hD hS => ?_)
  have hP : va_P (dC, dI) classes (wE cI ad (cp u 0 (aI u 1) 0 0 16384)) H := hP
  have hD : va_D A (wE cI ad (cp u 0 (aI u 1) 0 0 16384)) := hD
  refine lv_aload_n hx hb d_Me_reset_16 rfl (lv_at hl 0 rfl) ?_
  refine va_get (D := (dC, dI)) (ci := 2) (v := .ref (ad 1)) (C := R_Me) (T := F_Me) (N := 2) hx hb hts in_Me hown hK hP 0 rfl rfl 0 (by decide) (hts _ m_1_18) (fun _ h9 => h9) rfl d_Me_reset_17 ?_
  refine lv_sipush (v := nI 16384) hx hb d_Me_reset_20 (by decide) ?_
  refine lv_ldc (v := 57344) hx hb hown (hts _ m_1_5) d_Me_reset_23 ?_
  refine rw_top (y := nI 57344) (by decide) ?_
  refine lv_iconst (v := 0) hx hb d_Me_reset_25 (by decide) ?_
  refine callZv (va_runS (As := [.ref (ad 1), .int (nI 16384), .int (nI 57344), .int 0]) (rest := []) ⟨hx, hb, hml, hown, hts⟩ (c_Ar_fill2 l (dC, dI) classes [(cI, .int)] cI 0 rfl (wE cI ad (cp u 0 (aI u 1) 0 0 16384)) 1 (ad 1) 65536 (aI (cp u 0 (aI u 1) 0 0 16384) 0) rfl (by decide) 16384 57344 (by omega) (by omega) 0 H.size) (va_cwS 4 hts (goodS m_1_6 m_1_7 m_0_4 m_1_8) rfl rfl rfl (by decide +kernel) ⟨Nat.le_of_ble_eq_true rfl, Nat.le_of_ble_eq_true rfl⟩) ⟨preZ_blind, preZ_ok hP hD hK⟩ rfl rfl hl.1 rfl (lv_room (Nat.le_of_ble_eq_true rfl)) d_Me_reset_26 ⟨Nat.zero_le _, Nat.zero_le _⟩) hP hD hS hA (fun H locs hP hD hS => ?_)
  have hP : va_P (dC, dI) classes (wE cI ad (fI (cp u 0 (aI u 1) 0 0 16384) 0 16384 57344 0)) H := hP
  have hD : va_D A (wE cI ad (fI (cp u 0 (aI u 1) 0 0 16384) 0 16384 57344 0)) := hD
  refine lv_aload_n hx hb d_Me_reset_29 rfl (lv_at hl 0 rfl) ?_
  refine va_get (D := (dC, dI)) (ci := 2) (v := .ref (ad 1)) (C := R_Me) (T := F_Me) (N := 2) hx hb hts in_Me hown hK hP 0 rfl rfl 0 (by decide) (hts _ m_1_18) (fun _ h9 => h9) rfl d_Me_reset_30 ?_
  refine lv_ldc (v := 57344) hx hb hown (hts _ m_1_5) d_Me_reset_33 ?_
  refine rw_top (y := nI 57344) (by decide) ?_
  refine lv_ldc (v := 65536) hx hb hown (hts _ m_0_34) d_Me_reset_35 ?_
  refine rw_top (y := nI 65536) (by decide) ?_
  refine lv_ldc (v := 130816) hx hb hown (hts _ m_1_17) d_Me_reset_37 ?_
  refine callZv (va_runS (As := [.ref (ad 1), .int (nI 57344), .int (nI 65536), .int 130816]) (rest := []) ⟨hx, hb, hml, hown, hts⟩ (c_Ar_fill2 l (dC, dI) classes [(cI, .int)] cI 0 rfl (wE cI ad (fI (cp u 0 (aI u 1) 0 0 16384) 0 16384 57344 0)) 1 (ad 1) 65536 (aI (fI (cp u 0 (aI u 1) 0 0 16384) 0 16384 57344 0) 0) rfl (by decide) 57344 65536 (by omega) (by omega) 130816 H.size) (va_cwS 4 hts (goodS m_1_6 m_1_7 m_0_4 m_1_8) rfl rfl rfl (by decide +kernel) ⟨Nat.le_of_ble_eq_true rfl, Nat.le_of_ble_eq_true rfl⟩) ⟨preZ_blind, preZ_ok hP hD hK⟩ rfl rfl hl.1 rfl (lv_room (Nat.le_of_ble_eq_true rfl)) d_Me_reset_39 ⟨Nat.zero_le _, Nat.zero_le _⟩) hP hD hS hA (fun H locs hP hD hS => ?_)
  have hP : va_P (dC, dI) classes (wE cI ad (fI (fI (cp u 0 (aI u 1) 0 0 16384) 0 16384 57344 0) 0 57344 65536 130816)) H := hP
  have hD : va_D A (wE cI ad (fI (fI (cp u 0 (aI u 1) 0 0 16384) 0 16384 57344 0) 0 57344 65536 130816)) := hD
  have hE : res = fI (fI (cp u 0 (aI u 1) 0 0 16384) 0 16384 57344 0) 0 57344 65536 130816 := hq.trans (rfl)
  exact retWv hx hb hr hP hK hD hS hE.symm d_Me_reset_42 hlocks
def fG_Rg_reset (u : S5) : S5 := uI (uI (uI (fI (fI u 2 0 32 0) 3 0 32 (-1)) 3 0 0) 2 2 65536) 3 2 0
set_option maxHeartbeats 8000000 in
set_option maxRecDepth 100000 in
theorem cG_Rg_reset (l : Launch) (dC : Nat → ClassId) (dI : Nat → Nat → Nat) (cI : ClassId) (ad : Nat → Nat) (u : S5) (sz : Nat) : Met l y_Rg_reset w_Rg_reset rm_Rg_reset (PreW (dC, dI) classes [(cI, .int)] (wG cI ad) u sz [.ref (ad 0)]) (QWv (dC, dI) classes [(cI, .int)] (wG cI ad) (va_A (wG cI ad u) sz) (fG_Rg_reset u)) 0 0 (va_A (wG cI ad u) sz) := by
  generalize hres : fG_Rg_reset u = res
  refine Met.ofW (cc := b_Rg_reset) (maxL := 1) (ret := none) (by decide) rfl ?_
  intro p e s m args below meth c s₁ B hml hv
  obtain ⟨rfl, rfl, hP, hK, hD0⟩ := hv
  have hx := B.exec
  have hb := B.bytes
  have hr := B.returns
  have hts : ∀ w9 ∈ ALLW, w9.before ([.ref (ad 0)] : List Value).toArray s = true := fun w9 h => atoms_spec (ws := w_Rg_reset) B.pre w9 (List.mem_cons_of_mem _ h)
  have hown : s.vm.findClass R_Rg = some m.cls := findClass_of_methodNamed B.named
  have hlocks := B.notSynchronized
  have hD := hD0.self (sz := s.heap.size)
  generalize hAe : va_A (wG cI ad u) s.heap.size = A at hD ⊢
  have hA : ∀ q : Nat, s.heap.size ≤ q → A q := fun q h => by rw [← hAe]; exact Or.inr h
  have hS : va_S A s.heap s.heap [] := va_S.rf
  have hl := lv_entry ([.ref (ad 0)]) (n := 1) (Nat.le_of_ble_eq_true rfl)
  rw [lg_entry_eq]
  generalize (lg_sl ([.ref (ad 0)]) ++ List.replicate (1 - (lg_sl ([.ref (ad 0)])).length) Slot.unset).toArray = ls at hl ⊢
  have hl : lv_has ls 1 [(0, .ref (ad 0))] := hl
  have hq := hres.symm
  skip
  refine lv_aload_n hx hb d_Rg_reset_0 rfl (lv_at hl 0 rfl) ?_
  refine va_get (D := (dC, dI)) (ci := 3) (v := .ref (ad 1)) (C := R_Rg) (T := F_Rg) (N := 2) hx hb hts in_Rg hown hK hP 0 rfl rfl 0 (by decide) (hts _ m_1_35) (fun _ h9 => h9) rfl d_Rg_reset_1 ?_
  refine lv_iconst (v := 0) hx hb d_Rg_reset_4 (by decide) ?_
  refine callZv (va_runS (As := [.ref (ad 1), .int 0]) (rest := []) ⟨hx, hb, hml, hown, hts⟩ (c_Ar_fill1 l (dC, dI) classes [(cI, .int)] cI 0 rfl (wG cI ad u) 1 (ad 1) 32 (aI u 2) rfl (by decide) 0 s.heap.size) (va_cwS 2 hts (goodS m_1_33 m_0_36 m_0_4 m_0_37) rfl rfl rfl (by decide +kernel) ⟨Nat.le_of_ble_eq_true rfl, Nat.le_of_ble_eq_true rfl⟩) ⟨preZ_blind, preZ_ok hP hD hK⟩ rfl rfl hl.1 rfl (lv_room (Nat.le_of_ble_eq_true rfl)) d_Rg_reset_5 ⟨Nat.zero_le _, Nat.zero_le _⟩) hP hD hS hA (fun H locs hP hD hS => ?_)
  have hP : va_P (dC, dI) classes (wG cI ad (fI u 2 0 32 0)) H := hP
  have hD : va_D A (wG cI ad (fI u 2 0 32 0)) := hD
  refine lv_aload_n hx hb d_Rg_reset_8 rfl (lv_at hl 0 rfl) ?_
  refine va_get (D := (dC, dI)) (ci := 3) (v := .ref (ad 2)) (C := R_Rg) (T := F_Rg) (N := 2) hx hb hts in_Rg hown hK hP 0 rfl rfl 1 (by decide) (hts _ m_1_39) (fun _ h9 => h9) rfl d_Rg_reset_9 ?_
  refine lv_iconst (v := (-1)) hx hb d_Rg_reset_12 (by decide) ?_
  refine callZv (va_runS (As := [.ref (ad 2), .int (-1)]) (rest := []) ⟨hx, hb, hml, hown, hts⟩ (c_Ar_fill1 l (dC, dI) classes [(cI, .int)] cI 0 rfl (wG cI ad (fI u 2 0 32 0)) 2 (ad 2) 32 (aI u 3) rfl (by decide) (-1) H.size) (va_cwS 2 hts (goodS m_1_33 m_0_36 m_0_4 m_0_37) rfl rfl rfl (by decide +kernel) ⟨Nat.le_of_ble_eq_true rfl, Nat.le_of_ble_eq_true rfl⟩) ⟨preZ_blind, preZ_ok hP hD hK⟩ rfl rfl hl.1 rfl (lv_room (Nat.le_of_ble_eq_true rfl)) d_Rg_reset_13 ⟨Nat.zero_le _, Nat.zero_le _⟩) hP hD hS hA (fun H locs hP hD hS => ?_)
  have hP : va_P (dC, dI) classes (wG cI ad (fI (fI u 2 0 32 0) 3 0 32 (-1))) H := hP
  have hD : va_D A (wG cI ad (fI (fI u 2 0 32 0) 3 0 32 (-1))) := hD
  refine lv_aload_n hx hb d_Rg_reset_16 rfl (lv_at hl 0 rfl) ?_
  refine va_get (D := (dC, dI)) (ci := 3) (v := .ref (ad 2)) (C := R_Rg) (T := F_Rg) (N := 2) hx hb hts in_Rg hown hK hP 0 rfl rfl 1 (by decide) (hts _ m_1_39) (fun _ h9 => h9) rfl d_Rg_reset_17 ?_
  refine lv_iconst (v := nI 0) hx hb d_Rg_reset_20 (by decide) ?_
  refine lv_iconst (v := 0) hx hb d_Rg_reset_21 (by decide) ?_
  refine astG_ungiven (u := (fI (fI u 2 0 32 0) 3 0 32 (-1))) (n := 0) hx hb hK hP hD hS (by omega) d_Rg_reset_22 (fun H locs hP hD hS => ?_)
  refine lv_aload_n hx hb d_Rg_reset_23 rfl (lv_at hl 0 rfl) ?_
  refine va_get (D := (dC, dI)) (ci := 3) (v := .ref (ad 1)) (C := R_Rg) (T := F_Rg) (N := 2) hx hb hts in_Rg hown hK hP 0 rfl rfl 0 (by decide) (hts _ m_1_35) (fun _ h9 => h9) rfl d_Rg_reset_24 ?_
  refine lv_iconst (v := nI 2) hx hb d_Rg_reset_27 (by decide) ?_
  refine lv_ldc (v := 65536) hx hb hown (hts _ m_1_34) d_Rg_reset_28 ?_
  refine astG_value (u := (uI (fI (fI u 2 0 32 0) 3 0 32 (-1)) 3 0 0)) (n := 2) hx hb hK hP hD hS (by omega) d_Rg_reset_30 (fun H locs hP hD hS => ?_)
  refine lv_aload_n hx hb d_Rg_reset_31 rfl (lv_at hl 0 rfl) ?_
  refine va_get (D := (dC, dI)) (ci := 3) (v := .ref (ad 2)) (C := R_Rg) (T := F_Rg) (N := 2) hx hb hts in_Rg hown hK hP 0 rfl rfl 1 (by decide) (hts _ m_1_39) (fun _ h9 => h9) rfl d_Rg_reset_32 ?_
  refine lv_iconst (v := nI 2) hx hb d_Rg_reset_35 (by decide) ?_
  refine lv_iconst (v := 0) hx hb d_Rg_reset_36 (by decide) ?_
  refine astG_ungiven (u := (uI (uI (fI (fI u 2 0 32 0) 3 0 32 (-1)) 3 0 0) 2 2 65536)) (n := 2) hx hb hK hP hD hS (by omega) d_Rg_reset_37 (fun H locs hP hD hS => ?_)
  have hE : res = uI (uI (uI (fI (fI u 2 0 32 0) 3 0 32 (-1)) 3 0 0) 2 2 65536) 3 2 0 := hq.trans (rfl)
  exact retWv hx hb hr hP hK hD hS hE.symm d_Rg_reset_38 hlocks
