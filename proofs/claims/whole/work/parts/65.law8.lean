theorem ra_lon : ∀ U : State, ∀ cA : ClassId, va_RA U cA .long → U.vm.findClass ("[" ++ FieldType.long.toString) = some cA := fun _ _ h => h
theorem arr_known {s : State} {args : Array Value} {ty : FieldType} (h : (Cond.arrayClass ty).before args s = true) : ∃ cA : ClassId, ArrOfT s cA ty ∧ s.vm.findClass ("[" ++ ty.toString) = some cA := by
  obtain ⟨cA, kA, comp, h1, h2, h3⟩ := Cond.arrayClass_spec h
  exact ⟨cA, fun n z => ⟨fun k h => (by cases h), kA, h2, comp, h3⟩, h1⟩
set_option maxHeartbeats 1000000 in
set_option maxRecDepth 100000 in
/-- THE LAW, from its entry -/
theorem law_start {Sim : S5 → S5 → Prop} (hsim : LSim Sim) (hz0 : Sim uC0 (f_Mo_begin u0)) {p : Program} {e : Env} {s : State} {m : MethodId} {below : List Frame} {meth : Method} {c : Code} (l : Launch) (hfl : l.flags = pinnedFlags ++ [noTraceFlag]) {b L : Nat} {xs : Nat → Int32} (hL : L ≤ 2048) (C0 : lw_At p s m meth c b L xs) : W p l e room_1 s m #[Value.ref b] below meth c s.heap [] 0 0 (lw_Z below #[Value.ref b] s) (entryFrame m ([Value.ref b] : List Value).toArray 7) := by
  obtain ⟨hx, hb, hr, hml, hown, hT, hX, hbl, hlocks, hgv⟩ := id C0
  have hts : ∀ w ∈ ALLW, w.before #[Value.ref b] s = true := fun w hw => hT w (sub_ALLW w hw)
  have hTab : ∀ w ∈ tables_1, w.before #[Value.ref b] s = true := fun w hw => hT w (List.mem_append_right _ hw)
  obtain ⟨hth, htn, hnw⟩ := start_th hgv hTab
  have hA : ∀ q : Nat, s.heap.size ≤ q → LA s q := la_all
  obtain ⟨c0, iS0, hKn0⟩ := u_known (C := R_SH) (T := F_SH) (N := 1) (n := 1) hts in_SH (hts _ m_0_16)
  obtain ⟨c1, iS1, hKn1⟩ := u_known (C := R_Ma) (T := F_Ma) (N := 10) (n := 10) hts in_Ma (hts _ m_0_24)
  obtain ⟨c2, iS2, hKn2⟩ := u_known (C := R_Me) (T := F_Me) (N := 2) (n := 2) hts in_Me (hts _ m_0_29)
  obtain ⟨c3, iS3, hKn3⟩ := u_known (C := R_Rg) (T := F_Rg) (N := 2) (n := 2) hts in_Rg (hts _ m_1_24)
  obtain ⟨c4, iS4, hKn4⟩ := u_known (C := R_Rp) (T := F_Rp) (N := 6) (n := 6) hts in_Rp (hts _ m_2_6)
  obtain ⟨c5, iS5, hKn5⟩ := u_known (C := R_Ho) (T := F_Ho) (N := 2) (n := 2) hts in_Ho (hts _ m_2_27)
  obtain ⟨c6, iS6, hKn6⟩ := u_known (C := R_He) (T := F_He) (N := 12) (n := 12) hts in_He (hts _ m_2_32)
  obtain ⟨c7, iS7, hKn7⟩ := u_known (C := R_Po) (T := F_Po) (N := 5) (n := 5) hts in_Po (hts _ m_3_27)
  obtain ⟨c8, iS8, hKn8⟩ := u_known (C := R_Mo) (T := F_Mo) (N := 31) (n := 31) hts in_Mo (hts _ m_13_18)
  obtain ⟨cI, hcI1, hcI2⟩ := arr_known (ty := .int) (hts _ m_1_12)
  obtain ⟨cZ, hcZ1, hcZ2⟩ := arr_known (ty := .boolean) (hts _ m_15_12)
  obtain ⟨cJ, hcJ1, hcJ2⟩ := arr_known (ty := .long) (hts _ m_18_36)
  obtain ⟨dC, dI, hKc⟩ : ∃ (dC : Nat → ClassId) (dI : Nat → Nat → Nat), ∀ (k : Nat) (q : vw_C), classes[k]? = some q → u_Kn s q.1 q.2.1 q.2.2 (dC k) (dI k) := by
    refine ⟨(fun k => match k with | 0 => c0 | 1 => c1 | 2 => c2 | 3 => c3 | 4 => c4 | 5 => c5 | 6 => c6 | 7 => c7 | _ => c8), (fun k => match k with | 0 => iS0 | 1 => iS1 | 2 => iS2 | 3 => iS3 | 4 => iS4 | 5 => iS5 | 6 => iS6 | 7 => iS7 | _ => iS8), ?_⟩
    intro k q hq
    match k, hq with
    | 0, hq => cases hq; exact hKn0
    | 1, hq => cases hq; exact hKn1
    | 2, hq => cases hq; exact hKn2
    | 3, hq => cases hq; exact hKn3
    | 4, hq => cases hq; exact hKn4
    | 5, hq => cases hq; exact hKn5
    | 6, hq => cases hq; exact hKn6
    | 7, hq => cases hq; exact hKn7
    | 8, hq => cases hq; exact hKn8
    | k + 9, hq => simp [classes] at hq
  have hK : va_K (dC, dI) classes [(cI, .int), (cZ, .boolean), (cJ, .long)] s := ⟨hKc, fun k q h => by
    match k, h with
    | 0, h => cases h; exact ⟨hcI1, hcI2⟩
    | 1, h => cases h; exact ⟨hcZ1, hcZ2⟩
    | 2, h => cases h; exact ⟨hcJ1, hcJ2⟩
    | k + 3, h => simp at h⟩
  have C : LC p l s m meth c b L xs dC dI cI cZ cJ := ⟨C0, hL, hfl, hth, htn, hK⟩
  have hS : va_S (LA s) s.heap s.heap [] := va_S.rf
  have hP : va_P (dC, dI) classes [] s.heap := fun k q h => by simp at h
  have hD : va_D (LA s) [] := ⟨fun i j p q h => by simp at h, fun k q h => by simp at h⟩
  have hl := lv_entry ([.ref b]) (n := 7) (Nat.le_of_ble_eq_true rfl)
  rw [lg_entry_eq]
  generalize (lg_sl ([.ref b]) ++ List.replicate (7 - (lg_sl ([.ref b])).length) Slot.unset).toArray = ls at hl ⊢
  have hl : lv_has ls 7 [(0, .ref b)] := hl
  refine va_new (D := (dC, dI)) (ci := 0) (fs := [.null]) (C := R_SH) (T := F_SH) (N := 1) hx hb hts in_SH t_SH t_SH_ok hown (hts _ m_0_15) (hts _ m_0_16) (hts _ m_0_1) hK hP hD hS hA rfl (fun j hj => by rcases (show j = 0 by omega) with rfl; rfl) (Nat.le_of_ble_eq_true rfl) (Nat.le_of_ble_eq_true rfl) d_law_0 (fun q0 H hP hD hS => ?_)
  have hP : va_P (dC, dI) classes ([(q0, .inr (0, [.null]))] ++ []) H := hP
  have hD : va_D (LA s) ([(q0, .inr (0, [.null]))] ++ []) := hD
  refine lv_dup hx hb d_law_3 rfl ?_
  refine W.widen (k := 1) (n := 10) (Nat.le_of_ble_eq_true rfl) (Nat.le_of_ble_eq_true rfl) ?_
  refine callCv (Wd := fun ad => wC cI ad uC0) (W0 := [(q0, .inr (0, [.null]))]) (ot := []) (tys := [(cI, .int)]) (va_runI (As := []) (rest := [.ref q0]) ⟨hx, hb, hml, hown, hts⟩ (c_SH_init l dC dI cI q0 H.size) (cwI 0 hts (goodA (c1 := .tt) m_0_19) rfl rfl rfl (hts _ m_0_1) (hts _ m_0_17) (hts _ m_0_18) rfl (by decide +kernel) ⟨Nat.le_of_ble_eq_true rfl, Nat.le_of_ble_eq_true rfl⟩) ⟨fun a U g mk q9 => ⟨preC_blind a U g mk q9.1, q9.2.calling⟩, fun U hU hW => ⟨preC_ok (pv_l hP) (dv_l hD) C.KC U hU hW, hnw.warm hW⟩⟩ rfl rfl hl.1 rfl (lv_room (Nat.le_of_ble_eq_true rfl)) d_law_4 ⟨Nat.le_of_ble_eq_true rfl, Nat.le_of_ble_eq_true rfl⟩) hP hD hS hA (fun ad H locs had hP hD hS => ?_)
  rw [← had]
  refine lv_astore_n (lv' := [(1, .ref (ad 0)), (0, .ref b)]) hx hb d_law_7 rfl hl (by decide) rfl (fun ls hl => ?_)
  have hP : va_P (dC, dI) classes (wC cI ad uC0) H := pv_l hP
  have hD : va_D (LA s) (wC cI ad uC0) := dv_l hD
  refine va_new (D := (dC, dI)) (ci := 8) (fs := [.int 0, .null, .null, .null, .null, .null, .null, .int 0, .int 0, .int 0, .int 0, .int 0, .null, .null, .null, .null, .int 0, .int 0, .null, .null, .null, .int 0, .int 0, .int 0, .int 0, .null, .null, .null, .null, .int 0, .null]) (C := R_Mo) (T := F_Mo) (N := 31) hx hb hts in_Mo t_Mo t_Mo_ok hown (hts _ m_13_17) (hts _ m_13_18) (hts _ m_0_12) hK hP hD hS hA rfl (fun j hj => by rcases (show j = 0 ∨ j = 1 ∨ j = 2 ∨ j = 3 ∨ j = 4 ∨ j = 5 ∨ j = 6 ∨ j = 7 ∨ j = 8 ∨ j = 9 ∨ j = 10 ∨ j = 11 ∨ j = 12 ∨ j = 13 ∨ j = 14 ∨ j = 15 ∨ j = 16 ∨ j = 17 ∨ j = 18 ∨ j = 19 ∨ j = 20 ∨ j = 21 ∨ j = 22 ∨ j = 23 ∨ j = 24 ∨ j = 25 ∨ j = 26 ∨ j = 27 ∨ j = 28 ∨ j = 29 ∨ j = 30 by omega) with rfl | rfl | rfl | rfl | rfl | rfl | rfl | rfl | rfl | rfl | rfl | rfl | rfl | rfl | rfl | rfl | rfl | rfl | rfl | rfl | rfl | rfl | rfl | rfl | rfl | rfl | rfl | rfl | rfl | rfl | rfl <;> rfl) (Nat.le_of_ble_eq_true rfl) (Nat.le_of_ble_eq_true rfl) d_law_8 (fun q1 H hP hD hS => ?_)
  have hP := pv_swap hP
  have hD := dv_swap hD
  refine lv_dup hx hb d_law_11 rfl ?_
  refine W.widen (k := 50) (n := 100000) (Nat.le_of_ble_eq_true rfl) (Nat.le_of_ble_eq_true rfl) ?_
  refine callCv (Wd := fun ad2 => wM cI cZ ad2 (f_Mo_begin u0)) (W0 := [(q1, .inr (8, [.int 0, .null, .null, .null, .null, .null, .null, .int 0, .int 0, .int 0, .int 0, .int 0, .null, .null, .null, .null, .int 0, .int 0, .null, .null, .null, .int 0, .int 0, .int 0, .int 0, .null, .null, .null, .null, .int 0, .null]))]) (ot := wC cI ad uC0) (tys := [(cI, .int), (cZ, .boolean)]) (va_runI (As := []) (rest := [.ref q1]) ⟨hx, hb, hml, hown, hts⟩ (c_Mo_init l dC dI cI cZ q1 H.size) (cwI 0 hts (goodA (c1 := .tt) m_13_21) rfl rfl rfl (hts _ m_0_12) (hts _ m_13_19) (hts _ m_13_20) rfl (by decide +kernel) ⟨Nat.le_of_ble_eq_true rfl, Nat.le_of_ble_eq_true rfl⟩) ⟨preC_blind, preC_ok (pv_l hP) (dv_l hD) C.KM⟩ rfl rfl hl.1 rfl (lv_room (Nat.le_of_ble_eq_true rfl)) d_law_12 ⟨Nat.le_of_ble_eq_true rfl, Nat.le_of_ble_eq_true rfl⟩) hP hD hS hA (fun ad2 H locs had2 hP hD hS => ?_)
  rw [← had2]
  refine lv_astore_n (lv' := [(2, .ref (ad2 0)), (1, .ref (ad 0)), (0, .ref b)]) hx hb d_law_15 rfl hl (by decide) rfl (fun ls hl => ?_)
  refine lv_iconst (v := 1) hx hb d_law_16 (by decide) ?_
  have hP : va_P (dC, dI) classes (wM cI cZ ad2 (f_Mo_begin u0) ++ wC cI ad uC0) H := hP
  have hD : va_D (LA s) (wM cI cZ ad2 (f_Mo_begin u0) ++ wC cI ad uC0) := hD
  generalize f_Mo_begin u0 = v0 at hP hD hz0
  generalize uC0 = z0 at hP hD hz0
  refine newI (atype := .long) (ty := .long) (a0 := (1, .inr (.inl (fun _ => 0)))) (N' := 1) hx hb (hts _ m_18_36) rfl hK hP hD hS hA 2 rfl ra_lon (fun _ => rfl) (by decide) (by decide) (Nat.le_of_ble_eq_true rfl) (Nat.le_of_ble_eq_true rfl) (Nat.le_of_ble_eq_true rfl) d_law_17 (fun o H hP hD hS => ?_)
  have hP : va_P (dC, dI) classes (wX cI cJ ad o (z0, fun _ => 0) ++ wM cI cZ ad2 v0) H := pv_swap (by rw [List.append_assoc] at hP; exact hP)
  have hD : va_D (LA s) (wX cI cJ ad o (z0, fun _ => 0) ++ wM cI cZ ad2 v0) := dv_swap (by rw [List.append_assoc] at hD; exact hD)
  refine lv_astore_n (lv' := [(3, .ref o), (2, .ref (ad2 0)), (1, .ref (ad 0)), (0, .ref b)]) hx hb d_law_19 rfl hl (by decide) rfl (fun ls hl => ?_)
  refine lv_iconst (v := 0) hx hb d_law_20 (by decide) ?_
  refine lv_istore (lv' := [(4, .int 0), (3, .ref o), (2, .ref (ad2 0)), (1, .ref (ad 0)), (0, .ref b)]) hx hb d_law_21 hl (by decide) rfl (fun ls hl => ?_)
  refine W.widen (k := 1000 + 0) (n := 1000000 + 6 * 0) (Nat.le_of_ble_eq_true rfl) (Nat.le_of_ble_eq_true rfl) ?_
  exact law_loop hsim C (L + 1) 0 z0 v0 (fun _ => 0) H locs ls (Nat.zero_le _) (by omega) hz0 ⟨hP, hD, hS⟩ (lv_sub hl [4, 3, 2, 1, 0] rfl)
