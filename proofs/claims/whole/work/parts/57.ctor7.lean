theorem d_SH_init_0 : decode b_SH_init 0 = .ok (.aload_n 0, 1) := by decide +kernel
theorem d_SH_init_1 : decode b_SH_init 1 = .ok (.invokespecial 1, 3) := by decide +kernel
theorem d_SH_init_4 : decode b_SH_init 4 = .ok (.aload_n 0, 1) := by decide +kernel
theorem d_SH_init_5 : decode b_SH_init 5 = .ok (.new 7, 3) := by decide +kernel
theorem d_SH_init_8 : decode b_SH_init 8 = .ok (.dup, 1) := by decide +kernel
theorem d_SH_init_9 : decode b_SH_init 9 = .ok (.invokespecial 9, 3) := by decide +kernel
theorem d_SH_init_12 : decode b_SH_init 12 = .ok (.putfield 10, 3) := by decide +kernel
theorem d_SH_init_15 : decode b_SH_init 15 = .ok (.return_, 1) := by decide +kernel
def uC0 : S5 := fG_Rg_reset (fE_Me_reset (fI u0 1 0 16384 65536))
def w_SH_init : List Cond := .code y_SH_init b_SH_init 1 none :: ALLW
def rm_SH_init : Room := { frames := 70, cells := 21, slots := 96811, locals := 3000 }
set_option maxHeartbeats 400000 in
set_option maxRecDepth 100000 in
theorem c_SH_init (l : Launch) (dC : Nat → ClassId) (dI : Nat → Nat → Nat) (cI : ClassId) (q sz : Nat) : Met l y_SH_init w_SH_init rm_SH_init (fun a U => PreC (dC, dI) classes [(cI, .int)] [(q, .inr (0, [.null]))] q sz a U ∧ nwS U) (va_Qv (fun ad : Nat → Nat => ad 0 = q) (BG (dC, dI) classes [(cI, .int)] (fun ad => wC cI ad uC0) (va_A [(q, .inr (0, [.null]))] sz)) (va_A [(q, .inr (0, [.null]))] sz)) 21 96811 (va_A [(q, .inr (0, [.null]))] sz) := by
  refine Met.ofW (cc := b_SH_init) (maxL := 1) (ret := none) (by decide) rfl ?_
  intro p e s m args below meth c s₁ B hml hv
  obtain ⟨⟨rfl, rfl, hP, hK, hD0⟩, hnw⟩ := hv
  have hx := B.exec
  have hb := B.bytes
  have hr := B.returns
  have hts : ∀ w9 ∈ ALLW, w9.before ([.ref q] : List Value).toArray s = true := fun w9 h => atoms_spec (ws := w_SH_init) B.pre w9 (List.mem_cons_of_mem _ h)
  have hown : s.vm.findClass R_SH = some m.cls := findClass_of_methodNamed B.named
  have hlocks := B.notSynchronized
  have hin : meth.name = "<init>" := (name_of_methodNamed B.named B.method).1
  have hD := hD0.self (sz := s.heap.size)
  generalize hAe : va_A ([(q, .inr (0, [.null]))] : va_W) s.heap.size = A at hD ⊢
  have hA : ∀ q : Nat, s.heap.size ≤ q → A q := fun q h => by rw [← hAe]; exact Or.inr h
  have hS : va_S A s.heap s.heap [] := va_S.rf
  have hP : va_P (dC, dI) classes [(q, .inr (0, [.null]))] s.heap := hP
  have hl := lv_entry ([.ref q]) (n := 1) (Nat.le_of_ble_eq_true rfl)
  rw [lg_entry_eq]
  generalize (lg_sl ([.ref q]) ++ List.replicate (1 - (lg_sl ([.ref q])).length) Slot.unset).toArray = ls at hl ⊢
  have hl : lv_has ls 1 [(0, .ref q)] := hl
  refine lv_aload_n hx hb d_SH_init_0 rfl (lv_at hl 0 rfl) ?_
  refine W.objInit hx hb hown (hts _ m_0_20) (hts _ m_0_21) (hts _ m_0_22) rfl (by rw [hml]; exact hl.1) rfl d_SH_init_1 (Nat.le_of_ble_eq_true rfl) (Nat.le_of_ble_eq_true rfl) ?_
  refine W.eq (g2 := F0 m 4 ls []) rfl ?_
  refine lv_aload_n hx hb d_SH_init_4 rfl (lv_at hl 0 rfl) ?_
  refine va_new (D := (dC, dI)) (ci := 1) (fs := [.null, .null, .null, .null, .int 0, .int 0, .int 0, .int 0, .int 0, .int 0]) (C := R_Ma) (T := F_Ma) (N := 10) hx hb hts in_Ma t_Ma t_Ma_ok hown (hts _ m_0_23) (hts _ m_0_24) (hts _ m_0_2) hK hP hD hS hA rfl (fun j hj => by rcases (show j = 0 ∨ j = 1 ∨ j = 2 ∨ j = 3 ∨ j = 4 ∨ j = 5 ∨ j = 6 ∨ j = 7 ∨ j = 8 ∨ j = 9 by omega) with rfl | rfl | rfl | rfl | rfl | rfl | rfl | rfl | rfl | rfl <;> rfl) (Nat.le_of_ble_eq_true rfl) (Nat.le_of_ble_eq_true rfl) d_SH_init_5 (fun b0 H hP hD hS => ?_)
  refine lv_dup hx hb d_SH_init_8 rfl ?_
  have hP := pv_swap hP
  have hD := dv_swap hD
  refine W.widen (k := 1) (n := 10) (Nat.le_of_ble_eq_true rfl) (Nat.le_of_ble_eq_true rfl) ?_
  refine callCv (Wd := wI_Ma cI b0) (W0 := [(b0, .inr (1, [.null, .null, .null, .null, .int 0, .int 0, .int 0, .int 0, .int 0, .int 0]))]) (tys := [(cI, .int)]) (va_runIN (As := []) (rest := [.ref b0, .ref q]) ⟨hx, hb, hml, hown, hts⟩ (c_Ma_init l dC dI cI b0 H.size) ⟨va_cnB (host := "ShadowHost") 0 hts (goodA (c1 := .tt) m_0_26) rfl rfl rfl (hnw _ (by simp [NWW])) (hts _ m_0_2) (by decide +kernel) ⟨Nat.le_of_ble_eq_true rfl, Nat.le_of_ble_eq_true rfl⟩, rfl, hts _ m_0_25⟩ ⟨fun a U g mk q9 => ⟨preC_blind a U g mk q9.1, q9.2.calling⟩, fun U hU hW => ⟨preC_ok (pv_l hP) (dv_l hD) hK U hU hW, hnw.warm hW⟩⟩ rfl rfl hl.1 rfl (lv_room (Nat.le_of_ble_eq_true rfl)) d_SH_init_9 ⟨Nat.le_of_ble_eq_true rfl, Nat.le_of_ble_eq_true rfl⟩) hP hD hS hA (fun z H locs _ hP hD hS => ?_)
  refine va_putF (D := (dC, dI)) (ci := 0) (v := .ref b0) (ty := .object "ShadowHost$Machine") (C := R_SH) (T := F_SH) (N := 1) hx hb hts in_SH t_SH t_SH_ok n_SH hown hK hP hD hS 21 rfl rfl 0 (by decide) (hts _ m_4_38) (fun _ h9 => h9) rfl hin rfl (by decide +kernel) rfl rfl (Nat.le_of_ble_eq_true rfl) d_SH_init_12 (fun H locs hP hD hS => ?_)
  have hP : va_P (dC, dI) classes (wI_Ma cI b0 z ++ [(q, .inr (0, [.ref b0]))]) H := hP
  have hD : va_D A (wI_Ma cI b0 z ++ [(q, .inr (0, [.ref b0]))]) := hD
  have hP1 : va_P (dC, dI) classes (wC cI (fun k => match k with | 0 => q | 1 => b0 | 2 => z.1 0 | 3 => z.2.1 0 | 4 => z.2.2.1.1 | 5 => z.2.2.2.1 | 6 => z.2.2.2.2 0 | 7 => z.2.2.2.2 1 | 8 => z.1 1 | 9 => z.1 2 | 10 => z.2.1 1 | 11 => z.2.1 2 | 12 => z.2.2.1.2 0 | 13 => z.2.2.1.2 1 | 14 => z.2.2.2.2 2 | 15 => z.2.2.2.2 3 | 16 => z.2.2.2.2 4 | 17 => z.2.2.2.2 5 | 18 => z.2.2.2.2 6 | 19 => z.2.2.2.2 7 | 20 => z.2.2.2.2 8 | _ => z.2.2.2.2 9) uC0) H := hP.sub [21, 20, 17, 14, 11, 10, 3, 0, 18, 19, 15, 16, 12, 13, 4, 5, 6, 7, 8, 9, 1, 2] rfl
  have hD1 : va_D A (wC cI (fun k => match k with | 0 => q | 1 => b0 | 2 => z.1 0 | 3 => z.2.1 0 | 4 => z.2.2.1.1 | 5 => z.2.2.2.1 | 6 => z.2.2.2.2 0 | 7 => z.2.2.2.2 1 | 8 => z.1 1 | 9 => z.1 2 | 10 => z.2.1 1 | 11 => z.2.1 2 | 12 => z.2.2.1.2 0 | 13 => z.2.2.1.2 1 | 14 => z.2.2.2.2 2 | 15 => z.2.2.2.2 3 | 16 => z.2.2.2.2 4 | 17 => z.2.2.2.2 5 | 18 => z.2.2.2.2 6 | 19 => z.2.2.2.2 7 | 20 => z.2.2.2.2 8 | _ => z.2.2.2.2 9) uC0) := hD.sub [21, 20, 17, 14, 11, 10, 3, 0, 18, 19, 15, 16, 12, 13, 4, 5, 6, 7, 8, 9, 1, 2] (by decide) rfl
  refine W.widen (k := 21) (n := 96811) (Nat.le_of_ble_eq_true rfl) (Nat.le_of_ble_eq_true rfl) ?_
  exact W.vret hx hb hr (fun t ht hW => ⟨⟨(fun k => match k with | 0 => q | 1 => b0 | 2 => z.1 0 | 3 => z.2.1 0 | 4 => z.2.2.1.1 | 5 => z.2.2.2.1 | 6 => z.2.2.2.2 0 | 7 => z.2.2.2.2 1 | 8 => z.1 1 | 9 => z.1 2 | 10 => z.2.1 1 | 11 => z.2.1 2 | 12 => z.2.2.1.2 0 | 13 => z.2.2.1.2 1 | 14 => z.2.2.2.2 2 | 15 => z.2.2.2.2 3 | 16 => z.2.2.2.2 4 | 17 => z.2.2.2.2 5 | 18 => z.2.2.2.2 6 | 19 => z.2.2.2.2 7 | 20 => z.2.2.2.2 8 | _ => z.2.2.2.2 9), rfl, rfl, by rw [ht]; exact hP1, va_K.moved hW.alike hK, hD1⟩, hS.F ht⟩) hS.2.2 d_SH_init_15 hlocks
