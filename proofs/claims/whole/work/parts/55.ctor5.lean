-- ===== a constructor called on a new object
def NWW : List Cond := [.methodLinkNest "ShadowHost" 9 y_Ma_init "ShadowHost", .methodLinkNest "ShadowHost$Host" 11 y_He_init "ShadowHost", .methodLinkNest "ShadowHost$Host" 20 y_Po_init "ShadowHost", .methodLinkNest "ShadowHost$Machine" 27 y_Rp_init "ShadowHost", .methodLinkNest "ShadowHost$Machine" 34 y_Ho_init "ShadowHost"]
def nwS (U : State) : Prop := ∀ w ∈ NWW, va_Nw w U
theorem nwS.calling {U : State} {g : JFrame} {mk : MethodId} {a : Array Value} (h : nwS U) : nwS (U.calling g mk a) := by
  intro w hw
  have h1 := h w hw
  simp only [NWW, List.mem_cons, List.not_mem_nil, or_false] at hw
  rcases hw with rfl | rfl | rfl | rfl | rfl <;> exact va_Nw.same rfl rfl h1
theorem nwS.warm {s U : State} (hW : s.WarmedH U.vm) (h : nwS s) : nwS U := by
  intro w hw
  have h1 := h w hw
  simp only [NWW, List.mem_cons, List.not_mem_nil, or_false] at hw
  rcases hw with rfl | rfl | rfl | rfl | rfl <;> exact va_Nw.warmM hW h1
def PreC (D : va_G) (cl : List vw_C) (tys : List (ClassId × FieldType)) (W0 : va_W) (q sz : Nat) : Array Value → State → Prop := va_Pc [.ref q] (fun U => U.heap.size = sz ∧ va_P D cl W0 U.heap ∧ va_K D cl tys U ∧ va_D (fun _ => True) W0)
theorem preC_blind {D : va_G} {cl : List vw_C} {tys : List (ClassId × FieldType)} {W0 : va_W} {q sz : Nat} : FrameBlind (PreC D cl tys W0 q sz) := fun a U g mk q => by
  obtain ⟨q0, q1, qP, qK, qD⟩ := q
  exact ⟨q0, q1, qP, va_K.moved (u := U) (U := U.calling g mk a) (Vm.Alike.refl U.vm) qK, qD⟩
theorem preC_ok {D : va_G} {cl : List vw_C} {tys : List (ClassId × FieldType)} {W0 : va_W} {q : Nat} {s : State} {H : Heap} {A : Nat → Prop} (hP : va_P D cl W0 H) (hD : va_D A W0) (hK : va_K D cl tys s) : ∀ U : State, U.heap = H → s.WarmedH U.vm → PreC D cl tys W0 q H.size ([.ref q] : List Value).toArray U :=
  fun U hU hW => ⟨rfl, by rw [hU], by rw [hU]; exact hP, va_K.moved hW.alike hK, hD.weaken (fun _ _ _ _ => trivial)⟩
section CCV
variable {p : Program} {l : Launch} {e : Env} {R : Room} {s : State} {m : MethodId} {args : Array Value} {below : List Frame} {meth : Method} {c : Code} {H : Heap} {locs : List Loc} {cells slots mc ms : Nat} {Q : State → Prop}
variable {pc : Nat} {ls : Array Slot} {rest st0 : List Value} {A : Nat → Prop} {H0 : Heap} {a : Array Value} {D : va_G} {cl : List vw_C} {tys : List (ClassId × FieldType)} {σ : Type} {post : σ → Prop} {Wd : σ → va_W} {W0 ot : va_W}
theorem callCv (hr : va_Run p l e R s m args below meth c H locs cells slots mc ms (F0 m pc ls st0) rest (va_Qv post (BG D cl tys Wd (va_A W0 H.size)) (va_A W0 H.size) a) (va_A W0 H.size)) (hP : va_P D cl (W0 ++ ot) H) (hD : va_D A (W0 ++ ot)) (hS : va_S A H0 H locs) (hA : ∀ q, H0.size ≤ q → A q)
    (kk : ∀ (v : σ) (H1 : Heap) (locs1 : List Loc), post v → va_P D cl (Wd v ++ ot) H1 → va_D A (Wd v ++ ot) → va_S A H0 H1 locs1 → W p l e R s m args below meth c H1 locs1 (cells + mc) (slots + ms) Q (F0 m (pc + 3) ls rest)) : W p l e R s m args below meth c H locs cells slots Q (F0 m pc ls st0) := by
  have hF : ∀ q, va_A W0 H.size q → A q := gA (Wd := fun _ : Unit => W0) (z := ()) hD hS hA
  refine va_callv hr hS (fun q _ h => hF q h) hF (fun v t H1 locs1 ht hvm hw hB hz hk hS1 => ?_)
  obtain ⟨hP1, hK1, hD1⟩ := hB
  rw [ht] at hP1
  refine kk v H1 locs1 hw (hP1.app (gO (Wd := fun _ : Unit => W0) (z := ()) hP hD hk)) ((hD1.weaken (fun _ _ _ h => hF _ h)).app (dv_r hD) (fun i j p q hi hj e => ?_)) hS1
  rcases hD1.2 i p hi with ⟨k, e', h⟩ | h
  · exact dv_x hD k j (p.1, e') q h hj e
  · have := (pv_r hP j q hj).lt
    rw [e] at h
    exact absurd this (Nat.not_lt.mpr h)
end CCV
theorem d_Ho_init_0 : decode b_Ho_init 0 = .ok (.aload_n 0, 1) := by decide +kernel
theorem d_Ho_init_1 : decode b_Ho_init 1 = .ok (.invokespecial 3, 3) := by decide +kernel
theorem d_Ho_init_4 : decode b_Ho_init 4 = .ok (.aload_n 0, 1) := by decide +kernel
theorem d_Ho_init_5 : decode b_Ho_init 5 = .ok (.new 9, 3) := by decide +kernel
theorem d_Ho_init_8 : decode b_Ho_init 8 = .ok (.dup, 1) := by decide +kernel
theorem d_Ho_init_9 : decode b_Ho_init 9 = .ok (.invokespecial 11, 3) := by decide +kernel
theorem d_Ho_init_12 : decode b_Ho_init 12 = .ok (.putfield 12, 3) := by decide +kernel
theorem d_Ho_init_15 : decode b_Ho_init 15 = .ok (.aload_n 0, 1) := by decide +kernel
theorem d_Ho_init_16 : decode b_Ho_init 16 = .ok (.new 18, 3) := by decide +kernel
theorem d_Ho_init_19 : decode b_Ho_init 19 = .ok (.dup, 1) := by decide +kernel
theorem d_Ho_init_20 : decode b_Ho_init 20 = .ok (.invokespecial 20, 3) := by decide +kernel
theorem d_Ho_init_23 : decode b_Ho_init 23 = .ok (.putfield 21, 3) := by decide +kernel
theorem d_Ho_init_26 : decode b_Ho_init 26 = .ok (.return_, 1) := by decide +kernel
def wI_Ho (cI : ClassId) (q : Nat) (h : Nat → Nat) : va_W := wI_Po cI (h 1) (fun k => h (8 + k)) ++ (wI_He cI (h 0) (fun k => h (2 + k)) ++ [(q, .inr (5, [.ref (h 0), .ref (h 1)]))])
def w_Ho_init : List Cond := .code y_Ho_init b_Ho_init 1 none :: ALLW
def rm_Ho_init : Room := { frames := 50, cells := 10, slots := 14353, locals := 2000 }
set_option maxHeartbeats 400000 in
set_option maxRecDepth 100000 in
theorem c_Ho_init (l : Launch) (dC : Nat → ClassId) (dI : Nat → Nat → Nat) (cI : ClassId) (q sz : Nat) : Met l y_Ho_init w_Ho_init rm_Ho_init (fun a U => PreC (dC, dI) classes [(cI, .int)] [(q, .inr (5, [.null, .null]))] q sz a U ∧ nwS U) (va_Qv (fun _ : Nat → Nat => True) (BG (dC, dI) classes [(cI, .int)] (wI_Ho cI q) (va_A [(q, .inr (5, [.null, .null]))] sz)) (va_A [(q, .inr (5, [.null, .null]))] sz)) 10 14353 (va_A [(q, .inr (5, [.null, .null]))] sz) := by
  refine Met.ofW (cc := b_Ho_init) (maxL := 1) (ret := none) (by decide) rfl ?_
  intro p e s m args below meth c s₁ B hml hv
  obtain ⟨⟨rfl, rfl, hP, hK, hD0⟩, hnw⟩ := hv
  have hx := B.exec
  have hb := B.bytes
  have hr := B.returns
  have hts : ∀ w9 ∈ ALLW, w9.before ([.ref q] : List Value).toArray s = true := fun w9 h => atoms_spec (ws := w_Ho_init) B.pre w9 (List.mem_cons_of_mem _ h)
  have hown : s.vm.findClass R_Ho = some m.cls := findClass_of_methodNamed B.named
  have hlocks := B.notSynchronized
  have hin : meth.name = "<init>" := (name_of_methodNamed B.named B.method).1
  have hD := hD0.self (sz := s.heap.size)
  generalize hAe : va_A ([(q, .inr (5, [.null, .null]))] : va_W) s.heap.size = A at hD ⊢
  have hA : ∀ q : Nat, s.heap.size ≤ q → A q := fun q h => by rw [← hAe]; exact Or.inr h
  have hS : va_S A s.heap s.heap [] := va_S.rf
  have hP : va_P (dC, dI) classes [(q, .inr (5, [.null, .null]))] s.heap := hP
  have hl := lv_entry ([.ref q]) (n := 1) (Nat.le_of_ble_eq_true rfl)
  rw [lg_entry_eq]
  generalize (lg_sl ([.ref q]) ++ List.replicate (1 - (lg_sl ([.ref q])).length) Slot.unset).toArray = ls at hl ⊢
  have hl : lv_has ls 1 [(0, .ref q)] := hl
  refine lv_aload_n hx hb d_Ho_init_0 rfl (lv_at hl 0 rfl) ?_
  refine W.objInit hx hb hown (hts _ m_2_30) (hts _ m_0_21) (hts _ m_0_22) rfl (by rw [hml]; exact hl.1) rfl d_Ho_init_1 (Nat.le_of_ble_eq_true rfl) (Nat.le_of_ble_eq_true rfl) ?_
  refine W.eq (g2 := F0 m 4 ls []) rfl ?_
  refine lv_aload_n hx hb d_Ho_init_4 rfl (lv_at hl 0 rfl) ?_
  refine va_new (D := (dC, dI)) (ci := 6) (fs := [.null, .null, .null, .null, .int 0, .int 0, .int 0, .int 0, .int 0, .null, .null, .int 0]) (C := R_He) (T := F_He) (N := 12) hx hb hts in_He t_He t_He_ok hown (hts _ m_2_31) (hts _ m_2_32) (hts _ m_0_10) hK hP hD hS hA rfl (fun j hj => by rcases (show j = 0 ∨ j = 1 ∨ j = 2 ∨ j = 3 ∨ j = 4 ∨ j = 5 ∨ j = 6 ∨ j = 7 ∨ j = 8 ∨ j = 9 ∨ j = 10 ∨ j = 11 by omega) with rfl | rfl | rfl | rfl | rfl | rfl | rfl | rfl | rfl | rfl | rfl | rfl <;> rfl) (Nat.le_of_ble_eq_true rfl) (Nat.le_of_ble_eq_true rfl) d_Ho_init_5 (fun b0 H hP hD hS => ?_)
  refine lv_dup hx hb d_Ho_init_8 rfl ?_
  have hP := pv_swap hP
  have hD := dv_swap hD
  refine W.widen (k := 1) (n := 12) (Nat.le_of_ble_eq_true rfl) (Nat.le_of_ble_eq_true rfl) ?_
  refine callCv (Wd := wI_He cI b0) (W0 := [(b0, .inr (6, [.null, .null, .null, .null, .int 0, .int 0, .int 0, .int 0, .int 0, .null, .null, .int 0]))]) (tys := [(cI, .int)]) (va_runIN (As := []) (rest := [.ref b0, .ref q]) ⟨hx, hb, hml, hown, hts⟩ (c_He_init l dC dI cI b0 H.size) ⟨va_cnB (host := "ShadowHost") 0 hts (goodA (c1 := .tt) m_2_34) rfl rfl rfl (hnw _ (by simp [NWW])) (hts _ m_0_10) (by decide +kernel) ⟨Nat.le_of_ble_eq_true rfl, Nat.le_of_ble_eq_true rfl⟩, rfl, hts _ m_2_33⟩ ⟨preC_blind, preC_ok (pv_l hP) (dv_l hD) hK⟩ rfl rfl hl.1 rfl (lv_room (Nat.le_of_ble_eq_true rfl)) d_Ho_init_9 ⟨Nat.le_of_ble_eq_true rfl, Nat.le_of_ble_eq_true rfl⟩) hP hD hS hA (fun h0 H locs _ hP hD hS => ?_)
  refine va_putF (D := (dC, dI)) (ci := 5) (v := .ref b0) (ty := .object "ShadowHost$Heap") (C := R_Ho) (T := F_Ho) (N := 2) hx hb hts in_Ho t_Ho t_Ho_ok n_Ho hown hK hP hD hS 7 rfl rfl 0 (by decide) (hts _ m_4_4) (fun _ h9 => h9) rfl hin rfl (by decide +kernel) rfl rfl (Nat.le_of_ble_eq_true rfl) d_Ho_init_12 (fun H locs hP hD hS => ?_)
  have hP : va_P (dC, dI) classes (wI_He cI b0 h0 ++ [(q, .inr (5, [.ref b0, .null]))]) H := hP
  have hD : va_D A (wI_He cI b0 h0 ++ [(q, .inr (5, [.ref b0, .null]))]) := hD
  refine lv_aload_n hx hb d_Ho_init_15 rfl (lv_at hl 0 rfl) ?_
  refine va_new (D := (dC, dI)) (ci := 7) (fs := [.null, .int 0, .int 0, .null, .int 0]) (C := R_Po) (T := F_Po) (N := 5) hx hb hts in_Po t_Po t_Po_ok hown (hts _ m_3_26) (hts _ m_3_27) (hts _ m_0_11) hK hP hD hS hA rfl (fun j hj => by rcases (show j = 0 ∨ j = 1 ∨ j = 2 ∨ j = 3 ∨ j = 4 by omega) with rfl | rfl | rfl | rfl | rfl <;> rfl) (Nat.le_of_ble_eq_true rfl) (Nat.le_of_ble_eq_true rfl) d_Ho_init_16 (fun b1 H hP hD hS => ?_)
  refine lv_dup hx hb d_Ho_init_19 rfl ?_
  have hP := pv_swap hP
  have hD := dv_swap hD
  refine W.widen (k := 8) (n := 9233) (Nat.le_of_ble_eq_true rfl) (Nat.le_of_ble_eq_true rfl) ?_
  refine callCv (Wd := wI_Po cI b1) (W0 := [(b1, .inr (7, [.null, .int 0, .int 0, .null, .int 0]))]) (tys := [(cI, .int)]) (va_runIN (As := []) (rest := [.ref b1, .ref q]) ⟨hx, hb, hml, hown, hts⟩ (c_Po_init l dC dI cI b1 H.size) ⟨va_cnB (host := "ShadowHost") 0 hts (goodA (c1 := .tt) m_3_29) rfl rfl rfl (hnw _ (by simp [NWW])) (hts _ m_0_11) (by decide +kernel) ⟨Nat.le_of_ble_eq_true rfl, Nat.le_of_ble_eq_true rfl⟩, rfl, hts _ m_3_28⟩ ⟨preC_blind, preC_ok (pv_l hP) (dv_l hD) hK⟩ rfl rfl hl.1 rfl (lv_room (Nat.le_of_ble_eq_true rfl)) d_Ho_init_20 ⟨Nat.le_of_ble_eq_true rfl, Nat.le_of_ble_eq_true rfl⟩) hP hD hS hA (fun h1 H locs _ hP hD hS => ?_)
  refine va_putF (D := (dC, dI)) (ci := 5) (v := .ref b1) (ty := .object "ShadowHost$Ports") (C := R_Ho) (T := F_Ho) (N := 2) hx hb hts in_Ho t_Ho t_Ho_ok n_Ho hown hK hP hD hS 10 rfl rfl 1 (by decide) (hts _ m_4_6) (fun _ h9 => h9) rfl hin rfl (by decide +kernel) rfl rfl (Nat.le_of_ble_eq_true rfl) d_Ho_init_23 (fun H locs hP hD hS => ?_)
  have hP : va_P (dC, dI) classes (wI_Po cI b1 h1 ++ (wI_He cI b0 h0 ++ [(q, .inr (5, [.ref b0, .ref b1]))])) H := hP
  have hD : va_D A (wI_Po cI b1 h1 ++ (wI_He cI b0 h0 ++ [(q, .inr (5, [.ref b0, .ref b1]))])) := hD
  refine W.widen (k := 10) (n := 14353) (Nat.le_of_ble_eq_true rfl) (Nat.le_of_ble_eq_true rfl) ?_
  exact W.vret hx hb hr (fun t ht hW => ⟨⟨(fun k => match k with | 0 => b0 | 1 => b1 | 2 => h0 0 | 3 => h0 1 | 4 => h0 2 | 5 => h0 3 | 6 => h0 4 | 7 => h0 5 | 8 => h1 0 | _ => h1 1), rfl, trivial, by rw [ht]; exact hP, va_K.moved hW.alike hK, hD⟩, hS.F ht⟩) hS.2.2 d_Ho_init_26 hlocks
