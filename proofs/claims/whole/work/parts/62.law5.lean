-- ===== what a helper answers: (thrown, answer, state)
def gC_image (a : Int32) (w : Int64) (u : S5) : Int32 × Int32 × S5 := if a < 0 ∨ 16376 < a ∨ ¬ (a &&& 7) = 0 then (1, 0, u) else (0, 0, f_SH_image a.toNatClampNeg w u)
def gC_input (w : Int64) (n : Int32) (u : S5) : Int32 × Int32 × S5 := if n < 1 ∨ ¬ n ≤ 8 then (1, 0, u) else if 1024 < gN u 3 + n.toNatClampNeg then (2, 0, u) else (0, nI (f_SH_input w n.toNatClampNeg u).1, (f_SH_input w n.toNatClampNeg u).2)
def gC_run (n : Int32) (u : S5) : Int32 × Int32 × S5 := if n < 0 ∨ ¬ n ≤ 100000 then (1, 0, u) else (0, (f_SH_run n.toNatClampNeg u).1, (f_SH_run n.toNatClampNeg u).2)
def gC_register (a : Int32) (u : S5) : Int32 × Int32 × S5 := if a < 0 ∨ ¬ a < 32 then (1, 0, u) else (0, f_SH_register a.toNatClampNeg u, u)
def gC_unknown (a : Int32) (u : S5) : Int32 × Int32 × S5 := if a < 0 ∨ ¬ a < 32 then (1, 0, u) else (0, f_SH_unknown a.toNatClampNeg u, u)
def gC_memory (a : Int32) (u : S5) : Int32 × Int32 × S5 := if a < 0 ∨ ¬ a < 65536 then (1, 0, u) else (0, f_SH_memory a.toNatClampNeg u, u)
def gC_error (a q : Int32) (u : S5) : Int32 × Int32 × S5 := if q < 0 ∨ ¬ q < 7 then (1, 0, u) else if a < 0 ∨ ¬ a < nI (gN u 0) then (2, 0, u) else (0, f_SH_error a.toNatClampNeg q.toNatClampNeg u, u)
def gC_output (a : Int32) (u : S5) : Int32 × Int32 × S5 := if a < 0 ∨ ¬ a < nI (gN u 5) then (1, 0, u) else (0, f_SH_output a.toNatClampNeg u, u)
def gC_count (q : Int32) (u : S5) : Int32 × Int32 × S5 := if q.toInt < 0 ∨ 10 < q.toInt then (1, 0, u) else (0, f_SH_count q u, u)
def xo (k r : Int32) (x : Nat → Int64) : Nat → Int64 := if k = 0 then vp_updL x 0 r.toInt64 else x
theorem xo_0 (r : Int32) (x : Nat → Int64) : xo 0 r x = vp_updL x 0 r.toInt64 := if_pos rfl
theorem xo_1 (r : Int32) (x : Nat → Int64) : xo 1 r x = x := if_neg (by decide)
theorem xo_2 (r : Int32) (x : Nat → Int64) : xo 2 r x = x := if_neg (by decide)
theorem xo_at (r : Int32) (x : Nat → Int64) : xo 0 r x 0 = r.toInt64 := by rw [xo_0]; rfl
theorem nI_below {a M : Int32} {N : Nat} (hM : M.toInt = N) (h : ¬ (a < 0 ∨ ¬ a < M)) : ∃ n : Nat, n < N ∧ a = nI n ∧ n < 2 ^ 31 := by
  have h1 : ¬ a < 0 := fun q => h (Or.inl q)
  have h2 : a < M := Classical.byContradiction fun q => h (Or.inr q)
  obtain ⟨n, hn, rfl⟩ := nI_of h1
  refine ⟨n, ?_, rfl, hn⟩
  have h3 := Int32.lt_iff_toInt_lt.mp h2
  rw [nI_toInt hn, hM] at h3
  omega
theorem nI_upto {a M : Int32} {N : Nat} (hM : M.toInt = N) (h1 : ¬ a < 0) (h2 : a ≤ M) : ∃ n : Nat, n ≤ N ∧ a = nI n ∧ n < 2 ^ 31 := by
  obtain ⟨n, hn, rfl⟩ := nI_of h1
  refine ⟨n, ?_, rfl, hn⟩
  have h3 := Int32.le_iff_toInt_le.mp h2
  rw [nI_toInt hn, hM] at h3
  omega

theorem h_image (l : Launch) (hfl : l.flags = pinnedFlags ++ [noTraceFlag]) (dC : Nat → ClassId) (dI : Nat → Nat → Nat) (cI cJ : ClassId) (ad : Nat → Nat) (o : Nat) (u : S5) (x : Nat → Int64) (a : Int32) (w : Int64) (sz : Nat) : Met l y_La_image wl_La_image rml_La_image (PreX (dC, dI) classes [(cI, .int), (cJ, .long)] (wX cI cJ ad o) (u, x) sz [.ref (ad 0), .int a, .long w]) (QGi (dC, dI) classes [(cI, .int), (cJ, .long)] (wX cI cJ ad o) (va_A (wX cI cJ ad o (u, x)) sz) (gC_image a w u).1 ((gC_image a w u).2.2, x)) 1 6 (va_A (wX cI cJ ad o (u, x)) sz) := by
  by_cases ht : a < 0 ∨ 16376 < a ∨ ¬ (a &&& 7) = 0
  · have e9 : gC_image a w u = (1, 0, u) := if_pos ht
    rw [e9]
    exact h_image_IAE l hfl dC dI cI cJ ad o u x a w ht sz
  · have e9 : gC_image a w u = (0, 0, f_SH_image a.toNatClampNeg w u) := if_neg ht
    rw [e9]
    obtain ⟨n, hn, rfl, hn2⟩ := nI_upto (M := 16376) (N := 16376) (by decide) (fun q => ht (Or.inl q)) (Int32.not_lt.mp fun q => ht (Or.inr (Or.inl q)))
    have h7 : n % 8 = 0 := by
      have h8 : (nI n &&& 7) = 0 := Classical.byContradiction fun q => ht (Or.inr (Or.inr q))
      exact img_al hn h8
    rw [nI_clamp hn2]
    exact h_image_ok l hfl dC dI cI cJ ad o u x n w hn h7 sz
theorem h_input (l : Launch) (hfl : l.flags = pinnedFlags ++ [noTraceFlag]) (dC : Nat → ClassId) (dI : Nat → Nat → Nat) (cI cJ : ClassId) (ad : Nat → Nat) (o : Nat) (u : S5) (x : Nat → Int64) (w : Int64) (n : Int32) (h3 : gN u 3 ≤ 1024) (sz : Nat) : Met l y_La_input wl_La_input rml_La_input (PreX (dC, dI) classes [(cI, .int), (cJ, .long)] (wX cI cJ ad o) (u, x) sz [.ref (ad 0), .long w, .int n, .ref o]) (QGi (dC, dI) classes [(cI, .int), (cJ, .long)] (wX cI cJ ad o) (va_A (wX cI cJ ad o (u, x)) sz) (gC_input w n u).1 ((gC_input w n u).2.2, (xo (gC_input w n u).1 (gC_input w n u).2.1 x))) 1 6 (va_A (wX cI cJ ad o (u, x)) sz) := by
  by_cases ht : n < 1 ∨ ¬ n ≤ 8
  · have e9 : gC_input w n u = (1, 0, u) := if_pos ht
    rw [e9]
    dsimp only
    rw [xo_1]
    exact h_input_IAE l hfl dC dI cI cJ ad o u x w n ht sz
  · have h0 : ¬ n < 0 := fun q => ht (Or.inl (by rw [Int32.lt_iff_toInt_lt] at q ⊢; have z0 : (0 : Int32).toInt = 0 := (by decide); have z1 : (1 : Int32).toInt = 1 := (by decide); omega))
    obtain ⟨j, hj, rfl, hj2⟩ := nI_upto (M := 8) (N := 8) (by decide) h0 (Classical.byContradiction fun q => ht (Or.inr q))
    have h1 : 1 ≤ j := by
      rcases Nat.eq_zero_or_pos j with q | q
      · subst q; exact absurd (Or.inl (by decide)) ht
      · exact q
    by_cases hc : 1024 < gN u 3 + j
    · have e9 : gC_input w (nI j) u = (2, 0, u) := (if_neg ht).trans (by rw [nI_clamp hj2]; exact if_pos hc)
      rw [e9]
      dsimp only
      rw [xo_2]
      exact h_input_IOB l hfl dC dI cI cJ ad o u x w j h1 hj h3 hc sz
    · have e9 : gC_input w (nI j) u = (0, nI (f_SH_input w j u).1, (f_SH_input w j u).2) := (if_neg ht).trans (by rw [nI_clamp hj2]; exact if_neg hc)
      rw [e9]
      dsimp only
      rw [xo_0]
      exact h_input_ok l hfl dC dI cI cJ ad o u x w j h1 hj (Nat.not_lt.mp hc) sz
theorem h_run (l : Launch) (hfl : l.flags = pinnedFlags ++ [noTraceFlag]) (dC : Nat → ClassId) (dI : Nat → Nat → Nat) (cI cJ : ClassId) (ad : Nat → Nat) (o : Nat) (u : S5) (x : Nat → Int64) (n : Int32) (Iv : S5 → Prop) (hI0 : Iv u) (hI1 : ∀ v, Iv v → OkR v) (hI2 : ∀ v, Iv v → gI v 3 = 0 → (f_Ma_fetch v).1 = true → OkR (f_Ma_fetch v).2 ∧ OkH (f_Ma_fetch v).2 ∧ OkP (f_Ma_fetch v).2 ∧ Iv (f_Ma_perform (f_Ma_fetch v).2)) (hI3 : ∀ v, Iv v → gI v 3 = 0 → ¬ (f_Ma_fetch v).1 = true → Iv (f_Ma_fetch v).2) (sz : Nat) : Met l y_La_run wl_La_run rml_La_run (PreX (dC, dI) classes [(cI, .int), (cJ, .long)] (wX cI cJ ad o) (u, x) sz [.ref (ad 0), .int n, .ref o]) (QGi (dC, dI) classes [(cI, .int), (cJ, .long)] (wX cI cJ ad o) (va_A (wX cI cJ ad o (u, x)) sz) (gC_run n u).1 ((gC_run n u).2.2, (xo (gC_run n u).1 (gC_run n u).2.1 x))) 1 6 (va_A (wX cI cJ ad o (u, x)) sz) := by
  by_cases ht : n < 0 ∨ ¬ n ≤ 100000
  · have e9 : gC_run n u = (1, 0, u) := if_pos ht
    rw [e9]
    dsimp only
    rw [xo_1]
    exact h_run_IAE l hfl dC dI cI cJ ad o u x n ht sz
  · obtain ⟨j, hj, rfl, hj2⟩ := nI_upto (M := 100000) (N := 100000) (by decide) (fun q => ht (Or.inl q)) (Classical.byContradiction fun q => ht (Or.inr q))
    have e9 : gC_run (nI j) u = (0, (f_SH_run j u).1, (f_SH_run j u).2) := (if_neg ht).trans (by rw [nI_clamp hj2])
    rw [e9]
    dsimp only
    rw [xo_0]
    exact h_run_ok l hfl dC dI cI cJ ad o u x j hj Iv hI0 hI1 hI2 hI3 sz
theorem h_register (l : Launch) (hfl : l.flags = pinnedFlags ++ [noTraceFlag]) (dC : Nat → ClassId) (dI : Nat → Nat → Nat) (cI cJ : ClassId) (ad : Nat → Nat) (o : Nat) (u : S5) (x : Nat → Int64) (a : Int32) (sz : Nat) : Met l y_La_register wl_La_register rml_La_register (PreX (dC, dI) classes [(cI, .int), (cJ, .long)] (wX cI cJ ad o) (u, x) sz [.ref (ad 0), .int a, .ref o]) (QGi (dC, dI) classes [(cI, .int), (cJ, .long)] (wX cI cJ ad o) (va_A (wX cI cJ ad o (u, x)) sz) (gC_register a u).1 ((gC_register a u).2.2, (xo (gC_register a u).1 (gC_register a u).2.1 x))) 1 6 (va_A (wX cI cJ ad o (u, x)) sz) := by
  by_cases ht : a < 0 ∨ ¬ a < 32
  · have e9 : gC_register a u = (1, 0, u) := if_pos ht
    rw [e9]
    dsimp only
    rw [xo_1]
    exact h_register_IOB l hfl dC dI cI cJ ad o u x a ht sz
  · obtain ⟨j, hj, rfl, hj2⟩ := nI_below (M := 32) (N := 32) (by decide) ht
    have e9 : gC_register (nI j) u = (0, f_SH_register j u, u) := (if_neg ht).trans (by rw [nI_clamp hj2])
    rw [e9]
    dsimp only
    rw [xo_0]
    exact h_register_ok l hfl dC dI cI cJ ad o u x j hj sz
theorem h_unknown (l : Launch) (hfl : l.flags = pinnedFlags ++ [noTraceFlag]) (dC : Nat → ClassId) (dI : Nat → Nat → Nat) (cI cJ : ClassId) (ad : Nat → Nat) (o : Nat) (u : S5) (x : Nat → Int64) (a : Int32) (sz : Nat) : Met l y_La_unknown wl_La_unknown rml_La_unknown (PreX (dC, dI) classes [(cI, .int), (cJ, .long)] (wX cI cJ ad o) (u, x) sz [.ref (ad 0), .int a, .ref o]) (QGi (dC, dI) classes [(cI, .int), (cJ, .long)] (wX cI cJ ad o) (va_A (wX cI cJ ad o (u, x)) sz) (gC_unknown a u).1 ((gC_unknown a u).2.2, (xo (gC_unknown a u).1 (gC_unknown a u).2.1 x))) 1 6 (va_A (wX cI cJ ad o (u, x)) sz) := by
  by_cases ht : a < 0 ∨ ¬ a < 32
  · have e9 : gC_unknown a u = (1, 0, u) := if_pos ht
    rw [e9]
    dsimp only
    rw [xo_1]
    exact h_unknown_IOB l hfl dC dI cI cJ ad o u x a ht sz
  · obtain ⟨j, hj, rfl, hj2⟩ := nI_below (M := 32) (N := 32) (by decide) ht
    have e9 : gC_unknown (nI j) u = (0, f_SH_unknown j u, u) := (if_neg ht).trans (by rw [nI_clamp hj2])
    rw [e9]
    dsimp only
    rw [xo_0]
    exact h_unknown_ok l hfl dC dI cI cJ ad o u x j hj sz
theorem h_memory (l : Launch) (hfl : l.flags = pinnedFlags ++ [noTraceFlag]) (dC : Nat → ClassId) (dI : Nat → Nat → Nat) (cI cJ : ClassId) (ad : Nat → Nat) (o : Nat) (u : S5) (x : Nat → Int64) (a : Int32) (sz : Nat) : Met l y_La_memory wl_La_memory rml_La_memory (PreX (dC, dI) classes [(cI, .int), (cJ, .long)] (wX cI cJ ad o) (u, x) sz [.ref (ad 0), .int a, .ref o]) (QGi (dC, dI) classes [(cI, .int), (cJ, .long)] (wX cI cJ ad o) (va_A (wX cI cJ ad o (u, x)) sz) (gC_memory a u).1 ((gC_memory a u).2.2, (xo (gC_memory a u).1 (gC_memory a u).2.1 x))) 1 6 (va_A (wX cI cJ ad o (u, x)) sz) := by
  by_cases ht : a < 0 ∨ ¬ a < 65536
  · have e9 : gC_memory a u = (1, 0, u) := if_pos ht
    rw [e9]
    dsimp only
    rw [xo_1]
    exact h_memory_IOB l hfl dC dI cI cJ ad o u x a ht sz
  · obtain ⟨j, hj, rfl, hj2⟩ := nI_below (M := 65536) (N := 65536) (by decide) ht
    have e9 : gC_memory (nI j) u = (0, f_SH_memory j u, u) := (if_neg ht).trans (by rw [nI_clamp hj2])
    rw [e9]
    dsimp only
    rw [xo_0]
    exact h_memory_ok l hfl dC dI cI cJ ad o u x j hj sz
theorem h_error (l : Launch) (hfl : l.flags = pinnedFlags ++ [noTraceFlag]) (dC : Nat → ClassId) (dI : Nat → Nat → Nat) (cI cJ : ClassId) (ad : Nat → Nat) (o : Nat) (u : S5) (x : Nat → Int64) (a q : Int32) (h60 : gN u 0 ≤ 60) (sz : Nat) : Met l y_La_error wl_La_error rml_La_error (PreX (dC, dI) classes [(cI, .int), (cJ, .long)] (wX cI cJ ad o) (u, x) sz [.ref (ad 0), .int a, .int q, .ref o]) (QGi (dC, dI) classes [(cI, .int), (cJ, .long)] (wX cI cJ ad o) (va_A (wX cI cJ ad o (u, x)) sz) (gC_error a q u).1 ((gC_error a q u).2.2, (xo (gC_error a q u).1 (gC_error a q u).2.1 x))) 1 6 (va_A (wX cI cJ ad o (u, x)) sz) := by
  by_cases ht : q < 0 ∨ ¬ q < 7
  · have e9 : gC_error a q u = (1, 0, u) := if_pos ht
    rw [e9]
    dsimp only
    rw [xo_1]
    exact h_error_IAE l hfl dC dI cI cJ ad o u x a q ht sz
  · obtain ⟨i, hi, rfl, hi2⟩ := nI_below (M := 7) (N := 7) (by decide) ht
    by_cases hc : a < 0 ∨ ¬ a < nI (gN u 0)
    · have e9 : gC_error a (nI i) u = (2, 0, u) := (if_neg ht).trans (if_pos hc)
      rw [e9]
      dsimp only
      rw [xo_2]
      exact h_error_IOB l hfl dC dI cI cJ ad o u x a i hi hc sz
    · obtain ⟨j, hj, rfl, hj2⟩ := nI_below (M := nI (gN u 0)) (N := gN u 0) (nI_toInt (by omega)) hc
      have e9 : gC_error (nI j) (nI i) u = (0, f_SH_error j i u, u) := (if_neg ht).trans ((if_neg hc).trans (by rw [nI_clamp hj2, nI_clamp hi2]))
      rw [e9]
      dsimp only
      rw [xo_0]
      exact h_error_ok l hfl dC dI cI cJ ad o u x j i hi hj h60 sz
theorem h_output (l : Launch) (hfl : l.flags = pinnedFlags ++ [noTraceFlag]) (dC : Nat → ClassId) (dI : Nat → Nat → Nat) (cI cJ : ClassId) (ad : Nat → Nat) (o : Nat) (u : S5) (x : Nat → Int64) (a : Int32) (h5 : gN u 5 ≤ 4096) (sz : Nat) : Met l y_La_output wl_La_output rml_La_output (PreX (dC, dI) classes [(cI, .int), (cJ, .long)] (wX cI cJ ad o) (u, x) sz [.ref (ad 0), .int a, .ref o]) (QGi (dC, dI) classes [(cI, .int), (cJ, .long)] (wX cI cJ ad o) (va_A (wX cI cJ ad o (u, x)) sz) (gC_output a u).1 ((gC_output a u).2.2, (xo (gC_output a u).1 (gC_output a u).2.1 x))) 1 6 (va_A (wX cI cJ ad o (u, x)) sz) := by
  by_cases ht : a < 0 ∨ ¬ a < nI (gN u 5)
  · have e9 : gC_output a u = (1, 0, u) := if_pos ht
    rw [e9]
    dsimp only
    rw [xo_1]
    exact h_output_IOB l hfl dC dI cI cJ ad o u x a ht sz
  · obtain ⟨j, hj, rfl, hj2⟩ := nI_below (M := nI (gN u 5)) (N := gN u 5) (nI_toInt (by omega)) ht
    have e9 : gC_output (nI j) u = (0, f_SH_output j u, u) := (if_neg ht).trans (by rw [nI_clamp hj2])
    rw [e9]
    dsimp only
    rw [xo_0]
    exact h_output_ok l hfl dC dI cI cJ ad o u x j hj h5 sz
theorem h_count (l : Launch) (hfl : l.flags = pinnedFlags ++ [noTraceFlag]) (dC : Nat → ClassId) (dI : Nat → Nat → Nat) (cI cJ : ClassId) (ad : Nat → Nat) (o : Nat) (u : S5) (x : Nat → Int64) (q : Int32) (sz : Nat) : Met l y_La_count wl_La_count rml_La_count (PreX (dC, dI) classes [(cI, .int), (cJ, .long)] (wX cI cJ ad o) (u, x) sz [.ref (ad 0), .int q, .ref o]) (QGi (dC, dI) classes [(cI, .int), (cJ, .long)] (wX cI cJ ad o) (va_A (wX cI cJ ad o (u, x)) sz) (gC_count q u).1 ((gC_count q u).2.2, (xo (gC_count q u).1 (gC_count q u).2.1 x))) 1 6 (va_A (wX cI cJ ad o (u, x)) sz) := by
  by_cases ht : q.toInt < 0 ∨ 10 < q.toInt
  · have e9 : gC_count q u = (1, 0, u) := if_pos ht
    rw [e9]
    dsimp only
    rw [xo_1]
    exact h_count_IAE l hfl dC dI cI cJ ad o u x q ht sz
  · have e9 : gC_count q u = (0, f_SH_count q u, u) := if_neg ht
    rw [e9]
    dsimp only
    rw [xo_0]
    exact h_count_ok l hfl dC dI cI cJ ad o u x q (by omega) (by omega) sz
-- what the walk of the law needs of the relation of the two states
def LSim (Sim : S5 → S5 → Prop) : Prop :=
  (∀ u v, Sim u v → OkR u) ∧
  (∀ u v, Sim u v → OkP u) ∧
  (∀ u v, Sim u v → OkE v ∧ OkK v ∧ OkQ v) ∧
  (∀ u v, Sim u v → gI u 3 = 0 → (f_Ma_fetch u).1 = true → OkR (f_Ma_fetch u).2 ∧ OkH (f_Ma_fetch u).2 ∧ OkP (f_Ma_fetch u).2 ∧ ∃ v', Sim (f_Ma_perform (f_Ma_fetch u).2) v') ∧
  (∀ u v, Sim u v → gI u 3 = 0 → ¬ (f_Ma_fetch u).1 = true → ∃ v', Sim (f_Ma_fetch u).2 v') ∧
  (∀ u v, Sim u v → gI v 2 = 0 → ∃ u', Sim u' (f_Mo_one v)) ∧
  (∀ u v k, Sim u v → Sim u (sI v 0 k)) ∧
  (∀ u v, Sim u v → Sim (f_SH_begin u) (f_Mo_begin v)) ∧
  (∀ u v a w, Sim u v → gI (f_Mo_image a w v) 0 = (gC_image a w u).1 ∧ Sim (gC_image a w u).2.2 (f_Mo_image a w v)) ∧
  (∀ u v w n, Sim u v → gI (f_Mo_input w n v).2 0 = (gC_input w n u).1 ∧ ((gC_input w n u).1 = 0 → nI (f_Mo_input w n v).1 = (gC_input w n u).2.1) ∧ Sim (gC_input w n u).2.2 (f_Mo_input w n v).2) ∧
  (∀ u v n, Sim u v → gI (f_Mo_run n v).2 0 = (gC_run n u).1 ∧ ((gC_run n u).1 = 0 → (f_Mo_run n v).1 = (gC_run n u).2.1) ∧ Sim (gC_run n u).2.2 (f_Mo_run n v).2) ∧
  (∀ u v a, Sim u v → gI (f_Mo_register a v).2 0 = (gC_register a u).1 ∧ ((gC_register a u).1 = 0 → (f_Mo_register a v).1 = (gC_register a u).2.1) ∧ Sim (gC_register a u).2.2 (f_Mo_register a v).2) ∧
  (∀ u v a, Sim u v → gI (f_Mo_unknown a v).2 0 = (gC_unknown a u).1 ∧ ((gC_unknown a u).1 = 0 → (f_Mo_unknown a v).1 = (gC_unknown a u).2.1) ∧ Sim (gC_unknown a u).2.2 (f_Mo_unknown a v).2) ∧
  (∀ u v a, Sim u v → gI (f_Mo_memory a v).2 0 = (gC_memory a u).1 ∧ ((gC_memory a u).1 = 0 → (f_Mo_memory a v).1 = (gC_memory a u).2.1) ∧ Sim (gC_memory a u).2.2 (f_Mo_memory a v).2) ∧
  (∀ u v a, Sim u v → gI (f_Mo_output a v).2 0 = (gC_output a u).1 ∧ ((gC_output a u).1 = 0 → (f_Mo_output a v).1 = (gC_output a u).2.1) ∧ Sim (gC_output a u).2.2 (f_Mo_output a v).2) ∧
  (∀ u v a, Sim u v → gI (f_Mo_count a v).2 0 = (gC_count a u).1 ∧ ((gC_count a u).1 = 0 → (f_Mo_count a v).1 = (gC_count a u).2.1) ∧ Sim (gC_count a u).2.2 (f_Mo_count a v).2) ∧
  (∀ u v a q, Sim u v → gI (f_Mo_error a q v).2 0 = (gC_error a q u).1 ∧ ((gC_error a q u).1 = 0 → (f_Mo_error a q v).1 = (gC_error a q u).2.1) ∧ Sim (gC_error a q u).2.2 (f_Mo_error a q v).2)
theorem LSim.okr {Sim : S5 → S5 → Prop} (h : LSim Sim) : ∀ u v, Sim u v → OkR u := h.1
theorem LSim.okp {Sim : S5 → S5 → Prop} (h : LSim Sim) : ∀ u v, Sim u v → OkP u := h.2.1
theorem LSim.oke {Sim : S5 → S5 → Prop} (h : LSim Sim) : ∀ u v, Sim u v → OkE v ∧ OkK v ∧ OkQ v := h.2.2.1
theorem LSim.go1 {Sim : S5 → S5 → Prop} (h : LSim Sim) : ∀ u v, Sim u v → gI u 3 = 0 → (f_Ma_fetch u).1 = true → OkR (f_Ma_fetch u).2 ∧ OkH (f_Ma_fetch u).2 ∧ OkP (f_Ma_fetch u).2 ∧ ∃ v', Sim (f_Ma_perform (f_Ma_fetch u).2) v' := h.2.2.2.1
theorem LSim.go2 {Sim : S5 → S5 → Prop} (h : LSim Sim) : ∀ u v, Sim u v → gI u 3 = 0 → ¬ (f_Ma_fetch u).1 = true → ∃ v', Sim (f_Ma_fetch u).2 v' := h.2.2.2.2.1
theorem LSim.go3 {Sim : S5 → S5 → Prop} (h : LSim Sim) : ∀ u v, Sim u v → gI v 2 = 0 → ∃ u', Sim u' (f_Mo_one v) := h.2.2.2.2.2.1
theorem LSim.err {Sim : S5 → S5 → Prop} (h : LSim Sim) : ∀ u v k, Sim u v → Sim u (sI v 0 k) := h.2.2.2.2.2.2.1
theorem LSim.begin {Sim : S5 → S5 → Prop} (h : LSim Sim) : ∀ u v, Sim u v → Sim (f_SH_begin u) (f_Mo_begin v) := h.2.2.2.2.2.2.2.1
theorem LSim.image {Sim : S5 → S5 → Prop} (h : LSim Sim) : ∀ u v a w, Sim u v → gI (f_Mo_image a w v) 0 = (gC_image a w u).1 ∧ Sim (gC_image a w u).2.2 (f_Mo_image a w v) := h.2.2.2.2.2.2.2.2.1
theorem LSim.input {Sim : S5 → S5 → Prop} (h : LSim Sim) : ∀ u v w n, Sim u v → gI (f_Mo_input w n v).2 0 = (gC_input w n u).1 ∧ ((gC_input w n u).1 = 0 → nI (f_Mo_input w n v).1 = (gC_input w n u).2.1) ∧ Sim (gC_input w n u).2.2 (f_Mo_input w n v).2 := h.2.2.2.2.2.2.2.2.2.1
theorem LSim.run {Sim : S5 → S5 → Prop} (h : LSim Sim) : ∀ u v n, Sim u v → gI (f_Mo_run n v).2 0 = (gC_run n u).1 ∧ ((gC_run n u).1 = 0 → (f_Mo_run n v).1 = (gC_run n u).2.1) ∧ Sim (gC_run n u).2.2 (f_Mo_run n v).2 := h.2.2.2.2.2.2.2.2.2.2.1
theorem LSim.register {Sim : S5 → S5 → Prop} (h : LSim Sim) : ∀ u v a, Sim u v → gI (f_Mo_register a v).2 0 = (gC_register a u).1 ∧ ((gC_register a u).1 = 0 → (f_Mo_register a v).1 = (gC_register a u).2.1) ∧ Sim (gC_register a u).2.2 (f_Mo_register a v).2 := h.2.2.2.2.2.2.2.2.2.2.2.1
theorem LSim.unknown {Sim : S5 → S5 → Prop} (h : LSim Sim) : ∀ u v a, Sim u v → gI (f_Mo_unknown a v).2 0 = (gC_unknown a u).1 ∧ ((gC_unknown a u).1 = 0 → (f_Mo_unknown a v).1 = (gC_unknown a u).2.1) ∧ Sim (gC_unknown a u).2.2 (f_Mo_unknown a v).2 := h.2.2.2.2.2.2.2.2.2.2.2.2.1
theorem LSim.memory {Sim : S5 → S5 → Prop} (h : LSim Sim) : ∀ u v a, Sim u v → gI (f_Mo_memory a v).2 0 = (gC_memory a u).1 ∧ ((gC_memory a u).1 = 0 → (f_Mo_memory a v).1 = (gC_memory a u).2.1) ∧ Sim (gC_memory a u).2.2 (f_Mo_memory a v).2 := h.2.2.2.2.2.2.2.2.2.2.2.2.2.1
theorem LSim.output {Sim : S5 → S5 → Prop} (h : LSim Sim) : ∀ u v a, Sim u v → gI (f_Mo_output a v).2 0 = (gC_output a u).1 ∧ ((gC_output a u).1 = 0 → (f_Mo_output a v).1 = (gC_output a u).2.1) ∧ Sim (gC_output a u).2.2 (f_Mo_output a v).2 := h.2.2.2.2.2.2.2.2.2.2.2.2.2.2.1
theorem LSim.count {Sim : S5 → S5 → Prop} (h : LSim Sim) : ∀ u v a, Sim u v → gI (f_Mo_count a v).2 0 = (gC_count a u).1 ∧ ((gC_count a u).1 = 0 → (f_Mo_count a v).1 = (gC_count a u).2.1) ∧ Sim (gC_count a u).2.2 (f_Mo_count a v).2 := h.2.2.2.2.2.2.2.2.2.2.2.2.2.2.2.1
theorem LSim.error {Sim : S5 → S5 → Prop} (h : LSim Sim) : ∀ u v a q, Sim u v → gI (f_Mo_error a q v).2 0 = (gC_error a q u).1 ∧ ((gC_error a q u).1 = 0 → (f_Mo_error a q v).1 = (gC_error a q u).2.1) ∧ Sim (gC_error a q u).2.2 (f_Mo_error a q v).2 := h.2.2.2.2.2.2.2.2.2.2.2.2.2.2.2.2

