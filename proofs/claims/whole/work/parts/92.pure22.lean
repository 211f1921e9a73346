theorem bad1 {p : Prop} {u : S5} (q : ((1, 0, u) : Int32 × Int32 × S5).1 = 0) : p := absurd (show (1 : Int32) = 0 from q) (by decide)
theorem bad2 {p : Prop} {u : S5} (q : ((2, 0, u) : Int32 × Int32 × S5).1 = 0) : p := absurd (show (2 : Int32) = 0 from q) (by decide)
theorem S_register (u v : S5) (a : Int32) (h : Sim u v) : gI (f_Mo_register a v).2 0 = (gC_register a u).1 ∧ ((gC_register a u).1 = 0 → (f_Mo_register a v).1 = (gC_register a u).2.1) ∧ Sim (gC_register a u).2.2 (f_Mo_register a v).2 := by
  unfold f_Mo_register gC_register
  dsimp only
  rcases yn _ _ (y_le a 0 31) with ⟨z, e⟩ | ⟨z, e⟩
  · have z' : a < 0 ∨ ¬ a < 32 := by rw [le_lt (K := 32) (by decide)] at z; exact z
    rw [e, if_pos z', fl_t, if_pos rfl]
    exact ⟨rfl, bad1, h⟩
  · have z' : ¬ (a < 0 ∨ ¬ a < 32) := by rw [le_lt (K := 32) (by decide)] at z; exact z
    rw [e, if_neg z', fl_f, if_neg (show ¬ ((false, sI v 0 0) : Bool × S5).1 = true from ff)]
    obtain ⟨j, j1, rfl, j2⟩ := nI_below (M := 32) (N := 32) (by decide) z'
    rw [nI_clamp j2]
    exact ⟨rfl, fun _ => (h.R j j1).1.symm, h⟩
theorem S_unknown (u v : S5) (a : Int32) (h : Sim u v) : gI (f_Mo_unknown a v).2 0 = (gC_unknown a u).1 ∧ ((gC_unknown a u).1 = 0 → (f_Mo_unknown a v).1 = (gC_unknown a u).2.1) ∧ Sim (gC_unknown a u).2.2 (f_Mo_unknown a v).2 := by
  unfold f_Mo_unknown gC_unknown
  dsimp only
  rcases yn _ _ (y_le a 0 31) with ⟨z, e⟩ | ⟨z, e⟩
  · have z' : a < 0 ∨ ¬ a < 32 := by rw [le_lt (K := 32) (by decide)] at z; exact z
    rw [e, if_pos z', fl_t, if_pos rfl]
    exact ⟨rfl, bad1, h⟩
  · have z' : ¬ (a < 0 ∨ ¬ a < 32) := by rw [le_lt (K := 32) (by decide)] at z; exact z
    rw [e, if_neg z', fl_f, if_neg (show ¬ ((false, sI v 0 0) : Bool × S5).1 = true from ff)]
    obtain ⟨j, j1, rfl, j2⟩ := nI_below (M := 32) (N := 32) (by decide) z'
    rw [nI_clamp j2]
    have hs : Sim u (sI v 0 0) := h
    exact ⟨rfl, fun _ => R_dark hs.R j1, h⟩
theorem S_memory (u v : S5) (a : Int32) (h : Sim u v) : gI (f_Mo_memory a v).2 0 = (gC_memory a u).1 ∧ ((gC_memory a u).1 = 0 → (f_Mo_memory a v).1 = (gC_memory a u).2.1) ∧ Sim (gC_memory a u).2.2 (f_Mo_memory a v).2 := by
  unfold f_Mo_memory gC_memory
  dsimp only
  rcases yn _ _ (y_lt a 65536) with ⟨z, e⟩ | ⟨z, e⟩
  · rw [e, if_pos z, fl_t, if_pos rfl]
    exact ⟨rfl, bad1, h⟩
  · rw [e, if_neg z, if_neg (show ¬ (f_Mo_fails false 1 v).1 = true from ff)]
    obtain ⟨j, j1, rfl, j2⟩ := nI_below (M := 65536) (N := 65536) (by decide) z
    have e2 := M_face h.M (a := nI j) (by rw [nI_clamp j2]; exact j1) false
    have e3 : f_Mo_memory_50 (nI j) v false 9 0 ((aI (f_Mo_fails false 1 v).2 1 (nI j).toNatClampNeg) ||| (if aB (f_Mo_fails false 1 v).2 0 (nI j).toNatClampNeg = true then 65536 else 0)) = _ := e2
    rw [e3]
    exact ⟨rfl, fun _ => rfl, h⟩
theorem S_output (u v : S5) (a : Int32) (h : Sim u v) : gI (f_Mo_output a v).2 0 = (gC_output a u).1 ∧ ((gC_output a u).1 = 0 → (f_Mo_output a v).1 = (gC_output a u).2.1) ∧ Sim (gC_output a u).2.2 (f_Mo_output a v).2 := by
  have hP := h.P
  unfold f_Mo_output gC_output
  dsimp only
  rw [hP.2.2.1]
  rcases yn _ _ (y_lt a (nI (gN v 4))) with ⟨z, e⟩ | ⟨z, e⟩
  · rw [e, if_pos z, fl_t, if_pos rfl]
    exact ⟨rfl, bad1, h⟩
  · rw [e, if_neg z, fl_f, if_neg (show ¬ ((false, sI v 0 0) : Bool × S5).1 = true from ff)]
    obtain ⟨j, j1, rfl, j2⟩ := nI_below (M := nI (gN v 4)) (N := gN v 4) (nI_toInt (by have := hP.2.2.2.2.2.1; omega)) z
    rw [nI_clamp j2]
    exact ⟨rfl, fun _ => (hP.2.2.2.2.2.2.2 j j1).symm, h⟩
theorem S_error (u v : S5) (a q : Int32) (h : Sim u v) : gI (f_Mo_error a q v).2 0 = (gC_error a q u).1 ∧ ((gC_error a q u).1 = 0 → (f_Mo_error a q v).1 = (gC_error a q u).2.1) ∧ Sim (gC_error a q u).2.2 (f_Mo_error a q v).2 := by
  have hE := h.E
  unfold f_Mo_error gC_error
  dsimp only
  rcases yn _ _ (y_le q 0 6) with ⟨z, e⟩ | ⟨z, e⟩
  · have z' : q < 0 ∨ ¬ q < 7 := by rw [le_lt (K := 7) (by decide)] at z; exact z
    rw [e, if_pos z', fl_t, if_pos rfl]
    exact ⟨rfl, bad1, h⟩
  · have z' : ¬ (q < 0 ∨ ¬ q < 7) := by rw [le_lt (K := 7) (by decide)] at z; exact z
    rw [e, if_neg z', fl_f, if_neg (show ¬ ((false, sI v 0 0) : Bool × S5).1 = true from ff)]
    dsimp only
    have g6 : gN (sI v 0 0) 6 = gN v 6 := rfl
    rw [g6, hE.1]
    rcases yn _ _ (y_lt a (nI (gN v 6))) with ⟨y, e2⟩ | ⟨y, e2⟩
    · rw [e2, if_pos y, fl_t, if_pos rfl]
      exact ⟨rfl, bad2, h⟩
    · rw [e2, if_neg y, fl_f, if_neg (show ¬ ((false, sI (sI v 0 0) 0 0) : Bool × S5).1 = true from ff)]
      dsimp only
      obtain ⟨i, i1, rfl, i2⟩ := nI_below (M := 7) (N := 7) (by decide) z'
      obtain ⟨j, j1, rfl, j2⟩ := nI_below (M := nI (gN v 6)) (N := gN v 6) (nI_toInt (by have := hE.2.1; omega)) y
      rw [nI_clamp j2, nI_clamp i2]
      obtain ⟨r1, r2, r3, r4⟩ := hE.2.2.2 j j1
      have hs : Sim u (sI (sI v 0 0) 0 0) := h
      unfold f_SH_error
      rcases (show i = 0 ∨ i = 1 ∨ i = 2 ∨ 3 ≤ i by omega) with rfl | rfl | rfl | i3
      · rw [if_pos (show nI 0 = (0 : Int32) from rfl)]
        exact ⟨rfl, fun _ => r1.symm, hs⟩
      · rw [if_neg (show ¬ nI 1 = (0 : Int32) by decide), if_pos (show nI 1 = (1 : Int32) from rfl)]
        exact ⟨rfl, fun _ => r2.symm, hs⟩
      · rw [if_neg (show ¬ nI 2 = (0 : Int32) by decide), if_neg (show ¬ nI 2 = (1 : Int32) by decide), if_pos (show nI 2 = (2 : Int32) from rfl)]
        exact ⟨rfl, fun _ => r3.symm, hs⟩
      · have m0 : ¬ nI i = (0 : Int32) := fun w => by have := (nI_eq (b := 0) (by omega) (by omega)).mp w; omega
        have m1 : ¬ nI i = (1 : Int32) := fun w => by have := (nI_eq (b := 1) (by omega) (by omega)).mp w; omega
        have m2 : ¬ nI i = (2 : Int32) := fun w => by have := (nI_eq (b := 2) (by omega) (by omega)).mp w; omega
        rw [if_neg m0, if_neg m1, if_neg m2]
        refine ⟨rfl, fun _ => ?_, hs⟩
        show aI v 9 (4 * j + i - 3) = aI u 4 (j * 7 + i)
        have := r4 (i - 3) (by omega)
        rw [show j * 7 + 3 + (i - 3) = j * 7 + i by omega] at this
        rw [this]
        exact congrArg _ (by omega)
theorem c_29 (q : Int32) (v : S5) (y : Bool) : ∀ (k i : Nat) (x : Int32), gN v 0 < k + i → i ≤ gN v 0 → x = sumI (aN v 1) i → f_Mo_count_29 q v y k i x = sumI (aN v 1) (gN v 0)
  | 0, i, x, h1, h2, h3 => by omega
  | k + 1, i, x, h1, h2, h3 => by
    unfold f_Mo_count_29
    have e1 : gN (f_Mo_fails y 1 v).2 0 = gN v 0 := rfl
    have e2 : aN (f_Mo_fails y 1 v).2 1 = aN v 1 := rfl
    rw [e1, e2]
    by_cases hi : i < gN v 0
    · rw [if_pos hi]; exact c_29 q v y k (i + 1) _ (by omega) (by omega) (by rw [h3]; rfl)
    · rw [if_neg hi, h3, show i = gN v 0 by omega]
theorem S_count (u v : S5) (q : Int32) (h : Sim u v) : gI (f_Mo_count q v).2 0 = (gC_count q u).1 ∧ ((gC_count q u).1 = 0 → (f_Mo_count q v).1 = (gC_count q u).2.1) ∧ Sim (gC_count q u).2.2 (f_Mo_count q v).2 := by
  have hE := h.E; have hT := h.T; have hP := h.P; have hX := h.X
  obtain ⟨s1, s2, s3⟩ := h.H.2.2.2.2
  have hk := h.H.2.2.2.1.1
  have zc : (q < 0 ∨ ¬ q ≤ 10) ↔ (q.toInt < 0 ∨ 10 < q.toInt) := by
    rw [Int32.lt_iff_toInt_lt, Int32.le_iff_toInt_le]
    have z0 : (0 : Int32).toInt = 0 := (by decide)
    have z1 : (10 : Int32).toInt = 10 := (by decide)
    omega
  unfold f_Mo_count gC_count
  dsimp only
  rcases yn _ _ (y_le q 0 10) with ⟨z, e⟩ | ⟨z, e⟩
  · rw [e, if_pos (zc.mp z), fl_t, if_pos rfl]
    exact ⟨rfl, bad1, h⟩
  · rw [e, if_neg (fun w => z (zc.mpr w)), if_neg (show ¬ (f_Mo_fails false 1 v).1 = true from ff), c_29 q v false _ 0 0 (by omega) (by omega) rfl]
    have hs : Sim u (f_Mo_fails false 1 v).2 := h
    unfold f_SH_count
    by_cases c0 : q = 0
    · rw [if_pos c0, if_pos c0]; exact ⟨rfl, fun _ => hX.2.1.symm, hs⟩
    rw [if_neg c0, if_neg c0]
    by_cases c1 : q = 1
    · rw [if_pos c1, if_pos c1]; exact ⟨rfl, fun _ => hX.2.2.1.symm, hs⟩
    rw [if_neg c1, if_neg c1]
    by_cases c2 : q = 2
    · rw [if_pos c2, if_pos c2]; exact ⟨rfl, fun _ => hX.1.symm, hs⟩
    rw [if_neg c2, if_neg c2]
    by_cases c3 : q = 3
    · rw [if_pos c3, if_pos c3]; exact ⟨rfl, fun _ => hX.2.2.2.symm, hs⟩
    rw [if_neg c3, if_neg c3]
    by_cases c4 : q = 4
    · rw [if_pos c4, if_pos c4]; exact ⟨rfl, fun _ => (congrArg nI hE.1).symm, hs⟩
    rw [if_neg c4, if_neg c4]
    by_cases c5 : q = 5
    · rw [if_pos c5, if_pos c5]; exact ⟨rfl, fun _ => hE.2.2.1.symm, hs⟩
    rw [if_neg c5, if_neg c5]
    by_cases c6 : q = 6
    · rw [if_pos c6, if_pos c6]; exact ⟨rfl, fun _ => (congrArg nI hP.2.2.1).symm, hs⟩
    rw [if_neg c6, if_neg c6]
    by_cases c7 : q = 7
    · rw [if_pos c7, if_pos c7]; exact ⟨rfl, fun _ => s1.symm, hs⟩
    rw [if_neg c7, if_neg c7]
    by_cases c8 : q = 8
    · rw [if_pos c8, if_pos c8]; exact ⟨rfl, fun _ => (congrArg nI hk).symm, hs⟩
    rw [if_neg c8, if_neg c8]
    by_cases c9 : q = 9
    · rw [if_pos c9, if_pos c9]; exact ⟨rfl, fun _ => s2.symm, hs⟩
    rw [if_neg c9, if_neg c9]
    have c10 : q = 10 := by
      have zz := fun w => z (zc.mpr w)
      have n0 : ¬ q < 0 := fun w => z (Or.inl w)
      obtain ⟨j, j1, rfl, j2⟩ := nI_upto (M := 10) (N := 10) (by decide) n0 (Classical.byContradiction fun w => z (Or.inr w))
      rcases (show j = 0 ∨ j = 1 ∨ j = 2 ∨ j = 3 ∨ j = 4 ∨ j = 5 ∨ j = 6 ∨ j = 7 ∨ j = 8 ∨ j = 9 ∨ j = 10 by omega) with rfl | rfl | rfl | rfl | rfl | rfl | rfl | rfl | rfl | rfl | rfl
      · exact absurd rfl c0
      · exact absurd rfl c1
      · exact absurd rfl c2
      · exact absurd rfl c3
      · exact absurd rfl c4
      · exact absurd rfl c5
      · exact absurd rfl c6
      · exact absurd rfl c7
      · exact absurd rfl c8
      · exact absurd rfl c9
      · rfl
    rw [if_pos c10]
    exact ⟨rfl, fun _ => (congrArg nI hT.1).symm, hs⟩
/-- THE TWO SIDES ANSWER ALIKE -/
theorem S_all_ok : LSim Sim :=
  ⟨fun _ _ h => S_okr h, fun _ _ h => S_okp h, fun _ _ h => S_oke h,
   fun u v h h3 hf => by
     rcases S_step h h3 with ⟨_, ⟨v1, s1⟩, s2⟩ | ⟨s1, _⟩
     · exact ⟨S_okr s1, S_okh s1, S_okp s1, _, s2⟩
     · exact absurd hf s1,
   fun u v h h3 hf => by
     rcases S_step h h3 with ⟨s1, _⟩ | ⟨_, s2⟩
     · exact absurd s1 hf
     · exact ⟨_, s2⟩,
   fun u v h h2 => by
     rcases S_step h (h.X.2.1.trans h2) with ⟨_, _, s2⟩ | ⟨_, s2⟩
     · exact ⟨_, s2⟩
     · exact ⟨_, s2⟩,
   fun _ _ k h => S_err h k, fun _ _ h => S_begin h, S_image, S_input, S_run, S_register, S_unknown, S_memory, S_output, S_count, S_error⟩
