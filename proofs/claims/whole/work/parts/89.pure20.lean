def oneB (u : S5) (w op : Int32) (d f a b : Nat) (g im : Int32) (v1 : S5) : S5 := if op = 3 then (if ((f_Mo_reads f d a ((aI v1 2 a) + im) v1).1) = true then f_Mo_one_952 u w op d f a b g im ((gI v1 1) + (4 : Int32)) ((f_Mo_reads f d a ((aI v1 2 a) + im) v1).2) else (f_Mo_reads f d a ((aI v1 2 a) + im) v1).2) else if op = 15 then f_Mo_one_952 u w op d f a b g im ((gI v1 1) + (4 : Int32)) v1 else if op = 19 then (if f = 1 then (if g = 0 then f_Mo_one_780 u w op d f a b g im v1 else f_Mo_trap 1 v1) else f_Mo_one_780 u w op d f a b g im v1) else if op = 23 then f_Mo_one_952 u w op d f a b g im ((gI v1 1) + (4 : Int32)) (f_Mo_give d ((w &&& (-4096 : Int32)) + (gI v1 1)) 0 v1) else if op = 35 then (if ((f_Mo_stores f a b ((aI v1 2 a) + (f_Mo_signed ((g <<< ((5 : Int32) &&& 31)) ||| (nI d)) 12)) v1).1) = true then f_Mo_one_952 u w op d f a b g im ((gI v1 1) + (4 : Int32)) ((f_Mo_stores f a b ((aI v1 2 a) + (f_Mo_signed ((g <<< ((5 : Int32) &&& 31)) ||| (nI d)) 12)) v1).2) else (f_Mo_stores f a b ((aI v1 2 a) + (f_Mo_signed ((g <<< ((5 : Int32) &&& 31)) ||| (nI d)) 12)) v1).2) else if op = 51 then (if ((f_Mo_both (nI f) g d a b v1).1) = true then f_Mo_one_952 u w op d f a b g im ((gI v1 1) + (4 : Int32)) ((f_Mo_both (nI f) g d a b v1).2) else f_Mo_trap 1 ((f_Mo_both (nI f) g d a b v1).2)) else if op = 55 then f_Mo_one_952 u w op d f a b g im ((gI v1 1) + (4 : Int32)) (f_Mo_give d (w &&& (-4096 : Int32)) 0 v1) else if op = 99 then (if f = 2 then f_Mo_trap 1 v1 else if f = 3 then f_Mo_trap 1 v1 else if (f_Mo_anyDark a 32 v1) = true then f_Mo_one_501 u w op d f a b g im v1 (f_Mo_fault 2 0 v1) else if (f_Mo_anyDark b 32 v1) = true then f_Mo_one_501 u w op d f a b g im v1 (f_Mo_fault 2 0 v1) else f_Mo_one_501 u w op d f a b g im v1 v1) else if op = 103 then (if f = 0 then (if (f_Mo_anyDark a 32 v1) = true then f_Mo_one_401 u w op d f a b g im v1 (f_Mo_fault 3 (((aI v1 2 a) + im) &&& (-2 : Int32)) v1) else f_Mo_one_401 u w op d f a b g im v1 v1) else f_Mo_trap 1 v1) else if op = 111 then (if d = 1 then f_Mo_one_952 u w op d f a b g im ((gI (f_Mo_push (f_Mo_give d ((gI v1 1) + (4 : Int32)) 0 v1)) 1) + (f_Mo_signed ((((((w.toUInt32 >>> ((31 : Int32).toUInt32 &&& Int32.toUInt32 31)).toInt32) <<< ((20 : Int32) &&& 31)) ||| (((w >>> ((12 : Int32) &&& 31)) &&& (255 : Int32)) <<< ((12 : Int32) &&& 31))) ||| (((w >>> ((20 : Int32) &&& 31)) &&& (1 : Int32)) <<< ((11 : Int32) &&& 31))) ||| (((w >>> ((21 : Int32) &&& 31)) &&& (1023 : Int32)) <<< ((1 : Int32) &&& 31))) 21)) (f_Mo_push (f_Mo_give d ((gI v1 1) + (4 : Int32)) 0 v1)) else f_Mo_one_952 u w op d f a b g im ((gI (f_Mo_give d ((gI v1 1) + (4 : Int32)) 0 v1) 1) + (f_Mo_signed ((((((w.toUInt32 >>> ((31 : Int32).toUInt32 &&& Int32.toUInt32 31)).toInt32) <<< ((20 : Int32) &&& 31)) ||| (((w >>> ((12 : Int32) &&& 31)) &&& (255 : Int32)) <<< ((12 : Int32) &&& 31))) ||| (((w >>> ((20 : Int32) &&& 31)) &&& (1 : Int32)) <<< ((11 : Int32) &&& 31))) ||| (((w >>> ((21 : Int32) &&& 31)) &&& (1023 : Int32)) <<< ((1 : Int32) &&& 31))) 21)) (f_Mo_give d ((gI v1 1) + (4 : Int32)) 0 v1)) else if op = 115 then (if w = 115 then (if (gI (f_Mo_call v1) 2) = 1 then sI (f_Mo_call v1) 4 ((gI (f_Mo_call v1) 4) + (1 : Int32)) else f_Mo_one_952 u w op d f a b g im ((gI v1 1) + (4 : Int32)) (f_Mo_call v1)) else let x57 : Int32 := if w = 1048691 then 3 else 1; f_Mo_trap x57 v1) else f_Mo_trap 1 v1
theorem one_eq {v : S5} (h1 : (gI v 1 &&& (3 : Int32)) = 0) (h2 : ¬ gI v 1 < 0) (h3 : gI v 1 ≤ 65532) : ∃ op d f a b g im, f_Mo_one v = oneB v (f_Mo_word (gI v 1).toNatClampNeg v) (f_Mo_word (gI v 1).toNatClampNeg v &&& (127 : Int32)) (f_Wo_d (f_Mo_word (gI v 1).toNatClampNeg v)) (f_Wo_f (f_Mo_word (gI v 1).toNatClampNeg v)) (f_Wo_a (f_Mo_word (gI v 1).toNatClampNeg v)) (f_Wo_b (f_Mo_word (gI v 1).toNatClampNeg v)) (f_Wo_g (f_Mo_word (gI v 1).toNatClampNeg v)) (f_Wo_immediate (f_Mo_word (gI v 1).toNatClampNeg v)) (f_Mo_one_95 v (f_Mo_word (gI v 1).toNatClampNeg v) op d f a b g im 5 0) := by
  rw [← w_d, ← w_f, ← w_a, ← w_b]
  refine ⟨(f_Mo_word (gI v 1).toNatClampNeg v) &&& (127 : Int32), n5 ((f_Mo_word (gI v 1).toNatClampNeg v) >>> ((7 : Int32) &&& 31)), n3 ((f_Mo_word (gI v 1).toNatClampNeg v) >>> ((12 : Int32) &&& 31)), n5 ((f_Mo_word (gI v 1).toNatClampNeg v) >>> ((15 : Int32) &&& 31)), n5 ((f_Mo_word (gI v 1).toNatClampNeg v) >>> ((20 : Int32) &&& 31)), f_Wo_g (f_Mo_word (gI v 1).toNatClampNeg v), f_Wo_immediate (f_Mo_word (gI v 1).toNatClampNeg v), ?_⟩
  unfold f_Mo_one
  rw [if_pos h1, if_neg h2, if_pos h3]
  rfl
theorem o_95 (v : S5) (w op : Int32) (d f a b : Nat) (g im : Int32) : ∀ (k i : Nat), 4 < k + i → i ≤ 4 → (gI v 1).toNatClampNeg + 4 ≤ 65536 → f_Mo_one_95 v w op d f a b g im k i = if f_Mo_shut_2 (gI v 1).toNatClampNeg 4 v k i < 0 then v else f_Mo_fault 1 (f_Mo_shut_2 (gI v 1).toNatClampNeg 4 v k i) v
  | 0, i, h1, h2, h3 => by omega
  | k + 1, i, h1, h2, h3 => by
    unfold f_Mo_one_95 f_Mo_shut_2
    by_cases hi : i < 4
    · rw [if_pos hi, if_pos hi]
      by_cases z : aB v 0 ((gI v 1).toNatClampNeg + i) = true
      · rw [if_pos z, if_pos z]; exact o_95 v w op d f a b g im k (i + 1) (by omega) (by omega) h3
      · rw [if_neg z, if_neg z, if_neg (nI_pos (by omega))]
    · rw [if_neg hi, if_neg hi, if_pos (by decide)]
theorem sh_neg (at_ n : Nat) (v : S5) (ha : at_ + n ≤ 65536) : ∀ (k i : Nat), n < k + i → i ≤ n → (f_Mo_shut_2 at_ n v k i < 0 ↔ ∀ c, i ≤ c → c < n → aB v 0 (at_ + c) = true)
  | 0, i, h1, h2 => by omega
  | k + 1, i, h1, h2 => by
    unfold f_Mo_shut_2
    by_cases hi : i < n
    · rw [if_pos hi]
      by_cases z : aB v 0 (at_ + i) = true
      · rw [if_pos z, sh_neg at_ n v ha k (i + 1) (by omega) (by omega)]
        constructor
        · intro q c c1 c2
          by_cases e : c = i
          · subst e; exact z
          · exact q c (by omega) c2
        · intro q c c1 c2; exact q c (by omega) c2
      · rw [if_neg z]
        constructor
        · intro q; exact absurd q (nI_pos (by omega))
        · intro q; exact absurd (q i (Nat.le_refl _) hi) z
    · rw [if_neg hi]
      exact ⟨fun _ c c1 c2 => by omega, fun _ => by decide⟩
theorem PG {U v : S5} {d : Nat} {x y : Int32} (h : Sim U (f_Mo_give d x y (f_Mo_push v))) : Sim U (f_Mo_push (f_Mo_give d x y v)) := by
  rw [give_eq] at h ⊢
  by_cases z : d = 0
  · rw [if_pos z] at h ⊢; exact h
  · rw [if_neg z] at h ⊢
    rw [push_eq] at h ⊢
    by_cases y5 : gN v 5 = 32
    · rw [if_pos y5] at h
      rw [if_pos (show gN (sAB (uI v 2 d x) 2 _) 5 = 32 from y5)]
      obtain ⟨h1, h2, h3, h4, h5, h6, h7, h8, h9⟩ := h
      exact ⟨h1, h2, h3, h4, h5, h6, h7, h8, h9⟩
    · rw [if_neg y5] at h
      rw [if_neg (show ¬ gN (sAB (uI v 2 d x) 2 _) 5 = 32 from y5)]
      obtain ⟨h1, h2, h3, h4, h5, h6, h7, h8, h9⟩ := h
      exact ⟨h1, h2, h3, h4, h5, h6, h7, h8, h9⟩
theorem gg_5 (d : Nat) (x y : Int32) (v : S5) : gN (f_Mo_give d x y v) 5 = gN v 5 ∧ gI (f_Mo_give d x y v) 1 = gI v 1 := by
  have f := gv_fr d x y v
  exact ⟨f.2.1 5 (by decide), f.1 1 (by decide)⟩
theorem PP {U v : S5} {d : Nat} {x y : Int32} (h : Sim U (f_Mo_give d x y (if gN v 5 = 0 then v else sN v 5 (gN v 5 - 1)))) : Sim U (if gN (f_Mo_give d x y v) 5 = 0 then f_Mo_give d x y v else sN (f_Mo_give d x y v) 5 (gN (f_Mo_give d x y v) 5 - 1)) := by
  rw [(gg_5 d x y v).1]
  by_cases q : gN v 5 = 0
  · rw [if_pos q] at h ⊢; exact h
  · rw [if_neg q] at h ⊢
    rw [give_eq] at h ⊢
    by_cases z : d = 0
    · rw [if_pos z] at h ⊢; exact h
    · rw [if_neg z] at h ⊢
      obtain ⟨h1, h2, h3, h4, h5, h6, h7, h8, h9⟩ := h
      exact ⟨h1, h2, h3, h4, h5, h6, h7, h8, h9⟩
theorem g_push (x : Int32) (u : S5) : gI (f_Rp_pushReturn x u) = gI u := by unfold f_Rp_pushReturn; split <;> rfl
theorem g_pop (u : S5) : gI (f_Rp_popReturn u) = gI u := by unfold f_Rp_popReturn; split <;> rfl
theorem kind_ne : ∀ f, f < 8 → ¬ nI f = -1 := by decide +kernel
/-- what an instruction does, once its word is read -/
theorem S_perform {u v1 : S5} (h : Sim u v1) (h3 : gI u 3 = 0) (h2 : gI u 2 = gI u 0 + 4) (v : S5) {w : Int32} (hw : gI u 1 = w) : Sim (f_Ma_perform u) (oneB v w (w &&& (127 : Int32)) (f_Wo_d w) (f_Wo_f w) (f_Wo_a w) (f_Wo_b w) (f_Wo_g w) (f_Wo_immediate w) v1) := by
  have ha := a_lt w
  have hb := b_lt w
  have hf := f_lt w
  have hx1 := h.X.1
  have n2 : ¬ gI u 3 = 2 := by rw [h3]; decide
  have hnx : gI u 2 = gI v1 1 + 4 := by rw [h2, hx1]
  have da := R_ad h.R ha
  have db := R_ad h.R hb
  -- a register is put, and on
  have pt : ∀ (d : Nat) (x y : Int32) (op : Int32) (dd f a b : Nat) (g im : Int32), Sim (f_Ma_perform_258 u (f_Rg_put d x y u)) (f_Mo_one_952 v w op dd f a b g im (gI v1 1 + 4) (f_Mo_give d x y v1)) := fun d x y op dd f a b g im => S_fin (S_put h d x y) (by rw [gI_put]; exact n2) _ _ _ _ _ _ _ _ _ _ (by rw [gI_put]; exact hnx)
  have tr : ∀ q : Int32, Sim (f_Ma_perform_258 u (f_Ma_trap q u)) (f_Mo_trap q v1) := fun q => S_finT (S_trap h q) rfl
  have ot : ∀ (u1 : S5) (ok : Bool) (v2 : S5) (op : Int32) (dd f a b : Nat) (g im : Int32), Out u u1 ok v2 → Sim (f_Ma_perform_258 u u1) (if ok = true then f_Mo_one_952 v w op dd f a b g im (gI v1 1 + 4) v2 else v2) := by
    intro u1 ok v2 op dd f a b g im ho
    rcases ho with ⟨o1, o2, o3, o4⟩ | ⟨o1, o2, o3⟩
    · rw [if_pos o1]; exact S_fin o2 (by rw [o3]; exact n2) _ _ _ _ _ _ _ _ _ _ (by rw [o4]; exact hnx)
    · rw [if_neg (by rw [o1]; decide)]; exact S_finT o2 o3
  unfold f_Ma_perform oneB
  rw [hw]
  generalize hop : w &&& (127 : Int32) = op
  by_cases o3 : op = 3
  · rw [if_pos o3, if_pos o3]
    exact ot _ _ _ _ _ _ _ _ _ _ (S_load h w)
  rw [if_neg o3, if_neg o3]
  by_cases o15 : op = 15
  · rw [if_pos o15, if_pos o15]
    exact S_fin h n2 _ _ _ _ _ _ _ _ _ _ hnx
  rw [if_neg o15, if_neg o15]
  by_cases o19 : op = 19
  · rw [if_pos o19, if_pos o19]
    unfold f_Ma_reckonImmediate f_Mo_one_780 f_Mo_one_804 f_Ma_reckon f_Rk_kindOfShift
    by_cases f1 : f_Wo_f w = 1
    · rw [if_pos f1, if_pos f1, if_pos f1, f1]
      rw [if_neg (show ¬ (1 : Nat) = 5 by decide)]
      dsimp only
      by_cases g0 : f_Wo_g w = 0
      · rw [if_pos g0, if_pos g0, if_neg (by decide), if_pos rfl]
        rw [shift_i h (k := 1) (hh := 0) (Or.inl ⟨rfl, rfl⟩) _ ha hb]
        exact pt _ _ _ _ _ _ _ _ _ _
      · rw [if_neg g0, if_neg g0]
        have ek : (if f_Wo_g w = 32 then (if nI 1 = 5 then (13 : Int32) else -1) else -1) = -1 := by
          by_cases g32 : f_Wo_g w = 32
          · rw [if_pos g32, if_neg (by decide)]
          · rw [if_neg g32]
        rw [ek, if_pos rfl]
        exact tr 1
    · rw [if_neg f1, if_neg f1]
      by_cases f5 : f_Wo_f w = 5
      · rw [if_pos f5, if_pos f5, f5]
        rw [if_neg (show ¬ (5 : Nat) = 1 by decide), if_pos (show (5 : Nat) = 5 from rfl)]
        dsimp only
        rw [if_neg (show ¬ (5 : Nat) = 1 by decide)]
        by_cases g0 : f_Wo_g w = 0
        · rw [if_pos g0, if_pos g0, if_pos g0, if_neg (by decide)]
          rw [shift_i h (k := 5) (hh := 1) (Or.inr (Or.inl ⟨rfl, rfl⟩)) _ ha hb]
          exact pt _ _ _ _ _ _ _ _ _ _
        · rw [if_neg g0, if_neg g0, if_neg g0]
          by_cases g32 : f_Wo_g w = 32
          · rw [if_pos g32, if_pos g32, if_pos (show nI 5 = (5 : Int32) from rfl), if_neg (show ¬ (13 : Int32) = -1 by decide)]
            rw [shift_i h (k := 13) (hh := 2) (Or.inr (Or.inr ⟨rfl, rfl⟩)) _ ha hb]
            exact pt _ _ _ _ _ _ _ _ _ _
          · rw [if_neg g32, if_neg g32, if_pos rfl]
            exact tr 1
      · rw [if_neg f5, if_neg f5, if_neg f1, if_neg f5, if_neg (kind_ne _ hf)]
        rw [sum_eq (f_Wo_f w) false (nI (f_Wo_f w)) (by
          rcases (show f_Wo_f w = 0 ∨ f_Wo_f w = 2 ∨ f_Wo_f w = 3 ∨ f_Wo_f w = 4 ∨ f_Wo_f w = 6 ∨ f_Wo_f w = 7 by omega) with q | q | q | q | q | q <;> rw [q]
          · exact Or.inl ⟨rfl, rfl, rfl⟩
          · exact Or.inr (Or.inr (Or.inl ⟨rfl, rfl⟩))
          · exact Or.inr (Or.inr (Or.inr (Or.inl ⟨rfl, rfl⟩)))
          · exact Or.inr (Or.inr (Or.inr (Or.inr (Or.inl ⟨rfl, rfl⟩))))
          · exact Or.inr (Or.inr (Or.inr (Or.inr (Or.inr (Or.inl ⟨rfl, rfl⟩)))))
          · exact Or.inr (Or.inr (Or.inr (Or.inr (Or.inr (Or.inr ⟨rfl, rfl⟩))))))]
        rw [R_dark h.R ha, ← (h.R _ ha).1]
        exact pt _ _ _ _ _ _ _ _ _ _
  rw [if_neg o19, if_neg o19]
  by_cases o23 : op = 23
  · rw [if_pos o23, if_pos o23, hx1]
    exact pt _ _ _ _ _ _ _ _ _ _
  rw [if_neg o23, if_neg o23]
  by_cases o35 : op = 35
  · rw [if_pos o35, if_pos o35]
    unfold f_Wo_g
    rw [w_so]
    exact ot _ _ _ _ _ _ _ _ _ _ (S_store h w)
  rw [if_neg o35, if_neg o35]
  by_cases o51 : op = 51
  · rw [if_pos o51, if_pos o51]
    unfold f_Ma_reckon
    rcases both_eq h hf (f_Wo_g w) (f_Wo_d w) ha hb with ⟨k1, k2⟩ | ⟨k1, k2⟩
    · rw [k1, k2, if_pos rfl, if_neg (show ¬ ((false, v1) : Bool × S5).1 = true from (by decide : ¬ false = true))]
      exact tr 1
    · rw [k2, if_neg k1, if_pos rfl]
      exact pt _ _ _ _ _ _ _ _ _ _
  rw [if_neg o51, if_neg o51]
  by_cases o55 : op = 55
  · rw [if_pos o55, if_pos o55]
    exact pt _ _ _ _ _ _ _ _ _ _
  rw [if_neg o55, if_neg o55]
  by_cases o99 : op = 99
  · rw [if_pos o99, if_pos o99]
    unfold f_Ma_branch
    by_cases f2 : f_Wo_f w = 2
    · rw [if_pos f2, if_pos f2]; exact tr 1
    rw [if_neg f2, if_neg f2]
    by_cases f3 : f_Wo_f w = 3
    · rw [if_pos f3, if_pos f3]; exact tr 1
    rw [if_neg f3, if_neg f3]
    have key : ∀ u1 v3 : S5, Sim u1 v3 → gI u1 3 = gI u 3 → gI u1 2 = gI u 2 → Sim (f_Ma_perform_258 u (f_Ma_branch_68 w u u1)) (f_Mo_one_501 v w op (f_Wo_d w) (f_Wo_f w) (f_Wo_a w) (f_Wo_b w) (f_Wo_g w) (f_Wo_immediate w) v1 v3) := by
      intro u1 v3 hs q3 q2
      unfold f_Ma_branch_68 f_Mo_one_501
      dsimp only
      rw [br_eq hf f2 f3, w_bo, (hs.R _ ha).1, (hs.R _ hb).1]
      by_cases z : f_Ma_isTaken (nI (f_Wo_f w)) (aI v3 2 (f_Wo_a w)) (aI v3 2 (f_Wo_b w)) = true
      · rw [if_pos z, if_pos z]
        exact S_fin (S_next hs _) (by show ¬ gI u1 3 = 2; rw [q3]; exact n2) _ _ _ _ _ _ _ _ _ _ (by show gI u1 0 + _ = _; rw [hs.X.1])
      · rw [if_neg z, if_neg z]
        exact S_fin hs (by rw [q3]; exact n2) _ _ _ _ _ _ _ _ _ _ (by rw [q2]; exact hnx)
    by_cases z : (aI u 3 (f_Wo_a w) ||| aI u 3 (f_Wo_b w)) = 0
    · obtain ⟨z1, z2⟩ := or_z.mp z
      rw [if_pos z, if_neg (fun q => da.mp q z1), if_neg (fun q => db.mp q z2)]
      exact key u v1 h rfl rfl
    · rw [if_neg z]
      have e : (if (f_Mo_anyDark (f_Wo_a w) 32 v1) = true then f_Mo_one_501 v w op (f_Wo_d w) (f_Wo_f w) (f_Wo_a w) (f_Wo_b w) (f_Wo_g w) (f_Wo_immediate w) v1 (f_Mo_fault 2 0 v1) else if (f_Mo_anyDark (f_Wo_b w) 32 v1) = true then f_Mo_one_501 v w op (f_Wo_d w) (f_Wo_f w) (f_Wo_a w) (f_Wo_b w) (f_Wo_g w) (f_Wo_immediate w) v1 (f_Mo_fault 2 0 v1) else f_Mo_one_501 v w op (f_Wo_d w) (f_Wo_f w) (f_Wo_a w) (f_Wo_b w) (f_Wo_g w) (f_Wo_immediate w) v1 v1) = f_Mo_one_501 v w op (f_Wo_d w) (f_Wo_f w) (f_Wo_a w) (f_Wo_b w) (f_Wo_g w) (f_Wo_immediate w) v1 (f_Mo_fault 2 0 v1) := by
        by_cases z1 : aI u 3 (f_Wo_a w) = 0
        · rw [if_neg (fun q => da.mp q z1), if_pos (db.mpr (fun z2 => z (or_z.mpr ⟨z1, z2⟩)))]
        · rw [if_pos (da.mpr z1)]
      rw [e]
      have f := nt_fr 2 (gI u 0) 0 u
      exact key _ _ (S_note h (by decide) 0) (f.1 3 (by decide)) (f.1 2 (by decide))
  rw [if_neg o99, if_neg o99]
  by_cases o103 : op = 103
  · rw [if_pos o103, if_pos o103]
    unfold f_Ma_jumpToRegister
    by_cases f0 : f_Wo_f w = 0
    · rw [if_pos f0, if_pos f0]
      have key : ∀ u1 v3 : S5, Sim u1 v3 → gI u1 3 = gI u 3 → Sim (f_Ma_perform_258 u (f_Ma_jumpToRegister_68 w u u1)) (f_Mo_one_401 v w op (f_Wo_d w) (f_Wo_f w) (f_Wo_a w) (f_Wo_b w) (f_Wo_g w) (f_Wo_immediate w) v1 v3) := by
        intro u1 v3 hs q3
        have q1 := hs.X.1
        unfold f_Ma_jumpToRegister_68 f_Mo_one_401 f_Ma_jumpToRegister_101
        rw [(h.R _ ha).1]
        by_cases d1 : f_Wo_d w = 1
        · rw [if_pos d1, if_pos d1, g_push]
          refine S_fin (S_next (PG ?_) _) ?_ _ _ _ _ _ _ _ _ _ _ rfl
          · rw [← q1]; exact S_put (S_push hs) _ _ _
          · show ¬ gI (f_Rg_put _ _ _ _) 3 = 2
            rw [gI_put, g_push, q3]; exact n2
        · rw [if_neg d1, if_neg d1]
          by_cases a1 : f_Wo_a w = 1
          · rw [if_pos a1, if_pos a1, g_pop]
            have hp : Sim (f_Rg_put (f_Wo_d w) (gI u1 0 + 4) 0 (f_Rp_popReturn u1)) (if gN (f_Mo_give (f_Wo_d w) (gI v3 1 + 4) 0 v3) 5 = 0 then f_Mo_give (f_Wo_d w) (gI v3 1 + 4) 0 v3 else sN (f_Mo_give (f_Wo_d w) (gI v3 1 + 4) 0 v3) 5 (gN (f_Mo_give (f_Wo_d w) (gI v3 1 + 4) 0 v3) 5 - 1)) := by
              refine PP ?_
              rw [← q1]; exact S_put (S_pop hs) _ _ _
            have hq : ¬ gI (sI (f_Rg_put (f_Wo_d w) (gI u1 0 + 4) 0 (f_Rp_popReturn u1)) 2 ((aI v1 2 (f_Wo_a w) + f_Wo_immediate w) &&& (-2 : Int32))) 3 = 2 := by
              show ¬ gI (f_Rg_put _ _ _ _) 3 = 2
              rw [gI_put, g_pop, q3]; exact n2
            by_cases z : gN (f_Mo_give (f_Wo_d w) (gI v3 1 + 4) 0 v3) 5 = 0
            · rw [if_pos z] at hp ⊢
              exact S_fin (S_next hp _) hq _ _ _ _ _ _ _ _ _ _ rfl
            · rw [if_neg z] at hp ⊢
              exact S_fin (S_next hp _) hq _ _ _ _ _ _ _ _ _ _ rfl
          · rw [if_neg a1, if_neg a1]
            refine S_fin (S_next (v := f_Mo_give (f_Wo_d w) (gI v3 1 + 4) 0 v3) ?_ _) ?_ _ _ _ _ _ _ _ _ _ _ rfl
            · rw [← q1]; exact S_put hs _ _ _
            · show ¬ gI (f_Rg_put _ _ _ _) 3 = 2
              rw [gI_put, q3]; exact n2
      by_cases z : aI u 3 (f_Wo_a w) = 0
      · rw [if_pos z, if_neg (fun q => da.mp q z)]
        exact key u v1 h rfl
      · rw [if_neg z, if_pos (da.mpr z), (h.R _ ha).1]
        have f := nt_fr 3 (gI u 0) ((aI v1 2 (f_Wo_a w) + f_Wo_immediate w) &&& (-2 : Int32)) u
        exact key _ _ (S_note h (by decide) _) (f.1 3 (by decide))
    · rw [if_neg f0, if_neg f0]; exact tr 1
  rw [if_neg o103, if_neg o103]
  by_cases o111 : op = 111
  · rw [if_pos o111, if_pos o111, w_jo]
    unfold f_Ma_jump f_Ma_jump_23
    by_cases d1 : f_Wo_d w = 1
    · rw [if_pos d1, if_pos d1]
      have hp : Sim (f_Rg_put (f_Wo_d w) (gI (f_Rp_pushReturn (gI u 0 + 4) u) 0 + 4) 0 (f_Rp_pushReturn (gI u 0 + 4) u)) (f_Mo_push (f_Mo_give (f_Wo_d w) (gI v1 1 + 4) 0 v1)) := by
        refine PG ?_
        rw [g_push, ← hx1]; exact S_put (S_push h) _ _ _
      refine S_fin (S_next hp _) ?_ _ _ _ _ _ _ _ _ _ _ ?_
      · show ¬ gI (f_Rg_put _ _ _ _) 3 = 2
        rw [gI_put, g_push]; exact n2
      · show gI (f_Rg_put _ _ _ _) 0 + _ = _
        rw [hp.X.1]
    · rw [if_neg d1, if_neg d1]
      have hp : Sim (f_Rg_put (f_Wo_d w) (gI u 0 + 4) 0 u) (f_Mo_give (f_Wo_d w) (gI v1 1 + 4) 0 v1) := by
        rw [← hx1]; exact S_put h _ _ _
      refine S_fin (S_next hp _) ?_ _ _ _ _ _ _ _ _ _ _ ?_
      · show ¬ gI (f_Rg_put _ _ _ _) 3 = 2
        rw [gI_put]; exact n2
      · show gI (f_Rg_put _ _ _ _) 0 + _ = _
        rw [hp.X.1]
  rw [if_neg o111, if_neg o111]
  by_cases o115 : op = 115
  · rw [if_pos o115, if_pos o115]
    by_cases w1 : w = 115
    · rw [if_pos w1, w1]
      rcases S_call h h3 with ⟨c1, c2, c3, c4⟩ | ⟨c1, c2, c3, c4⟩
      · rw [if_pos c1]
        unfold f_Ma_perform_258
        rw [if_neg (by rw [c3]; decide), c4]
        obtain ⟨h1, h2, h3, h4, h5, h6, h7, h8, h9⟩ := c2
        refine ⟨h1, h2, h3, h4, h5, h6, ⟨h7.1, h7.2.1, h7.2.2.1, ?_⟩, h8, h9⟩
        show gI (f_Ma_callOrBreak 115 u) 5 + 1 = gI (f_Mo_call v1) 4 + 1
        rw [h7.2.2.2]
      · rw [if_neg c1]
        exact S_fin c2 (by rw [c3]; decide) _ _ _ _ _ _ _ _ _ _ (by rw [c4]; exact hnx)
    · rw [if_neg w1]
      unfold f_Ma_callOrBreak
      rw [if_neg w1]
      exact tr _
  rw [if_neg o115, if_neg o115]
  exact tr 1
