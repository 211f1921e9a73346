-- ===== the reference's err: nothing inside a run touches it
def E0 (v w : S5) : Prop := gI w 0 = gI v 0
theorem E0.rf {v : S5} : E0 v v := rfl
theorem E0.tr {u v w : S5} (h1 : E0 u v) (h2 : E0 v w) : E0 u w := Eq.trans h2 h1
theorem E0.of {ci cn ca cb cz : List Nat} {v w : S5} (h : FrM ci cn ca cb cz v w) (h0 : 0 ∉ ci) : E0 v w := h.1 0 h0
theorem E0.ite {v a b : S5} {p : Prop} [Decidable p] (h1 : E0 v a) (h2 : E0 v b) : E0 v (if p then a else b) := by
  by_cases h : p
  · rw [if_pos h]; exact h1
  · rw [if_neg h]; exact h2
theorem e_give (r : Nat) (a w : Int32) (v : S5) : E0 v (f_Mo_give r a w v) := E0.of (gv_fr r a w v) (by decide)
theorem e_fault (q x : Int32) (v : S5) : E0 v (f_Mo_fault q x v) := E0.of (ft_fr q x v) (by decide)
theorem e_push (v : S5) : E0 v (f_Mo_push v) := by
  rw [push_eq]; split <;> rfl
theorem e_b110 (n : Int32) (u : S5) (at_ i : Nat) : ∀ (k j : Nat) (u2 : S5), E0 u2 (f_Mo_block_110 n u at_ i k j u2)
  | 0, j, u2 => rfl
  | k + 1, j, u2 => by
    unfold f_Mo_block_110
    split
    · exact e_b110 n u at_ i k (j + 1) _
    · rfl
theorem e_b91 (n : Int32) (u : S5) (at_ : Nat) : ∀ (k i : Nat) (u1 : S5), E0 u1 (f_Mo_block_91 n u at_ k i u1).2
  | 0, i, u1 => rfl
  | k + 1, i, u1 => by
    unfold f_Mo_block_91
    split
    · exact E0.tr (v := f_Mo_block_110 n u at_ i 9 0 (uB u1 0 i true)) (e_b110 n u at_ i 9 0 (uB u1 0 i true)) (e_b91 n u at_ k (i + 1) _)
    · rfl
theorem e_b21 (n : Int32) (u : S5) : ∀ (k at_ : Nat), E0 u (f_Mo_block_21 n u k at_).2
  | 0, at_ => rfl
  | k + 1, at_ => by
    unfold f_Mo_block_21
    split
    · split
      · exact e_b21 n u k _
      · split
        · exact e_b21 n u k _
        · exact e_b91 n u at_ _ _ _
    · rfl
theorem e_block (n : Int32) (v : S5) : E0 v (f_Mo_block n v).2 := by
  unfold f_Mo_block
  split
  · rfl
  · split
    · exact e_b21 n v _ _
    · rfl
theorem e_c35 (at_ : Nat) (u : S5) (kx i : Nat) : ∀ (k j : Nat) (u2 : S5), E0 u2 (f_Mo_back_35 at_ u kx i k j u2)
  | 0, j, u2 => rfl
  | k + 1, j, u2 => by
    unfold f_Mo_back_35
    split
    · exact e_c35 at_ u kx i k (j + 1) _
    · rfl
theorem e_c16 (at_ : Nat) (u : S5) (kx : Nat) : ∀ (k i : Nat) (u1 : S5), E0 u1 (f_Mo_back_16 at_ u kx k i u1)
  | 0, i, u1 => rfl
  | k + 1, i, u1 => by
    unfold f_Mo_back_16
    split
    · exact E0.tr (v := f_Mo_back_35 at_ u kx i 9 0 (uB u1 0 i false)) (e_c35 at_ u kx i 9 0 (uB u1 0 i false)) (e_c16 at_ u kx k (i + 1) _)
    · rfl
theorem e_c148 (at_ : Nat) (u : S5) (kx : Nat) (u3 : S5) : ∀ (k i : Nat) (u4 : S5), E0 u4 (f_Mo_back_148 at_ u kx u3 k i u4)
  | 0, i, u4 => rfl
  | k + 1, i, u4 => by
    unfold f_Mo_back_148
    split
    · exact e_c148 at_ u kx u3 k (i + 1) _
    · rfl
theorem e_c135 (at_ : Nat) (u : S5) (kx : Nat) : ∀ (k : Nat) (u3 : S5), E0 u3 (f_Mo_back_135 at_ u kx k u3)
  | 0, u3 => rfl
  | k + 1, u3 => by
    unfold f_Mo_back_135
    split
    · rfl
    · exact E0.tr (v := f_Mo_back_148 at_ u kx u3 (gN u3 1 + 1) 1 u3) (e_c148 at_ u kx u3 _ _ u3) (e_c135 at_ u kx k _)
theorem e_back (at_ : Nat) (v : S5) : E0 v (f_Mo_back at_ v) := by
  unfold f_Mo_back
  exact E0.tr (e_c16 at_ v _ _ _ v) (e_c135 at_ v _ _ _)
theorem e_a82 (a n : Int32) (u : S5) (kx i : Nat) : ∀ (k j : Nat) (u3 : S5), E0 u3 (f_Mo_again_82 a n u kx i k j u3)
  | 0, j, u3 => rfl
  | k + 1, j, u3 => by
    unfold f_Mo_again_82
    split
    · exact e_a82 a n u kx i k (j + 1) _
    · rfl
theorem e_a48 (a n : Int32) (u : S5) (kx : Nat) : ∀ (k i : Nat) (u2 : S5), E0 u2 (f_Mo_again_48 a n u kx k i u2)
  | 0, i, u2 => rfl
  | k + 1, i, u2 => by
    unfold f_Mo_again_48
    split
    · split
      · exact E0.tr (v := f_Mo_again_82 a n u kx i 9 0 (uI u2 1 ((f_Mo_block n u).1 + i) (aI u2 1 (a.toNatClampNeg + i)))) (e_a82 a n u kx i 9 0 (uI u2 1 ((f_Mo_block n u).1 + i) (aI u2 1 (a.toNatClampNeg + i)))) (e_a48 a n u kx k (i + 1) _)
      · rfl
    · rfl
theorem e_live (a : Int32) (v : S5) : E0 v (f_Mo_isLive a v).2 := by
  unfold f_Mo_isLive
  split
  · exact e_fault _ _ _
  · rfl
theorem e_again (a n : Int32) (v : S5) : E0 v (f_Mo_again a n v).2 := by
  unfold f_Mo_again
  split
  · exact e_block n v
  · split
    · dsimp only
      split
      · exact e_block n v
      · exact E0.tr (E0.tr (e_block n v) (e_a48 a n v _ _ _ _)) (e_back _ _)
    · exact e_live a v
theorem e_l33 (u u2 : S5) : ∀ (k j : Nat) (mr : Bool) (u3 : S5), E0 u3 (f_Mo_lost_33 u u2 k j mr u3).2
  | 0, j, mr, u3 => rfl
  | k + 1, j, mr, u3 => by
    unfold f_Mo_lost_33
    split
    · split
      · exact e_l33 u u2 k (j + 1) mr u3
      · split
        · exact e_l33 u u2 k (j + 1) true (uB u3 3 j true)
        · exact e_l33 u u2 k (j + 1) mr u3
    · rfl
theorem e_l25 (u : S5) : ∀ (k : Nat) (m : Bool) (u2 : S5), E0 u2 (f_Mo_lost_25 u k m u2)
  | 0, m, u2 => rfl
  | k + 1, m, u2 => by
    unfold f_Mo_lost_25
    split
    · exact E0.tr (e_l33 u u2 _ _ _ u2) (e_l25 u k _ _)
    · rfl
theorem e_lost (v : S5) : E0 v (f_Mo_lost v) := by
  unfold f_Mo_lost
  exact E0.tr (E0.tr (E0.of (p_2 v _ _ v (by omega)).1 (by decide)) (e_l25 v _ _ _)) (E0.of (l78_fr v _ _ _) (by decide))
theorem e_c113 (u : S5) (nn : Int32) (x1 x2 : Bool) (v : S5) : E0 v (f_Mo_call_113 u nn x1 x2 v) := by
  unfold f_Mo_call_113
  split
  · exact E0.tr (v := sI (sI v 2 1) 3 (aI v 2 10)) rfl (e_lost _)
  split
  · exact E0.tr (e_block _ v) (e_give _ _ _ _)
  split
  · split
    · rfl
    · split
      · exact e_back _ _
      · exact e_live _ _
  split
  · exact E0.tr (e_again _ _ v) (e_give _ _ _ _)
  split
  · split <;> rfl
  split
  · split
    · exact E0.tr (v := sN v 3 (gN v 3 + 1)) rfl (e_give _ _ _ _)
    · exact e_give _ _ _ _
  · exact e_give _ _ _ _
theorem e_c91 (u : S5) (nn : Int32) (x1 x2 : Bool) : E0 u (f_Mo_call_91 u nn x1 x2) := by
  unfold f_Mo_call_91
  split
  · split
    · exact E0.tr (e_fault _ _ _) (e_c113 _ _ _ _ _)
    · exact e_c113 _ _ _ _ _
  · exact e_c113 _ _ _ _ _
theorem e_call (v : S5) : E0 v (f_Mo_call v) := by
  unfold f_Mo_call
  dsimp only
  exact E0.ite (E0.tr (e_fault _ _ _) (e_c113 _ _ _ _ _)) (E0.ite (E0.ite (E0.tr (e_fault _ _ _) (e_c113 _ _ _ _ _)) (e_c91 _ _ _ _)) (e_c91 _ _ _ _))
theorem e_104 (f d a : Nat) (at_ : Int32) (u : S5) (n : Nat) (u1 u2 : S5) : E0 u2 (f_Mo_reads_104 f d a at_ u n u1 u2).2 := by
  unfold f_Mo_reads_104 f_Mo_reads_233
  dsimp only
  split <;> exact e_give _ _ _ _
theorem e_65 (f d a : Nat) (at_ : Int32) (u : S5) (n : Nat) (u1 : S5) : E0 u1 (f_Mo_reads_65 f d a at_ u n u1).2 := by
  unfold f_Mo_reads_65
  split
  · rfl
  · split
    · exact e_104 _ _ _ _ _ _ _ _
    · exact E0.tr (e_fault _ _ _) (e_104 _ _ _ _ _ _ _ _)
theorem e_reads (f d a : Nat) (at_ : Int32) (v : S5) : E0 v (f_Mo_reads f d a at_ v).2 := by
  unfold f_Mo_reads
  split
  · rfl
  · split
    · dsimp only
      split
      · exact E0.tr (e_fault _ _ _) (e_65 _ _ _ _ _ _ _)
      · exact e_65 _ _ _ _ _ _ _
    · rfl
theorem e_two (v : S5) (f : Nat → Int32) (g : Nat → Bool) : E0 v (two v f g) := rfl
theorem e_73 (f a b : Nat) (at_ : Int32) (u u1 u2 : S5) : E0 u2 (f_Mo_stores_73 f a b at_ u u1 u2).2 := by
  rw [stores_eq]
  exact e_two u2 _ _
theorem e_34 (f a b : Nat) (at_ : Int32) (u u1 : S5) : E0 u1 (f_Mo_stores_34 f a b at_ u u1).2 := by
  unfold f_Mo_stores_34
  split
  · rfl
  · split
    · exact e_73 _ _ _ _ _ _ _
    · exact E0.tr (e_fault _ _ _) (e_73 _ _ _ _ _ _ _)
theorem e_stores (f a b : Nat) (at_ : Int32) (v : S5) : E0 v (f_Mo_stores f a b at_ v).2 := by
  unfold f_Mo_stores
  split
  · split
    · exact E0.tr (e_fault _ _ _) (e_34 _ _ _ _ _ _)
    · exact e_34 _ _ _ _ _ _
  · rfl
theorem e_sum1 (f : Int32) (mi : Bool) (d : Nat) (a da b db : Int32) (v : S5) : E0 v (f_Mo_sum1 f mi d a da b db v) := by
  have h204 : E0 v (f_Mo_sum1_204 f mi d a da b db v) := by
    unfold f_Mo_sum1_204 f_Mo_sum1_342
    exact e_give _ _ _ _
  unfold f_Mo_sum1 f_Mo_sum1_342
  exact E0.ite (e_give _ _ _ _) (E0.ite h204 (E0.ite (e_give _ _ _ _) (E0.ite (e_give _ _ _ _) (E0.ite (e_give _ _ _ _) h204))))
theorem e_shift (h : Int32) (d a b : Nat) (rg : Bool) (v : S5) : E0 v (f_Mo_shift h d a b rg v) := by
  have h89 : ∀ x, E0 v (f_Mo_shift_89 h d a b rg v x) := fun x => by
    unfold f_Mo_shift_89
    exact E0.ite (e_give _ _ _ _) (E0.ite (e_give _ _ _ _) (e_give _ _ _ _))
  unfold f_Mo_shift
  exact E0.ite (E0.ite (e_give _ _ _ _) (h89 _)) (h89 _)
theorem E0.itp {v : S5} {a b : Bool × S5} {p : Prop} [Decidable p] (h1 : E0 v a.2) (h2 : E0 v b.2) : E0 v (if p then a else b).2 := by
  by_cases h : p
  · rw [if_pos h]; exact h1
  · rw [if_neg h]; exact h2
theorem e_both (f g : Int32) (d a b : Nat) (v : S5) : E0 v (f_Mo_both f g d a b v).2 := by
  have h90 : E0 v (f_Mo_both_90 f g d a b v).2 := by
    unfold f_Mo_both_90
    refine E0.itp ?_ (E0.itp ?_ ?_)
    · show E0 v (f_Mo_shift 0 d a b true v)
      exact e_shift _ _ _ _ _ _
    · show E0 v (f_Mo_shift (if g = 0 then 1 else 2) d a b true v)
      exact e_shift _ _ _ _ _ _
    · show E0 v (f_Mo_sum1 f (if g = 32 then true else false) d (aI v 2 a) (f_Mo_dark a v) (aI v 2 b) (f_Mo_dark b v) v)
      exact e_sum1 _ _ _ _ _ _ _ _
  unfold f_Mo_both
  refine E0.itp ?_ (E0.itp h90 (E0.itp (E0.itp h90 (E0.itp h90 E0.rf)) E0.rf))
  dsimp only
  exact e_give _ _ _ _
theorem e_o95 (v : S5) (w op : Int32) (d f a b : Nat) (g im : Int32) : ∀ (k i : Nat), E0 v (f_Mo_one_95 v w op d f a b g im k i)
  | 0, i => rfl
  | k + 1, i => by
    unfold f_Mo_one_95
    split
    · split
      · exact e_o95 v w op d f a b g im k (i + 1)
      · exact e_fault _ _ _
    · rfl
theorem e_952 (u : S5) (w op : Int32) (d f a b : Nat) (g im nx : Int32) (v : S5) : E0 v (f_Mo_one_952 u w op d f a b g im nx v) := rfl
theorem e_oneB (u : S5) (w op : Int32) (d f a b : Nat) (g im : Int32) (v : S5) : E0 v (oneB u w op d f a b g im v) := by
  have h804 : E0 v (f_Mo_one_804 u w op d f a b g im v) := by
    unfold f_Mo_one_804
    dsimp only
    split
    · exact E0.tr (e_shift _ _ _ _ _ _) (e_952 _ _ _ _ _ _ _ _ _ _ _)
    · split
      · exact E0.tr (e_shift _ _ _ _ _ _) (e_952 _ _ _ _ _ _ _ _ _ _ _)
      · exact E0.tr (e_sum1 _ _ _ _ _ _ _ _) (e_952 _ _ _ _ _ _ _ _ _ _ _)
  have h780 : E0 v (f_Mo_one_780 u w op d f a b g im v) := by
    unfold f_Mo_one_780
    split
    · split
      · exact h804
      · split
        · exact h804
        · rfl
    · exact h804
  have h501 : ∀ u3, E0 v u3 → E0 v (f_Mo_one_501 u w op d f a b g im v u3) := fun u3 h3 => by
    unfold f_Mo_one_501
    dsimp only
    exact E0.ite (E0.tr h3 (e_952 _ _ _ _ _ _ _ _ _ _ _)) (E0.tr h3 (e_952 _ _ _ _ _ _ _ _ _ _ _))
  have h401 : ∀ u3, E0 v u3 → E0 v (f_Mo_one_401 u w op d f a b g im v u3) := fun u3 h3 => by
    unfold f_Mo_one_401
    have hg := E0.tr h3 (e_give d (gI u3 1 + 4) 0 u3)
    split
    · exact E0.tr (E0.tr hg (e_push _)) (e_952 _ _ _ _ _ _ _ _ _ _ _)
    · split
      · split
        · exact E0.tr hg (e_952 _ _ _ _ _ _ _ _ _ _ _)
        · exact E0.tr hg rfl
      · exact E0.tr hg (e_952 _ _ _ _ _ _ _ _ _ _ _)
  have ht : ∀ q : Int32, E0 v (f_Mo_trap q v) := fun _ => rfl
  unfold oneB
  refine E0.ite (E0.ite (E0.tr (e_reads _ _ _ _ v) (e_952 _ _ _ _ _ _ _ _ _ _ _)) (e_reads _ _ _ _ v)) ?_
  refine E0.ite (e_952 _ _ _ _ _ _ _ _ _ _ _) ?_
  refine E0.ite (E0.ite (E0.ite h780 (ht 1)) h780) ?_
  refine E0.ite (E0.tr (e_give _ _ _ v) (e_952 _ _ _ _ _ _ _ _ _ _ _)) ?_
  refine E0.ite (E0.ite (E0.tr (e_stores _ _ _ _ v) (e_952 _ _ _ _ _ _ _ _ _ _ _)) (e_stores _ _ _ _ v)) ?_
  refine E0.ite (E0.ite (E0.tr (e_both _ _ _ _ _ v) (e_952 _ _ _ _ _ _ _ _ _ _ _)) (E0.tr (e_both _ _ _ _ _ v) (show E0 _ (f_Mo_trap 1 _) from rfl))) ?_
  refine E0.ite (E0.tr (e_give _ _ _ v) (e_952 _ _ _ _ _ _ _ _ _ _ _)) ?_
  refine E0.ite (E0.ite (ht 1) (E0.ite (ht 1) (E0.ite (h501 _ (e_fault _ _ _)) (E0.ite (h501 _ (e_fault _ _ _)) (h501 _ E0.rf))))) ?_
  refine E0.ite (E0.ite (E0.ite (h401 _ (e_fault _ _ _)) (h401 _ E0.rf)) (ht 1)) ?_
  refine E0.ite (E0.ite (E0.tr (E0.tr (e_give _ _ _ v) (e_push _)) (e_952 _ _ _ _ _ _ _ _ _ _ _)) (E0.tr (e_give _ _ _ v) (e_952 _ _ _ _ _ _ _ _ _ _ _))) ?_
  refine E0.ite (E0.ite (E0.ite (E0.tr (e_call v) (show E0 _ (sI _ 4 _) from rfl)) (E0.tr (e_call v) (e_952 _ _ _ _ _ _ _ _ _ _ _))) (ht _)) (ht 1)
theorem one_err (v : S5) : gI (f_Mo_one v) 0 = gI v 0 := by
  by_cases z1 : (gI v 1 &&& (3 : Int32)) = 0
  · by_cases z2 : gI v 1 < 0
    · unfold f_Mo_one; rw [if_pos z1, if_pos z2]; rfl
    · by_cases z3 : gI v 1 ≤ 65532
      · obtain ⟨op, d, f, a, b, g, im, e1⟩ := one_eq z1 z2 z3
        rw [e1]
        exact E0.tr (e_o95 v _ op d f a b g im 5 0) (e_oneB _ _ _ _ _ _ _ _ _ _)
      · unfold f_Mo_one; rw [if_pos z1, if_neg z2, if_neg z3]; rfl
  · unfold f_Mo_one; rw [if_neg z1]; rfl
