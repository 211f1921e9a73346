theorem ft_l101 (q v : Int32) (u : S5) : ∀ (k i : Nat) (u1 : S5), FrM [5] [6] [6, 7, 8, 9] [] [] u1 (f_Mo_fault_101 q v u k i u1) ∧ gN (f_Mo_fault_101 q v u k i u1) 6 ≤ gN u1 6 + 1 := by
  intro k
  induction k with
  | zero => intro i u1; exact ⟨FrM.rf, Nat.le_succ _⟩
  | succ k ih =>
    intro i u1
    unfold f_Mo_fault_101
    split
    · dsimp only
      exact ⟨FrM.tr (FrM.uI _ _ _ _ (by decide)) (ih _ _).1, (ih _ _).2⟩
    · exact ⟨FrM.sN _ _ _ (by decide), Nat.le_refl _⟩
theorem ft_56 (q v : Int32) (u : S5) : FrM [5] [6] [6, 7, 8, 9] [] [] u (f_Mo_fault_56 q v u) ∧ (gN u 6 ≤ 60 → gN (f_Mo_fault_56 q v u) 6 ≤ 60) := by
  unfold f_Mo_fault_56
  split
  · exact ⟨FrM.sI _ _ _ (by decide), fun h => h⟩
  · rename_i h0
    obtain ⟨h1, h2⟩ := ft_l101 q v u 5 0 (uI (uI (uI (sI u 5 ((gI u 5) + (1 : Int32))) 6 (gN u 6) q) 7 (gN u 6) (gI u 1)) 8 (gN u 6) v)
    refine ⟨FrM.tr (FrM.sI _ _ _ (by decide)) (FrM.tr (FrM.uI _ _ _ _ (by decide)) (FrM.tr (FrM.uI _ _ _ _ (by decide)) (FrM.tr (FrM.uI _ _ _ _ (by decide)) h1))), fun h => ?_⟩
    have e : gN (uI (uI (uI (sI u 5 ((gI u 5) + (1 : Int32))) 6 (gN u 6) q) 7 (gN u 6) (gI u 1)) 8 (gN u 6) v) 6 = gN u 6 := rfl
    omega
theorem ft_18 (q v : Int32) (u : S5) : ∀ (k j : Nat), FrM [5] [6] [6, 7, 8, 9] [] [] u (f_Mo_fault_18 q v u k j) ∧ (gN u 6 ≤ 60 → gN (f_Mo_fault_18 q v u k j) 6 ≤ 60) := by
  intro k
  induction k with
  | zero => intro j; exact ⟨FrM.rf, fun h => h⟩
  | succ k ih =>
    intro j
    unfold f_Mo_fault_18
    split
    · split
      · split
        · exact ⟨FrM.sI _ _ _ (by decide), fun h => h⟩
        · exact ih _
      · exact ih _
    · exact ft_56 q v u
theorem ft_fr (q v : Int32) (u : S5) : FrM [5] [6] [6, 7, 8, 9] [] [] u (f_Mo_fault q v u) := by
  unfold f_Mo_fault
  split
  · exact (ft_56 q v u).1
  · exact (ft_18 q v u _ _).1
theorem ft_ok (q v : Int32) {u : S5} (h : OkE u) : OkE (f_Mo_fault q v u) := by
  refine ⟨?_, by rw [(ft_fr q v u).2.1 5 (by decide)]; exact h.2⟩
  unfold f_Mo_fault
  split
  · exact (ft_56 q v u).2 h.1
  · exact (ft_18 q v u _ _).2 h.1
theorem pd_s {q : Int32} (h : ¬ q = 0) : ¬ q.toInt64 = 0 := by
  intro e
  apply h
  apply Int32.toInt_inj.mp
  have := congrArg Int64.toInt e
  rw [Int32.toInt_toInt64] at this
  rw [this]; decide
theorem pd_n (q : Int32) : q.toInt64 &&& 4294967295 = lN q.toBitVec.toNat := by
  have e : (4294967295 : Int64) = lN (2 ^ 32 - 1) := by decide
  apply Int64.toBitVec_inj.mp
  rw [Int64.toBitVec_and]
  apply BitVec.eq_of_toNat_eq
  rw [BitVec.toNat_and]
  have e2 : (4294967295 : Int64).toBitVec.toNat = 2 ^ 32 - 1 := by decide
  rw [e2, Nat.and_two_pow_sub_one_eq_mod]
  show (q.toBitVec.signExtend 64).toNat % 2 ^ 32 = (BitVec.ofNat 64 q.toBitVec.toNat).toNat
  have hq : q.toBitVec.toNat < 2 ^ 32 := q.toBitVec.isLt
  rw [BitVec.toNat_ofNat, Nat.mod_eq_of_lt (by omega : q.toBitVec.toNat < 2 ^ 64)]
  rw [← BitVec.toNat_setWidth]
  congr 1
  apply BitVec.eq_of_getLsbD_eq
  intro i hi
  rw [BitVec.getLsbD_setWidth, BitVec.getLsbD_signExtend]
  simp [hi, show i < 64 by omega]
theorem pd_u {q : Int32} (h : ¬ q = 0) : ¬ (q.toInt64 &&& 4294967295) = 0 := by
  rw [pd_n]
  intro e
  apply h
  apply Int32.toBitVec_inj.mp
  apply BitVec.eq_of_toNat_eq
  have hq : q.toBitVec.toNat < 2 ^ 32 := q.toBitVec.isLt
  have e2 := congrArg (fun x : Int64 => x.toBitVec.toNat) e
  have e3 : (lN q.toBitVec.toNat).toBitVec.toNat = q.toBitVec.toNat := by
    show (BitVec.ofNat 64 q.toBitVec.toNat).toNat = _
    rw [BitVec.toNat_ofNat, Nat.mod_eq_of_lt (by omega)]
  rw [e3] at e2
  rw [e2]; rfl
theorem by_in {at_ : Int32} {n : Nat} (hn : n ≤ 65536) (h : ¬ f_Mo_beyond at_ n = true) : ¬ at_ < 0 ∧ at_.toNatClampNeg + n ≤ 65536 := by
  unfold f_Mo_beyond at h
  by_cases h1 : at_ < 0
  · rw [if_pos h1] at h; exact absurd rfl h
  · rw [if_neg h1] at h
    by_cases h2 : at_ ≤ nI (65536 - n)
    · have := hp_nle (M := 65536 - n) (by omega) rfl h1 h2
      exact ⟨h1, by omega⟩
    · rw [if_neg h2] at h; exact absurd rfl h
