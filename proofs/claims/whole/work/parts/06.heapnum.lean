theorem hp_n {n : Int32} (h : ¬ n < 0) : n = nI n.toNatClampNeg := by
  obtain ⟨j, hj, rfl⟩ := nI_of h
  rw [nI_clamp hj]
theorem hp_nle {n : Int32} {M : Nat} {K : Int32} (hM : M < 2 ^ 31) (hK : K = nI M) (h : ¬ n < 0) (h2 : n ≤ K) : n.toNatClampNeg ≤ M := by
  obtain ⟨j, hj, rfl⟩ := nI_of h
  rw [nI_clamp hj]
  rw [hK] at h2
  exact (nI_leI hj hM).mp h2
theorem hp_a {a : Int32} (h1 : ¬ a < 32768) (h2 : ¬ 57344 ≤ a) : ∃ j : Nat, 32768 ≤ j ∧ j < 57344 ∧ a = nI j := by
  have h0 : ¬ a < 0 := fun h => h1 (Int32.lt_trans h (by decide))
  obtain ⟨j, hj, rfl⟩ := nI_of h0
  have e1 : (32768 : Int32) = nI 32768 := by decide
  have e2 : (57344 : Int32) = nI 57344 := by decide
  rw [e1, nI_ltI hj (by decide)] at h1
  rw [e2, nI_leI (by decide) hj] at h2
  exact ⟨j, by omega, by omega, rfl⟩
/-- the unit of an address -/
def hu (a : Int32) : Nat := (a.toNatClampNeg - 32768) / 16
theorem hp_q {a : Int32} (h1 : ¬ a < 32768) (h2 : ¬ 57344 ≤ a) : (a - (32768 : Int32)) / (16 : Int32) = nI (hu a) := by
  obtain ⟨j, h3, h4, rfl⟩ := hp_a h1 h2
  unfold hu
  rw [nI_clamp (by omega)]
  have e1 : (32768 : Int32) = nI 32768 := by decide
  have e2 : (16 : Int32) = nI 16 := by decide
  rw [e1, pk_sub (by omega), e2, pk_div (by omega) (by omega) (by omega)]
theorem hp_b {a : Int32} (h1 : ¬ a < 32768) (h2 : ¬ 57344 ≤ a) : hu a < 1536 := by
  obtain ⟨j, h3, h4, rfl⟩ := hp_a h1 h2
  unfold hu
  rw [nI_clamp (by omega)]
  omega
theorem fd_n {o : Nat} (h : o ≤ 1536) : nI o - (1 : Int32) < 0 ↔ o = 0 := by
  constructor
  · intro q
    rcases Nat.eq_zero_or_pos o with h0 | h0
    · exact h0
    · exfalso
      have e1 : (1 : Int32) = nI 1 := by decide
      rw [e1, pk_sub h0] at q
      exact nI_pos (by omega) q
  · intro q; subst q; decide
theorem fd_s {o : Nat} (h : 1 ≤ o) : nI o - (1 : Int32) = nI (o - 1) := by
  have e1 : (1 : Int32) = nI 1 := by decide
  rw [e1, pk_sub h]
