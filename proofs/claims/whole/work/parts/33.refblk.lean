def OkL (u : S5) : Prop := gN u 0 ≤ 799 ∧ gN u 1 ≤ 799 ∧ (∀ k, k < gN u 0 → 32768 ≤ aN u 0 k ∧ aN u 0 k + aN u 1 k ≤ 57344) ∧ ∀ k, k < gN u 1 → aN u 2 k ≤ 57344 ∧ aN u 3 k ≤ 16384
theorem OkL.fm {ci cn ca cb cz : List Nat} {u v : S5} (h : OkL u) (f : FrM ci cn ca cb cz u v) (h1 : 0 ∉ cn ∧ 1 ∉ cn ∧ 0 ∉ cb ∧ 1 ∉ cb ∧ 2 ∉ cb ∧ 3 ∉ cb) : OkL v := by
  obtain ⟨-, f2, -, f4, -⟩ := f
  obtain ⟨a1, a2, a3, a4, a5, a6⟩ := h1
  unfold OkL
  rw [f2 0 a1, f2 1 a2, f4 0 a3, f4 1 a4, f4 2 a5, f4 3 a6]
  exact h
