def OkQ (u : S5) : Prop := gN u 3 ≤ gN u 2 ∧ gN u 2 ≤ 1024 ∧ gN u 4 ≤ 4096
def OkK (u : S5) : Prop := gN u 0 ≤ 798 ∧ gN u 1 ≤ 798 ∧ OkL u
theorem OkQ.fm {ci cn ca cb cz : List Nat} {u v : S5} (h : OkQ u) (f : FrM ci cn ca cb cz u v) (h1 : 2 ∉ cn ∧ 3 ∉ cn ∧ 4 ∉ cn) : OkQ v := by
  obtain ⟨-, f2, -, f4, -⟩ := f
  obtain ⟨a1, a2, a3⟩ := h1
  unfold OkQ
  rw [f2 2 a1, f2 3 a2, f2 4 a3]
  exact h
theorem OkK.fm {ci cn ca cb cz : List Nat} {u v : S5} (h : OkK u) (f : FrM ci cn ca cb cz u v) (h1 : 0 ∉ cn ∧ 1 ∉ cn ∧ 0 ∉ cb ∧ 1 ∉ cb ∧ 2 ∉ cb ∧ 3 ∉ cb) : OkK v :=
  ⟨by rw [f.2.1 0 h1.1]; exact h.1, by rw [f.2.1 1 h1.2.1]; exact h.2.1, OkL.fm h.2.2 f h1⟩
theorem gv_loop (r : Nat) (v w : Int32) (u : S5) : ∀ (k i : Nat) (u1 : S5), FrM [] [] [2] [] [2] u1 (f_Mo_give_15 r v w u k i u1) := by
  intro k
  induction k with
  | zero => intro i u1; exact FrM.rf
  | succ k ih =>
    intro i u1
    unfold f_Mo_give_15
    split
    · dsimp only
      exact FrM.tr (FrM.uB _ _ _ _ (by decide)) (ih _ _)
    · exact FrM.rf
theorem gv_fr (r : Nat) (v w : Int32) (u : S5) : FrM [] [] [2] [] [2] u (f_Mo_give r v w u) := by
  unfold f_Mo_give
  split
  · exact FrM.rf
  · exact FrM.tr (FrM.uI _ _ _ _ (by decide)) (gv_loop _ _ _ _ _ _ _)
theorem fi_nat {a : Int32} {u : S5} (h : OkL u) (hf : ¬ f_Mo_find a u < 0) : a = nI a.toNatClampNeg ∧ a.toNatClampNeg < 2 ^ 31 := by
  obtain ⟨f1, f2, f3⟩ := fi_in h.1 hf
  have h4 := h.2.2.1 _ f2
  rw [← f3, nI_clamp (by omega)]
  exact ⟨rfl, by omega⟩
theorem hp_p4 {x : Int32} (h1 : ¬ x < 0) (h2 : x ≤ 65532) : x.toNatClampNeg + 4 ≤ 65536 := by
  have h := hp_nle (M := 65532) (K := 65532) (by decide) (by decide) h1 h2
  omega
theorem hp_nlt {n : Int32} {M : Nat} {K : Int32} (hM : M < 2 ^ 31) (hK : K = nI M) (h : ¬ n < 0) (h2 : n < K) : n.toNatClampNeg < M := by
  obtain ⟨j, hj, rfl⟩ := nI_of h
  rw [nI_clamp hj]
  rw [hK] at h2
  exact (nI_ltI hj hM).mp h2
theorem pn_le {p m : Nat} (hp : p ≤ 1024) (hm : m ≤ 8) (h : nI p + nI m ≤ 1024) : p + m ≤ 1024 := by
  rw [nI_add, show (1024 : Int32) = nI 1024 by decide] at h
  exact (nI_leI (by omega) (by decide)).mp h
theorem q3_le {q : Int32} (h : ¬ q < 0) (h0 : ¬ q = 0) (h1 : ¬ q = 1) (h2 : ¬ q = 2) : 3 ≤ q.toNatClampNeg := by
  obtain ⟨j, hj, rfl⟩ := nI_of h
  rw [nI_clamp hj]
  rcases (show j = 0 ∨ j = 1 ∨ j = 2 ∨ 3 ≤ j by omega) with rfl | rfl | rfl | q
  · exact absurd (by decide) h0
  · exact absurd (by decide) h1
  · exact absurd (by decide) h2
  · exact q
def fuS : Nat := 65537
