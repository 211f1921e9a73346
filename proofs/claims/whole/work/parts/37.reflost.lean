def cntB (p : Nat → Bool) : Nat → Nat
  | 0 => 0
  | n + 1 => cntB p n + (if p n = true then 1 else 0)
theorem cntB_le (p : Nat → Bool) : ∀ n, cntB p n ≤ n
  | 0 => Nat.le_refl _
  | n + 1 => by
    have := cntB_le p n
    unfold cntB
    split <;> omega
theorem cntB_mono {p q : Nat → Bool} : ∀ n, (∀ k, k < n → p k = true → q k = true) → cntB p n ≤ cntB q n
  | 0, _ => Nat.le_refl _
  | n + 1, h => by
    have h1 := cntB_mono (p := p) (q := q) n (fun k hk => h k (by omega))
    unfold cntB
    by_cases h2 : p n = true
    · rw [if_pos h2, if_pos (h n (by omega) h2)]; omega
    · rw [if_neg h2]; split <;> omega
theorem cntB_lt {p q : Nat → Bool} : ∀ n, (∀ k, k < n → p k = true → q k = true) → (∃ k, k < n ∧ q k = true ∧ ¬ p k = true) → cntB p n < cntB q n
  | 0, _, ⟨k, hk, _⟩ => absurd hk (Nat.not_lt_zero _)
  | n + 1, h, ⟨k, hk, h1, h2⟩ => by
    unfold cntB
    by_cases hkn : k = n
    · subst hkn
      have h3 := cntB_mono (p := p) (q := q) k (fun i hi => h i (by omega))
      rw [if_neg h2, if_pos h1]; omega
    · have h3 := cntB_lt (p := p) (q := q) n (fun i hi => h i (by omega)) ⟨k, by omega, h1, h2⟩
      by_cases h4 : p n = true
      · rw [if_pos h4, if_pos (h n (by omega) h4)]; omega
      · rw [if_neg h4]; split <;> omega
def bz (b : Bool) : Nat := if b = true then 1 else 0
def nf (u : S5) : Nat := cntB (fun k => !(aB u 3 k)) (gN u 0)
def ng (u : S5) (la : Int32) : Nat := cntB (fun k => !(aB u 3 k) && decide (la < nI (aN u 0 k))) (gN u 0)
theorem nf_le (u : S5) : nf u ≤ gN u 0 := cntB_le _ _
theorem nf_flip {u : S5} {mr : Bool} {x j : Nat} (h : nf u + bz mr ≤ x) (hj : j < gN u 0) (hf : ¬ aB u 3 j = true) : nf (uB u 3 j true) + bz true ≤ x := by
  have h1 : nf (uB u 3 j true) < nf u := by
    refine cntB_lt _ (fun k hk hp => ?_) ⟨j, hj, ?_, ?_⟩
    · show (!(aB u 3 k)) = true
      have hp : (!(va_up (aB u 3) j true k)) = true := hp
      by_cases hkj : k = j
      · subst hkj; rw [va_up_self] at hp; cases hp
      · rw [va_up_ne _ _ hkj] at hp; exact hp
    · show (!(aB u 3 j)) = true
      cases h0 : aB u 3 j
      · rfl
      · exact absurd h0 hf
    · show ¬ (!(va_up (aB u 3) j true j)) = true
      rw [va_up_self]; decide
  have h2 : bz true = 1 := rfl
  omega
theorem ls_in {ls : Int32} {n : Nat} {P : Nat → Prop} (hn : n ≤ 799) (h : ¬ ls < 0) (hls : ls < 0 ∨ ∃ k, k < n ∧ ls = nI k ∧ P k) : ls.toNatClampNeg < n ∧ P ls.toNatClampNeg := by
  rcases hls with q | ⟨k, hk, rfl, hp⟩
  · exact absurd q h
  · rw [nI_clamp (by omega)]; exact ⟨hk, hp⟩
theorem ng_dec {u v : S5} {la : Int32} {k : Nat} {ci cn ca cb cz : List Nat} (f : FrM ci cn ca cb cz u v) (hf : 0 ∉ cn ∧ 0 ∉ cb ∧ 3 ∉ cz) (hk : k < gN u 0) (h1 : ¬ aB u 3 k = true) (h2 : la < nI (aN u 0 k)) : ng v (nI (aN u 0 k)) < ng u la := by
  unfold ng
  rw [f.2.1 0 hf.1, f.2.2.2.1 0 hf.2.1, f.2.2.2.2 3 hf.2.2]
  refine cntB_lt _ (fun i hi hp => ?_) ⟨k, hk, ?_, ?_⟩
  · simp only [Bool.and_eq_true, decide_eq_true_eq] at hp ⊢
    exact ⟨hp.1, Int32.lt_trans h2 hp.2⟩
  · simp only [Bool.and_eq_true, decide_eq_true_eq]
    refine ⟨?_, h2⟩
    cases h0 : aB u 3 k
    · rfl
    · exact absurd h0 h1
  · simp only [Bool.and_eq_true, decide_eq_true_eq]
    exact fun q => Int32.lt_irrefl q.2
