theorem hp_ge {a : Int32} (h : ¬ a < 32768) : ¬ a < 0 := fun q => h (Int32.lt_trans q (by decide))
theorem hu_e {a : Int32} (h1 : ¬ a < 32768) (h2 : ¬ 57344 ≤ a) (h3 : a - a / (16 : Int32) * (16 : Int32) = 0) : a.toNatClampNeg = 32768 + hu a * 16 := by
  obtain ⟨j, h4, h5, rfl⟩ := hp_a h1 h2
  have e2 : (16 : Int32) = nI 16 := by decide
  rw [e2, pk_rem (by omega) (by omega) (by omega), rn_z (by omega)] at h3
  unfold hu
  rw [nI_clamp (by omega)]
  omega
theorem hu_u {j : Nat} (h : j < 1536) : hu (nI (32768 + j * 16)) = j := by
  unfold hu
  rw [nI_clamp (by omega)]
  omega
theorem sz_le {u : S5} {j : Nat} (h : j < 1536) (hS : ∀ j, j < 1536 → ¬ aN u 2 j = 0 → 16 * j + aN u 1 j ≤ 24576) : 32768 + j * 16 + f_He_sizeAt (nI (32768 + j * 16)) u ≤ 57344 := by
  unfold f_He_sizeAt
  split
  · omega
  · rename_i h0
    obtain ⟨i1, i2, i3, i4⟩ := st_in h0
    rw [hu_u h] at i3 ⊢
    rw [i3] at h0
    have := hS j h h0
    omega
theorem sa_le {u : S5} {a : Int32} (hS : ∀ j, j < 1536 → ¬ aN u 2 j = 0 → 16 * j + aN u 1 j ≤ 24576) (h1 : ¬ a < 32768) (h2 : ¬ 57344 ≤ a) : 16 * hu a + f_He_sizeAt a u ≤ 24576 := by
  have hb := hp_b h1 h2
  unfold f_He_sizeAt
  split
  · omega
  · rename_i h0
    obtain ⟨i1, i2, i3, i4⟩ := st_in h0
    rw [i3] at h0
    exact hS _ hb h0
def fdSet (u : S5) (j : Nat) : S5 := sN (uN (uN u 4 j 1) 5 (gN u 8) (32768 + (j * 16))) 8 (gN u 8 + 1)
theorem fd_fr (u : S5) (j : Nat) : FrS [] [8] [] [4, 5] u (fdSet u j) := FrS.tr (FrS.uN _ _ _ _ (by decide)) (FrS.tr (FrS.uN _ _ _ _ (by decide)) (FrS.sN _ _ _ (by decide)))
theorem find_cases (a : Int32) (u : S5) : f_He_find a u = u ∨ ∃ j, j = aN u 0 (hu a) - 1 ∧ ¬ a < 32768 ∧ a < 57344 ∧ ¬ nI (aN u 0 (hu a)) - (1 : Int32) < 0 ∧ aN u 2 j = 1 ∧ aN u 4 j = 0 ∧ f_He_find a u = fdSet u j := by
  unfold f_He_find
  split
  · exact Or.inl rfl
  · split
    · split
      · exact Or.inl rfl
      · split
        · split
          · split
            · exact Or.inr ⟨_, rfl, by assumption, by assumption, by assumption, by assumption, by assumption, rfl⟩
            · split
              · exact Or.inr ⟨_, rfl, by assumption, by assumption, by assumption, by assumption, by assumption, rfl⟩
              · exact Or.inl rfl
          · exact Or.inl rfl
        · exact Or.inl rfl
    · exact Or.inl rfl
theorem find_fr (a : Int32) (u : S5) : FrS [] [8] [] [4, 5] u (f_He_find a u) := by
  rcases find_cases a u with h | ⟨j, -, -, -, -, -, -, h⟩
  · rw [h]; exact FrS.rf
  · rw [h]; exact fd_fr u j
theorem OkB.fr {ci cn ca cb : List Nat} {u v : S5} (h : OkB u) (f : FrS ci cn ca cb u v) (h1 : 0 ∉ cb ∧ 1 ∉ cb ∧ 2 ∉ cb) : OkB v := by
  obtain ⟨-, f2, -, f4, -⟩ := f
  obtain ⟨a3, a4, a5⟩ := h1
  unfold OkB
  rw [f4 0 a3, f4 1 a4, f4 2 a5]
  exact h
theorem find_ok (a : Int32) {u : S5} (hb : OkB u) (hf : OkF u) : OkF (f_He_find a u) := by
  rcases find_cases a u with h | ⟨j, hj, h1, h2, h3, h4, h5, h⟩
  · rw [h]; exact hf
  · rw [h]
    obtain ⟨hF, hC, hG⟩ := hf
    have hub := hp_b h1 (Int32.not_le.mpr h2)
    have hob := hb.1 _ hub
    have ho1 : ¬ aN u 0 (hu a) = 0 := fun q => h3 ((fd_n hob).mpr q)
    have hjb : j < 1536 := by omega
    refine ⟨?_, ?_, ?_⟩
    · intro i hi
      show va_up (aN u 4) j 1 i ≤ 1
      unfold va_up; split
      · omega
      · exact hF i hi
    · show gN u 8 + 1 ≤ cnt (va_up (aN u 4) j 1) 1536
      rw [cnt_up h5, if_pos hjb]; omega
    · intro i hi
      have hi : i < gN u 8 + 1 := hi
      show ∃ q, q < 1536 ∧ va_up (aN u 5) (gN u 8) (32768 + (j * 16)) i = 32768 + q * 16 ∧ aN u 2 q = 1
      by_cases hg : i = gN u 8
      · subst hg; exact ⟨j, hjb, va_up_self _ _ _, h4⟩
      · rw [va_up_ne _ _ hg]; exact hG i (by omega)
theorem fg_fr (u : S5) : FrS [] [8] [] [4, 5] u (f_He_forgetFound u) := FrS.tr (FrS.fN _ _ _ _ _ (by decide)) (FrS.sN _ _ _ (by decide))
theorem fg_ok (u : S5) : OkF (f_He_forgetFound u) := by
  refine ⟨?_, Nat.zero_le _, fun i hi => absurd hi (Nat.not_lt_zero _)⟩
  intro j hj
  show fillN (aN u 4) 0 1536 0 j ≤ 1
  unfold fillN
  rw [if_pos ⟨Nat.zero_le _, hj⟩]
  omega
theorem lo_le {j : Nat} (u : S5) (h : j < 1536) : f_He_lostAt j u ≤ 57344 := by
  unfold f_He_lostAt
  split
  · split <;> omega
  · omega
theorem mo_loop (at_ n : Nat) (u : S5) : ∀ (k i : Nat) (u1 : S5), FrS [] [] [0] [] u1 (f_Me_handOut_2 at_ n u k i u1) := by
  intro k
  induction k with
  | zero => intro i u1; exact FrS.rf
  | succ k ih =>
    intro i u1
    unfold f_Me_handOut_2
    split
    · exact FrS.tr (FrS.uI _ _ _ _ (by decide)) (ih _ _)
    · exact FrS.rf
theorem mo_fr (at_ n : Nat) (u : S5) : FrS [] [] [0] [] u (f_Me_handOut at_ n u) := mo_loop _ _ _ _ _ _
theorem ms_loop (at_ n : Nat) (u : S5) : ∀ (k i : Nat) (u1 : S5), FrS [] [] [0] [] u1 (f_Me_shut_2 at_ n u k i u1) := by
  intro k
  induction k with
  | zero => intro i u1; exact FrS.rf
  | succ k ih =>
    intro i u1
    unfold f_Me_shut_2
    split
    · exact FrS.tr (FrS.uI _ _ _ _ (by decide)) (ih _ _)
    · exact FrS.rf
theorem ms_fr (at_ n : Nat) (u : S5) : FrS [] [] [0] [] u (f_Me_shut at_ n u) := ms_loop _ _ _ _ _ _
theorem mm_fr (fr to n : Nat) (u : S5) : FrS [] [] [0] [] u (f_Me_move fr to n u) := FrS.cp _ _ _ _ _ _ (by decide)
theorem tk_cases (n : Int32) (u : S5) : f_He_take n u = (0, u) ∨ ∃ y f, (¬ n < 0) ∧ n ≤ 16384 ∧ y = (if n.toNatClampNeg = 0 then 1 else (n.toNatClampNeg + 16 - 1) / 16) ∧ f = f_He_findRoom y u ∧ ¬ f = 0 ∧ f_He_take n u = (32768 + f * 16, sI (sI (uN (uN (fN u 0 f (f + y) (f + 1)) 1 f n.toNatClampNeg) 2 f 1) 8 ((gI u 8) + (1 : Int32))) 9 ((gI u 9) + (nI n.toNatClampNeg))) := by
  unfold f_He_take
  split
  · exact Or.inl rfl
  · split
    · generalize (if n.toNatClampNeg = 0 then 1 else (n.toNatClampNeg + 16 - 1) / 16) = y
      dsimp only
      split
      · exact Or.inl rfl
      · exact Or.inr ⟨y, _, by assumption, by assumption, rfl, rfl, by assumption, rfl⟩
    · exact Or.inl rfl
theorem tk_fr (n : Int32) (u : S5) : FrS [8, 9] [] [] [0, 1, 2] u (f_He_take n u).2 := by
  rcases tk_cases n u with h | ⟨y, f, -, -, -, -, -, h⟩
  · rw [h]; exact FrS.rf
  · rw [h]
    exact FrS.tr (FrS.fN _ _ _ _ _ (by decide)) (FrS.tr (FrS.uN _ _ _ _ (by decide)) (FrS.tr (FrS.uN _ _ _ _ (by decide)) (FrS.tr (FrS.sI _ _ _ (by decide)) (FrS.sI _ _ _ (by decide)))))
theorem tk_in {n : Int32} {u : S5} (h : ¬ (f_He_take n u).1 = 0) : ¬ n < 0 ∧ n ≤ 16384 ∧ 32768 ≤ (f_He_take n u).1 ∧ (f_He_take n u).1 + n.toNatClampNeg ≤ 57344 := by
  rcases tk_cases n u with e | ⟨y, f, h1, h2, h3, h4, h5, e⟩
  · rw [e] at h; exact absurd rfl h
  · rw [e]
    refine ⟨h1, h2, by show 32768 ≤ 32768 + f * 16; omega, ?_⟩
    show 32768 + f * 16 + n.toNatClampNeg ≤ 57344
    have hf := fr_ok y u
    rw [← h4] at hf
    have hy : n.toNatClampNeg ≤ 16 * y := by rw [h3]; split <;> omega
    omega
theorem tk_le (n : Int32) (u : S5) : (f_He_take n u).1 ≤ 57344 := by
  by_cases h : (f_He_take n u).1 = 0
  · omega
  · have := (tk_in h).2.2.2; omega
theorem tk_ok {n : Int32} {u : S5} (h : OkH u) : OkH (f_He_take n u).2 := by
  rcases tk_cases n u with e | ⟨y, f, h1, h2, h3, h4, h5, e⟩
  · rw [e]; exact h
  · rw [e]
    obtain ⟨k6, k7, kO, kT, kL, kS⟩ := h
    have hf := fr_ok y u
    rw [← h4] at hf
    have hy : n.toNatClampNeg ≤ 16 * y := by rw [h3]; split <;> omega
    refine ⟨k6, k7, ?_, ?_, kL, ?_⟩
    · intro j hj
      show fillN (aN u 0) f (f + y) (f + 1) j ≤ 1536
      unfold fillN; split
      · omega
      · exact kO j hj
    · intro j hj
      show va_up (aN u 2) f 1 j ≤ 2
      unfold va_up; split
      · omega
      · exact kT j hj
    · intro j hj
      show ¬ va_up (aN u 2) f 1 j = 0 → 16 * j + va_up (aN u 1) f n.toNatClampNeg j ≤ 24576
      unfold va_up
      by_cases hjf : j = f
      · subst hjf
        intro _
        rw [if_pos rfl]; omega
      · rw [if_neg hjf, if_neg hjf]; exact kS j hj
theorem kp_loop (a : Int32) (u : S5) : ∀ (k left : Nat) (u1 : S5), left < k → (f_He_keep_100 a u k left u1).1 = aN u1 1 (hu a) := by
  intro k
  induction k with
  | zero => intro left u1 h; exact absurd h (Nat.not_lt_zero _)
  | succ k ih =>
    intro left u1 h
    unfold f_He_keep_100
    split
    · rfl
    · split
      · rfl
      · rw [ih _ _ (by omega), fo_1]
theorem kp_1 (a : Int32) (u : S5) : (f_He_keep a u).1 = 0 ∨ (f_He_stateAt a u = 1 ∧ (f_He_keep a u).1 = aN u 1 (hu a)) := by
  unfold f_He_keep
  split
  · exact Or.inr ⟨by assumption, kp_loop _ _ _ _ _ (by omega)⟩
  · exact Or.inl rfl
theorem kp_le {a : Int32} {u : S5} (hS : ∀ j, j < 1536 → ¬ aN u 2 j = 0 → 16 * j + aN u 1 j ≤ 24576) (h1 : ¬ a < 32768) (h2 : ¬ 57344 ≤ a) : 16 * hu a + (f_He_keep a u).1 ≤ 24576 := by
  have hb := hp_b h1 h2
  rcases kp_1 a u with h | ⟨h, e⟩
  · rw [h]; omega
  · rw [e]
    obtain ⟨i1, i2, i3, i4⟩ := st_in (a := a) (u := u) (by omega)
    exact hS _ hb (by omega)
