-- ===== taking a block
theorem vu_e {f : Nat → Nat} {a : Nat} {x : Nat} : va_up f a x a = x := if_pos rfl
theorem vu_n {f : Nat → Nat} {a k : Nat} {x : Nat} (h : ¬ k = a) : va_up f a x k = f k := if_neg h
theorem sumI_c {f g : Nat → Nat} : ∀ n, (∀ k, k < n → f k = g k) → sumI f n = sumI g n
  | 0, _ => rfl
  | n + 1, h => by unfold sumI; rw [sumI_c n (fun k hk => h k (by omega)), h n (by omega)]
theorem sumI_0 (f : Nat → Nat) : ∀ n, sumI f (n + 1) = nI (f 0) + sumI (fun i => f (i + 1)) n
  | 0 => by show (0 : Int32) + nI (f 0) = nI (f 0) + 0; rw [Int32.zero_add, Int32.add_zero]
  | n + 1 => by
    show sumI f (n + 1) + nI (f (n + 1)) = nI (f 0) + (sumI (fun i => f (i + 1)) n + nI (f (n + 1)))
    rw [sumI_0 f n, Int32.add_assoc]
theorem sumI_up (f : Nat → Nat) (k x : Nat) : ∀ n, k < n → sumI (va_up f k x) n + nI (f k) = sumI f n + nI x
  | 0, h => by omega
  | n + 1, h => by
    show sumI (va_up f k x) n + nI (va_up f k x n) + nI (f k) = sumI f n + nI (f n) + nI x
    by_cases e : k = n
    · subst e
      rw [vu_e, sumI_c (g := f) k (fun j hj => vu_n (by omega))]
      rw [Int32.add_assoc, Int32.add_assoc, Int32.add_comm (nI x)]
    · rw [vu_n (by omega)]
      have ih := sumI_up f k x n (by omega)
      rw [Int32.add_assoc, Int32.add_comm (nI (f n)), ← Int32.add_assoc, ih, Int32.add_assoc, Int32.add_comm (nI x), ← Int32.add_assoc]
theorem H_take {u v : S5} (h : cH u v) {N F y : Nat} (hN : N ≤ 16384) (hy : y = un N) (h1 : 1 ≤ F) (h2 : F + y ≤ 1535) (hr : rmW (aN u 0) y F) :
    gB (fillN (aN u 0) F (F + y) (F + 1)) (va_up (aN u 1) F N) (va_up (aN u 2) F 1) ∧ gW (fillN (aN u 0) F (F + y) (F + 1)) (va_up (aN u 1) F N) (va_up (aN u 2) F 1) ∧ gL (va_up (aN u 1) F N) (va_up (aN u 2) F 1) (gN v 0 + 1) (va_up (aN v 0) (gN v 0) (32768 + F * 16)) (va_up (aN v 1) (gN v 0) N) ∧ gK (va_up (aN u 1) F N) (va_up (aN u 2) F 1) (aN u 3) (gN u 6) (gN u 7) (gN v 1) (aN v 2) (aN v 3) ∧ gS (gI u 7) (gI u 8 + 1) (gI u 9 + nI N) (gN v 0 + 1) (gN v 1) (va_up (aN v 1) (gN v 0) N) (aN v 3) := by
  obtain ⟨hB, hO, hL, hK, hS⟩ := h
  have hF0 : aN u 2 F = 0 := Classical.byContradiction fun q => by
    obtain ⟨_, _, _, _, g, _⟩ := hB F (by omega) q
    have := g F (Nat.le_refl _) (by have := un_1 (aN u 1 F); omega)
    have := hr F (by omega) (by omega)
    omega
  have hy1 : 1 ≤ y := by rw [hy]; exact un_1 N
  refine ⟨?_, ?_, ?_, ?_, ?_⟩
  · intro b hb hs
    by_cases e : b = F
    · subst e
      rw [vu_e, vu_e, ← hy]
      refine ⟨by omega, h1, h2, hN, fun j g1 g2 => ?_, ?_⟩
      · unfold fillN; rw [if_pos ⟨g1, g2⟩]
      · unfold fillN; rw [if_neg (by omega)]; exact hr _ (Nat.le_refl _) (by omega)
    · rw [vu_n e] at hs ⊢
      rw [vu_n e]
      obtain ⟨g1, g2, g3, g4, g5, g6⟩ := hB b hb hs
      refine ⟨g1, g2, g3, g4, fun j z1 z2 => ?_, ?_⟩
      · have := g5 j z1 z2
        unfold fillN
        rw [if_neg (fun q => by have := hr j (by omega) (by omega); omega)]
        exact this
      · unfold fillN
        have := g5 b (Nat.le_refl _) (by have := un_1 (aN u 1 b); omega)
        rw [if_neg (fun q => by have := hr b (by omega) (by omega); omega)]
        exact g6
  · intro j hj ho
    unfold fillN at ho ⊢
    by_cases q : F ≤ j ∧ j < F + y
    · rw [if_pos q, show F + 1 - 1 = F by omega, vu_e, vu_e, ← hy]
      exact ⟨by omega, q⟩
    · rw [if_neg q] at ho ⊢
      obtain ⟨g1, g2, g3⟩ := hO j hj ho
      have e : ¬ aN u 0 j - 1 = F := fun e => by rw [e] at g1; exact g1 hF0
      rw [vu_n e, vu_n e]
      exact ⟨g1, g2, g3⟩
  · obtain ⟨l1, l2, l3, l4⟩ := hL
    refine ⟨fun k hk => ?_, fun k l hk hl he => ?_, fun b hb hs => ?_, ?_⟩
    · by_cases e : k = gN v 0
      · subst e
        exact ⟨F, by omega, vu_e, vu_e, by rw [vu_e, vu_e]⟩
      · obtain ⟨b, g1, g2, g3, g4⟩ := l1 k (by omega)
        have e2 : ¬ b = F := fun e => by rw [e] at g3; omega
        exact ⟨b, g1, by rw [vu_n e]; exact g2, by rw [vu_n e2]; exact g3, by rw [vu_n e, vu_n e2]; exact g4⟩
    · have key : ∀ i, i < gN v 0 → ¬ aN v 0 i = 32768 + F * 16 := fun i hi q => by
        obtain ⟨b, g1, g2, g3, g4⟩ := l1 i hi
        have e2 : b = F := by omega
        rw [e2] at g3; omega
      by_cases e : k = gN v 0
      · by_cases e2 : l = gN v 0
        · omega
        · rw [e, vu_e, vu_n e2] at he; exact absurd he.symm (key l (by omega))
      · by_cases e2 : l = gN v 0
        · rw [e2, vu_e, vu_n e] at he; exact absurd he (key k (by omega))
        · rw [vu_n e, vu_n e2] at he; exact l2 k l (by omega) (by omega) he
    · by_cases e : b = F
      · exact ⟨gN v 0, by omega, by rw [vu_e, e]⟩
      · rw [vu_n e] at hs
        obtain ⟨k, g1, g2⟩ := l3 b hb hs
        exact ⟨k, by omega, by rw [vu_n (by omega)]; exact g2⟩
    · rw [cntB_up (p := fun b => aN u 2 b == 1) (q := fun b => va_up (aN u 2) F 1 b == 1) (j := F) (by simp [hF0]) (by simp [vu_e]) (fun k hk => by simp [vu_n hk]) 1536, if_pos (by omega), ← l4]
  · obtain ⟨k1, k2, k3, k4, k5, k6, k7⟩ := hK
    refine ⟨k1, k2, k3, fun k hk => ?_, k5, fun b hb hs => ?_, ?_⟩
    · obtain ⟨g1, g2, g3⟩ := k4 k hk
      have e2 : ¬ aN u 3 ((gN u 6 + k) % 1536) = F := fun e => by rw [e] at g2; omega
      exact ⟨g1, by rw [vu_n e2]; exact g2, by rw [vu_n e2]; exact g3⟩
    · by_cases e : b = F
      · rw [e, vu_e] at hs; omega
      · rw [vu_n e] at hs; exact k6 b hb hs
    · rw [k7]
      refine cntB_c _ (fun k hk => ?_)
      by_cases e : k = F
      · subst e; simp [hF0, vu_e]
      · simp [vu_n e]
  · obtain ⟨s1, s2, s3⟩ := hS
    refine ⟨by rw [s1]; exact nI_1 _, ?_, s3⟩
    show _ = sumI (va_up (aN v 1) (gN v 0) N) (gN v 0) + nI (va_up (aN v 1) (gN v 0) N (gN v 0))
    rw [vu_e, sumI_c (g := aN v 1) (gN v 0) (fun k hk => vu_n (by omega)), s2]
-- ===== which block stands at an address
theorem st_at {u : S5} {b : Nat} (hb : b < 1536) : f_He_stateAt (nI (32768 + b * 16)) u = aN u 2 b := by
  unfold f_He_stateAt
  have e1 : (32768 : Int32) = nI 32768 := by decide
  have e2 : (57344 : Int32) = nI 57344 := by decide
  have e3 : (16 : Int32) = nI 16 := by decide
  rw [if_neg (by rw [e1, nI_ltI (by omega) (by decide)]; omega), if_neg (by rw [e2, nI_leI (by decide) (by omega)]; omega), if_pos (by rw [e3, pk_rem (by omega) (by omega) (by omega), rn_z (by omega)]; omega), hu_u hb]
theorem st_1 {u v : S5} (h : cH u v) (a : Int32) : f_He_stateAt a u = 1 ↔ ∃ k, k < gN v 0 ∧ nI (aN v 0 k) = a := by
  obtain ⟨hB, hO, hL, hK, hS⟩ := h
  constructor
  · intro q
    obtain ⟨i1, i2, i3, i4⟩ := st_in (u := u) (a := a) (by omega)
    rw [i3] at q
    obtain ⟨k, hk, e⟩ := hL.2.2.1 _ (hp_b i1 i2) q
    refine ⟨k, hk, ?_⟩
    rw [e, ← hu_e i1 i2 i4]
    exact (hp_n (hp_ge i1)).symm
  · rintro ⟨k, hk, rfl⟩
    obtain ⟨b, hb, e1, e2, _⟩ := hL.1 k hk
    rw [e1, st_at hb, e2]
theorem st_2 {u v : S5} (h : cH u v) (a : Int32) : f_He_stateAt a u = 2 ↔ ∃ k, k < gN v 1 ∧ nI (aN v 2 k) = a := by
  obtain ⟨hB, hO, hL, hK, hS⟩ := h
  constructor
  · intro q
    obtain ⟨i1, i2, i3, i4⟩ := st_in (u := u) (a := a) (by omega)
    rw [i3] at q
    obtain ⟨k, hk, e⟩ := hK.2.2.2.2.2.1 _ (hp_b i1 i2) q
    refine ⟨k, hk, ?_⟩
    rw [(hK.2.2.2.1 k hk).1, e, ← hu_e i1 i2 i4]
    exact (hp_n (hp_ge i1)).symm
  · rintro ⟨k, hk, rfl⟩
    obtain ⟨e1, e2, _⟩ := hK.2.2.2.1 k hk
    rw [e1, st_at (hK.2.2.1 _ (by omega)), e2]
theorem fd_l (a : Int32) (v : S5) : ∀ (k j : Nat), gN v 0 < k + j → j ≤ gN v 0 → ((∃ i, j ≤ i ∧ i < gN v 0 ∧ nI (aN v 0 i) = a ∧ f_Mo_find_2 a v k j = nI i) ∨ (f_Mo_find_2 a v k j = -1 ∧ ∀ i, j ≤ i → i < gN v 0 → ¬ nI (aN v 0 i) = a))
  | 0, j, h1, h2 => by omega
  | k + 1, j, h1, h2 => by
    unfold f_Mo_find_2
    by_cases hj : j < gN v 0
    · rw [if_pos hj]
      by_cases e : nI (aN v 0 j) = a
      · rw [if_pos e]; exact Or.inl ⟨j, Nat.le_refl _, hj, e, rfl⟩
      · rw [if_neg e]
        rcases fd_l a v k (j + 1) (by omega) (by omega) with ⟨i, g1, g2⟩ | ⟨g1, g2⟩
        · exact Or.inl ⟨i, by omega, g2⟩
        · refine Or.inr ⟨g1, fun i z1 z2 => ?_⟩
          rcases Nat.eq_or_lt_of_le z1 with e2 | e2
          · subst e2; exact e
          · exact g2 i e2 z2
    · rw [if_neg hj]; exact Or.inr ⟨rfl, fun i z1 z2 => by omega⟩
theorem find_y {u v : S5} (h : cH u v) {a : Int32} (ha : f_He_stateAt a u = 1) : ∃ i, i < gN v 0 ∧ nI (aN v 0 i) = a ∧ f_Mo_find a v = nI i ∧ ¬ f_Mo_find a v < 0 := by
  have hc := H_cnt h
  rcases fd_l a v (gN v 0 + 1) 0 (by omega) (by omega) with ⟨i, _, g2, g3, g4⟩ | ⟨_, g2⟩
  · refine ⟨i, g2, g3, g4, ?_⟩
    show ¬ f_Mo_find_2 a v (gN v 0 + 1) 0 < 0
    rw [g4]; exact nI_pos (by omega)
  · obtain ⟨k, hk, e⟩ := (st_1 h a).mp ha
    exact absurd e (g2 k (Nat.zero_le _) hk)
theorem find_n {u v : S5} (h : cH u v) {a : Int32} (ha : ¬ f_He_stateAt a u = 1) : f_Mo_find a v < 0 := by
  rcases fd_l a v (gN v 0 + 1) 0 (by omega) (by omega) with ⟨i, _, g2, g3, g4⟩ | ⟨g1, _⟩
  · exact absurd ((st_1 h a).mpr ⟨i, g2, g3⟩) ha
  · show f_Mo_find_2 a v (gN v 0 + 1) 0 < 0
    rw [g1]; decide
theorem lv_l14 (a : Int32) (v : S5) : ∀ (k j : Nat) (w : Bool), gN v 1 < k + j → (f_Mo_isLive_14 a v k j w = true ↔ w = true ∨ ∃ i, j ≤ i ∧ i < gN v 1 ∧ nI (aN v 2 i) = a) ∨ gN v 1 < j
  | 0, j, w, h1 => Or.inr (by omega)
  | k + 1, j, w, h1 => by
    by_cases hj : j < gN v 1
    · left
      unfold f_Mo_isLive_14
      rw [if_pos hj]
      by_cases e : nI (aN v 2 j) = a
      · rw [if_pos e]
        rcases lv_l14 a v k (j + 1) true (by omega) with g | g
        · rw [g]
          exact ⟨fun _ => Or.inr ⟨j, Nat.le_refl _, hj, e⟩, fun _ => Or.inl rfl⟩
        · omega
      · rw [if_neg e]
        rcases lv_l14 a v k (j + 1) w (by omega) with g | g
        · rw [g]
          constructor
          · rintro (q | ⟨i, z1, z2⟩)
            · exact Or.inl q
            · exact Or.inr ⟨i, by omega, z2⟩
          · rintro (q | ⟨i, z1, z2⟩)
            · exact Or.inl q
            · rcases Nat.eq_or_lt_of_le z1 with e2 | e2
              · subst e2; exact absurd z2.2 e
              · exact Or.inr ⟨i, e2, z2⟩
        · omega
    · by_cases e : gN v 1 < j
      · exact Or.inr e
      · left
        unfold f_Mo_isLive_14
        rw [if_neg hj]
        constructor
        · intro q; exact Or.inl q
        · rintro (q | ⟨i, z1, z2, _⟩)
          · exact q
          · omega
theorem was_iff {u v : S5} (h : cH u v) (a : Int32) : f_Mo_isLive_14 a v (gN v 1 + 1) 0 false = true ↔ f_He_stateAt a u = 2 := by
  rcases lv_l14 a v (gN v 1 + 1) 0 false (by omega) with g | g
  · rw [g, st_2 h a]
    constructor
    · rintro (q | ⟨i, _, z⟩)
      · cases q
      · exact ⟨i, z⟩
    · rintro ⟨i, z⟩; exact Or.inr ⟨i, Nat.zero_le _, z⟩
  · omega
