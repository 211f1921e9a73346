-- ===== the heap: units and lists
def un (n : Nat) : Nat := if n = 0 then 1 else (n + 16 - 1) / 16
theorem un_1 (n : Nat) : 1 ≤ un n := by unfold un; split <;> omega
theorem un_n (n : Nat) : n ≤ 16 * un n := by unfold un; split <;> omega
theorem un_le {n : Nat} (h : n ≤ 16384) : un n ≤ 1024 := by unfold un; split <;> omega
theorem takes_un (n : Nat) : f_Mo_takes n = 16 * un n := by unfold f_Mo_takes un; split <;> split <;> omega
def gB (ow sz st : Nat → Nat) : Prop := ∀ b, b < 1536 → ¬ st b = 0 → st b ≤ 2 ∧ 1 ≤ b ∧ b + un (sz b) ≤ 1535 ∧ sz b ≤ 16384 ∧ (∀ j, b ≤ j → j < b + un (sz b) → ow j = b + 1) ∧ ow (b - 1) = 0
def gW (ow sz st : Nat → Nat) : Prop := ∀ j, j < 1536 → ¬ ow j = 0 → ¬ st (ow j - 1) = 0 ∧ ow j - 1 ≤ j ∧ j < ow j - 1 + un (sz (ow j - 1))
def gL (sz st : Nat → Nat) (live : Nat) (ad len : Nat → Nat) : Prop := (∀ k, k < live → ∃ b, b < 1536 ∧ ad k = 32768 + b * 16 ∧ st b = 1 ∧ len k = sz b) ∧ (∀ k l, k < live → l < live → ad k = ad l → k = l) ∧ (∀ b, b < 1536 → st b = 1 → ∃ k, k < live ∧ ad k = 32768 + b * 16) ∧ live = cntB (fun b => st b == 1) 1536
def gK (sz st ln : Nat → Nat) (old kp keeps : Nat) (kt ktl : Nat → Nat) : Prop := kp = keeps ∧ old < 1536 ∧ (∀ j, j < 1536 → ln j < 1536) ∧ (∀ k, k < keeps → kt k = 32768 + ln ((old + k) % 1536) * 16 ∧ st (ln ((old + k) % 1536)) = 2 ∧ ktl k = sz (ln ((old + k) % 1536))) ∧ (∀ k l, k < keeps → l < keeps → ln ((old + k) % 1536) = ln ((old + l) % 1536) → k = l) ∧ (∀ b, b < 1536 → st b = 2 → ∃ k, k < keeps ∧ ln ((old + k) % 1536) = b) ∧ keeps = cntB (fun b => st b == 2) 1536
def sumI (f : Nat → Nat) : Nat → Int32
  | 0 => 0
  | n + 1 => sumI f n + nI (f n)
def gS (ko lb lo : Int32) (live keeps : Nat) (len ktl : Nat → Nat) : Prop := lb = nI live ∧ lo = sumI len live ∧ ko = sumI ktl keeps
def cH (u v : S5) : Prop := gB (aN u 0) (aN u 1) (aN u 2) ∧ gW (aN u 0) (aN u 1) (aN u 2) ∧ gL (aN u 1) (aN u 2) (gN v 0) (aN v 0) (aN v 1) ∧ gK (aN u 1) (aN u 2) (aN u 3) (gN u 6) (gN u 7) (gN v 1) (aN v 2) (aN v 3) ∧ gS (gI u 7) (gI u 8) (gI u 9) (gN v 0) (gN v 1) (aN v 1) (aN v 3)
-- counting
theorem cntB_c {p q : Nat → Bool} : ∀ n, (∀ k, k < n → p k = q k) → cntB p n = cntB q n
  | 0, _ => rfl
  | n + 1, h => by
    unfold cntB
    rw [cntB_c n (fun k hk => h k (by omega)), h n (by omega)]
theorem cntB_up {p q : Nat → Bool} {j : Nat} (hp : p j = false) (hq : q j = true) (he : ∀ k, ¬ k = j → q k = p k) : ∀ n, cntB q n = cntB p n + (if j < n then 1 else 0)
  | 0 => rfl
  | n + 1 => by
    unfold cntB
    rw [cntB_up hp hq he n]
    by_cases e : n = j
    · subst e; simp [hp, hq]
    · rw [he n e]
      by_cases e2 : j < n
      · simp [e2, show j < n + 1 by omega]; omega
      · simp [e2, show ¬ j < n + 1 by omega]
theorem cntB_two {p q : Nat → Bool} : ∀ n, (∀ k, k < n → ¬ (p k = true ∧ q k = true)) → (∀ k, k + 1 < n → (p k = true ∨ q k = true) → ¬ (p (k + 1) = true ∨ q (k + 1) = true)) → 2 * (cntB p n + cntB q n) ≤ n + 1
  | 0, _, _ => by unfold cntB; omega
  | 1, h1, _ => by
    have h := h1 0 (by omega)
    unfold cntB cntB
    split <;> split <;> first | omega | (rename_i a b; exact absurd ⟨a, b⟩ h)
  | n + 2, h1, h2 => by
    have ih := cntB_two (p := p) (q := q) n (fun k hk => h1 k (by omega)) (fun k hk => h2 k (by omega))
    have a := h1 n (by omega)
    have b := h1 (n + 1) (by omega)
    have c := h2 n (by omega)
    have e : ∀ r : Nat → Bool, cntB r (n + 2) = cntB r n + (if r n = true then 1 else 0) + (if r (n + 1) = true then 1 else 0) := fun r => rfl
    rw [e, e]
    by_cases p0 : p n = true <;> by_cases q0 : q n = true <;> by_cases p1 : p (n + 1) = true <;> by_cases q1 : q (n + 1) = true <;> simp [p0, q0, p1, q1] at a b c ⊢ <;> omega
theorem H_cnt {u v : S5} (h : cH u v) : gN v 0 + gN v 1 ≤ 768 := by
  obtain ⟨hB, hO, hL, hK, hS⟩ := h
  rw [hL.2.2.2, hK.2.2.2.2.2.2]
  have := cntB_two (p := fun b => aN u 2 b == 1) (q := fun b => aN u 2 b == 2) 1536 (fun k hk => by simp; omega) (fun k hk h1 h2 => by
    have z1 : ¬ aN u 2 k = 0 := by rcases h1 with q | q <;> simp at q <;> omega
    have z2 : ¬ aN u 2 (k + 1) = 0 := by rcases h2 with q | q <;> simp at q <;> omega
    obtain ⟨_, _, _, _, g1, _⟩ := hB k (by omega) z1
    obtain ⟨_, _, _, _, _, g2⟩ := hB (k + 1) (by omega) z2
    have := g1 k (Nat.le_refl _) (by have := un_1 (aN u 1 k); omega)
    rw [show k + 1 - 1 = k by omega] at g2
    omega)
  omega
-- what the reference takes
theorem tk_l50 (fr to : Nat) (v : S5) : ∀ (k i : Nat), gN v 1 < k + i → (f_Mo_taken_50 fr to v k i = true ↔ ∃ j, i ≤ j ∧ j < gN v 1 ∧ aN v 2 j < to ∧ fr < aN v 2 j + f_Mo_takes (aN v 3 j))
  | 0, i, h => by
    unfold f_Mo_taken_50
    constructor
    · intro q; cases q
    · rintro ⟨j, h1, h2, _⟩; omega
  | k + 1, i, h => by
    unfold f_Mo_taken_50
    by_cases hi : i < gN v 1
    · rw [if_pos hi]
      by_cases z : aN v 2 i < to ∧ fr < aN v 2 i + f_Mo_takes (aN v 3 i)
      · rw [if_pos z.1, if_neg (by omega)]; exact ⟨fun _ => ⟨i, Nat.le_refl _, hi, z⟩, fun _ => rfl⟩
      · have e : (if aN v 2 i < to then (if aN v 2 i + f_Mo_takes (aN v 3 i) ≤ fr then f_Mo_taken_50 fr to v k (i + 1) else true) else f_Mo_taken_50 fr to v k (i + 1)) = f_Mo_taken_50 fr to v k (i + 1) := by
          by_cases z1 : aN v 2 i < to
          · rw [if_pos z1, if_pos (by omega)]
          · rw [if_neg z1]
        rw [e, tk_l50 fr to v k (i + 1) (by omega)]
        constructor
        · rintro ⟨j, h1, h2⟩; exact ⟨j, by omega, h2⟩
        · rintro ⟨j, h1, h2⟩
          rcases Nat.eq_or_lt_of_le h1 with e | e
          · subst e; exact absurd h2.2 z
          · exact ⟨j, e, h2⟩
    · rw [if_neg hi]
      constructor
      · intro q; cases q
      · rintro ⟨j, h1, h2, _⟩; omega
theorem tk_l2 (fr to : Nat) (v : S5) : ∀ (k i : Nat), gN v 0 < k + i → i ≤ gN v 0 → (f_Mo_taken_2 fr to v k i = true ↔ (∃ j, i ≤ j ∧ j < gN v 0 ∧ aN v 0 j < to ∧ fr < aN v 0 j + f_Mo_takes (aN v 1 j)) ∨ ∃ j, j < gN v 1 ∧ aN v 2 j < to ∧ fr < aN v 2 j + f_Mo_takes (aN v 3 j))
  | 0, i, h, h0 => by omega
  | k + 1, i, h, h0 => by
    unfold f_Mo_taken_2
    by_cases hi : i < gN v 0
    · rw [if_pos hi]
      by_cases z : aN v 0 i < to ∧ fr < aN v 0 i + f_Mo_takes (aN v 1 i)
      · rw [if_pos z.1, if_neg (by omega)]; exact ⟨fun _ => Or.inl ⟨i, Nat.le_refl _, hi, z⟩, fun _ => rfl⟩
      · have e : (if aN v 0 i < to then (if aN v 0 i + f_Mo_takes (aN v 1 i) ≤ fr then f_Mo_taken_2 fr to v k (i + 1) else true) else f_Mo_taken_2 fr to v k (i + 1)) = f_Mo_taken_2 fr to v k (i + 1) := by
          by_cases z1 : aN v 0 i < to
          · rw [if_pos z1, if_pos (by omega)]
          · rw [if_neg z1]
        rw [e, tk_l2 fr to v k (i + 1) (by omega) (by omega)]
        constructor
        · rintro (⟨j, h1, h2⟩ | h2)
          · exact Or.inl ⟨j, by omega, h2⟩
          · exact Or.inr h2
        · rintro (⟨j, h1, h2⟩ | h2)
          · rcases Nat.eq_or_lt_of_le h1 with e | e
            · subst e; exact absurd h2.2 z
            · exact Or.inl ⟨j, e, h2⟩
          · exact Or.inr h2
    · rw [if_neg hi, tk_l50 fr to v _ _ (by omega)]
      constructor
      · rintro ⟨j, _, h2⟩; exact Or.inr ⟨j, h2⟩
      · rintro (⟨j, h1, h2, _⟩ | ⟨j, h2⟩)
        · omega
        · exact ⟨j, Nat.zero_le _, h2⟩
theorem taken_iff {u v : S5} (h : cH u v) {f y : Nat} (h1 : 1 ≤ f) (h2 : f + y ≤ 1535) : f_Mo_taken (32768 + f * 16 - 16) (32768 + f * 16 + 16 * y + 16) v = true ↔ ∃ j, f - 1 ≤ j ∧ j ≤ f + y ∧ ¬ aN u 0 j = 0 := by
  obtain ⟨hB, hO, hL, hK, hS⟩ := h
  unfold f_Mo_taken
  rw [tk_l2 _ _ v _ _ (by omega) (by omega)]
  have key : ∀ b, b < 1536 → ¬ aN u 2 b = 0 → (32768 + b * 16 < 32768 + f * 16 + 16 * y + 16 ∧ 32768 + f * 16 - 16 < 32768 + b * 16 + 16 * un (aN u 1 b)) → ∃ j, f - 1 ≤ j ∧ j ≤ f + y ∧ ¬ aN u 0 j = 0 := by
    intro b hb hs hh
    obtain ⟨_, g1, g2, _, g3, _⟩ := hB b hb hs
    have hu := un_1 (aN u 1 b)
    by_cases z : f - 1 ≤ b
    · exact ⟨b, z, by omega, by rw [g3 b (Nat.le_refl _) (by omega)]; omega⟩
    · exact ⟨f - 1, Nat.le_refl _, by omega, by rw [g3 (f - 1) (by omega) (by omega)]; omega⟩
  constructor
  · rintro (⟨j, _, hj, h3, h4⟩ | ⟨j, hj, h3, h4⟩)
    · obtain ⟨b, hb, e1, e2, e3⟩ := hL.1 j hj
      rw [takes_un, e1, e3] at h4
      rw [e1] at h3
      exact key b hb (by omega) ⟨h3, h4⟩
    · obtain ⟨e1, e2, e3⟩ := hK.2.2.2.1 j hj
      rw [takes_un, e1, e3] at h4
      rw [e1] at h3
      exact key _ (hK.2.2.1 _ (by omega)) (by omega) ⟨h3, h4⟩
  · rintro ⟨j, h3, h4, h5⟩
    obtain ⟨g1, g2, g3⟩ := hO j (by omega) h5
    have hb : aN u 0 j - 1 < 1536 := by omega
    have hs : aN u 2 (aN u 0 j - 1) = 1 ∨ aN u 2 (aN u 0 j - 1) = 2 := by
      have := (hB _ hb g1).1
      omega
    rcases hs with e | e
    · left
      obtain ⟨k, hk, e1⟩ := hL.2.2.1 _ hb e
      obtain ⟨b, hb2, e2, e3, e4⟩ := hL.1 k hk
      have e5 : b = aN u 0 j - 1 := by omega
      subst e5
      exact ⟨k, Nat.zero_le _, hk, by rw [e1]; omega, by rw [takes_un, e1, e4]; omega⟩
    · right
      obtain ⟨k, hk, e1⟩ := hK.2.2.2.2.2.1 _ hb e
      obtain ⟨e2, e3, e4⟩ := hK.2.2.2.1 k hk
      rw [e1] at e2 e4
      exact ⟨k, hk, by rw [e2]; omega, by rw [takes_un, e2, e4]; omega⟩
-- where there is room
def rmW (ow : Nat → Nat) (y f : Nat) : Prop := ∀ j, f - 1 ≤ j → j ≤ f + y → ow j = 0
theorem fr_l (y : Nat) (u : S5) : ∀ (k q j : Nat), 1536 < k + j → j ≤ 1536 → q ≤ j → q < y + 2 → (∀ i, j - q ≤ i → i < j → aN u 0 i = 0) → (q = j ∨ (q + 1 ≤ j ∧ ¬ aN u 0 (j - q - 1) = 0)) → (∀ f, 1 ≤ f → f + y < j → ¬ rmW (aN u 0) y f) →
    (¬ f_He_findRoom_4 y u k q j = 0 → 1 ≤ f_He_findRoom_4 y u k q j ∧ f_He_findRoom_4 y u k q j + y ≤ 1535 ∧ rmW (aN u 0) y (f_He_findRoom_4 y u k q j) ∧ ∀ f, 1 ≤ f → f < f_He_findRoom_4 y u k q j → ¬ rmW (aN u 0) y f) ∧ (f_He_findRoom_4 y u k q j = 0 → ∀ f, 1 ≤ f → f + y ≤ 1535 → ¬ rmW (aN u 0) y f)
  | 0, q, j, h1, h2, h3, h4, h5, h6, h7 => by omega
  | k + 1, q, j, h1, h2, h3, h4, h5, h6, h7 => by
    unfold f_He_findRoom_4
    by_cases hj : j < 1536
    · rw [if_pos hj]
      dsimp only
      by_cases ho : aN u 0 j = 0
      · rw [if_pos ho]
        by_cases hy : q + 1 = y + 2
        · rw [if_pos hy]
          refine ⟨fun _ => ⟨by omega, by omega, fun i g1 g2 => ?_, fun f g1 g2 => h7 f g1 (by omega)⟩, fun z => by omega⟩
          by_cases e : i = j
          · rw [e]; exact ho
          · exact h5 i (by omega) (by omega)
        · rw [if_neg hy]
          refine fr_l y u k (q + 1) (j + 1) (by omega) (by omega) (by omega) (by omega) (fun i g1 g2 => ?_) ?_ (fun f g1 g2 => ?_)
          · by_cases e : i = j
            · rw [e]; exact ho
            · exact h5 i (by omega) (by omega)
          · rcases h6 with e | ⟨e1, e2⟩
            · left; omega
            · right; exact ⟨by omega, by rw [show j + 1 - (q + 1) - 1 = j - q - 1 by omega]; exact e2⟩
          · by_cases e : f + y < j
            · exact h7 f g1 e
            · intro hr
              rcases h6 with e1 | ⟨e1, e2⟩
              · omega
              · exact e2 (hr (j - q - 1) (by omega) (by omega))
      · rw [if_neg ho, if_neg (by omega)]
        refine fr_l y u k 0 (j + 1) (by omega) (by omega) (by omega) (by omega) (fun i g1 g2 => by omega) (Or.inr ⟨by omega, by simpa using ho⟩) (fun f g1 g2 => ?_)
        by_cases e : f + y < j
        · exact h7 f g1 e
        · intro hr; exact ho (hr j (by omega) (by omega))
    · rw [if_neg hj]
      exact ⟨fun z => absurd rfl z, fun _ f g1 g2 => h7 f g1 (by omega)⟩
theorem findRoom_spec (y : Nat) (u : S5) : (¬ f_He_findRoom y u = 0 → 1 ≤ f_He_findRoom y u ∧ f_He_findRoom y u + y ≤ 1535 ∧ rmW (aN u 0) y (f_He_findRoom y u) ∧ ∀ f, 1 ≤ f → f < f_He_findRoom y u → ¬ rmW (aN u 0) y f) ∧ (f_He_findRoom y u = 0 → ∀ f, 1 ≤ f → f + y ≤ 1535 → ¬ rmW (aN u 0) y f) :=
  fr_l y u 1537 0 0 (by omega) (by omega) (by omega) (by omega) (fun i g1 g2 => by omega) (Or.inl rfl) (fun f g1 g2 => by omega)
theorem blk_y {u v : S5} (h : cH u v) (n : Int32) (y F : Nat) (hy : y = un n.toNatClampNeg) (h1 : 1 ≤ F) (h2 : F + y ≤ 1535) (hr : rmW (aN u 0) y F) (hm : ∀ f, 1 ≤ f → f < F → ¬ rmW (aN u 0) y f) : ∀ (k f : Nat), 1536 < k + f → f ≤ F → f_Mo_block_21 n v k (32768 + f * 16) = f_Mo_block_91 n v (32768 + F * 16) (n.toNatClampNeg + 1) (32768 + F * 16) (uN (sN (uN v 0 (gN v 0) (32768 + F * 16)) 0 (gN v 0 + 1)) 1 (gN v 0) n.toNatClampNeg)
  | 0, f, h3, h4 => by omega
  | k + 1, f, h3, h4 => by
    unfold f_Mo_block_21
    rw [takes_un, ← hy, if_pos (by omega)]
    by_cases e : f = F
    · subst e
      rw [if_neg (by omega), if_neg (fun q => by
        obtain ⟨j, g1, g2, g3⟩ := (taken_iff h h1 h2).mp q
        exact g3 (hr j g1 g2))]
    · by_cases z : f = 0
      · rw [if_pos (by omega)]
        have := blk_y h n y F hy h1 h2 hr hm k (f + 1) (by omega) (by omega)
        rw [show 32768 + f * 16 + 16 = 32768 + (f + 1) * 16 by omega]
        exact this
      · rw [if_neg (by omega), if_pos ((taken_iff h (by omega) (by omega)).mpr (Classical.byContradiction fun q => hm f (by omega) (by omega) (fun j g1 g2 => Classical.byContradiction fun g3 => q ⟨j, g1, g2, g3⟩)))]
        have := blk_y h n y F hy h1 h2 hr hm k (f + 1) (by omega) (by omega)
        rw [show 32768 + f * 16 + 16 = 32768 + (f + 1) * 16 by omega]
        exact this
theorem blk_n {u v : S5} (h : cH u v) (n : Int32) (y : Nat) (hy : y = un n.toNatClampNeg) (hm : ∀ f, 1 ≤ f → f + y ≤ 1535 → ¬ rmW (aN u 0) y f) : ∀ (k f : Nat), f_Mo_block_21 n v k (32768 + f * 16) = (0, v)
  | 0, f => rfl
  | k + 1, f => by
    unfold f_Mo_block_21
    rw [takes_un, ← hy]
    by_cases hc : 32768 + f * 16 + 16 * y + 16 ≤ 57344
    · rw [if_pos hc]
      have ih := blk_n h n y hy hm k (f + 1)
      rw [show 32768 + (f + 1) * 16 = 32768 + f * 16 + 16 by omega] at ih
      by_cases z : f = 0
      · rw [if_pos (by omega)]; exact ih
      · rw [if_neg (by omega), if_pos ((taken_iff h (by omega) (by omega)).mpr (Classical.byContradiction fun q => hm f (by omega) (by omega) (fun j g1 g2 => Classical.byContradiction fun g3 => q ⟨j, g1, g2, g3⟩)))]
        exact ih
    · rw [if_neg hc]
