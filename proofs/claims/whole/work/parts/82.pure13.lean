-- ===== what is reckoned
theorem or_z {x y : Int32} : x ||| y = 0 ↔ x = 0 ∧ y = 0 := by
  rw [b_zero, b_zero, b_zero]
  constructor
  · intro h
    refine ⟨fun i hi => ?_, fun i hi => ?_⟩
    · have := h i hi; rw [b_or] at this; simp at this; exact this.1
    · have := h i hi; rw [b_or] at this; simp at this; exact this.2
  · rintro ⟨h1, h2⟩ i hi
    rw [b_or, h1 i hi, h2 i hi]; rfl
theorem has_eq {x : Int32} {i : Nat} (hi : i < 32) : f_Mo_has x (nI i) = bt x i := by
  unfold f_Mo_has
  by_cases h : bt x i = true
  · rw [if_pos ((b_test hi).mpr h), h]
  · rw [if_neg (fun q => h ((b_test hi).mp q)), Bool.eq_false_iff.mpr h]
theorem s69 (f : Int32) (mi : Bool) (d : Nat) (a da b db : Int32) (u : S5) (x22 : Int32) : ∀ (k i : Nat) (fm : Bool) (un : Int32), 32 < k + i → i ≤ 32 → ∀ c, c < 32 → (bt (f_Mo_sum1_69 f mi d a da b db u x22 k i fm un) c = true ↔ bt un c = true ∨ (i ≤ c ∧ (fm = true ∨ ∃ j, i ≤ j ∧ j ≤ c ∧ bt (da ||| db) j = true)))
  | 0, i, fm, un, h1, h2 => by omega
  | k + 1, i, fm, un, h1, h2 => by
    intro c hc
    unfold f_Mo_sum1_69
    by_cases hi : i < 32
    · rw [if_pos hi]
      dsimp only
      rw [has_eq hi]
      by_cases hx : fm = true ∨ bt (da ||| db) i = true
      · have e : (if fm = true then true else if bt (da ||| db) i = true then true else false) = true := by
          rcases hx with q | q
          · rw [if_pos q]
          · rw [if_pos q]; simp
        rw [e, if_pos rfl, s69 f mi d a da b db u x22 k (i + 1) true _ (by omega) (by omega) c hc, b_or, b_one hi hc]
        constructor
        · rintro (q | q)
          · simp at q
            rcases q with q | q
            · exact Or.inl q
            · subst q
              refine Or.inr ⟨Nat.le_refl _, ?_⟩
              rcases hx with z | z
              · exact Or.inl z
              · exact Or.inr ⟨i, Nat.le_refl _, Nat.le_refl _, z⟩
          · refine Or.inr ⟨by omega, ?_⟩
            rcases hx with z | z
            · exact Or.inl z
            · exact Or.inr ⟨i, Nat.le_refl _, by omega, z⟩
        · rintro (q | ⟨q1, q2⟩)
          · left; simp [q]
          · by_cases e2 : i = c
            · left; simp [e2]
            · right; exact ⟨by omega, Or.inl rfl⟩
      · have e : (if fm = true then true else if bt (da ||| db) i = true then true else false) = false := by
          rw [if_neg (fun q => hx (Or.inl q)), if_neg (fun q => hx (Or.inr q))]
        rw [e, if_neg (by decide), s69 f mi d a da b db u x22 k (i + 1) false _ (by omega) (by omega) c hc]
        constructor
        · rintro (q | ⟨q1, q2⟩)
          · exact Or.inl q
          · rcases q2 with z | ⟨j, z1, z2, z3⟩
            · cases z
            · exact Or.inr ⟨by omega, Or.inr ⟨j, by omega, z2, z3⟩⟩
        · rintro (q | ⟨q1, q2⟩)
          · exact Or.inl q
          · rcases q2 with z | ⟨j, z1, z2, z3⟩
            · exact absurd (Or.inl z) hx
            · have e2 : ¬ j = i := fun e2 => hx (Or.inr (by rw [← e2]; exact z3))
              exact Or.inr ⟨by omega, Or.inr ⟨j, by omega, z2, z3⟩⟩
    · rw [if_neg hi]
      constructor
      · intro q; exact Or.inl q
      · rintro (q | ⟨q1, _⟩)
        · exact q
        · omega
theorem b_neg (e : Int32) {c : Nat} (hc : c < 32) : bt (e ||| -e) c = true ↔ ∃ j, j ≤ c ∧ bt e j = true := by
  have h : bt (-e) c = (bt e c ^^ decide (∃ j, j < c ∧ bt e j = true)) := by
    unfold bt
    rw [Int32.toBitVec_neg, BitVec.getLsbD_neg]
    simp [hc]
  rw [b_or, h]
  by_cases z : bt e c = true
  · rw [z]; simp; exact ⟨c, Nat.le_refl _, z⟩
  · rw [Bool.eq_false_iff.mpr z]
    simp
    constructor
    · rintro ⟨j, z1, z2⟩; exact ⟨j, by omega, z2⟩
    · rintro ⟨j, z1, z2⟩
      refine ⟨j, ?_, z2⟩
      rcases Nat.eq_or_lt_of_le z1 with e2 | e2
      · subst e2; exact absurd z2 z
      · exact e2
theorem un_add (f : Int32) (mi : Bool) (d : Nat) (a da b db : Int32) (u : S5) (x22 : Int32) : f_Mo_sum1_69 f mi d a da b db u x22 33 0 false 0 = if (da ||| db) = 0 then 0 else (da ||| db) ||| (-(da ||| db)) := by
  have e : f_Mo_sum1_69 f mi d a da b db u x22 33 0 false 0 = (da ||| db) ||| (-(da ||| db)) := by
    refine b_ext (fun c hc => ?_)
    rw [Bool.eq_iff_iff, s69 f mi d a da b db u x22 33 0 false 0 (by omega) (by omega) c hc, b_neg _ hc, b_0]
    constructor
    · rintro (q | ⟨_, q | ⟨j, _, z⟩⟩)
      · cases q
      · cases q
      · exact ⟨j, z⟩
    · rintro ⟨j, z⟩; exact Or.inr ⟨Nat.zero_le _, Or.inr ⟨j, Nat.zero_le _, z⟩⟩
  rw [e]
  by_cases z : (da ||| db) = 0
  · rw [if_pos z, z]; rfl
  · rw [if_neg z]
def sureB (o da db a b : Bool) : Bool := (!da && (a == o)) || (!db && (b == o))
theorem s228 (f : Int32) (mi : Bool) (d : Nat) (a da b db : Int32) (u : S5) (x1 : Int32) : ∀ (k i : Nat) (un : Int32), 32 < k + i → i ≤ 32 → ∀ c, c < 32 → bt (f_Mo_sum1_228 f mi d a da b db u x1 k i un) c = (bt un c || (decide (i ≤ c) && ((bt da c || bt db c) && !(sureB (decide (f = 6)) (bt da c) (bt db c) (bt a c) (bt b c)))))
  | 0, i, un, h1, h2 => by omega
  | k + 1, i, un, h1, h2 => by
    intro c hc
    unfold f_Mo_sum1_228
    by_cases hi : i < 32
    · rw [if_pos hi]
      dsimp only
      rw [has_eq hi, has_eq hi, has_eq hi, has_eq hi]
      have ib := fun un => s228 f mi d a da b db u x1 k (i + 1) un (by omega) (by omega) c hc
      have fin : ∀ t : Bool, t = ((bt da i || bt db i) && !(sureB (decide (f = 6)) (bt da i) (bt db i) (bt a i) (bt b i))) → bt (if t = true then f_Mo_sum1_228 f mi d a da b db u x1 k (i + 1) (un ||| ((1 : Int32) <<< (nI i &&& 31))) else f_Mo_sum1_228 f mi d a da b db u x1 k (i + 1) un) c = (bt un c || (decide (i ≤ c) && ((bt da c || bt db c) && !(sureB (decide (f = 6)) (bt da c) (bt db c) (bt a c) (bt b c))))) := by
        intro t ht
        by_cases e : i = c
        · subst e
          rw [← ht]
          cases t
          · rw [if_neg (by decide), ib, decide_eq_false (show ¬ i + 1 ≤ i by omega)]; simp
          · rw [if_pos rfl, ib, b_or, b_one hi hi]; simp
        · cases t
          · rw [if_neg (by decide), ib]
            by_cases e2 : i ≤ c
            · simp [e2, show i + 1 ≤ c by omega]
            · simp [e2, show ¬ i + 1 ≤ c by omega]
          · rw [if_pos rfl, ib, b_or, b_one hi hc]
            by_cases e2 : i ≤ c
            · simp [e, e2, show i + 1 ≤ c by omega]
            · simp [e, e2, show ¬ i + 1 ≤ c by omega]
      have hf : (if f = 6 then true else false) = decide (f = 6) := ite_tf _
      simp only [hf]
      have bb : ∀ p q : Bool, (b2i p = b2i q) ↔ (p == q) = true := fun p q => by cases p <;> cases q <;> decide
      simp only [bb]
      rw [← fin _ rfl]
      unfold sureB
      generalize decide (f = 6) = o
      cases bt da i <;> cases bt db i <;> cases bt a i <;> cases bt b i <;> cases o <;> rfl
    · rw [if_neg hi]; simp; intro; omega
theorem un_ao (f : Int32) (mi : Bool) (d : Nat) (a da b db : Int32) (u : S5) (x1 : Int32) (hf : f = 6 ∨ f = 7) : f_Mo_sum1_228 f mi d a da b db u x1 33 0 0 = f_Rk_ungiven f a da b db := by
  refine b_ext (fun c hc => ?_)
  rw [s228 f mi d a da b db u x1 33 0 0 (by omega) (by omega) c hc, b_0]
  unfold f_Rk_ungiven
  by_cases z : (da ||| db) = 0
  · rw [if_pos z, b_0]
    obtain ⟨z1, z2⟩ := or_z.mp z
    rw [z1, z2, b_0]; simp
  · rw [if_neg z]
    rcases hf with rfl | rfl
    · rw [if_neg (by decide), if_neg (by decide), if_neg (by decide), if_neg (by decide), if_neg (by decide), if_neg (by decide), if_pos rfl, b_and, b_and, b_or, b_or, b_or, b_xor, b_xor, b_m1 c hc]
      unfold sureB
      cases bt da c <;> cases bt db c <;> cases bt a c <;> cases bt b c <;> rfl
    · rw [if_neg (by decide), if_neg (by decide), if_neg (by decide), if_neg (by decide), if_neg (by decide), if_neg (by decide), if_neg (by decide), if_pos rfl, b_and, b_and, b_or, b_or, b_or]
      unfold sureB
      cases bt da c <;> cases bt db c <;> cases bt a c <;> cases bt b c <;> rfl
/-- sum of the reference, by the class's kind -/
theorem sum_eq (f : Nat) (mi : Bool) (k : Int32) (hk : (f = 0 ∧ mi = false ∧ k = 0) ∨ (f = 0 ∧ mi = true ∧ k = 8) ∨ (f = 2 ∧ k = 2) ∨ (f = 3 ∧ k = 3) ∨ (f = 4 ∧ k = 4) ∨ (f = 6 ∧ k = 6) ∨ (f = 7 ∧ k = 7)) (d : Nat) (a da b db : Int32) (v : S5) : f_Mo_sum1 (nI f) mi d a da b db v = f_Mo_give d (f_Rk_value k a b) (f_Rk_ungiven k a da b db) v := by
  unfold f_Mo_sum1 f_Mo_sum1_342
  rcases hk with ⟨rfl, rfl, rfl⟩ | ⟨rfl, rfl, rfl⟩ | ⟨rfl, rfl⟩ | ⟨rfl, rfl⟩ | ⟨rfl, rfl⟩ | ⟨rfl, rfl⟩ | ⟨rfl, rfl⟩
  · rw [if_pos (by decide)]
    dsimp only
    rw [un_add]
    unfold f_Rk_value f_Rk_ungiven
    rw [if_pos rfl, if_neg (by decide), if_pos rfl]
  · rw [if_pos (by decide)]
    dsimp only
    rw [un_add]
    have e1 : f_Rk_value 8 a b = a - b := by
      unfold f_Rk_value
      rw [if_neg (by decide), if_neg (by decide), if_neg (by decide), if_neg (by decide), if_neg (by decide), if_neg (by decide), if_neg (by decide), if_neg (by decide), if_pos rfl]
    have e2 : f_Rk_ungiven 8 a da b db = if (da ||| db) = 0 then 0 else (da ||| db) ||| (-(da ||| db)) := by
      unfold f_Rk_ungiven
      by_cases z : (da ||| db) = 0
      · rw [if_pos z, if_pos z]
      · rw [if_neg z, if_neg z, if_neg (by decide), if_neg (by decide), if_neg (by decide), if_neg (by decide), if_neg (by decide), if_neg (by decide), if_neg (by decide), if_neg (by decide), if_pos rfl]
    rw [e1, e2, if_pos rfl]
  · rw [if_neg (by decide), if_neg (by decide), if_pos (by decide)]
    dsimp only
    have e1 : f_Rk_value 2 a b = if b ≤ a then 0 else 1 := by
      unfold f_Rk_value f_Rk_isBelow
      rw [if_neg (by decide), if_neg (by decide), if_pos rfl]
      by_cases z : b ≤ a
      · rw [if_pos z, if_pos z]; rfl
      · rw [if_neg z, if_neg z]; rfl
    have e2 : f_Rk_ungiven 2 a da b db = if (da ||| db) = 0 then 0 else 1 := by
      unfold f_Rk_ungiven
      by_cases z : (da ||| db) = 0
      · rw [if_pos z, if_pos z]
      · rw [if_neg z, if_neg z, if_neg (by decide), if_neg (by decide), if_pos rfl]
    rw [e1, e2]
  · rw [if_neg (by decide), if_neg (by decide), if_neg (by decide), if_pos (by decide)]
    dsimp only
    have e1 : f_Rk_value 3 a b = if 0 ≤ (lg_cmp (a.toInt64 &&& 4294967295) (b.toInt64 &&& 4294967295)) then 0 else 1 := by
      unfold f_Rk_value f_Rk_isBelowUnsigned
      rw [if_neg (by decide), if_neg (by decide), if_neg (by decide), if_pos rfl]
      by_cases z : 0 ≤ (lg_cmp (a.toInt64 &&& 4294967295) (b.toInt64 &&& 4294967295))
      · rw [if_pos z, if_pos z]; rfl
      · rw [if_neg z, if_neg z]; rfl
    have e2 : f_Rk_ungiven 3 a da b db = if (da ||| db) = 0 then 0 else 1 := by
      unfold f_Rk_ungiven
      by_cases z : (da ||| db) = 0
      · rw [if_pos z, if_pos z]
      · rw [if_neg z, if_neg z, if_neg (by decide), if_neg (by decide), if_neg (by decide), if_pos rfl]
    rw [e1, e2]
  · rw [if_neg (by decide), if_neg (by decide), if_neg (by decide), if_neg (by decide), if_pos (by decide)]
    have e1 : f_Rk_value 4 a b = a ^^^ b := by
      unfold f_Rk_value
      rw [if_neg (by decide), if_neg (by decide), if_neg (by decide), if_neg (by decide), if_pos rfl]
    have e2 : f_Rk_ungiven 4 a da b db = da ||| db := by
      unfold f_Rk_ungiven
      by_cases z : (da ||| db) = 0
      · rw [if_pos z, z]
      · rw [if_neg z, if_neg (by decide), if_neg (by decide), if_neg (by decide), if_neg (by decide), if_pos rfl]
    rw [e1, e2]
  · rw [if_neg (by decide), if_neg (by decide), if_neg (by decide), if_neg (by decide), if_neg (by decide)]
    unfold f_Mo_sum1_204 f_Mo_sum1_342
    dsimp only
    rw [un_ao (nI 6) mi d a da b db v _ (Or.inl rfl)]
    have e1 : f_Rk_value 6 a b = a ||| b := by
      unfold f_Rk_value
      rw [if_neg (by decide), if_neg (by decide), if_neg (by decide), if_neg (by decide), if_neg (by decide), if_neg (by decide), if_pos rfl]
    rw [e1, if_pos (by decide)]
    rfl
  · rw [if_neg (by decide), if_neg (by decide), if_neg (by decide), if_neg (by decide), if_neg (by decide)]
    unfold f_Mo_sum1_204 f_Mo_sum1_342
    dsimp only
    rw [un_ao (nI 7) mi d a da b db v _ (Or.inr rfl)]
    have e1 : f_Rk_value 7 a b = a &&& b := by
      unfold f_Rk_value
      rw [if_neg (by decide), if_neg (by decide), if_neg (by decide), if_neg (by decide), if_neg (by decide), if_neg (by decide), if_neg (by decide), if_pos rfl]
    rw [e1, if_neg (by decide)]
    rfl
