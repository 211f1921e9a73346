-- ===== which blocks are found: the reference
theorem of_iff {v : S5} {sz : Nat → Nat} {k b : Nat} (h1 : aN v 0 k = 32768 + b * 16) (h2 : aN v 1 k = sz b) (hb : b < 1536) (hs : sz b ≤ 16384) (x : Int32) : f_Mo_of k x v = true ↔ isA sz x b := by
  unfold f_Mo_of isA
  dsimp only
  rw [h1, h2]
  by_cases z : x < 0
  · have n1 : ¬ x = nI (32768 + b * 16) := fun q => by rw [q] at z; exact nI_pos (by omega) z
    have n2 : x < nI (32768 + b * 16) := by
      rw [Int32.lt_iff_toInt_lt] at z ⊢
      rw [nI_toInt (by omega)]
      have : (0 : Int32).toInt = 0 := by decide
      omega
    rw [if_neg n1, if_pos n2]
    constructor
    · intro q; cases q
    · rintro ⟨m, m1, rfl, _⟩; exact absurd z (nI_pos m1)
  · obtain ⟨m, hm, rfl⟩ := nI_of z
    by_cases z1 : m = 32768 + b * 16
    · subst z1
      rw [if_pos rfl]
      exact ⟨fun _ => ⟨_, hm, rfl, Or.inl rfl⟩, fun _ => rfl⟩
    · rw [if_neg (fun q => z1 ((nI_eq hm (by omega)).mp q))]
      by_cases z2 : m < 32768 + b * 16
      · rw [if_pos ((nI_ltI hm (by omega)).mpr z2)]
        constructor
        · intro q; cases q
        · rintro ⟨m', m1, m2, m3⟩
          have := (nI_eq hm m1).mp m2
          omega
      · rw [if_neg (fun q => z2 ((nI_ltI hm (by omega)).mp q))]
        by_cases z3 : 32768 + b * 16 + sz b ≤ m
        · rw [if_pos ((nI_leI (by omega) hm).mpr z3)]
          constructor
          · intro q; cases q
          · rintro ⟨m', m1, m2, m3⟩
            have := (nI_eq hm m1).mp m2
            omega
        · rw [if_neg (fun q => z3 ((nI_leI (by omega) hm).mp q))]
          exact ⟨fun _ => ⟨m, hm, rfl, Or.inr ⟨by omega, by omega⟩⟩, fun _ => rfl⟩
theorem t_23 (at_ q : Nat) (v : S5) (i : Nat) (kk : Nat → Bool) : ∀ (k j : Nat), 8 < k + j → j ≤ 8 → (f_Mo_tells_23 at_ q v i kk k j = true ↔ (∀ c, j ≤ c → c < 8 → aB v 1 (8 * (at_ + i) + c) = false) ∧ kk (i + 1) = true)
  | 0, j, h1, h2 => by omega
  | k + 1, j, h1, h2 => by
    unfold f_Mo_tells_23
    by_cases hj : j < 8
    · rw [if_pos hj]
      by_cases z : aB v 1 (8 * (at_ + i) + j) = true
      · rw [if_pos z]
        constructor
        · intro q; cases q
        · rintro ⟨q, _⟩
          have := q j (Nat.le_refl _) hj
          rw [z] at this; cases this
      · rw [if_neg z, t_23 at_ q v i kk k (j + 1) (by omega) (by omega)]
        constructor
        · rintro ⟨q1, q2⟩
          refine ⟨fun c c1 c2 => ?_, q2⟩
          by_cases e : c = j
          · rw [e]; exact Bool.eq_false_iff.mpr z
          · exact q1 c (by omega) c2
        · rintro ⟨q1, q2⟩; exact ⟨fun c c1 c2 => q1 c (by omega) c2, q2⟩
    · rw [if_neg hj]
      exact ⟨fun q => ⟨fun c c1 c2 => by omega, q⟩, fun q => q.2⟩
theorem t_2 (at_ q : Nat) (v : S5) : ∀ (k i : Nat), 4 < k + i → i ≤ 4 → (f_Mo_tells_2 at_ q v k i = true ↔ (∀ c, i ≤ c → c < 4 → aB v 0 (at_ + c) = true ∧ ∀ j, j < 8 → aB v 1 (8 * (at_ + c) + j) = false) ∧ f_Mo_of q (f_Mo_word at_ v) v = true)
  | 0, i, h1, h2 => by omega
  | k + 1, i, h1, h2 => by
    unfold f_Mo_tells_2
    by_cases hi : i < 4
    · rw [if_pos hi]
      by_cases z : aB v 0 (at_ + i) = true
      · rw [if_pos z, t_23 at_ q v i _ 9 0 (by omega) (by omega), t_2 at_ q v k (i + 1) (by omega) (by omega)]
        constructor
        · rintro ⟨q1, q2, q3⟩
          refine ⟨fun c c1 c2 => ?_, q3⟩
          by_cases e : c = i
          · subst e; exact ⟨z, fun j hj => q1 j (Nat.zero_le _) hj⟩
          · exact q2 c (by omega) c2
        · rintro ⟨q1, q3⟩
          exact ⟨fun c _ c2 => (q1 i (Nat.le_refl _) hi).2 c c2, fun c c1 c2 => q1 c (by omega) c2, q3⟩
      · rw [if_neg z]
        constructor
        · intro q; cases q
        · rintro ⟨q1, _⟩; exact absurd (q1 i (Nat.le_refl _) hi).1 z
    · rw [if_neg hi]
      exact ⟨fun q => ⟨fun c c1 c2 => by omega, q⟩, fun q => q.2⟩
theorem tells_iff {u v : S5} (h : cM (aI u 0) (aI v 1) (aB v 0) (aB v 1)) {at_ : Nat} (ha : at_ + 4 ≤ 65536) (q : Nat) : f_Mo_tells at_ q v = true ↔ wOK u at_ ∧ f_Mo_of q (f_Me_word at_ u) v = true := by
  unfold f_Mo_tells wOK
  rw [t_2 at_ q v 5 0 (by omega) (by omega), M_open h ha, M_given h ha, M_word h ha]
  constructor
  · rintro ⟨q1, q2⟩
    exact ⟨⟨fun i hi => (q1 i (Nat.zero_le _) hi).1, fun i hi j hj => (q1 i (Nat.zero_le _) hi).2 j hj⟩, q2⟩
  · rintro ⟨⟨q1, q3⟩, q2⟩
    exact ⟨fun c _ c2 => ⟨q1 c c2, fun j hj => q3 c c2 j hj⟩, q2⟩
theorem i_103 (q : Nat) (v : S5) (b : Nat) (kk : Nat → Bool) : ∀ (k o : Nat), aN v 0 b + aN v 1 b < k + o → (f_Mo_isFound_103 q v b kk k o = true ↔ (∃ i, o + 4 * i + 4 ≤ aN v 0 b + aN v 1 b ∧ f_Mo_tells (o + 4 * i) q v = true) ∨ kk (b + 1) = true) ∨ aN v 0 b + aN v 1 b < o
  | 0, o, h => Or.inr (by omega)
  | k + 1, o, h => by
    by_cases hz : aN v 0 b + aN v 1 b < o
    · exact Or.inr hz
    left
    unfold f_Mo_isFound_103
    by_cases hc : o + 4 ≤ aN v 0 b + aN v 1 b
    · rw [if_pos hc]
      by_cases z : f_Mo_tells o q v = true
      · rw [if_pos z]
        exact ⟨fun _ => Or.inl ⟨0, by omega, z⟩, fun _ => rfl⟩
      · rw [if_neg z]
        rcases i_103 q v b kk k (o + 4) (by omega) with ih | ih
        · rw [ih]
          constructor
          · rintro (⟨i, i1, i2⟩ | q1)
            · exact Or.inl ⟨i + 1, by omega, by rw [show o + 4 * (i + 1) = o + 4 + 4 * i by omega]; exact i2⟩
            · exact Or.inr q1
          · rintro (⟨i, i1, i2⟩ | q1)
            · by_cases e : i = 0
              · subst e; exact absurd i2 z
              · exact Or.inl ⟨i - 1, by omega, by rw [show o + 4 + 4 * (i - 1) = o + 4 * i by omega]; exact i2⟩
            · exact Or.inr q1
        · omega
    · rw [if_neg hc]
      constructor
      · intro q1; exact Or.inr q1
      · rintro (⟨i, i1, i2⟩ | q1)
        · omega
        · exact q1
def fB (q : Nat) (v : S5) (c : Nat) : Prop := aB v 3 c = true ∧ ∃ i, aN v 0 c + 4 * i + 4 ≤ aN v 0 c + aN v 1 c ∧ f_Mo_tells (aN v 0 c + 4 * i) q v = true
theorem i_79 (q : Nat) (v : S5) : ∀ (k b : Nat), gN v 0 < k + b → b ≤ gN v 0 → (f_Mo_isFound_79 q v k b = true ↔ ∃ c, b ≤ c ∧ c < gN v 0 ∧ fB q v c)
  | 0, b, h1, h2 => by omega
  | k + 1, b, h1, h2 => by
    unfold f_Mo_isFound_79
    by_cases hb : b < gN v 0
    · rw [if_pos hb]
      have ih := i_79 q v k (b + 1) (by omega) (by omega)
      have up : (∃ c, b ≤ c ∧ c < gN v 0 ∧ fB q v c) ↔ fB q v b ∨ ∃ c, b + 1 ≤ c ∧ c < gN v 0 ∧ fB q v c := by
        constructor
        · rintro ⟨c, c1, c2, c3⟩
          by_cases e : c = b
          · subst e; exact Or.inl c3
          · exact Or.inr ⟨c, by omega, c2, c3⟩
        · rintro (q1 | ⟨c, c1, c2, c3⟩)
          · exact ⟨b, Nat.le_refl _, hb, q1⟩
          · exact ⟨c, by omega, c2, c3⟩
      rw [up]
      by_cases z : aB v 3 b = true
      · rw [if_pos z]
        rcases i_103 q v b (fun b9 => f_Mo_isFound_79 q v k b9) (aN v 1 b + 1) (aN v 0 b) (by omega) with g | g
        · rw [g, ih]
          unfold fB
          constructor
          · rintro (q1 | q1)
            · exact Or.inl ⟨z, q1⟩
            · exact Or.inr q1
          · rintro (q1 | q1)
            · exact Or.inl q1.2
            · exact Or.inr q1
        · omega
      · rw [if_neg z, ih]
        constructor
        · intro q1; exact Or.inr q1
        · rintro (q1 | q1)
          · exact absurd q1.1 z
          · exact q1
    · rw [if_neg hb]
      constructor
      · intro q1; cases q1
      · rintro ⟨c, c1, c2, _⟩; omega
theorem i_42 (q : Nat) (v : S5) : ∀ (k at_ : Nat), 65540 ≤ 4 * k + at_ → (f_Mo_isFound_42 q v k at_ = true ↔ (∃ i, at_ + 4 * i < 65536 ∧ (at_ + 4 * i < 32768 ∨ 57344 ≤ at_ + 4 * i) ∧ f_Mo_tells (at_ + 4 * i) q v = true) ∨ ∃ c, c < gN v 0 ∧ fB q v c) ∨ 65536 + 4 ≤ at_
  | 0, at_, h => by
    by_cases e : 65536 + 4 ≤ at_
    · exact Or.inr e
    · omega
  | k + 1, at_, h => by
    by_cases hz : 65536 + 4 ≤ at_
    · exact Or.inr hz
    left
    unfold f_Mo_isFound_42
    have i79 : f_Mo_isFound_79 q v (gN v 0 + 1) 0 = true ↔ ∃ c, c < gN v 0 ∧ fB q v c := by
      rw [i_79 q v _ _ (by omega) (by omega)]
      constructor
      · rintro ⟨c, _, z⟩; exact ⟨c, z⟩
      · rintro ⟨c, z⟩; exact ⟨c, Nat.zero_le _, z⟩
    by_cases hc : at_ < 65536
    · rw [if_pos hc]
      rcases i_42 q v k (at_ + 4) (by omega) with ih | ih
      · have sk : ¬ ((at_ < 32768 ∨ 57344 ≤ at_) ∧ f_Mo_tells at_ q v = true) → (f_Mo_isFound_42 q v k (at_ + 4) = true ↔ (∃ i, at_ + 4 * i < 65536 ∧ (at_ + 4 * i < 32768 ∨ 57344 ≤ at_ + 4 * i) ∧ f_Mo_tells (at_ + 4 * i) q v = true) ∨ ∃ c, c < gN v 0 ∧ fB q v c) := by
          intro hn
          rw [ih]
          constructor
          · rintro (⟨i, i1, i2, i3⟩ | q1)
            · refine Or.inl ⟨i + 1, by omega, ?_⟩
              rw [show at_ + 4 * (i + 1) = at_ + 4 + 4 * i by omega]; exact ⟨i2, i3⟩
            · exact Or.inr q1
          · rintro (⟨i, i1, i2, i3⟩ | q1)
            · by_cases e : i = 0
              · subst e; exact absurd ⟨i2, i3⟩ hn
              · refine Or.inl ⟨i - 1, by omega, ?_⟩
                rw [show at_ + 4 + 4 * (i - 1) = at_ + 4 * i by omega]; exact ⟨i2, i3⟩
            · exact Or.inr q1
        have yes : (at_ < 32768 ∨ 57344 ≤ at_) → f_Mo_tells at_ q v = true → ((∃ i, at_ + 4 * i < 65536 ∧ (at_ + 4 * i < 32768 ∨ 57344 ≤ at_ + 4 * i) ∧ f_Mo_tells (at_ + 4 * i) q v = true) ∨ ∃ c, c < gN v 0 ∧ fB q v c) := fun a b => Or.inl ⟨0, by omega, a, b⟩
        by_cases r1 : at_ < 32768
        · rw [if_pos r1]
          by_cases z : f_Mo_tells at_ q v = true
          · rw [if_pos z]; exact ⟨fun _ => yes (Or.inl r1) z, fun _ => rfl⟩
          · rw [if_neg z]; exact sk (fun y => z y.2)
        · rw [if_neg r1]
          by_cases r2 : at_ < 57344
          · rw [if_pos r2]; exact sk (fun y => by omega)
          · rw [if_neg r2]
            by_cases z : f_Mo_tells at_ q v = true
            · rw [if_pos z]; exact ⟨fun _ => yes (Or.inr (by omega)) z, fun _ => rfl⟩
            · rw [if_neg z]; exact sk (fun y => z y.2)
      · omega
    · rw [if_neg hc, i79]
      constructor
      · intro q1; exact Or.inr q1
      · rintro (⟨i, i1, _⟩ | q1)
        · omega
        · exact q1
theorem i_2 (q : Nat) (v : S5) : ∀ (k r : Nat), 32 < k + r → r ≤ 32 → (f_Mo_isFound_2 q v k r = true ↔ (∃ i, r ≤ i ∧ i < 32 ∧ ¬ f_Mo_anyDark i 32 v = true ∧ f_Mo_of q (aI v 2 i) v = true) ∨ (∃ i, 4 * i < 65536 ∧ (4 * i < 32768 ∨ 57344 ≤ 4 * i) ∧ f_Mo_tells (4 * i) q v = true) ∨ ∃ c, c < gN v 0 ∧ fB q v c)
  | 0, r, h1, h2 => by omega
  | k + 1, r, h1, h2 => by
    unfold f_Mo_isFound_2
    by_cases hr : r < 32
    · rw [if_pos hr]
      have ih := i_2 q v k (r + 1) (by omega) (by omega)
      have sk : ¬ (¬ f_Mo_anyDark r 32 v = true ∧ f_Mo_of q (aI v 2 r) v = true) → (f_Mo_isFound_2 q v k (r + 1) = true ↔ (∃ i, r ≤ i ∧ i < 32 ∧ ¬ f_Mo_anyDark i 32 v = true ∧ f_Mo_of q (aI v 2 i) v = true) ∨ (∃ i, 4 * i < 65536 ∧ (4 * i < 32768 ∨ 57344 ≤ 4 * i) ∧ f_Mo_tells (4 * i) q v = true) ∨ ∃ c, c < gN v 0 ∧ fB q v c) := by
        intro hn
        rw [ih]
        constructor
        · rintro (⟨i, i1, i2⟩ | q1)
          · exact Or.inl ⟨i, by omega, i2⟩
          · exact Or.inr q1
        · rintro (⟨i, i1, i2⟩ | q1)
          · by_cases e : i = r
            · subst e; exact absurd i2.2 hn
            · exact Or.inl ⟨i, by omega, i2⟩
          · exact Or.inr q1
      by_cases z1 : f_Mo_anyDark r 32 v = true
      · rw [if_pos z1]; exact sk (fun y => y.1 z1)
      · rw [if_neg z1]
        by_cases z2 : f_Mo_of q (aI v 2 r) v = true
        · rw [if_pos z2]; exact ⟨fun _ => Or.inl ⟨r, Nat.le_refl _, hr, z1, z2⟩, fun _ => rfl⟩
        · rw [if_neg z2]; exact sk (fun y => z2 y.2)
    · rw [if_neg hr]
      rcases i_42 q v 65537 0 (by omega) with g | g
      · rw [g]
        constructor
        · rintro (⟨i, i1, i2, i3⟩ | q1)
          · rw [show 0 + 4 * i = 4 * i by omega] at i1 i2 i3
            exact Or.inr (Or.inl ⟨i, i1, i2, i3⟩)
          · exact Or.inr (Or.inr q1)
        · rintro (⟨i, i1, i2, _⟩ | ⟨i, i1, i2, i3⟩ | q1)
          · omega
          · refine Or.inl ⟨i, ?_⟩
            rw [show 0 + 4 * i = 4 * i by omega]; exact ⟨i1, i2, i3⟩
          · exact Or.inr q1
      · omega
/-- found, as the reference asks, is found as the class asks -/
theorem isFound_iff {u v : S5} (h : Sim u v) {q b : Nat} (hq : q < gN v 0) (hb : b < 1536) (hqb : aN v 0 q = 32768 + b * 16) {v2 : S5} (f : FrM [] [] [] [] [3] v v2) : f_Mo_isFound q v2 = true ↔ roo u b ∨ ∃ c k, c < 1536 ∧ k < gN v 0 ∧ aN v 0 k = 32768 + c * 16 ∧ aN u 2 c = 1 ∧ aB v2 3 k = true ∧ edg u c b := by
  obtain ⟨f1, f2, f3, f4, f5⟩ := f
  have eM : cM (aI u 0) (aI v2 1) (aB v2 0) (aB v2 1) := by rw [f3 1 (by decide), f5 0 (by decide), f5 1 (by decide)]; exact h.M
  have eR : cR (aI u 2) (aI u 3) (aI v2 2) (aB v2 2) := by rw [f3 2 (by decide), f5 2 (by decide)]; exact h.R
  have eg : gN v2 0 = gN v 0 := f2 0 (by decide)
  have e0 : aN v2 0 = aN v 0 := f4 0 (by decide)
  have e1 : aN v2 1 = aN v 1 := f4 1 (by decide)
  have hsz : ∀ c, c < 1536 → aN u 2 c = 1 → aN u 1 c ≤ 16384 ∧ c + un (aN u 1 c) ≤ 1535 := fun c hc hs => ⟨(h.H.1 c hc (by omega)).2.2.2.1, (h.H.1 c hc (by omega)).2.2.1⟩
  have hln : ∀ k c, k < gN v 0 → c < 1536 → aN v 0 k = 32768 + c * 16 → aN u 2 c = 1 ∧ aN v 1 k = aN u 1 c := fun k c hk hc hkc => by
    obtain ⟨c2, g1, g2, g3, g4⟩ := h.H.2.2.1.1 k hk
    have : c2 = c := by omega
    subst this; exact ⟨g3, g4⟩
  obtain ⟨hsb, hlb⟩ := hln q b hq hb hqb
  have hof : ∀ x, f_Mo_of q x v2 = true ↔ isA (aN u 1) x b := fun x => of_iff (by rw [e0]; exact hqb) (by rw [e1]; exact hlb) hb (hsz b hb hsb).1 x
  unfold f_Mo_isFound
  rw [i_2 q v2 33 0 (by omega) (by omega), eg]
  unfold roo
  constructor
  · rintro (⟨i, _, i2, i3, i4⟩ | ⟨i, i1, i2, i3⟩ | ⟨k, k1, k2, i, i1, i2⟩)
    · left; left
      refine ⟨i, i2, Classical.byContradiction fun z => i3 ((R_ad eR i2).mpr z), ?_⟩
      rw [(eR i i2).1]; exact (hof _).mp i4
    · left; right
      obtain ⟨t1, t2⟩ := (tells_iff eM (by omega) q).mp i3
      refine ⟨i, ?_, t1, (hof _).mp t2⟩
      rcases i2 with i2 | i2
      · by_cases z : 4 * i < 16384
        · left; omega
        · exfalso
          have o1 := (M_open eM (by omega)).mp t1.1 0 (by omega)
          rw [f5 0 (by decide), h.O.1 (4 * i + 0) (by omega) (by omega)] at o1
          cases o1
      · right; omega
    · right
      obtain ⟨c, c1, c2, c3, c4⟩ := h.H.2.2.1.1 k k1
      have hc := hsz c c1 c3
      rw [e0, e1, c2, c4] at i1
      rw [e0, c2] at i2
      have n1 := un_n (aN u 1 c)
      obtain ⟨t1, t2⟩ := (tells_iff eM (by omega) q).mp i2
      exact ⟨c, k, c1, k1, c2, c3, k2, i, i1, t1, (hof _).mp t2⟩
  · rintro ((⟨r, r1, r2, r3⟩ | ⟨i, i1, i2, i3⟩) | ⟨c, k, c1, k1, c2, c3, k2, i, i1, t1, t2⟩)
    · left
      refine ⟨r, Nat.zero_le _, r1, fun z => (R_ad eR r1).mp z r2, ?_⟩
      rw [hof, ← (eR r r1).1]; exact r3
    · right; left
      refine ⟨i, by omega, by omega, (tells_iff eM (by omega) q).mpr ⟨i2, (hof _).mpr i3⟩⟩
    · right; right
      obtain ⟨g3, g4⟩ := hln k c k1 c1 c2
      have hc := hsz c c1 c3
      have n1 := un_n (aN u 1 c)
      refine ⟨k, k1, k2, i, by rw [e0, e1, c2, g4]; exact i1, ?_⟩
      rw [e0, c2]
      exact (tells_iff eM (by omega) q).mpr ⟨t1, (hof _).mpr t2⟩
