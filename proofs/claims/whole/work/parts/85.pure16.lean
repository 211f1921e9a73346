-- ===== which blocks are found: the class
def isA (sz : Nat → Nat) (x : Int32) (b : Nat) : Prop := ∃ m, m < 2 ^ 31 ∧ x = nI m ∧ (m = 32768 + b * 16 ∨ (32768 + b * 16 ≤ m ∧ m < 32768 + b * 16 + sz b))
theorem find_spec (x : Int32) {u : S5} (hB : gB (aN u 0) (aN u 1) (aN u 2)) (hW : gW (aN u 0) (aN u 1) (aN u 2)) :
    (f_He_find x u = u ∧ ∀ b, b < 1536 → aN u 2 b = 1 → isA (aN u 1) x b → ¬ aN u 4 b = 0) ∨ ∃ j, j < 1536 ∧ aN u 2 j = 1 ∧ aN u 4 j = 0 ∧ isA (aN u 1) x j ∧ f_He_find x u = fdSet u j ∧ ∀ b, b < 1536 → aN u 2 b = 1 → isA (aN u 1) x b → b = j := by
  have e1 : (32768 : Int32) = nI 32768 := by decide
  have e2 : (57344 : Int32) = nI 57344 := by decide
  -- an address of a block lies in its units
  have key : ∀ b, b < 1536 → aN u 2 b = 1 → isA (aN u 1) x b → ∃ m, 32768 + b * 16 ≤ m ∧ m < 57344 ∧ x = nI m ∧ hu x < 1536 ∧ aN u 0 (hu x) = b + 1 ∧ (m - 32768 - b * 16 < aN u 1 b ∨ m = 32768 + b * 16) := by
    rintro b hb hs ⟨m, m1, rfl, m2⟩
    obtain ⟨_, g1, g2, g3, g4, _⟩ := hB b hb (by omega)
    have n1 := un_n (aN u 1 b)
    have n2 := un_1 (aN u 1 b)
    have hm : 32768 + b * 16 ≤ m ∧ m < 57344 ∧ (m - 32768) / 16 < b + un (aN u 1 b) := by
      rcases m2 with q | q
      · omega
      · omega
    have hhu : hu (nI m) = (m - 32768) / 16 := by unfold hu; rw [nI_clamp m1]
    refine ⟨m, hm.1, hm.2.1, rfl, by rw [hhu]; omega, by rw [hhu]; exact g4 _ (by omega) hm.2.2, ?_⟩
    rcases m2 with q | q
    · exact Or.inr q
    · exact Or.inl (by omega)
  unfold f_He_find
  by_cases z1 : x < 32768
  · left
    rw [if_pos z1]
    refine ⟨rfl, fun b hb hs ha => ?_⟩
    obtain ⟨m, g1, g2, g3, _⟩ := key b hb hs ha
    rw [g3, e1, nI_ltI (by omega) (by decide)] at z1
    omega
  · rw [if_neg z1]
    by_cases z2 : x < 57344
    · rw [if_pos z2]
      obtain ⟨m, m1, m2, rfl⟩ := hp_a z1 (Int32.not_le.mpr z2)
      have hhu : hu (nI m) = (m - 32768) / 16 := by unfold hu; rw [nI_clamp (by omega)]
      have hub : hu (nI m) < 1536 := by rw [hhu]; omega
      by_cases o0 : aN u 0 (hu (nI m)) = 0
      · left
        rw [if_pos (by rw [o0]; decide)]
        refine ⟨rfl, fun b hb hs ha => ?_⟩
        obtain ⟨_, _, _, _, _, g5, _⟩ := key b hb hs ha
        omega
      · obtain ⟨w1, w2, w3⟩ := hW _ hub o0
        have ob : aN u 0 (hu (nI m)) ≤ 1536 := by omega
        rw [if_neg (fun q => o0 ((fd_n ob).mp q))]
        generalize hj : aN u 0 (hu (nI m)) - 1 = j at w1 w2 w3 ⊢
        have hjb : j < 1536 := by omega
        have uniq : ∀ b, b < 1536 → aN u 2 b = 1 → isA (aN u 1) (nI m) b → b = j := fun b hb hs ha => by
          obtain ⟨_, _, _, _, _, g5, _⟩ := key b hb hs ha
          omega
        by_cases s1 : aN u 2 j = 1
        · rw [if_pos s1]
          have eo : nI m - (32768 : Int32) - nI (j * 16) = nI (m - 32768 - j * 16) := by
            rw [e1, pk_sub (by omega), pk_sub (by omega)]
          rw [eo]
          have szb := (hB j hjb w1).2.2.2.1
          by_cases f0 : aN u 4 j = 0
          · rw [if_pos f0]
            by_cases c1 : nI (m - 32768 - j * 16) < nI (aN u 1 j)
            · rw [if_pos c1]
              right
              have := (nI_ltI (by omega) (by omega)).mp c1
              exact ⟨j, hjb, s1, f0, ⟨m, by omega, rfl, Or.inr ⟨by omega, by omega⟩⟩, rfl, uniq⟩
            · rw [if_neg c1]
              by_cases c2 : nI (m - 32768 - j * 16) = 0
              · rw [if_pos c2]
                right
                have := (rn_z (by omega)).mp c2
                exact ⟨j, hjb, s1, f0, ⟨m, by omega, rfl, Or.inl (by omega)⟩, rfl, uniq⟩
              · rw [if_neg c2]
                left
                refine ⟨rfl, fun b hb hs ha => ?_⟩
                exfalso
                obtain ⟨m', g1, g2, g3, _, g5, g6⟩ := key b hb hs ha
                have em : m = m' := (nI_eq (by omega) (by omega)).mp g3
                have eb := uniq b hb hs ha
                subst em; subst eb
                rcases g6 with g6 | g6
                · exact c1 ((nI_ltI (by omega) (by omega)).mpr g6)
                · exact c2 ((rn_z (by omega)).mpr (by omega))
          · rw [if_neg f0]
            left
            refine ⟨rfl, fun b hb hs ha => ?_⟩
            rw [uniq b hb hs ha]; exact f0
        · rw [if_neg s1]
          left
          refine ⟨rfl, fun b hb hs ha => ?_⟩
          rw [uniq b hb hs ha] at hs
          exact absurd hs s1
    · left
      rw [if_neg z2]
      refine ⟨rfl, fun b hb hs ha => ?_⟩
      obtain ⟨m, g1, g2, g3, _⟩ := key b hb hs ha
      rw [g3, e2, nI_ltI (by omega) (by decide)] at z2
      omega
/-- what was found, over the state before -/
def Jn (Q : Nat → Prop) (u0 u : S5) : Prop := FrS [] [8] [] [4, 5] u0 u ∧ OkF u ∧ (∀ b, b < 1536 → ¬ aN u 4 b = 0 → aN u0 2 b = 1 ∧ Q b) ∧ (∀ b, b < 1536 → ¬ aN u 4 b = 0 → ∃ i, i < gN u 8 ∧ aN u 5 i = 32768 + b * 16) ∧ ∀ i, i < gN u 8 → ∃ b, b < 1536 ∧ aN u 5 i = 32768 + b * 16 ∧ ¬ aN u 4 b = 0
def Gr (u u2 : S5) : Prop := (∀ b, ¬ aN u 4 b = 0 → ¬ aN u2 4 b = 0) ∧ gN u 8 ≤ gN u2 8 ∧ ∀ i, i < gN u 8 → aN u2 5 i = aN u 5 i
theorem Gr.rf {u : S5} : Gr u u := ⟨fun _ h => h, Nat.le_refl _, fun _ _ => rfl⟩
theorem Gr.tr {u v w : S5} (h1 : Gr u v) (h2 : Gr v w) : Gr u w := ⟨fun b h => h2.1 b (h1.1 b h), Nat.le_trans h1.2.1 h2.2.1, fun i hi => (h2.2.2 i (Nat.lt_of_lt_of_le hi h1.2.1)).trans (h1.2.2 i hi)⟩
def Geo (u : S5) : Prop := gB (aN u 0) (aN u 1) (aN u 2) ∧ gW (aN u 0) (aN u 1) (aN u 2) ∧ OkB u
theorem Jn.geo {Q : Nat → Prop} {u0 u : S5} (g : Geo u0) (h : Jn Q u0 u) : Geo u := by
  obtain ⟨f, _⟩ := h
  unfold Geo
  refine ⟨?_, ?_, g.2.2.fr f (by decide)⟩
  · rw [f.2.2.2.1 0 (by decide), f.2.2.2.1 1 (by decide), f.2.2.2.1 2 (by decide)]; exact g.1
  · rw [f.2.2.2.1 0 (by decide), f.2.2.2.1 1 (by decide), f.2.2.2.1 2 (by decide)]; exact g.2.1
theorem J_find {Q : Nat → Prop} {u0 u : S5} (g : Geo u0) (h : Jn Q u0 u) (x : Int32) (hQ : ∀ b, b < 1536 → aN u0 2 b = 1 → isA (aN u0 1) x b → Q b) : Jn Q u0 (f_He_find x u) ∧ Gr u (f_He_find x u) ∧ ∀ b, b < 1536 → aN u0 2 b = 1 → isA (aN u0 1) x b → ¬ aN (f_He_find x u) 4 b = 0 := by
  have g2 := h.geo g
  have e1 : aN u 1 = aN u0 1 := h.1.2.2.2.1 1 (by decide)
  have e2 : aN u 2 = aN u0 2 := h.1.2.2.2.1 2 (by decide)
  have hf := find_ok x g2.2.2 h.2.1
  have hfr := find_fr x u
  obtain ⟨j1, j2, j3, j4, j5⟩ := h
  rcases find_spec x g2.1 g2.2.1 with ⟨s1, s2⟩ | ⟨j, s1, s2, s3, s4, s5, s6⟩
  · rw [s1, ← e1, ← e2]
    rw [← e2] at j3
    exact ⟨⟨j1, j2, by rw [← e2]; exact j3, j4, j5⟩, Gr.rf, s2⟩
  · refine ⟨⟨FrS.tr j1 hfr, hf, ?_, ?_, ?_⟩, ?_, ?_⟩
    · rw [s5]
      intro b hb hn
      have hn : ¬ va_up (aN u 4) j 1 b = 0 := hn
      by_cases e : b = j
      · subst e; exact ⟨by rw [← e2]; exact s2, hQ b hb (by rw [← e2]; exact s2) (by rw [← e1]; exact s4)⟩
      · rw [vu_n e] at hn; exact j3 b hb hn
    · rw [s5]
      intro b hb hn
      have hn : ¬ va_up (aN u 4) j 1 b = 0 := hn
      show ∃ i, i < gN u 8 + 1 ∧ va_up (aN u 5) (gN u 8) (32768 + (j * 16)) i = 32768 + b * 16
      by_cases e : b = j
      · subst e; exact ⟨gN u 8, by omega, vu_e⟩
      · rw [vu_n e] at hn
        obtain ⟨i, z1, z2⟩ := j4 b hb hn
        exact ⟨i, by omega, by rw [vu_n (by omega)]; exact z2⟩
    · rw [s5]
      intro i hi
      have hi : i < gN u 8 + 1 := hi
      show ∃ b, b < 1536 ∧ va_up (aN u 5) (gN u 8) (32768 + (j * 16)) i = 32768 + b * 16 ∧ ¬ va_up (aN u 4) j 1 b = 0
      by_cases e : i = gN u 8
      · subst e; exact ⟨j, s1, vu_e, by rw [vu_e]; omega⟩
      · obtain ⟨b, z1, z2, z3⟩ := j5 i (by omega)
        refine ⟨b, z1, by rw [vu_n e]; exact z2, ?_⟩
        by_cases e2 : b = j
        · rw [e2, vu_e]; omega
        · rw [vu_n e2]; exact z3
    · rw [s5]
      refine ⟨fun b hn => ?_, Nat.le_succ _, fun i hi => vu_n (by omega)⟩
      show ¬ va_up (aN u 4) j 1 b = 0
      by_cases e : b = j
      · rw [e, vu_e]; omega
      · rw [vu_n e]; exact hn
    · rw [s5]
      intro b hb hs ha
      rw [← e1] at ha
      rw [← e2] at hs
      rw [s6 b hb hs ha]
      show ¬ va_up (aN u 4) j 1 j = 0
      rw [vu_e]; omega
/-- a word that is all open and all given, as the class sees it -/
def wOK (u : S5) (at_ : Nat) : Prop := f_Me_isOpenWord at_ u = true ∧ f_Me_isGivenWord at_ u = true
theorem wOK_fr {u0 u : S5} (f : FrS [] [8] [] [4, 5] u0 u) (at_ : Nat) : (f_Me_isOpenWord at_ u = f_Me_isOpenWord at_ u0) ∧ (f_Me_isGivenWord at_ u = f_Me_isGivenWord at_ u0) ∧ f_Me_word at_ u = f_Me_word at_ u0 := by
  unfold f_Me_isOpenWord f_Me_isGivenWord f_Me_word
  rw [f.2.2.1 0 (by decide)]
  exact ⟨rfl, rfl, rfl⟩
theorem J_from {Q : Nat → Prop} {u0 : S5} (g : Geo u0) (fr en : Nat) (ux : S5) : ∀ (k at_ : Nat) (u : S5), en < k + at_ → Jn Q u0 u → (∀ i, at_ + 4 * i + 4 ≤ en → wOK u0 (at_ + 4 * i) → ∀ b, b < 1536 → aN u0 2 b = 1 → isA (aN u0 1) (f_Me_word (at_ + 4 * i) u0) b → Q b) → 4 ≤ en →
    Jn Q u0 (f_Ho_findFrom_3 fr en ux k at_ u) ∧ Gr u (f_Ho_findFrom_3 fr en ux k at_ u) ∧ ∀ i, at_ + 4 * i + 4 ≤ en → wOK u0 (at_ + 4 * i) → ∀ b, b < 1536 → aN u0 2 b = 1 → isA (aN u0 1) (f_Me_word (at_ + 4 * i) u0) b → ¬ aN (f_Ho_findFrom_3 fr en ux k at_ u) 4 b = 0
  | 0, at_, u, h1, hj, hQ, h4 => ⟨hj, Gr.rf, fun i hi => by omega⟩
  | k + 1, at_, u, h1, hj, hQ, h4 => by
    unfold f_Ho_findFrom_3
    by_cases hc : at_ ≤ en - 4
    · rw [if_pos hc]
      obtain ⟨w1, w2, w3⟩ := wOK_fr hj.1 at_
      have hQ' : ∀ i, at_ + 4 + 4 * i + 4 ≤ en → wOK u0 (at_ + 4 + 4 * i) → ∀ b, b < 1536 → aN u0 2 b = 1 → isA (aN u0 1) (f_Me_word (at_ + 4 + 4 * i) u0) b → Q b := fun i hi => by
        have := hQ (i + 1)
        rw [show at_ + 4 * (i + 1) = at_ + 4 + 4 * i by omega] at this
        exact this hi
      by_cases z : wOK u0 at_
      · rw [if_pos (by rw [w1]; exact z.1), if_pos (by rw [w2]; exact z.2), w3]
        obtain ⟨a1, a2, a3⟩ := J_find g hj (f_Me_word at_ u0) (fun b hb hs ha => hQ 0 (by omega) z b hb hs ha)
        obtain ⟨r1, r2, r3⟩ := J_from g fr en ux k (at_ + 4) _ (by omega) a1 hQ' h4
        refine ⟨r1, a2.tr r2, fun i hi hw b hb hs ha => ?_⟩
        by_cases e : i = 0
        · subst e; exact r2.1 b (a3 b hb hs ha)
        · have := r3 (i - 1)
          rw [show at_ + 4 + 4 * (i - 1) = at_ + 4 * i by omega] at this
          exact this hi hw b hb hs ha
      · have e : (if (f_Me_isOpenWord at_ u) = true then (if (f_Me_isGivenWord at_ u) = true then f_Ho_findFrom_3 fr en ux k (at_ + 4) (f_He_find (f_Me_word at_ u) u) else f_Ho_findFrom_3 fr en ux k (at_ + 4) u) else f_Ho_findFrom_3 fr en ux k (at_ + 4) u) = f_Ho_findFrom_3 fr en ux k (at_ + 4) u := by
          rw [w1, w2]
          by_cases y1 : f_Me_isOpenWord at_ u0 = true
          · rw [if_pos y1, if_neg (fun y2 => z ⟨y1, y2⟩)]
          · rw [if_neg y1]
        rw [e]
        obtain ⟨r1, r2, r3⟩ := J_from g fr en ux k (at_ + 4) u (by omega) hj hQ' h4
        refine ⟨r1, r2, fun i hi hw b hb hs ha => ?_⟩
        by_cases e : i = 0
        · subst e; exact absurd hw z
        · have := r3 (i - 1)
          rw [show at_ + 4 + 4 * (i - 1) = at_ + 4 * i by omega] at this
          exact this hi hw b hb hs ha
    · rw [if_neg hc]
      exact ⟨hj, Gr.rf, fun i hi => by omega⟩
theorem J_regs {Q : Nat → Prop} {u0 : S5} (g : Geo u0) (ux : S5) : ∀ (k j : Nat) (u : S5), 32 < k + j → Jn Q u0 u → (∀ r, j ≤ r → r < 32 → aI u0 3 r = 0 → ∀ b, b < 1536 → aN u0 2 b = 1 → isA (aN u0 1) (aI u0 2 r) b → Q b) →
    Jn Q u0 (f_Ho_findBlocks_9 ux k j u) ∧ Gr u (f_Ho_findBlocks_9 ux k j u) ∧ ∀ r, j ≤ r → r < 32 → aI u0 3 r = 0 → ∀ b, b < 1536 → aN u0 2 b = 1 → isA (aN u0 1) (aI u0 2 r) b → ¬ aN (f_Ho_findBlocks_9 ux k j u) 4 b = 0
  | 0, j, u, h1, hj, hQ => ⟨hj, Gr.rf, fun r h2 h3 => by omega⟩
  | k + 1, j, u, h1, hj, hQ => by
    unfold f_Ho_findBlocks_9
    by_cases hc : j < 32
    · rw [if_pos hc, hj.1.2.2.1 3 (by decide), hj.1.2.2.1 2 (by decide)]
      by_cases z : aI u0 3 j = 0
      · rw [if_pos z]
        obtain ⟨a1, a2, a3⟩ := J_find g hj (aI u0 2 j) (fun b hb hs ha => hQ j (Nat.le_refl _) hc z b hb hs ha)
        obtain ⟨r1, r2, r3⟩ := J_regs g ux k (j + 1) _ (by omega) a1 (fun r q1 => hQ r (by omega))
        refine ⟨r1, a2.tr r2, fun r q1 q2 q3 b hb hs ha => ?_⟩
        by_cases e : r = j
        · subst e; exact r2.1 b (a3 b hb hs ha)
        · exact r3 r (by omega) q2 q3 b hb hs ha
      · rw [if_neg z]
        obtain ⟨r1, r2, r3⟩ := J_regs g ux k (j + 1) u (by omega) hj (fun r q1 => hQ r (by omega))
        refine ⟨r1, r2, fun r q1 q2 q3 b hb hs ha => ?_⟩
        by_cases e : r = j
        · subst e; exact absurd q3 z
        · exact r3 r (by omega) q2 q3 b hb hs ha
    · rw [if_neg hc]
      exact ⟨hj, Gr.rf, fun r q1 q2 => by omega⟩
/-- a word of the block c tells b -/
def edg (u0 : S5) (c b : Nat) : Prop := ∃ i, 32768 + c * 16 + 4 * i + 4 ≤ 32768 + c * 16 + aN u0 1 c ∧ wOK u0 (32768 + c * 16 + 4 * i) ∧ isA (aN u0 1) (f_Me_word (32768 + c * 16 + 4 * i) u0) b
theorem J_blk {Q : Nat → Prop} {u0 : S5} (g : Geo u0) (hE : ∀ c b, c < 1536 → b < 1536 → aN u0 2 c = 1 → aN u0 2 b = 1 → Q c → edg u0 c b → Q b) (ux : S5) : ∀ (k i : Nat) (u : S5), 1536 < k + i → i ≤ gN u 8 → Jn Q u0 u → (∀ j, j < i → ∀ c, c < 1536 → aN u 5 j = 32768 + c * 16 → ∀ b, b < 1536 → aN u0 2 b = 1 → edg u0 c b → ¬ aN u 4 b = 0) →
    Jn Q u0 (f_Ho_findBlocks_63 ux k i u) ∧ Gr u (f_Ho_findBlocks_63 ux k i u) ∧ ∀ c b, c < 1536 → b < 1536 → ¬ aN (f_Ho_findBlocks_63 ux k i u) 4 c = 0 → aN u0 2 b = 1 → edg u0 c b → ¬ aN (f_Ho_findBlocks_63 ux k i u) 4 b = 0
  | 0, i, u, h1, h2, hj, hd => by
    have h8 : gN u 8 ≤ 1536 := Nat.le_trans hj.2.1.2.1 (cnt_le _ _)
    omega
  | k + 1, i, u, h1, h2, hj, hd => by
    have h8 : gN u 8 ≤ 1536 := Nat.le_trans hj.2.1.2.1 (cnt_le _ _)
    unfold f_Ho_findBlocks_63
    by_cases hc : i < gN u 8
    · rw [if_pos (by omega), if_pos hc]
      obtain ⟨c, c1, c2, c3⟩ := hj.2.2.2.2 i hc
      obtain ⟨c4, c5⟩ := hj.2.2.1 c c1 c3
      rw [c2]
      have hsz : f_He_sizeAt (nI (32768 + c * 16)) u = aN u0 1 c := by
        unfold f_He_sizeAt
        have e2 : aN u 2 c = 1 := by rw [hj.1.2.2.2.1 2 (by decide)]; exact c4
        rw [st_at c1, e2, if_neg (by decide), hu_u c1, hj.1.2.2.2.1 1 (by decide)]
      rw [hsz]
      unfold f_Ho_findFrom
      obtain ⟨a1, a2, a3⟩ := J_from g (32768 + c * 16) (32768 + c * 16 + aN u0 1 c) u (32768 + c * 16 + aN u0 1 c + 1) (32768 + c * 16) u (by omega) hj (fun q q1 q2 b hb hs ha => hE c b c1 hb c4 hs c5 ⟨q, q1, q2, ha⟩) (by omega)
      obtain ⟨r1, r2, r3⟩ := J_blk g hE ux k (i + 1) _ (by omega) (by have := a2.2.1; omega) a1 (fun j q1 c' q2 q3 b hb hs he => by
        by_cases e : j = i
        · subst e
          rw [a2.2.2 j hc, c2] at q3
          have ec : c' = c := by omega
          subst ec
          obtain ⟨q, q4, q5, q6⟩ := he
          exact a3 q q4 q5 b hb hs q6
        · rw [a2.2.2 j (by omega)] at q3
          exact a2.1 b (hd j (by omega) c' q2 q3 b hb hs he))
      exact ⟨r1, a2.tr r2, r3⟩
    · have e : (if i < 1536 then (if i < gN u 8 then f_Ho_findBlocks_63 ux k (i + 1) (f_Ho_findFrom (aN u 5 i) (aN u 5 i + (f_He_sizeAt (nI (aN u 5 i)) u)) u) else u) else u) = u := by
        by_cases y : i < 1536
        · rw [if_pos y, if_neg hc]
        · rw [if_neg y]
      rw [e]
      refine ⟨hj, Gr.rf, fun c b hc1 hb hn hs he => ?_⟩
      obtain ⟨i2, z1, z2⟩ := hj.2.2.2.1 c hc1 hn
      exact hd i2 (by omega) c hc1 z2 b hb hs he
/-- told by a register, or by a word of the image or the stack -/
def roo (u0 : S5) (b : Nat) : Prop := (∃ r, r < 32 ∧ aI u0 3 r = 0 ∧ isA (aN u0 1) (aI u0 2 r) b) ∨ ∃ i, (4 * i + 4 ≤ 16384 ∨ (57344 ≤ 4 * i ∧ 4 * i + 4 ≤ 65536)) ∧ wOK u0 (4 * i) ∧ isA (aN u0 1) (f_Me_word (4 * i) u0) b
/-- the least set that holds the roots and is closed -/
def Fnd (u0 : S5) (b : Nat) : Prop := ∀ S : Nat → Prop, (∀ b, b < 1536 → aN u0 2 b = 1 → roo u0 b → S b) → (∀ c b, c < 1536 → b < 1536 → aN u0 2 c = 1 → aN u0 2 b = 1 → S c → edg u0 c b → S b) → S b
theorem Fnd.r {u0 : S5} {b : Nat} (hb : b < 1536) (hs : aN u0 2 b = 1) (h : roo u0 b) : Fnd u0 b := fun _ h1 _ => h1 b hb hs h
theorem Fnd.e {u0 : S5} {c b : Nat} (hc : c < 1536) (hb : b < 1536) (sc : aN u0 2 c = 1) (sb : aN u0 2 b = 1) (h : Fnd u0 c) (he : edg u0 c b) : Fnd u0 b := fun S h1 h2 => h2 c b hc hb sc sb (h S h1 h2) he
theorem find_all {u : S5} (g : Geo u) : FrS [] [8] [] [4, 5] u (f_Ho_findBlocks u) ∧ ∀ b, b < 1536 → aN u 2 b = 1 → (¬ aN (f_Ho_findBlocks u) 4 b = 0 ↔ Fnd u b) := by
  unfold f_Ho_findBlocks f_Ho_findFrom
  dsimp only
  have j0 : Jn (Fnd u) u (f_He_forgetFound u) := by
    have hz : ∀ b, b < 1536 → aN (f_He_forgetFound u) 4 b = 0 := fun b hb => by
      show fillN (aN u 4) 0 1536 0 b = 0
      unfold fillN; rw [if_pos ⟨Nat.zero_le _, hb⟩]
    exact ⟨fg_fr u, fg_ok u, fun b hb hn => absurd (hz b hb) hn, fun b hb hn => absurd (hz b hb) hn, fun i hi => absurd hi (Nat.not_lt_zero _)⟩
  obtain ⟨a1, a2, a3⟩ := J_regs g u 33 0 _ (by omega) j0 (fun r _ q2 q3 b hb hs ha => Fnd.r hb hs (Or.inl ⟨r, q2, q3, ha⟩))
  obtain ⟨b1, b2, b3⟩ := J_from g 0 16384 (f_Ho_findBlocks_9 u 33 0 (f_He_forgetFound u)) 16385 0 _ (by omega) a1 (fun i q1 q2 b hb hs ha => Fnd.r hb hs (Or.inr ⟨i, Or.inl (by omega), by rw [show 4 * i = 0 + 4 * i by omega]; exact q2, by rw [show 4 * i = 0 + 4 * i by omega]; exact ha⟩)) (by omega)
  obtain ⟨c1, c2, c3⟩ := J_from g 57344 65536 (f_Ho_findFrom_3 0 16384 (f_Ho_findBlocks_9 u 33 0 (f_He_forgetFound u)) 16385 0 (f_Ho_findBlocks_9 u 33 0 (f_He_forgetFound u))) 65537 57344 _ (by omega) b1 (fun i q1 q2 b hb hs ha => Fnd.r hb hs (Or.inr ⟨14336 + i, Or.inr (by omega), by rw [show 4 * (14336 + i) = 57344 + 4 * i by omega]; exact q2, by rw [show 4 * (14336 + i) = 57344 + 4 * i by omega]; exact ha⟩)) (by omega)
  obtain ⟨d1, d2, d3⟩ := J_blk g (fun c b hc hb sc sb hf he => Fnd.e hc hb sc sb hf he) u 1537 0 _ (by omega) (Nat.zero_le _) c1 (fun j hj => absurd hj (Nat.not_lt_zero _))
  refine ⟨d1.1, fun b hb hs => ⟨fun hn => (d1.2.2.1 b hb hn).2, fun hf => ?_⟩⟩
  refine hf (fun b => ¬ aN (f_Ho_findBlocks_63 u 1537 0 _) 4 b = 0) (fun b hb hs hr => ?_) (fun c b hc hb _ sb hn he => d3 c b hc hb hn sb he)
  rcases hr with ⟨r, r1, r2, r3⟩ | ⟨i, r1 | r1, r2, r3⟩
  · exact d2.1 b (c2.1 b (b2.1 b (a3 r (Nat.zero_le _) r1 r2 b hb hs r3)))
  · exact d2.1 b (c2.1 b (b3 i (by omega) (by rw [show 0 + 4 * i = 4 * i by omega]; exact r2) b hb hs (by rw [show 0 + 4 * i = 4 * i by omega]; exact r3)))
  · have e : 57344 + 4 * (i - 14336) = 4 * i := by omega
    exact d2.1 b (c3 (i - 14336) (by omega) (by rw [e]; exact r2) b hb hs (by rw [e]; exact r3))
