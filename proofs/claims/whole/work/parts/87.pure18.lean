-- ===== the reference's rounds
/-- what the reference has found is found -/
def Kf (u v v2 : S5) : Prop := FrM [] [] [] [] [3] v v2 ∧ ∀ k b, k < gN v 0 → b < 1536 → aN v 0 k = 32768 + b * 16 → aB v2 3 k = true → Fnd u b
theorem unit_of {u v : S5} (h : Sim u v) {k : Nat} (hk : k < gN v 0) : ∃ b, b < 1536 ∧ aN v 0 k = 32768 + b * 16 ∧ aN u 2 b = 1 := by
  obtain ⟨b, g1, g2, g3, _⟩ := h.H.2.2.1.1 k hk
  exact ⟨b, g1, g2, g3⟩
theorem unit_st {u v : S5} (h : Sim u v) {k b : Nat} (hk : k < gN v 0) (hb : b < 1536) (e : aN v 0 k = 32768 + b * 16) : aN u 2 b = 1 := by
  obtain ⟨c, g1, g2, g3⟩ := unit_of h hk
  have : c = b := by omega
  rw [← this]; exact g3
theorem Kf_found {u v v2 : S5} (h : Sim u v) (hK : Kf u v v2) {q b : Nat} (hq : q < gN v 0) (hb : b < 1536) (e : aN v 0 q = 32768 + b * 16) (hf : f_Mo_isFound q v2 = true) : Fnd u b := by
  have sb := unit_st h hq hb e
  rcases (isFound_iff h hq hb e hK.1).mp hf with r | ⟨c, k, c1, k1, c2, c3, k2, he⟩
  · exact Fnd.r hb sb r
  · exact Fnd.e c1 hb c3 sb (hK.2 k c k1 c1 c2 k2) he
theorem p_33 {u v : S5} (h : Sim u v) (v9 v8 : S5) : ∀ (k j : Nat) (mr : Bool) (v3 : S5), gN v 0 < k + j → j ≤ gN v 0 → Kf u v v3 →
    Kf u v (f_Mo_lost_33 v9 v8 k j mr v3).2 ∧ (∀ x, nf v3 + bz mr ≤ x → nf (f_Mo_lost_33 v9 v8 k j mr v3).2 + bz (f_Mo_lost_33 v9 v8 k j mr v3).1 ≤ x) ∧ ((f_Mo_lost_33 v9 v8 k j mr v3).1 = false → mr = false ∧ (f_Mo_lost_33 v9 v8 k j mr v3).2 = v3 ∧ ∀ i, j ≤ i → i < gN v 0 → ¬ aB v3 3 i = true → ¬ f_Mo_isFound i v3 = true)
  | 0, j, mr, v3, h1, h2, hK => by omega
  | k + 1, j, mr, v3, h1, h2, hK => by
    have eg : gN v3 0 = gN v 0 := hK.1.2.1 0 (by decide)
    unfold f_Mo_lost_33
    by_cases hj : j < gN v 0
    · rw [if_pos (show j < gN v3 0 by rw [eg]; exact hj)]
      by_cases z : aB v3 3 j = true
      · rw [if_pos z]
        obtain ⟨r1, r2, r3⟩ := p_33 h v9 v8 k (j + 1) mr v3 (by omega) (by omega) hK
        refine ⟨r1, r2, fun hm => ?_⟩
        obtain ⟨m1, m2, m3⟩ := r3 hm
        refine ⟨m1, m2, fun i i1 i2 i3 => ?_⟩
        by_cases e : i = j
        · subst e; exact absurd z i3
        · exact m3 i (by omega) i2 i3
      · rw [if_neg z]
        by_cases y : f_Mo_isFound j v3 = true
        · rw [if_pos y]
          obtain ⟨b, b1, b2, b3⟩ := unit_of h hj
          have hK2 : Kf u v (uB v3 3 j true) := by
            refine ⟨FrM.tr hK.1 (FrM.uB _ _ _ _ (by decide)), fun k c hk hc e hf => ?_⟩
            have hf : va_up (aB v3 3) j true k = true := hf
            by_cases ek : k = j
            · subst ek
              have : c = b := by omega
              subst this
              exact Kf_found h hK hj b1 b2 y
            · rw [va_ne ek] at hf; exact hK.2 k c hk hc e hf
          obtain ⟨r1, r2, r3⟩ := p_33 h v9 v8 k (j + 1) true (uB v3 3 j true) (by omega) (by omega) hK2
          refine ⟨r1, fun x hx => r2 x (nf_flip hx (by rw [eg]; exact hj) z), fun hm => ?_⟩
          obtain ⟨m1, _⟩ := r3 hm
          cases m1
        · rw [if_neg y]
          obtain ⟨r1, r2, r3⟩ := p_33 h v9 v8 k (j + 1) mr v3 (by omega) (by omega) hK
          refine ⟨r1, r2, fun hm => ?_⟩
          obtain ⟨m1, m2, m3⟩ := r3 hm
          refine ⟨m1, m2, fun i i1 i2 i3 => ?_⟩
          by_cases e : i = j
          · subst e; exact y
          · exact m3 i (by omega) i2 i3
    · rw [if_neg (show ¬ j < gN v3 0 by rw [eg]; exact hj)]
      exact ⟨hK, fun x hx => hx, fun hm => ⟨hm, rfl, fun i i1 i2 => by omega⟩⟩
def closedF (v v2 : S5) : Prop := ∀ i, i < gN v 0 → ¬ aB v2 3 i = true → ¬ f_Mo_isFound i v2 = true
theorem p_25 {u v : S5} (h : Sim u v) (v9 : S5) (e9 : gN v9 0 = gN v 0) : ∀ (k : Nat) (more : Bool) (v2 : S5), Kf u v v2 → (more = true → nf v2 < k) → (more = false → closedF v v2) → Kf u v (f_Mo_lost_25 v9 k more v2) ∧ closedF v (f_Mo_lost_25 v9 k more v2)
  | 0, more, v2, hK, h1, h2 => by
    unfold f_Mo_lost_25
    cases more
    · exact ⟨hK, h2 rfl⟩
    · exact absurd (h1 rfl) (Nat.not_lt_zero _)
  | k + 1, more, v2, hK, h1, h2 => by
    unfold f_Mo_lost_25
    cases more
    · rw [if_neg (by decide)]; exact ⟨hK, h2 rfl⟩
    · rw [if_pos rfl]
      dsimp only
      rw [e9]
      obtain ⟨r1, r2, r3⟩ := p_33 h v9 v2 (gN v 0 + 1) 0 false v2 (by omega) (by omega) hK
      generalize f_Mo_lost_33 v9 v2 (gN v 0 + 1) 0 false v2 = o at r1 r2 r3 ⊢
      refine p_25 h v9 e9 k o.1 o.2 r1 (fun hm => ?_) (fun hm => ?_)
      · have := r2 (nf v2) (Nat.le_refl _)
        rw [hm] at this
        have h3 : bz true = 1 := rfl
        have := h1 rfl
        omega
      · obtain ⟨_, m2, m3⟩ := r3 hm
        rw [m2]
        exact fun i hi hn => m3 i (Nat.zero_le _) hi hn
theorem p_2 (v9 : S5) : ∀ (k j : Nat) (v1 : S5), gN v1 0 < k + j → FrM [] [] [] [] [3] v1 (f_Mo_lost_2 v9 k j v1) ∧ ∀ i, j ≤ i → i < gN v1 0 → aB (f_Mo_lost_2 v9 k j v1) 3 i = false
  | 0, j, v1, h => ⟨FrM.rf, fun i i1 i2 => by omega⟩
  | k + 1, j, v1, h => by
    unfold f_Mo_lost_2
    by_cases hj : j < gN v1 0
    · rw [if_pos hj]
      have key : ∀ (k j2 : Nat) (w : S5), gN w 0 = gN v1 0 → j < j2 → aB w 3 j = false → aB (f_Mo_lost_2 v9 k j2 w) 3 j = false := by
        intro k
        induction k with
        | zero => intro j2 w _ _ hw; exact hw
        | succ k ih =>
          intro j2 w e1 e2 hw
          unfold f_Mo_lost_2
          by_cases c : j2 < gN w 0
          · rw [if_pos c]
            exact ih (j2 + 1) _ e1 (by omega) (by show va_up (aB w 3) j2 false j = false; rw [va_ne (by omega)]; exact hw)
          · rw [if_neg c]; exact hw
      obtain ⟨r1, r2⟩ := p_2 v9 k (j + 1) (uB v1 3 j false) (by show gN v1 0 < _; omega)
      refine ⟨FrM.tr (FrM.uB _ _ _ _ (by decide)) r1, fun i i1 i2 => ?_⟩
      by_cases e : i = j
      · subst e
        exact key k (i + 1) (uB v1 3 i false) rfl (by omega) (if_pos rfl)
      · exact r2 i (by omega) i2
    · rw [if_neg hj]
      exact ⟨FrM.rf, fun i i1 i2 => by omega⟩
/-- after the rounds, just what is found has been found -/
theorem found_ref {u v : S5} (h : Sim u v) : ∃ v5, f_Mo_lost_25 v (gN v 0 + 2) true (f_Mo_lost_2 v (gN v 0 + 1) 0 v) = v5 ∧ FrM [] [] [] [] [3] v v5 ∧ ∀ k b, k < gN v 0 → b < 1536 → aN v 0 k = 32768 + b * 16 → (aB v5 3 k = true ↔ Fnd u b) := by
  obtain ⟨a1, a2⟩ := p_2 v (gN v 0 + 1) 0 v (by omega)
  have hK : Kf u v (f_Mo_lost_2 v (gN v 0 + 1) 0 v) := ⟨a1, fun k b hk hb e hf => by rw [a2 k (Nat.zero_le _) hk] at hf; cases hf⟩
  have e1 : gN (f_Mo_lost_2 v (gN v 0 + 1) 0 v) 0 = gN v 0 := a1.2.1 0 (by decide)
  obtain ⟨b1, b2⟩ := p_25 h v rfl (gN v 0 + 2) true (f_Mo_lost_2 v (gN v 0 + 1) 0 v) hK (fun _ => by have := nf_le (f_Mo_lost_2 v (gN v 0 + 1) 0 v); omega) (fun q => by cases q)
  refine ⟨_, rfl, b1.1, fun k b hk hb e => ⟨fun hf => b1.2 k b hk hb e hf, fun hf => ?_⟩⟩
  have := hf (fun c => ∀ k, k < gN v 0 → aN v 0 k = 32768 + c * 16 → aB (f_Mo_lost_25 v (gN v 0 + 2) true (f_Mo_lost_2 v (gN v 0 + 1) 0 v)) 3 k = true) (fun c hc sc hr k hk e => ?_) (fun c b hc hb sc sb hS he k hk e => ?_)
  · exact this k hk e
  · refine Classical.byContradiction fun hn => b2 k hk hn ?_
    exact (isFound_iff h hk hc e b1.1).mpr (Or.inl hr)
  · refine Classical.byContradiction fun hn => b2 k hk hn ?_
    obtain ⟨kc, g1, g2⟩ := h.H.2.2.1.2.2.1 c hc sc
    exact (isFound_iff h hk hb e b1.1).mpr (Or.inr ⟨c, kc, hc, g1, g2, sc, hS kc g1 g2, he⟩)
-- ===== the lost ones are told in the same order
/-- the relation but for how the run ended -/
def SimC (u v : S5) : Prop := cM (aI u 0) (aI v 1) (aB v 0) (aB v 1) ∧ cI (aI u 1) (aI v 0) ∧ cR (aI u 2) (aI u 3) (aI v 2) (aB v 2) ∧ cE (aI u 4) (gN u 0) (gI u 6) (gN v 6) (gI v 5) (aI v 6) (aI v 7) (aI v 8) (aI v 9) ∧ cT (aI u 5) (gN u 1) (gN u 2) (gN v 5) (aI v 5) ∧ cP (aI u 6) (aI u 7) (gN u 3) (gN u 4) (gN u 5) (gN v 2) (gN v 3) (gN v 4) (aI v 3) (aI v 4) ∧ (gI u 0 = gI v 1 ∧ gI u 5 = gI v 4) ∧ cH u v ∧ cO u v
theorem C_all {u v : S5} (h : SimC u v) : SimC (sI u 6 (gI u 6 + 1)) (sI v 5 (gI v 5 + 1)) := by
  obtain ⟨h1, h2, h3, h4, h5, h6, h7, h8, h9⟩ := h
  exact ⟨h1, h2, h3, cE_all h4, h5, h6, h7, h8, h9⟩
theorem C_lost {u v : S5} (h : SimC u v) (x : Int32) : SimC (f_Rp_noteLost (gI u 0) x u) (f_Mo_fault 8 x v) := by
  unfold f_Rp_noteLost f_Mo_fault f_Mo_fault_56
  rw [if_pos rfl]
  have hE := h.2.2.2.1
  have := hE.1
  have := hE.2.1
  by_cases z2 : gN u 0 < 60
  · rw [if_pos z2, if_neg (by omega), tell_eq, f101_eq]
    have e := re_e h.2.2.2.2.1
    obtain ⟨h1, h2, h3, h4, h5, h6, h7, h8, h9⟩ := h
    have hE := cE_tell h4 (by omega) 8 (gI u 0) x (reX (aI u 5) (gN u 1) (gN u 2) 0) (reX (aI u 5) (gN u 1) (gN u 2) 1) (reX (aI u 5) (gN u 1) (gN u 2) 2) (reX (aI u 5) (gN u 1) (gN u 2) 3)
    rw [← e 0, ← e 1, ← e 2, ← e 3, ← h7.1]
    exact ⟨h1, h2, h3, hE, h5, h6, h7, h8, h9⟩
  · rw [if_neg z2, if_pos (by omega)]; exact C_all h
theorem l_83 (v9 : S5) (la : Int32) (w : S5) (hn : gN w 0 ≤ 768) : ∀ (k j : Nat) (le : Int32), gN w 0 < k + j → j ≤ gN w 0 → ((le = -1 ∧ ∀ i, i < j → aB w 3 i = true ∨ nI (aN w 0 i) ≤ la) ∨ ∃ m, m < j ∧ le = nI m ∧ ¬ aB w 3 m = true ∧ la < nI (aN w 0 m) ∧ ∀ i, i < j → ¬ aB w 3 i = true → la < nI (aN w 0 i) → aN w 0 m ≤ aN w 0 i) →
    ((f_Mo_lost_83 v9 la w k j le = -1 ∧ ∀ i, i < gN w 0 → aB w 3 i = true ∨ nI (aN w 0 i) ≤ la) ∨ ∃ m, m < gN w 0 ∧ f_Mo_lost_83 v9 la w k j le = nI m ∧ ¬ aB w 3 m = true ∧ la < nI (aN w 0 m) ∧ ∀ i, i < gN w 0 → ¬ aB w 3 i = true → la < nI (aN w 0 i) → aN w 0 m ≤ aN w 0 i)
  | 0, j, le, h1, h2, hI => by omega
  | k + 1, j, le, h1, h2, hI => by
    unfold f_Mo_lost_83
    by_cases hj : j < gN w 0
    · rw [if_pos hj]
      by_cases z : aB w 3 j = true
      · rw [if_pos z]
        refine l_83 v9 la w hn k (j + 1) le (by omega) (by omega) ?_
        rcases hI with ⟨q1, q2⟩ | ⟨m, m1, m2, m3, m4, m5⟩
        · refine Or.inl ⟨q1, fun i hi => ?_⟩
          by_cases e : i = j
          · subst e; exact Or.inl z
          · exact q2 i (by omega)
        · refine Or.inr ⟨m, by omega, m2, m3, m4, fun i hi i2 i3 => ?_⟩
          by_cases e : i = j
          · subst e; exact absurd z i2
          · exact m5 i (by omega) i2 i3
      · rw [if_neg z]
        by_cases y : nI (aN w 0 j) ≤ la
        · rw [if_pos y]
          refine l_83 v9 la w hn k (j + 1) le (by omega) (by omega) ?_
          rcases hI with ⟨q1, q2⟩ | ⟨m, m1, m2, m3, m4, m5⟩
          · refine Or.inl ⟨q1, fun i hi => ?_⟩
            by_cases e : i = j
            · subst e; exact Or.inr y
            · exact q2 i (by omega)
          · refine Or.inr ⟨m, by omega, m2, m3, m4, fun i hi i2 i3 => ?_⟩
            by_cases e : i = j
            · subst e; exact absurd y (Int32.not_le.mpr i3)
            · exact m5 i (by omega) i2 i3
        · rw [if_neg y]
          have yl : la < nI (aN w 0 j) := Int32.not_le.mp y
          rcases hI with ⟨q1, q2⟩ | ⟨m, m1, m2, m3, m4, m5⟩
          · rw [if_pos (by rw [q1]; decide)]
            refine l_83 v9 la w hn k (j + 1) (nI j) (by omega) (by omega) (Or.inr ⟨j, by omega, rfl, z, yl, fun i hi i2 i3 => ?_⟩)
            by_cases e : i = j
            · subst e; exact Nat.le_refl _
            · rcases q2 i (by omega) with q | q
              · exact absurd q i2
              · exact absurd q (Int32.not_le.mpr i3)
          · rw [if_neg (by rw [m2]; exact nI_pos (by omega))]
            rw [show le.toNatClampNeg = m by rw [m2, nI_clamp (by omega)]]
            by_cases x : aN w 0 j < aN w 0 m
            · rw [if_pos x]
              refine l_83 v9 la w hn k (j + 1) (nI j) (by omega) (by omega) (Or.inr ⟨j, by omega, rfl, z, yl, fun i hi i2 i3 => ?_⟩)
              by_cases e : i = j
              · subst e; exact Nat.le_refl _
              · have := m5 i (by omega) i2 i3; omega
            · rw [if_neg x]
              refine l_83 v9 la w hn k (j + 1) le (by omega) (by omega) (Or.inr ⟨m, by omega, m2, m3, m4, fun i hi i2 i3 => ?_⟩)
              by_cases e : i = j
              · subst e; omega
              · exact m5 i (by omega) i2 i3
    · rw [if_neg hj]
      have e : j = gN w 0 := by omega
      subst e; exact hI
theorem T_loop {u v F v5 : S5} (h : Sim u v) (hF : aN F 2 = aN u 2) (h5 : FrM [] [] [] [] [3] v v5) (hfc : ∀ b, b < 1536 → aN u 2 b = 1 → (¬ aN F 4 b = 0 ↔ Fnd u b)) (hfr : ∀ k b, k < gN v 0 → b < 1536 → aN v 0 k = 32768 + b * 16 → (aB v5 3 k = true ↔ Fnd u b)) (q : Int32) (ux vx : S5) : ∀ (k j : Nat) (u1 w : S5) (k2 : Nat) (la : Int32), 1536 < k + j → j ≤ 1536 → FrS [6] [0] [4] [] F u1 → FrM [5] [6] [6, 7, 8, 9] [] [] v5 w → SimC u1 w → gI u1 0 = q → (∀ i b, i < gN v 0 → b < 1536 → aN v 0 i = 32768 + b * 16 → ¬ aB v5 3 i = true → (la < nI (aN v 0 i) ↔ j ≤ b)) → ng w la < k2 → SimC (f_Ho_tellLost_20 q ux k j u1) (f_Mo_lost_78 vx k2 la w)
  | 0, j, u1, w, k2, la, h1, h2, f1, f2, hS, hq, hI, hn => by omega
  | k + 1, j, u1, w, k2, la, h1, h2, f1, f2, hS, hq, hI, hn => by
    have hcnt := H_cnt h.H
    have eg : gN w 0 = gN v 0 := (f2.2.1 0 (by decide)).trans (h5.2.1 0 (by decide))
    have e0 : aN w 0 = aN v 0 := (f2.2.2.2.1 0 (by decide)).trans (h5.2.2.2.1 0 (by decide))
    have e3 : aB w 3 = aB v5 3 := f2.2.2.2.2 3 (by decide)
    have es : aN u1 2 = aN u 2 := (f1.2.2.2.1 2 (by decide)).trans hF
    have e4 : aN u1 4 = aN F 4 := f1.2.2.2.1 4 (by decide)
    unfold f_Ho_tellLost_20
    by_cases hj : j < 1536
    · rw [if_pos hj]
      by_cases z : aN u 2 j = 1 ∧ aN F 4 j = 0
      · have el : f_He_lostAt j u1 = 32768 + j * 16 := by
          unfold f_He_lostAt; rw [es, e4, if_pos z.1, if_pos z.2]
        rw [el, if_neg (by omega)]
        obtain ⟨kx, g1, g2⟩ := h.H.2.2.1.2.2.1 j hj z.1
        have nf1 : ¬ aB v5 3 kx = true := fun y => ((hfc j hj z.1).mpr ((hfr kx j g1 hj g2).mp y)) z.2
        rcases l_83 vx la w (by omega) (gN w 0 + 1) 0 (-1) (by omega) (by omega) (Or.inl ⟨rfl, fun i hi => absurd hi (Nat.not_lt_zero _)⟩) with ⟨r1, r2⟩ | ⟨m, m1, m2, m3, m4, m5⟩
        · exfalso
          have := (hI kx j g1 hj g2 nf1).mpr (Nat.le_refl _)
          rcases r2 kx (by rw [eg]; exact g1) with y | y
          · rw [e3] at y; exact nf1 y
          · rw [e0] at y; exact absurd y (Int32.not_le.mpr this)
        · have l1 := (hI kx j g1 hj g2 nf1).mpr (Nat.le_refl _)
          have l2 := m5 kx (by rw [eg]; exact g1) (by rw [e3]; exact nf1) (by rw [e0]; exact l1)
          rw [e0, g2] at l2
          rw [e0] at m4
          rw [e3] at m3
          rw [eg] at m1
          obtain ⟨bm, c1, c2, c3⟩ := unit_of h m1
          have l3 := (hI m bm m1 c1 c2 m3).mp m4
          have ebm : bm = j := by omega
          subst ebm
          cases k2 with
          | zero => exact absurd hn (Nat.not_lt_zero _)
          | succ k2 =>
            unfold f_Mo_lost_78
            dsimp only
            rw [m2, if_pos (nI_pos' (by omega)), nI_clamp (by omega), e0, c2]
            have f3 := ft_fr 8 (nI (32768 + bm * 16)) w
            have hd := ng_dec (la := la) (k := m) f3 (by decide) (by rw [eg]; exact m1) (by rw [e3]; exact m3) (by rw [e0]; exact m4)
            rw [e0, c2] at hd
            refine T_loop h hF h5 hfc hfr q ux vx k (bm + 1) _ _ k2 (nI (32768 + bm * 16)) (by omega) (by omega) (FrS.tr f1 (nl_fr q _ u1)) (FrM.tr f2 f3) ?_ ?_ (fun i b hi hb ei hn2 => ?_) (by omega)
            · rw [← hq]; exact C_lost hS _
            · rw [(nl_fr q (nI (32768 + bm * 16)) u1).1 0 (by decide)]; exact hq
            · rw [ei, nI_ltI (by omega) (by omega)]; omega
      · have el : f_He_lostAt j u1 = 0 := by
          unfold f_He_lostAt; rw [es, e4]
          by_cases y : aN u 2 j = 1
          · rw [if_pos y, if_neg (fun y2 => z ⟨y, y2⟩)]
          · rw [if_neg y]
        rw [el, if_pos rfl]
        refine T_loop h hF h5 hfc hfr q ux vx k (j + 1) u1 w k2 la (by omega) (by omega) f1 f2 hS hq (fun i b hi hb ei hn2 => ?_) hn
        rw [hI i b hi hb ei hn2]
        have nb : ¬ b = j := fun e => by
          subst e
          have sb := unit_st h hi hb ei
          have : aN F 4 b = 0 := Classical.byContradiction fun y => hn2 ((hfr i b hi hb ei).mpr ((hfc b hb sb).mp y))
          exact z ⟨sb, this⟩
        omega
    · rw [if_neg hj]
      cases k2 with
      | zero => exact absurd hn (Nat.not_lt_zero _)
      | succ k2 =>
        unfold f_Mo_lost_78
        dsimp only
        rcases l_83 vx la w (by omega) (gN w 0 + 1) 0 (-1) (by omega) (by omega) (Or.inl ⟨rfl, fun i hi => absurd hi (Nat.not_lt_zero _)⟩) with ⟨r1, r2⟩ | ⟨m, m1, m2, m3, m4, m5⟩
        · rw [r1, if_neg (by decide)]; exact hS
        · exfalso
          rw [e0] at m4
          rw [e3] at m3
          rw [eg] at m1
          obtain ⟨bm, c1, c2, c3⟩ := unit_of h m1
          have := (hI m bm m1 c1 c2 m3).mp m4
          omega
theorem Sim.C {u v : S5} (h : Sim u v) : SimC u v := by
  obtain ⟨h1, h2, h3, h4, h5, h6, h7, h8, h9⟩ := h
  exact ⟨h1, h2, h3, h4, h5, h6, ⟨h7.1, h7.2.2.2⟩, h8, h9⟩
/-- the end of a run -/
theorem S_exit {u v : S5} (h : Sim u v) (e x : Int32) : SimC (f_Ho_tellLost (gI u 0) u) (f_Mo_lost (sI (sI v 2 e) 3 x)) := by
  obtain ⟨U, hU⟩ : ∃ U, U = sI (sI u 3 e) 4 x := ⟨_, rfl⟩
  have hS : Sim U (sI (sI v 2 e) 3 x) := by
    rw [hU]
    obtain ⟨h1, h2, h3, h4, h5, h6, h7, h8, h9⟩ := h
    exact ⟨h1, h2, h3, h4, h5, h6, ⟨h7.1, rfl, rfl, h7.2.2.2⟩, h8, h9⟩
  have hC : SimC u (sI (sI v 2 e) 3 x) := h.C
  generalize sI (sI v 2 e) 3 x = w at hS hC ⊢
  have hcnt := H_cnt hS.H
  obtain ⟨v5, a1, a2, a3⟩ := found_ref hS
  unfold f_Ho_tellLost f_Mo_lost
  dsimp only
  rw [a1]
  have hlb : gI u 8 = nI (gN w 0) := by
    have := hS.H.2.2.2.2.1
    rw [hU] at this; exact this
  by_cases z : gI u 8 = 0
  · rw [if_pos z]
    rw [hlb] at z
    have z0 : gN w 0 = 0 := (rn_z (by omega)).mp z
    have hn : f_Mo_lost_78 w (gN w 0 + 1) (-1) v5 = v5 := by
      unfold f_Mo_lost_78
      dsimp only
      have eg : gN v5 0 = gN w 0 := a2.2.1 0 (by decide)
      rcases l_83 w (-1) v5 (by omega) (gN v5 0 + 1) 0 (-1) (by omega) (by omega) (Or.inl ⟨rfl, fun i hi => absurd hi (Nat.not_lt_zero _)⟩) with ⟨r1, _⟩ | ⟨m, m1, _⟩
      · rw [r1, if_neg (by decide)]
      · omega
    rw [hn]
    obtain ⟨f1, f2, f3, f4, f5⟩ := a2
    obtain ⟨h1, h2, h3, h4, h5, h6, h7, h8, h9⟩ := hC
    unfold SimC cH cO
    rw [f1 1 (by decide), f1 4 (by decide), f1 5 (by decide), f2 0 (by decide), f2 1 (by decide), f2 2 (by decide), f2 3 (by decide), f2 4 (by decide), f2 5 (by decide), f2 6 (by decide), f3 0 (by decide), f3 1 (by decide), f3 2 (by decide), f3 3 (by decide), f3 4 (by decide), f3 5 (by decide), f3 6 (by decide), f3 7 (by decide), f3 8 (by decide), f3 9 (by decide), f4 0 (by decide), f4 1 (by decide), f4 2 (by decide), f4 3 (by decide), f5 0 (by decide), f5 1 (by decide), f5 2 (by decide)]
    exact ⟨h1, h2, h3, h4, h5, h6, h7, h8, h9⟩
  · rw [if_neg z]
    have hg : Geo u := by
      have g1 := hC.2.2.2.2.2.2.2.1
      refine ⟨g1.1, g1.2.1, fun j hj => ?_, fun j hj => ?_, fun j hj hs => ?_⟩
      · by_cases q : aN u 0 j = 0
        · omega
        · have := g1.2.1 j hj q; omega
      · by_cases q : aN u 2 j = 0
        · omega
        · exact (g1.1 j hj q).1
      · have q := g1.1 j hj hs
        have := un_n (aN u 1 j)
        omega
    obtain ⟨b1, b2⟩ := find_all hg
    have hS2 : Sim U w := hS
    have hFU : ∀ b, Fnd U b ↔ Fnd u b := fun b => by rw [hU]; exact Iff.rfl
    have hSC : SimC (f_Ho_findBlocks u) v5 := by
      obtain ⟨f1, f2, f3, f4, f5⟩ := a2
      obtain ⟨g1, g2, g3, g4, g5⟩ := b1
      obtain ⟨h1, h2, h3, h4, h5, h6, h7, h8, h9⟩ := hC
      unfold SimC cH cO
      rw [f1 1 (by decide), f1 4 (by decide), f1 5 (by decide), f2 0 (by decide), f2 1 (by decide), f2 2 (by decide), f2 3 (by decide), f2 4 (by decide), f2 5 (by decide), f2 6 (by decide), f3 0 (by decide), f3 1 (by decide), f3 2 (by decide), f3 3 (by decide), f3 4 (by decide), f3 5 (by decide), f3 6 (by decide), f3 7 (by decide), f3 8 (by decide), f3 9 (by decide), f4 0 (by decide), f4 1 (by decide), f4 2 (by decide), f4 3 (by decide), f5 0 (by decide), f5 1 (by decide), f5 2 (by decide)]
      rw [g1 0 (by decide), g1 5 (by decide), g1 6 (by decide), g1 7 (by decide), g1 8 (by decide), g1 9 (by decide), g2 0 (by decide), g2 1 (by decide), g2 2 (by decide), g2 3 (by decide), g2 4 (by decide), g2 5 (by decide), g2 6 (by decide), g2 7 (by decide), g3 0 (by decide), g3 1 (by decide), g3 2 (by decide), g3 3 (by decide), g3 4 (by decide), g3 5 (by decide), g3 6 (by decide), g3 7 (by decide), g4 0 (by decide), g4 1 (by decide), g4 2 (by decide), g4 3 (by decide)]
      exact ⟨h1, h2, h3, h4, h5, h6, h7, h8, h9⟩
    -- over the state with the end set
    have hF2 : FrS [] [8] [] [4, 5] u (f_Ho_findBlocks u) := b1
    have hin : ∀ i b, i < gN w 0 → b < 1536 → aN w 0 i = 32768 + b * 16 → ¬ aB v5 3 i = true → ((-1 : Int32) < nI (aN w 0 i) ↔ 0 ≤ b) := fun i b hi hb ei _ => by
      rw [ei, Int32.lt_iff_toInt_lt, nI_toInt (by omega)]
      have : (-1 : Int32).toInt = -1 := by decide
      constructor <;> intro <;> omega
    have hng : ng v5 (-1) < gN w 0 + 1 := by
      have : ng v5 (-1) ≤ gN v5 0 := cntB_le _ _
      have eg : gN v5 0 = gN w 0 := a2.2.1 0 (by decide)
      omega
    have hq0 : gI (f_Ho_findBlocks u) 0 = gI u 0 := b1.1 0 (by decide)
    have hUs : aN U 2 = aN u 2 := by rw [hU]; rfl
    exact T_loop (u := U) (v := w) (F := f_Ho_findBlocks u) (v5 := v5) hS ((b1.2.2.2.1 2 (by decide)).trans hUs.symm) a2 (fun b hb hs => (b2 b hb (by rw [← hUs]; exact hs)).trans (hFU b).symm) (fun k b hk hb ek => a3 k b hk hb ek) (gI u 0) u w 1537 0 (f_Ho_findBlocks u) v5 (gN w 0 + 1) (-1) (by omega) (by omega) FrS.rf FrM.rf hSC hq0 hin hng
