-- ===== a live block becomes kept
theorem H_keep {u v : S5} (h : cH u v) {b k : Nat} (hb : b < 1536) (hk : k < gN v 0) (hak : aN v 0 k = 32768 + b * 16) (hsb : aN u 2 b = 1) :
    gB (aN u 0) (aN u 1) (va_up (aN u 2) b 2) ∧ gW (aN u 0) (aN u 1) (va_up (aN u 2) b 2) ∧ gL (aN u 1) (va_up (aN u 2) b 2) (gN v 0 - 1) (va_up (aN v 0) k (aN v 0 (gN v 0 - 1))) (va_up (aN v 1) k (aN v 1 (gN v 0 - 1))) ∧ gK (aN u 1) (va_up (aN u 2) b 2) (va_up (aN u 3) ((gN u 6 + gN u 7) % 1536) b) (gN u 6) (gN u 7 + 1) (gN v 1 + 1) (va_up (aN v 2) (gN v 1) (32768 + b * 16)) (va_up (aN v 3) (gN v 1) (aN v 1 k)) ∧ gS (gI u 7 + nI (aN u 1 b)) (gI u 8 - 1) (gI u 9 - nI (aN u 1 b)) (gN v 0 - 1) (gN v 1 + 1) (va_up (aN v 1) k (aN v 1 (gN v 0 - 1))) (va_up (aN v 3) (gN v 1) (aN v 1 k)) := by
  have hcnt := H_cnt h
  obtain ⟨hB, hO, hL, hK, hS⟩ := h
  have hlen : aN v 1 k = aN u 1 b := by
    obtain ⟨b2, g1, g2, g3, g4⟩ := hL.1 k hk
    have : b2 = b := by omega
    rw [g4, this]
  refine ⟨?_, ?_, ?_, ?_, ?_⟩
  · intro c hc hs
    by_cases e : c = b
    · subst e
      rw [vu_e]
      obtain ⟨g1, g2⟩ := hB c hc (by omega)
      exact ⟨by omega, g2⟩
    · rw [vu_n e] at hs ⊢
      exact hB c hc hs
  · intro j hj ho
    obtain ⟨g1, g2⟩ := hO j hj ho
    refine ⟨?_, g2⟩
    by_cases e : aN u 0 j - 1 = b
    · rw [e, vu_e]; omega
    · rw [vu_n e]; exact g1
  · obtain ⟨l1, l2, l3, l4⟩ := hL
    have hne : ∀ i, i < gN v 0 → ¬ i = k → ∃ c, c < 1536 ∧ aN v 0 i = 32768 + c * 16 ∧ va_up (aN u 2) b 2 c = 1 ∧ aN v 1 i = aN u 1 c := fun i hi hik => by
      obtain ⟨c, g1, g2, g3, g4⟩ := l1 i hi
      have e : ¬ c = b := fun e => hik (l2 i k hi hk (by rw [g2, hak, e]))
      exact ⟨c, g1, g2, by rw [vu_n e]; exact g3, g4⟩
    refine ⟨fun i hi => ?_, fun i j hi hj he => ?_, fun c hc hs => ?_, ?_⟩
    · by_cases e : i = k
      · subst e
        rw [vu_e, vu_e]
        exact hne (gN v 0 - 1) (by omega) (by omega)
      · rw [vu_n e, vu_n e]
        exact hne i (by omega) e
    · by_cases e : i = k
      · by_cases e2 : j = k
        · omega
        · rw [e, vu_e, vu_n e2] at he
          have := l2 (gN v 0 - 1) j (by omega) (by omega) he
          omega
      · by_cases e2 : j = k
        · rw [e2, vu_e, vu_n e] at he
          have := l2 i (gN v 0 - 1) (by omega) (by omega) he
          omega
        · rw [vu_n e, vu_n e2] at he
          exact l2 i j (by omega) (by omega) he
    · have e : ¬ c = b := fun e => by rw [e, vu_e] at hs; omega
      rw [vu_n e] at hs
      obtain ⟨i, g1, g2⟩ := l3 c hc hs
      have eik : ¬ i = k := fun e2 => by rw [e2, hak] at g2; omega
      by_cases e2 : i = gN v 0 - 1
      · exact ⟨k, by omega, by rw [vu_e, ← e2]; exact g2⟩
      · exact ⟨i, by omega, by rw [vu_n eik]; exact g2⟩
    · have := cntB_up (q := fun c => aN u 2 c == 1) (p := fun c => va_up (aN u 2) b 2 c == 1) (j := b) (by simp [vu_e]) (by simp [hsb]) (fun c hc => by simp [vu_n hc]) 1536
      rw [if_pos hb, ← l4] at this
      omega
  · obtain ⟨k1, k2, k3, k4, k5, k6, k7⟩ := hK
    have hp : ∀ i, i < gN v 1 → va_up (aN u 3) ((gN u 6 + gN u 7) % 1536) b ((gN u 6 + i) % 1536) = aN u 3 ((gN u 6 + i) % 1536) := fun i hi => vu_n (by omega)
    have hq : va_up (aN u 3) ((gN u 6 + gN u 7) % 1536) b ((gN u 6 + gN v 1) % 1536) = b := by rw [← k1]; exact vu_e
    refine ⟨by omega, k2, fun j hj => ?_, fun i hi => ?_, fun i j hi hj he => ?_, fun c hc hs => ?_, ?_⟩
    · by_cases e : j = (gN u 6 + gN u 7) % 1536
      · rw [e, vu_e]; exact hb
      · rw [vu_n e]; exact k3 j hj
    · by_cases e : i = gN v 1
      · subst e
        rw [hq, vu_e, vu_e, vu_e]
        exact ⟨rfl, rfl, hlen⟩
      · obtain ⟨g1, g2, g3⟩ := k4 i (by omega)
        rw [hp i (by omega), vu_n e, vu_n e]
        have e2 : ¬ aN u 3 ((gN u 6 + i) % 1536) = b := fun e2 => by rw [e2] at g2; omega
        exact ⟨g1, by rw [vu_n e2]; exact g2, g3⟩
    · have key : ∀ i, i < gN v 1 → ¬ aN u 3 ((gN u 6 + i) % 1536) = b := fun i hi e2 => by
        have := (k4 i hi).2.1
        rw [e2] at this; omega
      by_cases e : i = gN v 1
      · by_cases e2 : j = gN v 1
        · omega
        · rw [e, hq, hp j (by omega)] at he; exact absurd he.symm (key j (by omega))
      · by_cases e2 : j = gN v 1
        · rw [e2, hq, hp i (by omega)] at he; exact absurd he (key i (by omega))
        · rw [hp i (by omega), hp j (by omega)] at he
          exact k5 i j (by omega) (by omega) he
    · by_cases e : c = b
      · exact ⟨gN v 1, by omega, by rw [hq, e]⟩
      · rw [vu_n e] at hs
        obtain ⟨i, g1, g2⟩ := k6 c hc hs
        exact ⟨i, by omega, by rw [hp i g1]; exact g2⟩
    · rw [cntB_up (p := fun c => aN u 2 c == 2) (q := fun c => va_up (aN u 2) b 2 c == 2) (j := b) (by simp [hsb]) (by simp [vu_e]) (fun c hc => by simp [vu_n hc]) 1536, if_pos hb, ← k7]
  · obtain ⟨s1, s2, s3⟩ := hS
    refine ⟨?_, ?_, ?_⟩
    · rw [s1]
      have e : gN v 0 = (gN v 0 - 1) + 1 := by omega
      rw [e, nI_pred]
      rfl
    · rw [s2, ← hlen]
      obtain ⟨n, hn⟩ : ∃ n, gN v 0 = n + 1 := ⟨gN v 0 - 1, by omega⟩
      rw [hn, show n + 1 - 1 = n by omega]
      show sumI (aN v 1) n + nI (aN v 1 n) - nI (aN v 1 k) = sumI (va_up (aN v 1) k (aN v 1 n)) n
      by_cases e : k = n
      · subst e
        rw [sumI_c (g := aN v 1) k (fun j hj => vu_n (by omega)), Int32.add_sub_cancel]
      · rw [← sumI_up (aN v 1) k (aN v 1 n) n (by omega), Int32.add_sub_cancel]
    · rw [s3, ← hlen]
      show _ = sumI (va_up (aN v 3) (gN v 1) (aN v 1 k)) (gN v 1) + nI (va_up (aN v 3) (gN v 1) (aN v 1 k) (gN v 1))
      rw [vu_e, sumI_c (g := aN v 3) (gN v 1) (fun j hj => vu_n (by omega))]
-- ===== the oldest kept block becomes free
def clN (ow : Nat → Nat) (a b : Nat) : Nat → Nat := fun j => if a ≤ j ∧ j < b then 0 else ow j
theorem H_free {u v : S5} (h : cH u v) (hk : 1 ≤ gN v 1) {b : Nat} (hb : b = aN u 3 (gN u 6)) :
    b < 1536 ∧ aN u 2 b = 2 ∧ gB (clN (aN u 0) b (b + un (aN u 1 b))) (aN u 1) (va_up (aN u 2) b 0) ∧ gW (clN (aN u 0) b (b + un (aN u 1 b))) (aN u 1) (va_up (aN u 2) b 0) ∧ gL (aN u 1) (va_up (aN u 2) b 0) (gN v 0) (aN v 0) (aN v 1) ∧ (∀ kt ktl : Nat → Nat, (∀ i, i < gN v 1 - 1 → kt i = aN v 2 (i + 1) ∧ ktl i = aN v 3 (i + 1)) → gK (aN u 1) (va_up (aN u 2) b 0) (aN u 3) ((gN u 6 + 1) % 1536) (gN u 7 - 1) (gN v 1 - 1) kt ktl ∧ gS (gI u 7 - nI (aN u 1 b)) (gI u 8) (gI u 9) (gN v 0) (gN v 1 - 1) (aN v 1) ktl) := by
  have hcnt := H_cnt h
  obtain ⟨hB, hO, hL, hK, hS⟩ := h
  obtain ⟨k1, k2, k3, k4, k5, k6, k7⟩ := hK
  have hz : aN u 3 ((gN u 6 + 0) % 1536) = b := by rw [hb]; exact congrArg _ (by omega)
  obtain ⟨z1, z2, z3⟩ := k4 0 (by omega)
  rw [hz] at z1 z2 z3
  have hbl : b < 1536 := by rw [hb]; exact k3 _ k2
  obtain ⟨_, b2, b3, b4, b5, b6⟩ := hB b hbl (by omega)
  refine ⟨hbl, z2, ?_, ?_, ?_, fun kt ktl hkt => ⟨?_, ?_⟩⟩
  · intro c hc hs
    have e : ¬ c = b := fun e => by rw [e, vu_e] at hs; exact hs rfl
    rw [vu_n e] at hs ⊢
    obtain ⟨g1, g2, g3, g4, g5, g6⟩ := hB c hc hs
    refine ⟨g1, g2, g3, g4, fun j y1 y2 => ?_, ?_⟩
    · unfold clN
      rw [if_neg (fun q => by have q1 := g5 j y1 y2; have q2 := b5 j q.1 q.2; omega)]
      exact g5 j y1 y2
    · unfold clN; split
      · rfl
      · exact g6
  · intro j hj ho
    unfold clN at ho ⊢
    by_cases q : b ≤ j ∧ j < b + un (aN u 1 b)
    · rw [if_pos q] at ho; exact absurd rfl ho
    · rw [if_neg q] at ho ⊢
      obtain ⟨g1, g2, g3⟩ := hO j hj ho
      have e : ¬ aN u 0 j - 1 = b := fun e => by rw [e] at g2 g3; exact q ⟨g2, g3⟩
      rw [vu_n e]
      exact ⟨g1, g2, g3⟩
  · obtain ⟨l1, l2, l3, l4⟩ := hL
    refine ⟨fun i hi => ?_, l2, fun c hc hs => ?_, ?_⟩
    · obtain ⟨c, g1, g2, g3, g4⟩ := l1 i hi
      have e : ¬ c = b := fun e => by rw [e] at g3; omega
      exact ⟨c, g1, g2, by rw [vu_n e]; exact g3, g4⟩
    · have e : ¬ c = b := fun e => by rw [e, vu_e] at hs; omega
      rw [vu_n e] at hs
      exact l3 c hc hs
    · rw [l4]
      refine cntB_c _ (fun c hc => ?_)
      by_cases e : c = b
      · subst e; simp [z2, vu_e]
      · simp [vu_n e]
  · have hi : ∀ i, aN u 3 (((gN u 6 + 1) % 1536 + i) % 1536) = aN u 3 ((gN u 6 + (i + 1)) % 1536) := fun i => congrArg _ (by omega)
    refine ⟨by omega, by omega, k3, fun i q => ?_, fun i j q1 q2 he => ?_, fun c hc hs => ?_, ?_⟩
    · rw [hi]
      obtain ⟨g1, g2, g3⟩ := k4 (i + 1) (by omega)
      obtain ⟨t1, t2⟩ := hkt i q
      have e : ¬ aN u 3 ((gN u 6 + (i + 1)) % 1536) = b := fun e => by
        have := k5 (i + 1) 0 (by omega) (by omega) (by rw [e, hz])
        omega
      exact ⟨by rw [t1]; exact g1, by rw [vu_n e]; exact g2, by rw [t2]; exact g3⟩
    · rw [hi, hi] at he
      have := k5 (i + 1) (j + 1) (by omega) (by omega) he
      omega
    · have e : ¬ c = b := fun e => by rw [e, vu_e] at hs; omega
      rw [vu_n e] at hs
      obtain ⟨i, g1, g2⟩ := k6 c hc hs
      have e2 : ¬ i = 0 := fun e2 => by rw [e2, hz] at g2; exact e g2.symm
      refine ⟨i - 1, by omega, ?_⟩
      rw [hi, show i - 1 + 1 = i by omega]
      exact g2
    · have := cntB_up (q := fun c => aN u 2 c == 2) (p := fun c => va_up (aN u 2) b 0 c == 2) (j := b) (by simp [vu_e]) (by simp [z2]) (fun c hc => by simp [vu_n hc]) 1536
      rw [if_pos hbl, ← k7] at this
      omega
  · obtain ⟨s1, s2, s3⟩ := hS
    refine ⟨s1, s2, ?_⟩
    obtain ⟨n, hn⟩ : ∃ n, gN v 1 = n + 1 := ⟨gN v 1 - 1, by omega⟩
    rw [s3, hn, show n + 1 - 1 = n by omega, sumI_0, z3, Int32.add_comm, Int32.add_sub_cancel]
    exact (sumI_c n (fun i hi => (hkt i (by omega)).2)).symm
theorem fo_l (u : S5) {b e : Nat} (hb : aN u 3 (gN u 6) = b) (he : e ≤ 1535) : ∀ (k j : Nat) (u1 : S5), 1536 < k + j → b ≤ j → j ≤ e → (∀ i, j ≤ i → i < e → aN u1 0 i = b + 1) → ¬ aN u1 0 e = b + 1 → f_He_freeOldest_58 u k j u1 = sAN u1 0 (clN (aN u1 0) j e)
  | 0, j, u1, h1, h2, h3, h4, h5 => by omega
  | k + 1, j, u1, h1, h2, h3, h4, h5 => by
    unfold f_He_freeOldest_58
    rw [if_pos (by omega : j < 1536), hb]
    by_cases q : j < e
    · rw [if_pos (h4 j (Nat.le_refl _) q)]
      rw [fo_l u hb he k (j + 1) (uN u1 0 j 0) (by omega) (by omega) (by omega) (fun i z1 z2 => by
        show va_up (aN u1 0) j 0 i = b + 1
        rw [vu_n (by omega)]; exact h4 i (by omega) z2) (by
        show ¬ va_up (aN u1 0) j 0 e = b + 1
        rw [vu_n (by omega)]; exact h5)]
      unfold uN
      rw [sAN_sAN, aN_sAN]
      refine congrArg _ ?_
      funext i
      unfold clN va_up
      by_cases y : i = j
      · subst y; simp [q]
      · by_cases y2 : j + 1 ≤ i ∧ i < e
        · rw [if_pos y2, if_pos (by omega)]
        · rw [if_neg y2, if_neg y, if_neg (by omega)]
    · have e1 : j = e := by omega
      rw [e1, if_neg h5]
      have : clN (aN u1 0) e e = aN u1 0 := by funext i; unfold clN; rw [if_neg (by omega)]
      rw [this, sAN_self]
theorem free_eq {u v : S5} (h : cH u v) (hk : 1 ≤ gN v 1) {b : Nat} (hb : b = aN u 3 (gN u 6)) : f_He_freeOldest u = sAN (uN (sI (sN (sN u 6 ((gN u 6 + 1) % 1536)) 7 (gN u 7 - 1)) 7 ((gI u 7) - nI (aN u 1 b))) 2 b 0) 0 (clN (aN u 0) b (b + un (aN u 1 b))) := by
  obtain ⟨f1, f2, _⟩ := H_free h hk hb
  obtain ⟨_, b2, b3, b4, b5, b6⟩ := h.1 b f1 (by omega)
  unfold f_He_freeOldest
  rw [← hb]
  have := fo_l u (b := b) (e := b + un (aN u 1 b)) hb.symm b3 1537 b (uN (sI (sN (sN u 6 ((gN u 6 + 1) % 1536)) 7 (gN u 7 - 1)) 7 ((gI u 7) - nI (aN u 1 b))) 2 b 0) (by omega) (Nat.le_refl _) (by omega) b5 (fun q => by
    have q1 : aN u 0 (b + un (aN u 1 b)) = b + 1 := q
    obtain ⟨_, _, g3⟩ := h.2.1 (b + un (aN u 1 b)) (by omega) (by omega)
    rw [q1, show b + 1 - 1 = b by omega] at g3
    omega)
  exact this
-- the reference's shift
theorem sf_l (at_ : Nat) (u : S5) (kx : Nat) (u3 : S5) : ∀ (k i : Nat) (v : S5), gN v 1 < k + i → 1 ≤ i → FrM [] [] [] [2, 3] [] v (f_Mo_back_148 at_ u kx u3 k i v) ∧ (∀ j, j < i - 1 → aN (f_Mo_back_148 at_ u kx u3 k i v) 2 j = aN v 2 j ∧ aN (f_Mo_back_148 at_ u kx u3 k i v) 3 j = aN v 3 j) ∧ ∀ j, i - 1 ≤ j → j < gN v 1 - 1 → aN (f_Mo_back_148 at_ u kx u3 k i v) 2 j = aN v 2 (j + 1) ∧ aN (f_Mo_back_148 at_ u kx u3 k i v) 3 j = aN v 3 (j + 1)
  | 0, i, v, h1, h2 => by
    unfold f_Mo_back_148
    exact ⟨FrM.rf, fun j hj => ⟨rfl, rfl⟩, fun j z1 z2 => by omega⟩
  | k + 1, i, v, h1, h2 => by
    unfold f_Mo_back_148
    by_cases hi : i < gN v 1
    · rw [if_pos hi]
      obtain ⟨g1, g2, g3⟩ := sf_l at_ u kx u3 k (i + 1) (uN (uN v 2 (i - 1) (aN v 2 i)) 3 (i - 1) (aN v 3 i)) (by show gN v 1 < _; omega) (by omega)
      refine ⟨FrM.tr (FrM.tr (FrM.uN _ _ _ _ (by decide)) (FrM.uN _ _ _ _ (by decide))) g1, fun j hj => ?_, fun j z1 z2 => ?_⟩
      · obtain ⟨y1, y2⟩ := g2 j (by omega)
        rw [y1, y2]
        show va_up (aN v 2) (i - 1) _ j = _ ∧ va_up (aN v 3) (i - 1) _ j = _
        rw [vu_n (by omega), vu_n (by omega)]
        exact ⟨rfl, rfl⟩
      · by_cases e : j = i - 1
        · obtain ⟨y1, y2⟩ := g2 j (by omega)
          rw [y1, y2]
          show va_up (aN v 2) (i - 1) _ j = _ ∧ va_up (aN v 3) (i - 1) _ j = _
          rw [e, vu_e, vu_e, show i - 1 + 1 = i by omega]
          exact ⟨rfl, rfl⟩
        · obtain ⟨y1, y2⟩ := g3 j (by omega) z2
          rw [y1, y2]
          show va_up (aN v 2) (i - 1) _ (j + 1) = _ ∧ va_up (aN v 3) (i - 1) _ (j + 1) = _
          rw [vu_n (by omega), vu_n (by omega)]
          exact ⟨rfl, rfl⟩
    · rw [if_neg hi]
      exact ⟨FrM.rf, fun j hj => ⟨rfl, rfl⟩, fun j z1 z2 => by omega⟩
theorem s2_l (v : S5) : ∀ (k j : Nat) (x : Int32), gN v 1 < k + j → j ≤ gN v 1 → x = sumI (aN v 3) j → f_Mo_sum2_4 v k j x = sumI (aN v 3) (gN v 1)
  | 0, j, x, h1, h2, h3 => by omega
  | k + 1, j, x, h1, h2, h3 => by
    unfold f_Mo_sum2_4
    by_cases hj : j < gN v 1
    · rw [if_pos hj]; exact s2_l v k (j + 1) _ (by omega) (by omega) (by rw [h3]; rfl)
    · rw [if_neg hj, h3, show j = gN v 1 by omega]
theorem sum2_eq (v : S5) : f_Mo_sum2 v = sumI (aN v 3) (gN v 1) := s2_l v _ _ _ (by omega) (by omega) rfl
theorem fre_fr (u : S5) (a b : Nat) (c : Int32) (d : Nat) (f : Nat → Nat) : FrS [7] [6, 7] [] [0, 2] u (sAN (uN (sI (sN (sN u 6 a) 7 b) 7 c) 2 d 0) 0 f) := by
  refine ⟨fun x hx => ?_, fun x hx => ?_, fun _ _ => rfl, fun x hx => ?_, fun _ => rfl⟩
  · exact if_neg (fun e : x = 7 => hx (by subst e; decide))
  · have h6 : ¬ x = 6 := fun e => hx (by subst e; decide)
    have h7 : ¬ x = 7 := fun e => hx (by subst e; decide)
    show va_up (va_up u.2.1 6 a) 7 b x = u.2.1 x
    unfold va_up; rw [if_neg h7, if_neg h6]
  · have h0 : ¬ x = 0 := fun e => hx (by subst e; decide)
    have h2 : ¬ x = 2 := fun e => hx (by subst e; decide)
    show va_up (va_up u.2.2.2.1 2 _) 0 f x = u.2.2.2.1 x
    unfold va_up; rw [if_neg h0, if_neg h2]
/-- both let go the oldest while there is too much -/
theorem H_loop (a : Int32) (u0 : S5) (at_ : Nat) (v0 : S5) (kx : Nat) : ∀ (left k k2 : Nat) (u v : S5), cH u v → left = gN v 1 → left < k → left < k2 →
    cH (f_He_keep_100 a u0 k left u).2 (f_Mo_back_135 at_ v0 kx k2 v) ∧ FrS [7] [6, 7] [] [0, 2] u (f_He_keep_100 a u0 k left u).2 ∧ FrM [] [1] [] [2, 3] [] v (f_Mo_back_135 at_ v0 kx k2 v) ∧ ∀ c, c < 1536 → aN (f_He_keep_100 a u0 k left u).2 2 c = 1 → aN u 2 c = 1
  | left, 0, k2, u, v, h, hl, h1, h2 => by omega
  | left, k + 1, 0, u, v, h, hl, h1, h2 => by omega
  | left, k + 1, k2 + 1, u, v, h, hl, h1, h2 => by
    have hko : gI u 7 = f_Mo_sum2 v := by rw [sum2_eq]; exact h.2.2.2.2.2.2
    unfold f_He_keep_100 f_Mo_back_135
    by_cases z : gI u 7 ≤ 2048
    · have e : (if left = 0 then (aN u 1 (hu a), u) else if gI u 7 ≤ 2048 then (aN u 1 (hu a), u) else f_He_keep_100 a u0 k (left - 1) (f_He_freeOldest u)) = (aN u 1 (hu a), u) := by
        by_cases y : left = 0
        · rw [if_pos y]
        · rw [if_neg y, if_pos z]
      rw [e, if_pos (show f_Mo_sum2 v ≤ 2048 by rw [← hko]; exact z)]
      exact ⟨h, FrS.rf, FrM.rf, fun c _ q => q⟩
    · have hl0 : ¬ left = 0 := fun e => by
        apply z
        rw [hko, sum2_eq, ← hl, e]
        show (0 : Int32) ≤ 2048
        decide
      rw [if_neg hl0, if_neg z, if_neg (show ¬ f_Mo_sum2 v ≤ 2048 by rw [← hko]; exact z)]
      dsimp only
      obtain ⟨g1, g2, g3⟩ := sf_l at_ v0 kx v (gN v 1 + 1) 1 v (by omega) (by omega)
      have hgn : gN (f_Mo_back_148 at_ v0 kx v (gN v 1 + 1) 1 v) 1 = gN v 1 := g1.2.1 1 (by decide)
      obtain ⟨b, hb⟩ : ∃ b, b = aN u 3 (gN u 6) := ⟨_, rfl⟩
      obtain ⟨f1, f2, f3, f4, f5, f6⟩ := H_free h (by omega) hb
      obtain ⟨f7, f8⟩ := f6 (aN (f_Mo_back_148 at_ v0 kx v (gN v 1 + 1) 1 v) 2) (aN (f_Mo_back_148 at_ v0 kx v (gN v 1 + 1) 1 v) 3) (fun i hi => g3 i (by omega) hi)
      have hH : cH (f_He_freeOldest u) (sN (f_Mo_back_148 at_ v0 kx v (gN v 1 + 1) 1 v) 1 (gN v 1 - 1)) := by
        rw [free_eq h (by omega) hb]
        refine ⟨f3, f4, ?_, f7, ?_⟩
        · show gL (aN u 1) (va_up (aN u 2) b 0) (gN (f_Mo_back_148 at_ v0 kx v (gN v 1 + 1) 1 v) 0) (aN (f_Mo_back_148 at_ v0 kx v (gN v 1 + 1) 1 v) 0) (aN (f_Mo_back_148 at_ v0 kx v (gN v 1 + 1) 1 v) 1)
          rw [g1.2.1 0 (by decide), g1.2.2.2.1 0 (by decide), g1.2.2.2.1 1 (by decide)]
          exact f5
        · show gS _ _ _ (gN (f_Mo_back_148 at_ v0 kx v (gN v 1 + 1) 1 v) 0) _ (aN (f_Mo_back_148 at_ v0 kx v (gN v 1 + 1) 1 v) 1) _
          rw [g1.2.1 0 (by decide), g1.2.2.2.1 1 (by decide)]
          exact f8
      rw [hgn]
      obtain ⟨r1, r2, r3, r4⟩ := H_loop a u0 at_ v0 kx (left - 1) k k2 (f_He_freeOldest u) (sN (f_Mo_back_148 at_ v0 kx v (gN v 1 + 1) 1 v) 1 (gN v 1 - 1)) hH (by show left - 1 = gN v 1 - 1; omega) (by omega) (by omega)
      refine ⟨r1, FrS.tr ?_ r2, FrM.tr (FrM.tr (g1.wk (by decide) (by decide) (by decide) (by decide) (by decide)) (FrM.sN _ _ _ (by decide))) r3, fun c hc q => ?_⟩
      · rw [free_eq h (by omega) hb]
        exact fre_fr u _ _ _ _ _
      · have q2 := r4 c hc q
        rw [free_eq h (by omega) hb] at q2
        have q3 : va_up (aN u 2) b 0 c = 1 := q2
        by_cases e : c = b
        · rw [e, vu_e] at q3; omega
        · rw [vu_n e] at q3; exact q3
