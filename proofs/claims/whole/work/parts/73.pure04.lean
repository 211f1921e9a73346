-- ===== handing out and shutting
def opn (u : S5) (f g : Nat → Bool) : S5 := sAB (sAB u 0 f) 1 g
theorem opn_opn (u : S5) (f f2 g g2 : Nat → Bool) : opn (opn u f g) f2 g2 = opn u f2 g2 := by
  have e : ∀ (w : S5) (a b : Nat → Bool), sAB (sAB w 1 a) 0 b = sAB (sAB w 0 b) 1 a := fun w a b => by
    obtain ⟨w1, w2, w3, w4, w5⟩ := w
    unfold sAB
    congr 4
    funext j
    rcases (show j = 0 ∨ j = 1 ∨ 2 ≤ j by omega) with rfl | rfl | h
    · rfl
    · rfl
    · simp [va_up, show ¬ j = 0 by omega, show ¬ j = 1 by omega]
  show sAB (sAB (sAB (sAB u 0 f) 1 g) 0 f2) 1 g2 = _
  rw [e, sAB_sAB, sAB_sAB]; rfl
theorem opn_self (u : S5) : opn u (aB u 0) (aB u 1) = u := by
  show sAB (sAB u 0 (aB u 0)) 1 (aB u 1) = u
  rw [sAB_self, sAB_self]
theorem opn_0 (u : S5) (f g : Nat → Bool) : aB (opn u f g) 0 = f := rfl
theorem opn_1 (u : S5) (f g : Nat → Bool) : aB (opn u f g) 1 = g := rfl
def hoF (c : Nat → Int32) (q : Nat) : Int32 := ((c q &&& (255 : Int32)) ||| (65536 : Int32)) ||| (65280 : Int32)
def shF (c : Nat → Int32) (q : Nat) : Int32 := c q &&& (255 : Int32)
theorem ho_l (at_ n : Nat) (u : S5) : ∀ (k i : Nat) (u1 : S5), n < k + i → i ≤ n → f_Me_handOut_2 at_ n u k i u1 = sAI u1 0 (rwI (aI u1 0) (at_ + i) (at_ + n) (hoF (aI u1 0)))
  | 0, i, u1, h1, h2 => by omega
  | k + 1, i, u1, h1, h2 => by
    unfold f_Me_handOut_2
    by_cases hi : i < n
    · rw [if_pos hi, ho_l at_ n u k (i + 1) _ (by omega) (by omega)]
      unfold uI
      rw [sAI_sAI, aI_sAI]
      refine congrArg _ ?_
      rw [← rwI_s (f := aI u1 0) (F := hoF (aI u1 0)) (show at_ + i < at_ + n by omega)]
      exact rwI_c (fun q h3 h4 => by unfold hoF; rw [upd_ne (by omega)])
    · rw [if_neg hi, rwI_e (by omega), sAI_self]
theorem hand_eq (at_ n : Nat) (u : S5) : f_Me_handOut at_ n u = sAI u 0 (rwI (aI u 0) at_ (at_ + n) (hoF (aI u 0))) := ho_l at_ n u _ _ _ (by omega) (by omega)
theorem sh_l (at_ n : Nat) (u : S5) : ∀ (k i : Nat) (u1 : S5), n < k + i → i ≤ n → f_Me_shut_2 at_ n u k i u1 = sAI u1 0 (rwI (aI u1 0) (at_ + i) (at_ + n) (shF (aI u1 0)))
  | 0, i, u1, h1, h2 => by omega
  | k + 1, i, u1, h1, h2 => by
    unfold f_Me_shut_2
    by_cases hi : i < n
    · rw [if_pos hi, sh_l at_ n u k (i + 1) _ (by omega) (by omega)]
      unfold uI
      rw [sAI_sAI, aI_sAI]
      refine congrArg _ ?_
      rw [← rwI_s (f := aI u1 0) (F := shF (aI u1 0)) (show at_ + i < at_ + n by omega)]
      exact rwI_c (fun q h3 h4 => by unfold shF; rw [upd_ne (by omega)])
    · rw [if_neg hi, rwI_e (by omega), sAI_self]
theorem shut_eq (at_ n : Nat) (u : S5) : f_Me_shut at_ n u = sAI u 0 (rwI (aI u 0) at_ (at_ + n) (shF (aI u 0))) := sh_l at_ n u _ _ _ (by omega) (by omega)
theorem bk_l1 (n : Int32) (u : S5) (at_ i : Nat) : ∀ (k j : Nat) (u2 : S5), 8 < k + j → j ≤ 8 → f_Mo_block_110 n u at_ i k j u2 = sAB u2 1 (rwB (aB u2 1) (8 * i + j) (8 * (i + 1)) (fun _ => true))
  | 0, j, u2, h1, h2 => by omega
  | k + 1, j, u2, h1, h2 => by
    unfold f_Mo_block_110
    by_cases hj : j < 8
    · rw [if_pos hj, bk_l1 n u at_ i k (j + 1) _ (by omega) (by omega)]
      unfold uB
      rw [sAB_sAB, aB_sAB]
      exact congrArg _ (rwB_s (F := fun _ => true) (by omega))
    · rw [if_neg hj, rwB_e (by omega), sAB_self]
theorem bk_l2 (n : Int32) (u : S5) (at_ : Nat) : ∀ (k i : Nat) (u1 : S5), at_ + n.toNatClampNeg < k + i → i ≤ at_ + n.toNatClampNeg → f_Mo_block_91 n u at_ k i u1 = (at_, opn u1 (rwB (aB u1 0) i (at_ + n.toNatClampNeg) (fun _ => true)) (rwB (aB u1 1) (8 * i) (8 * (at_ + n.toNatClampNeg)) (fun _ => true)))
  | 0, i, u1, h1, h2 => by omega
  | k + 1, i, u1, h1, h2 => by
    unfold f_Mo_block_91
    by_cases hi : i < at_ + n.toNatClampNeg
    · rw [if_pos hi]
      dsimp only
      have hs : f_Mo_block_110 n u at_ i 9 0 (uB u1 0 i true) = opn u1 (va_up (aB u1 0) i true) (rwB (aB u1 1) (8 * i) (8 * (i + 1)) (fun _ => true)) := by
        rw [bk_l1 n u at_ i 9 0 _ (by omega) (by omega)]; rfl
      rw [hs, bk_l2 n u at_ k (i + 1) _ (by omega) (by omega), opn_opn, opn_0, opn_1, rwB_s (F := fun _ => true) (by omega), rwB_rw (by omega) (by omega)]
    · rw [if_neg hi, rwB_e (by omega), rwB_e (by omega), opn_self]
theorem bc_l1 (at_ : Nat) (u : S5) (kx i : Nat) : ∀ (k j : Nat) (u2 : S5), 8 < k + j → j ≤ 8 → f_Mo_back_35 at_ u kx i k j u2 = sAB u2 1 (rwB (aB u2 1) (8 * i + j) (8 * (i + 1)) (fun _ => false))
  | 0, j, u2, h1, h2 => by omega
  | k + 1, j, u2, h1, h2 => by
    unfold f_Mo_back_35
    by_cases hj : j < 8
    · rw [if_pos hj, bc_l1 at_ u kx i k (j + 1) _ (by omega) (by omega)]
      unfold uB
      rw [sAB_sAB, aB_sAB]
      exact congrArg _ (rwB_s (F := fun _ => false) (by omega))
    · rw [if_neg hj, rwB_e (by omega), sAB_self]
theorem bc_l2 (at_ : Nat) (u : S5) (kx : Nat) : ∀ (k i : Nat) (u1 : S5), at_ + aN u 1 kx < k + i → i ≤ at_ + aN u 1 kx → f_Mo_back_16 at_ u kx k i u1 = opn u1 (rwB (aB u1 0) i (at_ + aN u 1 kx) (fun _ => false)) (rwB (aB u1 1) (8 * i) (8 * (at_ + aN u 1 kx)) (fun _ => false))
  | 0, i, u1, h1, h2 => by omega
  | k + 1, i, u1, h1, h2 => by
    unfold f_Mo_back_16
    by_cases hi : i < at_ + aN u 1 kx
    · rw [if_pos hi]
      dsimp only
      have hs : f_Mo_back_35 at_ u kx i 9 0 (uB u1 0 i false) = opn u1 (va_up (aB u1 0) i false) (rwB (aB u1 1) (8 * i) (8 * (i + 1)) (fun _ => false)) := by
        rw [bc_l1 at_ u kx i 9 0 _ (by omega) (by omega)]; rfl
      rw [hs, bc_l2 at_ u kx k (i + 1) _ (by omega) (by omega), opn_opn, opn_0, opn_1, rwB_s (F := fun _ => false) (by omega), rwB_rw (by omega) (by omega)]
    · rw [if_neg hi, rwB_e (by omega), rwB_e (by omega), opn_self]
theorem cM_hand {c oc : Nat → Int32} {op dk : Nat → Bool} (h : cM c oc op dk) (a b : Nat) : cM (rwI c a b (hoF c)) oc (rwB op a b (fun _ => true)) (rwB dk (8 * a) (8 * b) (fun _ => true)) := by
  intro k hk
  have hk1 := h k hk
  by_cases q : a ≤ k ∧ k < b
  · rw [rwI_in q.1 q.2, rwB_in q.1 q.2]
    refine K_of hk1.2.2.2.2 (fun i hi => ?_)
    have e : bt (hoF c k) i = (((bt (c k) i && decide (i < 8)) || decide (i = 16)) || (decide (8 ≤ i) && decide (i < 16))) := by
      unfold hoF; rw [b_or, b_or, b_and, b_255, b_65536, b_65280]
    rw [e]
    by_cases a1 : i < 8
    · rw [if_pos a1, hk1.1 i a1]; simp [a1, show ¬ i = 16 by omega, Nat.not_le.mpr a1]
    · rw [if_neg a1]
      by_cases a2 : i < 16
      · rw [if_pos a2, rwB_in (by omega) (by omega)]; simp [a2, show 8 ≤ i by omega]
      · rw [if_neg a2]
        by_cases a3 : i = 16
        · simp [a3]
        · simp [a1, a2, a3]
  · rw [rwI_out q, rwB_out q]
    refine ⟨hk1.1, fun j hj => ?_, hk1.2.2⟩
    show bt (c k) (8 + j) = rwB dk _ _ _ (8 * k + j)
    rw [rwB_out (by omega)]
    exact hk1.2.1 j hj
theorem cM_shut {c oc : Nat → Int32} {op dk : Nat → Bool} (h : cM c oc op dk) (a b : Nat) : cM (rwI c a b (shF c)) oc (rwB op a b (fun _ => false)) (rwB dk (8 * a) (8 * b) (fun _ => false)) := by
  intro k hk
  have hk1 := h k hk
  by_cases q : a ≤ k ∧ k < b
  · rw [rwI_in q.1 q.2, rwB_in q.1 q.2]
    refine K_of hk1.2.2.2.2 (fun i hi => ?_)
    have e : bt (shF c k) i = (bt (c k) i && decide (i < 8)) := by
      unfold shF; rw [b_and, b_255]
    rw [e]
    by_cases a1 : i < 8
    · rw [if_pos a1, hk1.1 i a1]; simp [a1]
    · rw [if_neg a1]
      by_cases a2 : i < 16
      · rw [if_pos a2, rwB_in (by omega) (by omega)]; simp [a1]
      · rw [if_neg a2]
        by_cases a3 : i = 16
        · simp [a3]
        · simp [a1, a2, a3]
  · rw [rwI_out q, rwB_out q]
    refine ⟨hk1.1, fun j hj => ?_, hk1.2.2⟩
    show bt (c k) (8 + j) = rwB dk _ _ _ (8 * k + j)
    rw [rwB_out (by omega)]
    exact hk1.2.1 j hj
-- ===== moving
theorem va_ne {f : Nat → Bool} {a k : Nat} {x : Bool} (h : ¬ k = a) : va_up f a x k = f k := if_neg h
theorem ag_l1 (a n : Int32) (u : S5) (kx i to : Nat) (hto : (f_Mo_block n u).1 = to) (hne : ¬ a.toNatClampNeg = to) : ∀ (k j : Nat) (u3 : S5), 8 < k + j → j ≤ 8 → f_Mo_again_82 a n u kx i k j u3 = sAB u3 1 (rwB (aB u3 1) (8 * (to + i) + j) (8 * (to + (i + 1))) (fun q => aB u3 1 (8 * a.toNatClampNeg + (q - 8 * to))))
  | 0, j, u3, h1, h2 => by omega
  | k + 1, j, u3, h1, h2 => by
    unfold f_Mo_again_82
    by_cases hj : j < 8
    · rw [if_pos hj, ag_l1 a n u kx i to hto hne k (j + 1) _ (by omega) (by omega), hto]
      unfold uB
      rw [sAB_sAB, aB_sAB]
      refine congrArg _ ?_
      rw [← rwB_s (f := aB u3 1) (F := fun q => aB u3 1 (8 * a.toNatClampNeg + (q - 8 * to))) (show 8 * (to + i) + j < 8 * (to + (i + 1)) by omega)]
      rw [show 8 * a.toNatClampNeg + (8 * (to + i) + j - 8 * to) = 8 * (a.toNatClampNeg + i) + j by omega]
      exact rwB_c (fun q h3 h4 => va_ne (by omega))
    · rw [if_neg hj, rwB_e (by omega), sAB_self]
theorem ag_l2 (a n : Int32) (u : S5) (kx to m : Nat) (hto : (f_Mo_block n u).1 = to) (hm : m = if aN u 1 kx < n.toNatClampNeg then aN u 1 kx else n.toNatClampNeg) (hd : a.toNatClampNeg + m ≤ to ∨ to + m ≤ a.toNatClampNeg) : ∀ (k i : Nat) (u2 : S5), aN u 1 kx < k + i → i ≤ m → f_Mo_again_48 a n u kx k i u2 = two u2 (rwI (aI u2 1) (to + i) (to + m) (fun q => aI u2 1 (a.toNatClampNeg + (q - to)))) (rwB (aB u2 1) (8 * (to + i)) (8 * (to + m)) (fun q => aB u2 1 (8 * a.toNatClampNeg + (q - 8 * to))))
  | 0, i, u2, h1, h2 => by
    have : m ≤ aN u 1 kx := by rw [hm]; split <;> omega
    omega
  | k + 1, i, u2, h1, h2 => by
    unfold f_Mo_again_48
    have hm1 : i < m ↔ (i < aN u 1 kx ∧ i < n.toNatClampNeg) := by rw [hm]; split <;> omega
    by_cases hi : i < m
    · rw [if_pos (hm1.mp hi).1, if_pos (hm1.mp hi).2]
      dsimp only
      have hs : f_Mo_again_82 a n u kx i 9 0 (uI u2 1 ((f_Mo_block n u).1 + i) (aI u2 1 (a.toNatClampNeg + i))) = two u2 (upd (aI u2 1) (to + i) (aI u2 1 (a.toNatClampNeg + (to + i - to)))) (rwB (aB u2 1) (8 * (to + i)) (8 * (to + (i + 1))) (fun q => aB u2 1 (8 * a.toNatClampNeg + (q - 8 * to)))) := by
        rw [ag_l1 a n u kx i to hto (by omega) 9 0 _ (by omega) (by omega), hto, show to + i - to = i by omega]; rfl
      rw [hs, ag_l2 a n u kx to m hto hm hd k (i + 1) _ (by omega) (by omega), two_two, two_I, two_B]
      have e1 : rwI (upd (aI u2 1) (to + i) (aI u2 1 (a.toNatClampNeg + (to + i - to)))) (to + (i + 1)) (to + m) (fun q => upd (aI u2 1) (to + i) (aI u2 1 (a.toNatClampNeg + (to + i - to))) (a.toNatClampNeg + (q - to))) = rwI (aI u2 1) (to + i) (to + m) (fun q => aI u2 1 (a.toNatClampNeg + (q - to))) := by
        rw [← rwI_s (f := aI u2 1) (F := fun q => aI u2 1 (a.toNatClampNeg + (q - to))) (show to + i < to + m by omega)]
        exact rwI_c (fun q h3 h4 => upd_ne (by omega))
      have e2 : rwB (rwB (aB u2 1) (8 * (to + i)) (8 * (to + (i + 1))) (fun q => aB u2 1 (8 * a.toNatClampNeg + (q - 8 * to)))) (8 * (to + (i + 1))) (8 * (to + m)) (fun q => rwB (aB u2 1) (8 * (to + i)) (8 * (to + (i + 1))) (fun q => aB u2 1 (8 * a.toNatClampNeg + (q - 8 * to))) (8 * a.toNatClampNeg + (q - 8 * to))) = rwB (aB u2 1) (8 * (to + i)) (8 * (to + m)) (fun q => aB u2 1 (8 * a.toNatClampNeg + (q - 8 * to))) := by
        rw [← rwB_rw (f := aB u2 1) (F := fun q => aB u2 1 (8 * a.toNatClampNeg + (q - 8 * to))) (show 8 * (to + i) ≤ 8 * (to + (i + 1)) by omega) (show 8 * (to + (i + 1)) ≤ 8 * (to + m) by omega)]
        exact rwB_c (fun q h3 h4 => rwB_out (by omega))
      rw [e1, e2]
    · have e : i = m := by omega
      have hx : (if i < aN u 1 kx then (if i < n.toNatClampNeg then (let v2 : S5 := f_Mo_again_82 a n u kx i 9 0 (uI u2 1 ((f_Mo_block n u).1 + i) (aI u2 1 (a.toNatClampNeg + i))); f_Mo_again_48 a n u kx k (i + 1) v2) else u2) else u2) = u2 := by
        by_cases z1 : i < aN u 1 kx
        · rw [if_pos z1, if_neg (fun z2 => hi (hm1.mpr ⟨z1, z2⟩))]
        · rw [if_neg z1]
      rw [hx, rwI_e (by omega), rwB_e (by omega), two_self]
theorem cM_move {c oc : Nat → Int32} {op dk : Nat → Bool} (h : cM c oc op dk) {A to m : Nat} (hA : A + m ≤ 65536) (ho : ∀ i, i < m → op (A + i) = op (to + i)) : cM (rwI c to (to + m) (fun q => c (A + (q - to)))) (rwI oc to (to + m) (fun q => oc (A + (q - to)))) op (rwB dk (8 * to) (8 * (to + m)) (fun q => dk (8 * A + (q - 8 * to)))) := by
  intro k hk
  by_cases q : to ≤ k ∧ k < to + m
  · rw [rwI_in q.1 q.2, rwI_in q.1 q.2]
    have h1 := h (A + (k - to)) (by omega)
    have h2 := ho (k - to) (by omega)
    rw [show to + (k - to) = k by omega] at h2
    rw [← h2]
    refine ⟨h1.1, fun j hj => ?_, h1.2.2⟩
    show bt _ (8 + j) = rwB dk _ _ _ (8 * k + j)
    rw [rwB_in (by omega) (by omega), h1.2.1 j hj]
    exact congrArg dk (by omega)
  · have hk1 := h k hk
    rw [rwI_out q, rwI_out q]
    refine ⟨hk1.1, fun j hj => ?_, hk1.2.2⟩
    show bt (c k) (8 + j) = rwB dk _ _ _ (8 * k + j)
    rw [rwB_out (by omega)]
    exact hk1.2.1 j hj
theorem move_eq (fr to n : Nat) (u : S5) : f_Me_move fr to n u = sAI u 0 (rwI (aI u 0) to (to + n) (fun q => aI u 0 (fr + (q - to)))) := rfl
