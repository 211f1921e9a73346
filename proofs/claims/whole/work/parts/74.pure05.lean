-- ===== the image, the start
def cI (im im2 : Nat → Int32) : Prop := ∀ k, k < 16384 → im k = (65536 : Int32) ||| im2 k ∧ ∀ i, 8 ≤ i → bt (im2 k) i = false
def imF (at_ : Nat) (w : Int64) (q : Nat) : Int32 := (((w.toUInt64 >>> ((nI (8 * (q - at_))).toInt64.toUInt64 &&& Int64.toUInt64 63)).toInt64).toInt32) &&& (255 : Int32)
theorem ki_l (at_ : Nat) (w : Int64) (u : S5) : ∀ (k i : Nat) (u1 : S5), 8 < k + i → i ≤ 8 → f_Me_keepImage_3 at_ w u k i u1 = sAI u1 1 (rwI (aI u1 1) (at_ + i) (at_ + 8) (fun q => (65536 : Int32) ||| imF at_ w q))
  | 0, i, u1, h1, h2 => by omega
  | k + 1, i, u1, h1, h2 => by
    unfold f_Me_keepImage_3
    by_cases hi : i < 8
    · rw [if_pos hi, ki_l at_ w u k (i + 1) _ (by omega) (by omega)]
      unfold uI
      rw [sAI_sAI, aI_sAI]
      refine congrArg _ ?_
      rw [← rwI_s (f := aI u1 1) (F := fun q => (65536 : Int32) ||| imF at_ w q) (show at_ + i < at_ + 8 by omega)]
      rw [show imF at_ w (at_ + i) = _ by unfold imF; rw [show at_ + i - at_ = i by omega]]
      rfl
    · rw [if_neg hi, rwI_e (by omega), sAI_self]
theorem im_l (a : Int32) (w : Int64) (u : S5) : ∀ (k i : Nat) (u1 : S5), 8 < k + i → i ≤ 8 → f_Mo_image_35 a w u k i u1 = sAI u1 0 (rwI (aI u1 0) (a.toNatClampNeg + i) (a.toNatClampNeg + 8) (imF a.toNatClampNeg w))
  | 0, i, u1, h1, h2 => by omega
  | k + 1, i, u1, h1, h2 => by
    unfold f_Mo_image_35
    by_cases hi : i < 8
    · rw [if_pos hi, im_l a w u k (i + 1) _ (by omega) (by omega)]
      unfold uI
      rw [sAI_sAI, aI_sAI]
      refine congrArg _ ?_
      rw [← rwI_s (f := aI u1 0) (F := imF a.toNatClampNeg w) (show a.toNatClampNeg + i < a.toNatClampNeg + 8 by omega)]
      rw [show imF a.toNatClampNeg w (a.toNatClampNeg + i) = _ by unfold imF; rw [show a.toNatClampNeg + i - a.toNatClampNeg = i by omega]]
      rfl
    · rw [if_neg hi, rwI_e (by omega), sAI_self]
theorem cI_put {im im2 : Nat → Int32} (h : cI im im2) (at_ : Nat) (w : Int64) : cI (rwI im at_ (at_ + 8) (fun q => (65536 : Int32) ||| imF at_ w q)) (rwI im2 at_ (at_ + 8) (imF at_ w)) := by
  intro k hk
  by_cases q : at_ ≤ k ∧ k < at_ + 8
  · rw [rwI_in q.1 q.2, rwI_in q.1 q.2]
    refine ⟨rfl, fun i hi => ?_⟩
    unfold imF
    rw [b_and, b_255, decide_eq_false (by omega), Bool.and_false]
  · rw [rwI_out q, rwI_out q]; exact h k hk
/-- the reference's octets, what is open, what is not given: all anew -/
def tri (u : S5) (f : Nat → Int32) (g h : Nat → Bool) : S5 := opn (sAI u 1 f) g h
theorem tri_tri (u : S5) (f f2 : Nat → Int32) (g g2 h h2 : Nat → Bool) : tri (tri u f g h) f2 g2 h2 = tri u f2 g2 h2 := by
  show opn (opn (sAI (sAI u 1 f) 1 f2) g h) g2 h2 = _
  rw [opn_opn, sAI_sAI]; rfl
theorem tri_self (u : S5) : tri u (aI u 1) (aB u 0) (aB u 1) = u := by
  show opn (sAI u 1 (aI u 1)) (aB u 0) (aB u 1) = u
  rw [sAI_self, opn_self]
theorem tri_I (u : S5) (f : Nat → Int32) (g h : Nat → Bool) : aI (tri u f g h) 1 = f := rfl
theorem tri_I0 (u : S5) (f : Nat → Int32) (g h : Nat → Bool) : aI (tri u f g h) 0 = aI u 0 := rfl
theorem tri_0 (u : S5) (f : Nat → Int32) (g h : Nat → Bool) : aB (tri u f g h) 0 = g := rfl
theorem tri_1 (u : S5) (f : Nat → Int32) (g h : Nat → Bool) : aB (tri u f g h) 1 = h := rfl
def bgD (q : Nat) : Bool := if q / 8 < 57344 then false else true
def bgO (q : Nat) : Bool := if q < 16384 then true else if q < 57344 then false else true
def bgC (im : Nat → Int32) (q : Nat) : Int32 := if q < 16384 then im q else 0
theorem bg_l1 (u : S5) (k_ : Nat) : ∀ (k i : Nat) (u2 : S5), 8 < k + i → i ≤ 8 → f_Mo_begin_62 u k_ k i u2 = sAB u2 1 (rwB (aB u2 1) (8 * k_ + i) (8 * (k_ + 1)) bgD)
  | 0, i, u2, h1, h2 => by omega
  | k + 1, i, u2, h1, h2 => by
    unfold f_Mo_begin_62
    by_cases hi : i < 8
    · rw [if_pos hi]
      dsimp only
      rw [bg_l1 u k_ k (i + 1) _ (by omega) (by omega)]
      unfold uB
      rw [sAB_sAB, aB_sAB]
      refine congrArg _ ?_
      rw [← rwB_s (f := aB u2 1) (F := bgD) (show 8 * k_ + i < 8 * (k_ + 1) by omega)]
      rw [show bgD (8 * k_ + i) = _ by unfold bgD; rw [show (8 * k_ + i) / 8 = k_ by omega]]
      rfl
    · rw [if_neg hi, rwB_e (by omega), sAB_self]
theorem bg_l2 (u : S5) : ∀ (k k_ : Nat) (u1 : S5), 65536 < k + k_ → k_ ≤ 65536 → f_Mo_begin_7 u k k_ u1 = tri u1 (rwI (aI u1 1) k_ 65536 (bgC (aI u1 0))) (rwB (aB u1 0) k_ 65536 bgO) (rwB (aB u1 1) (8 * k_) 524288 bgD)
  | 0, k_, u1, h1, h2 => by omega
  | k + 1, k_, u1, h1, h2 => by
    unfold f_Mo_begin_7
    by_cases hk : k_ < 65536
    · rw [if_pos hk]
      dsimp only
      have hs : f_Mo_begin_62 u k_ 9 0 (uB (uI u1 1 k_ (if k_ < 16384 then aI u1 0 k_ else 0)) 0 k_ (if k_ < 16384 then true else if k_ < 57344 then false else true)) = tri u1 (upd (aI u1 1) k_ (bgC (aI u1 0) k_)) (va_up (aB u1 0) k_ (bgO k_)) (rwB (aB u1 1) (8 * k_) (8 * (k_ + 1)) bgD) := by
        rw [bg_l1 u k_ 9 0 _ (by omega) (by omega)]; rfl
      rw [hs, bg_l2 u k (k_ + 1) _ (by omega) (by omega), tri_tri, tri_I, tri_I0, tri_0, tri_1, rwI_s (F := bgC (aI u1 0)) hk, rwB_s (F := bgO) hk, rwB_rw (by omega) (by omega)]
    · rw [if_neg hk, rwI_e (by omega), rwB_e (by omega), rwB_e (by omega), tri_self]
def reg (u : S5) (f : Nat → Int32) (g : Nat → Bool) : S5 := sAB (sAI u 2 f) 2 g
theorem reg_reg (u : S5) (f f2 : Nat → Int32) (g g2 : Nat → Bool) : reg (reg u f g) f2 g2 = reg u f2 g2 := by
  show sAB (sAB (sAI (sAI u 2 f) 2 f2) 2 g) 2 g2 = _
  rw [sAB_sAB, sAI_sAI]; rfl
theorem reg_self (u : S5) : reg u (aI u 2) (aB u 2) = u := by
  show sAB (sAI u 2 (aI u 2)) 2 (aB u 2) = u
  rw [sAI_self, sAB_self]
theorem reg_I (u : S5) (f : Nat → Int32) (g : Nat → Bool) : aI (reg u f g) 2 = f := rfl
theorem reg_B (u : S5) (f : Nat → Int32) (g : Nat → Bool) : aB (reg u f g) 2 = g := rfl
def bgX (q : Nat) : Int32 := if q = 2 then 65536 else 0
def bgY (q : Nat) : Bool := if q / 32 = 0 then false else if q / 32 = 2 then false else true
theorem bg_l3 (u : S5) (r : Nat) : ∀ (k i : Nat) (u2 : S5), 32 < k + i → i ≤ 32 → f_Mo_begin_129 u r k i u2 = sAB u2 2 (rwB (aB u2 2) (32 * r + i) (32 * (r + 1)) bgY)
  | 0, i, u2, h1, h2 => by omega
  | k + 1, i, u2, h1, h2 => by
    unfold f_Mo_begin_129
    by_cases hi : i < 32
    · rw [if_pos hi]
      dsimp only
      rw [bg_l3 u r k (i + 1) _ (by omega) (by omega)]
      unfold uB
      rw [sAB_sAB, aB_sAB]
      refine congrArg _ ?_
      rw [← rwB_s (f := aB u2 2) (F := bgY) (show 32 * r + i < 32 * (r + 1) by omega)]
      rw [show bgY (32 * r + i) = _ by unfold bgY; rw [show (32 * r + i) / 32 = r by omega]]
      rfl
    · rw [if_neg hi, rwB_e (by omega), sAB_self]
theorem bg_l4 (u : S5) : ∀ (k r : Nat) (u1 : S5), 32 < k + r → r ≤ 32 → f_Mo_begin_104 u k r u1 = reg u1 (rwI (aI u1 2) r 32 bgX) (rwB (aB u1 2) (32 * r) 1024 bgY)
  | 0, r, u1, h1, h2 => by omega
  | k + 1, r, u1, h1, h2 => by
    unfold f_Mo_begin_104
    by_cases hk : r < 32
    · rw [if_pos hk]
      dsimp only
      have hs : f_Mo_begin_129 u r 33 0 (uI u1 2 r (if r = 2 then 65536 else 0)) = reg u1 (upd (aI u1 2) r (bgX r)) (rwB (aB u1 2) (32 * r) (32 * (r + 1)) bgY) := by
        rw [bg_l3 u r 33 0 _ (by omega) (by omega)]; rfl
      rw [hs, bg_l4 u k (r + 1) _ (by omega) (by omega), reg_reg, reg_I, reg_B, rwI_s (F := bgX) hk, rwB_rw (by omega) (by omega)]
    · rw [if_neg hk, rwI_e (by omega), rwB_e (by omega), reg_self]
theorem begin_eq (v : S5) : f_Mo_begin v = sN (sN (sN (sN (sN (sN (sI (sI (sI (sI (sI (reg (tri (sI v 0 0) (rwI (aI v 1) 0 65536 (bgC (aI v 0))) (rwB (aB v 0) 0 65536 bgO) (rwB (aB v 1) 0 524288 bgD)) (rwI (aI v 2) 0 32 bgX) (rwB (aB v 2) 0 1024 bgY)) 1 0) 2 0) 3 0) 4 0) 5 0) 0 0) 1 0) 3 0) 4 0) 5 0) 6 0 := by
  unfold f_Mo_begin
  dsimp only
  rw [bg_l2 v fuS 0 _ (by show 65536 < 65537 + 0; omega) (by omega), bg_l4 v 33 0 _ (by omega) (by omega)]
  rfl
theorem b_130816 : ∀ i, i < 32 → bt 130816 i = (decide (8 ≤ i) && decide (i ≤ 16)) := by decide +kernel
theorem cM_begin {im im2 : Nat → Int32} (h : cI im im2) (c oc : Nat → Int32) (op dk : Nat → Bool) : cM (fillI (fillI (va_cpy im c 0 0 16384) 16384 57344 0) 57344 65536 130816) (rwI oc 0 65536 (bgC im2)) (rwB op 0 65536 bgO) (rwB dk 0 524288 bgD) := by
  intro k hk
  rw [rwI_in (Nat.zero_le _) hk, rwB_in (Nat.zero_le _) hk]
  have hd : ∀ j, j < 8 → rwB dk 0 524288 bgD (8 * k + j) = if k < 57344 then false else true := fun j hj => by
    rw [rwB_in (Nat.zero_le _) (by omega)]; unfold bgD; rw [show (8 * k + j) / 8 = k by omega]
  have e : fillI (fillI (va_cpy im c 0 0 16384) 16384 57344 0) 57344 65536 130816 k = if k < 16384 then im k else if k < 57344 then 0 else 130816 := by
    unfold fillI va_cpy
    by_cases a : k < 16384
    · simp [a, show ¬ 57344 ≤ k by omega, show ¬ 16384 ≤ k by omega]
    · by_cases b : k < 57344
      · simp [a, b, show ¬ 57344 ≤ k by omega, show 16384 ≤ k by omega]
      · simp [a, b, show 57344 ≤ k by omega, hk]
  rw [e]
  refine K_of (fun i hi => ?_) (fun i hi => ?_)
  · unfold bgC
    by_cases a : k < 16384
    · rw [if_pos a]; exact (h k a).2 i hi
    · rw [if_neg a, b_0]
  · unfold bgC bgO
    by_cases a : k < 16384
    · rw [if_pos a, if_pos a, if_pos a, (h k a).1, b_or, b_65536]
      by_cases a1 : i < 8
      · rw [if_pos a1]; simp [show ¬ i = 16 by omega]
      · rw [if_neg a1, (h k a).2 i (by omega)]
        by_cases a2 : i < 16
        · rw [if_pos a2, hd (i - 8) (by omega), if_pos (by omega)]; simp [show ¬ i = 16 by omega]
        · rw [if_neg a2]
          by_cases a3 : i = 16
          · simp [a3]
          · simp [a3]
    · rw [if_neg a, if_neg a, if_neg a]
      by_cases b : k < 57344
      · rw [if_pos b, if_pos b, b_0]
        by_cases a1 : i < 8
        · rw [if_pos a1]
        · rw [if_neg a1]
          by_cases a2 : i < 16
          · rw [if_pos a2, hd (i - 8) (by omega), if_pos b]
          · rw [if_neg a2]; simp
      · rw [if_neg b, if_neg b, b_130816 i hi, b_0]
        by_cases a1 : i < 8
        · simp [a1]; omega
        · rw [if_neg a1]
          by_cases a2 : i < 16
          · rw [if_pos a2, hd (i - 8) (by omega), if_neg b]; simp; omega
          · rw [if_neg a2]
            by_cases a3 : i = 16
            · simp [a3]
            · simp [a3]; omega
theorem cR_begin (va un x : Nat → Int32) (dx : Nat → Bool) : cR (upd (fillI va 0 32 0) 2 65536) (upd (upd (fillI un 0 32 (-1)) 0 0) 2 0) (rwI x 0 32 bgX) (rwB dx 0 1024 bgY) := by
  intro r hr
  rw [rwI_in (Nat.zero_le _) hr]
  refine ⟨?_, fun i hi => ?_⟩
  · unfold upd fillI bgX
    by_cases a : r = 2
    · simp [a]
    · simp [a, hr]
  · rw [rwB_in (Nat.zero_le _) (by omega)]
    unfold upd fillI bgY
    rw [show (32 * r + i) / 32 = r by omega]
    by_cases a : r = 0
    · simp [a, b_0]
    · by_cases a2 : r = 2
      · simp [a2, b_0]
      · simp [a, a2, hr, b_m1 i hi]
-- ===== memory as the face tells it
theorem b_256 (i : Nat) : bt 256 i = decide (i = 8) := by
  rcases Nat.lt_or_ge i 32 with h | h
  · exact (by decide +kernel : ∀ i, i < 32 → bt 256 i = decide (i = 8)) i h
  · rw [b_big h, decide_eq_false (by omega)]
theorem me_l (a : Int32) (u : S5) (y : Bool) : ∀ (k i : Nat) (x : Int32), 8 < k + i → i ≤ 8 → (f_Mo_memory_50 a u y k i x).2 = (f_Mo_fails y 1 u).2 ∧ ∀ b, b < 32 → bt (f_Mo_memory_50 a u y k i x).1 b = (bt x b || (decide (8 + i ≤ b) && decide (b < 16) && aB u 1 (8 * a.toNatClampNeg + (b - 8))))
  | 0, i, x, h1, h2 => by omega
  | k + 1, i, x, h1, h2 => by
    unfold f_Mo_memory_50
    by_cases hi : i < 8
    · rw [if_pos hi]
      have hfa : aB (f_Mo_fails y 1 u).2 1 = aB u 1 := rfl
      rw [hfa]
      have e1 : ∀ b, b < 32 → bt ((256 : Int32) <<< (nI i &&& 31)) b = decide (8 + i = b) := fun b hb => by
        rw [b_shl i (by omega) _ hb, b_256]
        by_cases e : 8 + i = b
        · subst e; simp
        · rcases Nat.lt_or_ge b i with z | z
          · simp [e, Nat.not_le.mpr z]
          · simp [e]; omega
      by_cases hd : aB u 1 (8 * a.toNatClampNeg + i) = true
      · rw [if_pos hd]
        obtain ⟨g1, g2⟩ := me_l a u y k (i + 1) (x ||| ((256 : Int32) <<< (nI i &&& 31))) (by omega) (by omega)
        refine ⟨g1, fun b hb => ?_⟩
        rw [g2 b hb, b_or, e1 b hb]
        by_cases e : 8 + i = b
        · subst e; rw [show 8 + i - 8 = i by omega]; simp [hd]; right; omega
        · by_cases e2 : 8 + i ≤ b
          · simp [e, e2, show 8 + (i + 1) ≤ b by omega]
          · simp [e, e2, show ¬ 8 + (i + 1) ≤ b by omega]
      · rw [if_neg hd]
        obtain ⟨g1, g2⟩ := me_l a u y k (i + 1) x (by omega) (by omega)
        refine ⟨g1, fun b hb => ?_⟩
        rw [g2 b hb]
        by_cases e : 8 + i = b
        · subst e; rw [show 8 + i - 8 = i by omega]; simp [hd]
        · by_cases e2 : 8 + i ≤ b
          · simp [e2, show 8 + (i + 1) ≤ b by omega]
          · simp [e2, show ¬ 8 + (i + 1) ≤ b by omega]
    · rw [if_neg hi]
      refine ⟨rfl, fun b hb => ?_⟩
      by_cases e : 8 + i ≤ b
      · simp [show ¬ b < 16 by omega]
      · simp [e]
theorem M_face {u v : S5} (h : cM (aI u 0) (aI v 1) (aB v 0) (aB v 1)) {a : Int32} (ha : a.toNatClampNeg < 65536) (y : Bool) : f_Mo_memory_50 a v y 9 0 ((aI v 1 a.toNatClampNeg) ||| (if aB v 0 a.toNatClampNeg = true then 65536 else 0)) = (aI u 0 a.toNatClampNeg, (f_Mo_fails y 1 v).2) := by
  obtain ⟨g1, g2⟩ := me_l a v y 9 0 ((aI v 1 a.toNatClampNeg) ||| (if aB v 0 a.toNatClampNeg = true then 65536 else 0)) (by omega) (by omega)
  refine Prod.ext (b_ext (fun b hb => ?_)) g1
  have hk := h _ ha
  show bt (f_Mo_memory_50 a v y 9 0 _).1 b = bt (aI u 0 a.toNatClampNeg) b
  rw [g2 b hb, K_bit hk b, b_or]
  by_cases a1 : b < 8
  · rw [if_pos a1]
    have : bt (if aB v 0 a.toNatClampNeg = true then (65536 : Int32) else 0) b = false := by
      split
      · rw [b_65536]; simp; omega
      · exact b_0 b
    rw [this]; simp [show ¬ 8 ≤ b by omega]
  · rw [if_neg a1, hk.2.2.2.2 b (by omega)]
    by_cases a2 : b < 16
    · rw [if_pos a2]
      have : bt (if aB v 0 a.toNatClampNeg = true then (65536 : Int32) else 0) b = false := by
        split
        · rw [b_65536]; simp; omega
        · exact b_0 b
      rw [this]; simp [a2, show 8 ≤ b by omega]
    · rw [if_neg a2]
      by_cases a3 : b = 16
      · rw [if_pos a3, a3]
        by_cases z : aB v 0 a.toNatClampNeg = true
        · rw [if_pos z, b_65536, z]; rfl
        · rw [if_neg z, b_0, Bool.eq_false_iff.mpr z]; rfl
      · rw [if_neg a3]
        have : bt (if aB v 0 a.toNatClampNeg = true then (65536 : Int32) else 0) b = false := by
          split
          · rw [b_65536]; simp [a3]
          · exact b_0 b
        rw [this]; simp [a2]
