-- ===== registers: value and bits not given
def cR (va un x : Nat → Int32) (dx : Nat → Bool) : Prop := ∀ r, r < 32 → va r = x r ∧ ∀ i, i < 32 → bt (un r) i = dx (32 * r + i)
theorem ad_l (r n : Nat) (v : S5) : ∀ (k i : Nat), n < k + i → i ≤ n → (f_Mo_anyDark_2 r n v k i = true ↔ ∃ j, i ≤ j ∧ j < n ∧ aB v 2 (32 * r + j) = true)
  | 0, i, h1, h2 => by omega
  | k + 1, i, h1, h2 => by
    unfold f_Mo_anyDark_2
    by_cases hi : i < n
    · rw [if_pos hi]
      by_cases hb : aB v 2 (32 * r + i) = true
      · rw [if_pos hb]; exact ⟨fun _ => ⟨i, Nat.le_refl _, hi, hb⟩, fun _ => rfl⟩
      · rw [if_neg hb, ad_l r n v k (i + 1) (by omega) (by omega)]
        constructor
        · rintro ⟨j, h3, h4, h5⟩; exact ⟨j, by omega, h4, h5⟩
        · rintro ⟨j, h3, h4, h5⟩
          refine ⟨j, ?_, h4, h5⟩
          rcases Nat.eq_or_lt_of_le h3 with e | e
          · subst e; exact absurd h5 hb
          · exact e
    · rw [if_neg hi]
      constructor
      · intro h; cases h
      · rintro ⟨j, h3, h4, h5⟩; omega
theorem ad_iff (r n : Nat) (v : S5) : f_Mo_anyDark r n v = true ↔ ∃ j, j < n ∧ aB v 2 (32 * r + j) = true := by
  unfold f_Mo_anyDark
  rw [ad_l r n v (n + 1) 0 (by omega) (by omega)]
  constructor
  · rintro ⟨j, _, h⟩; exact ⟨j, h⟩
  · rintro ⟨j, h⟩; exact ⟨j, Nat.zero_le _, h⟩
theorem R_adm {u v : S5} (h : cR (aI u 2) (aI u 3) (aI v 2) (aB v 2)) {r n : Nat} (hr : r < 32) (hn : n ≤ 32) {M : Int32} (hM : ∀ i, bt M i = decide (i < n) ∨ 32 ≤ i) : f_Mo_anyDark r n v = true ↔ ¬ (aI u 3 r &&& M) = 0 := by
  rw [ad_iff, b_zero]
  constructor
  · rintro ⟨j, h1, h2⟩ h3
    have h4 := h3 j (by omega)
    have h5 : bt M j = decide (j < n) := (hM j).resolve_right (by omega)
    rw [b_and, (h r hr).2 j (by omega), h2, h5] at h4
    simp at h4; omega
  · intro h3
    refine Classical.byContradiction fun h4 => h3 fun i hi => ?_
    have h5 : bt M i = decide (i < n) := (hM i).resolve_right (by omega)
    rw [b_and, (h r hr).2 i hi, h5]
    by_cases hin : i < n
    · have : ¬ aB v 2 (32 * r + i) = true := fun q => h4 ⟨i, hin, q⟩
      simp [Bool.eq_false_iff.mpr this]
    · simp [hin]
theorem b_and_m1 (x : Int32) : x &&& (-1 : Int32) = x := b_ext (fun i hi => by rw [b_and, b_m1 i hi, Bool.and_true])
theorem b_m1b (i : Nat) : bt (-1) i = decide (i < 32) ∨ 32 ≤ i := by
  rcases Nat.lt_or_ge i 32 with q | q
  · left; rw [b_m1 i q, decide_eq_true q]
  · right; exact q
theorem R_ad {u v : S5} (h : cR (aI u 2) (aI u 3) (aI v 2) (aB v 2)) {r : Nat} (hr : r < 32) : f_Mo_anyDark r 32 v = true ↔ ¬ aI u 3 r = 0 := by
  have := R_adm h hr (n := 32) (Nat.le_refl _) (M := -1) b_m1b
  rwa [b_and_m1] at this
theorem R_ad8 {u v : S5} (h : cR (aI u 2) (aI u 3) (aI v 2) (aB v 2)) {r : Nat} (hr : r < 32) : f_Mo_anyDark r 8 v = true ↔ ¬ (aI u 3 r &&& (255 : Int32)) = 0 := R_adm h hr (by omega) (fun i => Or.inl (b_255 i))
theorem R_ad5 {u v : S5} (h : cR (aI u 2) (aI u 3) (aI v 2) (aB v 2)) {r : Nat} (hr : r < 32) : f_Mo_anyDark r 5 v = true ↔ ¬ (aI u 3 r &&& (31 : Int32)) = 0 := R_adm h hr (by omega) (fun i => Or.inl (b_31 i))
theorem dk_l (r : Nat) (v : S5) : ∀ (k i : Nat) (a : Int32), 32 < k + i → i ≤ 32 → ∀ b, b < 32 → bt (f_Mo_dark_4 r v k i a) b = (bt a b || (decide (i ≤ b) && aB v 2 (32 * r + b)))
  | 0, i, a, h1, h2 => by omega
  | k + 1, i, a, h1, h2 => by
    intro b hb
    unfold f_Mo_dark_4
    by_cases hi : i < 32
    · rw [if_pos hi]
      by_cases hd : aB v 2 (32 * r + i) = true
      · rw [if_pos hd, dk_l r v k (i + 1) _ (by omega) (by omega) b hb, b_or, b_one hi hb]
        by_cases e : i = b
        · subst e; simp [hd]
        · by_cases e2 : i ≤ b
          · simp [e, e2, show i + 1 ≤ b by omega]
          · simp [e, e2, show ¬ i + 1 ≤ b by omega]
      · rw [if_neg hd, dk_l r v k (i + 1) _ (by omega) (by omega) b hb]
        by_cases e : i = b
        · subst e; simp [hd]
        · by_cases e2 : i ≤ b
          · simp [e2, show i + 1 ≤ b by omega]
          · simp [e2, show ¬ i + 1 ≤ b by omega]
    · rw [if_neg hi, show decide (i ≤ b) = false by simp; omega]; simp
theorem R_dark {u v : S5} (h : cR (aI u 2) (aI u 3) (aI v 2) (aB v 2)) {r : Nat} (hr : r < 32) : f_Mo_dark r v = aI u 3 r := by
  refine b_ext (fun b hb => ?_)
  unfold f_Mo_dark
  rw [dk_l r v 33 0 0 (by omega) (by omega) b hb, b_0, (h r hr).2 b hb]
  simp
theorem gv_l (r : Nat) (a w : Int32) (u : S5) : ∀ (k i : Nat) (u1 : S5), 32 < k + i → i ≤ 32 → f_Mo_give_15 r a w u k i u1 = sAB u1 2 (rwB (aB u1 2) (32 * r + i) (32 * r + 32) (fun q => bt w (q - 32 * r)))
  | 0, i, u1, h1, h2 => by omega
  | k + 1, i, u1, h1, h2 => by
    unfold f_Mo_give_15
    by_cases hi : i < 32
    · rw [if_pos hi]
      dsimp only
      rw [gv_l r a w u k (i + 1) _ (by omega) (by omega)]
      have e : (if ((w >>> (nI i &&& 31)) &&& (1 : Int32)) = 1 then true else false) = bt w (32 * r + i - 32 * r) := by
        rw [show 32 * r + i - 32 * r = i by omega]
        by_cases hb : bt w i = true
        · rw [if_pos ((b_test hi).mpr hb), hb]
        · rw [if_neg (fun q => hb ((b_test hi).mp q)), Bool.eq_false_iff.mpr hb]
      rw [e]
      unfold uB
      rw [sAB_sAB, aB_sAB]
      exact congrArg _ (rwB_s (F := fun q => bt w (q - 32 * r)) (by omega))
    · rw [if_neg hi, rwB_e (by omega), sAB_self]
theorem give_eq (r : Nat) (a w : Int32) (v : S5) : f_Mo_give r a w v = if r = 0 then v else sAB (uI v 2 r a) 2 (rwB (aB v 2) (32 * r) (32 * r + 32) (fun q => bt w (q - 32 * r))) := by
  unfold f_Mo_give
  by_cases h : r = 0
  · rw [if_pos h, if_pos h]
  · rw [if_neg h, if_neg h, gv_l r a w v 33 0 _ (by omega) (by omega)]
    rfl
theorem cR_put {va un x : Nat → Int32} {dx : Nat → Bool} (h : cR va un x dx) (d : Nat) (a w : Int32) : cR (upd va d a) (upd un d w) (upd x d a) (rwB dx (32 * d) (32 * d + 32) (fun q => bt w (q - 32 * d))) := by
  intro r hr
  unfold upd rwB
  by_cases e : r = d
  · subst e
    refine ⟨by simp, fun i hi => ?_⟩
    simp only [if_pos rfl]
    rw [if_pos (show 32 * r ≤ 32 * r + i ∧ 32 * r + i < 32 * r + 32 by omega), show 32 * r + i - 32 * r = i by omega]
    simp
  · refine ⟨by simp [e]; exact (h r hr).1, fun i hi => ?_⟩
    simp only [if_neg e]
    rw [if_neg (show ¬ (32 * d ≤ 32 * r + i ∧ 32 * r + i < 32 * d + 32) by omega)]
    exact (h r hr).2 i hi
-- ===== memory: a cell is octet, bits not given, open
def cK (c oc : Int32) (op : Bool) (dk : Nat → Bool) : Prop := (∀ i, i < 8 → bt c i = bt oc i) ∧ (∀ j, j < 8 → bt c (8 + j) = dk j) ∧ bt c 16 = op ∧ (∀ i, 16 < i → bt c i = false) ∧ ∀ i, 8 ≤ i → bt oc i = false
def cM (c oc : Nat → Int32) (op dk : Nat → Bool) : Prop := ∀ k, k < 65536 → cK (c k) (oc k) (op k) (fun j => dk (8 * k + j))
theorem K_bit {c oc : Int32} {op : Bool} {dk : Nat → Bool} (h : cK c oc op dk) (i : Nat) : bt c i = if i < 8 then bt oc i else if i < 16 then dk (i - 8) else if i = 16 then op else false := by
  obtain ⟨h1, h2, h3, h4, h5⟩ := h
  by_cases a : i < 8
  · rw [if_pos a]; exact h1 i a
  · rw [if_neg a]
    by_cases b : i < 16
    · rw [if_pos b, ← h2 (i - 8) (by omega), show 8 + (i - 8) = i by omega]
    · rw [if_neg b]
      by_cases e : i = 16
      · rw [if_pos e, e]; exact h3
      · rw [if_neg e]; exact h4 i (by omega)
theorem K_of {c oc : Int32} {op : Bool} {dk : Nat → Bool} (h5 : ∀ i, 8 ≤ i → bt oc i = false) (h : ∀ i, i < 32 → bt c i = if i < 8 then bt oc i else if i < 16 then dk (i - 8) else if i = 16 then op else false) : cK c oc op dk := by
  refine ⟨fun i hi => ?_, fun j hj => ?_, ?_, fun i hi => ?_, h5⟩
  · rw [h i (by omega), if_pos hi]
  · rw [h (8 + j) (by omega), if_neg (by omega), if_pos (by omega), show 8 + j - 8 = j by omega]
  · rw [h 16 (by omega)]; rfl
  · rcases Nat.lt_or_ge i 32 with q | q
    · rw [h i q, if_neg (by omega), if_neg (by omega), if_neg (by omega)]
    · exact b_big q
theorem K_oct {c oc : Int32} {op : Bool} {dk : Nat → Bool} (h : cK c oc op dk) : c &&& (255 : Int32) = oc := by
  refine b_ext (fun i hi => ?_)
  rw [b_and, b_255]
  by_cases a : i < 8
  · rw [h.1 i a]; simp [a]
  · rw [h.2.2.2.2 i (by omega)]; simp [a]
theorem K_open {c oc : Int32} {op : Bool} {dk : Nat → Bool} (h : cK c oc op dk) : (c &&& (65536 : Int32)) = 0 ↔ ¬ op = true := by
  rw [b_zero]
  constructor
  · intro q e
    have := q 16 (by omega)
    rw [b_and, h.2.2.1, e, b_65536] at this
    simp at this
  · intro q i hi
    rw [b_and, b_65536]
    by_cases a : i = 16
    · subst a; rw [h.2.2.1, Bool.eq_false_iff.mpr q]; rfl
    · simp [a]
theorem K_sh {c oc : Int32} {op : Bool} {dk : Nat → Bool} (h : cK c oc op dk) : c <<< ((24 : Int32) &&& 31) = oc <<< ((24 : Int32) &&& 31) := by
  refine b_ext (fun i hi => ?_)
  rw [b_shl24 c hi, b_shl24 oc hi]
  by_cases a : 24 ≤ i
  · rw [h.1 (i - 24) (by omega)]
  · simp [a]
theorem M_word {u v : S5} (h : cM (aI u 0) (aI v 1) (aB v 0) (aB v 1)) {at_ : Nat} (ha : at_ + 4 ≤ 65536) : f_Me_word at_ u = f_Mo_word at_ v := by
  unfold f_Me_word f_Mo_word
  rw [K_oct (h at_ (by omega)), K_oct (h (at_ + 1) (by omega)), K_oct (h (at_ + 2) (by omega)), K_sh (h (at_ + 3) (by omega))]
theorem M_open {u v : S5} (h : cM (aI u 0) (aI v 1) (aB v 0) (aB v 1)) {at_ : Nat} (ha : at_ + 4 ≤ 65536) : f_Me_isOpenWord at_ u = true ↔ ∀ i, i < 4 → aB v 0 (at_ + i) = true := by
  have hb : ∀ i, i < 4 → bt (aI u 0 (at_ + i)) 16 = aB v 0 (at_ + i) := fun i hi => (h (at_ + i) (by omega)).2.2.1
  unfold f_Me_isOpenWord
  have e : ((((aI u 0 at_ &&& aI u 0 (at_ + 1)) &&& aI u 0 (at_ + 2)) &&& aI u 0 (at_ + 3)) &&& (65536 : Int32)) = 0 ↔ ¬ ∀ i, i < 4 → aB v 0 (at_ + i) = true := by
    rw [b_zero]
    constructor
    · intro q z
      have := q 16 (by omega)
      rw [b_and, b_and, b_and, b_and, b_65536, show aI u 0 at_ = aI u 0 (at_ + 0) from rfl, hb 0 (by omega), hb 1 (by omega), hb 2 (by omega), hb 3 (by omega), z 0 (by omega), z 1 (by omega), z 2 (by omega), z 3 (by omega)] at this
      simp at this
    · intro q i hi
      rw [b_and, b_65536]
      by_cases a : i = 16
      · subst a
        rw [b_and, b_and, b_and, show aI u 0 at_ = aI u 0 (at_ + 0) from rfl, hb 0 (by omega), hb 1 (by omega), hb 2 (by omega), hb 3 (by omega)]
        refine Bool.eq_false_iff.mpr (fun z => q ?_)
        simp at z
        intro i hi
        rcases (show i = 0 ∨ i = 1 ∨ i = 2 ∨ i = 3 by omega) with rfl | rfl | rfl | rfl
        · exact z.1.1.1
        · exact z.1.1.2
        · exact z.1.2
        · exact z.2
      · simp [a]
  by_cases z : ∀ i, i < 4 → aB v 0 (at_ + i) = true
  · rw [if_neg (fun q => (e.mp q) z)]; exact ⟨fun _ => z, fun _ => rfl⟩
  · rw [if_pos (e.mpr z)]; exact ⟨fun q => (by cases q), fun q => absurd q z⟩
theorem M_given {u v : S5} (h : cM (aI u 0) (aI v 1) (aB v 0) (aB v 1)) {at_ : Nat} (ha : at_ + 4 ≤ 65536) : f_Me_isGivenWord at_ u = true ↔ ∀ i, i < 4 → ∀ j, j < 8 → aB v 1 (8 * (at_ + i) + j) = false := by
  have hb : ∀ i, i < 4 → ∀ j, j < 8 → bt (aI u 0 (at_ + i)) (8 + j) = aB v 1 (8 * (at_ + i) + j) := fun i hi j hj => (h (at_ + i) (by omega)).2.1 j hj
  unfold f_Me_isGivenWord
  have e : ((((aI u 0 at_ ||| aI u 0 (at_ + 1)) ||| aI u 0 (at_ + 2)) ||| aI u 0 (at_ + 3)) &&& (65280 : Int32)) = 0 ↔ ∀ i, i < 4 → ∀ j, j < 8 → aB v 1 (8 * (at_ + i) + j) = false := by
    rw [b_zero]
    constructor
    · intro q i hi j hj
      have := q (8 + j) (by omega)
      rw [b_and, b_or, b_or, b_or, b_65280, show aI u 0 at_ = aI u 0 (at_ + 0) from rfl, hb 0 (by omega) j hj, hb 1 (by omega) j hj, hb 2 (by omega) j hj, hb 3 (by omega) j hj] at this
      simp [show 8 + j < 16 by omega] at this
      rcases (show i = 0 ∨ i = 1 ∨ i = 2 ∨ i = 3 by omega) with rfl | rfl | rfl | rfl
      · exact this.1.1.1
      · exact this.1.1.2
      · exact this.1.2
      · exact this.2
    · intro q i hi
      rw [b_and, b_65280]
      by_cases a : 8 ≤ i ∧ i < 16
      · have e2 : i = 8 + (i - 8) := by omega
        rw [b_or, b_or, b_or, e2, show aI u 0 at_ = aI u 0 (at_ + 0) from rfl, hb 0 (by omega) _ (by omega), hb 1 (by omega) _ (by omega), hb 2 (by omega) _ (by omega), hb 3 (by omega) _ (by omega), q 0 (by omega) _ (by omega), q 1 (by omega) _ (by omega), q 2 (by omega) _ (by omega), q 3 (by omega) _ (by omega)]
        rfl
      · rcases Nat.lt_or_ge i 8 with z | z
        · simp [Nat.not_le.mpr z]
        · simp [show ¬ i < 16 by omega]
  by_cases z : ∀ i, i < 4 → ∀ j, j < 8 → aB v 1 (8 * (at_ + i) + j) = false
  · rw [if_pos (e.mpr z)]; exact ⟨fun _ => z, fun _ => rfl⟩
  · rw [if_neg (fun q => z (e.mp q))]; exact ⟨fun q => (by cases q), fun q => absurd q z⟩
theorem M_shl {u v : S5} (h : cM (aI u 0) (aI v 1) (aB v 0) (aB v 1)) {at_ n : Nat} (ha : at_ + n ≤ 65536) : ∀ (k i : Nat), f_Me_firstShut_2 at_ n u k i = f_Mo_shut_2 at_ n v k i
  | 0, i => rfl
  | k + 1, i => by
    unfold f_Me_firstShut_2 f_Mo_shut_2
    by_cases hi : i < n
    · rw [if_pos hi, if_pos hi]
      have e := K_open (h (at_ + i) (by omega))
      by_cases z : aB v 0 (at_ + i) = true
      · rw [if_neg (fun q => e.mp q z), if_pos z]; exact M_shl h ha k (i + 1)
      · rw [if_pos (e.mpr z), if_neg z]
    · rw [if_neg hi, if_neg hi]
theorem M_shut {u v : S5} (h : cM (aI u 0) (aI v 1) (aB v 0) (aB v 1)) {at_ n : Nat} (ha : at_ + n ≤ 65536) : f_Me_firstShut at_ n u = f_Mo_shut at_ n v := M_shl h ha _ _
