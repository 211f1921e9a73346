def bt (x : Int32) (i : Nat) : Bool := x.toBitVec.getLsbD i
theorem b_ext {x y : Int32} (h : ∀ i, i < 32 → bt x i = bt y i) : x = y := Int32.toBitVec_inj.mp (BitVec.eq_of_getLsbD_eq (fun i hi => h i hi))
theorem b_or (x y : Int32) (i : Nat) : bt (x ||| y) i = (bt x i || bt y i) := by unfold bt; rw [Int32.toBitVec_or, BitVec.getLsbD_or]
theorem b_and (x y : Int32) (i : Nat) : bt (x &&& y) i = (bt x i && bt y i) := by unfold bt; rw [Int32.toBitVec_and, BitVec.getLsbD_and]
theorem b_xor (x y : Int32) (i : Nat) : bt (x ^^^ y) i = (bt x i ^^ bt y i) := by unfold bt; rw [Int32.toBitVec_xor, BitVec.getLsbD_xor]
theorem b_big {x : Int32} {i : Nat} (h : 32 ≤ i) : bt x i = false := BitVec.getLsbD_of_ge _ _ h
theorem b_255 (i : Nat) : bt 255 i = decide (i < 8) := by
  rcases Nat.lt_or_ge i 32 with h | h
  · exact (by decide +kernel : ∀ i, i < 32 → bt 255 i = decide (i < 8)) i h
  · rw [b_big h, decide_eq_false (by omega)]
theorem b_65535 (i : Nat) : bt 65535 i = decide (i < 16) := by
  rcases Nat.lt_or_ge i 32 with h | h
  · exact (by decide +kernel : ∀ i, i < 32 → bt 65535 i = decide (i < 16)) i h
  · rw [b_big h, decide_eq_false (by omega)]
theorem b_m1 : ∀ i, i < 32 → bt (-1) i = true := by decide +kernel
theorem b_0 (i : Nat) : bt 0 i = false := BitVec.getLsbD_zero
theorem s_l : ∀ n, n < 32 → ((nI n &&& 31).toBitVec.smod 32).toNat = n := by decide +kernel
theorem s_u : ∀ n, n < 32 → (((nI n).toUInt32 &&& Int32.toUInt32 31).toBitVec % 32).toNat = n := by decide +kernel
theorem b_shl (n : Nat) (hn : n < 32) (x : Int32) {i : Nat} (hi : i < 32) : bt (x <<< (nI n &&& 31)) i = (decide (n ≤ i) && bt x (i - n)) := by
  unfold bt
  rw [Int32.toBitVec_shiftLeft]
  show (x.toBitVec <<< ((nI n &&& 31).toBitVec.smod 32).toNat).getLsbD i = _
  rw [s_l n hn, BitVec.getLsbD_shiftLeft]
  rcases Nat.lt_or_ge i n with h | h
  · simp [h, Nat.not_le.mpr h]
  · simp [hi, h, Nat.not_lt.mpr h]
theorem b_ushr (n : Nat) (hn : n < 32) (x : Int32) (i : Nat) : bt ((x.toUInt32 >>> ((nI n).toUInt32 &&& Int32.toUInt32 31)).toInt32) i = bt x (n + i) := by
  show (x.toUInt32 >>> ((nI n).toUInt32 &&& Int32.toUInt32 31)).toBitVec.getLsbD i = x.toUInt32.toBitVec.getLsbD (n + i)
  rw [UInt32.toBitVec_shiftRight]
  show (x.toUInt32.toBitVec >>> (((nI n).toUInt32 &&& Int32.toUInt32 31).toBitVec % 32).toNat).getLsbD i = _
  rw [s_u n hn, BitVec.getLsbD_ushiftRight]
theorem b_sshr (n : Nat) (hn : n < 32) (x : Int32) {i : Nat} (hi : i < 32) : bt (x >>> (nI n &&& 31)) i = if n + i < 32 then bt x (n + i) else bt x 31 := by
  unfold bt
  rw [Int32.toBitVec_shiftRight]
  show (x.toBitVec.sshiftRight ((nI n &&& 31).toBitVec.smod 32).toNat).getLsbD i = _
  rw [s_l n hn, BitVec.getLsbD_sshiftRight, BitVec.msb_eq_getLsbD_last]
  simp [hi]
theorem b_shl8 (x : Int32) {i : Nat} (hi : i < 32) : bt (x <<< ((8 : Int32) &&& 31)) i = (decide (8 ≤ i) && bt x (i - 8)) := b_shl 8 (by omega) x hi
theorem b_shl16 (x : Int32) {i : Nat} (hi : i < 32) : bt (x <<< ((16 : Int32) &&& 31)) i = (decide (16 ≤ i) && bt x (i - 16)) := b_shl 16 (by omega) x hi
theorem b_shl24 (x : Int32) {i : Nat} (hi : i < 32) : bt (x <<< ((24 : Int32) &&& 31)) i = (decide (24 ≤ i) && bt x (i - 24)) := b_shl 24 (by omega) x hi
theorem b_sshr8 (x : Int32) {i : Nat} (hi : i < 32) : bt (x >>> ((8 : Int32) &&& 31)) i = if 8 + i < 32 then bt x (8 + i) else bt x 31 := b_sshr 8 (by omega) x hi
-- ===== the two states side by side: bits, and the rows of one state
theorem b_zero {x : Int32} : x = 0 ↔ ∀ i, i < 32 → bt x i = false := by
  constructor
  · intro h i _; rw [h, b_0]
  · intro h; exact b_ext (fun i hi => by rw [h i hi, b_0])
theorem b_1 (i : Nat) : bt 1 i = decide (i = 0) := by
  rcases Nat.lt_or_ge i 32 with h | h
  · exact (by decide +kernel : ∀ i, i < 32 → bt 1 i = decide (i = 0)) i h
  · rw [b_big h, decide_eq_false (by omega)]
theorem b_31 (i : Nat) : bt 31 i = decide (i < 5) := by
  rcases Nat.lt_or_ge i 32 with h | h
  · exact (by decide +kernel : ∀ i, i < 32 → bt 31 i = decide (i < 5)) i h
  · rw [b_big h, decide_eq_false (by omega)]
theorem b_65536 (i : Nat) : bt 65536 i = decide (i = 16) := by
  rcases Nat.lt_or_ge i 32 with h | h
  · exact (by decide +kernel : ∀ i, i < 32 → bt 65536 i = decide (i = 16)) i h
  · rw [b_big h, decide_eq_false (by omega)]
theorem b_65280 (i : Nat) : bt 65280 i = (decide (8 ≤ i) && decide (i < 16)) := by
  rcases Nat.lt_or_ge i 32 with h | h
  · exact (by decide +kernel : ∀ i, i < 32 → bt 65280 i = (decide (8 ≤ i) && decide (i < 16))) i h
  · rw [b_big h, decide_eq_false (show ¬ i < 16 by omega), Bool.and_false]
theorem b_test {w : Int32} {i : Nat} (hi : i < 32) : ((w >>> (nI i &&& 31)) &&& (1 : Int32)) = 1 ↔ bt w i = true := by
  have h0 : ∀ j, j < 32 → bt ((w >>> (nI i &&& 31)) &&& (1 : Int32)) j = (decide (j = 0) && bt w i) := by
    intro j hj
    rw [b_and, b_sshr i hi w hj, b_1]
    by_cases h : j = 0
    · subst h; simp [hi]
    · simp [h]
  constructor
  · intro h
    have := h0 0 (by omega)
    rw [h, b_1] at this
    simpa using this.symm
  · intro h
    refine b_ext (fun j hj => ?_)
    rw [h0 j hj, h, b_1]; simp
theorem b_one {i : Nat} (hi : i < 32) {j : Nat} (hj : j < 32) : bt ((1 : Int32) <<< (nI i &&& 31)) j = decide (i = j) := by
  rw [b_shl i hi 1 hj, b_1]
  by_cases h : i = j
  · subst h; simp
  · rcases Nat.lt_or_ge j i with h1 | h1
    · simp [h, Nat.not_le.mpr h1]
    · simp [h]; omega
theorem ite_tf (p : Prop) [Decidable p] : (if p then true else false) = decide p := by by_cases h : p <;> simp [h]
-- the accessors once more, of whole arrays
theorem sAB_sAB (u : S5) (k : Nat) (f g : Nat → Bool) : sAB (sAB u k f) k g = sAB u k g := by
  unfold sAB; congr 4; funext j; by_cases h : j = k <;> simp [va_up, h]
theorem sAI_sAI (u : S5) (k : Nat) (f g : Nat → Int32) : sAI (sAI u k f) k g = sAI u k g := by
  unfold sAI; congr 3; funext j; by_cases h : j = k <;> simp [va_up, h]
theorem sAN_sAN (u : S5) (k : Nat) (f g : Nat → Nat) : sAN (sAN u k f) k g = sAN u k g := by
  unfold sAN; congr 4; funext j; by_cases h : j = k <;> simp [va_up, h]
theorem sAB_self (u : S5) (k : Nat) : sAB u k (aB u k) = u := by
  obtain ⟨a, b, c, d, e⟩ := u
  unfold sAB aB
  congr 4; funext j; by_cases h : j = k
  · subst h; simp [va_up]
  · simp [va_up, h]
theorem sAI_self (u : S5) (k : Nat) : sAI u k (aI u k) = u := by
  obtain ⟨a, b, c, d, e⟩ := u
  unfold sAI aI
  congr 3; funext j; by_cases h : j = k
  · subst h; simp [va_up]
  · simp [va_up, h]
theorem sAN_self (u : S5) (k : Nat) : sAN u k (aN u k) = u := by
  obtain ⟨a, b, c, d, e⟩ := u
  unfold sAN aN
  congr 4; funext j; by_cases h : j = k
  · subst h; simp [va_up]
  · simp [va_up, h]
theorem aB_sAB (u : S5) (k : Nat) (f : Nat → Bool) : aB (sAB u k f) k = f := by show va_up _ k f k = f; simp [va_up]
theorem aI_sAI (u : S5) (k : Nat) (f : Nat → Int32) : aI (sAI u k f) k = f := by show va_up _ k f k = f; simp [va_up]
theorem aN_sAN (u : S5) (k : Nat) (f : Nat → Nat) : aN (sAN u k f) k = f := by show va_up _ k f k = f; simp [va_up]
/-- a row of ints filled from a to b with F -/
def rwI (f : Nat → Int32) (a b : Nat) (F : Nat → Int32) : Nat → Int32 := fun k => if a ≤ k ∧ k < b then F k else f k
def rwB (f : Nat → Bool) (a b : Nat) (F : Nat → Bool) : Nat → Bool := fun k => if a ≤ k ∧ k < b then F k else f k
theorem rwI_e {f F : Nat → Int32} {a b : Nat} (h : b ≤ a) : rwI f a b F = f := by funext k; unfold rwI; rw [if_neg (by omega)]
theorem rwB_e {f F : Nat → Bool} {a b : Nat} (h : b ≤ a) : rwB f a b F = f := by funext k; unfold rwB; rw [if_neg (by omega)]
theorem rwI_s {f F : Nat → Int32} {a b : Nat} (h : a < b) : rwI (upd f a (F a)) (a + 1) b F = rwI f a b F := by
  funext k; unfold rwI upd
  by_cases h1 : k = a
  · subst h1; simp [h]
  · by_cases h2 : a + 1 ≤ k ∧ k < b
    · rw [if_pos h2, if_pos (by omega)]
    · rw [if_neg h2]; simp [h1]; intro q1 q2; omega
theorem rwB_s {f F : Nat → Bool} {a b : Nat} (h : a < b) : rwB (va_up f a (F a)) (a + 1) b F = rwB f a b F := by
  funext k; unfold rwB va_up
  by_cases h1 : k = a
  · subst h1; simp [h]
  · by_cases h2 : a + 1 ≤ k ∧ k < b
    · rw [if_pos h2, if_pos (by omega)]
    · rw [if_neg h2]; simp [h1]; intro q1 q2; omega
