-- ===== the parts of an instruction
theorem n5_c {x y : Int32} (h : ∀ i, i < 5 → bt x i = bt y i) : n5 x = n5 y := by
  have e : x &&& (31 : Int32) = y &&& (31 : Int32) := b_ext (fun i hi => by
    rw [b_and, b_and, b_31]
    by_cases q : i < 5
    · rw [h i q]
    · simp [q])
  rw [n5_e, n5_e] at e
  exact (nI_eq (by have := n5_b x; omega) (by have := n5_b y; omega)).mp e
theorem b_7 (i : Nat) : bt 7 i = decide (i < 3) := by
  rcases Nat.lt_or_ge i 32 with h | h
  · exact (by decide +kernel : ∀ i, i < 32 → bt 7 i = decide (i < 3)) i h
  · rw [b_big h, decide_eq_false (by omega)]
theorem n3_c {x y : Int32} (h : ∀ i, i < 3 → bt x i = bt y i) : n3 x = n3 y := by
  have e : x &&& (7 : Int32) = y &&& (7 : Int32) := b_ext (fun i hi => by
    rw [b_and, b_and, b_7]
    by_cases q : i < 3
    · rw [h i q]
    · simp [q])
  rw [n3_e, n3_e] at e
  exact (nI_eq (by have := n3_b x; omega) (by have := n3_b y; omega)).mp e
theorem us_7 (x : Int32) (i : Nat) : bt ((x.toUInt32 >>> ((7 : Int32).toUInt32 &&& Int32.toUInt32 31)).toInt32) i = bt x (7 + i) := b_ushr 7 (by omega) x i
theorem us_8 (x : Int32) (i : Nat) : bt ((x.toUInt32 >>> ((8 : Int32).toUInt32 &&& Int32.toUInt32 31)).toInt32) i = bt x (8 + i) := b_ushr 8 (by omega) x i
theorem us_12 (x : Int32) (i : Nat) : bt ((x.toUInt32 >>> ((12 : Int32).toUInt32 &&& Int32.toUInt32 31)).toInt32) i = bt x (12 + i) := b_ushr 12 (by omega) x i
theorem us_15 (x : Int32) (i : Nat) : bt ((x.toUInt32 >>> ((15 : Int32).toUInt32 &&& Int32.toUInt32 31)).toInt32) i = bt x (15 + i) := b_ushr 15 (by omega) x i
theorem us_20 (x : Int32) (i : Nat) : bt ((x.toUInt32 >>> ((20 : Int32).toUInt32 &&& Int32.toUInt32 31)).toInt32) i = bt x (20 + i) := b_ushr 20 (by omega) x i
theorem us_21 (x : Int32) (i : Nat) : bt ((x.toUInt32 >>> ((21 : Int32).toUInt32 &&& Int32.toUInt32 31)).toInt32) i = bt x (21 + i) := b_ushr 21 (by omega) x i
theorem us_25 (x : Int32) (i : Nat) : bt ((x.toUInt32 >>> ((25 : Int32).toUInt32 &&& Int32.toUInt32 31)).toInt32) i = bt x (25 + i) := b_ushr 25 (by omega) x i
theorem us_31 (x : Int32) (i : Nat) : bt ((x.toUInt32 >>> ((31 : Int32).toUInt32 &&& Int32.toUInt32 31)).toInt32) i = bt x (31 + i) := b_ushr 31 (by omega) x i
theorem ss_7 (x : Int32) {i : Nat} (hi : i < 32) : bt (x >>> ((7 : Int32) &&& 31)) i = if 7 + i < 32 then bt x (7 + i) else bt x 31 := b_sshr 7 (by omega) x hi
theorem ss_8 (x : Int32) {i : Nat} (hi : i < 32) : bt (x >>> ((8 : Int32) &&& 31)) i = if 8 + i < 32 then bt x (8 + i) else bt x 31 := b_sshr 8 (by omega) x hi
theorem ss_12 (x : Int32) {i : Nat} (hi : i < 32) : bt (x >>> ((12 : Int32) &&& 31)) i = if 12 + i < 32 then bt x (12 + i) else bt x 31 := b_sshr 12 (by omega) x hi
theorem ss_15 (x : Int32) {i : Nat} (hi : i < 32) : bt (x >>> ((15 : Int32) &&& 31)) i = if 15 + i < 32 then bt x (15 + i) else bt x 31 := b_sshr 15 (by omega) x hi
theorem ss_20 (x : Int32) {i : Nat} (hi : i < 32) : bt (x >>> ((20 : Int32) &&& 31)) i = if 20 + i < 32 then bt x (20 + i) else bt x 31 := b_sshr 20 (by omega) x hi
theorem ss_21 (x : Int32) {i : Nat} (hi : i < 32) : bt (x >>> ((21 : Int32) &&& 31)) i = if 21 + i < 32 then bt x (21 + i) else bt x 31 := b_sshr 21 (by omega) x hi
theorem ss_25 (x : Int32) {i : Nat} (hi : i < 32) : bt (x >>> ((25 : Int32) &&& 31)) i = if 25 + i < 32 then bt x (25 + i) else bt x 31 := b_sshr 25 (by omega) x hi
theorem ss_31 (x : Int32) {i : Nat} (hi : i < 32) : bt (x >>> ((31 : Int32) &&& 31)) i = if 31 + i < 32 then bt x (31 + i) else bt x 31 := b_sshr 31 (by omega) x hi
theorem sl_1 (x : Int32) {i : Nat} (hi : i < 32) : bt (x <<< ((1 : Int32) &&& 31)) i = (decide (1 ≤ i) && bt x (i - 1)) := b_shl 1 (by omega) x hi
theorem sl_5 (x : Int32) {i : Nat} (hi : i < 32) : bt (x <<< ((5 : Int32) &&& 31)) i = (decide (5 ≤ i) && bt x (i - 5)) := b_shl 5 (by omega) x hi
theorem sl_11 (x : Int32) {i : Nat} (hi : i < 32) : bt (x <<< ((11 : Int32) &&& 31)) i = (decide (11 ≤ i) && bt x (i - 11)) := b_shl 11 (by omega) x hi
theorem sl_12 (x : Int32) {i : Nat} (hi : i < 32) : bt (x <<< ((12 : Int32) &&& 31)) i = (decide (12 ≤ i) && bt x (i - 12)) := b_shl 12 (by omega) x hi
theorem sl_20 (x : Int32) {i : Nat} (hi : i < 32) : bt (x <<< ((20 : Int32) &&& 31)) i = (decide (20 ≤ i) && bt x (i - 20)) := b_shl 20 (by omega) x hi
theorem w_d (w : Int32) : n5 (w >>> ((7 : Int32) &&& 31)) = f_Wo_d w := n5_c (fun i hi => by rw [ss_7 w (by omega), us_7, if_pos (by omega)])
theorem w_f (w : Int32) : n3 (w >>> ((12 : Int32) &&& 31)) = f_Wo_f w := n3_c (fun i hi => by rw [ss_12 w (by omega), us_12, if_pos (by omega)])
theorem w_a (w : Int32) : n5 (w >>> ((15 : Int32) &&& 31)) = f_Wo_a w := n5_c (fun i hi => by rw [ss_15 w (by omega), us_15, if_pos (by omega)])
theorem w_b (w : Int32) : n5 (w >>> ((20 : Int32) &&& 31)) = f_Wo_b w := n5_c (fun i hi => by rw [ss_20 w (by omega), us_20, if_pos (by omega)])
theorem f_lt (w : Int32) : f_Wo_f w < 8 := n3_b _
theorem a_lt (w : Int32) : f_Wo_a w < 32 := n5_b _
theorem b_lt (w : Int32) : f_Wo_b w < 32 := n5_b _
theorem d_lt (w : Int32) : f_Wo_d w < 32 := n5_b _
/-- signed, by bits -/
theorem b_sg (v : Int32) {n : Nat} (h1 : 1 ≤ n) (h2 : n ≤ 32) {N : Int32} (hN : N = nI n) {i : Nat} (hi : i < 32) : bt (f_Mo_signed v N) i = bt v (if i < n then i else n - 1) := by
  have e : (32 : Int32) - N = nI (32 - n) := by
    rw [hN]
    have e1 : (32 : Int32) = nI (32 - n) + nI n := by rw [nI_add, show 32 - n + n = 32 by omega]; rfl
    rw [e1, Int32.add_sub_cancel]
  unfold f_Mo_signed
  rw [e, b_sshr (32 - n) (by omega) _ hi]
  by_cases q : i < n
  · rw [if_pos q]
    by_cases q2 : 32 - n + i < 32
    · rw [if_pos q2, b_shl (32 - n) (by omega) v q2, show 32 - n + i - (32 - n) = i by omega]
      simp
    · omega
  · rw [if_neg q, if_neg (by omega), b_shl (32 - n) (by omega) v (by omega), show 31 - (32 - n) = n - 1 by omega]
    simp; intro; omega
theorem b_d (w : Int32) {i : Nat} (hi : i < 32) : bt (nI (f_Wo_d w)) i = (bt w (7 + i) && decide (i < 5)) := by
  have : nI (f_Wo_d w) = ((w.toUInt32 >>> ((7 : Int32).toUInt32 &&& Int32.toUInt32 31)).toInt32) &&& (31 : Int32) := (n5_e _).symm
  rw [this, b_and, us_7, b_31]
theorem w_so (w : Int32) : f_Mo_signed ((((w.toUInt32 >>> ((25 : Int32).toUInt32 &&& Int32.toUInt32 31)).toInt32) <<< ((5 : Int32) &&& 31)) ||| nI (f_Wo_d w)) 12 = f_Wo_storeOffset w := by
  refine b_ext (fun i hi => ?_)
  unfold f_Wo_storeOffset
  rw [b_sg _ (n := 12) (N := 12) (by omega) (by omega) rfl hi, b_or, b_or, b_and, us_7, b_31]
  by_cases q : i < 12
  · rw [if_pos q, sl_5 _ hi, sl_5 _ hi, us_25, b_d w hi]
    by_cases q5 : i < 5
    · simp [q5, Nat.not_le.mpr q5]
    · rw [ss_25 w (by omega), if_pos (by omega)]
  · rw [if_neg q, sl_5 _ hi, sl_5 _ (by omega), us_25, b_d w (by omega), ss_25 w (by omega), if_neg (by omega)]
    simp [show ¬ i < 5 by omega, show 5 ≤ i by omega]
theorem b_63 (i : Nat) : bt 63 i = decide (i < 6) := by
  rcases Nat.lt_or_ge i 32 with h | h
  · exact (by decide +kernel : ∀ i, i < 32 → bt 63 i = decide (i < 6)) i h
  · rw [b_big h, decide_eq_false (by omega)]
theorem b_15 (i : Nat) : bt 15 i = decide (i < 4) := by
  rcases Nat.lt_or_ge i 32 with h | h
  · exact (by decide +kernel : ∀ i, i < 32 → bt 15 i = decide (i < 4)) i h
  · rw [b_big h, decide_eq_false (by omega)]
theorem b_1023 (i : Nat) : bt 1023 i = decide (i < 10) := by
  rcases Nat.lt_or_ge i 32 with h | h
  · exact (by decide +kernel : ∀ i, i < 32 → bt 1023 i = decide (i < 10)) i h
  · rw [b_big h, decide_eq_false (by omega)]
theorem b_ff000 (i : Nat) : bt 1044480 i = (decide (12 ≤ i) && decide (i < 20)) := by
  rcases Nat.lt_or_ge i 32 with h | h
  · exact (by decide +kernel : ∀ i, i < 32 → bt 1044480 i = (decide (12 ≤ i) && decide (i < 20))) i h
  · rw [b_big h, decide_eq_false (show ¬ i < 20 by omega), Bool.and_false]
theorem w_bo (w : Int32) : f_Mo_signed ((((((w.toUInt32 >>> ((31 : Int32).toUInt32 &&& Int32.toUInt32 31)).toInt32) <<< ((12 : Int32) &&& 31)) ||| (((w >>> ((7 : Int32) &&& 31)) &&& (1 : Int32)) <<< ((11 : Int32) &&& 31))) ||| (((w >>> ((25 : Int32) &&& 31)) &&& (63 : Int32)) <<< ((5 : Int32) &&& 31))) ||| (((w >>> ((8 : Int32) &&& 31)) &&& (15 : Int32)) <<< ((1 : Int32) &&& 31))) 13 = f_Wo_branchOffset w := by
  refine b_ext (fun i hi => ?_)
  unfold f_Wo_branchOffset
  rw [b_sg _ (n := 13) (N := 13) (by omega) (by omega) rfl hi]
  by_cases q : i < 13
  · rw [if_pos q]
    simp only [b_or, sl_12 _ hi, sl_11 _ hi, sl_5 _ hi, sl_1 _ hi, b_and, us_31, us_7, us_25, us_8, b_1, b_63, b_15, ss_31 w (show i - 12 < 32 by omega), ss_7 w (show i - 11 < 32 by omega), ss_25 w (show i - 5 < 32 by omega), ss_8 w (show i - 1 < 32 by omega)]
    have e1 : (decide (12 ≤ i) && bt w (31 + (i - 12))) = (decide (12 ≤ i) && (if 31 + (i - 12) < 32 then bt w (31 + (i - 12)) else bt w 31)) := by
      by_cases z : 12 ≤ i
      · rw [if_pos (by omega)]
      · simp [z]
    have e2 : (decide (11 ≤ i) && ((if 7 + (i - 11) < 32 then bt w (7 + (i - 11)) else bt w 31) && decide (i - 11 = 0))) = (decide (11 ≤ i) && (bt w (7 + (i - 11)) && decide (i - 11 = 0))) := by
      rw [if_pos (by omega)]
    have e3 : (decide (5 ≤ i) && ((if 25 + (i - 5) < 32 then bt w (25 + (i - 5)) else bt w 31) && decide (i - 5 < 6))) = (decide (5 ≤ i) && (bt w (25 + (i - 5)) && decide (i - 5 < 6))) := by
      by_cases z : i - 5 < 6
      · rw [if_pos (by omega)]
      · simp [z]
    have e4 : (decide (1 ≤ i) && ((if 8 + (i - 1) < 32 then bt w (8 + (i - 1)) else bt w 31) && decide (i - 1 < 4))) = (decide (1 ≤ i) && (bt w (8 + (i - 1)) && decide (i - 1 < 4))) := by
      rw [if_pos (by omega)]
    rw [← e1, e2, e3, e4]
  · rw [if_neg q]
    simp only [b_or, sl_12 _ hi, sl_11 _ hi, sl_5 _ hi, sl_1 _ hi, sl_12 _ (show 13 - 1 < 32 by omega), sl_11 _ (show 13 - 1 < 32 by omega), sl_5 _ (show 13 - 1 < 32 by omega), sl_1 _ (show 13 - 1 < 32 by omega), b_and, us_31, us_7, us_25, us_8, b_1, b_63, b_15, ss_31 w (show i - 12 < 32 by omega)]
    simp [show ¬ i - 11 = 0 by omega, show ¬ i - 5 < 6 by omega, show ¬ i - 1 < 4 by omega, show 12 ≤ i by omega]
    omega
theorem w_jo (w : Int32) : f_Mo_signed ((((((w.toUInt32 >>> ((31 : Int32).toUInt32 &&& Int32.toUInt32 31)).toInt32) <<< ((20 : Int32) &&& 31)) ||| (((w >>> ((12 : Int32) &&& 31)) &&& (255 : Int32)) <<< ((12 : Int32) &&& 31))) ||| (((w >>> ((20 : Int32) &&& 31)) &&& (1 : Int32)) <<< ((11 : Int32) &&& 31))) ||| (((w >>> ((21 : Int32) &&& 31)) &&& (1023 : Int32)) <<< ((1 : Int32) &&& 31))) 21 = f_Wo_jumpOffset w := by
  refine b_ext (fun i hi => ?_)
  unfold f_Wo_jumpOffset
  rw [b_sg _ (n := 21) (N := 21) (by omega) (by omega) rfl hi]
  by_cases q : i < 21
  · rw [if_pos q]
    simp only [b_or, sl_20 _ hi, sl_12 _ hi, sl_11 _ hi, sl_1 _ hi, b_and, us_31, us_20, us_21, b_1, b_255, b_1023, b_ff000, ss_31 w (show i - 20 < 32 by omega), ss_12 w (show i - 12 < 32 by omega), ss_20 w (show i - 11 < 32 by omega), ss_21 w (show i - 1 < 32 by omega)]
    have e1 : (decide (20 ≤ i) && bt w (31 + (i - 20))) = (decide (20 ≤ i) && (if 31 + (i - 20) < 32 then bt w (31 + (i - 20)) else bt w 31)) := by
      by_cases z : 20 ≤ i
      · rw [if_pos (by omega)]
      · simp [z]
    have e2 : (decide (12 ≤ i) && ((if 12 + (i - 12) < 32 then bt w (12 + (i - 12)) else bt w 31) && decide (i - 12 < 8))) = (bt w i && (decide (12 ≤ i) && decide (i < 20))) := by
      by_cases z : 12 ≤ i
      · rw [if_pos (by omega), show 12 + (i - 12) = i by omega]
        by_cases z2 : i < 20
        · simp [z, z2, show i - 12 < 8 by omega]
        · simp [z, z2, show ¬ i - 12 < 8 by omega]
      · simp [z]
    have e3 : (decide (11 ≤ i) && ((if 20 + (i - 11) < 32 then bt w (20 + (i - 11)) else bt w 31) && decide (i - 11 = 0))) = (decide (11 ≤ i) && (bt w (20 + (i - 11)) && decide (i - 11 = 0))) := by
      rw [if_pos (by omega)]
    have e4 : (decide (1 ≤ i) && ((if 21 + (i - 1) < 32 then bt w (21 + (i - 1)) else bt w 31) && decide (i - 1 < 10))) = (decide (1 ≤ i) && (bt w (21 + (i - 1)) && decide (i - 1 < 10))) := by
      by_cases z : i - 1 < 10
      · rw [if_pos (by omega)]
      · simp [z]
    rw [← e1, e2, e3, e4]
  · rw [if_neg q]
    simp only [b_or, sl_20 _ hi, sl_12 _ hi, sl_11 _ hi, sl_1 _ hi, sl_20 _ (show 21 - 1 < 32 by omega), sl_12 _ (show 21 - 1 < 32 by omega), sl_11 _ (show 21 - 1 < 32 by omega), sl_1 _ (show 21 - 1 < 32 by omega), b_and, us_31, us_20, us_21, b_1, b_255, b_1023, b_ff000, ss_31 w (show i - 20 < 32 by omega)]
    simp [show ¬ i - 11 = 0 by omega, show ¬ i < 20 by omega, show ¬ i - 1 < 10 by omega, show 20 ≤ i by omega]
    omega
