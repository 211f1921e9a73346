theorem rwI_c {f F G : Nat → Int32} {a b : Nat} (h : ∀ k, a ≤ k → k < b → F k = G k) : rwI f a b F = rwI f a b G := by
  funext k; unfold rwI; by_cases q : a ≤ k ∧ k < b
  · rw [if_pos q, if_pos q, h k q.1 q.2]
  · rw [if_neg q, if_neg q]
theorem rwB_c {f F G : Nat → Bool} {a b : Nat} (h : ∀ k, a ≤ k → k < b → F k = G k) : rwB f a b F = rwB f a b G := by
  funext k; unfold rwB; by_cases q : a ≤ k ∧ k < b
  · rw [if_pos q, if_pos q, h k q.1 q.2]
  · rw [if_neg q, if_neg q]
theorem rwI_in {f F : Nat → Int32} {a b k : Nat} (h1 : a ≤ k) (h2 : k < b) : rwI f a b F k = F k := if_pos ⟨h1, h2⟩
theorem rwB_in {f F : Nat → Bool} {a b k : Nat} (h1 : a ≤ k) (h2 : k < b) : rwB f a b F k = F k := if_pos ⟨h1, h2⟩
theorem rwI_out {f F : Nat → Int32} {a b k : Nat} (h : ¬ (a ≤ k ∧ k < b)) : rwI f a b F k = f k := if_neg h
theorem rwB_out {f F : Nat → Bool} {a b k : Nat} (h : ¬ (a ≤ k ∧ k < b)) : rwB f a b F k = f k := if_neg h
theorem rwB_rw {f F : Nat → Bool} {a b c : Nat} (h1 : a ≤ b) (h2 : b ≤ c) : rwB (rwB f a b F) b c F = rwB f a c F := by
  funext k
  by_cases q : b ≤ k ∧ k < c
  · rw [rwB_in q.1 q.2, rwB_in (by omega) q.2]
  · rw [rwB_out q]
    by_cases q2 : a ≤ k ∧ k < b
    · rw [rwB_in q2.1 q2.2, rwB_in q2.1 (by omega)]
    · rw [rwB_out q2, rwB_out (by omega)]
-- ===== reading
theorem r151 (f d a : Nat) (at_ : Int32) (u : S5) (n : Nat) (u1 u2 : S5) (i : Nat) (v : Int32) (hi : i < 4) : ∀ (k j : Nat) (um : Int32), 8 < k + j → j ≤ 8 → ∀ b, b < 32 → bt (f_Mo_reads_151 f d a at_ u n u1 u2 i v k j um) b = (bt um b || (decide (8 * i + j ≤ b) && decide (b < 8 * i + 8) && aB u2 1 (8 * (at_.toNatClampNeg + i) + (b - 8 * i))))
  | 0, j, um, h1, h2 => by omega
  | k + 1, j, um, h1, h2 => by
    intro b hb
    unfold f_Mo_reads_151
    by_cases hj : j < 8
    · rw [if_pos hj]
      by_cases hd : aB u2 1 (8 * (at_.toNatClampNeg + i) + j) = true
      · rw [if_pos hd, r151 f d a at_ u n u1 u2 i v hi k (j + 1) _ (by omega) (by omega) b hb, b_or, b_one (by omega) hb]
        by_cases e : 8 * i + j = b
        · subst e; rw [show 8 * i + j - 8 * i = j by omega]; simp [hd]; right; omega
        · by_cases e2 : 8 * i + j ≤ b
          · simp [e, e2, show 8 * i + (j + 1) ≤ b by omega]
          · simp [e, e2, show ¬ 8 * i + (j + 1) ≤ b by omega]
      · rw [if_neg hd, r151 f d a at_ u n u1 u2 i v hi k (j + 1) _ (by omega) (by omega) b hb]
        by_cases e : 8 * i + j = b
        · subst e; rw [show 8 * i + j - 8 * i = j by omega]; simp [hd]
        · by_cases e2 : 8 * i + j ≤ b
          · simp [e2, show 8 * i + (j + 1) ≤ b by omega]
          · simp [e2, show ¬ 8 * i + (j + 1) ≤ b by omega]
    · rw [if_neg hj]
      by_cases e : 8 * i + j ≤ b
      · simp [show ¬ b < 8 * i + 8 by omega]
      · simp [e]
theorem b_ushr8 (x : Int32) (i : Nat) : bt ((x.toUInt32 >>> ((8 : Int32).toUInt32 &&& Int32.toUInt32 31)).toInt32) i = bt x (8 + i) := b_ushr 8 (by omega) x i
theorem r_un {c oc : Int32} {op : Bool} {dk : Nat → Bool} (h : cK c oc op dk) {i : Nat} (hi : i < 4) {b : Nat} (hb : b < 32) : bt (((((c.toUInt32 >>> ((8 : Int32).toUInt32 &&& Int32.toUInt32 31)).toInt32) &&& (255 : Int32)) <<< ((nI (8 * i)) &&& 31))) b = (decide (8 * i ≤ b) && decide (b < 8 * i + 8) && dk (b - 8 * i)) := by
  rw [b_shl (8 * i) (by omega) _ hb, b_and, b_255, b_ushr8]
  by_cases e : 8 * i ≤ b
  · by_cases e2 : b < 8 * i + 8
    · rw [h.2.1 (b - 8 * i) (by omega)]; simp [e, e2, show b - 8 * i < 8 by omega]
    · simp [e, e2]; intro _; omega
  · simp [e]
theorem M_rdl {u v : S5} (h : cM (aI u 0) (aI v 1) (aB v 0) (aB v 1)) (f d a : Nat) (at_ : Int32) (u0 : S5) {n : Nat} (u1 : S5) (hn : n ≤ 4) (ha : at_.toNatClampNeg + n ≤ 65536) : ∀ (k i : Nat) (x y : Int32), f_Mo_reads_107 f d a at_ u0 n u1 v k i x y = (f_Me_read_5 at_.toNatClampNeg n u k i x, f_Me_readUngiven_5 at_.toNatClampNeg n u k i y)
  | 0, i, x, y => rfl
  | k + 1, i, x, y => by
    unfold f_Mo_reads_107 f_Me_read_5 f_Me_readUngiven_5
    by_cases hi : i < n
    · rw [if_pos hi, if_pos hi, if_pos hi]
      have hk := h (at_.toNatClampNeg + i) (by omega)
      have e := K_open hk
      rw [K_oct hk]
      by_cases z : aB v 0 (at_.toNatClampNeg + i) = true
      · rw [if_pos z, if_neg (fun q => e.mp q z)]
        dsimp only
        rw [M_rdl h f d a at_ u0 u1 hn ha k (i + 1) _ _]
        have e2 : f_Mo_reads_151 f d a at_ u0 n u1 v i x 9 0 y = y ||| (((((aI u 0 (at_.toNatClampNeg + i)).toUInt32 >>> ((8 : Int32).toUInt32 &&& Int32.toUInt32 31)).toInt32) &&& (255 : Int32)) <<< ((nI (8 * i)) &&& 31)) := by
          refine b_ext (fun b hb => ?_)
          rw [r151 f d a at_ u0 n u1 v i x (by omega) 9 0 y (by omega) (by omega) b hb, b_or, r_un hk (by omega) hb]
          rfl
        rw [e2]
      · rw [if_neg z, if_pos (e.mpr z)]
        exact M_rdl h f d a at_ u0 u1 hn ha k (i + 1) _ _
    · rw [if_neg hi, if_neg hi, if_neg hi]
theorem M_read {u v : S5} (h : cM (aI u 0) (aI v 1) (aB v 0) (aB v 1)) (f d a : Nat) (at_ : Int32) (u0 : S5) {n : Nat} (u1 : S5) (hn : n ≤ 4) (ha : at_.toNatClampNeg + n ≤ 65536) : f_Mo_reads_107 f d a at_ u0 n u1 v (n + 1) 0 0 0 = (f_Me_read at_.toNatClampNeg n u, f_Me_readUngiven at_.toNatClampNeg n u) := M_rdl h f d a at_ u0 u1 hn ha _ _ _ _
-- ===== writing
def wrF (at_ : Nat) (v w : Int32) (c : Nat → Int32) (q : Nat) : Int32 := (((c q) &&& (65536 : Int32)) ||| ((((w.toUInt32 >>> ((nI (8 * (q - at_))).toUInt32 &&& Int32.toUInt32 31)).toInt32) &&& (255 : Int32)) <<< ((8 : Int32) &&& 31))) ||| (((v.toUInt32 >>> ((nI (8 * (q - at_))).toUInt32 &&& Int32.toUInt32 31)).toInt32) &&& (255 : Int32))
theorem upd_ne {f : Nat → Int32} {a k : Nat} {x : Int32} (h : ¬ k = a) : upd f a x k = f k := if_neg h
theorem upd_eq {f : Nat → Int32} {a : Nat} {x : Int32} : upd f a x a = x := if_pos rfl
theorem wr_l (at_ n : Nat) (v w : Int32) (u : S5) : ∀ (k i : Nat) (u1 : S5), n < k + i → i ≤ n → f_Me_write_3 at_ n v w u k i u1 = sAI u1 0 (rwI (aI u1 0) (at_ + i) (at_ + n) (wrF at_ v w (aI u1 0)))
  | 0, i, u1, h1, h2 => by omega
  | k + 1, i, u1, h1, h2 => by
    unfold f_Me_write_3
    by_cases hi : i < n
    · rw [if_pos hi, wr_l at_ n v w u k (i + 1) _ (by omega) (by omega)]
      unfold uI
      rw [sAI_sAI, aI_sAI]
      refine congrArg _ ?_
      have e : (at_ + i - at_) = i := by omega
      rw [← rwI_s (f := aI u1 0) (F := wrF at_ v w (aI u1 0)) (show at_ + i < at_ + n by omega)]
      rw [show wrF at_ v w (aI u1 0) (at_ + i) = _ by unfold wrF; rw [e]]
      exact rwI_c (fun q h3 h4 => by unfold wrF; rw [upd_ne (by omega)])
    · rw [if_neg hi, rwI_e (by omega), sAI_self]
theorem write_eq (at_ n : Nat) (v w : Int32) (u : S5) : f_Me_write at_ n v w u = sAI u 0 (rwI (aI u 0) at_ (at_ + n) (wrF at_ v w (aI u 0))) := wr_l at_ n v w u _ _ _ (by omega) (by omega)
theorem st_l1 (f a b : Nat) (at_ : Int32) (u u1 : S5) (i : Nat) : ∀ (k j : Nat) (u4 : S5), 8 < k + j → j ≤ 8 → f_Mo_stores_112 f a b at_ u u1 i k j u4 = sAB u4 1 (rwB (aB u4 1) (8 * (at_.toNatClampNeg + i) + j) (8 * (at_.toNatClampNeg + (i + 1))) (fun q => aB u4 2 (32 * b + (q - 8 * at_.toNatClampNeg))))
  | 0, j, u4, h1, h2 => by omega
  | k + 1, j, u4, h1, h2 => by
    unfold f_Mo_stores_112
    by_cases hj : j < 8
    · rw [if_pos hj, st_l1 f a b at_ u u1 i k (j + 1) _ (by omega) (by omega)]
      unfold uB
      rw [sAB_sAB, aB_sAB]
      refine congrArg _ ?_
      have e : 32 * b + 8 * i + j = 32 * b + (8 * (at_.toNatClampNeg + i) + j - 8 * at_.toNatClampNeg) := by omega
      rw [e]
      exact rwB_s (F := fun q => aB u4 2 (32 * b + (q - 8 * at_.toNatClampNeg))) (by omega)
    · rw [if_neg hj, rwB_e (by omega), sAB_self]
def stO (at_ : Nat) (x : Int32) (q : Nat) : Int32 := (x >>> ((nI (8 * (q - at_))) &&& 31)) &&& (255 : Int32)
/-- octets and their bits not given, both anew -/
def two (u : S5) (f : Nat → Int32) (g : Nat → Bool) : S5 := sAB (sAI u 1 f) 1 g
theorem two_two (u : S5) (f f2 : Nat → Int32) (g g2 : Nat → Bool) : two (two u f g) f2 g2 = two u f2 g2 := by
  show sAB (sAB (sAI (sAI u 1 f) 1 f2) 1 g) 1 g2 = _
  rw [sAB_sAB, sAI_sAI]; rfl
theorem two_self (u : S5) : two u (aI u 1) (aB u 1) = u := by
  show sAB (sAI u 1 (aI u 1)) 1 (aB u 1) = u
  rw [sAI_self, sAB_self]
theorem two_I (u : S5) (f : Nat → Int32) (g : Nat → Bool) : aI (two u f g) 1 = f := aI_sAI u 1 f
theorem two_B (u : S5) (f : Nat → Int32) (g : Nat → Bool) : aB (two u f g) 1 = g := aB_sAB (sAI u 1 f) 1 g
theorem two_I2 (u : S5) (f : Nat → Int32) (g : Nat → Bool) : aI (two u f g) 2 = aI u 2 := rfl
theorem two_B2 (u : S5) (f : Nat → Int32) (g : Nat → Bool) : aB (two u f g) 2 = aB u 2 := rfl
theorem st_l2 (f a b : Nat) (at_ : Int32) (u u1 : S5) : ∀ (k i : Nat) (u3 : S5), pv f < k + i → i ≤ pv f → f_Mo_stores_76 f a b at_ u u1 k i u3 = (true, two u3 (rwI (aI u3 1) (at_.toNatClampNeg + i) (at_.toNatClampNeg + pv f) (stO at_.toNatClampNeg (aI u3 2 b))) (rwB (aB u3 1) (8 * (at_.toNatClampNeg + i)) (8 * (at_.toNatClampNeg + pv f)) (fun q => aB u3 2 (32 * b + (q - 8 * at_.toNatClampNeg)))))
  | 0, i, u3, h1, h2 => by omega
  | k + 1, i, u3, h1, h2 => by
    unfold f_Mo_stores_76
    by_cases hi : i < pv f
    · rw [if_pos hi]
      dsimp only
      have hs : f_Mo_stores_112 f a b at_ u u1 i 9 0 (uI u3 1 (at_.toNatClampNeg + i) ((aI u3 2 b >>> (nI (8 * i) &&& 31)) &&& (255 : Int32))) = two u3 (upd (aI u3 1) (at_.toNatClampNeg + i) (stO at_.toNatClampNeg (aI u3 2 b) (at_.toNatClampNeg + i))) (rwB (aB u3 1) (8 * (at_.toNatClampNeg + i)) (8 * (at_.toNatClampNeg + (i + 1))) (fun q => aB u3 2 (32 * b + (q - 8 * at_.toNatClampNeg)))) := by
        rw [st_l1 f a b at_ u u1 i 9 0 _ (by omega) (by omega)]
        unfold stO
        rw [show at_.toNatClampNeg + i - at_.toNatClampNeg = i by omega]
        rfl
      rw [hs, st_l2 f a b at_ u u1 k (i + 1) _ (by omega) (by omega), two_two, two_I, two_B, two_I2, two_B2, show at_.toNatClampNeg + (i + 1) = at_.toNatClampNeg + i + 1 by omega, rwI_s (F := stO at_.toNatClampNeg (aI u3 2 b)) (by omega), rwB_rw (by omega) (by omega)]
    · rw [if_neg hi, rwI_e (by omega), rwB_e (by omega), two_self]
theorem stores_eq (f a b : Nat) (at_ : Int32) (u u1 v : S5) : f_Mo_stores_73 f a b at_ u u1 v = (true, two v (rwI (aI v 1) at_.toNatClampNeg (at_.toNatClampNeg + pv f) (stO at_.toNatClampNeg (aI v 2 b))) (rwB (aB v 1) (8 * at_.toNatClampNeg) (8 * (at_.toNatClampNeg + pv f)) (fun q => aB v 2 (32 * b + (q - 8 * at_.toNatClampNeg))))) := st_l2 f a b at_ u u1 _ _ _ (by omega) (by omega)
theorem cM_write {c oc : Nat → Int32} {op dk : Nat → Bool} (h : cM c oc op dk) {at_ n : Nat} (hn : n ≤ 4) {x w : Int32} {dx : Nat → Bool} {b : Nat} (hw : ∀ i, i < 32 → bt w i = dx (32 * b + i)) : cM (rwI c at_ (at_ + n) (wrF at_ x w c)) (rwI oc at_ (at_ + n) (stO at_ x)) op (rwB dk (8 * at_) (8 * (at_ + n)) (fun q => dx (32 * b + (q - 8 * at_)))) := by
  intro k hk
  by_cases q : at_ ≤ k ∧ k < at_ + n
  · rw [rwI_in q.1 q.2, rwI_in q.1 q.2]
    obtain ⟨t, ht⟩ : ∃ t, k = at_ + t := ⟨k - at_, by omega⟩
    subst ht
    have ht : t < 4 := by omega
    have ho : ∀ i, i < 32 → bt (stO at_ x (at_ + t)) i = (decide (i < 8) && bt x (8 * t + i)) := by
      intro i hi
      unfold stO
      rw [show at_ + t - at_ = t by omega, b_and, b_255, b_sshr (8 * t) (by omega) x hi]
      by_cases a : i < 8
      · rw [if_pos (by omega)]; simp [a]
      · simp [a]
    refine K_of (fun i hi => ?_) (fun i hi => ?_)
    · rcases Nat.lt_or_ge i 32 with z | z
      · rw [ho i z]; simp [Nat.not_lt.mpr hi]
      · exact b_big z
    · have e : bt (wrF at_ x w c (at_ + t)) i = (((bt (c (at_ + t)) i && decide (i = 16)) || (decide (8 ≤ i) && (bt w (8 * t + (i - 8)) && decide (i - 8 < 8)))) || (bt x (8 * t + i) && decide (i < 8))) := by
        unfold wrF
        rw [show at_ + t - at_ = t by omega, b_or, b_or, b_and, b_65536, b_shl8 _ hi, b_and, b_255, b_ushr (8 * t) (by omega), b_and, b_255, b_ushr (8 * t) (by omega)]
      rw [e, ho i hi]
      by_cases a : i < 8
      · rw [if_pos a]; simp [a, show ¬ i = 16 by omega, Nat.not_le.mpr a]
      · rw [if_neg a]
        by_cases a2 : i < 16
        · rw [if_pos a2, rwB_in (by omega) (by omega), show 8 * (at_ + t) + (i - 8) - 8 * at_ = 8 * t + (i - 8) by omega, ← hw (8 * t + (i - 8)) (by omega)]
          simp [a, show ¬ i = 16 by omega, show 8 ≤ i by omega, show i - 8 < 8 by omega]
        · rw [if_neg a2]
          by_cases a3 : i = 16
          · subst a3; rw [if_pos rfl, (h (at_ + t) hk).2.2.1]; simp
          · rw [if_neg a3]; simp [a, a3, show ¬ i - 8 < 8 by omega]
  · rw [rwI_out q, rwI_out q]
    have := h k hk
    refine ⟨this.1, fun j hj => ?_, this.2.2⟩
    show bt (c k) (8 + j) = rwB dk _ _ _ (8 * k + j)
    rw [rwB_out (by omega)]
    exact this.2.1 j hj
