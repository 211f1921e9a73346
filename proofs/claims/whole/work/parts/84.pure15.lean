-- ===== one instruction, but for the calls
theorem gI_put (d : Nat) (a w : Int32) (u : S5) (k : Nat) : gI (f_Rg_put d a w u) k = gI u k := by unfold f_Rg_put; split <;> rfl
theorem S_fin {u0 u1 v2 : S5} (h : Sim u1 v2) (h3 : ¬ gI u1 3 = 2) (u : S5) (w op : Int32) (d f a b : Nat) (g im nx : Int32) (hn : gI u1 2 = nx) : Sim (f_Ma_perform_258 u0 u1) (f_Mo_one_952 u w op d f a b g im nx v2) := by
  unfold f_Ma_perform_258 f_Mo_one_952
  rw [if_neg h3, hn]
  obtain ⟨h1, h2, h3, h4, h5, h6, h7, h8, h9⟩ := h
  exact ⟨h1, h2, h3, h4, h5, h6, ⟨rfl, h7.2.1, h7.2.2.1, by show gI u1 5 + 1 = gI v2 4 + 1; rw [h7.2.2.2]⟩, h8, h9⟩
theorem S_finT {u0 u1 v2 : S5} (h : Sim u1 v2) (h3 : gI u1 3 = 2) : Sim (f_Ma_perform_258 u0 u1) v2 := by
  unfold f_Ma_perform_258; rw [if_pos h3]; exact h
/-- how an instruction comes out: done, or a trap -/
def Out (u u1 : S5) (ok : Bool) (v2 : S5) : Prop := (ok = true ∧ Sim u1 v2 ∧ gI u1 3 = gI u 3 ∧ gI u1 2 = gI u 2) ∨ (ok = false ∧ Sim u1 v2 ∧ gI u1 3 = 2)
def rfA (a : Nat) (at_ : Int32) (v : S5) : S5 := if f_Mo_anyDark a 32 v = true then f_Mo_fault 3 at_ v else v
def rfB (at_ : Int32) (n : Nat) (v : S5) : S5 := if f_Mo_shut at_.toNatClampNeg n v < 0 then v else f_Mo_fault 4 (f_Mo_shut at_.toNatClampNeg n v) v
theorem S_reach {u v : S5} (h : Sim u v) {a n : Nat} (ha : a < 32) (hn : n ≤ 4) (at_ : Int32) : (f_Mo_beyond at_ n = true ∧ (f_Ma_isReached a at_ n u).1 = false ∧ Sim (f_Ma_isReached a at_ n u).2 (f_Mo_trap 2 (rfA a at_ v)) ∧ gI (f_Ma_isReached a at_ n u).2 3 = 2) ∨ (¬ f_Mo_beyond at_ n = true ∧ (f_Ma_isReached a at_ n u).1 = true ∧ Sim (f_Ma_isReached a at_ n u).2 (rfB at_ n (rfA a at_ v)) ∧ gI (f_Ma_isReached a at_ n u).2 3 = gI u 3 ∧ gI (f_Ma_isReached a at_ n u).2 2 = gI u 2) := by
  have key : ∀ u1 : S5, Sim u1 (rfA a at_ v) → (∀ k, ¬ k = 6 → gI u1 k = gI u k) → (f_Mo_beyond at_ n = true ∧ (f_Ma_isReached_25 a at_ n u u1).1 = false ∧ Sim (f_Ma_isReached_25 a at_ n u u1).2 (f_Mo_trap 2 (rfA a at_ v)) ∧ gI (f_Ma_isReached_25 a at_ n u u1).2 3 = 2) ∨ (¬ f_Mo_beyond at_ n = true ∧ (f_Ma_isReached_25 a at_ n u u1).1 = true ∧ Sim (f_Ma_isReached_25 a at_ n u u1).2 (rfB at_ n (rfA a at_ v)) ∧ gI (f_Ma_isReached_25 a at_ n u u1).2 3 = gI u 3 ∧ gI (f_Ma_isReached_25 a at_ n u u1).2 2 = gI u 2) := by
    intro u1 h1 hg
    by_cases hb : f_Mo_beyond at_ n = true
    · left
      have hb2 := hb
      unfold f_Mo_beyond at hb2
      dsimp only at hb2
      unfold f_Ma_isReached_25
      by_cases z : at_ < 0
      · rw [if_pos z]; exact ⟨hb, rfl, S_trap h1 2, rfl⟩
      · rw [if_neg z] at hb2 ⊢
        by_cases z2 : at_ ≤ nI (65536 - n)
        · rw [if_pos z2] at hb2; cases hb2
        · rw [if_neg z2]; exact ⟨hb, rfl, S_trap h1 2, rfl⟩
    · right
      obtain ⟨z, z3⟩ := by_in (by omega) hb
      have hb2 := hb
      unfold f_Mo_beyond at hb2
      dsimp only at hb2
      rw [if_neg z] at hb2
      have z2 : at_ ≤ nI (65536 - n) := Classical.byContradiction fun q => by rw [if_neg q] at hb2; exact hb2 rfl
      unfold f_Ma_isReached_25 rfB
      rw [if_neg z, if_pos z2, M_shut h1.M z3]
      by_cases y : f_Mo_shut at_.toNatClampNeg n (rfA a at_ v) < 0
      · rw [if_pos y, if_pos y]; exact ⟨hb, rfl, h1, hg 3 (by decide), hg 2 (by decide)⟩
      · rw [if_neg y, if_neg y]
        have f := nt_fr 4 (gI u1 0) (f_Mo_shut at_.toNatClampNeg n (rfA a at_ v)) u1
        exact ⟨hb, rfl, S_note h1 (by decide) _, (f.1 3 (by decide)).trans (hg 3 (by decide)), (f.1 2 (by decide)).trans (hg 2 (by decide))⟩
  unfold f_Ma_isReached
  have e := R_ad h.R ha
  by_cases z : aI u 3 a = 0
  · rw [if_pos z]
    refine key u ?_ (fun _ _ => rfl)
    unfold rfA; rw [if_neg (fun q => e.mp q z)]; exact h
  · rw [if_neg z]
    have f := nt_fr 3 (gI u 0) at_ u
    refine key _ ?_ (fun k hk => f.1 k (by simpa using hk))
    unfold rfA; rw [if_pos (e.mpr z)]; exact S_note h (by decide) _
theorem sh_0 (x : Int32) : (x <<< ((0 : Int32) &&& 31)) >>> ((0 : Int32) &&& 31) = x := by
  refine b_ext (fun i hi => ?_)
  have e1 : bt ((x <<< ((0 : Int32) &&& 31)) >>> ((0 : Int32) &&& 31)) i = _ := b_sshr 0 (by omega) _ hi
  have e2 : bt (x <<< ((0 : Int32) &&& 31)) i = _ := b_shl 0 (by omega) x hi
  rw [e1, if_pos (by omega), show 0 + i = i by omega, e2]
  simp
theorem S_load {u v : S5} (h : Sim u v) (w : Int32) : Out u (f_Ma_load w u) (f_Mo_reads (f_Wo_f w) (f_Wo_d w) (f_Wo_a w) (aI v 2 (f_Wo_a w) + f_Wo_immediate w) v).1 (f_Mo_reads (f_Wo_f w) (f_Wo_d w) (f_Wo_a w) (aI v 2 (f_Wo_a w) + f_Wo_immediate w) v).2 := by
  have ha := a_lt w
  have hf := f_lt w
  rw [← (h.R _ ha).1]
  unfold f_Ma_load f_Mo_reads
  by_cases f3 : f_Wo_f w = 3
  · rw [if_pos f3, if_pos f3]; exact Or.inr ⟨rfl, S_trap h 1, rfl⟩
  · rw [if_neg f3, if_neg f3]
    by_cases f5 : f_Wo_f w ≤ 5
    · rw [if_pos f5, if_pos f5]
      dsimp only
      generalize aI u 2 (f_Wo_a w) + f_Wo_immediate w = at_
      have hn : (if f_Wo_f w = 0 then 1 else if f_Wo_f w = 4 then 1 else if f_Wo_f w = 2 then 4 else 2) = pw (f_Wo_f w) := (by decide +kernel : ∀ f, f < 8 → ¬ f = 3 → f ≤ 5 → (if f = 0 then 1 else if f = 4 then 1 else if f = 2 then 4 else 2) = pw f) _ hf f3 f5
      rw [hn]
      have h4 := ld_4 _ hf f3 f5
      have e65 : (if f_Mo_anyDark (f_Wo_a w) 32 v = true then f_Mo_reads_65 (f_Wo_f w) (f_Wo_d w) (f_Wo_a w) at_ v (pw (f_Wo_f w)) (f_Mo_fault 3 at_ v) else f_Mo_reads_65 (f_Wo_f w) (f_Wo_d w) (f_Wo_a w) at_ v (pw (f_Wo_f w)) v) = f_Mo_reads_65 (f_Wo_f w) (f_Wo_d w) (f_Wo_a w) at_ v (pw (f_Wo_f w)) (rfA (f_Wo_a w) at_ v) := by
        unfold rfA; split <;> rfl
      rw [e65]
      unfold f_Mo_reads_65
      rcases S_reach h ha h4 at_ with ⟨r1, r2, r3, r4⟩ | ⟨r1, r2, r3, r4, r5⟩
      · rw [if_pos r1, if_neg (by rw [r2]; decide)]
        exact Or.inr ⟨rfl, r3, r4⟩
      · rw [if_neg r1, if_pos r2]
        obtain ⟨z, z3⟩ := by_in (by omega) r1
        generalize (f_Ma_isReached (f_Wo_a w) at_ (pw (f_Wo_f w)) u).2 = u2 at r3 r4 r5 ⊢
        have e104 : (if f_Mo_shut at_.toNatClampNeg (pw (f_Wo_f w)) (rfA (f_Wo_a w) at_ v) < 0 then f_Mo_reads_104 (f_Wo_f w) (f_Wo_d w) (f_Wo_a w) at_ v (pw (f_Wo_f w)) (rfA (f_Wo_a w) at_ v) (rfA (f_Wo_a w) at_ v) else f_Mo_reads_104 (f_Wo_f w) (f_Wo_d w) (f_Wo_a w) at_ v (pw (f_Wo_f w)) (rfA (f_Wo_a w) at_ v) (f_Mo_fault 4 (f_Mo_shut at_.toNatClampNeg (pw (f_Wo_f w)) (rfA (f_Wo_a w) at_ v)) (rfA (f_Wo_a w) at_ v))) = f_Mo_reads_104 (f_Wo_f w) (f_Wo_d w) (f_Wo_a w) at_ v (pw (f_Wo_f w)) (rfA (f_Wo_a w) at_ v) (rfB at_ (pw (f_Wo_f w)) (rfA (f_Wo_a w) at_ v)) := by
          unfold rfB; split <;> rfl
        rw [e104]
        unfold f_Mo_reads_104 f_Mo_reads_233
        dsimp only
        rw [M_read r3.M _ _ _ at_ v _ h4 z3]
        dsimp only
        generalize f_Me_read at_.toNatClampNeg (pw (f_Wo_f w)) u2 = x
        generalize f_Me_readUngiven at_.toNatClampNeg (pw (f_Wo_f w)) u2 = y
        have hs : ∀ t : Int32, ((t <<< ((if f_Wo_f w < 4 then (32 : Int32) - nI (8 * pw (f_Wo_f w)) else 0) &&& 31)) >>> ((if f_Wo_f w < 4 then (32 : Int32) - nI (8 * pw (f_Wo_f w)) else 0) &&& 31)) = if f_Wo_f w < 2 then f_Mo_signed t (nI (8 * pw (f_Wo_f w))) else t := by
          intro t
          unfold f_Mo_signed
          by_cases q : f_Wo_f w < 2
          · rw [if_pos q, if_pos (by omega)]
          · rw [if_neg q]
            have e0 : (if f_Wo_f w < 4 then (32 : Int32) - nI (8 * pw (f_Wo_f w)) else 0) = 0 := (by decide +kernel : ∀ f, f < 8 → ¬ f < 2 → ¬ f = 3 → (if f < 4 then (32 : Int32) - nI (8 * pw f) else 0) = 0) _ hf q f3
            rw [e0, sh_0]
        rw [hs x, hs y]
        by_cases q : f_Wo_f w < 2
        · rw [if_pos q, if_pos q, if_pos q]
          exact Or.inl ⟨rfl, S_put r3 _ _ _, by rw [gI_put]; exact r4, by rw [gI_put]; exact r5⟩
        · rw [if_neg q, if_neg q, if_neg q]
          exact Or.inl ⟨rfl, S_put r3 _ _ _, by rw [gI_put]; exact r4, by rw [gI_put]; exact r5⟩
    · rw [if_neg f5, if_neg f5]; exact Or.inr ⟨rfl, S_trap h 1, rfl⟩
theorem S_store {u v : S5} (h : Sim u v) (w : Int32) : Out u (f_Ma_store w u) (f_Mo_stores (f_Wo_f w) (f_Wo_a w) (f_Wo_b w) (aI v 2 (f_Wo_a w) + f_Wo_storeOffset w) v).1 (f_Mo_stores (f_Wo_f w) (f_Wo_a w) (f_Wo_b w) (aI v 2 (f_Wo_a w) + f_Wo_storeOffset w) v).2 := by
  have ha := a_lt w
  have hbl := b_lt w
  rw [← (h.R _ ha).1]
  unfold f_Ma_store f_Mo_stores
  by_cases f2 : f_Wo_f w ≤ 2
  · rw [if_pos f2, if_pos f2]
    generalize aI u 2 (f_Wo_a w) + f_Wo_storeOffset w = at_
    have h4 := st_4 _ f2
    have e34 : (if f_Mo_anyDark (f_Wo_a w) 32 v = true then f_Mo_stores_34 (f_Wo_f w) (f_Wo_a w) (f_Wo_b w) at_ v (f_Mo_fault 3 at_ v) else f_Mo_stores_34 (f_Wo_f w) (f_Wo_a w) (f_Wo_b w) at_ v v) = f_Mo_stores_34 (f_Wo_f w) (f_Wo_a w) (f_Wo_b w) at_ v (rfA (f_Wo_a w) at_ v) := by
      unfold rfA; split <;> rfl
    rw [e34]
    unfold f_Mo_stores_34
    rcases S_reach h ha h4 at_ with ⟨r1, r2, r3, r4⟩ | ⟨r1, r2, r3, r4, r5⟩
    · rw [if_pos r1, if_neg (by rw [r2]; decide)]
      exact Or.inr ⟨rfl, r3, r4⟩
    · rw [if_neg r1, if_pos r2]
      generalize (f_Ma_isReached (f_Wo_a w) at_ (pv (f_Wo_f w)) u).2 = u2 at r3 r4 r5 ⊢
      have e73 : (if f_Mo_shut at_.toNatClampNeg (pv (f_Wo_f w)) (rfA (f_Wo_a w) at_ v) < 0 then f_Mo_stores_73 (f_Wo_f w) (f_Wo_a w) (f_Wo_b w) at_ v (rfA (f_Wo_a w) at_ v) (rfA (f_Wo_a w) at_ v) else f_Mo_stores_73 (f_Wo_f w) (f_Wo_a w) (f_Wo_b w) at_ v (rfA (f_Wo_a w) at_ v) (f_Mo_fault 4 (f_Mo_shut at_.toNatClampNeg (pv (f_Wo_f w)) (rfA (f_Wo_a w) at_ v)) (rfA (f_Wo_a w) at_ v))) = f_Mo_stores_73 (f_Wo_f w) (f_Wo_a w) (f_Wo_b w) at_ v (rfA (f_Wo_a w) at_ v) (rfB at_ (pv (f_Wo_f w)) (rfA (f_Wo_a w) at_ v)) := by
        unfold rfB; split <;> rfl
      rw [e73, stores_eq, write_eq]
      generalize rfB at_ (pv (f_Wo_f w)) (rfA (f_Wo_a w) at_ v) = v2 at r3 ⊢
      refine Or.inl ⟨rfl, ?_, r4, r5⟩
      obtain ⟨h1, h2, h3, h4', h5, h6, h7, h8, h9⟩ := r3
      have hM := cM_write h1 (at_ := at_.toNatClampNeg) (n := pv (f_Wo_f w)) h4 (x := aI u2 2 (f_Wo_b w)) (w := aI u2 3 (f_Wo_b w)) (dx := aB v2 2) (b := f_Wo_b w) (h3 _ hbl).2
      rw [(h3 _ hbl).1] at hM
      have e : aI u2 2 (f_Wo_b w) = aI v2 2 (f_Wo_b w) := (h3 _ hbl).1
      rw [e]
      exact ⟨hM, h2, h3, h4', h5, h6, h7, h8, h9⟩
  · rw [if_neg f2, if_neg f2]; exact Or.inr ⟨rfl, S_trap h 1, rfl⟩
-- ===== branches
theorem lg_lt (x y : Int64) : lg_cmp x y < 0 ↔ x < y := by
  unfold lg_cmp
  by_cases z : x > y
  · rw [if_pos z]
    constructor
    · intro q; exact absurd q (by decide)
    · intro q; rw [Int64.lt_iff_toInt_lt] at q; have := Int64.lt_iff_toInt_lt.mp z; omega
  · rw [if_neg z]
    by_cases z2 : x = y
    · rw [if_pos z2]
      constructor
      · intro q; exact absurd q (by decide)
      · intro q; rw [z2, Int64.lt_iff_toInt_lt] at q; omega
    · rw [if_neg z2]
      constructor
      · intro _
        rw [Int64.lt_iff_toInt_lt]
        have : ¬ y.toInt < x.toInt := fun q => z (Int64.lt_iff_toInt_lt.mpr q)
        have : ¬ x.toInt = y.toInt := fun q => z2 (Int64.toInt_inj.mp q)
        omega
      · intro _; decide
theorem lg_ge (x y : Int64) : 0 ≤ lg_cmp x y ↔ ¬ x < y := by
  rw [← lg_lt, Int32.not_lt]
theorem lt_64 (a b : Int32) : a.toInt64 < b.toInt64 ↔ ¬ b ≤ a := by
  rw [Int64.lt_iff_toInt_lt, Int32.toInt_toInt64, Int32.toInt_toInt64, Int32.le_iff_toInt_le]; omega
theorem eq_64 (a b : Int32) : lg_cmp a.toInt64 b.toInt64 = 0 ↔ a = b := by
  rw [lgz]
  constructor
  · intro q
    have := congrArg Int64.toInt32 q
    rwa [Int32.toInt32_toInt64, Int32.toInt32_toInt64] at this
  · intro q; rw [q]
theorem br_eq {f : Nat} (hf : f < 8) (f2 : ¬ f = 2) (f3 : ¬ f = 3) (a b : Int32) : (if f = 0 then (if (lg_cmp (if f < 6 then a.toInt64 else a.toInt64 &&& 4294967295) (if f < 6 then b.toInt64 else b.toInt64 &&& 4294967295)) = 0 then true else false) else if f = 1 then (if (lg_cmp (if f < 6 then a.toInt64 else a.toInt64 &&& 4294967295) (if f < 6 then b.toInt64 else b.toInt64 &&& 4294967295)) = 0 then false else true) else if f = 4 then (if 0 ≤ (lg_cmp (if f < 6 then a.toInt64 else a.toInt64 &&& 4294967295) (if f < 6 then b.toInt64 else b.toInt64 &&& 4294967295)) then false else true) else if f = 6 then (if 0 ≤ (lg_cmp (if f < 6 then a.toInt64 else a.toInt64 &&& 4294967295) (if f < 6 then b.toInt64 else b.toInt64 &&& 4294967295)) then false else true) else if (lg_cmp (if f < 6 then a.toInt64 else a.toInt64 &&& 4294967295) (if f < 6 then b.toInt64 else b.toInt64 &&& 4294967295)) < 0 then false else true) = f_Ma_isTaken (nI f) a b := by
  have tk : ∀ f : Nat, (f = 0 ∨ f = 1 ∨ f = 4 ∨ f = 5 ∨ f = 6 ∨ f = 7) → f_Ma_isTaken (nI f) a b = if f = 0 then (if a = b then true else false) else if f = 1 then (if a = b then false else true) else if f = 4 then f_Rk_isBelow a b else if f = 5 then (if (f_Rk_isBelow a b) = true then false else true) else if f = 6 then f_Rk_isBelowUnsigned a b else if (f_Rk_isBelowUnsigned a b) = true then false else true := by
    intro f hf
    unfold f_Ma_isTaken
    rcases hf with rfl | rfl | rfl | rfl | rfl | rfl
    · rw [if_pos (show nI 0 = (0 : Int32) from rfl), if_pos (show (0 : Nat) = 0 from rfl)]
    · rw [if_neg (show ¬ nI 1 = (0 : Int32) by decide), if_pos (show nI 1 = (1 : Int32) from rfl), if_neg (show ¬ (1 : Nat) = 0 by decide), if_pos (show (1 : Nat) = 1 from rfl)]
    · rw [if_neg (show ¬ nI 4 = (0 : Int32) by decide), if_neg (show ¬ nI 4 = (1 : Int32) by decide), if_neg (show ¬ nI 4 = (2 : Int32) by decide), if_neg (show ¬ nI 4 = (3 : Int32) by decide), if_pos (show nI 4 = (4 : Int32) from rfl), if_neg (show ¬ (4 : Nat) = 0 by decide), if_neg (show ¬ (4 : Nat) = 1 by decide), if_pos (show (4 : Nat) = 4 from rfl)]
    · rw [if_neg (show ¬ nI 5 = (0 : Int32) by decide), if_neg (show ¬ nI 5 = (1 : Int32) by decide), if_neg (show ¬ nI 5 = (2 : Int32) by decide), if_neg (show ¬ nI 5 = (3 : Int32) by decide), if_neg (show ¬ nI 5 = (4 : Int32) by decide), if_pos (show nI 5 = (5 : Int32) from rfl), if_neg (show ¬ (5 : Nat) = 0 by decide), if_neg (show ¬ (5 : Nat) = 1 by decide), if_neg (show ¬ (5 : Nat) = 4 by decide), if_pos (show (5 : Nat) = 5 from rfl)]
    · rw [if_neg (show ¬ nI 6 = (0 : Int32) by decide), if_neg (show ¬ nI 6 = (1 : Int32) by decide), if_neg (show ¬ nI 6 = (2 : Int32) by decide), if_neg (show ¬ nI 6 = (3 : Int32) by decide), if_neg (show ¬ nI 6 = (4 : Int32) by decide), if_neg (show ¬ nI 6 = (5 : Int32) by decide), if_pos (show nI 6 = (6 : Int32) from rfl), if_neg (show ¬ (6 : Nat) = 0 by decide), if_neg (show ¬ (6 : Nat) = 1 by decide), if_neg (show ¬ (6 : Nat) = 4 by decide), if_neg (show ¬ (6 : Nat) = 5 by decide), if_pos (show (6 : Nat) = 6 from rfl)]
    · rw [if_neg (show ¬ nI 7 = (0 : Int32) by decide), if_neg (show ¬ nI 7 = (1 : Int32) by decide), if_neg (show ¬ nI 7 = (2 : Int32) by decide), if_neg (show ¬ nI 7 = (3 : Int32) by decide), if_neg (show ¬ nI 7 = (4 : Int32) by decide), if_neg (show ¬ nI 7 = (5 : Int32) by decide), if_neg (show ¬ nI 7 = (6 : Int32) by decide), if_neg (show ¬ (7 : Nat) = 0 by decide), if_neg (show ¬ (7 : Nat) = 1 by decide), if_neg (show ¬ (7 : Nat) = 4 by decide), if_neg (show ¬ (7 : Nat) = 5 by decide), if_neg (show ¬ (7 : Nat) = 6 by decide)]
  rw [tk f (by omega)]
  unfold f_Rk_isBelow f_Rk_isBelowUnsigned
  rcases (show f = 0 ∨ f = 1 ∨ f = 4 ∨ f = 5 ∨ f = 6 ∨ f = 7 by omega) with rfl | rfl | rfl | rfl | rfl | rfl
  · simp only [↓reduceIte, if_pos (show (0 : Nat) = 0 from rfl), if_pos (show (0 : Nat) < 6 by decide)]
    by_cases z : a = b
    · rw [if_pos ((eq_64 a b).mpr z), if_pos z]
    · rw [if_neg (fun q => z ((eq_64 a b).mp q)), if_neg z]
  · simp only [↓reduceIte, if_neg (show ¬ (1 : Nat) = 0 by decide), if_pos (show (1 : Nat) = 1 from rfl), if_pos (show (1 : Nat) < 6 by decide)]
    by_cases z : a = b
    · rw [if_pos ((eq_64 a b).mpr z), if_pos z]
    · rw [if_neg (fun q => z ((eq_64 a b).mp q)), if_neg z]
  · simp only [↓reduceIte, if_neg (show ¬ (4 : Nat) = 0 by decide), if_neg (show ¬ (4 : Nat) = 1 by decide), if_pos (show (4 : Nat) = 4 from rfl), if_pos (show (4 : Nat) < 6 by decide)]
    by_cases z : b ≤ a
    · rw [if_pos z, if_pos ((lg_ge _ _).mpr (fun q => (lt_64 a b).mp q z))]
    · rw [if_neg z, if_neg (fun q => (lg_ge _ _).mp q ((lt_64 a b).mpr z))]
  · simp only [↓reduceIte, if_neg (show ¬ (5 : Nat) = 0 by decide), if_neg (show ¬ (5 : Nat) = 1 by decide), if_neg (show ¬ (5 : Nat) = 4 by decide), if_neg (show ¬ (5 : Nat) = 6 by decide), if_pos (show (5 : Nat) = 5 from rfl), if_pos (show (5 : Nat) < 6 by decide)]
    by_cases z : b ≤ a
    · rw [if_pos z, if_neg (fun q => (lt_64 a b).mp ((lg_lt _ _).mp q) z)]; rfl
    · rw [if_neg z, if_pos ((lg_lt _ _).mpr ((lt_64 a b).mpr z))]; rfl
  · simp only [↓reduceIte, if_neg (show ¬ (6 : Nat) = 0 by decide), if_neg (show ¬ (6 : Nat) = 1 by decide), if_neg (show ¬ (6 : Nat) = 4 by decide), if_pos (show (6 : Nat) = 6 from rfl), if_neg (show ¬ (6 : Nat) = 5 by decide), if_neg (show ¬ (6 : Nat) < 6 by decide)]
  · simp only [↓reduceIte, if_neg (show ¬ (7 : Nat) = 0 by decide), if_neg (show ¬ (7 : Nat) = 1 by decide), if_neg (show ¬ (7 : Nat) = 4 by decide), if_neg (show ¬ (7 : Nat) = 6 by decide), if_neg (show ¬ (7 : Nat) = 5 by decide), if_neg (show ¬ (7 : Nat) < 6 by decide)]
    by_cases z : (a.toInt64 &&& 4294967295) < (b.toInt64 &&& 4294967295)
    · rw [if_pos ((lg_lt _ _).mpr z), if_neg (fun q => (lg_ge _ _).mp q z)]; rfl
    · rw [if_neg (fun q => z ((lg_lt _ _).mp q)), if_pos ((lg_ge _ _).mpr z)]; rfl
