-- ===== one step of a run
theorem ff : ¬ false = true := by decide
theorem pc_in {x : Int32} (h1 : ¬ x < 0) (h2 : x ≤ 65532) : x.toNatClampNeg + 4 ≤ 65536 := hp_p4 h1 h2
theorem S_step {u v : S5} (h : Sim u v) (h3 : gI u 3 = 0) : ((f_Ma_fetch u).1 = true ∧ (∃ v1, Sim (f_Ma_fetch u).2 v1) ∧ Sim (f_Ma_perform (f_Ma_fetch u).2) (f_Mo_one v)) ∨ (¬ (f_Ma_fetch u).1 = true ∧ Sim (f_Ma_fetch u).2 (f_Mo_one v)) := by
  have hx := h.X.1
  have bad : ((gI v 1 &&& (3 : Int32)) = 0 → ¬ gI v 1 < 0 → ¬ gI v 1 ≤ 65532) → f_Mo_one v = f_Mo_trap 0 v := by
    intro hb
    unfold f_Mo_one
    by_cases z1 : (gI v 1 &&& (3 : Int32)) = 0
    · rw [if_pos z1]
      by_cases z2 : gI v 1 < 0
      · rw [if_pos z2]
      · rw [if_neg z2, if_neg (hb z1 z2)]
    · rw [if_neg z1]
  unfold f_Ma_fetch
  rw [hx]
  by_cases z1 : gI v 1 < 0
  · right
    rw [if_pos z1, bad (fun _ q => absurd z1 q)]
    exact ⟨ff, S_trap h 0⟩
  rw [if_neg z1]
  by_cases z2 : 65532 < gI v 1
  · right
    rw [if_pos z2, bad (fun _ _ q => absurd z2 (Int32.not_lt.mpr q))]
    exact ⟨ff, S_trap h 0⟩
  rw [if_neg z2]
  by_cases z3 : (gI v 1 &&& (3 : Int32)) = 0
  · left
    rw [if_pos z3]
    have z2' := Int32.not_lt.mp z2
    have hpc := pc_in z1 z2'
    obtain ⟨op, d, f, a, b, g, im, e1⟩ := one_eq z3 z1 z2'
    rw [e1, o_95 v _ op d f a b g im 5 0 (by omega) (by omega) hpc]
    have hop : f_Me_isOpenWord (gI v 1).toNatClampNeg u = true ↔ f_Mo_shut_2 (gI v 1).toNatClampNeg 4 v 5 0 < 0 := by
      rw [M_open h.M hpc, sh_neg _ 4 v hpc 5 0 (by omega) (by omega)]
      exact ⟨fun q c _ c2 => q c c2, fun q i hi => q i (Nat.zero_le _) hi⟩
    have key : ∀ u1 v1 : S5, Sim u1 v1 → gI u1 0 = gI v 1 → gI u1 3 = 0 → aI u1 0 = aI u 0 → (f_Ma_fetch_70 u u1).1 = true ∧ (∃ v1, Sim (f_Ma_fetch_70 u u1).2 v1) ∧ Sim (f_Ma_perform (f_Ma_fetch_70 u u1).2) (oneB v (f_Mo_word (gI v 1).toNatClampNeg v) (f_Mo_word (gI v 1).toNatClampNeg v &&& (127 : Int32)) (f_Wo_d (f_Mo_word (gI v 1).toNatClampNeg v)) (f_Wo_f (f_Mo_word (gI v 1).toNatClampNeg v)) (f_Wo_a (f_Mo_word (gI v 1).toNatClampNeg v)) (f_Wo_b (f_Mo_word (gI v 1).toNatClampNeg v)) (f_Wo_g (f_Mo_word (gI v 1).toNatClampNeg v)) (f_Wo_immediate (f_Mo_word (gI v 1).toNatClampNeg v)) v1) := by
      intro u1 v1 hs q0 q3 qa
      unfold f_Ma_fetch_70
      dsimp only
      have hS := S_next (S_word hs (f_Me_word (gI u1 0).toNatClampNeg u1)) (gI u1 0 + 4)
      refine ⟨rfl, ⟨v1, hS⟩, S_perform hS q3 rfl v ?_⟩
      show f_Me_word (gI u1 0).toNatClampNeg u1 = _
      rw [q0, ← M_word h.M hpc]
      unfold f_Me_word
      rw [qa]
    by_cases y : f_Me_isOpenWord (gI v 1).toNatClampNeg u = true
    · rw [if_pos y, if_pos (hop.mp y)]
      exact key u v h hx h3 rfl
    · rw [if_neg y, if_neg (fun q => y (hop.mpr q)), M_shut h.M hpc]
      have hs := S_note h (w := 1) (by decide) (f_Mo_shut (gI v 1).toNatClampNeg 4 v)
      have f := nt_fr 1 (gI u 0) (f_Mo_shut (gI v 1).toNatClampNeg 4 v) u
      rw [hx] at hs f
      exact key _ _ hs ((f.1 0 (by decide)).trans hx) ((f.1 3 (by decide)).trans h3) (f.2.2.1 0 (by decide))
  · right
    rw [if_neg z3, bad (fun q => absurd q z3)]
    exact ⟨ff, S_trap h 0⟩
theorem S_runl (n : Nat) (nn : Int32) (hn : nn.toNatClampNeg = n) (ux vx : S5) : ∀ (k i : Nat) (u v : S5), Sim u v → (f_Mo_run_27 nn vx k i v).1 = (f_SH_run_20 n ux k i u).1 ∧ Sim (f_SH_run_20 n ux k i u).2 (f_Mo_run_27 nn vx k i v).2
  | 0, i, u, v, h => ⟨rfl, h⟩
  | k + 1, i, u, v, h => by
    unfold f_Mo_run_27 f_SH_run_20
    rw [hn]
    have he := h.X.2.1
    by_cases hi : i < n
    · rw [if_pos hi, if_pos hi]
      by_cases z : gI u 3 = 0
      · rw [if_pos z, if_pos (by rw [← he]; exact z)]
        rcases S_step h z with ⟨s1, _, s2⟩ | ⟨s1, s2⟩
        · rw [if_pos s1]; exact S_runl n nn hn ux vx k (i + 1) _ _ s2
        · rw [if_neg s1]; exact S_runl n nn hn ux vx k (i + 1) _ _ s2
      · rw [if_neg z, if_neg (by rw [← he]; exact z)]
        exact ⟨he.symm, h⟩
    · rw [if_neg hi, if_neg hi]
      exact ⟨he.symm, h⟩
-- ===== what the walks need
theorem S_okr {u v : S5} (h : Sim u v) : OkR u := by
  have e := h.E; have t := h.T
  exact ⟨by rw [e.1]; exact e.2.1, t.2.2.1, by rw [t.1]; exact t.2.1⟩
theorem S_okp {u v : S5} (h : Sim u v) : OkP u := by
  have p := h.P
  exact ⟨by rw [p.1, p.2.1]; exact p.2.2.2.1, by rw [p.1]; exact p.2.2.2.2.1, by rw [p.2.2.1]; exact p.2.2.2.2.2.1⟩
theorem S_okh {u v : S5} (h : Sim u v) : OkH u := by
  have hc := H_cnt h.H
  obtain ⟨hB, hW, hL, hK, hS⟩ := h.H
  refine ⟨hK.2.1, by rw [hK.1]; omega, fun j hj => ?_, fun j hj => ?_, hK.2.2.1, fun j hj hs => ?_⟩
  · by_cases q : aN u 0 j = 0
    · omega
    · have := hW j hj q; omega
  · by_cases q : aN u 2 j = 0
    · omega
    · exact (hB j hj q).1
  · have q := hB j hj hs
    have := un_n (aN u 1 j)
    omega
theorem S_oke {u v : S5} (h : Sim u v) : OkE v ∧ OkK v ∧ OkQ v := by
  have e := h.E; have t := h.T; have p := h.P
  have hc := H_cnt h.H
  obtain ⟨hB, hW, hL, hK, hS⟩ := h.H
  refine ⟨⟨e.2.1, t.2.1⟩, ⟨by omega, by omega, by omega, by omega, fun k hk => ?_, fun k hk => ?_⟩, ⟨p.2.2.2.1, p.2.2.2.2.1, p.2.2.2.2.2.1⟩⟩
  · obtain ⟨b, g1, g2, g3, g4⟩ := hL.1 k hk
    have q := hB b g1 (by omega)
    have := un_n (aN u 1 b)
    rw [g2, g4]
    omega
  · obtain ⟨g2, g3, g4⟩ := hK.2.2.2.1 k hk
    have g1 := hK.2.2.1 ((gN u 6 + k) % 1536) (by omega)
    have q := hB _ g1 (by omega)
    rw [g2, g4]
    omega
-- ===== the start
theorem cntB_z {p : Nat → Bool} : ∀ n, (∀ k, k < n → p k = false) → cntB p n = 0
  | 0, _ => rfl
  | n + 1, h => by
    unfold cntB
    rw [cntB_z n (fun k hk => h k (by omega)), h n (by omega)]; rfl
theorem H_empty {ow sz st ln : Nat → Nat} (h0 : ∀ j, j < 1536 → ow j = 0) (h2 : ∀ j, j < 1536 → st j = 0) (hl : ∀ j, j < 1536 → ln j < 1536) (ad len kt ktl : Nat → Nat) : gB ow sz st ∧ gW ow sz st ∧ gL sz st 0 ad len ∧ gK sz st ln 0 0 0 kt ktl ∧ gS 0 0 0 0 0 len ktl := by
  refine ⟨fun b hb hs => absurd (h2 b hb) hs, fun j hj ho => absurd (h0 j hj) ho, ⟨fun k hk => absurd hk (Nat.not_lt_zero _), fun k l hk => absurd hk (Nat.not_lt_zero _), fun b hb hs => by rw [h2 b hb] at hs; omega, ?_⟩, ⟨rfl, by omega, hl, fun k hk => absurd hk (Nat.not_lt_zero _), fun k l hk => absurd hk (Nat.not_lt_zero _), fun b hb hs => by rw [h2 b hb] at hs; omega, ?_⟩, rfl, rfl, rfl⟩
  · exact (cntB_z _ (fun k hk => by simp [h2 k hk])).symm
  · exact (cntB_z _ (fun k hk => by simp [h2 k hk])).symm
theorem bgO_mid {k : Nat} (h1 : 16384 ≤ k) (h2 : k < 32768) : bgO k = false := by
  unfold bgO; rw [if_neg (by omega), if_pos (by omega)]
theorem S_begin {u v : S5} (h : Sim u v) : Sim (f_SH_begin u) (f_Mo_begin v) := by
  rw [begin_eq]
  have hln := h.H.2.2.2.1.2.2.1
  obtain ⟨h1, h2, h3, h4, h5, h6, h7, h8, h9⟩ := h
  obtain ⟨p1, p2, p3, p4, p5, p6, p7, p8⟩ := h6
  have z0 : ∀ j, j < 1536 → fillN (aN u 0) 0 1536 0 j = 0 := fun j hj => if_pos ⟨Nat.zero_le _, hj⟩
  have z2 : ∀ j, j < 1536 → fillN (aN u 2) 0 1536 0 j = 0 := fun j hj => if_pos ⟨Nat.zero_le _, hj⟩
  refine ⟨cM_begin h2 (aI u 0) (aI v 1) (aB v 0) (aB v 1), h2, cR_begin (aI u 2) (aI u 3) (aI v 2) (aB v 2), ⟨rfl, Nat.zero_le _, rfl, fun k hk => absurd hk (Nat.not_lt_zero _)⟩, ⟨rfl, Nat.zero_le _, by show 0 < 32; omega, fun i hi => absurd hi (Nat.not_lt_zero _)⟩, ⟨p1, rfl, rfl, Nat.zero_le _, p5, Nat.zero_le _, p7, fun k hk => absurd hk (Nat.not_lt_zero _)⟩, ⟨rfl, rfl, rfl, rfl⟩, H_empty z0 z2 hln _ _ _ _, fun k k1 k2 => ?_, fun b hb hs => ?_⟩
  · show rwB (aB v 0) 0 65536 bgO k = false
    rw [rwB_in (Nat.zero_le _) (by omega)]
    exact bgO_mid k1 k2
  · have hs : fillN (aN u 2) 0 1536 0 b = 1 := hs
    rw [z2 b hb] at hs; omega
theorem S_start : Sim uC0 (f_Mo_begin u0) := by
  rw [begin_eq]
  have hI : cI (aI (fI u0 1 0 16384 65536) 1) (aI u0 0) := by
    intro k hk
    refine ⟨?_, fun i hi => b_0 i⟩
    show fillI (aI u0 1) 0 16384 65536 k = (65536 : Int32) ||| 0
    unfold fillI
    rw [if_pos ⟨Nat.zero_le _, hk⟩]; rfl
  refine ⟨cM_begin hI (aI u0 0) (aI u0 1) (aB u0 0) (aB u0 1), hI, cR_begin (aI u0 2) (aI u0 3) (aI u0 2) (aB u0 2), ⟨rfl, Nat.zero_le _, rfl, fun k hk => absurd hk (Nat.not_lt_zero _)⟩, ⟨rfl, Nat.zero_le _, by show 0 < 32; omega, fun i hi => absurd hi (Nat.not_lt_zero _)⟩, ⟨rfl, rfl, rfl, Nat.zero_le _, Nat.zero_le _, Nat.zero_le _, fun k hk => absurd hk (Nat.not_lt_zero _), fun k hk => absurd hk (Nat.not_lt_zero _)⟩, ⟨rfl, rfl, rfl, rfl⟩, H_empty (fun _ _ => rfl) (fun _ _ => rfl) (fun j hj => by show 0 < 1536; omega) _ _ _ _, fun k k1 k2 => ?_, fun b hb hs => ?_⟩
  · show rwB (aB u0 0) 0 65536 bgO k = false
    rw [rwB_in (Nat.zero_le _) (by omega)]
    exact bgO_mid k1 k2
  · exact absurd (show (0 : Nat) = 1 from hs) (by decide)
-- ===== the face
theorem fl_t (q : Int32) (v : S5) : f_Mo_fails true q v = (true, sI v 0 q) := rfl
theorem fl_f (q : Int32) (v : S5) : f_Mo_fails false q v = (false, sI v 0 0) := rfl
theorem S_image (u v : S5) (a : Int32) (w : Int64) (h : Sim u v) : gI (f_Mo_image a w v) 0 = (gC_image a w u).1 ∧ Sim (gC_image a w u).2.2 (f_Mo_image a w v) := by
  have hy : (if a < 0 then true else if 16376 < a then true else if (a - a / (8 : Int32) * (8 : Int32)) = 0 then false else true) = true ↔ (a < 0 ∨ 16376 < a ∨ ¬ (a &&& 7) = 0) := by
    by_cases z1 : a < 0
    · rw [if_pos z1]; exact ⟨fun _ => Or.inl z1, fun _ => rfl⟩
    · rw [if_neg z1]
      by_cases z2 : 16376 < a
      · rw [if_pos z2]; exact ⟨fun _ => Or.inr (Or.inl z2), fun _ => rfl⟩
      · rw [if_neg z2]
        obtain ⟨n, n1, rfl, n2⟩ := nI_upto (M := 16376) (N := 16376) (by decide) z1 (Int32.not_lt.mp z2)
        have e8 : (8 : Int32) = nI 8 := by decide
        have e7 : nI n &&& 7 = nI (n % 8) := pk_and (nI n) 3 (by decide) |>.trans (by
          have : (nI n).toBitVec.toNat = n := by
            show (BitVec.ofNat 32 n).toNat = n
            rw [BitVec.toNat_ofNat]; omega
          rw [this])
        rw [e8, pk_rem (by omega) (by omega) (by omega), e7]
        by_cases z3 : nI (n % 8) = 0
        · rw [if_pos z3]
          constructor
          · intro q; cases q
          · rintro (q | q | q)
            · exact absurd q z1
            · exact absurd q z2
            · exact absurd z3 q
        · rw [if_neg z3]; exact ⟨fun _ => Or.inr (Or.inr z3), fun _ => rfl⟩
  unfold f_Mo_image gC_image
  dsimp only
  generalize hyy : (if a < 0 then true else if 16376 < a then true else if (a - a / (8 : Int32) * (8 : Int32)) = 0 then false else true) = y at hy ⊢
  by_cases z : a < 0 ∨ 16376 < a ∨ ¬ (a &&& 7) = 0
  · have e := hy.mpr z
    subst e
    rw [if_pos z, fl_t, if_pos rfl]
    exact ⟨rfl, h⟩
  · have e : y = false := Bool.eq_false_iff.mpr (fun q => z (hy.mp q))
    subst e
    rw [if_neg z, fl_f, if_neg (show ¬ ((false, sI v 0 0) : Bool × S5).1 = true from (by decide : ¬ false = true)), im_l a w v 9 0 _ (by omega) (by omega)]
    refine ⟨rfl, ?_⟩
    show Sim (f_Me_keepImage a.toNatClampNeg w u) _
    unfold f_Me_keepImage
    rw [ki_l _ w u 9 0 u (by omega) (by omega)]
    obtain ⟨h1, h2, h3, h4, h5, h6, h7, h8, h9⟩ := h
    exact ⟨h1, cI_put h2 a.toNatClampNeg w, h3, h4, h5, h6, h7, h8, h9⟩
theorem yn (p : Prop) (y : Bool) (h : y = true ↔ p) : (p ∧ y = true) ∨ (¬ p ∧ y = false) := by
  by_cases z : p
  · exact Or.inl ⟨z, h.mpr z⟩
  · exact Or.inr ⟨z, Bool.eq_false_iff.mpr (fun q => z (h.mp q))⟩
theorem y_lt (a M : Int32) : (if a < 0 then true else if a < M then false else true) = true ↔ (a < 0 ∨ ¬ a < M) := by
  by_cases z1 : a < 0
  · rw [if_pos z1]; exact ⟨fun _ => Or.inl z1, fun _ => rfl⟩
  · rw [if_neg z1]
    by_cases z2 : a < M
    · rw [if_pos z2]
      constructor
      · intro q; cases q
      · rintro (q | q)
        · exact absurd q z1
        · exact absurd z2 q
    · rw [if_neg z2]; exact ⟨fun _ => Or.inr z2, fun _ => rfl⟩
theorem y_le (a L M : Int32) : (if a < L then true else if a ≤ M then false else true) = true ↔ (a < L ∨ ¬ a ≤ M) := by
  by_cases z1 : a < L
  · rw [if_pos z1]; exact ⟨fun _ => Or.inl z1, fun _ => rfl⟩
  · rw [if_neg z1]
    by_cases z2 : a ≤ M
    · rw [if_pos z2]
      constructor
      · intro q; cases q
      · rintro (q | q)
        · exact absurd q z1
        · exact absurd z2 q
    · rw [if_neg z2]; exact ⟨fun _ => Or.inr z2, fun _ => rfl⟩
theorem le_lt {a M K : Int32} (h : M.toInt + 1 = K.toInt) : a ≤ M ↔ a < K := by
  rw [Int32.le_iff_toInt_le, Int32.lt_iff_toInt_lt]; omega
theorem S_input (u v : S5) (w : Int64) (n : Int32) (h : Sim u v) : gI (f_Mo_input w n v).2 0 = (gC_input w n u).1 ∧ ((gC_input w n u).1 = 0 → nI (f_Mo_input w n v).1 = (gC_input w n u).2.1) ∧ Sim (gC_input w n u).2.2 (f_Mo_input w n v).2 := by
  have hP := h.P
  unfold f_Mo_input gC_input
  dsimp only
  rcases yn _ _ (y_le n 1 8) with ⟨z, e⟩ | ⟨z, e⟩
  · rw [e, if_pos z, fl_t, if_pos rfl]
    exact ⟨rfl, fun q => absurd (show (1 : Int32) = 0 from q) (by decide), h⟩
  · rw [e, if_neg z, fl_f, if_neg (show ¬ ((false, sI v 0 0) : Bool × S5).1 = true from ff)]
    have n0 : ¬ n < 0 := fun q => z (Or.inl (by
      rw [Int32.lt_iff_toInt_lt] at q ⊢
      have z0 : (0 : Int32).toInt = 0 := (by decide)
      have z1 : (1 : Int32).toInt = 1 := (by decide)
      omega))
    obtain ⟨j, j1, rfl, j2⟩ := nI_upto (M := 8) (N := 8) (by decide) n0 (Classical.byContradiction fun q => z (Or.inr q))
    have g2 : gN (sI v 0 0) 2 = gN v 2 := rfl
    rw [g2]
    have e1024 : (1024 : Int32) = nI 1024 := by decide
    have hc : (nI (gN v 2) + nI j ≤ 1024) ↔ ¬ 1024 < gN u 3 + (nI j).toNatClampNeg := by
      rw [nI_add, e1024, nI_leI (by have := hP.2.2.2.2.1; omega) (by omega), nI_clamp j2, hP.1]; omega
    by_cases y : 1024 < gN u 3 + (nI j).toNatClampNeg
    · rw [if_pos y, if_neg (fun q => hc.mp q y), fl_t, if_pos rfl]
      exact ⟨rfl, fun q => absurd (show (2 : Int32) = 0 from q) (by decide), h⟩
    · rw [if_neg y, if_pos (hc.mpr y), fl_f, if_neg (show ¬ ((false, sI (sI v 0 0) 0 0) : Bool × S5).1 = true from ff)]
      dsimp only
      rw [in_l w (nI j) v (gN v 2) ((nI j).toNatClampNeg + 1) 0 (sI (sI v 0 0) 0 0) (by omega) (by omega) rfl]
      dsimp only
      rw [nI_clamp j2] at y ⊢
      unfold f_SH_input f_Po_putIn
      rw [pi_l w j u _ 0 u (by omega) (by omega), hP.1]
      refine ⟨rfl, fun _ => rfl, ?_⟩
      obtain ⟨h1, h2, h3, h4, h5, h6, h7, h8, h9⟩ := h
      obtain ⟨p1, p2, p3, p4, p5, p6, p7, p8⟩ := h6
      refine ⟨h1, h2, h3, h4, h5, ⟨rfl, p2, p3, by show gN v 3 ≤ gN v 2 + j; omega, by show gN v 2 + j ≤ 1024; omega, p6, fun k hk => ?_, p8⟩, h7, h8, h9⟩
      have hk : k < gN v 2 + j := hk
      show rwI (aI u 6) (gN v 2 + 0) (gN v 2 + j) (imF (gN v 2) w) k = rwI (aI v 3) (gN v 2 + 0) (gN v 2 + j) (imF (gN v 2) w) k
      by_cases q : gN v 2 + 0 ≤ k ∧ k < gN v 2 + j
      · rw [rwI_in q.1 q.2, rwI_in q.1 q.2]
      · rw [rwI_out q, rwI_out q]; exact p7 k (by omega)
theorem S_run (u v : S5) (n : Int32) (h : Sim u v) : gI (f_Mo_run n v).2 0 = (gC_run n u).1 ∧ ((gC_run n u).1 = 0 → (f_Mo_run n v).1 = (gC_run n u).2.1) ∧ Sim (gC_run n u).2.2 (f_Mo_run n v).2 := by
  unfold f_Mo_run gC_run
  dsimp only
  rcases yn _ _ (y_le n 0 100000) with ⟨z, e⟩ | ⟨z, e⟩
  · rw [e, if_pos z, fl_t, if_pos rfl]
    exact ⟨rfl, fun q => absurd (show (1 : Int32) = 0 from q) (by decide), h⟩
  · rw [e, if_neg z, fl_f, if_neg (show ¬ ((false, sI v 0 0) : Bool × S5).1 = true from ff)]
    obtain ⟨r1, r2⟩ := S_runl n.toNatClampNeg n rfl u v (n.toNatClampNeg + 1) 0 u (sI v 0 0) h
    have gerr : ∀ (k i : Nat) (w : S5), gI w 0 = 0 → gI (f_Mo_run_27 n v k i w).2 0 = 0 := by
      intro k
      induction k with
      | zero => intro i w hw; exact hw
      | succ k ih =>
        intro i w hw
        unfold f_Mo_run_27
        split
        · split
          · exact ih (i + 1) _ (by rw [one_err]; exact hw)
          · exact hw
        · exact hw
    exact ⟨gerr _ _ _ rfl, fun _ => r1, r2⟩
