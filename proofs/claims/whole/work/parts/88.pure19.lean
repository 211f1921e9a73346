-- ===== calls
def G3 (u u2 : S5) : Prop := gI u2 2 = gI u 2 ∧ gI u2 3 = gI u 3
theorem G3.rf {u : S5} : G3 u u := ⟨rfl, rfl⟩
theorem G3.tr {u v w : S5} (h1 : G3 u v) (h2 : G3 v w) : G3 u w := ⟨h2.1.trans h1.1, h2.2.trans h1.2⟩
theorem G3.of {ci cn ca cb : List Nat} {u v : S5} (h : FrS ci cn ca cb u v) (h2 : 2 ∉ ci) (h3 : 3 ∉ ci) : G3 u v := ⟨h.1 2 h2, h.1 3 h3⟩
theorem G3_put (d : Nat) (a w : Int32) (u : S5) : G3 u (f_Rg_put d a w u) := ⟨gI_put d a w u 2, gI_put d a w u 3⟩
theorem g_58 (u : S5) : ∀ (k j : Nat) (u1 : S5) (x : Nat), gI (f_He_freeOldest_58 u k j u1) x = gI u1 x
  | 0, j, u1, x => rfl
  | k + 1, j, u1, x => by
    unfold f_He_freeOldest_58
    split
    · split
      · rw [g_58 u k (j + 1) _ x]; rfl
      · rfl
    · rfl
theorem g_fo (u : S5) : G3 u (f_He_freeOldest u) := by
  unfold f_He_freeOldest
  exact ⟨by rw [g_58]; rfl, by rw [g_58]; rfl⟩
theorem g_k100 (a : Int32) (u : S5) : ∀ (k left : Nat) (u1 : S5), G3 u1 (f_He_keep_100 a u k left u1).2
  | 0, left, u1 => G3.rf
  | k + 1, left, u1 => by
    unfold f_He_keep_100
    split
    · exact G3.rf
    · split
      · exact G3.rf
      · exact (g_fo u1).tr (g_k100 a u k (left - 1) _)
theorem g_keep (a : Int32) (u : S5) : G3 u (f_He_keep a u).2 := by
  unfold f_He_keep
  split
  · exact G3.tr ⟨rfl, rfl⟩ (g_k100 a u _ _ _)
  · exact G3.rf
theorem g_r17 (old n q : Int32) (u u1 : S5) : G3 u1 (f_Ho_remake_17 old n q u u1).2 := by
  have ht : G3 u1 (f_He_take n u1).2 := G3.of (tk_fr n u1) (by decide) (by decide)
  unfold f_Ho_remake_17
  split
  · exact ht
  · split
    · exact ht.tr (G3.of (mo_fr _ _ _) (by decide) (by decide))
    · exact (ht.tr (G3.of (mo_fr _ _ _) (by decide) (by decide))).tr ((G3.of (mm_fr _ _ _ _) (by decide) (by decide)).tr ((g_keep old _).tr (G3.of (ms_fr _ _ _) (by decide) (by decide))))
theorem g_il (a q : Int32) (u : S5) : G3 u (f_Ho_isLive a q u).2 := by
  unfold f_Ho_isLive
  split
  · exact G3.rf
  · exact G3.of (nt_fr _ _ _ _) (by decide) (by decide)
theorem g_rm (old n q : Int32) (u : S5) : G3 u (f_Ho_remake old n q u).2 := by
  unfold f_Ho_remake
  split
  · exact g_r17 _ _ _ _ _
  · split
    · exact (g_il _ _ _).tr (g_r17 _ _ _ _ _)
    · exact g_il _ _ _
theorem cP_out {inc out : Nat → Int32} {put taken sent puts rd outs : Nat} {pt ot : Nat → Int32} (h : cP inc out put taken sent puts rd outs pt ot) (ho : outs < 4096) (x : Int32) : cP inc (upd out sent x) put taken (sent + 1) puts rd (outs + 1) pt (upd ot outs x) := by
  obtain ⟨h1, h2, h3, h4, h5, h6, h7, h8⟩ := h
  refine ⟨h1, h2, by omega, h4, h5, by omega, h7, fun k hk => ?_⟩
  unfold upd
  by_cases e : k = outs
  · rw [if_pos (by omega), if_pos e]
  · rw [if_neg (by omega), if_neg e]; exact h8 k (by omega)
theorem S_serve {u v : S5} (h : Sim u v) (v0 : S5) (x1 x2 : Bool) (hn : ¬ aI v 2 17 = 1) : Sim (f_Ho_serve (gI u 0) u) (f_Mo_call_113 v0 (aI v 2 17) x1 x2 v) ∧ G3 u (f_Ho_serve (gI u 0) u) := by
  have e17 := (h.R 17 (by omega)).1
  have e10 := (h.R 10 (by omega)).1
  have e11 := (h.R 11 (by omega)).1
  unfold f_Ho_serve f_Mo_call_113
  rw [if_neg hn, e17, e10, e11]
  by_cases c2 : aI v 2 17 = 2
  · rw [if_pos c2, if_pos c2]
    obtain ⟨r1, r2⟩ := S_remake h 0 (aI v 2 10)
    have e : f_Mo_again 0 (aI v 2 10) v = ((f_Mo_block (aI v 2 10) v).1, (f_Mo_block (aI v 2 10) v).2) := by unfold f_Mo_again; rw [if_pos rfl]
    rw [e] at r1 r2
    dsimp only at r1 r2
    rw [← r1]
    exact ⟨S_put r2 _ _ _, (g_rm _ _ _ _).tr (G3_put _ _ _ _)⟩
  · rw [if_neg c2, if_neg c2]
    by_cases c3 : aI v 2 17 = 3
    · rw [if_pos c3, if_pos c3]
      by_cases z : aI v 2 10 = 0
      · rw [if_pos z, if_pos z]; exact ⟨h, G3.rf⟩
      · rw [if_neg z, if_neg z]
        rcases S_isLive h (aI v 2 10) with ⟨l0, l1, l2⟩ | ⟨l0, l1, l2, l3⟩
        · rw [l1, l2]
          dsimp only
          rw [if_pos rfl, if_pos rfl]
          exact ⟨S_back h l0, (g_keep _ u).tr (G3.of (ms_fr _ _ _) (by decide) (by decide))⟩
        · rw [if_neg (by rw [l1]; decide), if_neg (by rw [l2]; decide)]
          exact ⟨l3, g_il _ _ _⟩
    · rw [if_neg c3, if_neg c3]
      by_cases c4 : aI v 2 17 = 4
      · rw [if_pos c4, if_pos c4]
        obtain ⟨r1, r2⟩ := S_remake h (aI v 2 10) (aI v 2 11)
        rw [← r1]
        exact ⟨S_put r2 _ _ _, (g_rm _ _ _ _).tr (G3_put _ _ _ _)⟩
      · rw [if_neg c4, if_neg c4]
        by_cases c5 : aI v 2 17 = 5
        · rw [if_pos c5, if_pos c5]
          unfold f_Po_putOut
          have hP := h.P
          by_cases z : gN v 4 < 4096
          · rw [if_pos z, if_pos (by have := hP.2.2.1; omega)]
            refine ⟨?_, ⟨rfl, rfl⟩⟩
            obtain ⟨h1, h2, h3, h4, h5, h6, h7, h8, h9⟩ := h
            exact ⟨h1, h2, h3, h4, h5, cP_out h6 z _, h7, h8, h9⟩
          · rw [if_neg z, if_neg (by have := hP.2.2.1; omega)]
            exact ⟨h, G3.rf⟩
        · rw [if_neg c5, if_neg c5]
          by_cases c6 : aI v 2 17 = 6
          · rw [if_pos c6, if_pos c6]
            unfold f_Po_takeIn f_Mo_call_336
            have hP := h.P
            by_cases z : gN v 3 < gN v 2
            · rw [if_pos z, if_pos (by have := hP.1; have := hP.2.1; omega)]
              dsimp only
              have hx : aI u 6 (gN u 4 + 1 - 1) = aI v 3 (gN v 3) := by
                rw [show gN u 4 + 1 - 1 = gN v 3 by have := hP.2.1; omega]
                exact hP.2.2.2.2.2.2.1 _ z
              rw [hx]
              refine ⟨S_put ?_ _ _ _, G3.tr ⟨rfl, rfl⟩ (G3_put _ _ _ _)⟩
              obtain ⟨h1, h2, h3, h4, h5, h6, h7, h8, h9⟩ := h
              obtain ⟨p1, p2, p3, p4, p5, p6, p7, p8⟩ := h6
              exact ⟨h1, h2, h3, h4, h5, ⟨p1, by show gN u 4 + 1 = gN v 3 + 1; omega, p3, by show gN v 3 + 1 ≤ gN v 2; omega, p5, p6, p7, p8⟩, h7, h8, h9⟩
            · rw [if_neg z, if_neg (by have := hP.1; have := hP.2.1; omega)]
              exact ⟨S_put h _ _ _, G3_put _ _ _ _⟩
          · rw [if_neg c6, if_neg c6]
            exact ⟨S_put h _ _ _, G3_put _ _ _ _⟩
/-- which register the call complains of -/
theorem S_ung {u v : S5} (h : Sim u v) : ∃ (x1 x2 : Bool) (v1 : S5), f_Mo_call v = f_Mo_call_113 v (aI v 2 17) x1 x2 v1 ∧ aI v1 2 = aI v 2 ∧ Sim (if f_Ho_ungivenRegister u = 0 then u else f_Rp_note 5 (gI u 0) (f_Ho_ungivenRegister u) u) v1 := by
  have e17 := (h.R 17 (by omega)).1
  have d17 := R_ad h.R (r := 17) (by omega)
  have d11 := R_ad h.R (r := 11) (by omega)
  have ft : ∀ x, aI (f_Mo_fault 5 x v) 2 = aI v 2 := fun x => (ft_fr 5 x v).2.2.1 2 (by decide)
  have nt : ∀ x, ¬ x = 0 → f_Ho_ungivenRegister u = x → Sim (if f_Ho_ungivenRegister u = 0 then u else f_Rp_note 5 (gI u 0) (f_Ho_ungivenRegister u) u) (f_Mo_fault 5 x v) := fun x hx e => by
    rw [e, if_neg hx]; exact S_note h (by decide) x
  have ok : f_Ho_ungivenRegister u = 0 → Sim (if f_Ho_ungivenRegister u = 0 then u else f_Rp_note 5 (gI u 0) (f_Ho_ungivenRegister u) u) v := fun e => by
    rw [if_pos e]; exact h
  unfold f_Mo_call
  dsimp only
  refine ⟨if aI v 2 17 < 1 then false else if 5 < aI v 2 17 then false else true, if aI v 2 17 = 4 then true else false, ?_⟩
  have hU : f_Ho_ungivenRegister u = if (aI u 3 17) = 0 then (if (aI v 2 17) < 1 then 0 else if (aI v 2 17) ≤ 5 then (let x4 : Int32 := if (aI v 2 17) = 5 then 255 else (-1); if ((aI u 3 10) &&& x4) = 0 then (if (aI v 2 17) = 4 then (if (aI u 3 11) = 0 then 0 else 11) else 0) else 10) else 0) else 17 := by
    unfold f_Ho_ungivenRegister; rw [e17]
  by_cases z17 : aI u 3 17 = 0
  · rw [if_neg (fun q => d17.mp q z17)]
    rw [if_pos z17] at hU
    -- behind the first register
    have h91 : ∀ r : Int32, f_Ho_ungivenRegister u = r → (r = if (aI v 2 17) = 4 then (if (aI u 3 11) = 0 then 0 else 11) else 0) → ∃ v1, f_Mo_call_91 v (aI v 2 17) (if aI v 2 17 < 1 then false else if 5 < aI v 2 17 then false else true) (if aI v 2 17 = 4 then true else false) = f_Mo_call_113 v (aI v 2 17) (if aI v 2 17 < 1 then false else if 5 < aI v 2 17 then false else true) (if aI v 2 17 = 4 then true else false) v1 ∧ aI v1 2 = aI v 2 ∧ Sim (if f_Ho_ungivenRegister u = 0 then u else f_Rp_note 5 (gI u 0) (f_Ho_ungivenRegister u) u) v1 := by
      intro r hr er
      unfold f_Mo_call_91
      by_cases n4 : aI v 2 17 = 4
      · rw [if_pos n4] at er
        rw [if_pos n4, if_pos rfl]
        by_cases y : aI u 3 11 = 0
        · rw [if_pos y] at er
          rw [if_neg (fun q => d11.mp q y)]
          exact ⟨v, rfl, rfl, ok (by rw [hr, er])⟩
        · rw [if_neg y] at er
          rw [if_pos (d11.mpr y)]
          exact ⟨f_Mo_fault 5 11 v, rfl, ft 11, nt 11 (by decide) (by rw [hr, er])⟩
      · rw [if_neg n4] at er
        rw [if_neg n4, if_neg (by decide)]
        exact ⟨v, rfl, rfl, ok (by rw [hr, er])⟩
    by_cases n1 : aI v 2 17 < 1
    · rw [if_pos n1] at hU
      have n4 : ¬ aI v 2 17 = 4 := fun q => by rw [q] at n1; exact absurd n1 (by decide)
      have := h91 0 hU (by rw [if_neg n4])
      rw [if_pos n1] at this ⊢
      rw [if_neg (by decide)]
      exact this
    · rw [if_neg n1] at hU
      by_cases n5 : aI v 2 17 ≤ 5
      · rw [if_pos n5] at hU
        have n5' : ¬ 5 < aI v 2 17 := Int32.not_lt.mpr n5
        have hd : f_Mo_anyDark 10 (if aI v 2 17 = 5 then 8 else 32) v = true ↔ ¬ (aI u 3 10 &&& (if aI v 2 17 = 5 then (255 : Int32) else (-1))) = 0 := by
          by_cases y : aI v 2 17 = 5
          · rw [if_pos y, if_pos y]; exact R_ad8 h.R (by omega)
          · rw [if_neg y, if_neg y, b_and_m1]; exact R_ad h.R (by omega)
        dsimp only at hU
        have := h91
        rw [if_neg n1, if_neg n5'] at this ⊢
        rw [if_pos rfl]
        by_cases y : (aI u 3 10 &&& (if aI v 2 17 = 5 then (255 : Int32) else (-1))) = 0
        · rw [if_pos y] at hU
          rw [if_neg (fun q => hd.mp q y)]
          exact this _ hU rfl
        · rw [if_neg y] at hU
          rw [if_pos (hd.mpr y)]
          exact ⟨f_Mo_fault 5 10 v, rfl, ft 10, nt 10 (by decide) hU⟩
      · rw [if_neg n5] at hU
        have n5' : 5 < aI v 2 17 := Int32.not_le.mp n5
        have n4 : ¬ aI v 2 17 = 4 := fun q => by rw [q] at n5'; exact absurd n5' (by decide)
        have := h91 0 hU (by rw [if_neg n4])
        rw [if_neg n1, if_pos n5'] at this ⊢
        rw [if_neg (by decide)]
        exact this
  · rw [if_pos (d17.mpr z17)]
    rw [if_neg z17] at hU
    exact ⟨f_Mo_fault 5 17 v, rfl, ft 17, nt 17 (by decide) hU⟩
theorem t20_fr (q : Int32) (u : S5) : ∀ (k j : Nat) (u1 : S5), FrS [6] [0] [4] [] u1 (f_Ho_tellLost_20 q u k j u1)
  | 0, j, u1 => FrS.rf
  | k + 1, j, u1 => by
    unfold f_Ho_tellLost_20
    split
    · split
      · exact t20_fr q u k (j + 1) u1
      · exact FrS.tr (nl_fr q _ u1) (t20_fr q u k (j + 1) _)
    · exact FrS.rf
theorem tl_fr9 (q : Int32) (u : S5) : FrS [6] [0, 8] [4] [4, 5] u (f_Ho_tellLost q u) := by
  unfold f_Ho_tellLost
  split
  · exact FrS.rf
  · exact FrS.tr ((fb_fr u).wk (by decide) (by decide) (by decide) (by decide)) ((t20_fr q u _ _ _).wk (by decide) (by decide) (by decide) (by decide))
theorem l78_fr (vx : S5) : ∀ (k : Nat) (la : Int32) (w : S5), FrM [5] [6] [6, 7, 8, 9] [] [] w (f_Mo_lost_78 vx k la w)
  | 0, la, w => FrM.rf
  | k + 1, la, w => by
    unfold f_Mo_lost_78
    dsimp only
    split
    · exact FrM.tr (ft_fr 8 _ w) (l78_fr vx k _ _)
    · exact FrM.rf
/-- a call: the run goes on, or has ended -/
theorem S_call {u v : S5} (h : Sim u v) (h3 : gI u 3 = 0) : (gI (f_Mo_call v) 2 = 1 ∧ Sim (f_Ma_callOrBreak 115 u) (f_Mo_call v) ∧ gI (f_Ma_callOrBreak 115 u) 3 = 1 ∧ gI (f_Ma_callOrBreak 115 u) 2 = gI (f_Ma_callOrBreak 115 u) 0) ∨ (¬ gI (f_Mo_call v) 2 = 1 ∧ Sim (f_Ma_callOrBreak 115 u) (f_Mo_call v) ∧ gI (f_Ma_callOrBreak 115 u) 3 = 0 ∧ gI (f_Ma_callOrBreak 115 u) 2 = gI u 2) := by
  obtain ⟨x1, x2, v1, c1, c2, c3⟩ := S_ung h
  have e1 : f_Ma_callOrBreak 115 u = f_Ma_callOrBreak_47 115 u (if f_Ho_ungivenRegister u = 0 then u else f_Rp_note 5 (gI u 0) (f_Ho_ungivenRegister u) u) := by
    unfold f_Ma_callOrBreak
    rw [if_pos rfl]
    by_cases z : f_Ho_ungivenRegister u = 0
    · rw [if_pos z, if_pos z]
    · rw [if_neg z, if_neg z]
  have hg : G3 u (if f_Ho_ungivenRegister u = 0 then u else f_Rp_note 5 (gI u 0) (f_Ho_ungivenRegister u) u) := by
    by_cases z : f_Ho_ungivenRegister u = 0
    · rw [if_pos z]; exact G3.rf
    · rw [if_neg z]; exact G3.of (nt_fr _ _ _ _) (by decide) (by decide)
  rw [e1, c1, ← c2]
  generalize (if f_Ho_ungivenRegister u = 0 then u else f_Rp_note 5 (gI u 0) (f_Ho_ungivenRegister u) u) = u1 at c3 hg ⊢
  have e17 := (c3.R 17 (by omega)).1
  unfold f_Ma_callOrBreak_47
  rw [e17]
  by_cases n1 : aI v1 2 17 = 1
  · left
    rw [if_pos n1]
    have e113 : f_Mo_call_113 v (aI v1 2 17) x1 x2 v1 = f_Mo_lost (sI (sI v1 2 1) 3 (aI v1 2 10)) := by
      unfold f_Mo_call_113; rw [if_pos n1]
    rw [e113]
    have hS := S_exit c3 1 (aI v1 2 10)
    have fu := tl_fr9 (gI u1 0) u1
    have hw : Sim (sI (sI u1 3 1) 4 (aI v1 2 10)) (sI (sI v1 2 1) 3 (aI v1 2 10)) := by
      obtain ⟨h1, h2, h3, h4, h5, h6, h7, h8, h9⟩ := c3
      exact ⟨h1, h2, h3, h4, h5, h6, ⟨h7.1, rfl, rfl, h7.2.2.2⟩, h8, h9⟩
    obtain ⟨v5, a1, a2, _⟩ := found_ref hw
    have fl : FrM [5] [6] [6, 7, 8, 9] [] [3] (sI (sI v1 2 1) 3 (aI v1 2 10)) (f_Mo_lost (sI (sI v1 2 1) 3 (aI v1 2 10))) := by
      unfold f_Mo_lost
      dsimp only
      rw [a1]
      exact FrM.tr (a2.wk (by decide) (by decide) (by decide) (by decide) (by decide)) ((l78_fr _ _ _ _).wk (by decide) (by decide) (by decide) (by decide) (by decide))
    have g2 : gI (f_Mo_lost (sI (sI v1 2 1) 3 (aI v1 2 10))) 2 = 1 := fl.1 2 (by decide)
    have g3 : gI (f_Mo_lost (sI (sI v1 2 1) 3 (aI v1 2 10))) 3 = aI v1 2 10 := fl.1 3 (by decide)
    have ea : aI (f_Ho_tellLost (gI u1 0) u1) 2 10 = aI v1 2 10 := by rw [fu.2.2.1 2 (by decide)]; exact (c3.R 10 (by omega)).1
    refine ⟨g2, ?_, rfl, rfl⟩
    obtain ⟨h1, h2, h3, h4, h5, h6, h7, h8, h9⟩ := hS
    exact ⟨h1, h2, h3, h4, h5, h6, ⟨h7.1, g2.symm, by show aI (f_Ho_tellLost (gI u1 0) u1) 2 10 = _; rw [ea, g3], h7.2⟩, h8, h9⟩
  · right
    rw [if_neg n1]
    obtain ⟨s1, s2⟩ := S_serve c3 v x1 x2 n1
    have z3 : gI (f_Ho_serve (gI u1 0) u1) 3 = 0 := by rw [s2.2, hg.2]; exact h3
    refine ⟨fun q => ?_, s1, z3, by rw [s2.1, hg.1]⟩
    have := s1.X.2.1
    rw [z3, q] at this
    exact absurd this (by decide)
