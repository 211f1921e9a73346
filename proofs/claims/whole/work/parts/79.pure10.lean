-- ===== THE RELATION OF THE TWO STATES
def cX (u v : S5) : Prop := gI u 0 = gI v 1 ∧ gI u 3 = gI v 2 ∧ gI u 4 = gI v 3 ∧ gI u 5 = gI v 4
def cO (u v : S5) : Prop := (∀ k, 16384 ≤ k → k < 32768 → aB v 0 k = false) ∧ ∀ b, b < 1536 → aN u 2 b = 1 → ∀ i, i < aN u 1 b → aB v 0 (32768 + b * 16 + i) = true
def Sim (u v : S5) : Prop := cM (aI u 0) (aI v 1) (aB v 0) (aB v 1) ∧ cI (aI u 1) (aI v 0) ∧ cR (aI u 2) (aI u 3) (aI v 2) (aB v 2) ∧ cE (aI u 4) (gN u 0) (gI u 6) (gN v 6) (gI v 5) (aI v 6) (aI v 7) (aI v 8) (aI v 9) ∧ cT (aI u 5) (gN u 1) (gN u 2) (gN v 5) (aI v 5) ∧ cP (aI u 6) (aI u 7) (gN u 3) (gN u 4) (gN u 5) (gN v 2) (gN v 3) (gN v 4) (aI v 3) (aI v 4) ∧ cX u v ∧ cH u v ∧ cO u v
theorem Sim.M {u v : S5} (h : Sim u v) : cM (aI u 0) (aI v 1) (aB v 0) (aB v 1) := h.1
theorem Sim.R {u v : S5} (h : Sim u v) : cR (aI u 2) (aI u 3) (aI v 2) (aB v 2) := h.2.2.1
theorem Sim.E {u v : S5} (h : Sim u v) : cE (aI u 4) (gN u 0) (gI u 6) (gN v 6) (gI v 5) (aI v 6) (aI v 7) (aI v 8) (aI v 9) := h.2.2.2.1
theorem Sim.T {u v : S5} (h : Sim u v) : cT (aI u 5) (gN u 1) (gN u 2) (gN v 5) (aI v 5) := h.2.2.2.2.1
theorem Sim.P {u v : S5} (h : Sim u v) : cP (aI u 6) (aI u 7) (gN u 3) (gN u 4) (gN u 5) (gN v 2) (gN v 3) (gN v 4) (aI v 3) (aI v 4) := h.2.2.2.2.2.1
theorem Sim.X {u v : S5} (h : Sim u v) : cX u v := h.2.2.2.2.2.2.1
theorem Sim.H {u v : S5} (h : Sim u v) : cH u v := h.2.2.2.2.2.2.2.1
theorem Sim.O {u v : S5} (h : Sim u v) : cO u v := h.2.2.2.2.2.2.2.2
theorem Sim_fr {u v u2 v2 : S5} (h : Sim u v) (f : FrS [7, 8, 9] [6, 7] [0] [0, 1, 2, 3] u u2) (g : FrM [] [0, 1] [1] [0, 1, 2, 3] [0, 1] v v2) (hM : cM (aI u2 0) (aI v2 1) (aB v2 0) (aB v2 1)) (hH : cH u2 v2) (hO : cO u2 v2) : Sim u2 v2 := by
  obtain ⟨-, h2, h3, h4, h5, h6, h7, -, -⟩ := h
  obtain ⟨f1, f2, f3, f4, f5⟩ := f
  obtain ⟨g1, g2, g3, g4, g5⟩ := g
  refine ⟨hM, ?_, ?_, ?_, ?_, ?_, ?_, hH, hO⟩
  · rw [f3 1 (by decide), g3 0 (by decide)]; exact h2
  · rw [f3 2 (by decide), f3 3 (by decide), g3 2 (by decide), g5 2 (by decide)]; exact h3
  · rw [f3 4 (by decide), f2 0 (by decide), f1 6 (by decide), g2 6 (by decide), g1 5 (by decide), g3 6 (by decide), g3 7 (by decide), g3 8 (by decide), g3 9 (by decide)]; exact h4
  · rw [f3 5 (by decide), f2 1 (by decide), f2 2 (by decide), g2 5 (by decide), g3 5 (by decide)]; exact h5
  · rw [f3 6 (by decide), f3 7 (by decide), f2 3 (by decide), f2 4 (by decide), f2 5 (by decide), g2 2 (by decide), g2 3 (by decide), g2 4 (by decide), g3 3 (by decide), g3 4 (by decide)]; exact h6
  · unfold cX
    rw [f1 0 (by decide), f1 3 (by decide), f1 4 (by decide), f1 5 (by decide), g1 1 (by decide), g1 2 (by decide), g1 3 (by decide), g1 4 (by decide)]; exact h7
-- ===== small steps
theorem S_err {u v : S5} (h : Sim u v) (k : Int32) : Sim u (sI v 0 k) := h
theorem S_word {u v : S5} (h : Sim u v) (x : Int32) : Sim (sI u 1 x) v := h
theorem S_next {u v : S5} (h : Sim u v) (x : Int32) : Sim (sI u 2 x) v := h
theorem S_trap {u v : S5} (h : Sim u v) (q : Int32) : Sim (f_Ma_trap q u) (f_Mo_trap q v) := by
  obtain ⟨h1, h2, h3, h4, h5, h6, h7, h8, h9⟩ := h
  exact ⟨h1, h2, h3, h4, h5, h6, ⟨h7.1, rfl, rfl, h7.2.2.2⟩, h8, h9⟩
theorem S_put {u v : S5} (h : Sim u v) (d : Nat) (a w : Int32) : Sim (f_Rg_put d a w u) (f_Mo_give d a w v) := by
  rw [give_eq]
  unfold f_Rg_put
  by_cases e : d = 0
  · rw [if_pos e, if_pos e]; exact h
  · rw [if_neg e, if_neg e]
    obtain ⟨h1, h2, h3, h4, h5, h6, h7, h8, h9⟩ := h
    exact ⟨h1, h2, cR_put h3 d a w, h4, h5, h6, h7, h8, h9⟩
theorem S_all {u v : S5} (h : Sim u v) : Sim (sI u 6 (gI u 6 + 1)) (sI v 5 (gI v 5 + 1)) := by
  obtain ⟨h1, h2, h3, h4, h5, h6, h7, h8, h9⟩ := h
  exact ⟨h1, h2, h3, cE_all h4, h5, h6, h7, h8, h9⟩
theorem S_tell {u v : S5} (h : Sim u v) (h60 : gN v 6 < 60) (w x : Int32) : Sim (f_Rp_tell w (gI u 0) x (sI u 6 (gI u 6 + 1))) (f_Mo_fault_101 w x v 5 0 (uI (uI (uI (sI v 5 ((gI v 5) + (1 : Int32))) 6 (gN v 6) w) 7 (gN v 6) (gI v 1)) 8 (gN v 6) x)) := by
  rw [tell_eq, f101_eq]
  have e := re_e h.T
  obtain ⟨h1, h2, h3, h4, h5, h6, h7, h8, h9⟩ := h
  have hE := cE_tell h4 h60 w (gI u 0) x (reX (aI u 5) (gN u 1) (gN u 2) 0) (reX (aI u 5) (gN u 1) (gN u 2) 1) (reX (aI u 5) (gN u 1) (gN u 2) 2) (reX (aI u 5) (gN u 1) (gN u 2) 3)
  rw [← e 0, ← e 1, ← e 2, ← e 3, ← h7.1]
  exact ⟨h1, h2, h3, hE, h5, h6, h7, h8, h9⟩
theorem S_note {u v : S5} (h : Sim u v) {w : Int32} (hw : ¬ w = 8) (x : Int32) : Sim (f_Rp_note w (gI u 0) x u) (f_Mo_fault w x v) := by
  unfold f_Rp_note f_Mo_fault
  rw [if_neg hw]
  have hE := h.E
  have hx : (∃ i, 0 ≤ i ∧ i < gN v 6 ∧ aI v 6 i = w ∧ aI v 7 i = gI v 1) ↔ f_Rp_wasTold w (gI u 0) (sI u 6 (gI u 6 + 1)) = true := by
    unfold f_Rp_wasTold
    rw [wt_l w (gI u 0) (sI u 6 (gI u 6 + 1)) _ _ (by omega)]
    show _ ↔ ∃ i, 0 ≤ i ∧ i < gN u 0 ∧ aI u 4 (i * 7) = w ∧ aI u 4 (i * 7 + 1) = gI u 0
    rw [hE.1, h.X.1]
    constructor
    · rintro ⟨i, z0, z1, z2, z3⟩
      obtain ⟨g1, g2, _⟩ := hE.2.2.2 i z1
      exact ⟨i, z0, z1, by rw [g1]; exact z2, by rw [g2]; exact z3⟩
    · rintro ⟨i, z0, z1, z2, z3⟩
      obtain ⟨g1, g2, _⟩ := hE.2.2.2 i z1
      exact ⟨i, z0, z1, by rw [← g1]; exact z2, by rw [← g2]; exact z3⟩
  by_cases z : ∃ i, 0 ≤ i ∧ i < gN v 6 ∧ aI v 6 i = w ∧ aI v 7 i = gI v 1
  · rw [ft_y w x v _ _ (by omega) z, if_pos (hx.mp z)]
    by_cases z2 : gN u 0 < 60
    · rw [if_pos z2]; exact S_all h
    · rw [if_neg z2]; exact S_all h
  · rw [ft_n w x v _ _ (by omega) z (Nat.zero_le _), if_neg (fun q => z (hx.mpr q))]
    unfold f_Mo_fault_56
    have := hE.1
    have := hE.2.1
    by_cases z2 : gN u 0 < 60
    · rw [if_pos z2, if_neg (by omega)]; exact S_tell h (by omega) w x
    · rw [if_neg z2, if_pos (by omega)]; exact S_all h
theorem S_lost {u v : S5} (h : Sim u v) (x : Int32) : Sim (f_Rp_noteLost (gI u 0) x u) (f_Mo_fault 8 x v) := by
  unfold f_Rp_noteLost f_Mo_fault f_Mo_fault_56
  rw [if_pos rfl]
  have := h.E.1
  have := h.E.2.1
  by_cases z2 : gN u 0 < 60
  · rw [if_pos z2, if_neg (by omega)]; exact S_tell h (by omega) 8 x
  · rw [if_neg z2, if_pos (by omega)]; exact S_all h
theorem S_push {u v : S5} (h : Sim u v) : Sim (f_Rp_pushReturn (gI u 0 + 4) u) (f_Mo_push v) := by
  rw [push_eq, h.X.1]
  unfold f_Rp_pushReturn
  have hT := h.T
  obtain ⟨h1, h2, h3, h4, h5, h6, h7, h8, h9⟩ := h
  by_cases z : gN v 5 = 32
  · rw [if_neg (by have := hT.1; omega), if_pos z]
    have := cT_push32 hT z (gI v 1 + 4)
    exact ⟨h1, h2, h3, h4, this, h6, h7, h8, h9⟩
  · rw [if_pos (by have := hT.1; have := hT.2.1; omega), if_neg z]
    have := cT_push hT (by have := hT.2.1; omega) (gI v 1 + 4)
    exact ⟨h1, h2, h3, h4, this, h6, h7, h8, h9⟩
theorem S_pop {u v : S5} (h : Sim u v) : Sim (f_Rp_popReturn u) (if gN v 5 = 0 then v else sN v 5 (gN v 5 - 1)) := by
  unfold f_Rp_popReturn
  have hT := h.T
  by_cases z : gN v 5 = 0
  · rw [if_pos z, if_pos (by have := hT.1; omega)]; exact h
  · rw [if_neg z, if_neg (by have := hT.1; omega)]
    obtain ⟨h1, h2, h3, h4, h5, h6, h7, h8, h9⟩ := h
    exact ⟨h1, h2, h3, h4, cT_pop h5 z, h6, h7, h8, h9⟩
-- ===== blocks
theorem gB_apart {ow sz st : Nat → Nat} (h : gB ow sz st) {b c : Nat} (hb : b < 1536) (hc : c < 1536) (sb : ¬ st b = 0) (sc : ¬ st c = 0) (hne : ¬ b = c) : b + un (sz b) ≤ c ∨ c + un (sz c) ≤ b := by
  obtain ⟨_, _, _, _, g1, _⟩ := h b hb sb
  obtain ⟨_, _, _, _, g2, _⟩ := h c hc sc
  have u1 := un_1 (sz b)
  have u2 := un_1 (sz c)
  rcases Nat.lt_or_ge b c with q | q
  · left
    refine Nat.le_of_not_lt fun z => ?_
    have a1 := g1 c (by omega) z
    have a2 := g2 c (Nat.le_refl _) (by omega)
    omega
  · right
    refine Nat.le_of_not_lt fun z => ?_
    have a1 := g2 b (by omega) z
    have a2 := g1 b (Nat.le_refl _) (by omega)
    omega
/-- a block is made on both sides alike -/
theorem S_make {u v : S5} (h : Sim u v) (n : Int32) : ((f_He_take n u).1 = 0 ∧ (f_He_take n u).2 = u ∧ f_Mo_block n v = (0, v)) ∨ ∃ F, 1 ≤ F ∧ F < 1536 ∧ aN u 2 F = 0 ∧ (f_He_take n u).1 = 32768 + F * 16 ∧ (f_Mo_block n v).1 = 32768 + F * 16 ∧ Sim (f_Me_handOut (f_He_take n u).1 n.toNatClampNeg (f_He_take n u).2) (f_Mo_block n v).2 ∧ (∀ c, aN (f_He_take n u).2 1 c = if c = F then n.toNatClampNeg else aN u 1 c) ∧ ∀ c, aN (f_He_take n u).2 2 c = if c = F then 1 else aN u 2 c := by
  unfold f_He_take f_Mo_block
  by_cases n0 : n < 0
  · rw [if_pos n0, if_pos n0]; exact Or.inl ⟨rfl, rfl, rfl⟩
  · rw [if_neg n0, if_neg n0]
    by_cases n1 : n ≤ 16384
    · rw [if_pos n1, if_pos n1]
      dsimp only
      have hN : n.toNatClampNeg ≤ 16384 := hp_nle (M := 16384) (by decide) (by decide) n0 n1
      rw [show (if n.toNatClampNeg = 0 then 1 else (n.toNatClampNeg + 16 - 1) / 16) = un n.toNatClampNeg from rfl]
      obtain ⟨s1, s2⟩ := findRoom_spec (un n.toNatClampNeg) u
      by_cases z : f_He_findRoom (un n.toNatClampNeg) u = 0
      · rw [if_pos z]
        exact Or.inl ⟨rfl, rfl, blk_n h.H n _ rfl (s2 z) 1538 0⟩
      · rw [if_neg z]
        obtain ⟨a1, a2, a3, a4⟩ := s1 z
        generalize f_He_findRoom (un n.toNatClampNeg) u = F at a1 a2 a3 a4 ⊢
        right
        have hblk := blk_y h.H n _ F rfl a1 a2 a3 a4 1538 0 (by omega) (Nat.zero_le _)
        rw [show 32768 + 0 * 16 = 32768 from rfl] at hblk
        have u1 := un_1 n.toNatClampNeg
        have u2 := un_n n.toNatClampNeg
        have hF0 : aN u 2 F = 0 := Classical.byContradiction fun q => by
          obtain ⟨_, _, _, _, g, _⟩ := h.H.1 F (by omega) q
          have := g F (Nat.le_refl _) (by have := un_1 (aN u 1 F); omega)
          have := a3 F (by omega) (by omega)
          omega
        have hH := H_take h.H hN rfl a1 a2 a3
        refine ⟨F, a1, by omega, hF0, rfl, ?_, ?_, fun c => rfl, fun c => rfl⟩
        · rw [hblk, bk_l2 n v _ _ _ _ (by omega) (by omega)]
        · rw [hblk, bk_l2 n v _ _ _ _ (by omega) (by omega), hand_eq]
          have hO := h.O
          obtain ⟨h1, h2, h3, h4, h5, h6, h7, h8, h9⟩ := h
          have hMn := cM_hand h1 (32768 + F * 16) (32768 + F * 16 + n.toNatClampNeg)
          refine ⟨hMn, h2, h3, h4, h5, h6, h7, hH, ?_, ?_⟩
          · intro k k1 k2
            show rwB (aB v 0) (32768 + F * 16) (32768 + F * 16 + n.toNatClampNeg) (fun _ => true) k = false
            rw [rwB_out (by omega)]; exact hO.1 k k1 k2
          · intro c hc hs i hi
            show rwB (aB v 0) (32768 + F * 16) (32768 + F * 16 + n.toNatClampNeg) (fun _ => true) (32768 + c * 16 + i) = true
            by_cases q : 32768 + F * 16 ≤ 32768 + c * 16 + i ∧ 32768 + c * 16 + i < 32768 + F * 16 + n.toNatClampNeg
            · rw [rwB_in q.1 q.2]
            · rw [rwB_out q]
              have hs : va_up (aN u 2) F 1 c = 1 := hs
              have hi : i < va_up (aN u 1) F n.toNatClampNeg c := hi
              by_cases e : c = F
              · rw [e, vu_e] at hi; subst e; omega
              · rw [vu_n e] at hs hi
                exact hO.2 c hc hs i hi
    · rw [if_neg n1, if_neg n1]; exact Or.inl ⟨rfl, rfl, rfl⟩
/-- a live block is given back on both sides alike -/
theorem S_back {u v : S5} (h : Sim u v) {a : Int32} (ha : f_He_stateAt a u = 1) : Sim (f_Me_shut a.toNatClampNeg (f_He_keep a u).1 (f_He_keep a u).2) (f_Mo_back a.toNatClampNeg v) := by
  obtain ⟨i1, i2, i3, i4⟩ := st_in (u := u) (a := a) (by omega)
  have hb := hp_b i1 i2
  have hae := hu_e i1 i2 i4
  have han : nI a.toNatClampNeg = a := (hp_n (hp_ge i1)).symm
  rw [i3] at ha
  obtain ⟨kx, k1, k2, k3, _⟩ := find_y h.H (a := a) (by rw [i3]; exact ha)
  have hcnt := H_cnt h.H
  have hkx : (f_Mo_find (nI a.toNatClampNeg) v).toNatClampNeg = kx := by rw [han, k3, nI_clamp (by omega)]
  have hadk : aN v 0 kx = 32768 + hu a * 16 := by
    obtain ⟨c, g1, g2, g3, g4⟩ := h.H.2.2.1.1 kx k1
    rw [g2, ← han, hae] at k2
    have := (nI_eq (by omega) (by omega)).mp k2
    omega
  have hlen : aN v 1 kx = aN u 1 (hu a) := by
    obtain ⟨c, g1, g2, g3, g4⟩ := h.H.2.2.1.1 kx k1
    have : c = hu a := by omega
    rw [g4, this]
  have hK := H_keep h.H hb k1 hadk ha
  have hk1 : (f_He_keep a u).1 = aN u 1 (hu a) := by
    unfold f_He_keep
    rw [if_pos (by rw [i3]; exact ha), kp_loop a u _ _ _ (by omega)]
    rfl
  rw [hk1]
  have e1 : f_He_keep a u = f_He_keep_100 a u (gN u 7 + 1 + 1) (gN u 7 + 1) (sI (sN (uN (sI (sI (uN u 2 (hu a) 2) 8 ((gI u 8) - (1 : Int32))) 9 ((gI u 9) - (nI (aN u 1 (hu a))))) 3 ((gN u 6 + (gN u 7)) % 1536) (hu a)) 7 (gN u 7 + 1)) 7 ((gI u 7) + (nI (aN u 1 (hu a))))) := by
    unfold f_He_keep
    rw [if_pos (by rw [i3]; exact ha)]
  have e2 : f_Mo_back a.toNatClampNeg v = f_Mo_back_135 a.toNatClampNeg v kx (gN v 1 + 2) (uN (sN (uN (uN (uN (sN (opn v (rwB (aB v 0) a.toNatClampNeg (a.toNatClampNeg + aN v 1 kx) (fun _ => false)) (rwB (aB v 1) (8 * a.toNatClampNeg) (8 * (a.toNatClampNeg + aN v 1 kx)) (fun _ => false))) 0 (gN v 0 - 1)) 0 kx (aN v 0 (gN v 0 - 1))) 1 kx (aN v 1 (gN v 0 - 1))) 2 (gN v 1) a.toNatClampNeg) 1 (gN v 1 + 1)) 3 (gN v 1) (aN v 1 kx)) := by
    unfold f_Mo_back
    dsimp only
    rw [hkx, bc_l2 a.toNatClampNeg v kx _ _ _ (by omega) (by omega)]
    rfl
  rw [e1, e2]
  have kp := h.H.2.2.2.1.1
  have hat : a.toNatClampNeg = 32768 + hu a * 16 := hae
  have hH1 : cH (sI (sN (uN (sI (sI (uN u 2 (hu a) 2) 8 ((gI u 8) - (1 : Int32))) 9 ((gI u 9) - (nI (aN u 1 (hu a))))) 3 ((gN u 6 + (gN u 7)) % 1536) (hu a)) 7 (gN u 7 + 1)) 7 ((gI u 7) + (nI (aN u 1 (hu a))))) (uN (sN (uN (uN (uN (sN (opn v (rwB (aB v 0) a.toNatClampNeg (a.toNatClampNeg + aN v 1 kx) (fun _ => false)) (rwB (aB v 1) (8 * a.toNatClampNeg) (8 * (a.toNatClampNeg + aN v 1 kx)) (fun _ => false))) 0 (gN v 0 - 1)) 0 kx (aN v 0 (gN v 0 - 1))) 1 kx (aN v 1 (gN v 0 - 1))) 2 (gN v 1) a.toNatClampNeg) 1 (gN v 1 + 1)) 3 (gN v 1) (aN v 1 kx)) := by
    rw [← hat] at hK
    exact hK
  obtain ⟨r1, r2, r3, r4⟩ := H_loop a u a.toNatClampNeg v kx (gN u 7 + 1) (gN u 7 + 1 + 1) (gN v 1 + 2) _ _ hH1 (by show gN u 7 + 1 = gN v 1 + 1; omega) (by omega) (by omega)
  generalize (f_He_keep_100 a u (gN u 7 + 1 + 1) (gN u 7 + 1) (sI (sN (uN (sI (sI (uN u 2 (hu a) 2) 8 ((gI u 8) - (1 : Int32))) 9 ((gI u 9) - (nI (aN u 1 (hu a))))) 3 ((gN u 6 + (gN u 7)) % 1536) (hu a)) 7 (gN u 7 + 1)) 7 ((gI u 7) + (nI (aN u 1 (hu a)))))).2 = u2 at r1 r2 r4 ⊢
  generalize f_Mo_back_135 a.toNatClampNeg v kx (gN v 1 + 2) _ = v2 at r1 r3 ⊢
  have hsz : aN u2 1 = aN u 1 := r2.2.2.2.1 1 (by decide)
  have hc0 : aI u2 0 = aI u 0 := r2.2.2.1 0 (by decide)
  have hb0 : aB v2 0 = rwB (aB v 0) a.toNatClampNeg (a.toNatClampNeg + aN v 1 kx) (fun _ => false) := r3.2.2.2.2 0 (by decide)
  have hb1 : aB v2 1 = rwB (aB v 1) (8 * a.toNatClampNeg) (8 * (a.toNatClampNeg + aN v 1 kx)) (fun _ => false) := r3.2.2.2.2 1 (by decide)
  have hi1 : aI v2 1 = aI v 1 := r3.2.2.1 1 (by decide)
  rw [shut_eq]
  refine Sim_fr h ?_ ?_ ?_ r1 ⟨fun k y1 y2 => ?_, fun c hc hs i hi => ?_⟩
  · have q : FrS [7, 8, 9] [6, 7] [0] [0, 1, 2, 3] u (sI (sN (uN (sI (sI (uN u 2 (hu a) 2) 8 ((gI u 8) - (1 : Int32))) 9 ((gI u 9) - (nI (aN u 1 (hu a))))) 3 ((gN u 6 + (gN u 7)) % 1536) (hu a)) 7 (gN u 7 + 1)) 7 ((gI u 7) + (nI (aN u 1 (hu a))))) :=
      FrS.tr (FrS.uN u 2 (hu a) 2 (by decide)) (FrS.tr (FrS.sI _ 8 _ (by decide)) (FrS.tr (FrS.sI _ 9 _ (by decide)) (FrS.tr (FrS.uN _ 3 _ _ (by decide)) (FrS.tr (FrS.sN _ 7 _ (by decide)) (FrS.sI _ 7 _ (by decide))))))
    refine FrS.tr (FrS.tr q (r2.wk (by decide) (by decide) (by decide) (by decide))) ⟨fun _ _ => rfl, fun _ _ => rfl, fun x hx => ?_, fun _ _ => rfl, fun _ => rfl⟩
    exact if_neg (fun e : x = 0 => hx (by subst e; decide))
  · have q0 : FrM [] [0, 1] [1] [0, 1, 2, 3] [0, 1] v (opn v (rwB (aB v 0) a.toNatClampNeg (a.toNatClampNeg + aN v 1 kx) (fun _ => false)) (rwB (aB v 1) (8 * a.toNatClampNeg) (8 * (a.toNatClampNeg + aN v 1 kx)) (fun _ => false))) := ⟨fun _ _ => rfl, fun _ _ => rfl, fun _ _ => rfl, fun _ _ => rfl, fun x hx => by
      have z0 : ¬ x = 0 := fun e => hx (by subst e; decide)
      have z1 : ¬ x = 1 := fun e => hx (by subst e; decide)
      show va_up (va_up v.2.2.2.2 0 _) 1 _ x = v.2.2.2.2 x
      unfold va_up; rw [if_neg z1, if_neg z0]⟩
    exact FrM.tr (FrM.tr q0 (FrM.tr (FrM.sN _ 0 _ (by decide)) (FrM.tr (FrM.uN _ 0 _ _ (by decide)) (FrM.tr (FrM.uN _ 1 _ _ (by decide)) (FrM.tr (FrM.uN _ 2 _ _ (by decide)) (FrM.tr (FrM.sN _ 1 _ (by decide)) (FrM.uN _ 3 _ _ (by decide)))))))) (r3.wk (by decide) (by decide) (by decide) (by decide) (by decide))
  · show cM (rwI (aI u2 0) _ _ (shF (aI u2 0))) (aI v2 1) (aB v2 0) (aB v2 1)
    rw [hc0, hb0, hb1, hi1, hlen]
    exact cM_shut h.M _ _
  · rw [hb0]
    rw [rwB_out (by omega)]
    exact h.O.1 k y1 y2
  · have hs : aN u2 2 c = 1 := hs
    have hi : i < aN u2 1 c := hi
    have s1 := r4 c hc hs
    have s2 : va_up (aN u 2) (hu a) 2 c = 1 := s1
    have ec : ¬ c = hu a := fun e => by rw [e, vu_e] at s2; omega
    rw [vu_n ec] at s2
    rw [hsz] at hi
    rw [hb0]
    have ap := gB_apart h.H.1 hc hb (by omega) (by omega) ec
    have n1 := un_n (aN u 1 c)
    have n2 := un_n (aN u 1 (hu a))
    rw [rwB_out (by rw [hlen]; omega)]
    exact h.O.2 c hc s2 i hi
