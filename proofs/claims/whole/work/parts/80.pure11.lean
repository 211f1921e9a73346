-- ===== calls that make and give back
theorem S_isLive {u v : S5} (h : Sim u v) (a : Int32) : (f_He_stateAt a u = 1 ∧ f_Ho_isLive a (gI u 0) u = (true, u) ∧ f_Mo_isLive a v = (true, v)) ∨ (¬ f_He_stateAt a u = 1 ∧ (f_Ho_isLive a (gI u 0) u).1 = false ∧ (f_Mo_isLive a v).1 = false ∧ Sim (f_Ho_isLive a (gI u 0) u).2 (f_Mo_isLive a v).2) := by
  unfold f_Ho_isLive f_Mo_isLive
  by_cases z : f_He_stateAt a u = 1
  · left
    obtain ⟨i, _, _, _, g⟩ := find_y h.H z
    rw [if_pos z, if_neg g]
    exact ⟨z, rfl, rfl⟩
  · right
    rw [if_neg z, if_pos (find_n h.H z)]
    dsimp only
    refine ⟨z, rfl, rfl, ?_⟩
    have w := was_iff h.H a
    by_cases q : f_He_stateAt a u = 2
    · rw [if_pos q, if_pos (w.mpr q)]; exact S_note h (by decide) a
    · rw [if_neg q, if_neg (fun y => q (w.mp y))]; exact S_note h (by decide) a
theorem S_remake {u v : S5} (h : Sim u v) (old n : Int32) : (f_Ho_remake old n (gI u 0) u).1 = (f_Mo_again old n v).1 ∧ Sim (f_Ho_remake old n (gI u 0) u).2 (f_Mo_again old n v).2 := by
  unfold f_Ho_remake f_Mo_again
  by_cases o0 : old = 0
  · rw [if_pos o0, if_pos o0]
    unfold f_Ho_remake_17
    rcases S_make h n with ⟨m1, m2, m3⟩ | ⟨F, f1, f2, f3, f4, f5, f6, _, _⟩
    · rw [if_pos m1, m2, m3]; exact ⟨rfl, h⟩
    · rw [if_neg (by omega), if_pos o0]
      exact ⟨by show (f_He_take n u).1 = (f_Mo_block n v).1; omega, f6⟩
  · rw [if_neg o0, if_neg o0]
    rcases S_isLive h old with ⟨z, l1, l2⟩ | ⟨z, l1, l2, l3⟩
    · rw [l1, l2]
      dsimp only
      rw [if_pos rfl, if_pos rfl]
      unfold f_Ho_remake_17
      obtain ⟨i1, i2, i3, i4⟩ := st_in (u := u) (a := old) (by omega)
      have hb := hp_b i1 i2
      have hae := hu_e i1 i2 i4
      have zb : aN u 2 (hu old) = 1 := by rw [← i3]; exact z
      obtain ⟨kx, k1, k2, k3, _⟩ := find_y h.H z
      have hcnt := H_cnt h.H
      have hkx : (f_Mo_find old v).toNatClampNeg = kx := by rw [k3, nI_clamp (by omega)]
      have hlen : aN v 1 kx = aN u 1 (hu old) := by
        obtain ⟨c, g1, g2, g3, g4⟩ := h.H.2.2.1.1 kx k1
        rw [g2, hp_n (hp_ge i1), hae] at k2
        have := (nI_eq (by omega) (by omega)).mp k2
        have : c = hu old := by omega
        rw [g4, this]
      rcases S_make h n with ⟨m1, m2, m3⟩ | ⟨F, f1, f2, f3, f4, f5, f6, f7, f8⟩
      · rw [if_pos m1, m2, m3]
        rw [if_pos rfl]
        exact ⟨rfl, h⟩
      · rw [if_neg (show ¬ (f_He_take n u).1 = 0 by omega), if_neg o0, if_neg (show ¬ (f_Mo_block n v).1 = 0 by omega), hkx]
        have hF : ¬ hu old = F := fun e => by rw [e] at zb; omega
        generalize hu2 : f_Me_handOut (f_He_take n u).1 n.toNatClampNeg (f_He_take n u).2 = u2 at f6 ⊢
        have hst : ∀ c, aN u2 2 c = if c = F then 1 else aN u 2 c := fun c => by rw [← hu2, hand_eq]; exact f8 c
        have hsz : ∀ c, aN u2 1 c = if c = F then n.toNatClampNeg else aN u 1 c := fun c => by rw [← hu2, hand_eq]; exact f7 c
        have zs : f_He_stateAt old u2 = 1 := by
          have : f_He_stateAt old u2 = aN u2 2 (hu old) := by
            unfold f_He_stateAt; rw [if_neg i1, if_neg i2, if_pos i4]
          rw [this, hst, if_neg hF]; exact zb
        have hsa : f_He_sizeAt old u2 = aN u 1 (hu old) := by
          unfold f_He_sizeAt
          rw [if_neg (by omega), hsz, if_neg hF]
        rw [hsa]
        rw [f4]
        generalize hm : (if aN u 1 (hu old) < n.toNatClampNeg then aN u 1 (hu old) else n.toNatClampNeg) = m
        have hm1 : m ≤ aN u 1 (hu old) := by rw [← hm]; split <;> omega
        have hm2 : m ≤ n.toNatClampNeg := by rw [← hm]; split <;> omega
        have ap := gB_apart f6.H.1 hb f2 (by rw [hst, if_neg hF]; omega) (by rw [hst, if_pos rfl]; omega) hF
        rw [hsz, hsz, if_neg hF, if_pos rfl] at ap
        have n1 := un_n (aN u 1 (hu old))
        have n2 := un_n n.toNatClampNeg
        have hdis : old.toNatClampNeg + m ≤ 32768 + F * 16 ∨ 32768 + F * 16 + m ≤ old.toNatClampNeg := by omega
        obtain ⟨_, _, b3, _⟩ := h.H.1 (hu old) hb (by omega)
        have S3 : Sim (f_Me_move old.toNatClampNeg (32768 + F * 16) m u2) (f_Mo_again_48 old n v kx (aN v 1 kx + 1) 0 (f_Mo_block n v).2) := by
          rw [ag_l2 old n v kx (32768 + F * 16) m f5 (by rw [hlen, hm]) hdis _ _ _ (by omega) (Nat.zero_le _), move_eq]
          have hO := f6.O
          obtain ⟨h1, h2, h3, h4, h5, h6, h7, h8, h9⟩ := f6
          refine ⟨cM_move h1 (by omega) (fun i hi => ?_), h2, h3, h4, h5, h6, h7, h8, h9⟩
          have q1 := hO.2 (hu old) hb (by rw [hst, if_neg hF]; exact zb) i (by rw [hsz, if_neg hF]; omega)
          have q2 := hO.2 F f2 (by rw [hst, if_pos rfl]) i (by rw [hsz, if_pos rfl]; omega)
          rw [hae, q1, q2]
        have zs3 : f_He_stateAt old (f_Me_move old.toNatClampNeg (32768 + F * 16) m u2) = 1 := zs
        have S4 := S_back S3 zs3
        dsimp only
        exact ⟨f5.symm, S4⟩
    · rw [if_neg (by rw [l1]; decide), if_neg (by rw [l2]; decide)]
      exact ⟨rfl, l3⟩
