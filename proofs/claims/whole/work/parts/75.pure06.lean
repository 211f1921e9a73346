-- ===== errors and returns
def cE (rows : Nat → Int32) (told : Nat) (al : Int32) (errs : Nat) (al2 : Int32) (ek ep en er : Nat → Int32) : Prop := told = errs ∧ errs ≤ 60 ∧ al = al2 ∧ ∀ k, k < errs → rows (k * 7) = ek k ∧ rows (k * 7 + 1) = ep k ∧ rows (k * 7 + 2) = en k ∧ ∀ i, i < 4 → rows (k * 7 + 3 + i) = er (4 * k + i)
def cT (ring : Nat → Int32) (top ret dep : Nat) (rets : Nat → Int32) : Prop := ret = dep ∧ dep ≤ 32 ∧ top < 32 ∧ ∀ i, i < dep → ring ((top + 31 - i) % 32) = rets (dep - 1 - i)
theorem wt_l (w q : Int32) (u : S5) : ∀ (k j : Nat), gN u 0 < k + j → (f_Rp_wasTold_2 w q u k j = true ↔ ∃ i, j ≤ i ∧ i < gN u 0 ∧ aI u 4 (i * 7) = w ∧ aI u 4 (i * 7 + 1) = q)
  | 0, j, h => by
    unfold f_Rp_wasTold_2
    constructor
    · intro q; cases q
    · rintro ⟨i, h1, h2, _⟩; omega
  | k + 1, j, h => by
    unfold f_Rp_wasTold_2
    by_cases hj : j < gN u 0
    · rw [if_pos hj]
      by_cases z : aI u 4 (j * 7) = w ∧ aI u 4 (j * 7 + 1) = q
      · rw [if_pos z.1, if_pos z.2]; exact ⟨fun _ => ⟨j, Nat.le_refl _, hj, z⟩, fun _ => rfl⟩
      · have e : (if aI u 4 (j * 7) = w then (if aI u 4 (j * 7 + 1) = q then true else f_Rp_wasTold_2 w q u k (j + 1)) else f_Rp_wasTold_2 w q u k (j + 1)) = f_Rp_wasTold_2 w q u k (j + 1) := by
          by_cases z1 : aI u 4 (j * 7) = w
          · rw [if_pos z1, if_neg (fun z2 => z ⟨z1, z2⟩)]
          · rw [if_neg z1]
        rw [e, wt_l w q u k (j + 1) (by omega)]
        constructor
        · rintro ⟨i, h1, h2⟩; exact ⟨i, by omega, h2⟩
        · rintro ⟨i, h1, h2⟩
          rcases Nat.eq_or_lt_of_le h1 with e | e
          · subst e; exact absurd h2.2 z
          · exact ⟨i, e, h2⟩
    · rw [if_neg hj]
      constructor
      · intro q; cases q
      · rintro ⟨i, h1, h2, _⟩; omega
theorem ft_y (q x : Int32) (v : S5) : ∀ (k j : Nat), gN v 6 < k + j → (∃ i, j ≤ i ∧ i < gN v 6 ∧ aI v 6 i = q ∧ aI v 7 i = gI v 1) → f_Mo_fault_18 q x v k j = sI v 5 ((gI v 5) + (1 : Int32))
  | 0, j, h, ⟨i, h1, h2, _⟩ => by omega
  | k + 1, j, h, ⟨i, h1, h2⟩ => by
    unfold f_Mo_fault_18
    rw [if_pos (by omega : j < gN v 6)]
    by_cases z : aI v 6 j = q ∧ aI v 7 j = gI v 1
    · rw [if_pos z.1, if_pos z.2]
    · have hl : j + 1 ≤ i := by
        rcases Nat.eq_or_lt_of_le h1 with e | e
        · subst e; exact absurd h2.2 z
        · exact e
      have ih := ft_y q x v k (j + 1) (by omega) ⟨i, hl, h2⟩
      by_cases z1 : aI v 6 j = q
      · rw [if_pos z1, if_neg (fun z2 => z ⟨z1, z2⟩), ih]
      · rw [if_neg z1, ih]
theorem ft_n (q x : Int32) (v : S5) : ∀ (k j : Nat), gN v 6 < k + j → (¬ ∃ i, j ≤ i ∧ i < gN v 6 ∧ aI v 6 i = q ∧ aI v 7 i = gI v 1) → j ≤ gN v 6 → f_Mo_fault_18 q x v k j = f_Mo_fault_56 q x v
  | 0, j, h, _, _ => by omega
  | k + 1, j, h, hn, hj0 => by
    unfold f_Mo_fault_18
    by_cases hj : j < gN v 6
    · rw [if_pos hj]
      have z : ¬ (aI v 6 j = q ∧ aI v 7 j = gI v 1) := fun z => hn ⟨j, Nat.le_refl _, hj, z⟩
      have ih := ft_n q x v k (j + 1) (by omega) (fun ⟨i, h1, h2⟩ => hn ⟨i, by omega, h2⟩) (by omega)
      by_cases z1 : aI v 6 j = q
      · rw [if_pos z1, if_neg (fun z2 => z ⟨z1, z2⟩), ih]
      · rw [if_neg z1, ih]
    · rw [if_neg hj]
def reX (ring : Nat → Int32) (top ret i : Nat) : Int32 := if i < ret then ring ((top + 31 - i) % 32) else 0
def reY (rets : Nat → Int32) (dep i : Nat) : Int32 := if i < dep then rets (dep - 1 - i) else 0
theorem re_e {ring rets : Nat → Int32} {top ret dep : Nat} (h : cT ring top ret dep rets) (i : Nat) : reX ring top ret i = reY rets dep i := by
  unfold reX reY
  rw [h.1]
  by_cases z : i < dep
  · rw [if_pos z, if_pos z, h.2.2.2 i z]
  · rw [if_neg z, if_neg z]
def tlR (rows : Nat → Int32) (b : Nat) (w q x y0 y1 y2 y3 : Int32) : Nat → Int32 := upd (upd (upd (upd (upd (upd (upd rows b w) (b + 1) q) (b + 2) x) (b + 3 + 0) y0) (b + 3 + 1) y1) (b + 3 + 2) y2) (b + 3 + 3) y3
theorem tell_eq (w q x : Int32) (u : S5) : f_Rp_tell w q x u = sN (sAI u 4 (tlR (aI u 4) (gN u 0 * 7) w q x (reX (aI u 5) (gN u 1) (gN u 2) 0) (reX (aI u 5) (gN u 1) (gN u 2) 1) (reX (aI u 5) (gN u 1) (gN u 2) 2) (reX (aI u 5) (gN u 1) (gN u 2) 3))) 0 (gN u 0 + 1) := by
  have e : f_Rp_tell w q x u = sN (uI (uI (uI (uI (uI (uI (uI u 4 (gN u 0 * 7) w) 4 (gN u 0 * 7 + 1) q) 4 (gN u 0 * 7 + 2) x) 4 (gN u 0 * 7 + 3 + 0) (reX (aI u 5) (gN u 1) (gN u 2) 0)) 4 (gN u 0 * 7 + 3 + 1) (reX (aI u 5) (gN u 1) (gN u 2) 1)) 4 (gN u 0 * 7 + 3 + 2) (reX (aI u 5) (gN u 1) (gN u 2) 2)) 4 (gN u 0 * 7 + 3 + 3) (reX (aI u 5) (gN u 1) (gN u 2) 3)) 0 (gN u 0 + 1) := rfl
  rw [e]
  unfold uI
  simp only [sAI_sAI, aI_sAI]
  rfl
/-- the errors of the reference, with one more -/
def ftS (v : S5) (ek ep en er : Nat → Int32) (n : Nat) : S5 := sN (sAI (sAI (sAI (sAI v 6 ek) 7 ep) 8 en) 9 er) 6 n
theorem f101_eq (q x : Int32) (v : S5) : f_Mo_fault_101 q x v 5 0 (uI (uI (uI (sI v 5 ((gI v 5) + (1 : Int32))) 6 (gN v 6) q) 7 (gN v 6) (gI v 1)) 8 (gN v 6) x) = ftS (sI v 5 ((gI v 5) + (1 : Int32))) (upd (aI v 6) (gN v 6) q) (upd (aI v 7) (gN v 6) (gI v 1)) (upd (aI v 8) (gN v 6) x) (upd (upd (upd (upd (aI v 9) (4 * gN v 6 + 0) (reY (aI v 5) (gN v 5) 0)) (4 * gN v 6 + 1) (reY (aI v 5) (gN v 5) 1)) (4 * gN v 6 + 2) (reY (aI v 5) (gN v 5) 2)) (4 * gN v 6 + 3) (reY (aI v 5) (gN v 5) 3)) (gN v 6 + 1) := by
  have e : ∀ u1 : S5, f_Mo_fault_101 q x v 5 0 u1 = sN (uI (uI (uI (uI u1 9 (4 * gN u1 6 + 0) (reY (aI u1 5) (gN u1 5) 0)) 9 (4 * gN u1 6 + 1) (reY (aI u1 5) (gN u1 5) 1)) 9 (4 * gN u1 6 + 2) (reY (aI u1 5) (gN u1 5) 2)) 9 (4 * gN u1 6 + 3) (reY (aI u1 5) (gN u1 5) 3)) 6 (gN u1 6 + 1) := fun u1 => rfl
  rw [e]
  unfold uI
  simp only [sAI_sAI, aI_sAI]
  rfl
theorem cE_tell {rows : Nat → Int32} {told : Nat} {al : Int32} {errs : Nat} {al2 : Int32} {ek ep en er : Nat → Int32} (h : cE rows told al errs al2 ek ep en er) (h60 : errs < 60) (w q x y0 y1 y2 y3 : Int32) : cE (tlR rows (told * 7) w q x y0 y1 y2 y3) (told + 1) (al + 1) (errs + 1) (al2 + 1) (upd ek errs w) (upd ep errs q) (upd en errs x) (upd (upd (upd (upd er (4 * errs + 0) y0) (4 * errs + 1) y1) (4 * errs + 2) y2) (4 * errs + 3) y3) := by
  obtain ⟨h1, h2, h3, h4⟩ := h
  subst h1; subst h3
  refine ⟨rfl, by omega, rfl, fun k hk => ?_⟩
  unfold tlR upd
  by_cases e : k = told
  · subst e
    refine ⟨?_, ?_, ?_, ?_⟩
    · rw [if_neg (by omega), if_neg (by omega), if_neg (by omega), if_neg (by omega), if_neg (by omega), if_neg (by omega), if_pos rfl, if_pos rfl]
    · rw [if_neg (by omega), if_neg (by omega), if_neg (by omega), if_neg (by omega), if_neg (by omega), if_pos rfl, if_pos rfl]
    · rw [if_neg (by omega), if_neg (by omega), if_neg (by omega), if_neg (by omega), if_pos rfl, if_pos rfl]
    · intro i hi
      rcases (show i = 0 ∨ i = 1 ∨ i = 2 ∨ i = 3 by omega) with rfl | rfl | rfl | rfl <;> simp
  · obtain ⟨g1, g2, g3, g4⟩ := h4 k (by omega)
    refine ⟨?_, ?_, ?_, ?_⟩
    · rw [if_neg (by omega), if_neg (by omega), if_neg (by omega), if_neg (by omega), if_neg (by omega), if_neg (by omega), if_neg (by omega), if_neg e, g1]
    · rw [if_neg (by omega), if_neg (by omega), if_neg (by omega), if_neg (by omega), if_neg (by omega), if_neg (by omega), if_neg (by omega), if_neg e, g2]
    · rw [if_neg (by omega), if_neg (by omega), if_neg (by omega), if_neg (by omega), if_neg (by omega), if_neg (by omega), if_neg (by omega), if_neg e, g3]
    · intro i hi
      rw [if_neg (by omega), if_neg (by omega), if_neg (by omega), if_neg (by omega), if_neg (by omega), if_neg (by omega), if_neg (by omega), if_neg (by omega), if_neg (by omega), if_neg (by omega), if_neg (by omega), g4 i hi]
theorem cE_all {rows : Nat → Int32} {told : Nat} {al : Int32} {errs : Nat} {al2 : Int32} {ek ep en er : Nat → Int32} (h : cE rows told al errs al2 ek ep en er) : cE rows told (al + 1) errs (al2 + 1) ek ep en er := ⟨h.1, h.2.1, by rw [h.2.2.1], h.2.2.2⟩
-- the returns
theorem cT_push {ring rets : Nat → Int32} {top ret dep : Nat} (h : cT ring top ret dep rets) (hd : dep < 32) (a : Int32) : cT (upd ring top a) ((top + 1) % 32) (ret + 1) (dep + 1) (upd rets dep a) := by
  obtain ⟨h1, h2, h3, h4⟩ := h
  refine ⟨by omega, by omega, by omega, fun i hi => ?_⟩
  unfold upd
  by_cases e : i = 0
  · subst e; rw [if_pos (by omega), if_pos (by omega)]
  · rw [if_neg (by omega), if_neg (by omega)]
    have := h4 (i - 1) (by omega)
    rw [show ((top + 1) % 32 + 31 - i) % 32 = (top + 31 - (i - 1)) % 32 by omega, this]
    exact congrArg rets (by omega)
theorem pu_l (u : S5) : ∀ (k i : Nat) (u1 : S5), 32 < k + i → 1 ≤ i → i ≤ 32 → f_Mo_push_11 u k i u1 = sAI u1 5 (rwI (aI u1 5) (i - 1) 31 (fun q => aI u1 5 (q + 1)))
  | 0, i, u1, h1, h0, h2 => by omega
  | k + 1, i, u1, h1, h0, h2 => by
    unfold f_Mo_push_11
    by_cases hi : i < 32
    · rw [if_pos hi, pu_l u k (i + 1) _ (by omega) (by omega) (by omega)]
      unfold uI
      rw [sAI_sAI, aI_sAI]
      refine congrArg _ ?_
      rw [← rwI_s (f := aI u1 5) (F := fun q => aI u1 5 (q + 1)) (show i - 1 < 31 by omega), show i - 1 + 1 = i by omega, show i + 1 - 1 = i by omega]
      exact rwI_c (fun q h3 h4 => upd_ne (by omega))
    · rw [if_neg hi, rwI_e (by omega), sAI_self]
theorem push_eq (v : S5) : f_Mo_push v = if gN v 5 = 32 then sN (sAI v 5 (upd (rwI (aI v 5) 0 31 (fun q => aI v 5 (q + 1))) 31 (gI v 1 + 4))) 5 32 else sN (sAI v 5 (upd (aI v 5) (gN v 5) (gI v 1 + 4))) 5 (gN v 5 + 1) := by
  unfold f_Mo_push
  by_cases h : gN v 5 = 32
  · rw [if_pos h, if_pos h]
    dsimp only
    rw [pu_l v 33 1 v (by omega) (by omega) (by omega)]
    have e : gN (sAI v 5 (rwI (aI v 5) (1 - 1) 31 (fun q => aI v 5 (q + 1)))) 5 = 32 := h
    rw [e]
    unfold f_Mo_push_47
    show uI (sN (sN (sAI v 5 (rwI (aI v 5) 0 31 (fun q => aI v 5 (q + 1)))) 5 31) 5 32) 5 31 (gI v 1 + 4) = _
    have e2 : ∀ (w : S5) (a b : Nat), sN (sN w 5 a) 5 b = sN w 5 b := fun w a b => by
      unfold sN; congr 2; funext j; by_cases z : j = 5 <;> simp [va_up, z]
    rw [e2]
    show sAI (sN (sAI v 5 _) 5 32) 5 _ = sN (sAI v 5 _) 5 32
    show sN (sAI (sAI v 5 (rwI (aI v 5) 0 31 (fun q => aI v 5 (q + 1)))) 5 _) 5 32 = _
    rw [sAI_sAI]; rfl
  · rw [if_neg h, if_neg h]; rfl
theorem cT_push32 {ring rets : Nat → Int32} {top ret dep : Nat} (h : cT ring top ret dep rets) (hd : dep = 32) (a : Int32) : cT (upd ring top a) ((top + 1) % 32) ret 32 (upd (rwI rets 0 31 (fun q => rets (q + 1))) 31 a) := by
  obtain ⟨h1, h2, h3, h4⟩ := h
  refine ⟨by omega, by omega, by omega, fun i hi => ?_⟩
  unfold upd
  by_cases e : i = 0
  · subst e; rw [if_pos (by omega), if_pos (by omega)]
  · rw [if_neg (by omega), if_neg (by omega), rwI_in (Nat.zero_le _) (by omega)]
    have := h4 (i - 1) (by omega)
    rw [show ((top + 1) % 32 + 31 - i) % 32 = (top + 31 - (i - 1)) % 32 by omega, this]
    exact congrArg rets (by omega)
theorem cT_pop {ring rets : Nat → Int32} {top ret dep : Nat} (h : cT ring top ret dep rets) (hd : ¬ dep = 0) : cT ring ((top + 31) % 32) (ret - 1) (dep - 1) rets := by
  obtain ⟨h1, h2, h3, h4⟩ := h
  refine ⟨by omega, by omega, by omega, fun i hi => ?_⟩
  have := h4 (i + 1) (by omega)
  rw [show ((top + 31) % 32 + 31 - i) % 32 = (top + 31 - (i + 1)) % 32 by omega, this]
  exact congrArg rets (by omega)
-- ===== ports
def cP (inc out : Nat → Int32) (put taken sent puts rd outs : Nat) (pt ot : Nat → Int32) : Prop := put = puts ∧ taken = rd ∧ sent = outs ∧ rd ≤ puts ∧ puts ≤ 1024 ∧ outs ≤ 4096 ∧ (∀ k, k < puts → inc k = pt k) ∧ ∀ k, k < outs → out k = ot k
theorem pi_l (w : Int64) (n : Nat) (u : S5) : ∀ (k i : Nat) (u1 : S5), n < k + i → i ≤ n → f_Po_putIn_3 w n u k i u1 = sN (sAI u1 6 (rwI (aI u1 6) (gN u1 3 + i) (gN u1 3 + n) (imF (gN u1 3) w))) 3 (gN u1 3 + n)
  | 0, i, u1, h1, h2 => by omega
  | k + 1, i, u1, h1, h2 => by
    unfold f_Po_putIn_3
    by_cases hi : i < n
    · rw [if_pos hi, pi_l w n u k (i + 1) _ (by omega) (by omega)]
      unfold uI
      rw [sAI_sAI, aI_sAI]
      show sN (sAI u1 6 (rwI _ (gN u1 3 + (i + 1)) (gN u1 3 + n) (imF (gN u1 3) w))) 3 (gN u1 3 + n) = _
      refine congrArg (fun z => sN (sAI u1 6 z) 3 (gN u1 3 + n)) ?_
      rw [← rwI_s (f := aI u1 6) (F := imF (gN u1 3) w) (show gN u1 3 + i < gN u1 3 + n by omega)]
      rw [show imF (gN u1 3) w (gN u1 3 + i) = _ by unfold imF; rw [show gN u1 3 + i - gN u1 3 = i by omega]]
      rfl
    · rw [if_neg hi, rwI_e (by omega), sAI_self]
theorem sNN (u : S5) (k a b : Nat) : sN (sN u k a) k b = sN u k b := by
  unfold sN; congr 2; funext j; by_cases z : j = k <;> simp [va_up, z]
theorem sN_self (u : S5) (k a : Nat) (h : gN u k = a) : sN u k a = u := by
  obtain ⟨u1, u2, u3⟩ := u
  unfold sN
  congr 2
  funext j
  by_cases z : j = k
  · subst z; simp [va_up]; exact h.symm
  · simp [va_up, z]
theorem in_l (w : Int64) (n : Int32) (u : S5) (P : Nat) : ∀ (k i : Nat) (u1 : S5), n.toNatClampNeg < k + i → i ≤ n.toNatClampNeg → gN u1 2 = P + i → f_Mo_input_56 w n u k i u1 = (P + n.toNatClampNeg, sN (sAI u1 3 (rwI (aI u1 3) (P + i) (P + n.toNatClampNeg) (imF P w))) 2 (P + n.toNatClampNeg))
  | 0, i, u1, h1, h2, h3 => by omega
  | k + 1, i, u1, h1, h2, h3 => by
    unfold f_Mo_input_56
    by_cases hi : i < n.toNatClampNeg
    · rw [if_pos hi, in_l w n u P k (i + 1) _ (by omega) (by omega) (by show gN u1 2 + 1 = _; omega), h3]
      refine Prod.ext rfl ?_
      show sN (sAI (sAI (sN u1 2 (P + i + 1)) 3 _) 3 _) 2 _ = _
      rw [sAI_sAI]
      show sN (sN (sAI u1 3 (rwI (upd (aI u1 3) (P + i) _) (P + (i + 1)) (P + n.toNatClampNeg) (imF P w))) 2 (P + i + 1)) 2 _ = _
      rw [sNN]
      refine congrArg (fun z => sN (sAI u1 3 z) 2 (P + n.toNatClampNeg)) ?_
      rw [← rwI_s (f := aI u1 3) (F := imF P w) (show P + i < P + n.toNatClampNeg by omega)]
      rw [show imF P w (P + i) = _ by unfold imF; rw [show P + i - P = i by omega]]
      rfl
    · rw [if_neg hi, rwI_e (by omega), sAI_self]
      have e : P + n.toNatClampNeg = gN u1 2 := by omega
      rw [sN_self u1 2 _ e.symm, e]
