/-- what a step leaves alone: ints but those in ci, naturals but those in cn, arrays of ints but those in ca, of naturals but those in cb -/
def FrS (ci cn ca cb : List Nat) (u v : S5) : Prop := (∀ x, x ∉ ci → gI v x = gI u x) ∧ (∀ x, x ∉ cn → gN v x = gN u x) ∧ (∀ x, x ∉ ca → aI v x = aI u x) ∧ (∀ x, x ∉ cb → aN v x = aN u x) ∧ ∀ x, aB v x = aB u x
theorem FrS.rf {ci cn ca cb : List Nat} {u : S5} : FrS ci cn ca cb u u := ⟨fun _ _ => rfl, fun _ _ => rfl, fun _ _ => rfl, fun _ _ => rfl, fun _ => rfl⟩
theorem FrS.tr {ci cn ca cb : List Nat} {u v w : S5} (h1 : FrS ci cn ca cb u v) (h2 : FrS ci cn ca cb v w) : FrS ci cn ca cb u w :=
  ⟨fun x h => (h2.1 x h).trans (h1.1 x h), fun x h => (h2.2.1 x h).trans (h1.2.1 x h), fun x h => (h2.2.2.1 x h).trans (h1.2.2.1 x h), fun x h => (h2.2.2.2.1 x h).trans (h1.2.2.2.1 x h), fun x => (h2.2.2.2.2 x).trans (h1.2.2.2.2 x)⟩
theorem FrS.wk {ci cn ca cb ci' cn' ca' cb' : List Nat} {u v : S5} (h : FrS ci cn ca cb u v) (h1 : ci ⊆ ci') (h2 : cn ⊆ cn') (h3 : ca ⊆ ca') (h4 : cb ⊆ cb') : FrS ci' cn' ca' cb' u v :=
  ⟨fun x q => h.1 x (fun z => q (h1 z)), fun x q => h.2.1 x (fun z => q (h2 z)), fun x q => h.2.2.1 x (fun z => q (h3 z)), fun x q => h.2.2.2.1 x (fun z => q (h4 z)), h.2.2.2.2⟩
theorem FrS.sI {ci cn ca cb : List Nat} (u : S5) (k : Nat) (v : Int32) (h : k ∈ ci) : FrS ci cn ca cb u (sI u k v) :=
  ⟨fun x q => by rw [gI_sI, if_neg (fun e : x = k => q (e ▸ h))], fun _ _ => rfl, fun _ _ => rfl, fun _ _ => rfl, fun _ => rfl⟩
theorem FrS.sN {ci cn ca cb : List Nat} (u : S5) (k v : Nat) (h : k ∈ cn) : FrS ci cn ca cb u (sN u k v) :=
  ⟨fun _ _ => rfl, fun x q => by rw [gN_sN, if_neg (fun e : x = k => q (e ▸ h))], fun _ _ => rfl, fun _ _ => rfl, fun _ => rfl⟩
theorem FrS.uI {ci cn ca cb : List Nat} (u : S5) (k n : Nat) (v : Int32) (h : k ∈ ca) : FrS ci cn ca cb u (uI u k n v) :=
  ⟨fun _ _ => rfl, fun _ _ => rfl, fun x q => by rw [aI_uI, if_neg (fun e : x = k => q (e ▸ h))], fun _ _ => rfl, fun _ => rfl⟩
theorem FrS.uN {ci cn ca cb : List Nat} (u : S5) (k n v : Nat) (h : k ∈ cb) : FrS ci cn ca cb u (uN u k n v) :=
  ⟨fun _ _ => rfl, fun _ _ => rfl, fun _ _ => rfl, fun x q => by rw [aN_uN, if_neg (fun e : x = k => q (e ▸ h))], fun _ => rfl⟩
theorem FrS.fI {ci cn ca cb : List Nat} (u : S5) (k a b : Nat) (v : Int32) (h : k ∈ ca) : FrS ci cn ca cb u (fI u k a b v) :=
  ⟨fun _ _ => rfl, fun _ _ => rfl, fun x q => by rw [aI_fI, if_neg (fun e : x = k => q (e ▸ h))], fun _ _ => rfl, fun _ => rfl⟩
theorem FrS.fN {ci cn ca cb : List Nat} (u : S5) (k a b v : Nat) (h : k ∈ cb) : FrS ci cn ca cb u (fN u k a b v) :=
  ⟨fun _ _ => rfl, fun _ _ => rfl, fun _ _ => rfl, fun x q => by rw [aN_fN, if_neg (fun e : x = k => q (e ▸ h))], fun _ => rfl⟩
theorem FrS.cp {ci cn ca cb : List Nat} (u : S5) (k : Nat) (f : Nat → Int32) (a b n : Nat) (h : k ∈ ca) : FrS ci cn ca cb u (cp u k f a b n) :=
  ⟨fun _ _ => rfl, fun _ _ => rfl, fun x q => by rw [aI_cp, if_neg (fun e : x = k => q (e ▸ h))], fun _ _ => rfl, fun _ => rfl⟩
def n5 (x : Int32) : Nat := x.toBitVec.toNat % 32
def n3 (x : Int32) : Nat := x.toBitVec.toNat % 8
theorem n5_e (x : Int32) : x &&& (31 : Int32) = nI (n5 x) := pk_and x 5 (by decide)
theorem n3_e (x : Int32) : x &&& (7 : Int32) = nI (n3 x) := pk_and x 3 (by decide)
theorem n5_b (x : Int32) : n5 x < 32 := Nat.mod_lt _ (by decide)
theorem n3_b (x : Int32) : n3 x < 8 := Nat.mod_lt _ (by decide)
theorem ld_n : ∀ f, f < 8 → (1 : Int32) <<< ((nI f &&& (3 : Int32)) &&& 31) = nI (2 ^ (f % 4)) := by decide +kernel
theorem st_n : ∀ f, f < 8 → (1 : Int32) <<< (nI f &&& 31) = nI (2 ^ f) := by decide +kernel
theorem hp_pc {x : Int32} (h1 : ¬ x < 0) (h2 : ¬ 65532 < x) : x.toNatClampNeg + 4 ≤ 65536 := by
  have h := hp_nle (M := 65532) (K := 65532) (by decide) (by decide) h1 (Int32.not_lt.mp h2)
  omega
def OkR (u : S5) : Prop := gN u 0 ≤ 60 ∧ gN u 1 < 32 ∧ gN u 2 ≤ 32
def pw (f : Nat) : Nat := 2 ^ (f % 4)
def pv (f : Nat) : Nat := 2 ^ f
theorem ld_e : ∀ f, f < 8 → (1 : Int32) <<< ((nI f &&& (3 : Int32)) &&& 31) = nI (pw f) := ld_n
theorem st_e : ∀ f, f < 8 → (1 : Int32) <<< (nI f &&& 31) = nI (pv f) := st_n
theorem ld_4 : ∀ f, f < 8 → ¬ f = 3 → f ≤ 5 → pw f ≤ 4 := by decide +kernel
theorem st_4 : ∀ f, f ≤ 2 → pv f ≤ 4 := by decide +kernel
/-- how many of the first n are not 0 -/
def cnt (f : Nat → Nat) : Nat → Nat
  | 0 => 0
  | n + 1 => cnt f n + (if f n = 0 then 0 else 1)
theorem cnt_le (f : Nat → Nat) : ∀ n, cnt f n ≤ n
  | 0 => Nat.le_refl _
  | n + 1 => by
    have := cnt_le f n
    unfold cnt
    split <;> omega
theorem cnt_lt {f : Nat → Nat} : ∀ n j, j < n → f j = 0 → cnt f n < n
  | 0, j, h, _ => absurd h (Nat.not_lt_zero _)
  | n + 1, j, h, h0 => by
    unfold cnt
    by_cases hj : j = n
    · subst hj
      rw [if_pos h0]
      have := cnt_le f j
      omega
    · have := cnt_lt n j (by omega) h0
      split <;> omega
theorem cnt_up {f : Nat → Nat} {j : Nat} (h0 : f j = 0) : ∀ n, cnt (va_up f j 1) n = cnt f n + (if j < n then 1 else 0)
  | 0 => rfl
  | n + 1 => by
    unfold cnt
    rw [cnt_up h0 n]
    by_cases hj : n = j
    · subst hj
      rw [va_up_self]
      simp [h0]
    · rw [va_up_ne _ _ hj]
      have e : (if j < n + 1 then 1 else 0) = (if j < n then 1 else 0) := by
        by_cases h1 : j < n
        · rw [if_pos h1, if_pos (show j < n + 1 by omega)]
        · rw [if_neg h1, if_neg (show ¬ j < n + 1 by omega)]
      rw [e]; omega
theorem cnt_0 {f : Nat → Nat} : ∀ n, (∀ j, j < n → f j = 0) → cnt f n = 0
  | 0, _ => rfl
  | n + 1, h => by
    unfold cnt
    rw [cnt_0 n (fun j hj => h j (by omega)), if_pos (h n (by omega))]
def OkH (u : S5) : Prop := gN u 6 < 1536 ∧ gN u 7 ≤ 1999 ∧ (∀ j, j < 1536 → aN u 0 j ≤ 1536) ∧ (∀ j, j < 1536 → aN u 2 j ≤ 2) ∧ (∀ j, j < 1536 → aN u 3 j < 1536) ∧ ∀ j, j < 1536 → ¬ aN u 2 j = 0 → 16 * j + aN u 1 j ≤ 24576
def OkB (u : S5) : Prop := (∀ j, j < 1536 → aN u 0 j ≤ 1536) ∧ (∀ j, j < 1536 → aN u 2 j ≤ 2) ∧ ∀ j, j < 1536 → ¬ aN u 2 j = 0 → 16 * j + aN u 1 j ≤ 24576
def OkF (u : S5) : Prop := (∀ j, j < 1536 → aN u 4 j ≤ 1) ∧ gN u 8 ≤ cnt (aN u 4) 1536 ∧ ∀ i, i < gN u 8 → ∃ j, j < 1536 ∧ aN u 5 i = 32768 + j * 16 ∧ aN u 2 j = 1
def OkP (u : S5) : Prop := gN u 4 ≤ gN u 3 ∧ gN u 3 ≤ 1024 ∧ gN u 5 ≤ 4096
theorem OkH.b {u : S5} (h : OkH u) : OkB u := ⟨h.2.2.1, h.2.2.2.1, h.2.2.2.2.2⟩
theorem OkH.fr {ci cn ca cb : List Nat} {u v : S5} (h : OkH u) (f : FrS ci cn ca cb u v) (h1 : 6 ∉ cn ∧ 7 ∉ cn ∧ 0 ∉ cb ∧ 1 ∉ cb ∧ 2 ∉ cb ∧ 3 ∉ cb) : OkH v := by
  obtain ⟨-, f2, -, f4, -⟩ := f
  obtain ⟨a1, a2, a3, a4, a5, a6⟩ := h1
  unfold OkH
  rw [f2 6 a1, f2 7 a2, f4 0 a3, f4 1 a4, f4 2 a5, f4 3 a6]
  exact h
theorem OkR.fr {ci cn ca cb : List Nat} {u v : S5} (h : OkR u) (f : FrS ci cn ca cb u v) (h1 : 0 ∉ cn ∧ 1 ∉ cn ∧ 2 ∉ cn) : OkR v := by
  obtain ⟨-, f2, -, f4, -⟩ := f
  obtain ⟨a1, a2, a3⟩ := h1
  unfold OkR
  rw [f2 0 a1, f2 1 a2, f2 2 a3]
  exact h
theorem OkP.fr {ci cn ca cb : List Nat} {u v : S5} (h : OkP u) (f : FrS ci cn ca cb u v) (h1 : 3 ∉ cn ∧ 4 ∉ cn ∧ 5 ∉ cn) : OkP v := by
  obtain ⟨-, f2, -, f4, -⟩ := f
  obtain ⟨a1, a2, a3⟩ := h1
  unfold OkP
  rw [f2 3 a1, f2 4 a2, f2 5 a3]
  exact h
