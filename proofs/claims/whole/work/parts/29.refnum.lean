def OkE (u : S5) : Prop := gN u 6 ≤ 60 ∧ gN u 5 ≤ 32
theorem OkE.fr {ci cn ca cb : List Nat} {u v : S5} (h : OkE u) (f : FrS ci cn ca cb u v) (h1 : 5 ∉ cn ∧ 6 ∉ cn) : OkE v := by
  obtain ⟨-, f2, -, f4, -⟩ := f
  obtain ⟨a1, a2⟩ := h1
  unfold OkE
  rw [f2 5 a1, f2 6 a2]
  exact h
/-- the same, booleans too -/
def FrM (ci cn ca cb cz : List Nat) (u v : S5) : Prop := (∀ x, x ∉ ci → gI v x = gI u x) ∧ (∀ x, x ∉ cn → gN v x = gN u x) ∧ (∀ x, x ∉ ca → aI v x = aI u x) ∧ (∀ x, x ∉ cb → aN v x = aN u x) ∧ ∀ x, x ∉ cz → aB v x = aB u x
theorem FrM.rf {ci cn ca cb cz : List Nat} {u : S5} : FrM ci cn ca cb cz u u := ⟨fun _ _ => rfl, fun _ _ => rfl, fun _ _ => rfl, fun _ _ => rfl, fun _ _ => rfl⟩
theorem FrM.tr {ci cn ca cb cz : List Nat} {u v w : S5} (h1 : FrM ci cn ca cb cz u v) (h2 : FrM ci cn ca cb cz v w) : FrM ci cn ca cb cz u w :=
  ⟨fun x h => (h2.1 x h).trans (h1.1 x h), fun x h => (h2.2.1 x h).trans (h1.2.1 x h), fun x h => (h2.2.2.1 x h).trans (h1.2.2.1 x h), fun x h => (h2.2.2.2.1 x h).trans (h1.2.2.2.1 x h), fun x h => (h2.2.2.2.2 x h).trans (h1.2.2.2.2 x h)⟩
theorem FrM.wk {ci cn ca cb cz ci' cn' ca' cb' cz' : List Nat} {u v : S5} (h : FrM ci cn ca cb cz u v) (h1 : ci ⊆ ci') (h2 : cn ⊆ cn') (h3 : ca ⊆ ca') (h4 : cb ⊆ cb') (h5 : cz ⊆ cz') : FrM ci' cn' ca' cb' cz' u v :=
  ⟨fun x q => h.1 x (fun z => q (h1 z)), fun x q => h.2.1 x (fun z => q (h2 z)), fun x q => h.2.2.1 x (fun z => q (h3 z)), fun x q => h.2.2.2.1 x (fun z => q (h4 z)), fun x q => h.2.2.2.2 x (fun z => q (h5 z))⟩
theorem FrM.sI {ci cn ca cb cz : List Nat} (u : S5) (k : Nat) (v : Int32) (h : k ∈ ci) : FrM ci cn ca cb cz u (sI u k v) :=
  ⟨fun x q => by rw [gI_sI, if_neg (fun e : x = k => q (e ▸ h))], fun _ _ => rfl, fun _ _ => rfl, fun _ _ => rfl, fun _ _ => rfl⟩
theorem FrM.sN {ci cn ca cb cz : List Nat} (u : S5) (k v : Nat) (h : k ∈ cn) : FrM ci cn ca cb cz u (sN u k v) :=
  ⟨fun _ _ => rfl, fun x q => by rw [gN_sN, if_neg (fun e : x = k => q (e ▸ h))], fun _ _ => rfl, fun _ _ => rfl, fun _ _ => rfl⟩
theorem FrM.uI {ci cn ca cb cz : List Nat} (u : S5) (k n : Nat) (v : Int32) (h : k ∈ ca) : FrM ci cn ca cb cz u (uI u k n v) :=
  ⟨fun _ _ => rfl, fun _ _ => rfl, fun x q => by rw [aI_uI, if_neg (fun e : x = k => q (e ▸ h))], fun _ _ => rfl, fun _ _ => rfl⟩
theorem FrM.uN {ci cn ca cb cz : List Nat} (u : S5) (k n v : Nat) (h : k ∈ cb) : FrM ci cn ca cb cz u (uN u k n v) :=
  ⟨fun _ _ => rfl, fun _ _ => rfl, fun _ _ => rfl, fun x q => by rw [aN_uN, if_neg (fun e : x = k => q (e ▸ h))], fun _ _ => rfl⟩
theorem FrM.uB {ci cn ca cb cz : List Nat} (u : S5) (k n : Nat) (v : Bool) (h : k ∈ cz) : FrM ci cn ca cb cz u (uB u k n v) :=
  ⟨fun _ _ => rfl, fun _ _ => rfl, fun _ _ => rfl, fun _ _ => rfl, fun x q => by rw [aB_uB, if_neg (fun e : x = k => q (e ▸ h))]⟩
theorem OkE.fm {ci cn ca cb cz : List Nat} {u v : S5} (h : OkE u) (f : FrM ci cn ca cb cz u v) (h1 : 5 ∉ cn ∧ 6 ∉ cn) : OkE v := by
  obtain ⟨-, f2, -, f4, -⟩ := f
  obtain ⟨a1, a2⟩ := h1
  unfold OkE
  rw [f2 5 a1, f2 6 a2]
  exact h
theorem r_dec (d : Nat) (i : Nat) (h : i < d) : nI d - (1 : Int32) - nI i = nI (d - 1 - i) := by
  have e1 : (1 : Int32) = nI 1 := by decide
  rw [e1, pk_sub (by omega), pk_sub (by omega)]
