theorem gI_sI (u : S5) (k : Nat) (v : Int32) (x : Nat) : gI (sI u k v) x = if x = k then v else gI u x := rfl
theorem gN_sI (u : S5) (k : Nat) (v : Int32) (x : Nat) : gN (sI u k v) x = gN u x := rfl
theorem aI_sI (u : S5) (k : Nat) (v : Int32) (x : Nat) : aI (sI u k v) x = aI u x := rfl
theorem aN_sI (u : S5) (k : Nat) (v : Int32) (x : Nat) : aN (sI u k v) x = aN u x := rfl
theorem aB_sI (u : S5) (k : Nat) (v : Int32) (x : Nat) : aB (sI u k v) x = aB u x := rfl
theorem gI_sN (u : S5) (k v : Nat) (x : Nat) : gI (sN u k v) x = gI u x := rfl
theorem gN_sN (u : S5) (k v : Nat) (x : Nat) : gN (sN u k v) x = if x = k then v else gN u x := rfl
theorem aI_sN (u : S5) (k v : Nat) (x : Nat) : aI (sN u k v) x = aI u x := rfl
theorem aN_sN (u : S5) (k v : Nat) (x : Nat) : aN (sN u k v) x = aN u x := rfl
theorem aB_sN (u : S5) (k v : Nat) (x : Nat) : aB (sN u k v) x = aB u x := rfl
theorem gI_uI (u : S5) (k n : Nat) (v : Int32) (x : Nat) : gI (uI u k n v) x = gI u x := rfl
theorem gN_uI (u : S5) (k n : Nat) (v : Int32) (x : Nat) : gN (uI u k n v) x = gN u x := rfl
theorem aI_uI (u : S5) (k n : Nat) (v : Int32) (x : Nat) : aI (uI u k n v) x = if x = k then upd (aI u k) n v else aI u x := rfl
theorem aN_uI (u : S5) (k n : Nat) (v : Int32) (x : Nat) : aN (uI u k n v) x = aN u x := rfl
theorem aB_uI (u : S5) (k n : Nat) (v : Int32) (x : Nat) : aB (uI u k n v) x = aB u x := rfl
theorem gI_uN (u : S5) (k n v : Nat) (x : Nat) : gI (uN u k n v) x = gI u x := rfl
theorem gN_uN (u : S5) (k n v : Nat) (x : Nat) : gN (uN u k n v) x = gN u x := rfl
theorem aI_uN (u : S5) (k n v : Nat) (x : Nat) : aI (uN u k n v) x = aI u x := rfl
theorem aN_uN (u : S5) (k n v : Nat) (x : Nat) : aN (uN u k n v) x = if x = k then va_up (aN u k) n v else aN u x := rfl
theorem aB_uN (u : S5) (k n v : Nat) (x : Nat) : aB (uN u k n v) x = aB u x := rfl
theorem gI_uB (u : S5) (k n : Nat) (v : Bool) (x : Nat) : gI (uB u k n v) x = gI u x := rfl
theorem gN_uB (u : S5) (k n : Nat) (v : Bool) (x : Nat) : gN (uB u k n v) x = gN u x := rfl
theorem aI_uB (u : S5) (k n : Nat) (v : Bool) (x : Nat) : aI (uB u k n v) x = aI u x := rfl
theorem aN_uB (u : S5) (k n : Nat) (v : Bool) (x : Nat) : aN (uB u k n v) x = aN u x := rfl
theorem aB_uB (u : S5) (k n : Nat) (v : Bool) (x : Nat) : aB (uB u k n v) x = if x = k then va_up (aB u k) n v else aB u x := rfl
theorem gI_fI (u : S5) (k a b : Nat) (v : Int32) (x : Nat) : gI (fI u k a b v) x = gI u x := rfl
theorem gN_fI (u : S5) (k a b : Nat) (v : Int32) (x : Nat) : gN (fI u k a b v) x = gN u x := rfl
theorem aI_fI (u : S5) (k a b : Nat) (v : Int32) (x : Nat) : aI (fI u k a b v) x = if x = k then fillI (aI u k) a b v else aI u x := rfl
theorem aN_fI (u : S5) (k a b : Nat) (v : Int32) (x : Nat) : aN (fI u k a b v) x = aN u x := rfl
theorem aB_fI (u : S5) (k a b : Nat) (v : Int32) (x : Nat) : aB (fI u k a b v) x = aB u x := rfl
theorem gI_fN (u : S5) (k a b v : Nat) (x : Nat) : gI (fN u k a b v) x = gI u x := rfl
theorem gN_fN (u : S5) (k a b v : Nat) (x : Nat) : gN (fN u k a b v) x = gN u x := rfl
theorem aI_fN (u : S5) (k a b v : Nat) (x : Nat) : aI (fN u k a b v) x = aI u x := rfl
theorem aN_fN (u : S5) (k a b v : Nat) (x : Nat) : aN (fN u k a b v) x = if x = k then fillN (aN u k) a b v else aN u x := rfl
theorem aB_fN (u : S5) (k a b v : Nat) (x : Nat) : aB (fN u k a b v) x = aB u x := rfl
theorem gI_cp (u : S5) (k : Nat) (f : Nat → Int32) (a b n : Nat) (x : Nat) : gI (cp u k f a b n) x = gI u x := rfl
theorem gN_cp (u : S5) (k : Nat) (f : Nat → Int32) (a b n : Nat) (x : Nat) : gN (cp u k f a b n) x = gN u x := rfl
theorem aI_cp (u : S5) (k : Nat) (f : Nat → Int32) (a b n : Nat) (x : Nat) : aI (cp u k f a b n) x = if x = k then va_cpy f (aI u k) a b n else aI u x := rfl
theorem aN_cp (u : S5) (k : Nat) (f : Nat → Int32) (a b n : Nat) (x : Nat) : aN (cp u k f a b n) x = aN u x := rfl
theorem aB_cp (u : S5) (k : Nat) (f : Nat → Int32) (a b n : Nat) (x : Nat) : aB (cp u k f a b n) x = aB u x := rfl
