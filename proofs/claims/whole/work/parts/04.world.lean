def wC (cI : ClassId) (ad : Nat → Nat) (u : S5) : va_W := [(ad 0, .inr (0, [.ref (ad 1)])),
  (ad 1, .inr (1, [.ref (ad 2), .ref (ad 3), .ref (ad 4), .ref (ad 5), .int (gI u 0), .int (gI u 1), .int (gI u 2), .int (gI u 3), .int (gI u 4), .int (gI u 5)])),
  (ad 2, .inr (2, [.ref (ad 8), .ref (ad 9)])),
  (ad 3, .inr (3, [.ref (ad 10), .ref (ad 11)])),
  (ad 4, .inr (4, [.ref (ad 12), .int (nI (gN u 0)), .int (gI u 6), .ref (ad 13), .int (nI (gN u 1)), .int (nI (gN u 2))])),
  (ad 5, .inr (5, [.ref (ad 6), .ref (ad 7)])),
  (ad 6, .inr (6, [.ref (ad 14), .ref (ad 15), .ref (ad 16), .ref (ad 17), .int (nI (gN u 6)), .int (gI u 7), .int (nI (gN u 7)), .int (gI u 8), .int (gI u 9), .ref (ad 18), .ref (ad 19), .int (nI (gN u 8))])),
  (ad 7, .inr (7, [.ref (ad 20), .int (nI (gN u 3)), .int (nI (gN u 4)), .ref (ad 21), .int (nI (gN u 5))])),
  (ad 8, .inl (cI, 65536, .inl (aI u 0))),
  (ad 9, .inl (cI, 16384, .inl (aI u 1))),
  (ad 10, .inl (cI, 32, .inl (aI u 2))),
  (ad 11, .inl (cI, 32, .inl (aI u 3))),
  (ad 12, .inl (cI, 420, .inl (aI u 4))),
  (ad 13, .inl (cI, 32, .inl (aI u 5))),
  (ad 14, .inl (cI, 1536, .inl (fun j => nI (aN u 0 j)))),
  (ad 15, .inl (cI, 1536, .inl (fun j => nI (aN u 1 j)))),
  (ad 16, .inl (cI, 1536, .inl (fun j => nI (aN u 2 j)))),
  (ad 17, .inl (cI, 1536, .inl (fun j => nI (aN u 3 j)))),
  (ad 18, .inl (cI, 1536, .inl (fun j => nI (aN u 4 j)))),
  (ad 19, .inl (cI, 1536, .inl (fun j => nI (aN u 5 j)))),
  (ad 20, .inl (cI, 1024, .inl (aI u 6))),
  (ad 21, .inl (cI, 4096, .inl (aI u 7)))]
def wM (cI cZ : ClassId) (ad : Nat → Nat) (u : S5) : va_W := [(ad 0, .inr (8, [.int (gI u 0), .ref (ad 1), .ref (ad 2), .ref (ad 3), .ref (ad 4), .ref (ad 5), .ref (ad 6), .int (gI u 1), .int (gI u 2), .int (gI u 3), .int (gI u 4), .int (gI u 5), .ref (ad 7), .ref (ad 8), .ref (ad 9), .ref (ad 10), .int (nI (gN u 0)), .int (nI (gN u 1)), .ref (ad 11), .ref (ad 12), .ref (ad 13), .int (nI (gN u 2)), .int (nI (gN u 3)), .int (nI (gN u 4)), .int (nI (gN u 5)), .ref (ad 14), .ref (ad 15), .ref (ad 16), .ref (ad 17), .int (nI (gN u 6)), .ref (ad 18)])),
  (ad 1, .inl (cI, 16384, .inl (aI u 0))),
  (ad 2, .inl (cI, 65536, .inl (aI u 1))),
  (ad 3, .inl (cI, 32, .inl (aI u 2))),
  (ad 4, .inl (cZ, 65536, .inl (fun j => b2i (aB u 0 j)))),
  (ad 5, .inl (cZ, 524288, .inl (fun j => b2i (aB u 1 j)))),
  (ad 6, .inl (cZ, 1024, .inl (fun j => b2i (aB u 2 j)))),
  (ad 7, .inl (cI, 800, .inl (fun j => nI (aN u 0 j)))),
  (ad 8, .inl (cI, 800, .inl (fun j => nI (aN u 1 j)))),
  (ad 9, .inl (cI, 800, .inl (fun j => nI (aN u 2 j)))),
  (ad 10, .inl (cI, 800, .inl (fun j => nI (aN u 3 j)))),
  (ad 11, .inl (cI, 1024, .inl (aI u 3))),
  (ad 12, .inl (cI, 4096, .inl (aI u 4))),
  (ad 13, .inl (cI, 32, .inl (aI u 5))),
  (ad 14, .inl (cI, 60, .inl (aI u 6))),
  (ad 15, .inl (cI, 60, .inl (aI u 7))),
  (ad 16, .inl (cI, 60, .inl (aI u 8))),
  (ad 17, .inl (cI, 240, .inl (aI u 9))),
  (ad 18, .inl (cZ, 800, .inl (fun j => b2i (aB u 3 j))))]
section WRL
variable {p : Program} {l : Launch} {e : Env} {R : Room} {s : State} {m : MethodId} {args : Array Value} {below : List Frame} {meth : Method} {c : Code} {H : Heap} {locs : List Loc} {cells slots : Nat} {Q : State → Prop}
variable {cc : ByteArray} {pc : Nat} {ls : Array Slot} {rest : List Value} {A : Nat → Prop} {H0 : Heap} {dC : Nat → ClassId} {dI : Nat → Nat → Nat} {cI cZ : ClassId} {ad : Nat → Nat} {u : S5}
theorem aldC_cells {v : Int32} (hexec : p.tables.exec = Jvm.exec) (hb : c.code = cc) (hK : va_K (dC, dI) classes [(cI, .int)] s) (hP : va_P (dC, dI) classes (wC cI ad u) H) {n : Nat} (hn : n < 65536) (hv : aI u 0 n = v) (hdg : decode cc pc = .ok (.iaload, 1)) (kk : W p l e R s m args below meth c H locs cells slots Q (F0 m (pc + 1) ls (.int v :: rest))) : W p l e R s m args below meth c H locs cells slots Q (F0 m pc ls (.int (nI n) :: .ref (ad 8) :: rest)) := by
  refine va_iald hexec hb hK hP 8 0 rfl rfl (vp_in_nI hn (by decide)) hdg ?_
  rw [nI_clamp (by omega)]; subst hv; exact kk
theorem astC_cells {v : Int32} (hexec : p.tables.exec = Jvm.exec) (hb : c.code = cc) (hK : va_K (dC, dI) classes [(cI, .int)] s) (hP : va_P (dC, dI) classes (wC cI ad u) H) (hD : va_D A (wC cI ad u)) (hS : va_S A H0 H locs) {n : Nat} (hn : n < 65536) (hdg : decode cc pc = .ok (.iastore, 1)) (kk : ∀ (H1 : Heap) (locs1 : List Loc), va_P (dC, dI) classes (wC cI ad (uI u 0 n v)) H1 → va_D A (wC cI ad (uI u 0 n v)) → va_S A H0 H1 locs1 → W p l e R s m args below meth c H1 locs1 cells slots Q (F0 m (pc + 1) ls rest)) : W p l e R s m args below meth c H locs cells slots Q (F0 m pc ls (.int v :: .int (nI n) :: .ref (ad 8) :: rest)) := by
  refine va_iast hexec hb hK hP hD hS 8 0 rfl rfl (vp_in_nI hn (by decide)) hdg (fun H1 locs1 h1 h2 h3 => ?_)
  rw [nI_clamp (by omega)] at h1 h2
  exact kk H1 locs1 h1 h2 h3
theorem aldC_image {v : Int32} (hexec : p.tables.exec = Jvm.exec) (hb : c.code = cc) (hK : va_K (dC, dI) classes [(cI, .int)] s) (hP : va_P (dC, dI) classes (wC cI ad u) H) {n : Nat} (hn : n < 16384) (hv : aI u 1 n = v) (hdg : decode cc pc = .ok (.iaload, 1)) (kk : W p l e R s m args below meth c H locs cells slots Q (F0 m (pc + 1) ls (.int v :: rest))) : W p l e R s m args below meth c H locs cells slots Q (F0 m pc ls (.int (nI n) :: .ref (ad 9) :: rest)) := by
  refine va_iald hexec hb hK hP 9 0 rfl rfl (vp_in_nI hn (by decide)) hdg ?_
  rw [nI_clamp (by omega)]; subst hv; exact kk
theorem astC_image {v : Int32} (hexec : p.tables.exec = Jvm.exec) (hb : c.code = cc) (hK : va_K (dC, dI) classes [(cI, .int)] s) (hP : va_P (dC, dI) classes (wC cI ad u) H) (hD : va_D A (wC cI ad u)) (hS : va_S A H0 H locs) {n : Nat} (hn : n < 16384) (hdg : decode cc pc = .ok (.iastore, 1)) (kk : ∀ (H1 : Heap) (locs1 : List Loc), va_P (dC, dI) classes (wC cI ad (uI u 1 n v)) H1 → va_D A (wC cI ad (uI u 1 n v)) → va_S A H0 H1 locs1 → W p l e R s m args below meth c H1 locs1 cells slots Q (F0 m (pc + 1) ls rest)) : W p l e R s m args below meth c H locs cells slots Q (F0 m pc ls (.int v :: .int (nI n) :: .ref (ad 9) :: rest)) := by
  refine va_iast hexec hb hK hP hD hS 9 0 rfl rfl (vp_in_nI hn (by decide)) hdg (fun H1 locs1 h1 h2 h3 => ?_)
  rw [nI_clamp (by omega)] at h1 h2
  exact kk H1 locs1 h1 h2 h3
theorem aldC_value {v : Int32} (hexec : p.tables.exec = Jvm.exec) (hb : c.code = cc) (hK : va_K (dC, dI) classes [(cI, .int)] s) (hP : va_P (dC, dI) classes (wC cI ad u) H) {n : Nat} (hn : n < 32) (hv : aI u 2 n = v) (hdg : decode cc pc = .ok (.iaload, 1)) (kk : W p l e R s m args below meth c H locs cells slots Q (F0 m (pc + 1) ls (.int v :: rest))) : W p l e R s m args below meth c H locs cells slots Q (F0 m pc ls (.int (nI n) :: .ref (ad 10) :: rest)) := by
  refine va_iald hexec hb hK hP 10 0 rfl rfl (vp_in_nI hn (by decide)) hdg ?_
  rw [nI_clamp (by omega)]; subst hv; exact kk
theorem astC_value {v : Int32} (hexec : p.tables.exec = Jvm.exec) (hb : c.code = cc) (hK : va_K (dC, dI) classes [(cI, .int)] s) (hP : va_P (dC, dI) classes (wC cI ad u) H) (hD : va_D A (wC cI ad u)) (hS : va_S A H0 H locs) {n : Nat} (hn : n < 32) (hdg : decode cc pc = .ok (.iastore, 1)) (kk : ∀ (H1 : Heap) (locs1 : List Loc), va_P (dC, dI) classes (wC cI ad (uI u 2 n v)) H1 → va_D A (wC cI ad (uI u 2 n v)) → va_S A H0 H1 locs1 → W p l e R s m args below meth c H1 locs1 cells slots Q (F0 m (pc + 1) ls rest)) : W p l e R s m args below meth c H locs cells slots Q (F0 m pc ls (.int v :: .int (nI n) :: .ref (ad 10) :: rest)) := by
  refine va_iast hexec hb hK hP hD hS 10 0 rfl rfl (vp_in_nI hn (by decide)) hdg (fun H1 locs1 h1 h2 h3 => ?_)
  rw [nI_clamp (by omega)] at h1 h2
  exact kk H1 locs1 h1 h2 h3
theorem aldC_ungiven {v : Int32} (hexec : p.tables.exec = Jvm.exec) (hb : c.code = cc) (hK : va_K (dC, dI) classes [(cI, .int)] s) (hP : va_P (dC, dI) classes (wC cI ad u) H) {n : Nat} (hn : n < 32) (hv : aI u 3 n = v) (hdg : decode cc pc = .ok (.iaload, 1)) (kk : W p l e R s m args below meth c H locs cells slots Q (F0 m (pc + 1) ls (.int v :: rest))) : W p l e R s m args below meth c H locs cells slots Q (F0 m pc ls (.int (nI n) :: .ref (ad 11) :: rest)) := by
  refine va_iald hexec hb hK hP 11 0 rfl rfl (vp_in_nI hn (by decide)) hdg ?_
  rw [nI_clamp (by omega)]; subst hv; exact kk
theorem astC_ungiven {v : Int32} (hexec : p.tables.exec = Jvm.exec) (hb : c.code = cc) (hK : va_K (dC, dI) classes [(cI, .int)] s) (hP : va_P (dC, dI) classes (wC cI ad u) H) (hD : va_D A (wC cI ad u)) (hS : va_S A H0 H locs) {n : Nat} (hn : n < 32) (hdg : decode cc pc = .ok (.iastore, 1)) (kk : ∀ (H1 : Heap) (locs1 : List Loc), va_P (dC, dI) classes (wC cI ad (uI u 3 n v)) H1 → va_D A (wC cI ad (uI u 3 n v)) → va_S A H0 H1 locs1 → W p l e R s m args below meth c H1 locs1 cells slots Q (F0 m (pc + 1) ls rest)) : W p l e R s m args below meth c H locs cells slots Q (F0 m pc ls (.int v :: .int (nI n) :: .ref (ad 11) :: rest)) := by
  refine va_iast hexec hb hK hP hD hS 11 0 rfl rfl (vp_in_nI hn (by decide)) hdg (fun H1 locs1 h1 h2 h3 => ?_)
  rw [nI_clamp (by omega)] at h1 h2
  exact kk H1 locs1 h1 h2 h3
theorem aldC_rows {v : Int32} (hexec : p.tables.exec = Jvm.exec) (hb : c.code = cc) (hK : va_K (dC, dI) classes [(cI, .int)] s) (hP : va_P (dC, dI) classes (wC cI ad u) H) {n : Nat} (hn : n < 420) (hv : aI u 4 n = v) (hdg : decode cc pc = .ok (.iaload, 1)) (kk : W p l e R s m args below meth c H locs cells slots Q (F0 m (pc + 1) ls (.int v :: rest))) : W p l e R s m args below meth c H locs cells slots Q (F0 m pc ls (.int (nI n) :: .ref (ad 12) :: rest)) := by
  refine va_iald hexec hb hK hP 12 0 rfl rfl (vp_in_nI hn (by decide)) hdg ?_
  rw [nI_clamp (by omega)]; subst hv; exact kk
theorem astC_rows {v : Int32} (hexec : p.tables.exec = Jvm.exec) (hb : c.code = cc) (hK : va_K (dC, dI) classes [(cI, .int)] s) (hP : va_P (dC, dI) classes (wC cI ad u) H) (hD : va_D A (wC cI ad u)) (hS : va_S A H0 H locs) {n : Nat} (hn : n < 420) (hdg : decode cc pc = .ok (.iastore, 1)) (kk : ∀ (H1 : Heap) (locs1 : List Loc), va_P (dC, dI) classes (wC cI ad (uI u 4 n v)) H1 → va_D A (wC cI ad (uI u 4 n v)) → va_S A H0 H1 locs1 → W p l e R s m args below meth c H1 locs1 cells slots Q (F0 m (pc + 1) ls rest)) : W p l e R s m args below meth c H locs cells slots Q (F0 m pc ls (.int v :: .int (nI n) :: .ref (ad 12) :: rest)) := by
  refine va_iast hexec hb hK hP hD hS 12 0 rfl rfl (vp_in_nI hn (by decide)) hdg (fun H1 locs1 h1 h2 h3 => ?_)
  rw [nI_clamp (by omega)] at h1 h2
  exact kk H1 locs1 h1 h2 h3
theorem aldC_ring {v : Int32} (hexec : p.tables.exec = Jvm.exec) (hb : c.code = cc) (hK : va_K (dC, dI) classes [(cI, .int)] s) (hP : va_P (dC, dI) classes (wC cI ad u) H) {n : Nat} (hn : n < 32) (hv : aI u 5 n = v) (hdg : decode cc pc = .ok (.iaload, 1)) (kk : W p l e R s m args below meth c H locs cells slots Q (F0 m (pc + 1) ls (.int v :: rest))) : W p l e R s m args below meth c H locs cells slots Q (F0 m pc ls (.int (nI n) :: .ref (ad 13) :: rest)) := by
  refine va_iald hexec hb hK hP 13 0 rfl rfl (vp_in_nI hn (by decide)) hdg ?_
  rw [nI_clamp (by omega)]; subst hv; exact kk
theorem astC_ring {v : Int32} (hexec : p.tables.exec = Jvm.exec) (hb : c.code = cc) (hK : va_K (dC, dI) classes [(cI, .int)] s) (hP : va_P (dC, dI) classes (wC cI ad u) H) (hD : va_D A (wC cI ad u)) (hS : va_S A H0 H locs) {n : Nat} (hn : n < 32) (hdg : decode cc pc = .ok (.iastore, 1)) (kk : ∀ (H1 : Heap) (locs1 : List Loc), va_P (dC, dI) classes (wC cI ad (uI u 5 n v)) H1 → va_D A (wC cI ad (uI u 5 n v)) → va_S A H0 H1 locs1 → W p l e R s m args below meth c H1 locs1 cells slots Q (F0 m (pc + 1) ls rest)) : W p l e R s m args below meth c H locs cells slots Q (F0 m pc ls (.int v :: .int (nI n) :: .ref (ad 13) :: rest)) := by
  refine va_iast hexec hb hK hP hD hS 13 0 rfl rfl (vp_in_nI hn (by decide)) hdg (fun H1 locs1 h1 h2 h3 => ?_)
  rw [nI_clamp (by omega)] at h1 h2
  exact kk H1 locs1 h1 h2 h3
theorem aldC_owner {v : Nat} (hexec : p.tables.exec = Jvm.exec) (hb : c.code = cc) (hK : va_K (dC, dI) classes [(cI, .int)] s) (hP : va_P (dC, dI) classes (wC cI ad u) H) {n : Nat} (hn : n < 1536) (hv : aN u 0 n = v) (hdg : decode cc pc = .ok (.iaload, 1)) (kk : W p l e R s m args below meth c H locs cells slots Q (F0 m (pc + 1) ls (.int (nI v) :: rest))) : W p l e R s m args below meth c H locs cells slots Q (F0 m pc ls (.int (nI n) :: .ref (ad 14) :: rest)) := by
  refine va_iald hexec hb hK hP 14 0 rfl rfl (vp_in_nI hn (by decide)) hdg ?_
  rw [nI_clamp (by omega)]; subst hv; exact kk
theorem astC_owner {v : Nat} (hexec : p.tables.exec = Jvm.exec) (hb : c.code = cc) (hK : va_K (dC, dI) classes [(cI, .int)] s) (hP : va_P (dC, dI) classes (wC cI ad u) H) (hD : va_D A (wC cI ad u)) (hS : va_S A H0 H locs) {n : Nat} (hn : n < 1536) (hdg : decode cc pc = .ok (.iastore, 1)) (kk : ∀ (H1 : Heap) (locs1 : List Loc), va_P (dC, dI) classes (wC cI ad (uN u 0 n v)) H1 → va_D A (wC cI ad (uN u 0 n v)) → va_S A H0 H1 locs1 → W p l e R s m args below meth c H1 locs1 cells slots Q (F0 m (pc + 1) ls rest)) : W p l e R s m args below meth c H locs cells slots Q (F0 m pc ls (.int (nI v) :: .int (nI n) :: .ref (ad 14) :: rest)) := by
  refine va_iast hexec hb hK hP hD hS 14 0 rfl rfl (vp_in_nI hn (by decide)) hdg (fun H1 locs1 h1 h2 h3 => ?_)
  rw [nI_clamp (by omega), upd_nI] at h1 h2
  exact kk H1 locs1 h1 h2 h3
theorem aldC_size {v : Nat} (hexec : p.tables.exec = Jvm.exec) (hb : c.code = cc) (hK : va_K (dC, dI) classes [(cI, .int)] s) (hP : va_P (dC, dI) classes (wC cI ad u) H) {n : Nat} (hn : n < 1536) (hv : aN u 1 n = v) (hdg : decode cc pc = .ok (.iaload, 1)) (kk : W p l e R s m args below meth c H locs cells slots Q (F0 m (pc + 1) ls (.int (nI v) :: rest))) : W p l e R s m args below meth c H locs cells slots Q (F0 m pc ls (.int (nI n) :: .ref (ad 15) :: rest)) := by
  refine va_iald hexec hb hK hP 15 0 rfl rfl (vp_in_nI hn (by decide)) hdg ?_
  rw [nI_clamp (by omega)]; subst hv; exact kk
theorem astC_size {v : Nat} (hexec : p.tables.exec = Jvm.exec) (hb : c.code = cc) (hK : va_K (dC, dI) classes [(cI, .int)] s) (hP : va_P (dC, dI) classes (wC cI ad u) H) (hD : va_D A (wC cI ad u)) (hS : va_S A H0 H locs) {n : Nat} (hn : n < 1536) (hdg : decode cc pc = .ok (.iastore, 1)) (kk : ∀ (H1 : Heap) (locs1 : List Loc), va_P (dC, dI) classes (wC cI ad (uN u 1 n v)) H1 → va_D A (wC cI ad (uN u 1 n v)) → va_S A H0 H1 locs1 → W p l e R s m args below meth c H1 locs1 cells slots Q (F0 m (pc + 1) ls rest)) : W p l e R s m args below meth c H locs cells slots Q (F0 m pc ls (.int (nI v) :: .int (nI n) :: .ref (ad 15) :: rest)) := by
  refine va_iast hexec hb hK hP hD hS 15 0 rfl rfl (vp_in_nI hn (by decide)) hdg (fun H1 locs1 h1 h2 h3 => ?_)
  rw [nI_clamp (by omega), upd_nI] at h1 h2
  exact kk H1 locs1 h1 h2 h3
theorem aldC_state {v : Nat} (hexec : p.tables.exec = Jvm.exec) (hb : c.code = cc) (hK : va_K (dC, dI) classes [(cI, .int)] s) (hP : va_P (dC, dI) classes (wC cI ad u) H) {n : Nat} (hn : n < 1536) (hv : aN u 2 n = v) (hdg : decode cc pc = .ok (.iaload, 1)) (kk : W p l e R s m args below meth c H locs cells slots Q (F0 m (pc + 1) ls (.int (nI v) :: rest))) : W p l e R s m args below meth c H locs cells slots Q (F0 m pc ls (.int (nI n) :: .ref (ad 16) :: rest)) := by
  refine va_iald hexec hb hK hP 16 0 rfl rfl (vp_in_nI hn (by decide)) hdg ?_
  rw [nI_clamp (by omega)]; subst hv; exact kk
theorem astC_state {v : Nat} (hexec : p.tables.exec = Jvm.exec) (hb : c.code = cc) (hK : va_K (dC, dI) classes [(cI, .int)] s) (hP : va_P (dC, dI) classes (wC cI ad u) H) (hD : va_D A (wC cI ad u)) (hS : va_S A H0 H locs) {n : Nat} (hn : n < 1536) (hdg : decode cc pc = .ok (.iastore, 1)) (kk : ∀ (H1 : Heap) (locs1 : List Loc), va_P (dC, dI) classes (wC cI ad (uN u 2 n v)) H1 → va_D A (wC cI ad (uN u 2 n v)) → va_S A H0 H1 locs1 → W p l e R s m args below meth c H1 locs1 cells slots Q (F0 m (pc + 1) ls rest)) : W p l e R s m args below meth c H locs cells slots Q (F0 m pc ls (.int (nI v) :: .int (nI n) :: .ref (ad 16) :: rest)) := by
  refine va_iast hexec hb hK hP hD hS 16 0 rfl rfl (vp_in_nI hn (by decide)) hdg (fun H1 locs1 h1 h2 h3 => ?_)
  rw [nI_clamp (by omega), upd_nI] at h1 h2
  exact kk H1 locs1 h1 h2 h3
theorem aldC_line {v : Nat} (hexec : p.tables.exec = Jvm.exec) (hb : c.code = cc) (hK : va_K (dC, dI) classes [(cI, .int)] s) (hP : va_P (dC, dI) classes (wC cI ad u) H) {n : Nat} (hn : n < 1536) (hv : aN u 3 n = v) (hdg : decode cc pc = .ok (.iaload, 1)) (kk : W p l e R s m args below meth c H locs cells slots Q (F0 m (pc + 1) ls (.int (nI v) :: rest))) : W p l e R s m args below meth c H locs cells slots Q (F0 m pc ls (.int (nI n) :: .ref (ad 17) :: rest)) := by
  refine va_iald hexec hb hK hP 17 0 rfl rfl (vp_in_nI hn (by decide)) hdg ?_
  rw [nI_clamp (by omega)]; subst hv; exact kk
theorem astC_line {v : Nat} (hexec : p.tables.exec = Jvm.exec) (hb : c.code = cc) (hK : va_K (dC, dI) classes [(cI, .int)] s) (hP : va_P (dC, dI) classes (wC cI ad u) H) (hD : va_D A (wC cI ad u)) (hS : va_S A H0 H locs) {n : Nat} (hn : n < 1536) (hdg : decode cc pc = .ok (.iastore, 1)) (kk : ∀ (H1 : Heap) (locs1 : List Loc), va_P (dC, dI) classes (wC cI ad (uN u 3 n v)) H1 → va_D A (wC cI ad (uN u 3 n v)) → va_S A H0 H1 locs1 → W p l e R s m args below meth c H1 locs1 cells slots Q (F0 m (pc + 1) ls rest)) : W p l e R s m args below meth c H locs cells slots Q (F0 m pc ls (.int (nI v) :: .int (nI n) :: .ref (ad 17) :: rest)) := by
  refine va_iast hexec hb hK hP hD hS 17 0 rfl rfl (vp_in_nI hn (by decide)) hdg (fun H1 locs1 h1 h2 h3 => ?_)
  rw [nI_clamp (by omega), upd_nI] at h1 h2
  exact kk H1 locs1 h1 h2 h3
theorem aldC_isFound {v : Nat} (hexec : p.tables.exec = Jvm.exec) (hb : c.code = cc) (hK : va_K (dC, dI) classes [(cI, .int)] s) (hP : va_P (dC, dI) classes (wC cI ad u) H) {n : Nat} (hn : n < 1536) (hv : aN u 4 n = v) (hdg : decode cc pc = .ok (.iaload, 1)) (kk : W p l e R s m args below meth c H locs cells slots Q (F0 m (pc + 1) ls (.int (nI v) :: rest))) : W p l e R s m args below meth c H locs cells slots Q (F0 m pc ls (.int (nI n) :: .ref (ad 18) :: rest)) := by
  refine va_iald hexec hb hK hP 18 0 rfl rfl (vp_in_nI hn (by decide)) hdg ?_
  rw [nI_clamp (by omega)]; subst hv; exact kk
theorem astC_isFound {v : Nat} (hexec : p.tables.exec = Jvm.exec) (hb : c.code = cc) (hK : va_K (dC, dI) classes [(cI, .int)] s) (hP : va_P (dC, dI) classes (wC cI ad u) H) (hD : va_D A (wC cI ad u)) (hS : va_S A H0 H locs) {n : Nat} (hn : n < 1536) (hdg : decode cc pc = .ok (.iastore, 1)) (kk : ∀ (H1 : Heap) (locs1 : List Loc), va_P (dC, dI) classes (wC cI ad (uN u 4 n v)) H1 → va_D A (wC cI ad (uN u 4 n v)) → va_S A H0 H1 locs1 → W p l e R s m args below meth c H1 locs1 cells slots Q (F0 m (pc + 1) ls rest)) : W p l e R s m args below meth c H locs cells slots Q (F0 m pc ls (.int (nI v) :: .int (nI n) :: .ref (ad 18) :: rest)) := by
  refine va_iast hexec hb hK hP hD hS 18 0 rfl rfl (vp_in_nI hn (by decide)) hdg (fun H1 locs1 h1 h2 h3 => ?_)
  rw [nI_clamp (by omega), upd_nI] at h1 h2
  exact kk H1 locs1 h1 h2 h3
theorem aldC_found {v : Nat} (hexec : p.tables.exec = Jvm.exec) (hb : c.code = cc) (hK : va_K (dC, dI) classes [(cI, .int)] s) (hP : va_P (dC, dI) classes (wC cI ad u) H) {n : Nat} (hn : n < 1536) (hv : aN u 5 n = v) (hdg : decode cc pc = .ok (.iaload, 1)) (kk : W p l e R s m args below meth c H locs cells slots Q (F0 m (pc + 1) ls (.int (nI v) :: rest))) : W p l e R s m args below meth c H locs cells slots Q (F0 m pc ls (.int (nI n) :: .ref (ad 19) :: rest)) := by
  refine va_iald hexec hb hK hP 19 0 rfl rfl (vp_in_nI hn (by decide)) hdg ?_
  rw [nI_clamp (by omega)]; subst hv; exact kk
theorem astC_found {v : Nat} (hexec : p.tables.exec = Jvm.exec) (hb : c.code = cc) (hK : va_K (dC, dI) classes [(cI, .int)] s) (hP : va_P (dC, dI) classes (wC cI ad u) H) (hD : va_D A (wC cI ad u)) (hS : va_S A H0 H locs) {n : Nat} (hn : n < 1536) (hdg : decode cc pc = .ok (.iastore, 1)) (kk : ∀ (H1 : Heap) (locs1 : List Loc), va_P (dC, dI) classes (wC cI ad (uN u 5 n v)) H1 → va_D A (wC cI ad (uN u 5 n v)) → va_S A H0 H1 locs1 → W p l e R s m args below meth c H1 locs1 cells slots Q (F0 m (pc + 1) ls rest)) : W p l e R s m args below meth c H locs cells slots Q (F0 m pc ls (.int (nI v) :: .int (nI n) :: .ref (ad 19) :: rest)) := by
  refine va_iast hexec hb hK hP hD hS 19 0 rfl rfl (vp_in_nI hn (by decide)) hdg (fun H1 locs1 h1 h2 h3 => ?_)
  rw [nI_clamp (by omega), upd_nI] at h1 h2
  exact kk H1 locs1 h1 h2 h3
theorem aldC_incoming {v : Int32} (hexec : p.tables.exec = Jvm.exec) (hb : c.code = cc) (hK : va_K (dC, dI) classes [(cI, .int)] s) (hP : va_P (dC, dI) classes (wC cI ad u) H) {n : Nat} (hn : n < 1024) (hv : aI u 6 n = v) (hdg : decode cc pc = .ok (.iaload, 1)) (kk : W p l e R s m args below meth c H locs cells slots Q (F0 m (pc + 1) ls (.int v :: rest))) : W p l e R s m args below meth c H locs cells slots Q (F0 m pc ls (.int (nI n) :: .ref (ad 20) :: rest)) := by
  refine va_iald hexec hb hK hP 20 0 rfl rfl (vp_in_nI hn (by decide)) hdg ?_
  rw [nI_clamp (by omega)]; subst hv; exact kk
theorem astC_incoming {v : Int32} (hexec : p.tables.exec = Jvm.exec) (hb : c.code = cc) (hK : va_K (dC, dI) classes [(cI, .int)] s) (hP : va_P (dC, dI) classes (wC cI ad u) H) (hD : va_D A (wC cI ad u)) (hS : va_S A H0 H locs) {n : Nat} (hn : n < 1024) (hdg : decode cc pc = .ok (.iastore, 1)) (kk : ∀ (H1 : Heap) (locs1 : List Loc), va_P (dC, dI) classes (wC cI ad (uI u 6 n v)) H1 → va_D A (wC cI ad (uI u 6 n v)) → va_S A H0 H1 locs1 → W p l e R s m args below meth c H1 locs1 cells slots Q (F0 m (pc + 1) ls rest)) : W p l e R s m args below meth c H locs cells slots Q (F0 m pc ls (.int v :: .int (nI n) :: .ref (ad 20) :: rest)) := by
  refine va_iast hexec hb hK hP hD hS 20 0 rfl rfl (vp_in_nI hn (by decide)) hdg (fun H1 locs1 h1 h2 h3 => ?_)
  rw [nI_clamp (by omega)] at h1 h2
  exact kk H1 locs1 h1 h2 h3
theorem aldC_outgoing {v : Int32} (hexec : p.tables.exec = Jvm.exec) (hb : c.code = cc) (hK : va_K (dC, dI) classes [(cI, .int)] s) (hP : va_P (dC, dI) classes (wC cI ad u) H) {n : Nat} (hn : n < 4096) (hv : aI u 7 n = v) (hdg : decode cc pc = .ok (.iaload, 1)) (kk : W p l e R s m args below meth c H locs cells slots Q (F0 m (pc + 1) ls (.int v :: rest))) : W p l e R s m args below meth c H locs cells slots Q (F0 m pc ls (.int (nI n) :: .ref (ad 21) :: rest)) := by
  refine va_iald hexec hb hK hP 21 0 rfl rfl (vp_in_nI hn (by decide)) hdg ?_
  rw [nI_clamp (by omega)]; subst hv; exact kk
theorem astC_outgoing {v : Int32} (hexec : p.tables.exec = Jvm.exec) (hb : c.code = cc) (hK : va_K (dC, dI) classes [(cI, .int)] s) (hP : va_P (dC, dI) classes (wC cI ad u) H) (hD : va_D A (wC cI ad u)) (hS : va_S A H0 H locs) {n : Nat} (hn : n < 4096) (hdg : decode cc pc = .ok (.iastore, 1)) (kk : ∀ (H1 : Heap) (locs1 : List Loc), va_P (dC, dI) classes (wC cI ad (uI u 7 n v)) H1 → va_D A (wC cI ad (uI u 7 n v)) → va_S A H0 H1 locs1 → W p l e R s m args below meth c H1 locs1 cells slots Q (F0 m (pc + 1) ls rest)) : W p l e R s m args below meth c H locs cells slots Q (F0 m pc ls (.int v :: .int (nI n) :: .ref (ad 21) :: rest)) := by
  refine va_iast hexec hb hK hP hD hS 21 0 rfl rfl (vp_in_nI hn (by decide)) hdg (fun H1 locs1 h1 h2 h3 => ?_)
  rw [nI_clamp (by omega)] at h1 h2
  exact kk H1 locs1 h1 h2 h3
theorem aldM_image {v : Int32} (hexec : p.tables.exec = Jvm.exec) (hb : c.code = cc) (hK : va_K (dC, dI) classes [(cI, .int), (cZ, .boolean)] s) (hP : va_P (dC, dI) classes (wM cI cZ ad u) H) {n : Nat} (hn : n < 16384) (hv : aI u 0 n = v) (hdg : decode cc pc = .ok (.iaload, 1)) (kk : W p l e R s m args below meth c H locs cells slots Q (F0 m (pc + 1) ls (.int v :: rest))) : W p l e R s m args below meth c H locs cells slots Q (F0 m pc ls (.int (nI n) :: .ref (ad 1) :: rest)) := by
  refine va_iald hexec hb hK hP 1 0 rfl rfl (vp_in_nI hn (by decide)) hdg ?_
  rw [nI_clamp (by omega)]; subst hv; exact kk
theorem astM_image {v : Int32} (hexec : p.tables.exec = Jvm.exec) (hb : c.code = cc) (hK : va_K (dC, dI) classes [(cI, .int), (cZ, .boolean)] s) (hP : va_P (dC, dI) classes (wM cI cZ ad u) H) (hD : va_D A (wM cI cZ ad u)) (hS : va_S A H0 H locs) {n : Nat} (hn : n < 16384) (hdg : decode cc pc = .ok (.iastore, 1)) (kk : ∀ (H1 : Heap) (locs1 : List Loc), va_P (dC, dI) classes (wM cI cZ ad (uI u 0 n v)) H1 → va_D A (wM cI cZ ad (uI u 0 n v)) → va_S A H0 H1 locs1 → W p l e R s m args below meth c H1 locs1 cells slots Q (F0 m (pc + 1) ls rest)) : W p l e R s m args below meth c H locs cells slots Q (F0 m pc ls (.int v :: .int (nI n) :: .ref (ad 1) :: rest)) := by
  refine va_iast hexec hb hK hP hD hS 1 0 rfl rfl (vp_in_nI hn (by decide)) hdg (fun H1 locs1 h1 h2 h3 => ?_)
  rw [nI_clamp (by omega)] at h1 h2
  exact kk H1 locs1 h1 h2 h3
theorem aldM_octet {v : Int32} (hexec : p.tables.exec = Jvm.exec) (hb : c.code = cc) (hK : va_K (dC, dI) classes [(cI, .int), (cZ, .boolean)] s) (hP : va_P (dC, dI) classes (wM cI cZ ad u) H) {n : Nat} (hn : n < 65536) (hv : aI u 1 n = v) (hdg : decode cc pc = .ok (.iaload, 1)) (kk : W p l e R s m args below meth c H locs cells slots Q (F0 m (pc + 1) ls (.int v :: rest))) : W p l e R s m args below meth c H locs cells slots Q (F0 m pc ls (.int (nI n) :: .ref (ad 2) :: rest)) := by
  refine va_iald hexec hb hK hP 2 0 rfl rfl (vp_in_nI hn (by decide)) hdg ?_
  rw [nI_clamp (by omega)]; subst hv; exact kk
theorem astM_octet {v : Int32} (hexec : p.tables.exec = Jvm.exec) (hb : c.code = cc) (hK : va_K (dC, dI) classes [(cI, .int), (cZ, .boolean)] s) (hP : va_P (dC, dI) classes (wM cI cZ ad u) H) (hD : va_D A (wM cI cZ ad u)) (hS : va_S A H0 H locs) {n : Nat} (hn : n < 65536) (hdg : decode cc pc = .ok (.iastore, 1)) (kk : ∀ (H1 : Heap) (locs1 : List Loc), va_P (dC, dI) classes (wM cI cZ ad (uI u 1 n v)) H1 → va_D A (wM cI cZ ad (uI u 1 n v)) → va_S A H0 H1 locs1 → W p l e R s m args below meth c H1 locs1 cells slots Q (F0 m (pc + 1) ls rest)) : W p l e R s m args below meth c H locs cells slots Q (F0 m pc ls (.int v :: .int (nI n) :: .ref (ad 2) :: rest)) := by
  refine va_iast hexec hb hK hP hD hS 2 0 rfl rfl (vp_in_nI hn (by decide)) hdg (fun H1 locs1 h1 h2 h3 => ?_)
  rw [nI_clamp (by omega)] at h1 h2
  exact kk H1 locs1 h1 h2 h3
theorem aldM_x {v : Int32} (hexec : p.tables.exec = Jvm.exec) (hb : c.code = cc) (hK : va_K (dC, dI) classes [(cI, .int), (cZ, .boolean)] s) (hP : va_P (dC, dI) classes (wM cI cZ ad u) H) {n : Nat} (hn : n < 32) (hv : aI u 2 n = v) (hdg : decode cc pc = .ok (.iaload, 1)) (kk : W p l e R s m args below meth c H locs cells slots Q (F0 m (pc + 1) ls (.int v :: rest))) : W p l e R s m args below meth c H locs cells slots Q (F0 m pc ls (.int (nI n) :: .ref (ad 3) :: rest)) := by
  refine va_iald hexec hb hK hP 3 0 rfl rfl (vp_in_nI hn (by decide)) hdg ?_
  rw [nI_clamp (by omega)]; subst hv; exact kk
theorem astM_x {v : Int32} (hexec : p.tables.exec = Jvm.exec) (hb : c.code = cc) (hK : va_K (dC, dI) classes [(cI, .int), (cZ, .boolean)] s) (hP : va_P (dC, dI) classes (wM cI cZ ad u) H) (hD : va_D A (wM cI cZ ad u)) (hS : va_S A H0 H locs) {n : Nat} (hn : n < 32) (hdg : decode cc pc = .ok (.iastore, 1)) (kk : ∀ (H1 : Heap) (locs1 : List Loc), va_P (dC, dI) classes (wM cI cZ ad (uI u 2 n v)) H1 → va_D A (wM cI cZ ad (uI u 2 n v)) → va_S A H0 H1 locs1 → W p l e R s m args below meth c H1 locs1 cells slots Q (F0 m (pc + 1) ls rest)) : W p l e R s m args below meth c H locs cells slots Q (F0 m pc ls (.int v :: .int (nI n) :: .ref (ad 3) :: rest)) := by
  refine va_iast hexec hb hK hP hD hS 3 0 rfl rfl (vp_in_nI hn (by decide)) hdg (fun H1 locs1 h1 h2 h3 => ?_)
  rw [nI_clamp (by omega)] at h1 h2
  exact kk H1 locs1 h1 h2 h3
theorem aldM_open {v : Bool} (hexec : p.tables.exec = Jvm.exec) (hb : c.code = cc) (hK : va_K (dC, dI) classes [(cI, .int), (cZ, .boolean)] s) (hP : va_P (dC, dI) classes (wM cI cZ ad u) H) {n : Nat} (hn : n < 65536) (hv : aB u 0 n = v) (hdg : decode cc pc = .ok (.baload, 1)) (kk : W p l e R s m args below meth c H locs cells slots Q (F0 m (pc + 1) ls (.int (b2i v) :: rest))) : W p l e R s m args below meth c H locs cells slots Q (F0 m pc ls (.int (nI n) :: .ref (ad 4) :: rest)) := by
  refine va_zald hexec hb hK hP 4 1 rfl rfl (vp_in_nI hn (by decide)) hdg ?_
  rw [nI_clamp (by omega)]; subst hv; exact kk
theorem astM_open {v : Bool} (hexec : p.tables.exec = Jvm.exec) (hb : c.code = cc) (hK : va_K (dC, dI) classes [(cI, .int), (cZ, .boolean)] s) (hP : va_P (dC, dI) classes (wM cI cZ ad u) H) (hD : va_D A (wM cI cZ ad u)) (hS : va_S A H0 H locs) {n : Nat} (hn : n < 65536) (hdg : decode cc pc = .ok (.bastore, 1)) (kk : ∀ (H1 : Heap) (locs1 : List Loc), va_P (dC, dI) classes (wM cI cZ ad (uB u 0 n v)) H1 → va_D A (wM cI cZ ad (uB u 0 n v)) → va_S A H0 H1 locs1 → W p l e R s m args below meth c H1 locs1 cells slots Q (F0 m (pc + 1) ls rest)) : W p l e R s m args below meth c H locs cells slots Q (F0 m pc ls (.int (b2i v) :: .int (nI n) :: .ref (ad 4) :: rest)) := by
  refine va_zast hexec hb hK hP hD hS 4 1 rfl rfl (vp_in_nI hn (by decide)) hdg (fun H1 locs1 h1 h2 h3 => ?_)
  rw [nI_clamp (by omega), b2i_nar, upd_bI] at h1 h2
  exact kk H1 locs1 h1 h2 h3
theorem aldM_dark {v : Bool} (hexec : p.tables.exec = Jvm.exec) (hb : c.code = cc) (hK : va_K (dC, dI) classes [(cI, .int), (cZ, .boolean)] s) (hP : va_P (dC, dI) classes (wM cI cZ ad u) H) {n : Nat} (hn : n < 524288) (hv : aB u 1 n = v) (hdg : decode cc pc = .ok (.baload, 1)) (kk : W p l e R s m args below meth c H locs cells slots Q (F0 m (pc + 1) ls (.int (b2i v) :: rest))) : W p l e R s m args below meth c H locs cells slots Q (F0 m pc ls (.int (nI n) :: .ref (ad 5) :: rest)) := by
  refine va_zald hexec hb hK hP 5 1 rfl rfl (vp_in_nI hn (by decide)) hdg ?_
  rw [nI_clamp (by omega)]; subst hv; exact kk
theorem astM_dark {v : Bool} (hexec : p.tables.exec = Jvm.exec) (hb : c.code = cc) (hK : va_K (dC, dI) classes [(cI, .int), (cZ, .boolean)] s) (hP : va_P (dC, dI) classes (wM cI cZ ad u) H) (hD : va_D A (wM cI cZ ad u)) (hS : va_S A H0 H locs) {n : Nat} (hn : n < 524288) (hdg : decode cc pc = .ok (.bastore, 1)) (kk : ∀ (H1 : Heap) (locs1 : List Loc), va_P (dC, dI) classes (wM cI cZ ad (uB u 1 n v)) H1 → va_D A (wM cI cZ ad (uB u 1 n v)) → va_S A H0 H1 locs1 → W p l e R s m args below meth c H1 locs1 cells slots Q (F0 m (pc + 1) ls rest)) : W p l e R s m args below meth c H locs cells slots Q (F0 m pc ls (.int (b2i v) :: .int (nI n) :: .ref (ad 5) :: rest)) := by
  refine va_zast hexec hb hK hP hD hS 5 1 rfl rfl (vp_in_nI hn (by decide)) hdg (fun H1 locs1 h1 h2 h3 => ?_)
  rw [nI_clamp (by omega), b2i_nar, upd_bI] at h1 h2
  exact kk H1 locs1 h1 h2 h3
theorem aldM_darkX {v : Bool} (hexec : p.tables.exec = Jvm.exec) (hb : c.code = cc) (hK : va_K (dC, dI) classes [(cI, .int), (cZ, .boolean)] s) (hP : va_P (dC, dI) classes (wM cI cZ ad u) H) {n : Nat} (hn : n < 1024) (hv : aB u 2 n = v) (hdg : decode cc pc = .ok (.baload, 1)) (kk : W p l e R s m args below meth c H locs cells slots Q (F0 m (pc + 1) ls (.int (b2i v) :: rest))) : W p l e R s m args below meth c H locs cells slots Q (F0 m pc ls (.int (nI n) :: .ref (ad 6) :: rest)) := by
  refine va_zald hexec hb hK hP 6 1 rfl rfl (vp_in_nI hn (by decide)) hdg ?_
  rw [nI_clamp (by omega)]; subst hv; exact kk
theorem astM_darkX {v : Bool} (hexec : p.tables.exec = Jvm.exec) (hb : c.code = cc) (hK : va_K (dC, dI) classes [(cI, .int), (cZ, .boolean)] s) (hP : va_P (dC, dI) classes (wM cI cZ ad u) H) (hD : va_D A (wM cI cZ ad u)) (hS : va_S A H0 H locs) {n : Nat} (hn : n < 1024) (hdg : decode cc pc = .ok (.bastore, 1)) (kk : ∀ (H1 : Heap) (locs1 : List Loc), va_P (dC, dI) classes (wM cI cZ ad (uB u 2 n v)) H1 → va_D A (wM cI cZ ad (uB u 2 n v)) → va_S A H0 H1 locs1 → W p l e R s m args below meth c H1 locs1 cells slots Q (F0 m (pc + 1) ls rest)) : W p l e R s m args below meth c H locs cells slots Q (F0 m pc ls (.int (b2i v) :: .int (nI n) :: .ref (ad 6) :: rest)) := by
  refine va_zast hexec hb hK hP hD hS 6 1 rfl rfl (vp_in_nI hn (by decide)) hdg (fun H1 locs1 h1 h2 h3 => ?_)
  rw [nI_clamp (by omega), b2i_nar, upd_bI] at h1 h2
  exact kk H1 locs1 h1 h2 h3
theorem aldM_address {v : Nat} (hexec : p.tables.exec = Jvm.exec) (hb : c.code = cc) (hK : va_K (dC, dI) classes [(cI, .int), (cZ, .boolean)] s) (hP : va_P (dC, dI) classes (wM cI cZ ad u) H) {n : Nat} (hn : n < 800) (hv : aN u 0 n = v) (hdg : decode cc pc = .ok (.iaload, 1)) (kk : W p l e R s m args below meth c H locs cells slots Q (F0 m (pc + 1) ls (.int (nI v) :: rest))) : W p l e R s m args below meth c H locs cells slots Q (F0 m pc ls (.int (nI n) :: .ref (ad 7) :: rest)) := by
  refine va_iald hexec hb hK hP 7 0 rfl rfl (vp_in_nI hn (by decide)) hdg ?_
  rw [nI_clamp (by omega)]; subst hv; exact kk
theorem astM_address {v : Nat} (hexec : p.tables.exec = Jvm.exec) (hb : c.code = cc) (hK : va_K (dC, dI) classes [(cI, .int), (cZ, .boolean)] s) (hP : va_P (dC, dI) classes (wM cI cZ ad u) H) (hD : va_D A (wM cI cZ ad u)) (hS : va_S A H0 H locs) {n : Nat} (hn : n < 800) (hdg : decode cc pc = .ok (.iastore, 1)) (kk : ∀ (H1 : Heap) (locs1 : List Loc), va_P (dC, dI) classes (wM cI cZ ad (uN u 0 n v)) H1 → va_D A (wM cI cZ ad (uN u 0 n v)) → va_S A H0 H1 locs1 → W p l e R s m args below meth c H1 locs1 cells slots Q (F0 m (pc + 1) ls rest)) : W p l e R s m args below meth c H locs cells slots Q (F0 m pc ls (.int (nI v) :: .int (nI n) :: .ref (ad 7) :: rest)) := by
  refine va_iast hexec hb hK hP hD hS 7 0 rfl rfl (vp_in_nI hn (by decide)) hdg (fun H1 locs1 h1 h2 h3 => ?_)
  rw [nI_clamp (by omega), upd_nI] at h1 h2
  exact kk H1 locs1 h1 h2 h3
theorem aldM_length {v : Nat} (hexec : p.tables.exec = Jvm.exec) (hb : c.code = cc) (hK : va_K (dC, dI) classes [(cI, .int), (cZ, .boolean)] s) (hP : va_P (dC, dI) classes (wM cI cZ ad u) H) {n : Nat} (hn : n < 800) (hv : aN u 1 n = v) (hdg : decode cc pc = .ok (.iaload, 1)) (kk : W p l e R s m args below meth c H locs cells slots Q (F0 m (pc + 1) ls (.int (nI v) :: rest))) : W p l e R s m args below meth c H locs cells slots Q (F0 m pc ls (.int (nI n) :: .ref (ad 8) :: rest)) := by
  refine va_iald hexec hb hK hP 8 0 rfl rfl (vp_in_nI hn (by decide)) hdg ?_
  rw [nI_clamp (by omega)]; subst hv; exact kk
theorem astM_length {v : Nat} (hexec : p.tables.exec = Jvm.exec) (hb : c.code = cc) (hK : va_K (dC, dI) classes [(cI, .int), (cZ, .boolean)] s) (hP : va_P (dC, dI) classes (wM cI cZ ad u) H) (hD : va_D A (wM cI cZ ad u)) (hS : va_S A H0 H locs) {n : Nat} (hn : n < 800) (hdg : decode cc pc = .ok (.iastore, 1)) (kk : ∀ (H1 : Heap) (locs1 : List Loc), va_P (dC, dI) classes (wM cI cZ ad (uN u 1 n v)) H1 → va_D A (wM cI cZ ad (uN u 1 n v)) → va_S A H0 H1 locs1 → W p l e R s m args below meth c H1 locs1 cells slots Q (F0 m (pc + 1) ls rest)) : W p l e R s m args below meth c H locs cells slots Q (F0 m pc ls (.int (nI v) :: .int (nI n) :: .ref (ad 8) :: rest)) := by
  refine va_iast hexec hb hK hP hD hS 8 0 rfl rfl (vp_in_nI hn (by decide)) hdg (fun H1 locs1 h1 h2 h3 => ?_)
  rw [nI_clamp (by omega), upd_nI] at h1 h2
  exact kk H1 locs1 h1 h2 h3
theorem aldM_kept {v : Nat} (hexec : p.tables.exec = Jvm.exec) (hb : c.code = cc) (hK : va_K (dC, dI) classes [(cI, .int), (cZ, .boolean)] s) (hP : va_P (dC, dI) classes (wM cI cZ ad u) H) {n : Nat} (hn : n < 800) (hv : aN u 2 n = v) (hdg : decode cc pc = .ok (.iaload, 1)) (kk : W p l e R s m args below meth c H locs cells slots Q (F0 m (pc + 1) ls (.int (nI v) :: rest))) : W p l e R s m args below meth c H locs cells slots Q (F0 m pc ls (.int (nI n) :: .ref (ad 9) :: rest)) := by
  refine va_iald hexec hb hK hP 9 0 rfl rfl (vp_in_nI hn (by decide)) hdg ?_
  rw [nI_clamp (by omega)]; subst hv; exact kk
theorem astM_kept {v : Nat} (hexec : p.tables.exec = Jvm.exec) (hb : c.code = cc) (hK : va_K (dC, dI) classes [(cI, .int), (cZ, .boolean)] s) (hP : va_P (dC, dI) classes (wM cI cZ ad u) H) (hD : va_D A (wM cI cZ ad u)) (hS : va_S A H0 H locs) {n : Nat} (hn : n < 800) (hdg : decode cc pc = .ok (.iastore, 1)) (kk : ∀ (H1 : Heap) (locs1 : List Loc), va_P (dC, dI) classes (wM cI cZ ad (uN u 2 n v)) H1 → va_D A (wM cI cZ ad (uN u 2 n v)) → va_S A H0 H1 locs1 → W p l e R s m args below meth c H1 locs1 cells slots Q (F0 m (pc + 1) ls rest)) : W p l e R s m args below meth c H locs cells slots Q (F0 m pc ls (.int (nI v) :: .int (nI n) :: .ref (ad 9) :: rest)) := by
  refine va_iast hexec hb hK hP hD hS 9 0 rfl rfl (vp_in_nI hn (by decide)) hdg (fun H1 locs1 h1 h2 h3 => ?_)
  rw [nI_clamp (by omega), upd_nI] at h1 h2
  exact kk H1 locs1 h1 h2 h3
theorem aldM_keptLength {v : Nat} (hexec : p.tables.exec = Jvm.exec) (hb : c.code = cc) (hK : va_K (dC, dI) classes [(cI, .int), (cZ, .boolean)] s) (hP : va_P (dC, dI) classes (wM cI cZ ad u) H) {n : Nat} (hn : n < 800) (hv : aN u 3 n = v) (hdg : decode cc pc = .ok (.iaload, 1)) (kk : W p l e R s m args below meth c H locs cells slots Q (F0 m (pc + 1) ls (.int (nI v) :: rest))) : W p l e R s m args below meth c H locs cells slots Q (F0 m pc ls (.int (nI n) :: .ref (ad 10) :: rest)) := by
  refine va_iald hexec hb hK hP 10 0 rfl rfl (vp_in_nI hn (by decide)) hdg ?_
  rw [nI_clamp (by omega)]; subst hv; exact kk
theorem astM_keptLength {v : Nat} (hexec : p.tables.exec = Jvm.exec) (hb : c.code = cc) (hK : va_K (dC, dI) classes [(cI, .int), (cZ, .boolean)] s) (hP : va_P (dC, dI) classes (wM cI cZ ad u) H) (hD : va_D A (wM cI cZ ad u)) (hS : va_S A H0 H locs) {n : Nat} (hn : n < 800) (hdg : decode cc pc = .ok (.iastore, 1)) (kk : ∀ (H1 : Heap) (locs1 : List Loc), va_P (dC, dI) classes (wM cI cZ ad (uN u 3 n v)) H1 → va_D A (wM cI cZ ad (uN u 3 n v)) → va_S A H0 H1 locs1 → W p l e R s m args below meth c H1 locs1 cells slots Q (F0 m (pc + 1) ls rest)) : W p l e R s m args below meth c H locs cells slots Q (F0 m pc ls (.int (nI v) :: .int (nI n) :: .ref (ad 10) :: rest)) := by
  refine va_iast hexec hb hK hP hD hS 10 0 rfl rfl (vp_in_nI hn (by decide)) hdg (fun H1 locs1 h1 h2 h3 => ?_)
  rw [nI_clamp (by omega), upd_nI] at h1 h2
  exact kk H1 locs1 h1 h2 h3
theorem aldM_put {v : Int32} (hexec : p.tables.exec = Jvm.exec) (hb : c.code = cc) (hK : va_K (dC, dI) classes [(cI, .int), (cZ, .boolean)] s) (hP : va_P (dC, dI) classes (wM cI cZ ad u) H) {n : Nat} (hn : n < 1024) (hv : aI u 3 n = v) (hdg : decode cc pc = .ok (.iaload, 1)) (kk : W p l e R s m args below meth c H locs cells slots Q (F0 m (pc + 1) ls (.int v :: rest))) : W p l e R s m args below meth c H locs cells slots Q (F0 m pc ls (.int (nI n) :: .ref (ad 11) :: rest)) := by
  refine va_iald hexec hb hK hP 11 0 rfl rfl (vp_in_nI hn (by decide)) hdg ?_
  rw [nI_clamp (by omega)]; subst hv; exact kk
theorem astM_put {v : Int32} (hexec : p.tables.exec = Jvm.exec) (hb : c.code = cc) (hK : va_K (dC, dI) classes [(cI, .int), (cZ, .boolean)] s) (hP : va_P (dC, dI) classes (wM cI cZ ad u) H) (hD : va_D A (wM cI cZ ad u)) (hS : va_S A H0 H locs) {n : Nat} (hn : n < 1024) (hdg : decode cc pc = .ok (.iastore, 1)) (kk : ∀ (H1 : Heap) (locs1 : List Loc), va_P (dC, dI) classes (wM cI cZ ad (uI u 3 n v)) H1 → va_D A (wM cI cZ ad (uI u 3 n v)) → va_S A H0 H1 locs1 → W p l e R s m args below meth c H1 locs1 cells slots Q (F0 m (pc + 1) ls rest)) : W p l e R s m args below meth c H locs cells slots Q (F0 m pc ls (.int v :: .int (nI n) :: .ref (ad 11) :: rest)) := by
  refine va_iast hexec hb hK hP hD hS 11 0 rfl rfl (vp_in_nI hn (by decide)) hdg (fun H1 locs1 h1 h2 h3 => ?_)
  rw [nI_clamp (by omega)] at h1 h2
  exact kk H1 locs1 h1 h2 h3
theorem aldM_out {v : Int32} (hexec : p.tables.exec = Jvm.exec) (hb : c.code = cc) (hK : va_K (dC, dI) classes [(cI, .int), (cZ, .boolean)] s) (hP : va_P (dC, dI) classes (wM cI cZ ad u) H) {n : Nat} (hn : n < 4096) (hv : aI u 4 n = v) (hdg : decode cc pc = .ok (.iaload, 1)) (kk : W p l e R s m args below meth c H locs cells slots Q (F0 m (pc + 1) ls (.int v :: rest))) : W p l e R s m args below meth c H locs cells slots Q (F0 m pc ls (.int (nI n) :: .ref (ad 12) :: rest)) := by
  refine va_iald hexec hb hK hP 12 0 rfl rfl (vp_in_nI hn (by decide)) hdg ?_
  rw [nI_clamp (by omega)]; subst hv; exact kk
theorem astM_out {v : Int32} (hexec : p.tables.exec = Jvm.exec) (hb : c.code = cc) (hK : va_K (dC, dI) classes [(cI, .int), (cZ, .boolean)] s) (hP : va_P (dC, dI) classes (wM cI cZ ad u) H) (hD : va_D A (wM cI cZ ad u)) (hS : va_S A H0 H locs) {n : Nat} (hn : n < 4096) (hdg : decode cc pc = .ok (.iastore, 1)) (kk : ∀ (H1 : Heap) (locs1 : List Loc), va_P (dC, dI) classes (wM cI cZ ad (uI u 4 n v)) H1 → va_D A (wM cI cZ ad (uI u 4 n v)) → va_S A H0 H1 locs1 → W p l e R s m args below meth c H1 locs1 cells slots Q (F0 m (pc + 1) ls rest)) : W p l e R s m args below meth c H locs cells slots Q (F0 m pc ls (.int v :: .int (nI n) :: .ref (ad 12) :: rest)) := by
  refine va_iast hexec hb hK hP hD hS 12 0 rfl rfl (vp_in_nI hn (by decide)) hdg (fun H1 locs1 h1 h2 h3 => ?_)
  rw [nI_clamp (by omega)] at h1 h2
  exact kk H1 locs1 h1 h2 h3
theorem aldM_returns {v : Int32} (hexec : p.tables.exec = Jvm.exec) (hb : c.code = cc) (hK : va_K (dC, dI) classes [(cI, .int), (cZ, .boolean)] s) (hP : va_P (dC, dI) classes (wM cI cZ ad u) H) {n : Nat} (hn : n < 32) (hv : aI u 5 n = v) (hdg : decode cc pc = .ok (.iaload, 1)) (kk : W p l e R s m args below meth c H locs cells slots Q (F0 m (pc + 1) ls (.int v :: rest))) : W p l e R s m args below meth c H locs cells slots Q (F0 m pc ls (.int (nI n) :: .ref (ad 13) :: rest)) := by
  refine va_iald hexec hb hK hP 13 0 rfl rfl (vp_in_nI hn (by decide)) hdg ?_
  rw [nI_clamp (by omega)]; subst hv; exact kk
theorem astM_returns {v : Int32} (hexec : p.tables.exec = Jvm.exec) (hb : c.code = cc) (hK : va_K (dC, dI) classes [(cI, .int), (cZ, .boolean)] s) (hP : va_P (dC, dI) classes (wM cI cZ ad u) H) (hD : va_D A (wM cI cZ ad u)) (hS : va_S A H0 H locs) {n : Nat} (hn : n < 32) (hdg : decode cc pc = .ok (.iastore, 1)) (kk : ∀ (H1 : Heap) (locs1 : List Loc), va_P (dC, dI) classes (wM cI cZ ad (uI u 5 n v)) H1 → va_D A (wM cI cZ ad (uI u 5 n v)) → va_S A H0 H1 locs1 → W p l e R s m args below meth c H1 locs1 cells slots Q (F0 m (pc + 1) ls rest)) : W p l e R s m args below meth c H locs cells slots Q (F0 m pc ls (.int v :: .int (nI n) :: .ref (ad 13) :: rest)) := by
  refine va_iast hexec hb hK hP hD hS 13 0 rfl rfl (vp_in_nI hn (by decide)) hdg (fun H1 locs1 h1 h2 h3 => ?_)
  rw [nI_clamp (by omega)] at h1 h2
  exact kk H1 locs1 h1 h2 h3
theorem aldM_errorKind {v : Int32} (hexec : p.tables.exec = Jvm.exec) (hb : c.code = cc) (hK : va_K (dC, dI) classes [(cI, .int), (cZ, .boolean)] s) (hP : va_P (dC, dI) classes (wM cI cZ ad u) H) {n : Nat} (hn : n < 60) (hv : aI u 6 n = v) (hdg : decode cc pc = .ok (.iaload, 1)) (kk : W p l e R s m args below meth c H locs cells slots Q (F0 m (pc + 1) ls (.int v :: rest))) : W p l e R s m args below meth c H locs cells slots Q (F0 m pc ls (.int (nI n) :: .ref (ad 14) :: rest)) := by
  refine va_iald hexec hb hK hP 14 0 rfl rfl (vp_in_nI hn (by decide)) hdg ?_
  rw [nI_clamp (by omega)]; subst hv; exact kk
theorem astM_errorKind {v : Int32} (hexec : p.tables.exec = Jvm.exec) (hb : c.code = cc) (hK : va_K (dC, dI) classes [(cI, .int), (cZ, .boolean)] s) (hP : va_P (dC, dI) classes (wM cI cZ ad u) H) (hD : va_D A (wM cI cZ ad u)) (hS : va_S A H0 H locs) {n : Nat} (hn : n < 60) (hdg : decode cc pc = .ok (.iastore, 1)) (kk : ∀ (H1 : Heap) (locs1 : List Loc), va_P (dC, dI) classes (wM cI cZ ad (uI u 6 n v)) H1 → va_D A (wM cI cZ ad (uI u 6 n v)) → va_S A H0 H1 locs1 → W p l e R s m args below meth c H1 locs1 cells slots Q (F0 m (pc + 1) ls rest)) : W p l e R s m args below meth c H locs cells slots Q (F0 m pc ls (.int v :: .int (nI n) :: .ref (ad 14) :: rest)) := by
  refine va_iast hexec hb hK hP hD hS 14 0 rfl rfl (vp_in_nI hn (by decide)) hdg (fun H1 locs1 h1 h2 h3 => ?_)
  rw [nI_clamp (by omega)] at h1 h2
  exact kk H1 locs1 h1 h2 h3
theorem aldM_errorPc {v : Int32} (hexec : p.tables.exec = Jvm.exec) (hb : c.code = cc) (hK : va_K (dC, dI) classes [(cI, .int), (cZ, .boolean)] s) (hP : va_P (dC, dI) classes (wM cI cZ ad u) H) {n : Nat} (hn : n < 60) (hv : aI u 7 n = v) (hdg : decode cc pc = .ok (.iaload, 1)) (kk : W p l e R s m args below meth c H locs cells slots Q (F0 m (pc + 1) ls (.int v :: rest))) : W p l e R s m args below meth c H locs cells slots Q (F0 m pc ls (.int (nI n) :: .ref (ad 15) :: rest)) := by
  refine va_iald hexec hb hK hP 15 0 rfl rfl (vp_in_nI hn (by decide)) hdg ?_
  rw [nI_clamp (by omega)]; subst hv; exact kk
theorem astM_errorPc {v : Int32} (hexec : p.tables.exec = Jvm.exec) (hb : c.code = cc) (hK : va_K (dC, dI) classes [(cI, .int), (cZ, .boolean)] s) (hP : va_P (dC, dI) classes (wM cI cZ ad u) H) (hD : va_D A (wM cI cZ ad u)) (hS : va_S A H0 H locs) {n : Nat} (hn : n < 60) (hdg : decode cc pc = .ok (.iastore, 1)) (kk : ∀ (H1 : Heap) (locs1 : List Loc), va_P (dC, dI) classes (wM cI cZ ad (uI u 7 n v)) H1 → va_D A (wM cI cZ ad (uI u 7 n v)) → va_S A H0 H1 locs1 → W p l e R s m args below meth c H1 locs1 cells slots Q (F0 m (pc + 1) ls rest)) : W p l e R s m args below meth c H locs cells slots Q (F0 m pc ls (.int v :: .int (nI n) :: .ref (ad 15) :: rest)) := by
  refine va_iast hexec hb hK hP hD hS 15 0 rfl rfl (vp_in_nI hn (by decide)) hdg (fun H1 locs1 h1 h2 h3 => ?_)
  rw [nI_clamp (by omega)] at h1 h2
  exact kk H1 locs1 h1 h2 h3
theorem aldM_errorNumber {v : Int32} (hexec : p.tables.exec = Jvm.exec) (hb : c.code = cc) (hK : va_K (dC, dI) classes [(cI, .int), (cZ, .boolean)] s) (hP : va_P (dC, dI) classes (wM cI cZ ad u) H) {n : Nat} (hn : n < 60) (hv : aI u 8 n = v) (hdg : decode cc pc = .ok (.iaload, 1)) (kk : W p l e R s m args below meth c H locs cells slots Q (F0 m (pc + 1) ls (.int v :: rest))) : W p l e R s m args below meth c H locs cells slots Q (F0 m pc ls (.int (nI n) :: .ref (ad 16) :: rest)) := by
  refine va_iald hexec hb hK hP 16 0 rfl rfl (vp_in_nI hn (by decide)) hdg ?_
  rw [nI_clamp (by omega)]; subst hv; exact kk
theorem astM_errorNumber {v : Int32} (hexec : p.tables.exec = Jvm.exec) (hb : c.code = cc) (hK : va_K (dC, dI) classes [(cI, .int), (cZ, .boolean)] s) (hP : va_P (dC, dI) classes (wM cI cZ ad u) H) (hD : va_D A (wM cI cZ ad u)) (hS : va_S A H0 H locs) {n : Nat} (hn : n < 60) (hdg : decode cc pc = .ok (.iastore, 1)) (kk : ∀ (H1 : Heap) (locs1 : List Loc), va_P (dC, dI) classes (wM cI cZ ad (uI u 8 n v)) H1 → va_D A (wM cI cZ ad (uI u 8 n v)) → va_S A H0 H1 locs1 → W p l e R s m args below meth c H1 locs1 cells slots Q (F0 m (pc + 1) ls rest)) : W p l e R s m args below meth c H locs cells slots Q (F0 m pc ls (.int v :: .int (nI n) :: .ref (ad 16) :: rest)) := by
  refine va_iast hexec hb hK hP hD hS 16 0 rfl rfl (vp_in_nI hn (by decide)) hdg (fun H1 locs1 h1 h2 h3 => ?_)
  rw [nI_clamp (by omega)] at h1 h2
  exact kk H1 locs1 h1 h2 h3
theorem aldM_errorReturn {v : Int32} (hexec : p.tables.exec = Jvm.exec) (hb : c.code = cc) (hK : va_K (dC, dI) classes [(cI, .int), (cZ, .boolean)] s) (hP : va_P (dC, dI) classes (wM cI cZ ad u) H) {n : Nat} (hn : n < 240) (hv : aI u 9 n = v) (hdg : decode cc pc = .ok (.iaload, 1)) (kk : W p l e R s m args below meth c H locs cells slots Q (F0 m (pc + 1) ls (.int v :: rest))) : W p l e R s m args below meth c H locs cells slots Q (F0 m pc ls (.int (nI n) :: .ref (ad 17) :: rest)) := by
  refine va_iald hexec hb hK hP 17 0 rfl rfl (vp_in_nI hn (by decide)) hdg ?_
  rw [nI_clamp (by omega)]; subst hv; exact kk
theorem astM_errorReturn {v : Int32} (hexec : p.tables.exec = Jvm.exec) (hb : c.code = cc) (hK : va_K (dC, dI) classes [(cI, .int), (cZ, .boolean)] s) (hP : va_P (dC, dI) classes (wM cI cZ ad u) H) (hD : va_D A (wM cI cZ ad u)) (hS : va_S A H0 H locs) {n : Nat} (hn : n < 240) (hdg : decode cc pc = .ok (.iastore, 1)) (kk : ∀ (H1 : Heap) (locs1 : List Loc), va_P (dC, dI) classes (wM cI cZ ad (uI u 9 n v)) H1 → va_D A (wM cI cZ ad (uI u 9 n v)) → va_S A H0 H1 locs1 → W p l e R s m args below meth c H1 locs1 cells slots Q (F0 m (pc + 1) ls rest)) : W p l e R s m args below meth c H locs cells slots Q (F0 m pc ls (.int v :: .int (nI n) :: .ref (ad 17) :: rest)) := by
  refine va_iast hexec hb hK hP hD hS 17 0 rfl rfl (vp_in_nI hn (by decide)) hdg (fun H1 locs1 h1 h2 h3 => ?_)
  rw [nI_clamp (by omega)] at h1 h2
  exact kk H1 locs1 h1 h2 h3
theorem aldM_found {v : Bool} (hexec : p.tables.exec = Jvm.exec) (hb : c.code = cc) (hK : va_K (dC, dI) classes [(cI, .int), (cZ, .boolean)] s) (hP : va_P (dC, dI) classes (wM cI cZ ad u) H) {n : Nat} (hn : n < 800) (hv : aB u 3 n = v) (hdg : decode cc pc = .ok (.baload, 1)) (kk : W p l e R s m args below meth c H locs cells slots Q (F0 m (pc + 1) ls (.int (b2i v) :: rest))) : W p l e R s m args below meth c H locs cells slots Q (F0 m pc ls (.int (nI n) :: .ref (ad 18) :: rest)) := by
  refine va_zald hexec hb hK hP 18 1 rfl rfl (vp_in_nI hn (by decide)) hdg ?_
  rw [nI_clamp (by omega)]; subst hv; exact kk
theorem astM_found {v : Bool} (hexec : p.tables.exec = Jvm.exec) (hb : c.code = cc) (hK : va_K (dC, dI) classes [(cI, .int), (cZ, .boolean)] s) (hP : va_P (dC, dI) classes (wM cI cZ ad u) H) (hD : va_D A (wM cI cZ ad u)) (hS : va_S A H0 H locs) {n : Nat} (hn : n < 800) (hdg : decode cc pc = .ok (.bastore, 1)) (kk : ∀ (H1 : Heap) (locs1 : List Loc), va_P (dC, dI) classes (wM cI cZ ad (uB u 3 n v)) H1 → va_D A (wM cI cZ ad (uB u 3 n v)) → va_S A H0 H1 locs1 → W p l e R s m args below meth c H1 locs1 cells slots Q (F0 m (pc + 1) ls rest)) : W p l e R s m args below meth c H locs cells slots Q (F0 m pc ls (.int (b2i v) :: .int (nI n) :: .ref (ad 18) :: rest)) := by
  refine va_zast hexec hb hK hP hD hS 18 1 rfl rfl (vp_in_nI hn (by decide)) hdg (fun H1 locs1 h1 h2 h3 => ?_)
  rw [nI_clamp (by omega), b2i_nar, upd_bI] at h1 h2
  exact kk H1 locs1 h1 h2 h3
end WRL
