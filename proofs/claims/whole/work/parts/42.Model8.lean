def w_Mo_begin : List Cond := .code y_Mo_begin b_Mo_begin 3 none :: ALLW
def rm_Mo_begin : Room := { frames := 20, cells := 0, slots := 0, locals := 600 }
theorem d_Mo_begin_0 : decode b_Mo_begin 0 = .ok (.aload_n 0, 1) := by decide +kernel
theorem d_Mo_begin_1 : decode b_Mo_begin 1 = .ok (.iconst 0, 1) := by decide +kernel
theorem d_Mo_begin_2 : decode b_Mo_begin 2 = .ok (.putfield 70, 3) := by decide +kernel
theorem d_Mo_begin_5 : decode b_Mo_begin 5 = .ok (.iconst 0, 1) := by decide +kernel
theorem d_Mo_begin_6 : decode b_Mo_begin 6 = .ok (.istore_n 1, 1) := by decide +kernel
theorem d_Mo_begin_7 : decode b_Mo_begin 7 = .ok (.iload_n 1, 1) := by decide +kernel
theorem d_Mo_begin_8 : decode b_Mo_begin 8 = .ok (.ldc 13, 2) := by decide +kernel
theorem d_Mo_begin_10 : decode b_Mo_begin 10 = .ok (.if_icmp .ge 92, 3) := by decide +kernel
theorem d_Mo_begin_13 : decode b_Mo_begin 13 = .ok (.aload_n 0, 1) := by decide +kernel
theorem d_Mo_begin_14 : decode b_Mo_begin 14 = .ok (.getfield 14, 3) := by decide +kernel
theorem d_Mo_begin_17 : decode b_Mo_begin 17 = .ok (.iload_n 1, 1) := by decide +kernel
theorem d_Mo_begin_18 : decode b_Mo_begin 18 = .ok (.iload_n 1, 1) := by decide +kernel
theorem d_Mo_begin_19 : decode b_Mo_begin 19 = .ok (.sipush 16384, 3) := by decide +kernel
theorem d_Mo_begin_22 : decode b_Mo_begin 22 = .ok (.if_icmp .ge 12, 3) := by decide +kernel
theorem d_Mo_begin_25 : decode b_Mo_begin 25 = .ok (.aload_n 0, 1) := by decide +kernel
theorem d_Mo_begin_26 : decode b_Mo_begin 26 = .ok (.getfield 9, 3) := by decide +kernel
theorem d_Mo_begin_29 : decode b_Mo_begin 29 = .ok (.iload_n 1, 1) := by decide +kernel
theorem d_Mo_begin_30 : decode b_Mo_begin 30 = .ok (.iaload, 1) := by decide +kernel
theorem d_Mo_begin_31 : decode b_Mo_begin 31 = .ok (.goto 4, 3) := by decide +kernel
theorem d_Mo_begin_34 : decode b_Mo_begin 34 = .ok (.iconst 0, 1) := by decide +kernel
theorem d_Mo_begin_35 : decode b_Mo_begin 35 = .ok (.iastore, 1) := by decide +kernel
theorem d_Mo_begin_36 : decode b_Mo_begin 36 = .ok (.aload_n 0, 1) := by decide +kernel
theorem d_Mo_begin_37 : decode b_Mo_begin 37 = .ok (.getfield 20, 3) := by decide +kernel
theorem d_Mo_begin_40 : decode b_Mo_begin 40 = .ok (.iload_n 1, 1) := by decide +kernel
theorem d_Mo_begin_41 : decode b_Mo_begin 41 = .ok (.iload_n 1, 1) := by decide +kernel
theorem d_Mo_begin_42 : decode b_Mo_begin 42 = .ok (.sipush 16384, 3) := by decide +kernel
theorem d_Mo_begin_45 : decode b_Mo_begin 45 = .ok (.if_icmp .lt 9, 3) := by decide +kernel
theorem d_Mo_begin_48 : decode b_Mo_begin 48 = .ok (.iload_n 1, 1) := by decide +kernel
theorem d_Mo_begin_49 : decode b_Mo_begin 49 = .ok (.ldc 81, 2) := by decide +kernel
theorem d_Mo_begin_51 : decode b_Mo_begin 51 = .ok (.if_icmp .lt 7, 3) := by decide +kernel
theorem d_Mo_begin_54 : decode b_Mo_begin 54 = .ok (.iconst 1, 1) := by decide +kernel
theorem d_Mo_begin_55 : decode b_Mo_begin 55 = .ok (.goto 4, 3) := by decide +kernel
theorem d_Mo_begin_58 : decode b_Mo_begin 58 = .ok (.iconst 0, 1) := by decide +kernel
theorem d_Mo_begin_59 : decode b_Mo_begin 59 = .ok (.bastore, 1) := by decide +kernel
theorem d_Mo_begin_60 : decode b_Mo_begin 60 = .ok (.iconst 0, 1) := by decide +kernel
theorem d_Mo_begin_61 : decode b_Mo_begin 61 = .ok (.istore_n 2, 1) := by decide +kernel
theorem d_Mo_begin_62 : decode b_Mo_begin 62 = .ok (.iload_n 2, 1) := by decide +kernel
theorem d_Mo_begin_63 : decode b_Mo_begin 63 = .ok (.bipush 8, 2) := by decide +kernel
theorem d_Mo_begin_65 : decode b_Mo_begin 65 = .ok (.if_icmp .ge 31, 3) := by decide +kernel
theorem d_Mo_begin_68 : decode b_Mo_begin 68 = .ok (.aload_n 0, 1) := by decide +kernel
theorem d_Mo_begin_69 : decode b_Mo_begin 69 = .ok (.getfield 25, 3) := by decide +kernel
theorem d_Mo_begin_72 : decode b_Mo_begin 72 = .ok (.bipush 8, 2) := by decide +kernel
theorem d_Mo_begin_74 : decode b_Mo_begin 74 = .ok (.iload_n 1, 1) := by decide +kernel
theorem d_Mo_begin_75 : decode b_Mo_begin 75 = .ok (.imul, 1) := by decide +kernel
theorem d_Mo_begin_76 : decode b_Mo_begin 76 = .ok (.iload_n 2, 1) := by decide +kernel
theorem d_Mo_begin_77 : decode b_Mo_begin 77 = .ok (.iadd, 1) := by decide +kernel
theorem d_Mo_begin_78 : decode b_Mo_begin 78 = .ok (.iload_n 1, 1) := by decide +kernel
theorem d_Mo_begin_79 : decode b_Mo_begin 79 = .ok (.ldc 81, 2) := by decide +kernel
theorem d_Mo_begin_81 : decode b_Mo_begin 81 = .ok (.if_icmp .lt 7, 3) := by decide +kernel
theorem d_Mo_begin_84 : decode b_Mo_begin 84 = .ok (.iconst 1, 1) := by decide +kernel
theorem d_Mo_begin_85 : decode b_Mo_begin 85 = .ok (.goto 4, 3) := by decide +kernel
theorem d_Mo_begin_88 : decode b_Mo_begin 88 = .ok (.iconst 0, 1) := by decide +kernel
theorem d_Mo_begin_89 : decode b_Mo_begin 89 = .ok (.bastore, 1) := by decide +kernel
theorem d_Mo_begin_90 : decode b_Mo_begin 90 = .ok (.iinc 2 1, 3) := by decide +kernel
theorem d_Mo_begin_93 : decode b_Mo_begin 93 = .ok (.goto (-31), 3) := by decide +kernel
theorem d_Mo_begin_96 : decode b_Mo_begin 96 = .ok (.iinc 1 1, 3) := by decide +kernel
theorem d_Mo_begin_99 : decode b_Mo_begin 99 = .ok (.goto (-92), 3) := by decide +kernel
theorem d_Mo_begin_102 : decode b_Mo_begin 102 = .ok (.iconst 0, 1) := by decide +kernel
theorem d_Mo_begin_103 : decode b_Mo_begin 103 = .ok (.istore_n 1, 1) := by decide +kernel
theorem d_Mo_begin_104 : decode b_Mo_begin 104 = .ok (.iload_n 1, 1) := by decide +kernel
theorem d_Mo_begin_105 : decode b_Mo_begin 105 = .ok (.bipush 32, 2) := by decide +kernel
theorem d_Mo_begin_107 : decode b_Mo_begin 107 = .ok (.if_icmp .ge 65, 3) := by decide +kernel
theorem d_Mo_begin_110 : decode b_Mo_begin 110 = .ok (.aload_n 0, 1) := by decide +kernel
theorem d_Mo_begin_111 : decode b_Mo_begin 111 = .ok (.getfield 17, 3) := by decide +kernel
theorem d_Mo_begin_114 : decode b_Mo_begin 114 = .ok (.iload_n 1, 1) := by decide +kernel
theorem d_Mo_begin_115 : decode b_Mo_begin 115 = .ok (.iload_n 1, 1) := by decide +kernel
theorem d_Mo_begin_116 : decode b_Mo_begin 116 = .ok (.iconst 2, 1) := by decide +kernel
theorem d_Mo_begin_117 : decode b_Mo_begin 117 = .ok (.if_icmp .ne 8, 3) := by decide +kernel
theorem d_Mo_begin_120 : decode b_Mo_begin 120 = .ok (.ldc 13, 2) := by decide +kernel
theorem d_Mo_begin_122 : decode b_Mo_begin 122 = .ok (.goto 4, 3) := by decide +kernel
theorem d_Mo_begin_125 : decode b_Mo_begin 125 = .ok (.iconst 0, 1) := by decide +kernel
theorem d_Mo_begin_126 : decode b_Mo_begin 126 = .ok (.iastore, 1) := by decide +kernel
theorem d_Mo_begin_127 : decode b_Mo_begin 127 = .ok (.iconst 0, 1) := by decide +kernel
theorem d_Mo_begin_128 : decode b_Mo_begin 128 = .ok (.istore_n 2, 1) := by decide +kernel
theorem d_Mo_begin_129 : decode b_Mo_begin 129 = .ok (.iload_n 2, 1) := by decide +kernel
theorem d_Mo_begin_130 : decode b_Mo_begin 130 = .ok (.bipush 32, 2) := by decide +kernel
theorem d_Mo_begin_132 : decode b_Mo_begin 132 = .ok (.if_icmp .ge 34, 3) := by decide +kernel
theorem d_Mo_begin_135 : decode b_Mo_begin 135 = .ok (.aload_n 0, 1) := by decide +kernel
theorem d_Mo_begin_136 : decode b_Mo_begin 136 = .ok (.getfield 28, 3) := by decide +kernel
theorem d_Mo_begin_139 : decode b_Mo_begin 139 = .ok (.bipush 32, 2) := by decide +kernel
theorem d_Mo_begin_141 : decode b_Mo_begin 141 = .ok (.iload_n 1, 1) := by decide +kernel
theorem d_Mo_begin_142 : decode b_Mo_begin 142 = .ok (.imul, 1) := by decide +kernel
theorem d_Mo_begin_143 : decode b_Mo_begin 143 = .ok (.iload_n 2, 1) := by decide +kernel
theorem d_Mo_begin_144 : decode b_Mo_begin 144 = .ok (.iadd, 1) := by decide +kernel
theorem d_Mo_begin_145 : decode b_Mo_begin 145 = .ok (.iload_n 1, 1) := by decide +kernel
theorem d_Mo_begin_146 : decode b_Mo_begin 146 = .ok (.ifCond .eq 12, 3) := by decide +kernel
theorem d_Mo_begin_149 : decode b_Mo_begin 149 = .ok (.iload_n 1, 1) := by decide +kernel
theorem d_Mo_begin_150 : decode b_Mo_begin 150 = .ok (.iconst 2, 1) := by decide +kernel
theorem d_Mo_begin_151 : decode b_Mo_begin 151 = .ok (.if_icmp .eq 7, 3) := by decide +kernel
theorem d_Mo_begin_154 : decode b_Mo_begin 154 = .ok (.iconst 1, 1) := by decide +kernel
theorem d_Mo_begin_155 : decode b_Mo_begin 155 = .ok (.goto 4, 3) := by decide +kernel
theorem d_Mo_begin_158 : decode b_Mo_begin 158 = .ok (.iconst 0, 1) := by decide +kernel
theorem d_Mo_begin_159 : decode b_Mo_begin 159 = .ok (.bastore, 1) := by decide +kernel
theorem d_Mo_begin_160 : decode b_Mo_begin 160 = .ok (.iinc 2 1, 3) := by decide +kernel
theorem d_Mo_begin_163 : decode b_Mo_begin 163 = .ok (.goto (-34), 3) := by decide +kernel
theorem d_Mo_begin_166 : decode b_Mo_begin 166 = .ok (.iinc 1 1, 3) := by decide +kernel
theorem d_Mo_begin_169 : decode b_Mo_begin 169 = .ok (.goto (-65), 3) := by decide +kernel
theorem d_Mo_begin_172 : decode b_Mo_begin 172 = .ok (.aload_n 0, 1) := by decide +kernel
theorem d_Mo_begin_173 : decode b_Mo_begin 173 = .ok (.iconst 0, 1) := by decide +kernel
theorem d_Mo_begin_174 : decode b_Mo_begin 174 = .ok (.putfield 82, 3) := by decide +kernel
theorem d_Mo_begin_177 : decode b_Mo_begin 177 = .ok (.aload_n 0, 1) := by decide +kernel
theorem d_Mo_begin_178 : decode b_Mo_begin 178 = .ok (.iconst 0, 1) := by decide +kernel
theorem d_Mo_begin_179 : decode b_Mo_begin 179 = .ok (.putfield 85, 3) := by decide +kernel
theorem d_Mo_begin_182 : decode b_Mo_begin 182 = .ok (.aload_n 0, 1) := by decide +kernel
theorem d_Mo_begin_183 : decode b_Mo_begin 183 = .ok (.iconst 0, 1) := by decide +kernel
theorem d_Mo_begin_184 : decode b_Mo_begin 184 = .ok (.putfield 88, 3) := by decide +kernel
theorem d_Mo_begin_187 : decode b_Mo_begin 187 = .ok (.aload_n 0, 1) := by decide +kernel
theorem d_Mo_begin_188 : decode b_Mo_begin 188 = .ok (.iconst 0, 1) := by decide +kernel
theorem d_Mo_begin_189 : decode b_Mo_begin 189 = .ok (.putfield 91, 3) := by decide +kernel
theorem d_Mo_begin_192 : decode b_Mo_begin 192 = .ok (.aload_n 0, 1) := by decide +kernel
theorem d_Mo_begin_193 : decode b_Mo_begin 193 = .ok (.iconst 0, 1) := by decide +kernel
theorem d_Mo_begin_194 : decode b_Mo_begin 194 = .ok (.putfield 94, 3) := by decide +kernel
theorem d_Mo_begin_197 : decode b_Mo_begin 197 = .ok (.aload_n 0, 1) := by decide +kernel
theorem d_Mo_begin_198 : decode b_Mo_begin 198 = .ok (.iconst 0, 1) := by decide +kernel
theorem d_Mo_begin_199 : decode b_Mo_begin 199 = .ok (.putfield 97, 3) := by decide +kernel
theorem d_Mo_begin_202 : decode b_Mo_begin 202 = .ok (.aload_n 0, 1) := by decide +kernel
theorem d_Mo_begin_203 : decode b_Mo_begin 203 = .ok (.iconst 0, 1) := by decide +kernel
theorem d_Mo_begin_204 : decode b_Mo_begin 204 = .ok (.putfield 100, 3) := by decide +kernel
theorem d_Mo_begin_207 : decode b_Mo_begin 207 = .ok (.aload_n 0, 1) := by decide +kernel
theorem d_Mo_begin_208 : decode b_Mo_begin 208 = .ok (.iconst 0, 1) := by decide +kernel
theorem d_Mo_begin_209 : decode b_Mo_begin 209 = .ok (.putfield 103, 3) := by decide +kernel
theorem d_Mo_begin_212 : decode b_Mo_begin 212 = .ok (.aload_n 0, 1) := by decide +kernel
theorem d_Mo_begin_213 : decode b_Mo_begin 213 = .ok (.iconst 0, 1) := by decide +kernel
theorem d_Mo_begin_214 : decode b_Mo_begin 214 = .ok (.putfield 106, 3) := by decide +kernel
theorem d_Mo_begin_217 : decode b_Mo_begin 217 = .ok (.aload_n 0, 1) := by decide +kernel
theorem d_Mo_begin_218 : decode b_Mo_begin 218 = .ok (.iconst 0, 1) := by decide +kernel
theorem d_Mo_begin_219 : decode b_Mo_begin 219 = .ok (.putfield 109, 3) := by decide +kernel
theorem d_Mo_begin_222 : decode b_Mo_begin 222 = .ok (.aload_n 0, 1) := by decide +kernel
theorem d_Mo_begin_223 : decode b_Mo_begin 223 = .ok (.iconst 0, 1) := by decide +kernel
theorem d_Mo_begin_224 : decode b_Mo_begin 224 = .ok (.putfield 112, 3) := by decide +kernel
theorem d_Mo_begin_227 : decode b_Mo_begin 227 = .ok (.return_, 1) := by decide +kernel
def f_Mo_begin_129 (u : S5) (r : Nat) : Nat → Nat → S5 → S5
  | 0, i, u4 => u4
  | k129 + 1, i, u4 => if i < 32 then (let x4 : Bool := if r = 0 then false else if r = 2 then false else true; f_Mo_begin_129 u r k129 (i + 1) (uB u4 2 (32 * r + i) x4)) else u4
def f_Mo_begin_104 (u : S5) : Nat → Nat → S5 → S5
  | 0, r, u3 => u3
  | k104 + 1, r, u3 => if r < 32 then (let x2 : Int32 := if r = 2 then 65536 else 0; let v4 : S5 := f_Mo_begin_129 u r 33 0 (uI u3 2 r x2); f_Mo_begin_104 u k104 (r + 1) v4) else u3
def f_Mo_begin_62 (u : S5) (k_ : Nat) : Nat → Nat → S5 → S5
  | 0, i, u2 => u2
  | k62 + 1, i, u2 => if i < 8 then (let x12 : Bool := if k_ < 57344 then false else true; f_Mo_begin_62 u k_ k62 (i + 1) (uB u2 1 (8 * k_ + i) x12)) else u2
def f_Mo_begin_7 (u : S5) : Nat → Nat → S5 → S5
  | 0, k_, u1 => u1
  | k7 + 1, k_, u1 => if k_ < 65536 then (let x9 : Int32 := if k_ < 16384 then aI u1 0 k_ else 0; let x10 : Bool := if k_ < 16384 then true else if k_ < 57344 then false else true; let v2 : S5 := f_Mo_begin_62 u k_ 9 0 (uB (uI u1 1 k_ x9) 0 k_ x10); f_Mo_begin_7 u k7 (k_ + 1) v2) else u1
def f_Mo_begin (u : S5) : S5 := let v1 : S5 := f_Mo_begin_7 u fuS 0 (sI u 0 0); let v3 : S5 := f_Mo_begin_104 u 33 0 v1; sN (sN (sN (sN (sN (sN (sI (sI (sI (sI (sI v3 1 0) 2 0) 3 0) 4 0) 5 0) 0 0) 1 0) 3 0) 4 0) 5 0) 6 0
set_option maxHeartbeats 8000000 in
set_option maxRecDepth 100000 in
theorem c_Mo_begin (l : Launch) (dC : Nat → ClassId) (dI : Nat → Nat → Nat) (cI cZ : ClassId) (ad : Nat → Nat) (u : S5) (sz : Nat) : Met l y_Mo_begin w_Mo_begin rm_Mo_begin (PreW (dC, dI) classes [(cI, .int), (cZ, .boolean)] (wM cI cZ ad) u sz [.ref (ad 0)]) (QWv (dC, dI) classes [(cI, .int), (cZ, .boolean)] (wM cI cZ ad) (va_A (wM cI cZ ad u) sz) (f_Mo_begin u)) 0 0 (va_A (wM cI cZ ad u) sz) := by
  generalize hres : f_Mo_begin u = res
  refine Met.ofW (cc := b_Mo_begin) (maxL := 3) (ret := none) (by decide) rfl ?_
  intro p e s m args below meth c s₁ B hml hv
  obtain ⟨rfl, rfl, hP, hK, hD0⟩ := hv
  have hx := B.exec
  have hb := B.bytes
  have hr := B.returns
  have hts : ∀ w9 ∈ ALLW, w9.before ([.ref (ad 0)] : List Value).toArray s = true := fun w9 h => atoms_spec (ws := w_Mo_begin) B.pre w9 (List.mem_cons_of_mem _ h)
  have hown : s.vm.findClass R_Mo = some m.cls := findClass_of_methodNamed B.named
  have hlocks := B.notSynchronized
  have hD := hD0.self (sz := s.heap.size)
  generalize hAe : va_A (wM cI cZ ad u) s.heap.size = A at hD ⊢
  have hA : ∀ q : Nat, s.heap.size ≤ q → A q := fun q h => by rw [← hAe]; exact Or.inr h
  have hS : va_S A s.heap s.heap [] := va_S.rf
  have hl := lv_entry ([.ref (ad 0)]) (n := 3) (Nat.le_of_ble_eq_true rfl)
  rw [lg_entry_eq]
  generalize (lg_sl ([.ref (ad 0)]) ++ List.replicate (3 - (lg_sl ([.ref (ad 0)])).length) Slot.unset).toArray = ls at hl ⊢
  have hl : lv_has ls 3 [(0, .ref (ad 0))] := hl
  have hq := hres.symm
  skip
  have hfu : fuS = 65537 := rfl
  refine lv_aload_n hx hb d_Mo_begin_0 rfl (lv_at hl 0 rfl) ?_
  refine lv_iconst (v := 0) hx hb d_Mo_begin_1 (by decide) ?_
  refine va_put (D := (dC, dI)) (ci := 8) (v := .int 0) (ty := .int) (C := R_Mo) (T := F_Mo) (N := 31) hx hb hts in_Mo t_Mo t_Mo_ok n_Mo hown hK hP hD hS 0 rfl rfl 0 (by decide) (hts _ m_13_30) (fun _ h9 => h9) rfl (by decide +kernel) rfl rfl (Nat.le_of_ble_eq_true rfl) d_Mo_begin_2 (fun H locs hP hD hS => ?_)
  have hP : va_P (dC, dI) classes (wM cI cZ ad (sI u 0 0)) H := hP
  have hD : va_D A (wM cI cZ ad (sI u 0 0)) := hD
  refine lv_iconst (v := nI 0) hx hb d_Mo_begin_5 (by decide) ?_
  refine lv_istore_n (lv' := [(1, .int (nI 0)), (0, .ref (ad 0))]) hx hb d_Mo_begin_6 rfl hl (by decide) rfl (fun ls hl => ?_)
  obtain ⟨o7, ho7⟩ : ∃ z : S5, z = f_Mo_begin_7 u fuS 0 (sI u 0 0) := ⟨_, rfl⟩
  have K7 : ∀ (v1 : S5) (H : Heap) (locs : List Loc) (ls : Array Slot), v1 = o7 → va_P (dC, dI) classes (wM cI cZ ad v1) H → va_D A (wM cI cZ ad v1) → va_S A s.heap H locs → lv_has ls 3 [(0, .ref (ad 0))] → W p l e (headSpec w_Mo_begin rm_Mo_begin).room s m ([.ref (ad 0)] : List Value).toArray below meth c H locs 0 0 (MQ below (QWv (dC, dI) classes [(cI, .int), (cZ, .boolean)] (wM cI cZ ad) A res) ([.ref (ad 0)] : List Value).toArray s 0 0 A) (F0 m 102 ls []) := by
    intro v1 H locs ls eo hP hD hS hl
    have ev1 := eo
    refine lv_iconst (v := nI 0) hx hb d_Mo_begin_102 (by decide) ?_
    refine lv_istore_n (lv' := [(1, .int (nI 0)), (0, .ref (ad 0))]) hx hb d_Mo_begin_103 rfl hl (by decide) rfl (fun ls hl => ?_)
    obtain ⟨o104, ho104⟩ : ∃ z : S5, z = f_Mo_begin_104 u 33 0 v1 := ⟨_, rfl⟩
    have K104 : ∀ (v3 : S5) (H : Heap) (locs : List Loc) (ls : Array Slot), v3 = o104 → va_P (dC, dI) classes (wM cI cZ ad v3) H → va_D A (wM cI cZ ad v3) → va_S A s.heap H locs → lv_has ls 3 [(0, .ref (ad 0))] → W p l e (headSpec w_Mo_begin rm_Mo_begin).room s m ([.ref (ad 0)] : List Value).toArray below meth c H locs 0 0 (MQ below (QWv (dC, dI) classes [(cI, .int), (cZ, .boolean)] (wM cI cZ ad) A res) ([.ref (ad 0)] : List Value).toArray s 0 0 A) (F0 m 172 ls []) := by
      intro v3 H locs ls eo hP hD hS hl
      have ev3 := eo
      refine lv_aload_n hx hb d_Mo_begin_172 rfl (lv_at hl 0 rfl) ?_
      refine lv_iconst (v := 0) hx hb d_Mo_begin_173 (by decide) ?_
      refine va_put (D := (dC, dI)) (ci := 8) (v := .int 0) (ty := .int) (C := R_Mo) (T := F_Mo) (N := 31) hx hb hts in_Mo t_Mo t_Mo_ok n_Mo hown hK hP hD hS 0 rfl rfl 7 (by decide) (hts _ m_13_37) (fun _ h9 => h9) rfl (by decide +kernel) rfl rfl (Nat.le_of_ble_eq_true rfl) d_Mo_begin_174 (fun H locs hP hD hS => ?_)
      have hP : va_P (dC, dI) classes (wM cI cZ ad (sI v3 1 0)) H := hP
      have hD : va_D A (wM cI cZ ad (sI v3 1 0)) := hD
      refine lv_aload_n hx hb d_Mo_begin_177 rfl (lv_at hl 0 rfl) ?_
      refine lv_iconst (v := 0) hx hb d_Mo_begin_178 (by decide) ?_
      refine va_put (D := (dC, dI)) (ci := 8) (v := .int 0) (ty := .int) (C := R_Mo) (T := F_Mo) (N := 31) hx hb hts in_Mo t_Mo t_Mo_ok n_Mo hown hK hP hD hS 0 rfl rfl 8 (by decide) (hts _ m_13_38) (fun _ h9 => h9) rfl (by decide +kernel) rfl rfl (Nat.le_of_ble_eq_true rfl) d_Mo_begin_179 (fun H locs hP hD hS => ?_)
      have hP : va_P (dC, dI) classes (wM cI cZ ad (sI (sI v3 1 0) 2 0)) H := hP
      have hD : va_D A (wM cI cZ ad (sI (sI v3 1 0) 2 0)) := hD
      refine lv_aload_n hx hb d_Mo_begin_182 rfl (lv_at hl 0 rfl) ?_
      refine lv_iconst (v := 0) hx hb d_Mo_begin_183 (by decide) ?_
      refine va_put (D := (dC, dI)) (ci := 8) (v := .int 0) (ty := .int) (C := R_Mo) (T := F_Mo) (N := 31) hx hb hts in_Mo t_Mo t_Mo_ok n_Mo hown hK hP hD hS 0 rfl rfl 9 (by decide) (hts _ m_13_39) (fun _ h9 => h9) rfl (by decide +kernel) rfl rfl (Nat.le_of_ble_eq_true rfl) d_Mo_begin_184 (fun H locs hP hD hS => ?_)
      have hP : va_P (dC, dI) classes (wM cI cZ ad (sI (sI (sI v3 1 0) 2 0) 3 0)) H := hP
      have hD : va_D A (wM cI cZ ad (sI (sI (sI v3 1 0) 2 0) 3 0)) := hD
      refine lv_aload_n hx hb d_Mo_begin_187 rfl (lv_at hl 0 rfl) ?_
      refine lv_iconst (v := 0) hx hb d_Mo_begin_188 (by decide) ?_
      refine va_put (D := (dC, dI)) (ci := 8) (v := .int 0) (ty := .int) (C := R_Mo) (T := F_Mo) (N := 31) hx hb hts in_Mo t_Mo t_Mo_ok n_Mo hown hK hP hD hS 0 rfl rfl 10 (by decide) (hts _ m_14_0) (fun _ h9 => h9) rfl (by decide +kernel) rfl rfl (Nat.le_of_ble_eq_true rfl) d_Mo_begin_189 (fun H locs hP hD hS => ?_)
      have hP : va_P (dC, dI) classes (wM cI cZ ad (sI (sI (sI (sI v3 1 0) 2 0) 3 0) 4 0)) H := hP
      have hD : va_D A (wM cI cZ ad (sI (sI (sI (sI v3 1 0) 2 0) 3 0) 4 0)) := hD
      refine lv_aload_n hx hb d_Mo_begin_192 rfl (lv_at hl 0 rfl) ?_
      refine lv_iconst (v := 0) hx hb d_Mo_begin_193 (by decide) ?_
      refine va_put (D := (dC, dI)) (ci := 8) (v := .int 0) (ty := .int) (C := R_Mo) (T := F_Mo) (N := 31) hx hb hts in_Mo t_Mo t_Mo_ok n_Mo hown hK hP hD hS 0 rfl rfl 11 (by decide) (hts _ m_14_1) (fun _ h9 => h9) rfl (by decide +kernel) rfl rfl (Nat.le_of_ble_eq_true rfl) d_Mo_begin_194 (fun H locs hP hD hS => ?_)
      have hP : va_P (dC, dI) classes (wM cI cZ ad (sI (sI (sI (sI (sI v3 1 0) 2 0) 3 0) 4 0) 5 0)) H := hP
      have hD : va_D A (wM cI cZ ad (sI (sI (sI (sI (sI v3 1 0) 2 0) 3 0) 4 0) 5 0)) := hD
      refine lv_aload_n hx hb d_Mo_begin_197 rfl (lv_at hl 0 rfl) ?_
      refine lv_iconst (v := nI 0) hx hb d_Mo_begin_198 (by decide) ?_
      refine va_put (D := (dC, dI)) (ci := 8) (v := .int (nI 0)) (ty := .int) (C := R_Mo) (T := F_Mo) (N := 31) hx hb hts in_Mo t_Mo t_Mo_ok n_Mo hown hK hP hD hS 0 rfl rfl 16 (by decide) (hts _ m_14_6) (fun _ h9 => h9) rfl (by decide +kernel) rfl rfl (Nat.le_of_ble_eq_true rfl) d_Mo_begin_199 (fun H locs hP hD hS => ?_)
      have hP : va_P (dC, dI) classes (wM cI cZ ad (sN (sI (sI (sI (sI (sI v3 1 0) 2 0) 3 0) 4 0) 5 0) 0 0)) H := hP
      have hD : va_D A (wM cI cZ ad (sN (sI (sI (sI (sI (sI v3 1 0) 2 0) 3 0) 4 0) 5 0) 0 0)) := hD
      refine lv_aload_n hx hb d_Mo_begin_202 rfl (lv_at hl 0 rfl) ?_
      refine lv_iconst (v := nI 0) hx hb d_Mo_begin_203 (by decide) ?_
      refine va_put (D := (dC, dI)) (ci := 8) (v := .int (nI 0)) (ty := .int) (C := R_Mo) (T := F_Mo) (N := 31) hx hb hts in_Mo t_Mo t_Mo_ok n_Mo hown hK hP hD hS 0 rfl rfl 17 (by decide) (hts _ m_14_7) (fun _ h9 => h9) rfl (by decide +kernel) rfl rfl (Nat.le_of_ble_eq_true rfl) d_Mo_begin_204 (fun H locs hP hD hS => ?_)
      have hP : va_P (dC, dI) classes (wM cI cZ ad (sN (sN (sI (sI (sI (sI (sI v3 1 0) 2 0) 3 0) 4 0) 5 0) 0 0) 1 0)) H := hP
      have hD : va_D A (wM cI cZ ad (sN (sN (sI (sI (sI (sI (sI v3 1 0) 2 0) 3 0) 4 0) 5 0) 0 0) 1 0)) := hD
      refine lv_aload_n hx hb d_Mo_begin_207 rfl (lv_at hl 0 rfl) ?_
      refine lv_iconst (v := nI 0) hx hb d_Mo_begin_208 (by decide) ?_
      refine va_put (D := (dC, dI)) (ci := 8) (v := .int (nI 0)) (ty := .int) (C := R_Mo) (T := F_Mo) (N := 31) hx hb hts in_Mo t_Mo t_Mo_ok n_Mo hown hK hP hD hS 0 rfl rfl 22 (by decide) (hts _ m_14_12) (fun _ h9 => h9) rfl (by decide +kernel) rfl rfl (Nat.le_of_ble_eq_true rfl) d_Mo_begin_209 (fun H locs hP hD hS => ?_)
      have hP : va_P (dC, dI) classes (wM cI cZ ad (sN (sN (sN (sI (sI (sI (sI (sI v3 1 0) 2 0) 3 0) 4 0) 5 0) 0 0) 1 0) 3 0)) H := hP
      have hD : va_D A (wM cI cZ ad (sN (sN (sN (sI (sI (sI (sI (sI v3 1 0) 2 0) 3 0) 4 0) 5 0) 0 0) 1 0) 3 0)) := hD
      refine lv_aload_n hx hb d_Mo_begin_212 rfl (lv_at hl 0 rfl) ?_
      refine lv_iconst (v := nI 0) hx hb d_Mo_begin_213 (by decide) ?_
      refine va_put (D := (dC, dI)) (ci := 8) (v := .int (nI 0)) (ty := .int) (C := R_Mo) (T := F_Mo) (N := 31) hx hb hts in_Mo t_Mo t_Mo_ok n_Mo hown hK hP hD hS 0 rfl rfl 23 (by decide) (hts _ m_14_13) (fun _ h9 => h9) rfl (by decide +kernel) rfl rfl (Nat.le_of_ble_eq_true rfl) d_Mo_begin_214 (fun H locs hP hD hS => ?_)
      have hP : va_P (dC, dI) classes (wM cI cZ ad (sN (sN (sN (sN (sI (sI (sI (sI (sI v3 1 0) 2 0) 3 0) 4 0) 5 0) 0 0) 1 0) 3 0) 4 0)) H := hP
      have hD : va_D A (wM cI cZ ad (sN (sN (sN (sN (sI (sI (sI (sI (sI v3 1 0) 2 0) 3 0) 4 0) 5 0) 0 0) 1 0) 3 0) 4 0)) := hD
      refine lv_aload_n hx hb d_Mo_begin_217 rfl (lv_at hl 0 rfl) ?_
      refine lv_iconst (v := nI 0) hx hb d_Mo_begin_218 (by decide) ?_
      refine va_put (D := (dC, dI)) (ci := 8) (v := .int (nI 0)) (ty := .int) (C := R_Mo) (T := F_Mo) (N := 31) hx hb hts in_Mo t_Mo t_Mo_ok n_Mo hown hK hP hD hS 0 rfl rfl 24 (by decide) (hts _ m_14_14) (fun _ h9 => h9) rfl (by decide +kernel) rfl rfl (Nat.le_of_ble_eq_true rfl) d_Mo_begin_219 (fun H locs hP hD hS => ?_)
      have hP : va_P (dC, dI) classes (wM cI cZ ad (sN (sN (sN (sN (sN (sI (sI (sI (sI (sI v3 1 0) 2 0) 3 0) 4 0) 5 0) 0 0) 1 0) 3 0) 4 0) 5 0)) H := hP
      have hD : va_D A (wM cI cZ ad (sN (sN (sN (sN (sN (sI (sI (sI (sI (sI v3 1 0) 2 0) 3 0) 4 0) 5 0) 0 0) 1 0) 3 0) 4 0) 5 0)) := hD
      refine lv_aload_n hx hb d_Mo_begin_222 rfl (lv_at hl 0 rfl) ?_
      refine lv_iconst (v := nI 0) hx hb d_Mo_begin_223 (by decide) ?_
      refine va_put (D := (dC, dI)) (ci := 8) (v := .int (nI 0)) (ty := .int) (C := R_Mo) (T := F_Mo) (N := 31) hx hb hts in_Mo t_Mo t_Mo_ok n_Mo hown hK hP hD hS 0 rfl rfl 29 (by decide) (hts _ m_14_19) (fun _ h9 => h9) rfl (by decide +kernel) rfl rfl (Nat.le_of_ble_eq_true rfl) d_Mo_begin_224 (fun H locs hP hD hS => ?_)
      have hP : va_P (dC, dI) classes (wM cI cZ ad (sN (sN (sN (sN (sN (sN (sI (sI (sI (sI (sI v3 1 0) 2 0) 3 0) 4 0) 5 0) 0 0) 1 0) 3 0) 4 0) 5 0) 6 0)) H := hP
      have hD : va_D A (wM cI cZ ad (sN (sN (sN (sN (sN (sN (sI (sI (sI (sI (sI v3 1 0) 2 0) 3 0) 4 0) 5 0) 0 0) 1 0) 3 0) 4 0) 5 0) 6 0)) := hD
      have hE : res = sN (sN (sN (sN (sN (sN (sI (sI (sI (sI (sI v3 1 0) 2 0) 3 0) 4 0) 5 0) 0 0) 1 0) 3 0) 4 0) 5 0) 6 0 := (by (try rw [ev3]); (try rw [ho104]); (try rw [ev1]); (try rw [ho7]); exact hq.trans (rfl))
      exact retWv hx hb hr hP hK hD hS hE.symm d_Mo_begin_227 hlocks
    have L104 : ∀ (k : Nat) (r : Nat) (u3 : S5) (H : Heap) (locs : List Loc) (ls : Array Slot), (r ≤ 32) → (32 - r) < k → o104 = f_Mo_begin_104 u k r u3 → va_P (dC, dI) classes (wM cI cZ ad u3) H → va_D A (wM cI cZ ad u3) → va_S A s.heap H locs → lv_has ls 3 [(1, .int (nI r)), (0, .ref (ad 0))] → W p l e (headSpec w_Mo_begin rm_Mo_begin).room s m ([.ref (ad 0)] : List Value).toArray below meth c H locs 0 0 (MQ below (QWv (dC, dI) classes [(cI, .int), (cZ, .boolean)] (wM cI cZ ad) A res) ([.ref (ad 0)] : List Value).toArray s 0 0 A) (F0 m 104 ls []) := by
      intro k
      induction k with
      | zero => intro r u3 H locs ls hr_ hm; exact absurd hm (Nat.not_lt_zero _)
      | succ k104 ih104 =>
        intro r u3 H locs ls hr_ hm hq104 hP hD hS hl
        refine lv_iload_n hx hb d_Mo_begin_104 rfl (lv_at hl 0 rfl) ?_
        refine lv_bipush (v := nI 32) hx hb d_Mo_begin_105 (by decide) ?_
        refine rn_ge (tgt := 172) hx hb (by omega) (by omega) d_Mo_begin_107 (by decide) (fun c1 => ?_) (fun c1 => ?_)
        · skip
          exact K104 u3 _ _ _ (Eq.symm (hq104.trans ((if_neg (Nat.not_lt.mpr c1)).trans rfl))) hP hD hS (lv_sub hl [1] rfl)
        · skip
          refine lv_aload_n hx hb d_Mo_begin_110 rfl (lv_at hl 1 rfl) ?_
          refine va_get (D := (dC, dI)) (ci := 8) (v := .ref (ad 3)) (C := R_Mo) (T := F_Mo) (N := 31) hx hb hts in_Mo hown hK hP 0 rfl rfl 3 (by decide) (hts _ m_13_33) (fun _ h9 => h9) rfl d_Mo_begin_111 ?_
          refine lv_iload_n hx hb d_Mo_begin_114 rfl (lv_at hl 0 rfl) ?_
          refine lv_iload_n hx hb d_Mo_begin_115 rfl (lv_at hl 0 rfl) ?_
          refine lv_iconst (v := nI 2) hx hb d_Mo_begin_116 (by decide) ?_
          have J126 : ∀ (x2 : Int32) (H : Heap) (locs : List Loc), x2 = (if r = 2 then 65536 else 0) → va_P (dC, dI) classes (wM cI cZ ad u3) H → va_D A (wM cI cZ ad u3) → va_S A s.heap H locs → W p l e (headSpec w_Mo_begin rm_Mo_begin).room s m ([.ref (ad 0)] : List Value).toArray below meth c H locs 0 0 (MQ below (QWv (dC, dI) classes [(cI, .int), (cZ, .boolean)] (wM cI cZ ad) A res) ([.ref (ad 0)] : List Value).toArray s 0 0 A) (F0 m 126 ls [.int x2, .int (nI r), .ref (ad 3)]) := by
            intro x2 H locs ex2 hP hD hS
            refine astM_x (u := u3) (n := r) hx hb hK hP hD hS (by omega) d_Mo_begin_126 (fun H locs hP hD hS => ?_)
            refine lv_iconst (v := nI 0) hx hb d_Mo_begin_127 (by decide) ?_
            refine lv_istore_n (lv' := [(2, .int (nI 0)), (1, .int (nI r)), (0, .ref (ad 0))]) hx hb d_Mo_begin_128 rfl hl (by decide) rfl (fun ls hl => ?_)
            obtain ⟨o129, ho129⟩ : ∃ z : S5, z = f_Mo_begin_129 u r 33 0 (uI u3 2 r x2) := ⟨_, rfl⟩
            have K129 : ∀ (v4 : S5) (H : Heap) (locs : List Loc) (ls : Array Slot), v4 = o129 → va_P (dC, dI) classes (wM cI cZ ad v4) H → va_D A (wM cI cZ ad v4) → va_S A s.heap H locs → lv_has ls 3 [(1, .int (nI r)), (0, .ref (ad 0))] → W p l e (headSpec w_Mo_begin rm_Mo_begin).room s m ([.ref (ad 0)] : List Value).toArray below meth c H locs 0 0 (MQ below (QWv (dC, dI) classes [(cI, .int), (cZ, .boolean)] (wM cI cZ ad) A res) ([.ref (ad 0)] : List Value).toArray s 0 0 A) (F0 m 166 ls []) := by
              intro v4 H locs ls eo hP hD hS hl
              have ev4 := eo
              refine lv_iinc (v := nI (r + 1)) (lv' := [(1, .int (nI (r + 1))), (0, .ref (ad 0))]) hx hb d_Mo_begin_166 hl (k := 0) rfl (rn_inc r 1 (by decide)) (by decide) rfl (fun ls hl => ?_)
              refine lv_goto (tgt := 104) hx hb d_Mo_begin_169 (by decide) ?_
              exact ih104 (r + 1) v4 _ _ _ (by first | assumption | omega) (by omega) ((by subst ev4; subst ho129; subst ex2; exact hq104.trans ((if_pos c1).trans rfl))) hP hD hS (lv_sub hl [0, 1] rfl)
            have L129 : ∀ (k : Nat) (i : Nat) (u4 : S5) (H : Heap) (locs : List Loc) (ls : Array Slot), (i ≤ 32) → (32 - i) < k → o129 = f_Mo_begin_129 u r k i u4 → va_P (dC, dI) classes (wM cI cZ ad u4) H → va_D A (wM cI cZ ad u4) → va_S A s.heap H locs → lv_has ls 3 [(2, .int (nI i)), (1, .int (nI r)), (0, .ref (ad 0))] → W p l e (headSpec w_Mo_begin rm_Mo_begin).room s m ([.ref (ad 0)] : List Value).toArray below meth c H locs 0 0 (MQ below (QWv (dC, dI) classes [(cI, .int), (cZ, .boolean)] (wM cI cZ ad) A res) ([.ref (ad 0)] : List Value).toArray s 0 0 A) (F0 m 129 ls []) := by
              intro k
              induction k with
              | zero => intro i u4 H locs ls hi hm; exact absurd hm (Nat.not_lt_zero _)
              | succ k129 ih129 =>
                intro i u4 H locs ls hi hm hq129 hP hD hS hl
                refine lv_iload_n hx hb d_Mo_begin_129 rfl (lv_at hl 0 rfl) ?_
                refine lv_bipush (v := nI 32) hx hb d_Mo_begin_130 (by decide) ?_
                refine rn_ge (tgt := 166) hx hb (by omega) (by omega) d_Mo_begin_132 (by decide) (fun c3 => ?_) (fun c3 => ?_)
                · skip
                  exact K129 u4 _ _ _ (Eq.symm (hq129.trans ((if_neg (Nat.not_lt.mpr c3)).trans rfl))) hP hD hS (lv_sub hl [1, 2] rfl)
                · skip
                  refine lv_aload_n hx hb d_Mo_begin_135 rfl (lv_at hl 2 rfl) ?_
                  refine va_get (D := (dC, dI)) (ci := 8) (v := .ref (ad 6)) (C := R_Mo) (T := F_Mo) (N := 31) hx hb hts in_Mo hown hK hP 0 rfl rfl 6 (by decide) (hts _ m_13_36) (fun _ h9 => h9) rfl d_Mo_begin_136 ?_
                  refine lv_bipush (v := nI 32) hx hb d_Mo_begin_139 (by decide) ?_
                  refine lv_iload_n hx hb d_Mo_begin_141 rfl (lv_at hl 1 rfl) ?_
                  refine lv_imul hx hb d_Mo_begin_142 ?_
                  refine rw_top (y := nI (32 * r)) (pk_mul 32 r) ?_
                  refine lv_iload_n hx hb d_Mo_begin_143 rfl (lv_at hl 0 rfl) ?_
                  refine lv_iadd hx hb d_Mo_begin_144 ?_
                  refine rw_top (y := nI (32 * r + i)) (nI_add (32 * r) i) ?_
                  refine lv_iload_n hx hb d_Mo_begin_145 rfl (lv_at hl 1 rfl) ?_
                  have J159 : ∀ (x4 : Bool) (H : Heap) (locs : List Loc), x4 = (if r = 0 then false else if r = 2 then false else true) → va_P (dC, dI) classes (wM cI cZ ad u4) H → va_D A (wM cI cZ ad u4) → va_S A s.heap H locs → W p l e (headSpec w_Mo_begin rm_Mo_begin).room s m ([.ref (ad 0)] : List Value).toArray below meth c H locs 0 0 (MQ below (QWv (dC, dI) classes [(cI, .int), (cZ, .boolean)] (wM cI cZ ad) A res) ([.ref (ad 0)] : List Value).toArray s 0 0 A) (F0 m 159 ls [.int (b2i x4), .int (nI (32 * r + i)), .ref (ad 6)]) := by
                    intro x4 H locs ex4 hP hD hS
                    refine astM_darkX (u := u4) (v := x4) (n := 32 * r + i) hx hb hK hP hD hS (by omega) d_Mo_begin_159 (fun H locs hP hD hS => ?_)
                    refine lv_iinc (v := nI (i + 1)) (lv' := [(2, .int (nI (i + 1))), (1, .int (nI r)), (0, .ref (ad 0))]) hx hb d_Mo_begin_160 hl (k := 0) rfl (rn_inc i 1 (by decide)) (by decide) rfl (fun ls hl => ?_)
                    refine lv_goto (tgt := 129) hx hb d_Mo_begin_163 (by decide) ?_
                    exact ih129 (i + 1) (uB u4 2 (32 * r + i) x4) _ _ _ (by first | assumption | omega) (by omega) ((by subst ex4; exact hq129.trans ((if_pos c3).trans rfl))) hP hD hS (lv_sub hl [0, 1, 2] rfl)
                  refine rz_eq (tgt := 158) hx hb (by omega) d_Mo_begin_146 (by decide) (fun c5 => ?_) (fun c5 => ?_)
                  · skip
                    refine lv_iconst (v := 0) hx hb d_Mo_begin_158 (by decide) ?_
                    exact J159 false _ _ (Eq.symm ((if_pos c5).trans (rfl))) hP hD hS
                  · skip
                    refine lv_iload_n hx hb d_Mo_begin_149 rfl (lv_at hl 1 rfl) ?_
                    refine lv_iconst (v := nI 2) hx hb d_Mo_begin_150 (by decide) ?_
                    refine rn_eq (tgt := 158) hx hb (by omega) (by omega) d_Mo_begin_151 (by decide) (fun c6 => ?_) (fun c6 => ?_)
                    · skip
                      refine lv_iconst (v := 0) hx hb d_Mo_begin_158 (by decide) ?_
                      exact J159 false _ _ (Eq.symm ((if_neg c5).trans ((if_pos c6).trans (rfl)))) hP hD hS
                    · skip
                      refine lv_iconst (v := 1) hx hb d_Mo_begin_154 (by decide) ?_
                      refine lv_goto (tgt := 159) hx hb d_Mo_begin_155 (by decide) ?_
                      exact J159 true _ _ (Eq.symm ((if_neg c5).trans ((if_neg c6).trans (rfl)))) hP hD hS
            exact L129 33 0 (uI u3 2 r x2) _ _ _ (by first | assumption | omega) (by omega) (ho129) hP hD hS (lv_sub hl [0, 1, 2] rfl)
          refine rn_ne (tgt := 125) hx hb (by omega) (by omega) d_Mo_begin_117 (by decide) (fun c7 => ?_) (fun c7 => ?_)
          · skip
            refine lv_iconst (v := 0) hx hb d_Mo_begin_125 (by decide) ?_
            exact J126 0 _ _ (Eq.symm ((if_neg c7).trans (rfl))) hP hD hS
          · skip
            refine lv_ldc (v := 65536) hx hb hown (hts _ m_13_23) d_Mo_begin_120 ?_
            refine lv_goto (tgt := 126) hx hb d_Mo_begin_122 (by decide) ?_
            exact J126 65536 _ _ (Eq.symm ((if_pos c7).trans (rfl))) hP hD hS
    exact L104 33 0 v1 _ _ _ (by first | assumption | omega) (by omega) (ho104) hP hD hS (lv_sub hl [0, 1] rfl)
  have L7 : ∀ (k : Nat) (k_ : Nat) (u1 : S5) (H : Heap) (locs : List Loc) (ls : Array Slot), (k_ ≤ 65536) → (65536 - k_) < k → o7 = f_Mo_begin_7 u k k_ u1 → va_P (dC, dI) classes (wM cI cZ ad u1) H → va_D A (wM cI cZ ad u1) → va_S A s.heap H locs → lv_has ls 3 [(1, .int (nI k_)), (0, .ref (ad 0))] → W p l e (headSpec w_Mo_begin rm_Mo_begin).room s m ([.ref (ad 0)] : List Value).toArray below meth c H locs 0 0 (MQ below (QWv (dC, dI) classes [(cI, .int), (cZ, .boolean)] (wM cI cZ ad) A res) ([.ref (ad 0)] : List Value).toArray s 0 0 A) (F0 m 7 ls []) := by
    intro k
    induction k with
    | zero => intro k_ u1 H locs ls hk hm; exact absurd hm (Nat.not_lt_zero _)
    | succ k7 ih7 =>
      intro k_ u1 H locs ls hk hm hq7 hP hD hS hl
      refine lv_iload_n hx hb d_Mo_begin_7 rfl (lv_at hl 0 rfl) ?_
      refine lv_ldc (v := 65536) hx hb hown (hts _ m_13_23) d_Mo_begin_8 ?_
      refine rw_top (y := nI 65536) (by decide) ?_
      refine rn_ge (tgt := 102) hx hb (by omega) (by omega) d_Mo_begin_10 (by decide) (fun c8 => ?_) (fun c8 => ?_)
      · skip
        exact K7 u1 _ _ _ (Eq.symm (hq7.trans ((if_neg (Nat.not_lt.mpr c8)).trans rfl))) hP hD hS (lv_sub hl [1] rfl)
      · skip
        refine lv_aload_n hx hb d_Mo_begin_13 rfl (lv_at hl 1 rfl) ?_
        refine va_get (D := (dC, dI)) (ci := 8) (v := .ref (ad 2)) (C := R_Mo) (T := F_Mo) (N := 31) hx hb hts in_Mo hown hK hP 0 rfl rfl 2 (by decide) (hts _ m_13_32) (fun _ h9 => h9) rfl d_Mo_begin_14 ?_
        refine lv_iload_n hx hb d_Mo_begin_17 rfl (lv_at hl 0 rfl) ?_
        refine lv_iload_n hx hb d_Mo_begin_18 rfl (lv_at hl 0 rfl) ?_
        refine lv_sipush (v := nI 16384) hx hb d_Mo_begin_19 (by decide) ?_
        have J35 : ∀ (x9 : Int32) (H : Heap) (locs : List Loc), x9 = (if k_ < 16384 then aI u1 0 k_ else 0) → va_P (dC, dI) classes (wM cI cZ ad u1) H → va_D A (wM cI cZ ad u1) → va_S A s.heap H locs → W p l e (headSpec w_Mo_begin rm_Mo_begin).room s m ([.ref (ad 0)] : List Value).toArray below meth c H locs 0 0 (MQ below (QWv (dC, dI) classes [(cI, .int), (cZ, .boolean)] (wM cI cZ ad) A res) ([.ref (ad 0)] : List Value).toArray s 0 0 A) (F0 m 35 ls [.int x9, .int (nI k_), .ref (ad 2)]) := by
          intro x9 H locs ex9 hP hD hS
          refine astM_octet (u := u1) (n := k_) hx hb hK hP hD hS (by omega) d_Mo_begin_35 (fun H locs hP hD hS => ?_)
          refine lv_aload_n hx hb d_Mo_begin_36 rfl (lv_at hl 1 rfl) ?_
          refine va_get (D := (dC, dI)) (ci := 8) (v := .ref (ad 4)) (C := R_Mo) (T := F_Mo) (N := 31) hx hb hts in_Mo hown hK hP 0 rfl rfl 4 (by decide) (hts _ m_13_34) (fun _ h9 => h9) rfl d_Mo_begin_37 ?_
          refine lv_iload_n hx hb d_Mo_begin_40 rfl (lv_at hl 0 rfl) ?_
          refine lv_iload_n hx hb d_Mo_begin_41 rfl (lv_at hl 0 rfl) ?_
          refine lv_sipush (v := nI 16384) hx hb d_Mo_begin_42 (by decide) ?_
          have J59 : ∀ (x10 : Bool) (H : Heap) (locs : List Loc), x10 = (if k_ < 16384 then true else if k_ < 57344 then false else true) → va_P (dC, dI) classes (wM cI cZ ad (uI u1 1 k_ x9)) H → va_D A (wM cI cZ ad (uI u1 1 k_ x9)) → va_S A s.heap H locs → W p l e (headSpec w_Mo_begin rm_Mo_begin).room s m ([.ref (ad 0)] : List Value).toArray below meth c H locs 0 0 (MQ below (QWv (dC, dI) classes [(cI, .int), (cZ, .boolean)] (wM cI cZ ad) A res) ([.ref (ad 0)] : List Value).toArray s 0 0 A) (F0 m 59 ls [.int (b2i x10), .int (nI k_), .ref (ad 4)]) := by
            intro x10 H locs ex10 hP hD hS
            refine astM_open (u := (uI u1 1 k_ x9)) (v := x10) (n := k_) hx hb hK hP hD hS (by omega) d_Mo_begin_59 (fun H locs hP hD hS => ?_)
            refine lv_iconst (v := nI 0) hx hb d_Mo_begin_60 (by decide) ?_
            refine lv_istore_n (lv' := [(2, .int (nI 0)), (1, .int (nI k_)), (0, .ref (ad 0))]) hx hb d_Mo_begin_61 rfl hl (by decide) rfl (fun ls hl => ?_)
            obtain ⟨o62, ho62⟩ : ∃ z : S5, z = f_Mo_begin_62 u k_ 9 0 (uB (uI u1 1 k_ x9) 0 k_ x10) := ⟨_, rfl⟩
            have K62 : ∀ (v2 : S5) (H : Heap) (locs : List Loc) (ls : Array Slot), v2 = o62 → va_P (dC, dI) classes (wM cI cZ ad v2) H → va_D A (wM cI cZ ad v2) → va_S A s.heap H locs → lv_has ls 3 [(1, .int (nI k_)), (0, .ref (ad 0))] → W p l e (headSpec w_Mo_begin rm_Mo_begin).room s m ([.ref (ad 0)] : List Value).toArray below meth c H locs 0 0 (MQ below (QWv (dC, dI) classes [(cI, .int), (cZ, .boolean)] (wM cI cZ ad) A res) ([.ref (ad 0)] : List Value).toArray s 0 0 A) (F0 m 96 ls []) := by
              intro v2 H locs ls eo hP hD hS hl
              have ev2 := eo
              refine lv_iinc (v := nI (k_ + 1)) (lv' := [(1, .int (nI (k_ + 1))), (0, .ref (ad 0))]) hx hb d_Mo_begin_96 hl (k := 0) rfl (rn_inc k_ 1 (by decide)) (by decide) rfl (fun ls hl => ?_)
              refine lv_goto (tgt := 7) hx hb d_Mo_begin_99 (by decide) ?_
              exact ih7 (k_ + 1) v2 _ _ _ (by first | assumption | omega) (by omega) ((by subst ev2; subst ho62; subst ex10; subst ex9; exact hq7.trans ((if_pos c8).trans rfl))) hP hD hS (lv_sub hl [0, 1] rfl)
            have L62 : ∀ (k : Nat) (i : Nat) (u2 : S5) (H : Heap) (locs : List Loc) (ls : Array Slot), (i ≤ 8) → (8 - i) < k → o62 = f_Mo_begin_62 u k_ k i u2 → va_P (dC, dI) classes (wM cI cZ ad u2) H → va_D A (wM cI cZ ad u2) → va_S A s.heap H locs → lv_has ls 3 [(2, .int (nI i)), (1, .int (nI k_)), (0, .ref (ad 0))] → W p l e (headSpec w_Mo_begin rm_Mo_begin).room s m ([.ref (ad 0)] : List Value).toArray below meth c H locs 0 0 (MQ below (QWv (dC, dI) classes [(cI, .int), (cZ, .boolean)] (wM cI cZ ad) A res) ([.ref (ad 0)] : List Value).toArray s 0 0 A) (F0 m 62 ls []) := by
              intro k
              induction k with
              | zero => intro i u2 H locs ls hi hm; exact absurd hm (Nat.not_lt_zero _)
              | succ k62 ih62 =>
                intro i u2 H locs ls hi hm hq62 hP hD hS hl
                refine lv_iload_n hx hb d_Mo_begin_62 rfl (lv_at hl 0 rfl) ?_
                refine lv_bipush (v := nI 8) hx hb d_Mo_begin_63 (by decide) ?_
                refine rn_ge (tgt := 96) hx hb (by omega) (by omega) d_Mo_begin_65 (by decide) (fun c11 => ?_) (fun c11 => ?_)
                · skip
                  exact K62 u2 _ _ _ (Eq.symm (hq62.trans ((if_neg (Nat.not_lt.mpr c11)).trans rfl))) hP hD hS (lv_sub hl [1, 2] rfl)
                · skip
                  refine lv_aload_n hx hb d_Mo_begin_68 rfl (lv_at hl 2 rfl) ?_
                  refine va_get (D := (dC, dI)) (ci := 8) (v := .ref (ad 5)) (C := R_Mo) (T := F_Mo) (N := 31) hx hb hts in_Mo hown hK hP 0 rfl rfl 5 (by decide) (hts _ m_13_35) (fun _ h9 => h9) rfl d_Mo_begin_69 ?_
                  refine lv_bipush (v := nI 8) hx hb d_Mo_begin_72 (by decide) ?_
                  refine lv_iload_n hx hb d_Mo_begin_74 rfl (lv_at hl 1 rfl) ?_
                  refine lv_imul hx hb d_Mo_begin_75 ?_
                  refine rw_top (y := nI (8 * k_)) (pk_mul 8 k_) ?_
                  refine lv_iload_n hx hb d_Mo_begin_76 rfl (lv_at hl 0 rfl) ?_
                  refine lv_iadd hx hb d_Mo_begin_77 ?_
                  refine rw_top (y := nI (8 * k_ + i)) (nI_add (8 * k_) i) ?_
                  refine lv_iload_n hx hb d_Mo_begin_78 rfl (lv_at hl 1 rfl) ?_
                  refine lv_ldc (v := 57344) hx hb hown (hts _ m_13_29) d_Mo_begin_79 ?_
                  refine rw_top (y := nI 57344) (by decide) ?_
                  have J89 : ∀ (x12 : Bool) (H : Heap) (locs : List Loc), x12 = (if k_ < 57344 then false else true) → va_P (dC, dI) classes (wM cI cZ ad u2) H → va_D A (wM cI cZ ad u2) → va_S A s.heap H locs → W p l e (headSpec w_Mo_begin rm_Mo_begin).room s m ([.ref (ad 0)] : List Value).toArray below meth c H locs 0 0 (MQ below (QWv (dC, dI) classes [(cI, .int), (cZ, .boolean)] (wM cI cZ ad) A res) ([.ref (ad 0)] : List Value).toArray s 0 0 A) (F0 m 89 ls [.int (b2i x12), .int (nI (8 * k_ + i)), .ref (ad 5)]) := by
                    intro x12 H locs ex12 hP hD hS
                    refine astM_dark (u := u2) (v := x12) (n := 8 * k_ + i) hx hb hK hP hD hS (by omega) d_Mo_begin_89 (fun H locs hP hD hS => ?_)
                    refine lv_iinc (v := nI (i + 1)) (lv' := [(2, .int (nI (i + 1))), (1, .int (nI k_)), (0, .ref (ad 0))]) hx hb d_Mo_begin_90 hl (k := 0) rfl (rn_inc i 1 (by decide)) (by decide) rfl (fun ls hl => ?_)
                    refine lv_goto (tgt := 62) hx hb d_Mo_begin_93 (by decide) ?_
                    exact ih62 (i + 1) (uB u2 1 (8 * k_ + i) x12) _ _ _ (by first | assumption | omega) (by omega) ((by subst ex12; exact hq62.trans ((if_pos c11).trans rfl))) hP hD hS (lv_sub hl [0, 1, 2] rfl)
                  refine rn_lt (tgt := 88) hx hb (by omega) (by omega) d_Mo_begin_81 (by decide) (fun c13 => ?_) (fun c13 => ?_)
                  · skip
                    refine lv_iconst (v := 0) hx hb d_Mo_begin_88 (by decide) ?_
                    exact J89 false _ _ (Eq.symm ((if_pos c13).trans (rfl))) hP hD hS
                  · skip
                    refine lv_iconst (v := 1) hx hb d_Mo_begin_84 (by decide) ?_
                    refine lv_goto (tgt := 89) hx hb d_Mo_begin_85 (by decide) ?_
                    exact J89 true _ _ (Eq.symm ((if_neg (Nat.not_lt.mpr c13)).trans (rfl))) hP hD hS
            exact L62 9 0 (uB (uI u1 1 k_ x9) 0 k_ x10) _ _ _ (by first | assumption | omega) (by omega) (ho62) hP hD hS (lv_sub hl [0, 1, 2] rfl)
          refine rn_lt (tgt := 54) hx hb (by omega) (by omega) d_Mo_begin_45 (by decide) (fun c14 => ?_) (fun c14 => ?_)
          · skip
            refine lv_iconst (v := 1) hx hb d_Mo_begin_54 (by decide) ?_
            refine lv_goto (tgt := 59) hx hb d_Mo_begin_55 (by decide) ?_
            exact J59 true _ _ (Eq.symm ((if_pos c14).trans (rfl))) hP hD hS
          · skip
            refine lv_iload_n hx hb d_Mo_begin_48 rfl (lv_at hl 0 rfl) ?_
            refine lv_ldc (v := 57344) hx hb hown (hts _ m_13_29) d_Mo_begin_49 ?_
            refine rw_top (y := nI 57344) (by decide) ?_
            refine rn_lt (tgt := 58) hx hb (by omega) (by omega) d_Mo_begin_51 (by decide) (fun c15 => ?_) (fun c15 => ?_)
            · skip
              refine lv_iconst (v := 0) hx hb d_Mo_begin_58 (by decide) ?_
              exact J59 false _ _ (Eq.symm ((if_neg (Nat.not_lt.mpr c14)).trans ((if_pos c15).trans (rfl)))) hP hD hS
            · skip
              refine lv_iconst (v := 1) hx hb d_Mo_begin_54 (by decide) ?_
              refine lv_goto (tgt := 59) hx hb d_Mo_begin_55 (by decide) ?_
              exact J59 true _ _ (Eq.symm ((if_neg (Nat.not_lt.mpr c14)).trans ((if_neg (Nat.not_lt.mpr c15)).trans (rfl)))) hP hD hS
        refine rn_ge (tgt := 34) hx hb (by omega) (by omega) d_Mo_begin_22 (by decide) (fun c16 => ?_) (fun c16 => ?_)
        · skip
          refine lv_iconst (v := 0) hx hb d_Mo_begin_34 (by decide) ?_
          exact J35 0 _ _ (Eq.symm ((if_neg (Nat.not_lt.mpr c16)).trans (rfl))) hP hD hS
        · skip
          refine lv_aload_n hx hb d_Mo_begin_25 rfl (lv_at hl 1 rfl) ?_
          refine va_get (D := (dC, dI)) (ci := 8) (v := .ref (ad 1)) (C := R_Mo) (T := F_Mo) (N := 31) hx hb hts in_Mo hown hK hP 0 rfl rfl 1 (by decide) (hts _ m_13_31) (fun _ h9 => h9) rfl d_Mo_begin_26 ?_
          refine lv_iload_n hx hb d_Mo_begin_29 rfl (lv_at hl 0 rfl) ?_
          refine aldM_image (u := u1) (v := aI u1 0 k_) hx hb hK hP (by omega) rfl d_Mo_begin_30 ?_
          refine lv_goto (tgt := 35) hx hb d_Mo_begin_31 (by decide) ?_
          exact J35 (aI u1 0 k_) _ _ (Eq.symm ((if_pos c16).trans (rfl))) hP hD hS
  exact L7 fuS 0 (sI u 0 0) _ _ _ (by first | assumption | omega) (by omega) (ho7) hP hD hS (lv_sub hl [0, 1] rfl)
