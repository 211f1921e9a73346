set_option maxHeartbeats 1000000 in
set_option maxRecDepth 100000 in
/-- the law's loop -/
theorem law_loop {p : Program} {l : Launch} {e : Env} {s : State} {m : MethodId} {below : List Frame} {meth : Method} {c : Code} {b L : Nat} {xs : Nat → Int32} {dC : Nat → ClassId} {dI : Nat → Nat → Nat} {cI cZ cJ : ClassId} {ad : Nat → Nat} {o : Nat} {ad2 : Nat → Nat} {Sim : S5 → S5 → Prop} (hsim : LSim Sim) (C : LC p l s m meth c b L xs dC dI cI cZ cJ) :
    ∀ (n k : Nat) (u v : S5) (x : Nat → Int64) (H : Heap) (locs : List Loc) (ls : Array Slot), 4 * k ≤ L → L + 4 ≤ 4 * (k + n) → Sim u v → LV s dC dI cI cZ cJ ad o ad2 u x v H locs → lv_has ls 7 [(0, .ref b), (1, .ref (ad 0)), (2, .ref (ad2 0)), (3, .ref o), (4, .int (nI (4 * k)))] → W p l e room_1 s m #[Value.ref b] below meth c H locs (1000 + k) (1000000 + 6 * k) (lw_Z below #[Value.ref b] s) (F0 m 23 ls []) := by
  have hC := C
  obtain ⟨hx, hb, hr, hml, hown, hT, hX, hbl, hlocks, hgv⟩ := C.at0
  have hL := C.len
  have hbA : ¬ LA s b := Nat.not_le.mpr hbl
  intro n
  induction n with
  | zero =>
    intro k u v x H locs ls h1 h2
    exact absurd h2 (by omega)
  | succ n ih =>
    intro k u v x H locs ls h1 h2 hz V hl
    refine lv_iload hx hb d_law_23 (lv_at hl 4 rfl) ?_
    refine lv_aload_n hx hb d_law_25 rfl (lv_at hl 0 rfl) ?_
    refine va_slen hx hb hX hbl hbA V.S d_law_26 ?_
    refine lv_iconst (v := 4) hx hb d_law_27 (by decide) ?_
    refine lv_isub hx hb d_law_28 ?_
    refine lv_icmp_gt (tgt := 693) hx hb d_law_29 (by decide) (fun hc => ?_) (fun hc => ?_)
    · refine lv_iconst (v := 1) hx hb d_law_693 (by decide) ?_
      refine va_forget (fun q hq => V.S.2.2 q hq) ?_
      refine W.widen (k := 601024) (n := 7293034) (by omega) (by omega) ?_
      exact lw_ret hx hb hr hlocks d_law_694
    · have hi : 4 * k + 4 ≤ L := loop_in (by omega) (by omega) hc
      refine lv_aload_n hx hb d_law_32 rfl (lv_at hl 0 rfl) ?_
      refine lv_iload hx hb d_law_33 (lv_at hl 4 rfl) ?_
      refine va_sld hx hb hX hbl hbA V.S (vp_in_nI (by omega) (by omega)) d_law_35 ?_
      refine lv_bipush (v := 15) hx hb d_law_36 (by decide) ?_
      refine lv_iand hx hb d_law_38 ?_
      refine lv_topi (fun t ht => ?_)
      have K : ∀ (u2 v2 : S5) (x2 : Nat → Int64) (H2 : Heap) (locs2 : List Loc) (ls2 : Array Slot), Sim u2 v2 → LV s dC dI cI cZ cJ ad o ad2 u2 x2 v2 H2 locs2 → lv_has ls2 7 [(0, .ref b), (1, .ref (ad 0)), (2, .ref (ad2 0)), (3, .ref o), (4, .int (nI (4 * k)))] → W p l e room_1 s m #[Value.ref b] below meth c H2 locs2 (1000 + k + 1) (1000000 + 6 * k + 6) (lw_Z below #[Value.ref b] s) (F0 m 687 ls2 []) := by
        intro u2 v2 x2 H2 locs2 ls2 hz2 V2 hl2
        refine lv_iinc (v := nI (4 * (k + 1))) hx hb d_law_687 hl2 (k := 4) rfl (nI_add (4 * k) 4) (by decide) rfl (fun ls hl => ?_)
        refine lv_goto (tgt := 23) hx hb d_law_690 (by decide) ?_
        exact ih (k + 1) u2 v2 x2 H2 locs2 ls (by omega) (by omega) hz2 V2 (lv_sub hl [1, 2, 3, 4, 0] rfl)
      have hr1 : 1000 + k + 1 ≤ 601024 := by omega
      have hr2 : 1000000 + 6 * k + 6 ≤ 7293034 := by omega
      by_cases h0 : t.toInt = 0
      · refine lv_tableIn (off := 53) (tgt := 92) hx hb d_law_39 (by rw [h0]; decide) (by rw [h0]; decide) (by rw [h0]; decide) (by decide) ?_
        exact lc_image hsim C hi hz V hl hr1 hr2 K
      by_cases h1 : t.toInt = 1
      · refine lv_tableIn (off := 133) (tgt := 172) hx hb d_law_39 (by rw [h1]; decide) (by rw [h1]; decide) (by rw [h1]; decide) (by decide) ?_
        exact lc_input hsim C hi hz V hl hr1 hr2 K
      by_cases h2 : t.toInt = 2
      · refine lv_tableIn (off := 233) (tgt := 272) hx hb d_law_39 (by rw [h2]; decide) (by rw [h2]; decide) (by rw [h2]; decide) (by decide) ?_
        exact lc_begin hsim C hi hz V hl hr1 hr2 K
      by_cases h3 : t.toInt = 3
      · refine lv_tableIn (off := 244) (tgt := 283) hx hb d_law_39 (by rw [h3]; decide) (by rw [h3]; decide) (by rw [h3]; decide) (by decide) ?_
        exact lc_run hsim C hi hz V hl hr1 hr2 K
      by_cases h4 : t.toInt = 4
      · refine lv_tableIn (off := 300) (tgt := 339) hx hb d_law_39 (by rw [h4]; decide) (by rw [h4]; decide) (by rw [h4]; decide) (by decide) ?_
        exact lc_register hsim C hi hz V hl hr1 hr2 K
      by_cases h5 : t.toInt = 5
      · refine lv_tableIn (off := 356) (tgt := 395) hx hb d_law_39 (by rw [h5]; decide) (by rw [h5]; decide) (by rw [h5]; decide) (by decide) ?_
        exact lc_unknown hsim C hi hz V hl hr1 hr2 K
      by_cases h6 : t.toInt = 6
      · refine lv_tableIn (off := 412) (tgt := 451) hx hb d_law_39 (by rw [h6]; decide) (by rw [h6]; decide) (by rw [h6]; decide) (by decide) ?_
        exact lc_memory hsim C hi hz V hl hr1 hr2 K
      by_cases h7 : t.toInt = 7
      · refine lv_tableIn (off := 468) (tgt := 507) hx hb d_law_39 (by rw [h7]; decide) (by rw [h7]; decide) (by rw [h7]; decide) (by decide) ?_
        exact lc_error hsim C hi hz V hl hr1 hr2 K
      by_cases h8 : t.toInt = 8
      · refine lv_tableIn (off := 536) (tgt := 575) hx hb d_law_39 (by rw [h8]; decide) (by rw [h8]; decide) (by rw [h8]; decide) (by decide) ?_
        exact lc_output hsim C hi hz V hl hr1 hr2 K
      by_cases h9 : t.toInt = 9
      · refine lv_tableIn (off := 592) (tgt := 631) hx hb d_law_39 (by rw [h9]; decide) (by rw [h9]; decide) (by rw [h9]; decide) (by decide) ?_
        exact lc_count hsim C hi hz V hl hr1 hr2 K
      refine lv_tableOut (tgt := 687) hx hb d_law_39 (by omega) (by decide) ?_
      refine W.widen (k := 1000 + k + 1) (n := 1000000 + 6 * k + 6) (by omega) (by omega) ?_
      exact K u v x H locs ls hz V hl
