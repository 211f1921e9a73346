-- ===== what the start says of throwing and of nest mates
theorem start_th {a : Array Value} {s : State} (h : (Jvm.Cond.and given_1 narrow_1).before a s = true) (ht : ∀ w ∈ tables_1, w.before a s = true) : thS s ∧ thN s ∧ nwS s := by
  have hs := flat_of_before _ h
  have i1 : (Cond.isRef (.static Bundle.tN "UNASSIGNED_STACK" Bundle.steD)).before a s = true := hs _ (by decide +kernel)
  have i2 : (Cond.isRef (.static Bundle.tN "SUPPRESSED_SENTINEL" Bundle.listD)).before a s = true := hs _ (by decide +kernel)
  have i3 : (Cond.not (.castable thIOB thIAE)).before a s = true := hs _ (by decide +kernel)
  have l1 : (Cond.laysStatic Bundle.tN "UNASSIGNED_STACK" Bundle.steD).before a s = true := ht _ (List.contains_iff_mem.mp (by decide +kernel))
  have l2 : (Cond.laysStatic Bundle.tN "SUPPRESSED_SENTINEL" Bundle.listD).before a s = true := ht _ (List.contains_iff_mem.mp (by decide +kernel))
  refine ⟨fun w hw b => ?_, fun b => i3, fun w hw => ?_⟩
  · simp only [thW, List.mem_cons, List.not_mem_nil, or_false] at hw
    rcases hw with rfl | rfl | rfl | rfl
    · exact l1
    · exact l2
    · exact i1
    · exact i2
  · have h1 := ht w (nww_in w hw)
    simp only [NWW, List.mem_cons, List.not_mem_nil, or_false] at hw
    rcases hw with rfl | rfl | rfl | rfl | rfl <;> exact va_Nw.of rfl h1
