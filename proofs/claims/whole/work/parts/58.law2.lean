-- ===== the words of throwing and of nest mates are among the tables'
theorem thy_tab : THY.all (fun w => tables_1.contains w) = true := by decide +kernel
theorem nww_tab : NWW.all (fun w => tables_1.contains w) = true := by decide +kernel
theorem thy_in : ∀ w ∈ THY, w ∈ tables_1 := fun w hw => List.contains_iff_mem.mp (List.all_eq_true.mp thy_tab w hw)
theorem nww_in : ∀ w ∈ NWW, w ∈ tables_1 := fun w hw => List.contains_iff_mem.mp (List.all_eq_true.mp nww_tab w hw)
