section
theorem ck275 : (aCd 275).all (fun l => l.all (aCkB 275)) = true := rfl
set_option maxRecDepth 100000 in
theorem ck276_0 : cd276_0.all (aCkB 276) = true := by decide +kernel
set_option maxRecDepth 100000 in
theorem ck276_1 : cd276_1.all (aCkB 276) = true := by decide +kernel
set_option maxRecDepth 100000 in
theorem ck276_2 : cd276_2.all (aCkB 276) = true := by decide +kernel
set_option maxRecDepth 100000 in
theorem ck276_3 : cd276_3.all (aCkB 276) = true := by decide +kernel
set_option maxRecDepth 100000 in
theorem ck276_4 : cd276_4.all (aCkB 276) = true := by decide +kernel
set_option maxRecDepth 100000 in
theorem ck276_5 : cd276_5.all (aCkB 276) = true := by decide +kernel
set_option maxRecDepth 100000 in
theorem ck276_6 : cd276_6.all (aCkB 276) = true := by decide +kernel
set_option maxRecDepth 100000 in
theorem ck276_7 : cd276_7.all (aCkB 276) = true := by decide +kernel
set_option maxRecDepth 100000 in
theorem ck276_8 : cd276_8.all (aCkB 276) = true := by decide +kernel
set_option maxRecDepth 100000 in
theorem ck276_9 : cd276_9.all (aCkB 276) = true := by decide +kernel
set_option maxRecDepth 100000 in
theorem ck276_10 : cd276_10.all (aCkB 276) = true := by decide +kernel
set_option maxRecDepth 100000 in
theorem ck276_11 : cd276_11.all (aCkB 276) = true := by decide +kernel
set_option maxRecDepth 100000 in
theorem ck276_12 : cd276_12.all (aCkB 276) = true := by decide +kernel
set_option maxRecDepth 100000 in
theorem ck276_13 : cd276_13.all (aCkB 276) = true := by decide +kernel
set_option maxRecDepth 100000 in
theorem ck276_14 : cd276_14.all (aCkB 276) = true := by decide +kernel
set_option maxRecDepth 100000 in
theorem ck276_15 : cd276_15.all (aCkB 276) = true := by decide +kernel
set_option maxRecDepth 100000 in
theorem ck276_16 : cd276_16.all (aCkB 276) = true := by decide +kernel
set_option maxRecDepth 100000 in
theorem ck276_17 : cd276_17.all (aCkB 276) = true := by decide +kernel
set_option maxRecDepth 100000 in
theorem ck276_18 : cd276_18.all (aCkB 276) = true := by decide +kernel
set_option maxRecDepth 100000 in
theorem ck276_19 : cd276_19.all (aCkB 276) = true := by decide +kernel
set_option maxRecDepth 100000 in
theorem ck276_20 : cd276_20.all (aCkB 276) = true := by decide +kernel
set_option maxRecDepth 100000 in
theorem ck276_21 : cd276_21.all (aCkB 276) = true := by decide +kernel
set_option maxRecDepth 100000 in
theorem ck276_22 : cd276_22.all (aCkB 276) = true := by decide +kernel
set_option maxRecDepth 100000 in
theorem ck276_23 : cd276_23.all (aCkB 276) = true := by decide +kernel
set_option maxRecDepth 100000 in
theorem ck276_24 : cd276_24.all (aCkB 276) = true := by decide +kernel
theorem ck276 : (aCd 276).all (fun l => l.all (aCkB 276)) = true := by
  show (cd276).all (fun l => l.all (aCkB 276)) = true
  simp only [cd276, List.all_cons, List.all_nil, ck276_0, ck276_1, ck276_2, ck276_3, ck276_4, ck276_5, ck276_6, ck276_7, ck276_8, ck276_9, ck276_10, ck276_11, ck276_12, ck276_13, ck276_14, ck276_15, ck276_16, ck276_17, ck276_18, ck276_19, ck276_20, ck276_21, ck276_22, ck276_23, ck276_24, Bool.and_true]
end
