section
set_option maxRecDepth 100000 in
theorem ck27_0 : cd27_0.all (aCkB 27) = true := by decide +kernel
theorem ck27 : (aCd 27).all (fun l => l.all (aCkB 27)) = true := by
  show (cd27).all (fun l => l.all (aCkB 27)) = true
  simp only [cd27, List.all_cons, List.all_nil, ck27_0, Bool.and_true]
set_option maxRecDepth 100000 in
theorem ck28_0 : cd28_0.all (aCkB 28) = true := by decide +kernel
set_option maxRecDepth 100000 in
theorem ck28_1 : cd28_1.all (aCkB 28) = true := by decide +kernel
theorem ck28 : (aCd 28).all (fun l => l.all (aCkB 28)) = true := by
  show (cd28).all (fun l => l.all (aCkB 28)) = true
  simp only [cd28, List.all_cons, List.all_nil, ck28_0, ck28_1, Bool.and_true]
set_option maxRecDepth 100000 in
theorem ck29_0 : cd29_0.all (aCkB 29) = true := by decide +kernel
theorem ck29 : (aCd 29).all (fun l => l.all (aCkB 29)) = true := by
  show (cd29).all (fun l => l.all (aCkB 29)) = true
  simp only [cd29, List.all_cons, List.all_nil, ck29_0, Bool.and_true]
set_option maxRecDepth 100000 in
theorem ck30_0 : cd30_0.all (aCkB 30) = true := by decide +kernel
theorem ck30 : (aCd 30).all (fun l => l.all (aCkB 30)) = true := by
  show (cd30).all (fun l => l.all (aCkB 30)) = true
  simp only [cd30, List.all_cons, List.all_nil, ck30_0, Bool.and_true]
set_option maxRecDepth 100000 in
theorem ck31_0 : cd31_0.all (aCkB 31) = true := by decide +kernel
set_option maxRecDepth 100000 in
theorem ck31_1 : cd31_1.all (aCkB 31) = true := by decide +kernel
set_option maxRecDepth 100000 in
theorem ck31_2 : cd31_2.all (aCkB 31) = true := by decide +kernel
theorem ck31 : (aCd 31).all (fun l => l.all (aCkB 31)) = true := by
  show (cd31).all (fun l => l.all (aCkB 31)) = true
  simp only [cd31, List.all_cons, List.all_nil, ck31_0, ck31_1, ck31_2, Bool.and_true]
set_option maxRecDepth 100000 in
theorem ck32_0 : cd32_0.all (aCkB 32) = true := by decide +kernel
theorem ck32 : (aCd 32).all (fun l => l.all (aCkB 32)) = true := by
  show (cd32).all (fun l => l.all (aCkB 32)) = true
  simp only [cd32, List.all_cons, List.all_nil, ck32_0, Bool.and_true]
set_option maxRecDepth 100000 in
theorem ck33_0 : cd33_0.all (aCkB 33) = true := by decide +kernel
theorem ck33 : (aCd 33).all (fun l => l.all (aCkB 33)) = true := by
  show (cd33).all (fun l => l.all (aCkB 33)) = true
  simp only [cd33, List.all_cons, List.all_nil, ck33_0, Bool.and_true]
set_option maxRecDepth 100000 in
theorem ck34_0 : cd34_0.all (aCkB 34) = true := by decide +kernel
theorem ck34 : (aCd 34).all (fun l => l.all (aCkB 34)) = true := by
  show (cd34).all (fun l => l.all (aCkB 34)) = true
  simp only [cd34, List.all_cons, List.all_nil, ck34_0, Bool.and_true]
set_option maxRecDepth 100000 in
theorem ck35_0 : cd35_0.all (aCkB 35) = true := by decide +kernel
set_option maxRecDepth 100000 in
theorem ck35_1 : cd35_1.all (aCkB 35) = true := by decide +kernel
theorem ck35 : (aCd 35).all (fun l => l.all (aCkB 35)) = true := by
  show (cd35).all (fun l => l.all (aCkB 35)) = true
  simp only [cd35, List.all_cons, List.all_nil, ck35_0, ck35_1, Bool.and_true]
set_option maxRecDepth 100000 in
theorem ck36_0 : cd36_0.all (aCkB 36) = true := by decide +kernel
theorem ck36 : (aCd 36).all (fun l => l.all (aCkB 36)) = true := by
  show (cd36).all (fun l => l.all (aCkB 36)) = true
  simp only [cd36, List.all_cons, List.all_nil, ck36_0, Bool.and_true]
set_option maxRecDepth 100000 in
theorem ck37_0 : cd37_0.all (aCkB 37) = true := by decide +kernel
theorem ck37 : (aCd 37).all (fun l => l.all (aCkB 37)) = true := by
  show (cd37).all (fun l => l.all (aCkB 37)) = true
  simp only [cd37, List.all_cons, List.all_nil, ck37_0, Bool.and_true]
set_option maxRecDepth 100000 in
theorem ck38_0 : cd38_0.all (aCkB 38) = true := by decide +kernel
theorem ck38 : (aCd 38).all (fun l => l.all (aCkB 38)) = true := by
  show (cd38).all (fun l => l.all (aCkB 38)) = true
  simp only [cd38, List.all_cons, List.all_nil, ck38_0, Bool.and_true]
set_option maxRecDepth 100000 in
theorem ck39_0 : cd39_0.all (aCkB 39) = true := by decide +kernel
theorem ck39 : (aCd 39).all (fun l => l.all (aCkB 39)) = true := by
  show (cd39).all (fun l => l.all (aCkB 39)) = true
  simp only [cd39, List.all_cons, List.all_nil, ck39_0, Bool.and_true]
set_option maxRecDepth 100000 in
theorem ck40_0 : cd40_0.all (aCkB 40) = true := by decide +kernel
theorem ck40 : (aCd 40).all (fun l => l.all (aCkB 40)) = true := by
  show (cd40).all (fun l => l.all (aCkB 40)) = true
  simp only [cd40, List.all_cons, List.all_nil, ck40_0, Bool.and_true]
set_option maxRecDepth 100000 in
theorem ck41_0 : cd41_0.all (aCkB 41) = true := by decide +kernel
set_option maxRecDepth 100000 in
theorem ck41_1 : cd41_1.all (aCkB 41) = true := by decide +kernel
theorem ck41 : (aCd 41).all (fun l => l.all (aCkB 41)) = true := by
  show (cd41).all (fun l => l.all (aCkB 41)) = true
  simp only [cd41, List.all_cons, List.all_nil, ck41_0, ck41_1, Bool.and_true]
set_option maxRecDepth 100000 in
theorem ck42_0 : cd42_0.all (aCkB 42) = true := by decide +kernel
set_option maxRecDepth 100000 in
theorem ck42_1 : cd42_1.all (aCkB 42) = true := by decide +kernel
theorem ck42 : (aCd 42).all (fun l => l.all (aCkB 42)) = true := by
  show (cd42).all (fun l => l.all (aCkB 42)) = true
  simp only [cd42, List.all_cons, List.all_nil, ck42_0, ck42_1, Bool.and_true]
set_option maxRecDepth 100000 in
theorem ck43_0 : cd43_0.all (aCkB 43) = true := by decide +kernel
set_option maxRecDepth 100000 in
theorem ck43_1 : cd43_1.all (aCkB 43) = true := by decide +kernel
set_option maxRecDepth 100000 in
theorem ck43_2 : cd43_2.all (aCkB 43) = true := by decide +kernel
theorem ck43 : (aCd 43).all (fun l => l.all (aCkB 43)) = true := by
  show (cd43).all (fun l => l.all (aCkB 43)) = true
  simp only [cd43, List.all_cons, List.all_nil, ck43_0, ck43_1, ck43_2, Bool.and_true]
set_option maxRecDepth 100000 in
theorem ck44_0 : cd44_0.all (aCkB 44) = true := by decide +kernel
theorem ck44 : (aCd 44).all (fun l => l.all (aCkB 44)) = true := by
  show (cd44).all (fun l => l.all (aCkB 44)) = true
  simp only [cd44, List.all_cons, List.all_nil, ck44_0, Bool.and_true]
set_option maxRecDepth 100000 in
theorem ck45_0 : cd45_0.all (aCkB 45) = true := by decide +kernel
theorem ck45 : (aCd 45).all (fun l => l.all (aCkB 45)) = true := by
  show (cd45).all (fun l => l.all (aCkB 45)) = true
  simp only [cd45, List.all_cons, List.all_nil, ck45_0, Bool.and_true]
set_option maxRecDepth 100000 in
theorem ck46_0 : cd46_0.all (aCkB 46) = true := by decide +kernel
theorem ck46 : (aCd 46).all (fun l => l.all (aCkB 46)) = true := by
  show (cd46).all (fun l => l.all (aCkB 46)) = true
  simp only [cd46, List.all_cons, List.all_nil, ck46_0, Bool.and_true]
set_option maxRecDepth 100000 in
theorem ck47_0 : cd47_0.all (aCkB 47) = true := by decide +kernel
theorem ck47 : (aCd 47).all (fun l => l.all (aCkB 47)) = true := by
  show (cd47).all (fun l => l.all (aCkB 47)) = true
  simp only [cd47, List.all_cons, List.all_nil, ck47_0, Bool.and_true]
set_option maxRecDepth 100000 in
theorem ck48_0 : cd48_0.all (aCkB 48) = true := by decide +kernel
theorem ck48 : (aCd 48).all (fun l => l.all (aCkB 48)) = true := by
  show (cd48).all (fun l => l.all (aCkB 48)) = true
  simp only [cd48, List.all_cons, List.all_nil, ck48_0, Bool.and_true]
set_option maxRecDepth 100000 in
theorem ck49_0 : cd49_0.all (aCkB 49) = true := by decide +kernel
theorem ck49 : (aCd 49).all (fun l => l.all (aCkB 49)) = true := by
  show (cd49).all (fun l => l.all (aCkB 49)) = true
  simp only [cd49, List.all_cons, List.all_nil, ck49_0, Bool.and_true]
set_option maxRecDepth 100000 in
theorem ck50_0 : cd50_0.all (aCkB 50) = true := by decide +kernel
theorem ck50 : (aCd 50).all (fun l => l.all (aCkB 50)) = true := by
  show (cd50).all (fun l => l.all (aCkB 50)) = true
  simp only [cd50, List.all_cons, List.all_nil, ck50_0, Bool.and_true]
set_option maxRecDepth 100000 in
theorem ck51_0 : cd51_0.all (aCkB 51) = true := by decide +kernel
theorem ck51 : (aCd 51).all (fun l => l.all (aCkB 51)) = true := by
  show (cd51).all (fun l => l.all (aCkB 51)) = true
  simp only [cd51, List.all_cons, List.all_nil, ck51_0, Bool.and_true]
set_option maxRecDepth 100000 in
theorem ck52_0 : cd52_0.all (aCkB 52) = true := by decide +kernel
theorem ck52 : (aCd 52).all (fun l => l.all (aCkB 52)) = true := by
  show (cd52).all (fun l => l.all (aCkB 52)) = true
  simp only [cd52, List.all_cons, List.all_nil, ck52_0, Bool.and_true]
set_option maxRecDepth 100000 in
theorem ck53_0 : cd53_0.all (aCkB 53) = true := by decide +kernel
theorem ck53 : (aCd 53).all (fun l => l.all (aCkB 53)) = true := by
  show (cd53).all (fun l => l.all (aCkB 53)) = true
  simp only [cd53, List.all_cons, List.all_nil, ck53_0, Bool.and_true]
set_option maxRecDepth 100000 in
theorem ck54_0 : cd54_0.all (aCkB 54) = true := by decide +kernel
theorem ck54 : (aCd 54).all (fun l => l.all (aCkB 54)) = true := by
  show (cd54).all (fun l => l.all (aCkB 54)) = true
  simp only [cd54, List.all_cons, List.all_nil, ck54_0, Bool.and_true]
set_option maxRecDepth 100000 in
theorem ck55_0 : cd55_0.all (aCkB 55) = true := by decide +kernel
theorem ck55 : (aCd 55).all (fun l => l.all (aCkB 55)) = true := by
  show (cd55).all (fun l => l.all (aCkB 55)) = true
  simp only [cd55, List.all_cons, List.all_nil, ck55_0, Bool.and_true]
set_option maxRecDepth 100000 in
theorem ck56_0 : cd56_0.all (aCkB 56) = true := by decide +kernel
theorem ck56 : (aCd 56).all (fun l => l.all (aCkB 56)) = true := by
  show (cd56).all (fun l => l.all (aCkB 56)) = true
  simp only [cd56, List.all_cons, List.all_nil, ck56_0, Bool.and_true]
set_option maxRecDepth 100000 in
theorem ck57_0 : cd57_0.all (aCkB 57) = true := by decide +kernel
theorem ck57 : (aCd 57).all (fun l => l.all (aCkB 57)) = true := by
  show (cd57).all (fun l => l.all (aCkB 57)) = true
  simp only [cd57, List.all_cons, List.all_nil, ck57_0, Bool.and_true]
set_option maxRecDepth 100000 in
theorem ck58_0 : cd58_0.all (aCkB 58) = true := by decide +kernel
set_option maxRecDepth 100000 in
theorem ck58_1 : cd58_1.all (aCkB 58) = true := by decide +kernel
theorem ck58 : (aCd 58).all (fun l => l.all (aCkB 58)) = true := by
  show (cd58).all (fun l => l.all (aCkB 58)) = true
  simp only [cd58, List.all_cons, List.all_nil, ck58_0, ck58_1, Bool.and_true]
set_option maxRecDepth 100000 in
theorem ck59_0 : cd59_0.all (aCkB 59) = true := by decide +kernel
set_option maxRecDepth 100000 in
theorem ck59_1 : cd59_1.all (aCkB 59) = true := by decide +kernel
theorem ck59 : (aCd 59).all (fun l => l.all (aCkB 59)) = true := by
  show (cd59).all (fun l => l.all (aCkB 59)) = true
  simp only [cd59, List.all_cons, List.all_nil, ck59_0, ck59_1, Bool.and_true]
set_option maxRecDepth 100000 in
theorem ck60_0 : cd60_0.all (aCkB 60) = true := by decide +kernel
set_option maxRecDepth 100000 in
theorem ck60_1 : cd60_1.all (aCkB 60) = true := by decide +kernel
theorem ck60 : (aCd 60).all (fun l => l.all (aCkB 60)) = true := by
  show (cd60).all (fun l => l.all (aCkB 60)) = true
  simp only [cd60, List.all_cons, List.all_nil, ck60_0, ck60_1, Bool.and_true]
set_option maxRecDepth 100000 in
theorem ck61_0 : cd61_0.all (aCkB 61) = true := by decide +kernel
theorem ck61 : (aCd 61).all (fun l => l.all (aCkB 61)) = true := by
  show (cd61).all (fun l => l.all (aCkB 61)) = true
  simp only [cd61, List.all_cons, List.all_nil, ck61_0, Bool.and_true]
set_option maxRecDepth 100000 in
theorem ck62_0 : cd62_0.all (aCkB 62) = true := by decide +kernel
theorem ck62 : (aCd 62).all (fun l => l.all (aCkB 62)) = true := by
  show (cd62).all (fun l => l.all (aCkB 62)) = true
  simp only [cd62, List.all_cons, List.all_nil, ck62_0, Bool.and_true]
set_option maxRecDepth 100000 in
theorem ck63_0 : cd63_0.all (aCkB 63) = true := by decide +kernel
theorem ck63 : (aCd 63).all (fun l => l.all (aCkB 63)) = true := by
  show (cd63).all (fun l => l.all (aCkB 63)) = true
  simp only [cd63, List.all_cons, List.all_nil, ck63_0, Bool.and_true]
set_option maxRecDepth 100000 in
theorem ck64_0 : cd64_0.all (aCkB 64) = true := by decide +kernel
theorem ck64 : (aCd 64).all (fun l => l.all (aCkB 64)) = true := by
  show (cd64).all (fun l => l.all (aCkB 64)) = true
  simp only [cd64, List.all_cons, List.all_nil, ck64_0, Bool.and_true]
set_option maxRecDepth 100000 in
theorem ck65_0 : cd65_0.all (aCkB 65) = true := by decide +kernel
theorem ck65 : (aCd 65).all (fun l => l.all (aCkB 65)) = true := by
  show (cd65).all (fun l => l.all (aCkB 65)) = true
  simp only [cd65, List.all_cons, List.all_nil, ck65_0, Bool.and_true]
set_option maxRecDepth 100000 in
theorem ck66_0 : cd66_0.all (aCkB 66) = true := by decide +kernel
set_option maxRecDepth 100000 in
theorem ck66_1 : cd66_1.all (aCkB 66) = true := by decide +kernel
theorem ck66 : (aCd 66).all (fun l => l.all (aCkB 66)) = true := by
  show (cd66).all (fun l => l.all (aCkB 66)) = true
  simp only [cd66, List.all_cons, List.all_nil, ck66_0, ck66_1, Bool.and_true]
set_option maxRecDepth 100000 in
theorem ck67_0 : cd67_0.all (aCkB 67) = true := by decide +kernel
theorem ck67 : (aCd 67).all (fun l => l.all (aCkB 67)) = true := by
  show (cd67).all (fun l => l.all (aCkB 67)) = true
  simp only [cd67, List.all_cons, List.all_nil, ck67_0, Bool.and_true]
set_option maxRecDepth 100000 in
theorem ck68_0 : cd68_0.all (aCkB 68) = true := by decide +kernel
theorem ck68 : (aCd 68).all (fun l => l.all (aCkB 68)) = true := by
  show (cd68).all (fun l => l.all (aCkB 68)) = true
  simp only [cd68, List.all_cons, List.all_nil, ck68_0, Bool.and_true]
set_option maxRecDepth 100000 in
theorem ck69_0 : cd69_0.all (aCkB 69) = true := by decide +kernel
theorem ck69 : (aCd 69).all (fun l => l.all (aCkB 69)) = true := by
  show (cd69).all (fun l => l.all (aCkB 69)) = true
  simp only [cd69, List.all_cons, List.all_nil, ck69_0, Bool.and_true]
set_option maxRecDepth 100000 in
theorem ck70_0 : cd70_0.all (aCkB 70) = true := by decide +kernel
theorem ck70 : (aCd 70).all (fun l => l.all (aCkB 70)) = true := by
  show (cd70).all (fun l => l.all (aCkB 70)) = true
  simp only [cd70, List.all_cons, List.all_nil, ck70_0, Bool.and_true]
set_option maxRecDepth 100000 in
theorem ck71_0 : cd71_0.all (aCkB 71) = true := by decide +kernel
theorem ck71 : (aCd 71).all (fun l => l.all (aCkB 71)) = true := by
  show (cd71).all (fun l => l.all (aCkB 71)) = true
  simp only [cd71, List.all_cons, List.all_nil, ck71_0, Bool.and_true]
set_option maxRecDepth 100000 in
theorem ck72_0 : cd72_0.all (aCkB 72) = true := by decide +kernel
set_option maxRecDepth 100000 in
theorem ck72_1 : cd72_1.all (aCkB 72) = true := by decide +kernel
theorem ck72 : (aCd 72).all (fun l => l.all (aCkB 72)) = true := by
  show (cd72).all (fun l => l.all (aCkB 72)) = true
  simp only [cd72, List.all_cons, List.all_nil, ck72_0, ck72_1, Bool.and_true]
set_option maxRecDepth 100000 in
theorem ck73_0 : cd73_0.all (aCkB 73) = true := by decide +kernel
set_option maxRecDepth 100000 in
theorem ck73_1 : cd73_1.all (aCkB 73) = true := by decide +kernel
theorem ck73 : (aCd 73).all (fun l => l.all (aCkB 73)) = true := by
  show (cd73).all (fun l => l.all (aCkB 73)) = true
  simp only [cd73, List.all_cons, List.all_nil, ck73_0, ck73_1, Bool.and_true]
set_option maxRecDepth 100000 in
theorem ck74_0 : cd74_0.all (aCkB 74) = true := by decide +kernel
set_option maxRecDepth 100000 in
theorem ck74_1 : cd74_1.all (aCkB 74) = true := by decide +kernel
theorem ck74 : (aCd 74).all (fun l => l.all (aCkB 74)) = true := by
  show (cd74).all (fun l => l.all (aCkB 74)) = true
  simp only [cd74, List.all_cons, List.all_nil, ck74_0, ck74_1, Bool.and_true]
set_option maxRecDepth 100000 in
theorem ck75_0 : cd75_0.all (aCkB 75) = true := by decide +kernel
set_option maxRecDepth 100000 in
theorem ck75_1 : cd75_1.all (aCkB 75) = true := by decide +kernel
set_option maxRecDepth 100000 in
theorem ck75_2 : cd75_2.all (aCkB 75) = true := by decide +kernel
theorem ck75 : (aCd 75).all (fun l => l.all (aCkB 75)) = true := by
  show (cd75).all (fun l => l.all (aCkB 75)) = true
  simp only [cd75, List.all_cons, List.all_nil, ck75_0, ck75_1, ck75_2, Bool.and_true]
set_option maxRecDepth 100000 in
theorem ck76_0 : cd76_0.all (aCkB 76) = true := by decide +kernel
set_option maxRecDepth 100000 in
theorem ck76_1 : cd76_1.all (aCkB 76) = true := by decide +kernel
theorem ck76 : (aCd 76).all (fun l => l.all (aCkB 76)) = true := by
  show (cd76).all (fun l => l.all (aCkB 76)) = true
  simp only [cd76, List.all_cons, List.all_nil, ck76_0, ck76_1, Bool.and_true]
set_option maxRecDepth 100000 in
theorem ck77_0 : cd77_0.all (aCkB 77) = true := by decide +kernel
theorem ck77 : (aCd 77).all (fun l => l.all (aCkB 77)) = true := by
  show (cd77).all (fun l => l.all (aCkB 77)) = true
  simp only [cd77, List.all_cons, List.all_nil, ck77_0, Bool.and_true]
set_option maxRecDepth 100000 in
theorem ck78_0 : cd78_0.all (aCkB 78) = true := by decide +kernel
theorem ck78 : (aCd 78).all (fun l => l.all (aCkB 78)) = true := by
  show (cd78).all (fun l => l.all (aCkB 78)) = true
  simp only [cd78, List.all_cons, List.all_nil, ck78_0, Bool.and_true]
set_option maxRecDepth 100000 in
theorem ck79_0 : cd79_0.all (aCkB 79) = true := by decide +kernel
theorem ck79 : (aCd 79).all (fun l => l.all (aCkB 79)) = true := by
  show (cd79).all (fun l => l.all (aCkB 79)) = true
  simp only [cd79, List.all_cons, List.all_nil, ck79_0, Bool.and_true]
set_option maxRecDepth 100000 in
theorem ck80_0 : cd80_0.all (aCkB 80) = true := by decide +kernel
theorem ck80 : (aCd 80).all (fun l => l.all (aCkB 80)) = true := by
  show (cd80).all (fun l => l.all (aCkB 80)) = true
  simp only [cd80, List.all_cons, List.all_nil, ck80_0, Bool.and_true]
set_option maxRecDepth 100000 in
theorem ck81_0 : cd81_0.all (aCkB 81) = true := by decide +kernel
set_option maxRecDepth 100000 in
theorem ck81_1 : cd81_1.all (aCkB 81) = true := by decide +kernel
theorem ck81 : (aCd 81).all (fun l => l.all (aCkB 81)) = true := by
  show (cd81).all (fun l => l.all (aCkB 81)) = true
  simp only [cd81, List.all_cons, List.all_nil, ck81_0, ck81_1, Bool.and_true]
end
