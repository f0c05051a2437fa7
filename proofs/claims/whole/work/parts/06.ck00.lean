section
set_option maxRecDepth 100000 in
theorem ck0_0 : cd0_0.all (aCkB 0) = true := by decide +kernel
set_option maxRecDepth 100000 in
theorem ck0_1 : cd0_1.all (aCkB 0) = true := by decide +kernel
theorem ck0 : (aCd 0).all (fun l => l.all (aCkB 0)) = true := by
  show (cd0).all (fun l => l.all (aCkB 0)) = true
  simp only [cd0, List.all_cons, List.all_nil, ck0_0, ck0_1, Bool.and_true]
set_option maxRecDepth 100000 in
theorem ck1_0 : cd1_0.all (aCkB 1) = true := by decide +kernel
set_option maxRecDepth 100000 in
theorem ck1_1 : cd1_1.all (aCkB 1) = true := by decide +kernel
set_option maxRecDepth 100000 in
theorem ck1_2 : cd1_2.all (aCkB 1) = true := by decide +kernel
theorem ck1 : (aCd 1).all (fun l => l.all (aCkB 1)) = true := by
  show (cd1).all (fun l => l.all (aCkB 1)) = true
  simp only [cd1, List.all_cons, List.all_nil, ck1_0, ck1_1, ck1_2, Bool.and_true]
set_option maxRecDepth 100000 in
theorem ck2_0 : cd2_0.all (aCkB 2) = true := by decide +kernel
theorem ck2 : (aCd 2).all (fun l => l.all (aCkB 2)) = true := by
  show (cd2).all (fun l => l.all (aCkB 2)) = true
  simp only [cd2, List.all_cons, List.all_nil, ck2_0, Bool.and_true]
set_option maxRecDepth 100000 in
theorem ck3_0 : cd3_0.all (aCkB 3) = true := by decide +kernel
set_option maxRecDepth 100000 in
theorem ck3_1 : cd3_1.all (aCkB 3) = true := by decide +kernel
theorem ck3 : (aCd 3).all (fun l => l.all (aCkB 3)) = true := by
  show (cd3).all (fun l => l.all (aCkB 3)) = true
  simp only [cd3, List.all_cons, List.all_nil, ck3_0, ck3_1, Bool.and_true]
set_option maxRecDepth 100000 in
theorem ck4_0 : cd4_0.all (aCkB 4) = true := by decide +kernel
set_option maxRecDepth 100000 in
theorem ck4_1 : cd4_1.all (aCkB 4) = true := by decide +kernel
theorem ck4 : (aCd 4).all (fun l => l.all (aCkB 4)) = true := by
  show (cd4).all (fun l => l.all (aCkB 4)) = true
  simp only [cd4, List.all_cons, List.all_nil, ck4_0, ck4_1, Bool.and_true]
set_option maxRecDepth 100000 in
theorem ck5_0 : cd5_0.all (aCkB 5) = true := by decide +kernel
set_option maxRecDepth 100000 in
theorem ck5_1 : cd5_1.all (aCkB 5) = true := by decide +kernel
theorem ck5 : (aCd 5).all (fun l => l.all (aCkB 5)) = true := by
  show (cd5).all (fun l => l.all (aCkB 5)) = true
  simp only [cd5, List.all_cons, List.all_nil, ck5_0, ck5_1, Bool.and_true]
set_option maxRecDepth 100000 in
theorem ck6_0 : cd6_0.all (aCkB 6) = true := by decide +kernel
set_option maxRecDepth 100000 in
theorem ck6_1 : cd6_1.all (aCkB 6) = true := by decide +kernel
set_option maxRecDepth 100000 in
theorem ck6_2 : cd6_2.all (aCkB 6) = true := by decide +kernel
theorem ck6 : (aCd 6).all (fun l => l.all (aCkB 6)) = true := by
  show (cd6).all (fun l => l.all (aCkB 6)) = true
  simp only [cd6, List.all_cons, List.all_nil, ck6_0, ck6_1, ck6_2, Bool.and_true]
set_option maxRecDepth 100000 in
theorem ck7_0 : cd7_0.all (aCkB 7) = true := by decide +kernel
theorem ck7 : (aCd 7).all (fun l => l.all (aCkB 7)) = true := by
  show (cd7).all (fun l => l.all (aCkB 7)) = true
  simp only [cd7, List.all_cons, List.all_nil, ck7_0, Bool.and_true]
set_option maxRecDepth 100000 in
theorem ck8_0 : cd8_0.all (aCkB 8) = true := by decide +kernel
set_option maxRecDepth 100000 in
theorem ck8_1 : cd8_1.all (aCkB 8) = true := by decide +kernel
theorem ck8 : (aCd 8).all (fun l => l.all (aCkB 8)) = true := by
  show (cd8).all (fun l => l.all (aCkB 8)) = true
  simp only [cd8, List.all_cons, List.all_nil, ck8_0, ck8_1, Bool.and_true]
set_option maxRecDepth 100000 in
theorem ck9_0 : cd9_0.all (aCkB 9) = true := by decide +kernel
set_option maxRecDepth 100000 in
theorem ck9_1 : cd9_1.all (aCkB 9) = true := by decide +kernel
set_option maxRecDepth 100000 in
theorem ck9_2 : cd9_2.all (aCkB 9) = true := by decide +kernel
theorem ck9 : (aCd 9).all (fun l => l.all (aCkB 9)) = true := by
  show (cd9).all (fun l => l.all (aCkB 9)) = true
  simp only [cd9, List.all_cons, List.all_nil, ck9_0, ck9_1, ck9_2, Bool.and_true]
set_option maxRecDepth 100000 in
theorem ck10_0 : cd10_0.all (aCkB 10) = true := by decide +kernel
set_option maxRecDepth 100000 in
theorem ck10_1 : cd10_1.all (aCkB 10) = true := by decide +kernel
set_option maxRecDepth 100000 in
theorem ck10_2 : cd10_2.all (aCkB 10) = true := by decide +kernel
theorem ck10 : (aCd 10).all (fun l => l.all (aCkB 10)) = true := by
  show (cd10).all (fun l => l.all (aCkB 10)) = true
  simp only [cd10, List.all_cons, List.all_nil, ck10_0, ck10_1, ck10_2, Bool.and_true]
set_option maxRecDepth 100000 in
theorem ck11_0 : cd11_0.all (aCkB 11) = true := by decide +kernel
set_option maxRecDepth 100000 in
theorem ck11_1 : cd11_1.all (aCkB 11) = true := by decide +kernel
theorem ck11 : (aCd 11).all (fun l => l.all (aCkB 11)) = true := by
  show (cd11).all (fun l => l.all (aCkB 11)) = true
  simp only [cd11, List.all_cons, List.all_nil, ck11_0, ck11_1, Bool.and_true]
set_option maxRecDepth 100000 in
theorem ck12_0 : cd12_0.all (aCkB 12) = true := by decide +kernel
set_option maxRecDepth 100000 in
theorem ck12_1 : cd12_1.all (aCkB 12) = true := by decide +kernel
set_option maxRecDepth 100000 in
theorem ck12_2 : cd12_2.all (aCkB 12) = true := by decide +kernel
theorem ck12 : (aCd 12).all (fun l => l.all (aCkB 12)) = true := by
  show (cd12).all (fun l => l.all (aCkB 12)) = true
  simp only [cd12, List.all_cons, List.all_nil, ck12_0, ck12_1, ck12_2, Bool.and_true]
set_option maxRecDepth 100000 in
theorem ck13_0 : cd13_0.all (aCkB 13) = true := by decide +kernel
set_option maxRecDepth 100000 in
theorem ck13_1 : cd13_1.all (aCkB 13) = true := by decide +kernel
theorem ck13 : (aCd 13).all (fun l => l.all (aCkB 13)) = true := by
  show (cd13).all (fun l => l.all (aCkB 13)) = true
  simp only [cd13, List.all_cons, List.all_nil, ck13_0, ck13_1, Bool.and_true]
set_option maxRecDepth 100000 in
theorem ck14_0 : cd14_0.all (aCkB 14) = true := by decide +kernel
set_option maxRecDepth 100000 in
theorem ck14_1 : cd14_1.all (aCkB 14) = true := by decide +kernel
theorem ck14 : (aCd 14).all (fun l => l.all (aCkB 14)) = true := by
  show (cd14).all (fun l => l.all (aCkB 14)) = true
  simp only [cd14, List.all_cons, List.all_nil, ck14_0, ck14_1, Bool.and_true]
set_option maxRecDepth 100000 in
theorem ck15_0 : cd15_0.all (aCkB 15) = true := by decide +kernel
theorem ck15 : (aCd 15).all (fun l => l.all (aCkB 15)) = true := by
  show (cd15).all (fun l => l.all (aCkB 15)) = true
  simp only [cd15, List.all_cons, List.all_nil, ck15_0, Bool.and_true]
set_option maxRecDepth 100000 in
theorem ck16_0 : cd16_0.all (aCkB 16) = true := by decide +kernel
theorem ck16 : (aCd 16).all (fun l => l.all (aCkB 16)) = true := by
  show (cd16).all (fun l => l.all (aCkB 16)) = true
  simp only [cd16, List.all_cons, List.all_nil, ck16_0, Bool.and_true]
set_option maxRecDepth 100000 in
theorem ck17_0 : cd17_0.all (aCkB 17) = true := by decide +kernel
set_option maxRecDepth 100000 in
theorem ck17_1 : cd17_1.all (aCkB 17) = true := by decide +kernel
set_option maxRecDepth 100000 in
theorem ck17_2 : cd17_2.all (aCkB 17) = true := by decide +kernel
set_option maxRecDepth 100000 in
theorem ck17_3 : cd17_3.all (aCkB 17) = true := by decide +kernel
theorem ck17 : (aCd 17).all (fun l => l.all (aCkB 17)) = true := by
  show (cd17).all (fun l => l.all (aCkB 17)) = true
  simp only [cd17, List.all_cons, List.all_nil, ck17_0, ck17_1, ck17_2, ck17_3, Bool.and_true]
set_option maxRecDepth 100000 in
theorem ck18_0 : cd18_0.all (aCkB 18) = true := by decide +kernel
set_option maxRecDepth 100000 in
theorem ck18_1 : cd18_1.all (aCkB 18) = true := by decide +kernel
theorem ck18 : (aCd 18).all (fun l => l.all (aCkB 18)) = true := by
  show (cd18).all (fun l => l.all (aCkB 18)) = true
  simp only [cd18, List.all_cons, List.all_nil, ck18_0, ck18_1, Bool.and_true]
set_option maxRecDepth 100000 in
theorem ck19_0 : cd19_0.all (aCkB 19) = true := by decide +kernel
set_option maxRecDepth 100000 in
theorem ck19_1 : cd19_1.all (aCkB 19) = true := by decide +kernel
set_option maxRecDepth 100000 in
theorem ck19_2 : cd19_2.all (aCkB 19) = true := by decide +kernel
theorem ck19 : (aCd 19).all (fun l => l.all (aCkB 19)) = true := by
  show (cd19).all (fun l => l.all (aCkB 19)) = true
  simp only [cd19, List.all_cons, List.all_nil, ck19_0, ck19_1, ck19_2, Bool.and_true]
set_option maxRecDepth 100000 in
theorem ck20_0 : cd20_0.all (aCkB 20) = true := by decide +kernel
theorem ck20 : (aCd 20).all (fun l => l.all (aCkB 20)) = true := by
  show (cd20).all (fun l => l.all (aCkB 20)) = true
  simp only [cd20, List.all_cons, List.all_nil, ck20_0, Bool.and_true]
set_option maxRecDepth 100000 in
theorem ck21_0 : cd21_0.all (aCkB 21) = true := by decide +kernel
theorem ck21 : (aCd 21).all (fun l => l.all (aCkB 21)) = true := by
  show (cd21).all (fun l => l.all (aCkB 21)) = true
  simp only [cd21, List.all_cons, List.all_nil, ck21_0, Bool.and_true]
set_option maxRecDepth 100000 in
theorem ck22_0 : cd22_0.all (aCkB 22) = true := by decide +kernel
set_option maxRecDepth 100000 in
theorem ck22_1 : cd22_1.all (aCkB 22) = true := by decide +kernel
set_option maxRecDepth 100000 in
theorem ck22_2 : cd22_2.all (aCkB 22) = true := by decide +kernel
theorem ck22 : (aCd 22).all (fun l => l.all (aCkB 22)) = true := by
  show (cd22).all (fun l => l.all (aCkB 22)) = true
  simp only [cd22, List.all_cons, List.all_nil, ck22_0, ck22_1, ck22_2, Bool.and_true]
set_option maxRecDepth 100000 in
theorem ck23_0 : cd23_0.all (aCkB 23) = true := by decide +kernel
set_option maxRecDepth 100000 in
theorem ck23_1 : cd23_1.all (aCkB 23) = true := by decide +kernel
set_option maxRecDepth 100000 in
theorem ck23_2 : cd23_2.all (aCkB 23) = true := by decide +kernel
set_option maxRecDepth 100000 in
theorem ck23_3 : cd23_3.all (aCkB 23) = true := by decide +kernel
theorem ck23 : (aCd 23).all (fun l => l.all (aCkB 23)) = true := by
  show (cd23).all (fun l => l.all (aCkB 23)) = true
  simp only [cd23, List.all_cons, List.all_nil, ck23_0, ck23_1, ck23_2, ck23_3, Bool.and_true]
set_option maxRecDepth 100000 in
theorem ck24_0 : cd24_0.all (aCkB 24) = true := by decide +kernel
set_option maxRecDepth 100000 in
theorem ck24_1 : cd24_1.all (aCkB 24) = true := by decide +kernel
theorem ck24 : (aCd 24).all (fun l => l.all (aCkB 24)) = true := by
  show (cd24).all (fun l => l.all (aCkB 24)) = true
  simp only [cd24, List.all_cons, List.all_nil, ck24_0, ck24_1, Bool.and_true]
set_option maxRecDepth 100000 in
theorem ck25_0 : cd25_0.all (aCkB 25) = true := by decide +kernel
set_option maxRecDepth 100000 in
theorem ck25_1 : cd25_1.all (aCkB 25) = true := by decide +kernel
theorem ck25 : (aCd 25).all (fun l => l.all (aCkB 25)) = true := by
  show (cd25).all (fun l => l.all (aCkB 25)) = true
  simp only [cd25, List.all_cons, List.all_nil, ck25_0, ck25_1, Bool.and_true]
set_option maxRecDepth 100000 in
theorem ck26_0 : cd26_0.all (aCkB 26) = true := by decide +kernel
theorem ck26 : (aCd 26).all (fun l => l.all (aCkB 26)) = true := by
  show (cd26).all (fun l => l.all (aCkB 26)) = true
  simp only [cd26, List.all_cons, List.all_nil, ck26_0, Bool.and_true]
end
