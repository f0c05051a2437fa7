section
set_option maxRecDepth 100000 in
theorem ck82_0 : cd82_0.all (aCkB 82) = true := by decide +kernel
theorem ck82 : (aCd 82).all (fun l => l.all (aCkB 82)) = true := by
  show (cd82).all (fun l => l.all (aCkB 82)) = true
  simp only [cd82, List.all_cons, List.all_nil, ck82_0, Bool.and_true]
set_option maxRecDepth 100000 in
theorem ck83_0 : cd83_0.all (aCkB 83) = true := by decide +kernel
theorem ck83 : (aCd 83).all (fun l => l.all (aCkB 83)) = true := by
  show (cd83).all (fun l => l.all (aCkB 83)) = true
  simp only [cd83, List.all_cons, List.all_nil, ck83_0, Bool.and_true]
set_option maxRecDepth 100000 in
theorem ck84_0 : cd84_0.all (aCkB 84) = true := by decide +kernel
theorem ck84 : (aCd 84).all (fun l => l.all (aCkB 84)) = true := by
  show (cd84).all (fun l => l.all (aCkB 84)) = true
  simp only [cd84, List.all_cons, List.all_nil, ck84_0, Bool.and_true]
set_option maxRecDepth 100000 in
theorem ck85_0 : cd85_0.all (aCkB 85) = true := by decide +kernel
set_option maxRecDepth 100000 in
theorem ck85_1 : cd85_1.all (aCkB 85) = true := by decide +kernel
theorem ck85 : (aCd 85).all (fun l => l.all (aCkB 85)) = true := by
  show (cd85).all (fun l => l.all (aCkB 85)) = true
  simp only [cd85, List.all_cons, List.all_nil, ck85_0, ck85_1, Bool.and_true]
set_option maxRecDepth 100000 in
theorem ck86_0 : cd86_0.all (aCkB 86) = true := by decide +kernel
theorem ck86 : (aCd 86).all (fun l => l.all (aCkB 86)) = true := by
  show (cd86).all (fun l => l.all (aCkB 86)) = true
  simp only [cd86, List.all_cons, List.all_nil, ck86_0, Bool.and_true]
set_option maxRecDepth 100000 in
theorem ck87_0 : cd87_0.all (aCkB 87) = true := by decide +kernel
set_option maxRecDepth 100000 in
theorem ck87_1 : cd87_1.all (aCkB 87) = true := by decide +kernel
theorem ck87 : (aCd 87).all (fun l => l.all (aCkB 87)) = true := by
  show (cd87).all (fun l => l.all (aCkB 87)) = true
  simp only [cd87, List.all_cons, List.all_nil, ck87_0, ck87_1, Bool.and_true]
set_option maxRecDepth 100000 in
theorem ck88_0 : cd88_0.all (aCkB 88) = true := by decide +kernel
set_option maxRecDepth 100000 in
theorem ck88_1 : cd88_1.all (aCkB 88) = true := by decide +kernel
set_option maxRecDepth 100000 in
theorem ck88_2 : cd88_2.all (aCkB 88) = true := by decide +kernel
theorem ck88 : (aCd 88).all (fun l => l.all (aCkB 88)) = true := by
  show (cd88).all (fun l => l.all (aCkB 88)) = true
  simp only [cd88, List.all_cons, List.all_nil, ck88_0, ck88_1, ck88_2, Bool.and_true]
set_option maxRecDepth 100000 in
theorem ck89_0 : cd89_0.all (aCkB 89) = true := by decide +kernel
theorem ck89 : (aCd 89).all (fun l => l.all (aCkB 89)) = true := by
  show (cd89).all (fun l => l.all (aCkB 89)) = true
  simp only [cd89, List.all_cons, List.all_nil, ck89_0, Bool.and_true]
set_option maxRecDepth 100000 in
theorem ck90_0 : cd90_0.all (aCkB 90) = true := by decide +kernel
theorem ck90 : (aCd 90).all (fun l => l.all (aCkB 90)) = true := by
  show (cd90).all (fun l => l.all (aCkB 90)) = true
  simp only [cd90, List.all_cons, List.all_nil, ck90_0, Bool.and_true]
set_option maxRecDepth 100000 in
theorem ck91_0 : cd91_0.all (aCkB 91) = true := by decide +kernel
theorem ck91 : (aCd 91).all (fun l => l.all (aCkB 91)) = true := by
  show (cd91).all (fun l => l.all (aCkB 91)) = true
  simp only [cd91, List.all_cons, List.all_nil, ck91_0, Bool.and_true]
set_option maxRecDepth 100000 in
theorem ck92_0 : cd92_0.all (aCkB 92) = true := by decide +kernel
theorem ck92 : (aCd 92).all (fun l => l.all (aCkB 92)) = true := by
  show (cd92).all (fun l => l.all (aCkB 92)) = true
  simp only [cd92, List.all_cons, List.all_nil, ck92_0, Bool.and_true]
set_option maxRecDepth 100000 in
theorem ck93_0 : cd93_0.all (aCkB 93) = true := by decide +kernel
set_option maxRecDepth 100000 in
theorem ck93_1 : cd93_1.all (aCkB 93) = true := by decide +kernel
theorem ck93 : (aCd 93).all (fun l => l.all (aCkB 93)) = true := by
  show (cd93).all (fun l => l.all (aCkB 93)) = true
  simp only [cd93, List.all_cons, List.all_nil, ck93_0, ck93_1, Bool.and_true]
set_option maxRecDepth 100000 in
theorem ck94_0 : cd94_0.all (aCkB 94) = true := by decide +kernel
theorem ck94 : (aCd 94).all (fun l => l.all (aCkB 94)) = true := by
  show (cd94).all (fun l => l.all (aCkB 94)) = true
  simp only [cd94, List.all_cons, List.all_nil, ck94_0, Bool.and_true]
set_option maxRecDepth 100000 in
theorem ck95_0 : cd95_0.all (aCkB 95) = true := by decide +kernel
set_option maxRecDepth 100000 in
theorem ck95_1 : cd95_1.all (aCkB 95) = true := by decide +kernel
set_option maxRecDepth 100000 in
theorem ck95_2 : cd95_2.all (aCkB 95) = true := by decide +kernel
theorem ck95 : (aCd 95).all (fun l => l.all (aCkB 95)) = true := by
  show (cd95).all (fun l => l.all (aCkB 95)) = true
  simp only [cd95, List.all_cons, List.all_nil, ck95_0, ck95_1, ck95_2, Bool.and_true]
set_option maxRecDepth 100000 in
theorem ck96_0 : cd96_0.all (aCkB 96) = true := by decide +kernel
set_option maxRecDepth 100000 in
theorem ck96_1 : cd96_1.all (aCkB 96) = true := by decide +kernel
theorem ck96 : (aCd 96).all (fun l => l.all (aCkB 96)) = true := by
  show (cd96).all (fun l => l.all (aCkB 96)) = true
  simp only [cd96, List.all_cons, List.all_nil, ck96_0, ck96_1, Bool.and_true]
set_option maxRecDepth 100000 in
theorem ck97_0 : cd97_0.all (aCkB 97) = true := by decide +kernel
set_option maxRecDepth 100000 in
theorem ck97_1 : cd97_1.all (aCkB 97) = true := by decide +kernel
theorem ck97 : (aCd 97).all (fun l => l.all (aCkB 97)) = true := by
  show (cd97).all (fun l => l.all (aCkB 97)) = true
  simp only [cd97, List.all_cons, List.all_nil, ck97_0, ck97_1, Bool.and_true]
set_option maxRecDepth 100000 in
theorem ck98_0 : cd98_0.all (aCkB 98) = true := by decide +kernel
theorem ck98 : (aCd 98).all (fun l => l.all (aCkB 98)) = true := by
  show (cd98).all (fun l => l.all (aCkB 98)) = true
  simp only [cd98, List.all_cons, List.all_nil, ck98_0, Bool.and_true]
set_option maxRecDepth 100000 in
theorem ck99_0 : cd99_0.all (aCkB 99) = true := by decide +kernel
set_option maxRecDepth 100000 in
theorem ck99_1 : cd99_1.all (aCkB 99) = true := by decide +kernel
set_option maxRecDepth 100000 in
theorem ck99_2 : cd99_2.all (aCkB 99) = true := by decide +kernel
set_option maxRecDepth 100000 in
theorem ck99_3 : cd99_3.all (aCkB 99) = true := by decide +kernel
theorem ck99 : (aCd 99).all (fun l => l.all (aCkB 99)) = true := by
  show (cd99).all (fun l => l.all (aCkB 99)) = true
  simp only [cd99, List.all_cons, List.all_nil, ck99_0, ck99_1, ck99_2, ck99_3, Bool.and_true]
set_option maxRecDepth 100000 in
theorem ck100_0 : cd100_0.all (aCkB 100) = true := by decide +kernel
set_option maxRecDepth 100000 in
theorem ck100_1 : cd100_1.all (aCkB 100) = true := by decide +kernel
theorem ck100 : (aCd 100).all (fun l => l.all (aCkB 100)) = true := by
  show (cd100).all (fun l => l.all (aCkB 100)) = true
  simp only [cd100, List.all_cons, List.all_nil, ck100_0, ck100_1, Bool.and_true]
set_option maxRecDepth 100000 in
theorem ck101_0 : cd101_0.all (aCkB 101) = true := by decide +kernel
set_option maxRecDepth 100000 in
theorem ck101_1 : cd101_1.all (aCkB 101) = true := by decide +kernel
theorem ck101 : (aCd 101).all (fun l => l.all (aCkB 101)) = true := by
  show (cd101).all (fun l => l.all (aCkB 101)) = true
  simp only [cd101, List.all_cons, List.all_nil, ck101_0, ck101_1, Bool.and_true]
set_option maxRecDepth 100000 in
theorem ck102_0 : cd102_0.all (aCkB 102) = true := by decide +kernel
theorem ck102 : (aCd 102).all (fun l => l.all (aCkB 102)) = true := by
  show (cd102).all (fun l => l.all (aCkB 102)) = true
  simp only [cd102, List.all_cons, List.all_nil, ck102_0, Bool.and_true]
set_option maxRecDepth 100000 in
theorem ck103_0 : cd103_0.all (aCkB 103) = true := by decide +kernel
theorem ck103 : (aCd 103).all (fun l => l.all (aCkB 103)) = true := by
  show (cd103).all (fun l => l.all (aCkB 103)) = true
  simp only [cd103, List.all_cons, List.all_nil, ck103_0, Bool.and_true]
set_option maxRecDepth 100000 in
theorem ck104_0 : cd104_0.all (aCkB 104) = true := by decide +kernel
set_option maxRecDepth 100000 in
theorem ck104_1 : cd104_1.all (aCkB 104) = true := by decide +kernel
theorem ck104 : (aCd 104).all (fun l => l.all (aCkB 104)) = true := by
  show (cd104).all (fun l => l.all (aCkB 104)) = true
  simp only [cd104, List.all_cons, List.all_nil, ck104_0, ck104_1, Bool.and_true]
set_option maxRecDepth 100000 in
theorem ck105_0 : cd105_0.all (aCkB 105) = true := by decide +kernel
set_option maxRecDepth 100000 in
theorem ck105_1 : cd105_1.all (aCkB 105) = true := by decide +kernel
set_option maxRecDepth 100000 in
theorem ck105_2 : cd105_2.all (aCkB 105) = true := by decide +kernel
theorem ck105 : (aCd 105).all (fun l => l.all (aCkB 105)) = true := by
  show (cd105).all (fun l => l.all (aCkB 105)) = true
  simp only [cd105, List.all_cons, List.all_nil, ck105_0, ck105_1, ck105_2, Bool.and_true]
set_option maxRecDepth 100000 in
theorem ck106_0 : cd106_0.all (aCkB 106) = true := by decide +kernel
set_option maxRecDepth 100000 in
theorem ck106_1 : cd106_1.all (aCkB 106) = true := by decide +kernel
set_option maxRecDepth 100000 in
theorem ck106_2 : cd106_2.all (aCkB 106) = true := by decide +kernel
set_option maxRecDepth 100000 in
theorem ck106_3 : cd106_3.all (aCkB 106) = true := by decide +kernel
theorem ck106 : (aCd 106).all (fun l => l.all (aCkB 106)) = true := by
  show (cd106).all (fun l => l.all (aCkB 106)) = true
  simp only [cd106, List.all_cons, List.all_nil, ck106_0, ck106_1, ck106_2, ck106_3, Bool.and_true]
set_option maxRecDepth 100000 in
theorem ck107_0 : cd107_0.all (aCkB 107) = true := by decide +kernel
theorem ck107 : (aCd 107).all (fun l => l.all (aCkB 107)) = true := by
  show (cd107).all (fun l => l.all (aCkB 107)) = true
  simp only [cd107, List.all_cons, List.all_nil, ck107_0, Bool.and_true]
set_option maxRecDepth 100000 in
theorem ck108_0 : cd108_0.all (aCkB 108) = true := by decide +kernel
theorem ck108 : (aCd 108).all (fun l => l.all (aCkB 108)) = true := by
  show (cd108).all (fun l => l.all (aCkB 108)) = true
  simp only [cd108, List.all_cons, List.all_nil, ck108_0, Bool.and_true]
set_option maxRecDepth 100000 in
theorem ck109_0 : cd109_0.all (aCkB 109) = true := by decide +kernel
set_option maxRecDepth 100000 in
theorem ck109_1 : cd109_1.all (aCkB 109) = true := by decide +kernel
set_option maxRecDepth 100000 in
theorem ck109_2 : cd109_2.all (aCkB 109) = true := by decide +kernel
theorem ck109 : (aCd 109).all (fun l => l.all (aCkB 109)) = true := by
  show (cd109).all (fun l => l.all (aCkB 109)) = true
  simp only [cd109, List.all_cons, List.all_nil, ck109_0, ck109_1, ck109_2, Bool.and_true]
set_option maxRecDepth 100000 in
theorem ck110_0 : cd110_0.all (aCkB 110) = true := by decide +kernel
theorem ck110 : (aCd 110).all (fun l => l.all (aCkB 110)) = true := by
  show (cd110).all (fun l => l.all (aCkB 110)) = true
  simp only [cd110, List.all_cons, List.all_nil, ck110_0, Bool.and_true]
set_option maxRecDepth 100000 in
theorem ck111_0 : cd111_0.all (aCkB 111) = true := by decide +kernel
theorem ck111 : (aCd 111).all (fun l => l.all (aCkB 111)) = true := by
  show (cd111).all (fun l => l.all (aCkB 111)) = true
  simp only [cd111, List.all_cons, List.all_nil, ck111_0, Bool.and_true]
set_option maxRecDepth 100000 in
theorem ck112_0 : cd112_0.all (aCkB 112) = true := by decide +kernel
theorem ck112 : (aCd 112).all (fun l => l.all (aCkB 112)) = true := by
  show (cd112).all (fun l => l.all (aCkB 112)) = true
  simp only [cd112, List.all_cons, List.all_nil, ck112_0, Bool.and_true]
set_option maxRecDepth 100000 in
theorem ck113_0 : cd113_0.all (aCkB 113) = true := by decide +kernel
set_option maxRecDepth 100000 in
theorem ck113_1 : cd113_1.all (aCkB 113) = true := by decide +kernel
theorem ck113 : (aCd 113).all (fun l => l.all (aCkB 113)) = true := by
  show (cd113).all (fun l => l.all (aCkB 113)) = true
  simp only [cd113, List.all_cons, List.all_nil, ck113_0, ck113_1, Bool.and_true]
set_option maxRecDepth 100000 in
theorem ck114_0 : cd114_0.all (aCkB 114) = true := by decide +kernel
theorem ck114 : (aCd 114).all (fun l => l.all (aCkB 114)) = true := by
  show (cd114).all (fun l => l.all (aCkB 114)) = true
  simp only [cd114, List.all_cons, List.all_nil, ck114_0, Bool.and_true]
set_option maxRecDepth 100000 in
theorem ck115_0 : cd115_0.all (aCkB 115) = true := by decide +kernel
set_option maxRecDepth 100000 in
theorem ck115_1 : cd115_1.all (aCkB 115) = true := by decide +kernel
theorem ck115 : (aCd 115).all (fun l => l.all (aCkB 115)) = true := by
  show (cd115).all (fun l => l.all (aCkB 115)) = true
  simp only [cd115, List.all_cons, List.all_nil, ck115_0, ck115_1, Bool.and_true]
set_option maxRecDepth 100000 in
theorem ck116_0 : cd116_0.all (aCkB 116) = true := by decide +kernel
set_option maxRecDepth 100000 in
theorem ck116_1 : cd116_1.all (aCkB 116) = true := by decide +kernel
theorem ck116 : (aCd 116).all (fun l => l.all (aCkB 116)) = true := by
  show (cd116).all (fun l => l.all (aCkB 116)) = true
  simp only [cd116, List.all_cons, List.all_nil, ck116_0, ck116_1, Bool.and_true]
set_option maxRecDepth 100000 in
theorem ck117_0 : cd117_0.all (aCkB 117) = true := by decide +kernel
set_option maxRecDepth 100000 in
theorem ck117_1 : cd117_1.all (aCkB 117) = true := by decide +kernel
theorem ck117 : (aCd 117).all (fun l => l.all (aCkB 117)) = true := by
  show (cd117).all (fun l => l.all (aCkB 117)) = true
  simp only [cd117, List.all_cons, List.all_nil, ck117_0, ck117_1, Bool.and_true]
set_option maxRecDepth 100000 in
theorem ck118_0 : cd118_0.all (aCkB 118) = true := by decide +kernel
theorem ck118 : (aCd 118).all (fun l => l.all (aCkB 118)) = true := by
  show (cd118).all (fun l => l.all (aCkB 118)) = true
  simp only [cd118, List.all_cons, List.all_nil, ck118_0, Bool.and_true]
set_option maxRecDepth 100000 in
theorem ck119_0 : cd119_0.all (aCkB 119) = true := by decide +kernel
theorem ck119 : (aCd 119).all (fun l => l.all (aCkB 119)) = true := by
  show (cd119).all (fun l => l.all (aCkB 119)) = true
  simp only [cd119, List.all_cons, List.all_nil, ck119_0, Bool.and_true]
set_option maxRecDepth 100000 in
theorem ck120_0 : cd120_0.all (aCkB 120) = true := by decide +kernel
theorem ck120 : (aCd 120).all (fun l => l.all (aCkB 120)) = true := by
  show (cd120).all (fun l => l.all (aCkB 120)) = true
  simp only [cd120, List.all_cons, List.all_nil, ck120_0, Bool.and_true]
set_option maxRecDepth 100000 in
theorem ck121_0 : cd121_0.all (aCkB 121) = true := by decide +kernel
set_option maxRecDepth 100000 in
theorem ck121_1 : cd121_1.all (aCkB 121) = true := by decide +kernel
theorem ck121 : (aCd 121).all (fun l => l.all (aCkB 121)) = true := by
  show (cd121).all (fun l => l.all (aCkB 121)) = true
  simp only [cd121, List.all_cons, List.all_nil, ck121_0, ck121_1, Bool.and_true]
set_option maxRecDepth 100000 in
theorem ck122_0 : cd122_0.all (aCkB 122) = true := by decide +kernel
set_option maxRecDepth 100000 in
theorem ck122_1 : cd122_1.all (aCkB 122) = true := by decide +kernel
set_option maxRecDepth 100000 in
theorem ck122_2 : cd122_2.all (aCkB 122) = true := by decide +kernel
theorem ck122 : (aCd 122).all (fun l => l.all (aCkB 122)) = true := by
  show (cd122).all (fun l => l.all (aCkB 122)) = true
  simp only [cd122, List.all_cons, List.all_nil, ck122_0, ck122_1, ck122_2, Bool.and_true]
end
