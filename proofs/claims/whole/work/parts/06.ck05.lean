section
set_option maxRecDepth 100000 in
theorem ck201_0 : cd201_0.all (aCkB 201) = true := by decide +kernel
theorem ck201 : (aCd 201).all (fun l => l.all (aCkB 201)) = true := by
  show (cd201).all (fun l => l.all (aCkB 201)) = true
  simp only [cd201, List.all_cons, List.all_nil, ck201_0, Bool.and_true]
set_option maxRecDepth 100000 in
theorem ck202_0 : cd202_0.all (aCkB 202) = true := by decide +kernel
set_option maxRecDepth 100000 in
theorem ck202_1 : cd202_1.all (aCkB 202) = true := by decide +kernel
set_option maxRecDepth 100000 in
theorem ck202_2 : cd202_2.all (aCkB 202) = true := by decide +kernel
theorem ck202 : (aCd 202).all (fun l => l.all (aCkB 202)) = true := by
  show (cd202).all (fun l => l.all (aCkB 202)) = true
  simp only [cd202, List.all_cons, List.all_nil, ck202_0, ck202_1, ck202_2, Bool.and_true]
set_option maxRecDepth 100000 in
theorem ck203_0 : cd203_0.all (aCkB 203) = true := by decide +kernel
set_option maxRecDepth 100000 in
theorem ck203_1 : cd203_1.all (aCkB 203) = true := by decide +kernel
set_option maxRecDepth 100000 in
theorem ck203_2 : cd203_2.all (aCkB 203) = true := by decide +kernel
theorem ck203 : (aCd 203).all (fun l => l.all (aCkB 203)) = true := by
  show (cd203).all (fun l => l.all (aCkB 203)) = true
  simp only [cd203, List.all_cons, List.all_nil, ck203_0, ck203_1, ck203_2, Bool.and_true]
set_option maxRecDepth 100000 in
theorem ck204_0 : cd204_0.all (aCkB 204) = true := by decide +kernel
theorem ck204 : (aCd 204).all (fun l => l.all (aCkB 204)) = true := by
  show (cd204).all (fun l => l.all (aCkB 204)) = true
  simp only [cd204, List.all_cons, List.all_nil, ck204_0, Bool.and_true]
set_option maxRecDepth 100000 in
theorem ck205_0 : cd205_0.all (aCkB 205) = true := by decide +kernel
set_option maxRecDepth 100000 in
theorem ck205_1 : cd205_1.all (aCkB 205) = true := by decide +kernel
theorem ck205 : (aCd 205).all (fun l => l.all (aCkB 205)) = true := by
  show (cd205).all (fun l => l.all (aCkB 205)) = true
  simp only [cd205, List.all_cons, List.all_nil, ck205_0, ck205_1, Bool.and_true]
set_option maxRecDepth 100000 in
theorem ck206_0 : cd206_0.all (aCkB 206) = true := by decide +kernel
set_option maxRecDepth 100000 in
theorem ck206_1 : cd206_1.all (aCkB 206) = true := by decide +kernel
set_option maxRecDepth 100000 in
theorem ck206_2 : cd206_2.all (aCkB 206) = true := by decide +kernel
set_option maxRecDepth 100000 in
theorem ck206_3 : cd206_3.all (aCkB 206) = true := by decide +kernel
theorem ck206 : (aCd 206).all (fun l => l.all (aCkB 206)) = true := by
  show (cd206).all (fun l => l.all (aCkB 206)) = true
  simp only [cd206, List.all_cons, List.all_nil, ck206_0, ck206_1, ck206_2, ck206_3, Bool.and_true]
set_option maxRecDepth 100000 in
theorem ck207_0 : cd207_0.all (aCkB 207) = true := by decide +kernel
theorem ck207 : (aCd 207).all (fun l => l.all (aCkB 207)) = true := by
  show (cd207).all (fun l => l.all (aCkB 207)) = true
  simp only [cd207, List.all_cons, List.all_nil, ck207_0, Bool.and_true]
set_option maxRecDepth 100000 in
theorem ck208_0 : cd208_0.all (aCkB 208) = true := by decide +kernel
theorem ck208 : (aCd 208).all (fun l => l.all (aCkB 208)) = true := by
  show (cd208).all (fun l => l.all (aCkB 208)) = true
  simp only [cd208, List.all_cons, List.all_nil, ck208_0, Bool.and_true]
set_option maxRecDepth 100000 in
theorem ck209_0 : cd209_0.all (aCkB 209) = true := by decide +kernel
theorem ck209 : (aCd 209).all (fun l => l.all (aCkB 209)) = true := by
  show (cd209).all (fun l => l.all (aCkB 209)) = true
  simp only [cd209, List.all_cons, List.all_nil, ck209_0, Bool.and_true]
set_option maxRecDepth 100000 in
theorem ck210_0 : cd210_0.all (aCkB 210) = true := by decide +kernel
set_option maxRecDepth 100000 in
theorem ck210_1 : cd210_1.all (aCkB 210) = true := by decide +kernel
theorem ck210 : (aCd 210).all (fun l => l.all (aCkB 210)) = true := by
  show (cd210).all (fun l => l.all (aCkB 210)) = true
  simp only [cd210, List.all_cons, List.all_nil, ck210_0, ck210_1, Bool.and_true]
set_option maxRecDepth 100000 in
theorem ck211_0 : cd211_0.all (aCkB 211) = true := by decide +kernel
theorem ck211 : (aCd 211).all (fun l => l.all (aCkB 211)) = true := by
  show (cd211).all (fun l => l.all (aCkB 211)) = true
  simp only [cd211, List.all_cons, List.all_nil, ck211_0, Bool.and_true]
set_option maxRecDepth 100000 in
theorem ck212_0 : cd212_0.all (aCkB 212) = true := by decide +kernel
theorem ck212 : (aCd 212).all (fun l => l.all (aCkB 212)) = true := by
  show (cd212).all (fun l => l.all (aCkB 212)) = true
  simp only [cd212, List.all_cons, List.all_nil, ck212_0, Bool.and_true]
set_option maxRecDepth 100000 in
theorem ck213_0 : cd213_0.all (aCkB 213) = true := by decide +kernel
set_option maxRecDepth 100000 in
theorem ck213_1 : cd213_1.all (aCkB 213) = true := by decide +kernel
set_option maxRecDepth 100000 in
theorem ck213_2 : cd213_2.all (aCkB 213) = true := by decide +kernel
theorem ck213 : (aCd 213).all (fun l => l.all (aCkB 213)) = true := by
  show (cd213).all (fun l => l.all (aCkB 213)) = true
  simp only [cd213, List.all_cons, List.all_nil, ck213_0, ck213_1, ck213_2, Bool.and_true]
set_option maxRecDepth 100000 in
theorem ck214_0 : cd214_0.all (aCkB 214) = true := by decide +kernel
set_option maxRecDepth 100000 in
theorem ck214_1 : cd214_1.all (aCkB 214) = true := by decide +kernel
set_option maxRecDepth 100000 in
theorem ck214_2 : cd214_2.all (aCkB 214) = true := by decide +kernel
set_option maxRecDepth 100000 in
theorem ck214_3 : cd214_3.all (aCkB 214) = true := by decide +kernel
set_option maxRecDepth 100000 in
theorem ck214_4 : cd214_4.all (aCkB 214) = true := by decide +kernel
theorem ck214 : (aCd 214).all (fun l => l.all (aCkB 214)) = true := by
  show (cd214).all (fun l => l.all (aCkB 214)) = true
  simp only [cd214, List.all_cons, List.all_nil, ck214_0, ck214_1, ck214_2, ck214_3, ck214_4, Bool.and_true]
set_option maxRecDepth 100000 in
theorem ck215_0 : cd215_0.all (aCkB 215) = true := by decide +kernel
set_option maxRecDepth 100000 in
theorem ck215_1 : cd215_1.all (aCkB 215) = true := by decide +kernel
theorem ck215 : (aCd 215).all (fun l => l.all (aCkB 215)) = true := by
  show (cd215).all (fun l => l.all (aCkB 215)) = true
  simp only [cd215, List.all_cons, List.all_nil, ck215_0, ck215_1, Bool.and_true]
set_option maxRecDepth 100000 in
theorem ck216_0 : cd216_0.all (aCkB 216) = true := by decide +kernel
set_option maxRecDepth 100000 in
theorem ck216_1 : cd216_1.all (aCkB 216) = true := by decide +kernel
set_option maxRecDepth 100000 in
theorem ck216_2 : cd216_2.all (aCkB 216) = true := by decide +kernel
set_option maxRecDepth 100000 in
theorem ck216_3 : cd216_3.all (aCkB 216) = true := by decide +kernel
theorem ck216 : (aCd 216).all (fun l => l.all (aCkB 216)) = true := by
  show (cd216).all (fun l => l.all (aCkB 216)) = true
  simp only [cd216, List.all_cons, List.all_nil, ck216_0, ck216_1, ck216_2, ck216_3, Bool.and_true]
set_option maxRecDepth 100000 in
theorem ck217_0 : cd217_0.all (aCkB 217) = true := by decide +kernel
set_option maxRecDepth 100000 in
theorem ck217_1 : cd217_1.all (aCkB 217) = true := by decide +kernel
set_option maxRecDepth 100000 in
theorem ck217_2 : cd217_2.all (aCkB 217) = true := by decide +kernel
set_option maxRecDepth 100000 in
theorem ck217_3 : cd217_3.all (aCkB 217) = true := by decide +kernel
set_option maxRecDepth 100000 in
theorem ck217_4 : cd217_4.all (aCkB 217) = true := by decide +kernel
set_option maxRecDepth 100000 in
theorem ck217_5 : cd217_5.all (aCkB 217) = true := by decide +kernel
set_option maxRecDepth 100000 in
theorem ck217_6 : cd217_6.all (aCkB 217) = true := by decide +kernel
theorem ck217 : (aCd 217).all (fun l => l.all (aCkB 217)) = true := by
  show (cd217).all (fun l => l.all (aCkB 217)) = true
  simp only [cd217, List.all_cons, List.all_nil, ck217_0, ck217_1, ck217_2, ck217_3, ck217_4, ck217_5, ck217_6, Bool.and_true]
set_option maxRecDepth 100000 in
theorem ck218_0 : cd218_0.all (aCkB 218) = true := by decide +kernel
theorem ck218 : (aCd 218).all (fun l => l.all (aCkB 218)) = true := by
  show (cd218).all (fun l => l.all (aCkB 218)) = true
  simp only [cd218, List.all_cons, List.all_nil, ck218_0, Bool.and_true]
set_option maxRecDepth 100000 in
theorem ck219_0 : cd219_0.all (aCkB 219) = true := by decide +kernel
theorem ck219 : (aCd 219).all (fun l => l.all (aCkB 219)) = true := by
  show (cd219).all (fun l => l.all (aCkB 219)) = true
  simp only [cd219, List.all_cons, List.all_nil, ck219_0, Bool.and_true]
set_option maxRecDepth 100000 in
theorem ck220_0 : cd220_0.all (aCkB 220) = true := by decide +kernel
set_option maxRecDepth 100000 in
theorem ck220_1 : cd220_1.all (aCkB 220) = true := by decide +kernel
set_option maxRecDepth 100000 in
theorem ck220_2 : cd220_2.all (aCkB 220) = true := by decide +kernel
theorem ck220 : (aCd 220).all (fun l => l.all (aCkB 220)) = true := by
  show (cd220).all (fun l => l.all (aCkB 220)) = true
  simp only [cd220, List.all_cons, List.all_nil, ck220_0, ck220_1, ck220_2, Bool.and_true]
set_option maxRecDepth 100000 in
theorem ck221_0 : cd221_0.all (aCkB 221) = true := by decide +kernel
set_option maxRecDepth 100000 in
theorem ck221_1 : cd221_1.all (aCkB 221) = true := by decide +kernel
set_option maxRecDepth 100000 in
theorem ck221_2 : cd221_2.all (aCkB 221) = true := by decide +kernel
theorem ck221 : (aCd 221).all (fun l => l.all (aCkB 221)) = true := by
  show (cd221).all (fun l => l.all (aCkB 221)) = true
  simp only [cd221, List.all_cons, List.all_nil, ck221_0, ck221_1, ck221_2, Bool.and_true]
set_option maxRecDepth 100000 in
theorem ck222_0 : cd222_0.all (aCkB 222) = true := by decide +kernel
set_option maxRecDepth 100000 in
theorem ck222_1 : cd222_1.all (aCkB 222) = true := by decide +kernel
set_option maxRecDepth 100000 in
theorem ck222_2 : cd222_2.all (aCkB 222) = true := by decide +kernel
set_option maxRecDepth 100000 in
theorem ck222_3 : cd222_3.all (aCkB 222) = true := by decide +kernel
theorem ck222 : (aCd 222).all (fun l => l.all (aCkB 222)) = true := by
  show (cd222).all (fun l => l.all (aCkB 222)) = true
  simp only [cd222, List.all_cons, List.all_nil, ck222_0, ck222_1, ck222_2, ck222_3, Bool.and_true]
set_option maxRecDepth 100000 in
theorem ck223_0 : cd223_0.all (aCkB 223) = true := by decide +kernel
theorem ck223 : (aCd 223).all (fun l => l.all (aCkB 223)) = true := by
  show (cd223).all (fun l => l.all (aCkB 223)) = true
  simp only [cd223, List.all_cons, List.all_nil, ck223_0, Bool.and_true]
set_option maxRecDepth 100000 in
theorem ck224_0 : cd224_0.all (aCkB 224) = true := by decide +kernel
set_option maxRecDepth 100000 in
theorem ck224_1 : cd224_1.all (aCkB 224) = true := by decide +kernel
set_option maxRecDepth 100000 in
theorem ck224_2 : cd224_2.all (aCkB 224) = true := by decide +kernel
set_option maxRecDepth 100000 in
theorem ck224_3 : cd224_3.all (aCkB 224) = true := by decide +kernel
set_option maxRecDepth 100000 in
theorem ck224_4 : cd224_4.all (aCkB 224) = true := by decide +kernel
set_option maxRecDepth 100000 in
theorem ck224_5 : cd224_5.all (aCkB 224) = true := by decide +kernel
theorem ck224 : (aCd 224).all (fun l => l.all (aCkB 224)) = true := by
  show (cd224).all (fun l => l.all (aCkB 224)) = true
  simp only [cd224, List.all_cons, List.all_nil, ck224_0, ck224_1, ck224_2, ck224_3, ck224_4, ck224_5, Bool.and_true]
end
