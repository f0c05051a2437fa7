section
set_option maxRecDepth 100000 in
theorem ck225_0 : cd225_0.all (aCkB 225) = true := by decide +kernel
theorem ck225 : (aCd 225).all (fun l => l.all (aCkB 225)) = true := by
  show (cd225).all (fun l => l.all (aCkB 225)) = true
  simp only [cd225, List.all_cons, List.all_nil, ck225_0, Bool.and_true]
set_option maxRecDepth 100000 in
theorem ck226_0 : cd226_0.all (aCkB 226) = true := by decide +kernel
theorem ck226 : (aCd 226).all (fun l => l.all (aCkB 226)) = true := by
  show (cd226).all (fun l => l.all (aCkB 226)) = true
  simp only [cd226, List.all_cons, List.all_nil, ck226_0, Bool.and_true]
set_option maxRecDepth 100000 in
theorem ck227_0 : cd227_0.all (aCkB 227) = true := by decide +kernel
set_option maxRecDepth 100000 in
theorem ck227_1 : cd227_1.all (aCkB 227) = true := by decide +kernel
set_option maxRecDepth 100000 in
theorem ck227_2 : cd227_2.all (aCkB 227) = true := by decide +kernel
set_option maxRecDepth 100000 in
theorem ck227_3 : cd227_3.all (aCkB 227) = true := by decide +kernel
set_option maxRecDepth 100000 in
theorem ck227_4 : cd227_4.all (aCkB 227) = true := by decide +kernel
set_option maxRecDepth 100000 in
theorem ck227_5 : cd227_5.all (aCkB 227) = true := by decide +kernel
set_option maxRecDepth 100000 in
theorem ck227_6 : cd227_6.all (aCkB 227) = true := by decide +kernel
set_option maxRecDepth 100000 in
theorem ck227_7 : cd227_7.all (aCkB 227) = true := by decide +kernel
theorem ck227 : (aCd 227).all (fun l => l.all (aCkB 227)) = true := by
  show (cd227).all (fun l => l.all (aCkB 227)) = true
  simp only [cd227, List.all_cons, List.all_nil, ck227_0, ck227_1, ck227_2, ck227_3, ck227_4, ck227_5, ck227_6, ck227_7, Bool.and_true]
set_option maxRecDepth 100000 in
theorem ck228_0 : cd228_0.all (aCkB 228) = true := by decide +kernel
set_option maxRecDepth 100000 in
theorem ck228_1 : cd228_1.all (aCkB 228) = true := by decide +kernel
set_option maxRecDepth 100000 in
theorem ck228_2 : cd228_2.all (aCkB 228) = true := by decide +kernel
theorem ck228 : (aCd 228).all (fun l => l.all (aCkB 228)) = true := by
  show (cd228).all (fun l => l.all (aCkB 228)) = true
  simp only [cd228, List.all_cons, List.all_nil, ck228_0, ck228_1, ck228_2, Bool.and_true]
set_option maxRecDepth 100000 in
theorem ck229_0 : cd229_0.all (aCkB 229) = true := by decide +kernel
set_option maxRecDepth 100000 in
theorem ck229_1 : cd229_1.all (aCkB 229) = true := by decide +kernel
theorem ck229 : (aCd 229).all (fun l => l.all (aCkB 229)) = true := by
  show (cd229).all (fun l => l.all (aCkB 229)) = true
  simp only [cd229, List.all_cons, List.all_nil, ck229_0, ck229_1, Bool.and_true]
set_option maxRecDepth 100000 in
theorem ck230_0 : cd230_0.all (aCkB 230) = true := by decide +kernel
set_option maxRecDepth 100000 in
theorem ck230_1 : cd230_1.all (aCkB 230) = true := by decide +kernel
theorem ck230 : (aCd 230).all (fun l => l.all (aCkB 230)) = true := by
  show (cd230).all (fun l => l.all (aCkB 230)) = true
  simp only [cd230, List.all_cons, List.all_nil, ck230_0, ck230_1, Bool.and_true]
set_option maxRecDepth 100000 in
theorem ck231_0 : cd231_0.all (aCkB 231) = true := by decide +kernel
theorem ck231 : (aCd 231).all (fun l => l.all (aCkB 231)) = true := by
  show (cd231).all (fun l => l.all (aCkB 231)) = true
  simp only [cd231, List.all_cons, List.all_nil, ck231_0, Bool.and_true]
set_option maxRecDepth 100000 in
theorem ck232_0 : cd232_0.all (aCkB 232) = true := by decide +kernel
set_option maxRecDepth 100000 in
theorem ck232_1 : cd232_1.all (aCkB 232) = true := by decide +kernel
set_option maxRecDepth 100000 in
theorem ck232_2 : cd232_2.all (aCkB 232) = true := by decide +kernel
set_option maxRecDepth 100000 in
theorem ck232_3 : cd232_3.all (aCkB 232) = true := by decide +kernel
set_option maxRecDepth 100000 in
theorem ck232_4 : cd232_4.all (aCkB 232) = true := by decide +kernel
set_option maxRecDepth 100000 in
theorem ck232_5 : cd232_5.all (aCkB 232) = true := by decide +kernel
set_option maxRecDepth 100000 in
theorem ck232_6 : cd232_6.all (aCkB 232) = true := by decide +kernel
theorem ck232 : (aCd 232).all (fun l => l.all (aCkB 232)) = true := by
  show (cd232).all (fun l => l.all (aCkB 232)) = true
  simp only [cd232, List.all_cons, List.all_nil, ck232_0, ck232_1, ck232_2, ck232_3, ck232_4, ck232_5, ck232_6, Bool.and_true]
set_option maxRecDepth 100000 in
theorem ck233_0 : cd233_0.all (aCkB 233) = true := by decide +kernel
theorem ck233 : (aCd 233).all (fun l => l.all (aCkB 233)) = true := by
  show (cd233).all (fun l => l.all (aCkB 233)) = true
  simp only [cd233, List.all_cons, List.all_nil, ck233_0, Bool.and_true]
set_option maxRecDepth 100000 in
theorem ck234_0 : cd234_0.all (aCkB 234) = true := by decide +kernel
set_option maxRecDepth 100000 in
theorem ck234_1 : cd234_1.all (aCkB 234) = true := by decide +kernel
theorem ck234 : (aCd 234).all (fun l => l.all (aCkB 234)) = true := by
  show (cd234).all (fun l => l.all (aCkB 234)) = true
  simp only [cd234, List.all_cons, List.all_nil, ck234_0, ck234_1, Bool.and_true]
set_option maxRecDepth 100000 in
theorem ck235_0 : cd235_0.all (aCkB 235) = true := by decide +kernel
theorem ck235 : (aCd 235).all (fun l => l.all (aCkB 235)) = true := by
  show (cd235).all (fun l => l.all (aCkB 235)) = true
  simp only [cd235, List.all_cons, List.all_nil, ck235_0, Bool.and_true]
set_option maxRecDepth 100000 in
theorem ck236_0 : cd236_0.all (aCkB 236) = true := by decide +kernel
set_option maxRecDepth 100000 in
theorem ck236_1 : cd236_1.all (aCkB 236) = true := by decide +kernel
set_option maxRecDepth 100000 in
theorem ck236_2 : cd236_2.all (aCkB 236) = true := by decide +kernel
set_option maxRecDepth 100000 in
theorem ck236_3 : cd236_3.all (aCkB 236) = true := by decide +kernel
theorem ck236 : (aCd 236).all (fun l => l.all (aCkB 236)) = true := by
  show (cd236).all (fun l => l.all (aCkB 236)) = true
  simp only [cd236, List.all_cons, List.all_nil, ck236_0, ck236_1, ck236_2, ck236_3, Bool.and_true]
set_option maxRecDepth 100000 in
theorem ck237_0 : cd237_0.all (aCkB 237) = true := by decide +kernel
set_option maxRecDepth 100000 in
theorem ck237_1 : cd237_1.all (aCkB 237) = true := by decide +kernel
theorem ck237 : (aCd 237).all (fun l => l.all (aCkB 237)) = true := by
  show (cd237).all (fun l => l.all (aCkB 237)) = true
  simp only [cd237, List.all_cons, List.all_nil, ck237_0, ck237_1, Bool.and_true]
set_option maxRecDepth 100000 in
theorem ck238_0 : cd238_0.all (aCkB 238) = true := by decide +kernel
set_option maxRecDepth 100000 in
theorem ck238_1 : cd238_1.all (aCkB 238) = true := by decide +kernel
theorem ck238 : (aCd 238).all (fun l => l.all (aCkB 238)) = true := by
  show (cd238).all (fun l => l.all (aCkB 238)) = true
  simp only [cd238, List.all_cons, List.all_nil, ck238_0, ck238_1, Bool.and_true]
set_option maxRecDepth 100000 in
theorem ck239_0 : cd239_0.all (aCkB 239) = true := by decide +kernel
set_option maxRecDepth 100000 in
theorem ck239_1 : cd239_1.all (aCkB 239) = true := by decide +kernel
theorem ck239 : (aCd 239).all (fun l => l.all (aCkB 239)) = true := by
  show (cd239).all (fun l => l.all (aCkB 239)) = true
  simp only [cd239, List.all_cons, List.all_nil, ck239_0, ck239_1, Bool.and_true]
set_option maxRecDepth 100000 in
theorem ck240_0 : cd240_0.all (aCkB 240) = true := by decide +kernel
set_option maxRecDepth 100000 in
theorem ck240_1 : cd240_1.all (aCkB 240) = true := by decide +kernel
set_option maxRecDepth 100000 in
theorem ck240_2 : cd240_2.all (aCkB 240) = true := by decide +kernel
theorem ck240 : (aCd 240).all (fun l => l.all (aCkB 240)) = true := by
  show (cd240).all (fun l => l.all (aCkB 240)) = true
  simp only [cd240, List.all_cons, List.all_nil, ck240_0, ck240_1, ck240_2, Bool.and_true]
set_option maxRecDepth 100000 in
theorem ck241_0 : cd241_0.all (aCkB 241) = true := by decide +kernel
set_option maxRecDepth 100000 in
theorem ck241_1 : cd241_1.all (aCkB 241) = true := by decide +kernel
theorem ck241 : (aCd 241).all (fun l => l.all (aCkB 241)) = true := by
  show (cd241).all (fun l => l.all (aCkB 241)) = true
  simp only [cd241, List.all_cons, List.all_nil, ck241_0, ck241_1, Bool.and_true]
set_option maxRecDepth 100000 in
theorem ck242_0 : cd242_0.all (aCkB 242) = true := by decide +kernel
set_option maxRecDepth 100000 in
theorem ck242_1 : cd242_1.all (aCkB 242) = true := by decide +kernel
set_option maxRecDepth 100000 in
theorem ck242_2 : cd242_2.all (aCkB 242) = true := by decide +kernel
theorem ck242 : (aCd 242).all (fun l => l.all (aCkB 242)) = true := by
  show (cd242).all (fun l => l.all (aCkB 242)) = true
  simp only [cd242, List.all_cons, List.all_nil, ck242_0, ck242_1, ck242_2, Bool.and_true]
set_option maxRecDepth 100000 in
theorem ck243_0 : cd243_0.all (aCkB 243) = true := by decide +kernel
theorem ck243 : (aCd 243).all (fun l => l.all (aCkB 243)) = true := by
  show (cd243).all (fun l => l.all (aCkB 243)) = true
  simp only [cd243, List.all_cons, List.all_nil, ck243_0, Bool.and_true]
set_option maxRecDepth 100000 in
theorem ck244_0 : cd244_0.all (aCkB 244) = true := by decide +kernel
theorem ck244 : (aCd 244).all (fun l => l.all (aCkB 244)) = true := by
  show (cd244).all (fun l => l.all (aCkB 244)) = true
  simp only [cd244, List.all_cons, List.all_nil, ck244_0, Bool.and_true]
set_option maxRecDepth 100000 in
theorem ck245_0 : cd245_0.all (aCkB 245) = true := by decide +kernel
theorem ck245 : (aCd 245).all (fun l => l.all (aCkB 245)) = true := by
  show (cd245).all (fun l => l.all (aCkB 245)) = true
  simp only [cd245, List.all_cons, List.all_nil, ck245_0, Bool.and_true]
theorem ck246 : (aCd 246).all (fun l => l.all (aCkB 246)) = true := rfl
theorem ck247 : (aCd 247).all (fun l => l.all (aCkB 247)) = true := rfl
theorem ck248 : (aCd 248).all (fun l => l.all (aCkB 248)) = true := rfl
theorem ck249 : (aCd 249).all (fun l => l.all (aCkB 249)) = true := rfl
theorem ck250 : (aCd 250).all (fun l => l.all (aCkB 250)) = true := rfl
set_option maxRecDepth 100000 in
theorem ck251_0 : cd251_0.all (aCkB 251) = true := by decide +kernel
theorem ck251 : (aCd 251).all (fun l => l.all (aCkB 251)) = true := by
  show (cd251).all (fun l => l.all (aCkB 251)) = true
  simp only [cd251, List.all_cons, List.all_nil, ck251_0, Bool.and_true]
set_option maxRecDepth 100000 in
theorem ck252_0 : cd252_0.all (aCkB 252) = true := by decide +kernel
theorem ck252 : (aCd 252).all (fun l => l.all (aCkB 252)) = true := by
  show (cd252).all (fun l => l.all (aCkB 252)) = true
  simp only [cd252, List.all_cons, List.all_nil, ck252_0, Bool.and_true]
set_option maxRecDepth 100000 in
theorem ck253_0 : cd253_0.all (aCkB 253) = true := by decide +kernel
theorem ck253 : (aCd 253).all (fun l => l.all (aCkB 253)) = true := by
  show (cd253).all (fun l => l.all (aCkB 253)) = true
  simp only [cd253, List.all_cons, List.all_nil, ck253_0, Bool.and_true]
set_option maxRecDepth 100000 in
theorem ck254_0 : cd254_0.all (aCkB 254) = true := by decide +kernel
theorem ck254 : (aCd 254).all (fun l => l.all (aCkB 254)) = true := by
  show (cd254).all (fun l => l.all (aCkB 254)) = true
  simp only [cd254, List.all_cons, List.all_nil, ck254_0, Bool.and_true]
set_option maxRecDepth 100000 in
theorem ck255_0 : cd255_0.all (aCkB 255) = true := by decide +kernel
theorem ck255 : (aCd 255).all (fun l => l.all (aCkB 255)) = true := by
  show (cd255).all (fun l => l.all (aCkB 255)) = true
  simp only [cd255, List.all_cons, List.all_nil, ck255_0, Bool.and_true]
set_option maxRecDepth 100000 in
theorem ck256_0 : cd256_0.all (aCkB 256) = true := by decide +kernel
theorem ck256 : (aCd 256).all (fun l => l.all (aCkB 256)) = true := by
  show (cd256).all (fun l => l.all (aCkB 256)) = true
  simp only [cd256, List.all_cons, List.all_nil, ck256_0, Bool.and_true]
set_option maxRecDepth 100000 in
theorem ck257_0 : cd257_0.all (aCkB 257) = true := by decide +kernel
theorem ck257 : (aCd 257).all (fun l => l.all (aCkB 257)) = true := by
  show (cd257).all (fun l => l.all (aCkB 257)) = true
  simp only [cd257, List.all_cons, List.all_nil, ck257_0, Bool.and_true]
theorem ck258 : (aCd 258).all (fun l => l.all (aCkB 258)) = true := rfl
set_option maxRecDepth 100000 in
theorem ck259_0 : cd259_0.all (aCkB 259) = true := by decide +kernel
theorem ck259 : (aCd 259).all (fun l => l.all (aCkB 259)) = true := by
  show (cd259).all (fun l => l.all (aCkB 259)) = true
  simp only [cd259, List.all_cons, List.all_nil, ck259_0, Bool.and_true]
set_option maxRecDepth 100000 in
theorem ck260_0 : cd260_0.all (aCkB 260) = true := by decide +kernel
theorem ck260 : (aCd 260).all (fun l => l.all (aCkB 260)) = true := by
  show (cd260).all (fun l => l.all (aCkB 260)) = true
  simp only [cd260, List.all_cons, List.all_nil, ck260_0, Bool.and_true]
set_option maxRecDepth 100000 in
theorem ck261_0 : cd261_0.all (aCkB 261) = true := by decide +kernel
theorem ck261 : (aCd 261).all (fun l => l.all (aCkB 261)) = true := by
  show (cd261).all (fun l => l.all (aCkB 261)) = true
  simp only [cd261, List.all_cons, List.all_nil, ck261_0, Bool.and_true]
set_option maxRecDepth 100000 in
theorem ck262_0 : cd262_0.all (aCkB 262) = true := by decide +kernel
theorem ck262 : (aCd 262).all (fun l => l.all (aCkB 262)) = true := by
  show (cd262).all (fun l => l.all (aCkB 262)) = true
  simp only [cd262, List.all_cons, List.all_nil, ck262_0, Bool.and_true]
theorem ck263 : (aCd 263).all (fun l => l.all (aCkB 263)) = true := rfl
theorem ck264 : (aCd 264).all (fun l => l.all (aCkB 264)) = true := rfl
theorem ck265 : (aCd 265).all (fun l => l.all (aCkB 265)) = true := rfl
theorem ck266 : (aCd 266).all (fun l => l.all (aCkB 266)) = true := rfl
theorem ck267 : (aCd 267).all (fun l => l.all (aCkB 267)) = true := rfl
theorem ck268 : (aCd 268).all (fun l => l.all (aCkB 268)) = true := rfl
theorem ck269 : (aCd 269).all (fun l => l.all (aCkB 269)) = true := rfl
theorem ck270 : (aCd 270).all (fun l => l.all (aCkB 270)) = true := rfl
theorem ck271 : (aCd 271).all (fun l => l.all (aCkB 271)) = true := rfl
set_option maxRecDepth 100000 in
theorem ck272_0 : cd272_0.all (aCkB 272) = true := by decide +kernel
theorem ck272 : (aCd 272).all (fun l => l.all (aCkB 272)) = true := by
  show (cd272).all (fun l => l.all (aCkB 272)) = true
  simp only [cd272, List.all_cons, List.all_nil, ck272_0, Bool.and_true]
set_option maxRecDepth 100000 in
theorem ck273_0 : cd273_0.all (aCkB 273) = true := by decide +kernel
theorem ck273 : (aCd 273).all (fun l => l.all (aCkB 273)) = true := by
  show (cd273).all (fun l => l.all (aCkB 273)) = true
  simp only [cd273, List.all_cons, List.all_nil, ck273_0, Bool.and_true]
set_option maxRecDepth 100000 in
theorem ck274_0 : cd274_0.all (aCkB 274) = true := by decide +kernel
theorem ck274 : (aCd 274).all (fun l => l.all (aCkB 274)) = true := by
  show (cd274).all (fun l => l.all (aCkB 274)) = true
  simp only [cd274, List.all_cons, List.all_nil, ck274_0, Bool.and_true]
theorem ck275 : (aCd 275).all (fun l => l.all (aCkB 275)) = true := rfl
set_option maxRecDepth 100000 in
theorem ck276_0 : cd276_0.all (aCkB 276) = true := by decide +kernel
set_option maxRecDepth 100000 in
theorem ck276_1 : cd276_1.all (aCkB 276) = true := by decide +kernel
set_option maxRecDepth 100000 in
theorem ck276_2 : cd276_2.all (aCkB 276) = true := by decide +kernel
set_option maxRecDepth 100000 in
theorem ck276_3 : cd276_3.all (aCkB 276) = true := by decide +kernel
set_option maxRecDepth 100000 in
theorem ck276_4 : cd276_4.all (aCkB 276) = true := by decide +kernel
set_option maxRecDepth 100000 in
theorem ck276_5 : cd276_5.all (aCkB 276) = true := by decide +kernel
set_option maxRecDepth 100000 in
theorem ck276_6 : cd276_6.all (aCkB 276) = true := by decide +kernel
set_option maxRecDepth 100000 in
theorem ck276_7 : cd276_7.all (aCkB 276) = true := by decide +kernel
set_option maxRecDepth 100000 in
theorem ck276_8 : cd276_8.all (aCkB 276) = true := by decide +kernel
set_option maxRecDepth 100000 in
theorem ck276_9 : cd276_9.all (aCkB 276) = true := by decide +kernel
set_option maxRecDepth 100000 in
theorem ck276_10 : cd276_10.all (aCkB 276) = true := by decide +kernel
set_option maxRecDepth 100000 in
theorem ck276_11 : cd276_11.all (aCkB 276) = true := by decide +kernel
set_option maxRecDepth 100000 in
theorem ck276_12 : cd276_12.all (aCkB 276) = true := by decide +kernel
set_option maxRecDepth 100000 in
theorem ck276_13 : cd276_13.all (aCkB 276) = true := by decide +kernel
set_option maxRecDepth 100000 in
theorem ck276_14 : cd276_14.all (aCkB 276) = true := by decide +kernel
set_option maxRecDepth 100000 in
theorem ck276_15 : cd276_15.all (aCkB 276) = true := by decide +kernel
set_option maxRecDepth 100000 in
theorem ck276_16 : cd276_16.all (aCkB 276) = true := by decide +kernel
set_option maxRecDepth 100000 in
theorem ck276_17 : cd276_17.all (aCkB 276) = true := by decide +kernel
set_option maxRecDepth 100000 in
theorem ck276_18 : cd276_18.all (aCkB 276) = true := by decide +kernel
set_option maxRecDepth 100000 in
theorem ck276_19 : cd276_19.all (aCkB 276) = true := by decide +kernel
set_option maxRecDepth 100000 in
theorem ck276_20 : cd276_20.all (aCkB 276) = true := by decide +kernel
set_option maxRecDepth 100000 in
theorem ck276_21 : cd276_21.all (aCkB 276) = true := by decide +kernel
set_option maxRecDepth 100000 in
theorem ck276_22 : cd276_22.all (aCkB 276) = true := by decide +kernel
set_option maxRecDepth 100000 in
theorem ck276_23 : cd276_23.all (aCkB 276) = true := by decide +kernel
set_option maxRecDepth 100000 in
theorem ck276_24 : cd276_24.all (aCkB 276) = true := by decide +kernel
theorem ck276 : (aCd 276).all (fun l => l.all (aCkB 276)) = true := by
  show (cd276).all (fun l => l.all (aCkB 276)) = true
  simp only [cd276, List.all_cons, List.all_nil, ck276_0, ck276_1, ck276_2, ck276_3, ck276_4, ck276_5, ck276_6, ck276_7, ck276_8, ck276_9, ck276_10, ck276_11, ck276_12, ck276_13, ck276_14, ck276_15, ck276_16, ck276_17, ck276_18, ck276_19, ck276_20, ck276_21, ck276_22, ck276_23, ck276_24, Bool.and_true]
end
