section
set_option maxRecDepth 100000 in
theorem ck123_0 : cd123_0.all (aCkB 123) = true := by decide +kernel
theorem ck123 : (aCd 123).all (fun l => l.all (aCkB 123)) = true := by
  show (cd123).all (fun l => l.all (aCkB 123)) = true
  simp only [cd123, List.all_cons, List.all_nil, ck123_0, Bool.and_true]
set_option maxRecDepth 100000 in
theorem ck124_0 : cd124_0.all (aCkB 124) = true := by decide +kernel
theorem ck124 : (aCd 124).all (fun l => l.all (aCkB 124)) = true := by
  show (cd124).all (fun l => l.all (aCkB 124)) = true
  simp only [cd124, List.all_cons, List.all_nil, ck124_0, Bool.and_true]
set_option maxRecDepth 100000 in
theorem ck125_0 : cd125_0.all (aCkB 125) = true := by decide +kernel
theorem ck125 : (aCd 125).all (fun l => l.all (aCkB 125)) = true := by
  show (cd125).all (fun l => l.all (aCkB 125)) = true
  simp only [cd125, List.all_cons, List.all_nil, ck125_0, Bool.and_true]
set_option maxRecDepth 100000 in
theorem ck126_0 : cd126_0.all (aCkB 126) = true := by decide +kernel
set_option maxRecDepth 100000 in
theorem ck126_1 : cd126_1.all (aCkB 126) = true := by decide +kernel
theorem ck126 : (aCd 126).all (fun l => l.all (aCkB 126)) = true := by
  show (cd126).all (fun l => l.all (aCkB 126)) = true
  simp only [cd126, List.all_cons, List.all_nil, ck126_0, ck126_1, Bool.and_true]
set_option maxRecDepth 100000 in
theorem ck127_0 : cd127_0.all (aCkB 127) = true := by decide +kernel
set_option maxRecDepth 100000 in
theorem ck127_1 : cd127_1.all (aCkB 127) = true := by decide +kernel
theorem ck127 : (aCd 127).all (fun l => l.all (aCkB 127)) = true := by
  show (cd127).all (fun l => l.all (aCkB 127)) = true
  simp only [cd127, List.all_cons, List.all_nil, ck127_0, ck127_1, Bool.and_true]
set_option maxRecDepth 100000 in
theorem ck128_0 : cd128_0.all (aCkB 128) = true := by decide +kernel
set_option maxRecDepth 100000 in
theorem ck128_1 : cd128_1.all (aCkB 128) = true := by decide +kernel
theorem ck128 : (aCd 128).all (fun l => l.all (aCkB 128)) = true := by
  show (cd128).all (fun l => l.all (aCkB 128)) = true
  simp only [cd128, List.all_cons, List.all_nil, ck128_0, ck128_1, Bool.and_true]
set_option maxRecDepth 100000 in
theorem ck129_0 : cd129_0.all (aCkB 129) = true := by decide +kernel
set_option maxRecDepth 100000 in
theorem ck129_1 : cd129_1.all (aCkB 129) = true := by decide +kernel
theorem ck129 : (aCd 129).all (fun l => l.all (aCkB 129)) = true := by
  show (cd129).all (fun l => l.all (aCkB 129)) = true
  simp only [cd129, List.all_cons, List.all_nil, ck129_0, ck129_1, Bool.and_true]
set_option maxRecDepth 100000 in
theorem ck130_0 : cd130_0.all (aCkB 130) = true := by decide +kernel
theorem ck130 : (aCd 130).all (fun l => l.all (aCkB 130)) = true := by
  show (cd130).all (fun l => l.all (aCkB 130)) = true
  simp only [cd130, List.all_cons, List.all_nil, ck130_0, Bool.and_true]
set_option maxRecDepth 100000 in
theorem ck131_0 : cd131_0.all (aCkB 131) = true := by decide +kernel
set_option maxRecDepth 100000 in
theorem ck131_1 : cd131_1.all (aCkB 131) = true := by decide +kernel
theorem ck131 : (aCd 131).all (fun l => l.all (aCkB 131)) = true := by
  show (cd131).all (fun l => l.all (aCkB 131)) = true
  simp only [cd131, List.all_cons, List.all_nil, ck131_0, ck131_1, Bool.and_true]
set_option maxRecDepth 100000 in
theorem ck132_0 : cd132_0.all (aCkB 132) = true := by decide +kernel
set_option maxRecDepth 100000 in
theorem ck132_1 : cd132_1.all (aCkB 132) = true := by decide +kernel
theorem ck132 : (aCd 132).all (fun l => l.all (aCkB 132)) = true := by
  show (cd132).all (fun l => l.all (aCkB 132)) = true
  simp only [cd132, List.all_cons, List.all_nil, ck132_0, ck132_1, Bool.and_true]
set_option maxRecDepth 100000 in
theorem ck133_0 : cd133_0.all (aCkB 133) = true := by decide +kernel
theorem ck133 : (aCd 133).all (fun l => l.all (aCkB 133)) = true := by
  show (cd133).all (fun l => l.all (aCkB 133)) = true
  simp only [cd133, List.all_cons, List.all_nil, ck133_0, Bool.and_true]
set_option maxRecDepth 100000 in
theorem ck134_0 : cd134_0.all (aCkB 134) = true := by decide +kernel
set_option maxRecDepth 100000 in
theorem ck134_1 : cd134_1.all (aCkB 134) = true := by decide +kernel
set_option maxRecDepth 100000 in
theorem ck134_2 : cd134_2.all (aCkB 134) = true := by decide +kernel
theorem ck134 : (aCd 134).all (fun l => l.all (aCkB 134)) = true := by
  show (cd134).all (fun l => l.all (aCkB 134)) = true
  simp only [cd134, List.all_cons, List.all_nil, ck134_0, ck134_1, ck134_2, Bool.and_true]
set_option maxRecDepth 100000 in
theorem ck135_0 : cd135_0.all (aCkB 135) = true := by decide +kernel
set_option maxRecDepth 100000 in
theorem ck135_1 : cd135_1.all (aCkB 135) = true := by decide +kernel
theorem ck135 : (aCd 135).all (fun l => l.all (aCkB 135)) = true := by
  show (cd135).all (fun l => l.all (aCkB 135)) = true
  simp only [cd135, List.all_cons, List.all_nil, ck135_0, ck135_1, Bool.and_true]
set_option maxRecDepth 100000 in
theorem ck136_0 : cd136_0.all (aCkB 136) = true := by decide +kernel
set_option maxRecDepth 100000 in
theorem ck136_1 : cd136_1.all (aCkB 136) = true := by decide +kernel
set_option maxRecDepth 100000 in
theorem ck136_2 : cd136_2.all (aCkB 136) = true := by decide +kernel
theorem ck136 : (aCd 136).all (fun l => l.all (aCkB 136)) = true := by
  show (cd136).all (fun l => l.all (aCkB 136)) = true
  simp only [cd136, List.all_cons, List.all_nil, ck136_0, ck136_1, ck136_2, Bool.and_true]
set_option maxRecDepth 100000 in
theorem ck137_0 : cd137_0.all (aCkB 137) = true := by decide +kernel
theorem ck137 : (aCd 137).all (fun l => l.all (aCkB 137)) = true := by
  show (cd137).all (fun l => l.all (aCkB 137)) = true
  simp only [cd137, List.all_cons, List.all_nil, ck137_0, Bool.and_true]
set_option maxRecDepth 100000 in
theorem ck138_0 : cd138_0.all (aCkB 138) = true := by decide +kernel
set_option maxRecDepth 100000 in
theorem ck138_1 : cd138_1.all (aCkB 138) = true := by decide +kernel
set_option maxRecDepth 100000 in
theorem ck138_2 : cd138_2.all (aCkB 138) = true := by decide +kernel
theorem ck138 : (aCd 138).all (fun l => l.all (aCkB 138)) = true := by
  show (cd138).all (fun l => l.all (aCkB 138)) = true
  simp only [cd138, List.all_cons, List.all_nil, ck138_0, ck138_1, ck138_2, Bool.and_true]
set_option maxRecDepth 100000 in
theorem ck139_0 : cd139_0.all (aCkB 139) = true := by decide +kernel
theorem ck139 : (aCd 139).all (fun l => l.all (aCkB 139)) = true := by
  show (cd139).all (fun l => l.all (aCkB 139)) = true
  simp only [cd139, List.all_cons, List.all_nil, ck139_0, Bool.and_true]
set_option maxRecDepth 100000 in
theorem ck140_0 : cd140_0.all (aCkB 140) = true := by decide +kernel
theorem ck140 : (aCd 140).all (fun l => l.all (aCkB 140)) = true := by
  show (cd140).all (fun l => l.all (aCkB 140)) = true
  simp only [cd140, List.all_cons, List.all_nil, ck140_0, Bool.and_true]
set_option maxRecDepth 100000 in
theorem ck141_0 : cd141_0.all (aCkB 141) = true := by decide +kernel
theorem ck141 : (aCd 141).all (fun l => l.all (aCkB 141)) = true := by
  show (cd141).all (fun l => l.all (aCkB 141)) = true
  simp only [cd141, List.all_cons, List.all_nil, ck141_0, Bool.and_true]
set_option maxRecDepth 100000 in
theorem ck142_0 : cd142_0.all (aCkB 142) = true := by decide +kernel
set_option maxRecDepth 100000 in
theorem ck142_1 : cd142_1.all (aCkB 142) = true := by decide +kernel
set_option maxRecDepth 100000 in
theorem ck142_2 : cd142_2.all (aCkB 142) = true := by decide +kernel
theorem ck142 : (aCd 142).all (fun l => l.all (aCkB 142)) = true := by
  show (cd142).all (fun l => l.all (aCkB 142)) = true
  simp only [cd142, List.all_cons, List.all_nil, ck142_0, ck142_1, ck142_2, Bool.and_true]
set_option maxRecDepth 100000 in
theorem ck143_0 : cd143_0.all (aCkB 143) = true := by decide +kernel
theorem ck143 : (aCd 143).all (fun l => l.all (aCkB 143)) = true := by
  show (cd143).all (fun l => l.all (aCkB 143)) = true
  simp only [cd143, List.all_cons, List.all_nil, ck143_0, Bool.and_true]
set_option maxRecDepth 100000 in
theorem ck144_0 : cd144_0.all (aCkB 144) = true := by decide +kernel
theorem ck144 : (aCd 144).all (fun l => l.all (aCkB 144)) = true := by
  show (cd144).all (fun l => l.all (aCkB 144)) = true
  simp only [cd144, List.all_cons, List.all_nil, ck144_0, Bool.and_true]
set_option maxRecDepth 100000 in
theorem ck145_0 : cd145_0.all (aCkB 145) = true := by decide +kernel
theorem ck145 : (aCd 145).all (fun l => l.all (aCkB 145)) = true := by
  show (cd145).all (fun l => l.all (aCkB 145)) = true
  simp only [cd145, List.all_cons, List.all_nil, ck145_0, Bool.and_true]
set_option maxRecDepth 100000 in
theorem ck146_0 : cd146_0.all (aCkB 146) = true := by decide +kernel
theorem ck146 : (aCd 146).all (fun l => l.all (aCkB 146)) = true := by
  show (cd146).all (fun l => l.all (aCkB 146)) = true
  simp only [cd146, List.all_cons, List.all_nil, ck146_0, Bool.and_true]
set_option maxRecDepth 100000 in
theorem ck147_0 : cd147_0.all (aCkB 147) = true := by decide +kernel
theorem ck147 : (aCd 147).all (fun l => l.all (aCkB 147)) = true := by
  show (cd147).all (fun l => l.all (aCkB 147)) = true
  simp only [cd147, List.all_cons, List.all_nil, ck147_0, Bool.and_true]
set_option maxRecDepth 100000 in
theorem ck148_0 : cd148_0.all (aCkB 148) = true := by decide +kernel
theorem ck148 : (aCd 148).all (fun l => l.all (aCkB 148)) = true := by
  show (cd148).all (fun l => l.all (aCkB 148)) = true
  simp only [cd148, List.all_cons, List.all_nil, ck148_0, Bool.and_true]
set_option maxRecDepth 100000 in
theorem ck149_0 : cd149_0.all (aCkB 149) = true := by decide +kernel
set_option maxRecDepth 100000 in
theorem ck149_1 : cd149_1.all (aCkB 149) = true := by decide +kernel
theorem ck149 : (aCd 149).all (fun l => l.all (aCkB 149)) = true := by
  show (cd149).all (fun l => l.all (aCkB 149)) = true
  simp only [cd149, List.all_cons, List.all_nil, ck149_0, ck149_1, Bool.and_true]
set_option maxRecDepth 100000 in
theorem ck150_0 : cd150_0.all (aCkB 150) = true := by decide +kernel
set_option maxRecDepth 100000 in
theorem ck150_1 : cd150_1.all (aCkB 150) = true := by decide +kernel
theorem ck150 : (aCd 150).all (fun l => l.all (aCkB 150)) = true := by
  show (cd150).all (fun l => l.all (aCkB 150)) = true
  simp only [cd150, List.all_cons, List.all_nil, ck150_0, ck150_1, Bool.and_true]
set_option maxRecDepth 100000 in
theorem ck151_0 : cd151_0.all (aCkB 151) = true := by decide +kernel
set_option maxRecDepth 100000 in
theorem ck151_1 : cd151_1.all (aCkB 151) = true := by decide +kernel
set_option maxRecDepth 100000 in
theorem ck151_2 : cd151_2.all (aCkB 151) = true := by decide +kernel
set_option maxRecDepth 100000 in
theorem ck151_3 : cd151_3.all (aCkB 151) = true := by decide +kernel
set_option maxRecDepth 100000 in
theorem ck151_4 : cd151_4.all (aCkB 151) = true := by decide +kernel
set_option maxRecDepth 100000 in
theorem ck151_5 : cd151_5.all (aCkB 151) = true := by decide +kernel
set_option maxRecDepth 100000 in
theorem ck151_6 : cd151_6.all (aCkB 151) = true := by decide +kernel
set_option maxRecDepth 100000 in
theorem ck151_7 : cd151_7.all (aCkB 151) = true := by decide +kernel
theorem ck151 : (aCd 151).all (fun l => l.all (aCkB 151)) = true := by
  show (cd151).all (fun l => l.all (aCkB 151)) = true
  simp only [cd151, List.all_cons, List.all_nil, ck151_0, ck151_1, ck151_2, ck151_3, ck151_4, ck151_5, ck151_6, ck151_7, Bool.and_true]
set_option maxRecDepth 100000 in
theorem ck152_0 : cd152_0.all (aCkB 152) = true := by decide +kernel
theorem ck152 : (aCd 152).all (fun l => l.all (aCkB 152)) = true := by
  show (cd152).all (fun l => l.all (aCkB 152)) = true
  simp only [cd152, List.all_cons, List.all_nil, ck152_0, Bool.and_true]
set_option maxRecDepth 100000 in
theorem ck153_0 : cd153_0.all (aCkB 153) = true := by decide +kernel
theorem ck153 : (aCd 153).all (fun l => l.all (aCkB 153)) = true := by
  show (cd153).all (fun l => l.all (aCkB 153)) = true
  simp only [cd153, List.all_cons, List.all_nil, ck153_0, Bool.and_true]
set_option maxRecDepth 100000 in
theorem ck154_0 : cd154_0.all (aCkB 154) = true := by decide +kernel
theorem ck154 : (aCd 154).all (fun l => l.all (aCkB 154)) = true := by
  show (cd154).all (fun l => l.all (aCkB 154)) = true
  simp only [cd154, List.all_cons, List.all_nil, ck154_0, Bool.and_true]
set_option maxRecDepth 100000 in
theorem ck155_0 : cd155_0.all (aCkB 155) = true := by decide +kernel
theorem ck155 : (aCd 155).all (fun l => l.all (aCkB 155)) = true := by
  show (cd155).all (fun l => l.all (aCkB 155)) = true
  simp only [cd155, List.all_cons, List.all_nil, ck155_0, Bool.and_true]
set_option maxRecDepth 100000 in
theorem ck156_0 : cd156_0.all (aCkB 156) = true := by decide +kernel
set_option maxRecDepth 100000 in
theorem ck156_1 : cd156_1.all (aCkB 156) = true := by decide +kernel
theorem ck156 : (aCd 156).all (fun l => l.all (aCkB 156)) = true := by
  show (cd156).all (fun l => l.all (aCkB 156)) = true
  simp only [cd156, List.all_cons, List.all_nil, ck156_0, ck156_1, Bool.and_true]
set_option maxRecDepth 100000 in
theorem ck157_0 : cd157_0.all (aCkB 157) = true := by decide +kernel
theorem ck157 : (aCd 157).all (fun l => l.all (aCkB 157)) = true := by
  show (cd157).all (fun l => l.all (aCkB 157)) = true
  simp only [cd157, List.all_cons, List.all_nil, ck157_0, Bool.and_true]
set_option maxRecDepth 100000 in
theorem ck158_0 : cd158_0.all (aCkB 158) = true := by decide +kernel
set_option maxRecDepth 100000 in
theorem ck158_1 : cd158_1.all (aCkB 158) = true := by decide +kernel
theorem ck158 : (aCd 158).all (fun l => l.all (aCkB 158)) = true := by
  show (cd158).all (fun l => l.all (aCkB 158)) = true
  simp only [cd158, List.all_cons, List.all_nil, ck158_0, ck158_1, Bool.and_true]
set_option maxRecDepth 100000 in
theorem ck159_0 : cd159_0.all (aCkB 159) = true := by decide +kernel
set_option maxRecDepth 100000 in
theorem ck159_1 : cd159_1.all (aCkB 159) = true := by decide +kernel
set_option maxRecDepth 100000 in
theorem ck159_2 : cd159_2.all (aCkB 159) = true := by decide +kernel
theorem ck159 : (aCd 159).all (fun l => l.all (aCkB 159)) = true := by
  show (cd159).all (fun l => l.all (aCkB 159)) = true
  simp only [cd159, List.all_cons, List.all_nil, ck159_0, ck159_1, ck159_2, Bool.and_true]
set_option maxRecDepth 100000 in
theorem ck160_0 : cd160_0.all (aCkB 160) = true := by decide +kernel
theorem ck160 : (aCd 160).all (fun l => l.all (aCkB 160)) = true := by
  show (cd160).all (fun l => l.all (aCkB 160)) = true
  simp only [cd160, List.all_cons, List.all_nil, ck160_0, Bool.and_true]
set_option maxRecDepth 100000 in
theorem ck161_0 : cd161_0.all (aCkB 161) = true := by decide +kernel
theorem ck161 : (aCd 161).all (fun l => l.all (aCkB 161)) = true := by
  show (cd161).all (fun l => l.all (aCkB 161)) = true
  simp only [cd161, List.all_cons, List.all_nil, ck161_0, Bool.and_true]
set_option maxRecDepth 100000 in
theorem ck162_0 : cd162_0.all (aCkB 162) = true := by decide +kernel
theorem ck162 : (aCd 162).all (fun l => l.all (aCkB 162)) = true := by
  show (cd162).all (fun l => l.all (aCkB 162)) = true
  simp only [cd162, List.all_cons, List.all_nil, ck162_0, Bool.and_true]
end
