section
set_option maxRecDepth 100000 in
theorem ck163_0 : cd163_0.all (aCkB 163) = true := by decide +kernel
theorem ck163 : (aCd 163).all (fun l => l.all (aCkB 163)) = true := by
  show (cd163).all (fun l => l.all (aCkB 163)) = true
  simp only [cd163, List.all_cons, List.all_nil, ck163_0, Bool.and_true]
set_option maxRecDepth 100000 in
theorem ck164_0 : cd164_0.all (aCkB 164) = true := by decide +kernel
theorem ck164 : (aCd 164).all (fun l => l.all (aCkB 164)) = true := by
  show (cd164).all (fun l => l.all (aCkB 164)) = true
  simp only [cd164, List.all_cons, List.all_nil, ck164_0, Bool.and_true]
set_option maxRecDepth 100000 in
theorem ck165_0 : cd165_0.all (aCkB 165) = true := by decide +kernel
theorem ck165 : (aCd 165).all (fun l => l.all (aCkB 165)) = true := by
  show (cd165).all (fun l => l.all (aCkB 165)) = true
  simp only [cd165, List.all_cons, List.all_nil, ck165_0, Bool.and_true]
set_option maxRecDepth 100000 in
theorem ck166_0 : cd166_0.all (aCkB 166) = true := by decide +kernel
set_option maxRecDepth 100000 in
theorem ck166_1 : cd166_1.all (aCkB 166) = true := by decide +kernel
set_option maxRecDepth 100000 in
theorem ck166_2 : cd166_2.all (aCkB 166) = true := by decide +kernel
set_option maxRecDepth 100000 in
theorem ck166_3 : cd166_3.all (aCkB 166) = true := by decide +kernel
theorem ck166 : (aCd 166).all (fun l => l.all (aCkB 166)) = true := by
  show (cd166).all (fun l => l.all (aCkB 166)) = true
  simp only [cd166, List.all_cons, List.all_nil, ck166_0, ck166_1, ck166_2, ck166_3, Bool.and_true]
set_option maxRecDepth 100000 in
theorem ck167_0 : cd167_0.all (aCkB 167) = true := by decide +kernel
theorem ck167 : (aCd 167).all (fun l => l.all (aCkB 167)) = true := by
  show (cd167).all (fun l => l.all (aCkB 167)) = true
  simp only [cd167, List.all_cons, List.all_nil, ck167_0, Bool.and_true]
set_option maxRecDepth 100000 in
theorem ck168_0 : cd168_0.all (aCkB 168) = true := by decide +kernel
set_option maxRecDepth 100000 in
theorem ck168_1 : cd168_1.all (aCkB 168) = true := by decide +kernel
theorem ck168 : (aCd 168).all (fun l => l.all (aCkB 168)) = true := by
  show (cd168).all (fun l => l.all (aCkB 168)) = true
  simp only [cd168, List.all_cons, List.all_nil, ck168_0, ck168_1, Bool.and_true]
set_option maxRecDepth 100000 in
theorem ck169_0 : cd169_0.all (aCkB 169) = true := by decide +kernel
set_option maxRecDepth 100000 in
theorem ck169_1 : cd169_1.all (aCkB 169) = true := by decide +kernel
theorem ck169 : (aCd 169).all (fun l => l.all (aCkB 169)) = true := by
  show (cd169).all (fun l => l.all (aCkB 169)) = true
  simp only [cd169, List.all_cons, List.all_nil, ck169_0, ck169_1, Bool.and_true]
set_option maxRecDepth 100000 in
theorem ck170_0 : cd170_0.all (aCkB 170) = true := by decide +kernel
theorem ck170 : (aCd 170).all (fun l => l.all (aCkB 170)) = true := by
  show (cd170).all (fun l => l.all (aCkB 170)) = true
  simp only [cd170, List.all_cons, List.all_nil, ck170_0, Bool.and_true]
set_option maxRecDepth 100000 in
theorem ck171_0 : cd171_0.all (aCkB 171) = true := by decide +kernel
theorem ck171 : (aCd 171).all (fun l => l.all (aCkB 171)) = true := by
  show (cd171).all (fun l => l.all (aCkB 171)) = true
  simp only [cd171, List.all_cons, List.all_nil, ck171_0, Bool.and_true]
set_option maxRecDepth 100000 in
theorem ck172_0 : cd172_0.all (aCkB 172) = true := by decide +kernel
theorem ck172 : (aCd 172).all (fun l => l.all (aCkB 172)) = true := by
  show (cd172).all (fun l => l.all (aCkB 172)) = true
  simp only [cd172, List.all_cons, List.all_nil, ck172_0, Bool.and_true]
set_option maxRecDepth 100000 in
theorem ck173_0 : cd173_0.all (aCkB 173) = true := by decide +kernel
set_option maxRecDepth 100000 in
theorem ck173_1 : cd173_1.all (aCkB 173) = true := by decide +kernel
theorem ck173 : (aCd 173).all (fun l => l.all (aCkB 173)) = true := by
  show (cd173).all (fun l => l.all (aCkB 173)) = true
  simp only [cd173, List.all_cons, List.all_nil, ck173_0, ck173_1, Bool.and_true]
set_option maxRecDepth 100000 in
theorem ck174_0 : cd174_0.all (aCkB 174) = true := by decide +kernel
set_option maxRecDepth 100000 in
theorem ck174_1 : cd174_1.all (aCkB 174) = true := by decide +kernel
theorem ck174 : (aCd 174).all (fun l => l.all (aCkB 174)) = true := by
  show (cd174).all (fun l => l.all (aCkB 174)) = true
  simp only [cd174, List.all_cons, List.all_nil, ck174_0, ck174_1, Bool.and_true]
set_option maxRecDepth 100000 in
theorem ck175_0 : cd175_0.all (aCkB 175) = true := by decide +kernel
set_option maxRecDepth 100000 in
theorem ck175_1 : cd175_1.all (aCkB 175) = true := by decide +kernel
theorem ck175 : (aCd 175).all (fun l => l.all (aCkB 175)) = true := by
  show (cd175).all (fun l => l.all (aCkB 175)) = true
  simp only [cd175, List.all_cons, List.all_nil, ck175_0, ck175_1, Bool.and_true]
set_option maxRecDepth 100000 in
theorem ck176_0 : cd176_0.all (aCkB 176) = true := by decide +kernel
set_option maxRecDepth 100000 in
theorem ck176_1 : cd176_1.all (aCkB 176) = true := by decide +kernel
theorem ck176 : (aCd 176).all (fun l => l.all (aCkB 176)) = true := by
  show (cd176).all (fun l => l.all (aCkB 176)) = true
  simp only [cd176, List.all_cons, List.all_nil, ck176_0, ck176_1, Bool.and_true]
set_option maxRecDepth 100000 in
theorem ck177_0 : cd177_0.all (aCkB 177) = true := by decide +kernel
set_option maxRecDepth 100000 in
theorem ck177_1 : cd177_1.all (aCkB 177) = true := by decide +kernel
theorem ck177 : (aCd 177).all (fun l => l.all (aCkB 177)) = true := by
  show (cd177).all (fun l => l.all (aCkB 177)) = true
  simp only [cd177, List.all_cons, List.all_nil, ck177_0, ck177_1, Bool.and_true]
set_option maxRecDepth 100000 in
theorem ck178_0 : cd178_0.all (aCkB 178) = true := by decide +kernel
theorem ck178 : (aCd 178).all (fun l => l.all (aCkB 178)) = true := by
  show (cd178).all (fun l => l.all (aCkB 178)) = true
  simp only [cd178, List.all_cons, List.all_nil, ck178_0, Bool.and_true]
set_option maxRecDepth 100000 in
theorem ck179_0 : cd179_0.all (aCkB 179) = true := by decide +kernel
theorem ck179 : (aCd 179).all (fun l => l.all (aCkB 179)) = true := by
  show (cd179).all (fun l => l.all (aCkB 179)) = true
  simp only [cd179, List.all_cons, List.all_nil, ck179_0, Bool.and_true]
set_option maxRecDepth 100000 in
theorem ck180_0 : cd180_0.all (aCkB 180) = true := by decide +kernel
theorem ck180 : (aCd 180).all (fun l => l.all (aCkB 180)) = true := by
  show (cd180).all (fun l => l.all (aCkB 180)) = true
  simp only [cd180, List.all_cons, List.all_nil, ck180_0, Bool.and_true]
set_option maxRecDepth 100000 in
theorem ck181_0 : cd181_0.all (aCkB 181) = true := by decide +kernel
theorem ck181 : (aCd 181).all (fun l => l.all (aCkB 181)) = true := by
  show (cd181).all (fun l => l.all (aCkB 181)) = true
  simp only [cd181, List.all_cons, List.all_nil, ck181_0, Bool.and_true]
set_option maxRecDepth 100000 in
theorem ck182_0 : cd182_0.all (aCkB 182) = true := by decide +kernel
set_option maxRecDepth 100000 in
theorem ck182_1 : cd182_1.all (aCkB 182) = true := by decide +kernel
theorem ck182 : (aCd 182).all (fun l => l.all (aCkB 182)) = true := by
  show (cd182).all (fun l => l.all (aCkB 182)) = true
  simp only [cd182, List.all_cons, List.all_nil, ck182_0, ck182_1, Bool.and_true]
set_option maxRecDepth 100000 in
theorem ck183_0 : cd183_0.all (aCkB 183) = true := by decide +kernel
set_option maxRecDepth 100000 in
theorem ck183_1 : cd183_1.all (aCkB 183) = true := by decide +kernel
set_option maxRecDepth 100000 in
theorem ck183_2 : cd183_2.all (aCkB 183) = true := by decide +kernel
set_option maxRecDepth 100000 in
theorem ck183_3 : cd183_3.all (aCkB 183) = true := by decide +kernel
theorem ck183 : (aCd 183).all (fun l => l.all (aCkB 183)) = true := by
  show (cd183).all (fun l => l.all (aCkB 183)) = true
  simp only [cd183, List.all_cons, List.all_nil, ck183_0, ck183_1, ck183_2, ck183_3, Bool.and_true]
set_option maxRecDepth 100000 in
theorem ck184_0 : cd184_0.all (aCkB 184) = true := by decide +kernel
theorem ck184 : (aCd 184).all (fun l => l.all (aCkB 184)) = true := by
  show (cd184).all (fun l => l.all (aCkB 184)) = true
  simp only [cd184, List.all_cons, List.all_nil, ck184_0, Bool.and_true]
set_option maxRecDepth 100000 in
theorem ck185_0 : cd185_0.all (aCkB 185) = true := by decide +kernel
theorem ck185 : (aCd 185).all (fun l => l.all (aCkB 185)) = true := by
  show (cd185).all (fun l => l.all (aCkB 185)) = true
  simp only [cd185, List.all_cons, List.all_nil, ck185_0, Bool.and_true]
set_option maxRecDepth 100000 in
theorem ck186_0 : cd186_0.all (aCkB 186) = true := by decide +kernel
set_option maxRecDepth 100000 in
theorem ck186_1 : cd186_1.all (aCkB 186) = true := by decide +kernel
theorem ck186 : (aCd 186).all (fun l => l.all (aCkB 186)) = true := by
  show (cd186).all (fun l => l.all (aCkB 186)) = true
  simp only [cd186, List.all_cons, List.all_nil, ck186_0, ck186_1, Bool.and_true]
set_option maxRecDepth 100000 in
theorem ck187_0 : cd187_0.all (aCkB 187) = true := by decide +kernel
set_option maxRecDepth 100000 in
theorem ck187_1 : cd187_1.all (aCkB 187) = true := by decide +kernel
set_option maxRecDepth 100000 in
theorem ck187_2 : cd187_2.all (aCkB 187) = true := by decide +kernel
set_option maxRecDepth 100000 in
theorem ck187_3 : cd187_3.all (aCkB 187) = true := by decide +kernel
set_option maxRecDepth 100000 in
theorem ck187_4 : cd187_4.all (aCkB 187) = true := by decide +kernel
set_option maxRecDepth 100000 in
theorem ck187_5 : cd187_5.all (aCkB 187) = true := by decide +kernel
theorem ck187 : (aCd 187).all (fun l => l.all (aCkB 187)) = true := by
  show (cd187).all (fun l => l.all (aCkB 187)) = true
  simp only [cd187, List.all_cons, List.all_nil, ck187_0, ck187_1, ck187_2, ck187_3, ck187_4, ck187_5, Bool.and_true]
set_option maxRecDepth 100000 in
theorem ck188_0 : cd188_0.all (aCkB 188) = true := by decide +kernel
set_option maxRecDepth 100000 in
theorem ck188_1 : cd188_1.all (aCkB 188) = true := by decide +kernel
theorem ck188 : (aCd 188).all (fun l => l.all (aCkB 188)) = true := by
  show (cd188).all (fun l => l.all (aCkB 188)) = true
  simp only [cd188, List.all_cons, List.all_nil, ck188_0, ck188_1, Bool.and_true]
set_option maxRecDepth 100000 in
theorem ck189_0 : cd189_0.all (aCkB 189) = true := by decide +kernel
set_option maxRecDepth 100000 in
theorem ck189_1 : cd189_1.all (aCkB 189) = true := by decide +kernel
theorem ck189 : (aCd 189).all (fun l => l.all (aCkB 189)) = true := by
  show (cd189).all (fun l => l.all (aCkB 189)) = true
  simp only [cd189, List.all_cons, List.all_nil, ck189_0, ck189_1, Bool.and_true]
set_option maxRecDepth 100000 in
theorem ck190_0 : cd190_0.all (aCkB 190) = true := by decide +kernel
set_option maxRecDepth 100000 in
theorem ck190_1 : cd190_1.all (aCkB 190) = true := by decide +kernel
theorem ck190 : (aCd 190).all (fun l => l.all (aCkB 190)) = true := by
  show (cd190).all (fun l => l.all (aCkB 190)) = true
  simp only [cd190, List.all_cons, List.all_nil, ck190_0, ck190_1, Bool.and_true]
set_option maxRecDepth 100000 in
theorem ck191_0 : cd191_0.all (aCkB 191) = true := by decide +kernel
theorem ck191 : (aCd 191).all (fun l => l.all (aCkB 191)) = true := by
  show (cd191).all (fun l => l.all (aCkB 191)) = true
  simp only [cd191, List.all_cons, List.all_nil, ck191_0, Bool.and_true]
set_option maxRecDepth 100000 in
theorem ck192_0 : cd192_0.all (aCkB 192) = true := by decide +kernel
theorem ck192 : (aCd 192).all (fun l => l.all (aCkB 192)) = true := by
  show (cd192).all (fun l => l.all (aCkB 192)) = true
  simp only [cd192, List.all_cons, List.all_nil, ck192_0, Bool.and_true]
set_option maxRecDepth 100000 in
theorem ck193_0 : cd193_0.all (aCkB 193) = true := by decide +kernel
set_option maxRecDepth 100000 in
theorem ck193_1 : cd193_1.all (aCkB 193) = true := by decide +kernel
set_option maxRecDepth 100000 in
theorem ck193_2 : cd193_2.all (aCkB 193) = true := by decide +kernel
theorem ck193 : (aCd 193).all (fun l => l.all (aCkB 193)) = true := by
  show (cd193).all (fun l => l.all (aCkB 193)) = true
  simp only [cd193, List.all_cons, List.all_nil, ck193_0, ck193_1, ck193_2, Bool.and_true]
set_option maxRecDepth 100000 in
theorem ck194_0 : cd194_0.all (aCkB 194) = true := by decide +kernel
set_option maxRecDepth 100000 in
theorem ck194_1 : cd194_1.all (aCkB 194) = true := by decide +kernel
theorem ck194 : (aCd 194).all (fun l => l.all (aCkB 194)) = true := by
  show (cd194).all (fun l => l.all (aCkB 194)) = true
  simp only [cd194, List.all_cons, List.all_nil, ck194_0, ck194_1, Bool.and_true]
set_option maxRecDepth 100000 in
theorem ck195_0 : cd195_0.all (aCkB 195) = true := by decide +kernel
theorem ck195 : (aCd 195).all (fun l => l.all (aCkB 195)) = true := by
  show (cd195).all (fun l => l.all (aCkB 195)) = true
  simp only [cd195, List.all_cons, List.all_nil, ck195_0, Bool.and_true]
set_option maxRecDepth 100000 in
theorem ck196_0 : cd196_0.all (aCkB 196) = true := by decide +kernel
set_option maxRecDepth 100000 in
theorem ck196_1 : cd196_1.all (aCkB 196) = true := by decide +kernel
set_option maxRecDepth 100000 in
theorem ck196_2 : cd196_2.all (aCkB 196) = true := by decide +kernel
theorem ck196 : (aCd 196).all (fun l => l.all (aCkB 196)) = true := by
  show (cd196).all (fun l => l.all (aCkB 196)) = true
  simp only [cd196, List.all_cons, List.all_nil, ck196_0, ck196_1, ck196_2, Bool.and_true]
set_option maxRecDepth 100000 in
theorem ck197_0 : cd197_0.all (aCkB 197) = true := by decide +kernel
theorem ck197 : (aCd 197).all (fun l => l.all (aCkB 197)) = true := by
  show (cd197).all (fun l => l.all (aCkB 197)) = true
  simp only [cd197, List.all_cons, List.all_nil, ck197_0, Bool.and_true]
set_option maxRecDepth 100000 in
theorem ck198_0 : cd198_0.all (aCkB 198) = true := by decide +kernel
set_option maxRecDepth 100000 in
theorem ck198_1 : cd198_1.all (aCkB 198) = true := by decide +kernel
theorem ck198 : (aCd 198).all (fun l => l.all (aCkB 198)) = true := by
  show (cd198).all (fun l => l.all (aCkB 198)) = true
  simp only [cd198, List.all_cons, List.all_nil, ck198_0, ck198_1, Bool.and_true]
set_option maxRecDepth 100000 in
theorem ck199_0 : cd199_0.all (aCkB 199) = true := by decide +kernel
theorem ck199 : (aCd 199).all (fun l => l.all (aCkB 199)) = true := by
  show (cd199).all (fun l => l.all (aCkB 199)) = true
  simp only [cd199, List.all_cons, List.all_nil, ck199_0, Bool.and_true]
set_option maxRecDepth 100000 in
theorem ck200_0 : cd200_0.all (aCkB 200) = true := by decide +kernel
set_option maxRecDepth 100000 in
theorem ck200_1 : cd200_1.all (aCkB 200) = true := by decide +kernel
set_option maxRecDepth 100000 in
theorem ck200_2 : cd200_2.all (aCkB 200) = true := by decide +kernel
set_option maxRecDepth 100000 in
theorem ck200_3 : cd200_3.all (aCkB 200) = true := by decide +kernel
set_option maxRecDepth 100000 in
theorem ck200_4 : cd200_4.all (aCkB 200) = true := by decide +kernel
theorem ck200 : (aCd 200).all (fun l => l.all (aCkB 200)) = true := by
  show (cd200).all (fun l => l.all (aCkB 200)) = true
  simp only [cd200, List.all_cons, List.all_nil, ck200_0, ck200_1, ck200_2, ck200_3, ck200_4, Bool.and_true]
end
