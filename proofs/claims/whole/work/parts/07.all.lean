section
theorem ckr_0 (i : Nat) : (nth [] (nth [] aCDL 0) i).all (fun l => l.all (aCkB (16 * 0 + i))) = true := match i with
  | 0 => ck0
  | 1 => ck1
  | 2 => ck2
  | 3 => ck3
  | 4 => ck4
  | 5 => ck5
  | 6 => ck6
  | 7 => ck7
  | 8 => ck8
  | 9 => ck9
  | 10 => ck10
  | 11 => ck11
  | 12 => ck12
  | 13 => ck13
  | 14 => ck14
  | 15 => ck15
  | _ + 16 => rfl
theorem ckr_1 (i : Nat) : (nth [] (nth [] aCDL 1) i).all (fun l => l.all (aCkB (16 * 1 + i))) = true := match i with
  | 0 => ck16
  | 1 => ck17
  | 2 => ck18
  | 3 => ck19
  | 4 => ck20
  | 5 => ck21
  | 6 => ck22
  | 7 => ck23
  | 8 => ck24
  | 9 => ck25
  | 10 => ck26
  | 11 => ck27
  | 12 => ck28
  | 13 => ck29
  | 14 => ck30
  | 15 => ck31
  | _ + 16 => rfl
theorem ckr_2 (i : Nat) : (nth [] (nth [] aCDL 2) i).all (fun l => l.all (aCkB (16 * 2 + i))) = true := match i with
  | 0 => ck32
  | 1 => ck33
  | 2 => ck34
  | 3 => ck35
  | 4 => ck36
  | 5 => ck37
  | 6 => ck38
  | 7 => ck39
  | 8 => ck40
  | 9 => ck41
  | 10 => ck42
  | 11 => ck43
  | 12 => ck44
  | 13 => ck45
  | 14 => ck46
  | 15 => ck47
  | _ + 16 => rfl
theorem ckr_3 (i : Nat) : (nth [] (nth [] aCDL 3) i).all (fun l => l.all (aCkB (16 * 3 + i))) = true := match i with
  | 0 => ck48
  | 1 => ck49
  | 2 => ck50
  | 3 => ck51
  | 4 => ck52
  | 5 => ck53
  | 6 => ck54
  | 7 => ck55
  | 8 => ck56
  | 9 => ck57
  | 10 => ck58
  | 11 => ck59
  | 12 => ck60
  | 13 => ck61
  | 14 => ck62
  | 15 => ck63
  | _ + 16 => rfl
theorem ckr_4 (i : Nat) : (nth [] (nth [] aCDL 4) i).all (fun l => l.all (aCkB (16 * 4 + i))) = true := match i with
  | 0 => ck64
  | 1 => ck65
  | 2 => ck66
  | 3 => ck67
  | 4 => ck68
  | 5 => ck69
  | 6 => ck70
  | 7 => ck71
  | 8 => ck72
  | 9 => ck73
  | 10 => ck74
  | 11 => ck75
  | 12 => ck76
  | 13 => ck77
  | 14 => ck78
  | 15 => ck79
  | _ + 16 => rfl
theorem ckr_5 (i : Nat) : (nth [] (nth [] aCDL 5) i).all (fun l => l.all (aCkB (16 * 5 + i))) = true := match i with
  | 0 => ck80
  | 1 => ck81
  | 2 => ck82
  | 3 => ck83
  | 4 => ck84
  | 5 => ck85
  | 6 => ck86
  | 7 => ck87
  | 8 => ck88
  | 9 => ck89
  | 10 => ck90
  | 11 => ck91
  | 12 => ck92
  | 13 => ck93
  | 14 => ck94
  | 15 => ck95
  | _ + 16 => rfl
theorem ckr_6 (i : Nat) : (nth [] (nth [] aCDL 6) i).all (fun l => l.all (aCkB (16 * 6 + i))) = true := match i with
  | 0 => ck96
  | 1 => ck97
  | 2 => ck98
  | 3 => ck99
  | 4 => ck100
  | 5 => ck101
  | 6 => ck102
  | 7 => ck103
  | 8 => ck104
  | 9 => ck105
  | 10 => ck106
  | 11 => ck107
  | 12 => ck108
  | 13 => ck109
  | 14 => ck110
  | 15 => ck111
  | _ + 16 => rfl
theorem ckr_7 (i : Nat) : (nth [] (nth [] aCDL 7) i).all (fun l => l.all (aCkB (16 * 7 + i))) = true := match i with
  | 0 => ck112
  | 1 => ck113
  | 2 => ck114
  | 3 => ck115
  | 4 => ck116
  | 5 => ck117
  | 6 => ck118
  | 7 => ck119
  | 8 => ck120
  | 9 => ck121
  | 10 => ck122
  | 11 => ck123
  | 12 => ck124
  | 13 => ck125
  | 14 => ck126
  | 15 => ck127
  | _ + 16 => rfl
theorem ckr_8 (i : Nat) : (nth [] (nth [] aCDL 8) i).all (fun l => l.all (aCkB (16 * 8 + i))) = true := match i with
  | 0 => ck128
  | 1 => ck129
  | 2 => ck130
  | 3 => ck131
  | 4 => ck132
  | 5 => ck133
  | 6 => ck134
  | 7 => ck135
  | 8 => ck136
  | 9 => ck137
  | 10 => ck138
  | 11 => ck139
  | 12 => ck140
  | 13 => ck141
  | 14 => ck142
  | 15 => ck143
  | _ + 16 => rfl
theorem ckr_9 (i : Nat) : (nth [] (nth [] aCDL 9) i).all (fun l => l.all (aCkB (16 * 9 + i))) = true := match i with
  | 0 => ck144
  | 1 => ck145
  | 2 => ck146
  | 3 => ck147
  | 4 => ck148
  | 5 => ck149
  | 6 => ck150
  | 7 => ck151
  | 8 => ck152
  | 9 => ck153
  | 10 => ck154
  | 11 => ck155
  | 12 => ck156
  | 13 => ck157
  | 14 => ck158
  | 15 => ck159
  | _ + 16 => rfl
theorem ckr_10 (i : Nat) : (nth [] (nth [] aCDL 10) i).all (fun l => l.all (aCkB (16 * 10 + i))) = true := match i with
  | 0 => ck160
  | 1 => ck161
  | 2 => ck162
  | 3 => ck163
  | 4 => ck164
  | 5 => ck165
  | 6 => ck166
  | 7 => ck167
  | 8 => ck168
  | 9 => ck169
  | 10 => ck170
  | 11 => ck171
  | 12 => ck172
  | 13 => ck173
  | 14 => ck174
  | 15 => ck175
  | _ + 16 => rfl
theorem ckr_11 (i : Nat) : (nth [] (nth [] aCDL 11) i).all (fun l => l.all (aCkB (16 * 11 + i))) = true := match i with
  | 0 => ck176
  | 1 => ck177
  | 2 => ck178
  | 3 => ck179
  | 4 => ck180
  | 5 => ck181
  | 6 => ck182
  | 7 => ck183
  | 8 => ck184
  | 9 => ck185
  | 10 => ck186
  | 11 => ck187
  | 12 => ck188
  | 13 => ck189
  | 14 => ck190
  | 15 => ck191
  | _ + 16 => rfl
theorem ckr_12 (i : Nat) : (nth [] (nth [] aCDL 12) i).all (fun l => l.all (aCkB (16 * 12 + i))) = true := match i with
  | 0 => ck192
  | 1 => ck193
  | 2 => ck194
  | 3 => ck195
  | 4 => ck196
  | 5 => ck197
  | 6 => ck198
  | 7 => ck199
  | 8 => ck200
  | 9 => ck201
  | 10 => ck202
  | 11 => ck203
  | 12 => ck204
  | 13 => ck205
  | 14 => ck206
  | 15 => ck207
  | _ + 16 => rfl
theorem ckr_13 (i : Nat) : (nth [] (nth [] aCDL 13) i).all (fun l => l.all (aCkB (16 * 13 + i))) = true := match i with
  | 0 => ck208
  | 1 => ck209
  | 2 => ck210
  | 3 => ck211
  | 4 => ck212
  | 5 => ck213
  | 6 => ck214
  | 7 => ck215
  | 8 => ck216
  | 9 => ck217
  | 10 => ck218
  | 11 => ck219
  | 12 => ck220
  | 13 => ck221
  | 14 => ck222
  | 15 => ck223
  | _ + 16 => rfl
theorem ckr_14 (i : Nat) : (nth [] (nth [] aCDL 14) i).all (fun l => l.all (aCkB (16 * 14 + i))) = true := match i with
  | 0 => ck224
  | 1 => ck225
  | 2 => ck226
  | 3 => ck227
  | 4 => ck228
  | 5 => ck229
  | 6 => ck230
  | 7 => ck231
  | 8 => ck232
  | 9 => ck233
  | 10 => ck234
  | 11 => ck235
  | 12 => ck236
  | 13 => ck237
  | 14 => ck238
  | 15 => ck239
  | _ + 16 => rfl
theorem ckr_15 (i : Nat) : (nth [] (nth [] aCDL 15) i).all (fun l => l.all (aCkB (16 * 15 + i))) = true := match i with
  | 0 => ck240
  | 1 => ck241
  | 2 => ck242
  | 3 => ck243
  | 4 => ck244
  | 5 => ck245
  | 6 => ck246
  | 7 => ck247
  | 8 => ck248
  | 9 => ck249
  | 10 => ck250
  | 11 => ck251
  | 12 => ck252
  | 13 => ck253
  | 14 => ck254
  | 15 => ck255
  | _ + 16 => rfl
theorem ckr_16 (i : Nat) : (nth [] (nth [] aCDL 16) i).all (fun l => l.all (aCkB (16 * 16 + i))) = true := match i with
  | 0 => ck256
  | 1 => ck257
  | 2 => ck258
  | 3 => ck259
  | 4 => ck260
  | 5 => ck261
  | 6 => ck262
  | 7 => ck263
  | 8 => ck264
  | 9 => ck265
  | 10 => ck266
  | 11 => ck267
  | 12 => ck268
  | 13 => ck269
  | 14 => ck270
  | 15 => ck271
  | _ + 16 => rfl
theorem ckr_17 (i : Nat) : (nth [] (nth [] aCDL 17) i).all (fun l => l.all (aCkB (16 * 17 + i))) = true := match i with
  | 0 => ck272
  | 1 => ck273
  | 2 => ck274
  | 3 => ck275
  | 4 => ck276
  | _ + 5 => rfl
theorem ckr (c i : Nat) : (nth [] (nth [] aCDL c) i).all (fun l => l.all (aCkB (16 * c + i))) = true := match c with
  | 0 => ckr_0 i
  | 1 => ckr_1 i
  | 2 => ckr_2 i
  | 3 => ckr_3 i
  | 4 => ckr_4 i
  | 5 => ckr_5 i
  | 6 => ckr_6 i
  | 7 => ckr_7 i
  | 8 => ckr_8 i
  | 9 => ckr_9 i
  | 10 => ckr_10 i
  | 11 => ckr_11 i
  | 12 => ckr_12 i
  | 13 => ckr_13 i
  | 14 => ckr_14 i
  | 15 => ckr_15 i
  | 16 => ckr_16 i
  | 17 => ckr_17 i
  | c + 18 => rfl
theorem ck_all (j : Nat) : (aCd j).all (fun l => l.all (aCkB j)) = true := by
  have h := ckr (j / 16) (j % 16)
  rw [Nat.div_add_mod] at h
  exact h
theorem nth_mem {α : Type} {d a : α} : ∀ {l : List α} {n : Nat}, nth d l n = a → a ≠ d → a ∈ l
  | [], _, h, h2 => absurd h.symm h2
  | b :: l, 0, h, _ => by subst h; exact List.mem_cons_self
  | b :: l, n + 1, h, h2 => List.mem_cons_of_mem _ (nth_mem (l := l) (n := n) h h2)
theorem aFind_mem {pc : Nat} {e : bE} : ∀ {l : List bE}, aFind pc l = some e → e ∈ l ∧ e.1 = pc
  | [], h => by simp [aFind] at h
  | a :: l, h => by
    unfold aFind at h
    cases hb : Nat.beq a.1 pc with
    | true =>
      rw [hb] at h
      simp only [cond_true, Option.some.injEq] at h
      subst h
      exact ⟨List.mem_cons_self, Nat.eq_of_beq_eq_true hb⟩
    | false =>
      rw [hb] at h
      obtain ⟨h1, h2⟩ := aFind_mem (l := l) h
      exact ⟨List.mem_cons_of_mem _ h1, h2⟩
theorem aCk_of {j pc : Nat} {e : bE} (h : aLook (aCd j) pc = some e) : aCkB j e = true ∧ e.1 = pc := by
  unfold aLook at h
  obtain ⟨h1, h2⟩ := aFind_mem h
  refine ⟨?_, h2⟩
  have hne : nth [] (aCd j) (pc / 64) ≠ [] := fun z => by rw [z] at h1; cases h1
  have h3 := List.all_eq_true.mp (ck_all j) _ (nth_mem rfl hne)
  exact List.all_eq_true.mp h3 _ h1
set_option maxRecDepth 100000 in
theorem aY_plain : ∀ j, j < 277 → ((aCd j).isEmpty || plainName (aY j).cls) = true := by decide +kernel
set_option maxRecDepth 100000 in
theorem cw0 : aGt lw_tbl 233 = some (.code (aY 0) (aB 0) (aMl 0) (aRy 0)) := rfl
set_option maxRecDepth 100000 in
theorem cw1 : aGt lw_tbl 1075 = some (.code (aY 1) (aB 1) (aMl 1) (aRy 1)) := rfl
set_option maxRecDepth 100000 in
theorem cw2 : aGt lw_tbl 1088 = some (.code (aY 2) (aB 2) (aMl 2) (aRy 2)) := rfl
set_option maxRecDepth 100000 in
theorem cw3 : aGt lw_tbl 1079 = some (.code (aY 3) (aB 3) (aMl 3) (aRy 3)) := rfl
set_option maxRecDepth 100000 in
theorem cw4 : aGt lw_tbl 1093 = some (.code (aY 4) (aB 4) (aMl 4) (aRy 4)) := rfl
set_option maxRecDepth 100000 in
theorem cw5 : aGt lw_tbl 1097 = some (.code (aY 5) (aB 5) (aMl 5) (aRy 5)) := rfl
set_option maxRecDepth 100000 in
theorem cw6 : aGt lw_tbl 1101 = some (.code (aY 6) (aB 6) (aMl 6) (aRy 6)) := rfl
set_option maxRecDepth 100000 in
theorem cw7 : aGt lw_tbl 1106 = some (.code (aY 7) (aB 7) (aMl 7) (aRy 7)) := rfl
set_option maxRecDepth 100000 in
theorem cw8 : aGt lw_tbl 1110 = some (.code (aY 8) (aB 8) (aMl 8) (aRy 8)) := rfl
set_option maxRecDepth 100000 in
theorem cw9 : aGt lw_tbl 1114 = some (.code (aY 9) (aB 9) (aMl 9) (aRy 9)) := rfl
set_option maxRecDepth 100000 in
theorem cw10 : aGt lw_tbl 1118 = some (.code (aY 10) (aB 10) (aMl 10) (aRy 10)) := rfl
set_option maxRecDepth 100000 in
theorem cw11 : aGt lw_tbl 454 = some (.code (aY 11) (aB 11) (aMl 11) (aRy 11)) := rfl
set_option maxRecDepth 100000 in
theorem cw12 : aGt lw_tbl 1035 = some (.code (aY 12) (aB 12) (aMl 12) (aRy 12)) := rfl
set_option maxRecDepth 100000 in
theorem cw13 : aGt lw_tbl 1039 = some (.code (aY 13) (aB 13) (aMl 13) (aRy 13)) := rfl
set_option maxRecDepth 100000 in
theorem cw14 : aGt lw_tbl 1123 = some (.code (aY 14) (aB 14) (aMl 14) (aRy 14)) := rfl
set_option maxRecDepth 100000 in
theorem cw15 : aGt lw_tbl 1134 = some (.code (aY 15) (aB 15) (aMl 15) (aRy 15)) := rfl
set_option maxRecDepth 100000 in
theorem cw16 : aGt lw_tbl 1143 = some (.code (aY 16) (aB 16) (aMl 16) (aRy 16)) := rfl
set_option maxRecDepth 100000 in
theorem cw17 : aGt lw_tbl 1127 = some (.code (aY 17) (aB 17) (aMl 17) (aRy 17)) := rfl
set_option maxRecDepth 100000 in
theorem cw18 : aGt lw_tbl 1152 = some (.code (aY 18) (aB 18) (aMl 18) (aRy 18)) := rfl
set_option maxRecDepth 100000 in
theorem cw19 : aGt lw_tbl 1158 = some (.code (aY 19) (aB 19) (aMl 19) (aRy 19)) := rfl
set_option maxRecDepth 100000 in
theorem cw20 : aGt lw_tbl 1182 = some (.code (aY 20) (aB 20) (aMl 20) (aRy 20)) := rfl
set_option maxRecDepth 100000 in
theorem cw21 : aGt lw_tbl 1173 = some (.code (aY 21) (aB 21) (aMl 21) (aRy 21)) := rfl
set_option maxRecDepth 100000 in
theorem cw22 : aGt lw_tbl 1178 = some (.code (aY 22) (aB 22) (aMl 22) (aRy 22)) := rfl
set_option maxRecDepth 100000 in
theorem cw23 : aGt lw_tbl 1187 = some (.code (aY 23) (aB 23) (aMl 23) (aRy 23)) := rfl
set_option maxRecDepth 100000 in
theorem cw24 : aGt lw_tbl 1193 = some (.code (aY 24) (aB 24) (aMl 24) (aRy 24)) := rfl
set_option maxRecDepth 100000 in
theorem cw25 : aGt lw_tbl 1197 = some (.code (aY 25) (aB 25) (aMl 25) (aRy 25)) := rfl
set_option maxRecDepth 100000 in
theorem cw26 : aGt lw_tbl 606 = some (.code (aY 26) (aB 26) (aMl 26) (aRy 26)) := rfl
set_option maxRecDepth 100000 in
theorem cw27 : aGt lw_tbl 1325 = some (.code (aY 27) (aB 27) (aMl 27) (aRy 27)) := rfl
set_option maxRecDepth 100000 in
theorem cw28 : aGt lw_tbl 1333 = some (.code (aY 28) (aB 28) (aMl 28) (aRy 28)) := rfl
set_option maxRecDepth 100000 in
theorem cw29 : aGt lw_tbl 1337 = some (.code (aY 29) (aB 29) (aMl 29) (aRy 29)) := rfl
set_option maxRecDepth 100000 in
theorem cw30 : aGt lw_tbl 1342 = some (.code (aY 30) (aB 30) (aMl 30) (aRy 30)) := rfl
set_option maxRecDepth 100000 in
theorem cw31 : aGt lw_tbl 135 = some (.code (aY 31) (aB 31) (aMl 31) (aRy 31)) := rfl
set_option maxRecDepth 100000 in
theorem cw32 : aGt lw_tbl 700 = some (.code (aY 32) (aB 32) (aMl 32) (aRy 32)) := rfl
set_option maxRecDepth 100000 in
theorem cw33 : aGt lw_tbl 735 = some (.code (aY 33) (aB 33) (aMl 33) (aRy 33)) := rfl
set_option maxRecDepth 100000 in
theorem cw34 : aGt lw_tbl 1235 = some (.code (aY 34) (aB 34) (aMl 34) (aRy 34)) := rfl
set_option maxRecDepth 100000 in
theorem cw35 : aGt lw_tbl 707 = some (.code (aY 35) (aB 35) (aMl 35) (aRy 35)) := rfl
set_option maxRecDepth 100000 in
theorem cw36 : aGt lw_tbl 727 = some (.code (aY 36) (aB 36) (aMl 36) (aRy 36)) := rfl
set_option maxRecDepth 100000 in
theorem cw37 : aGt lw_tbl 1244 = some (.code (aY 37) (aB 37) (aMl 37) (aRy 37)) := rfl
set_option maxRecDepth 100000 in
theorem cw38 : aGt lw_tbl 739 = some (.code (aY 38) (aB 38) (aMl 38) (aRy 38)) := rfl
set_option maxRecDepth 100000 in
theorem cw39 : aGt lw_tbl 1084 = some (.code (aY 39) (aB 39) (aMl 39) (aRy 39)) := rfl
set_option maxRecDepth 100000 in
theorem cw40 : aGt lw_tbl 1138 = some (.code (aY 40) (aB 40) (aMl 40) (aRy 40)) := rfl
set_option maxRecDepth 100000 in
theorem cw41 : aGt lw_tbl 1257 = some (.code (aY 41) (aB 41) (aMl 41) (aRy 41)) := rfl
set_option maxRecDepth 100000 in
theorem cw42 : aGt lw_tbl 1261 = some (.code (aY 42) (aB 42) (aMl 42) (aRy 42)) := rfl
set_option maxRecDepth 100000 in
theorem cw43 : aGt lw_tbl 1266 = some (.code (aY 43) (aB 43) (aMl 43) (aRy 43)) := rfl
set_option maxRecDepth 100000 in
theorem cw44 : aGt lw_tbl 1276 = some (.code (aY 44) (aB 44) (aMl 44) (aRy 44)) := rfl
set_option maxRecDepth 100000 in
theorem cw45 : aGt lw_tbl 1272 = some (.code (aY 45) (aB 45) (aMl 45) (aRy 45)) := rfl
set_option maxRecDepth 100000 in
theorem cw46 : aGt lw_tbl 1280 = some (.code (aY 46) (aB 46) (aMl 46) (aRy 46)) := rfl
set_option maxRecDepth 100000 in
theorem cw47 : aGt lw_tbl 583 = some (.code (aY 47) (aB 47) (aMl 47) (aRy 47)) := rfl
set_option maxRecDepth 100000 in
theorem cw48 : aGt lw_tbl 751 = some (.code (aY 48) (aB 48) (aMl 48) (aRy 48)) := rfl
set_option maxRecDepth 100000 in
theorem cw49 : aGt lw_tbl 1380 = some (.code (aY 49) (aB 49) (aMl 49) (aRy 49)) := rfl
set_option maxRecDepth 100000 in
theorem cw50 : aGt lw_tbl 1389 = some (.code (aY 50) (aB 50) (aMl 50) (aRy 50)) := rfl
set_option maxRecDepth 100000 in
theorem cw51 : aGt lw_tbl 765 = some (.code (aY 51) (aB 51) (aMl 51) (aRy 51)) := rfl
set_option maxRecDepth 100000 in
theorem cw52 : aGt lw_tbl 1401 = some (.code (aY 52) (aB 52) (aMl 52) (aRy 52)) := rfl
set_option maxRecDepth 100000 in
theorem cw53 : aGt lw_tbl 1404 = some (.code (aY 53) (aB 53) (aMl 53) (aRy 53)) := rfl
set_option maxRecDepth 100000 in
theorem cw54 : aGt lw_tbl 1412 = some (.code (aY 54) (aB 54) (aMl 54) (aRy 54)) := rfl
set_option maxRecDepth 100000 in
theorem cw55 : aGt lw_tbl 761 = some (.code (aY 55) (aB 55) (aMl 55) (aRy 55)) := rfl
set_option maxRecDepth 100000 in
theorem cw56 : aGt lw_tbl 317 = some (.code (aY 56) (aB 56) (aMl 56) (aRy 56)) := rfl
set_option maxRecDepth 100000 in
theorem cw57 : aGt lw_tbl 798 = some (.code (aY 57) (aB 57) (aMl 57) (aRy 57)) := rfl
set_option maxRecDepth 100000 in
theorem cw58 : aGt lw_tbl 810 = some (.code (aY 58) (aB 58) (aMl 58) (aRy 58)) := rfl
set_option maxRecDepth 100000 in
theorem cw59 : aGt lw_tbl 814 = some (.code (aY 59) (aB 59) (aMl 59) (aRy 59)) := rfl
set_option maxRecDepth 100000 in
theorem cw60 : aGt lw_tbl 834 = some (.code (aY 60) (aB 60) (aMl 60) (aRy 60)) := rfl
set_option maxRecDepth 100000 in
theorem cw61 : aGt lw_tbl 822 = some (.code (aY 61) (aB 61) (aMl 61) (aRy 61)) := rfl
set_option maxRecDepth 100000 in
theorem cw62 : aGt lw_tbl 838 = some (.code (aY 62) (aB 62) (aMl 62) (aRy 62)) := rfl
set_option maxRecDepth 100000 in
theorem cw63 : aGt lw_tbl 818 = some (.code (aY 63) (aB 63) (aMl 63) (aRy 63)) := rfl
set_option maxRecDepth 100000 in
theorem cw64 : aGt lw_tbl 826 = some (.code (aY 64) (aB 64) (aMl 64) (aRy 64)) := rfl
set_option maxRecDepth 100000 in
theorem cw65 : aGt lw_tbl 830 = some (.code (aY 65) (aB 65) (aMl 65) (aRy 65)) := rfl
set_option maxRecDepth 100000 in
theorem cw66 : aGt lw_tbl 842 = some (.code (aY 66) (aB 66) (aMl 66) (aRy 66)) := rfl
set_option maxRecDepth 100000 in
theorem cw67 : aGt lw_tbl 895 = some (.code (aY 67) (aB 67) (aMl 67) (aRy 67)) := rfl
set_option maxRecDepth 100000 in
theorem cw68 : aGt lw_tbl 972 = some (.code (aY 68) (aB 68) (aMl 68) (aRy 68)) := rfl
set_option maxRecDepth 100000 in
theorem cw69 : aGt lw_tbl 964 = some (.code (aY 69) (aB 69) (aMl 69) (aRy 69)) := rfl
set_option maxRecDepth 100000 in
theorem cw70 : aGt lw_tbl 998 = some (.code (aY 70) (aB 70) (aMl 70) (aRy 70)) := rfl
set_option maxRecDepth 100000 in
theorem cw71 : aGt lw_tbl 976 = some (.code (aY 71) (aB 71) (aMl 71) (aRy 71)) := rfl
set_option maxRecDepth 100000 in
theorem cw72 : aGt lw_tbl 968 = some (.code (aY 72) (aB 72) (aMl 72) (aRy 72)) := rfl
set_option maxRecDepth 100000 in
theorem cw73 : aGt lw_tbl 1006 = some (.code (aY 73) (aB 73) (aMl 73) (aRy 73)) := rfl
set_option maxRecDepth 100000 in
theorem cw74 : aGt lw_tbl 1010 = some (.code (aY 74) (aB 74) (aMl 74) (aRy 74)) := rfl
set_option maxRecDepth 100000 in
theorem cw75 : aGt lw_tbl 980 = some (.code (aY 75) (aB 75) (aMl 75) (aRy 75)) := rfl
set_option maxRecDepth 100000 in
theorem cw76 : aGt lw_tbl 984 = some (.code (aY 76) (aB 76) (aMl 76) (aRy 76)) := rfl
set_option maxRecDepth 100000 in
theorem cw77 : aGt lw_tbl 282 = some (.code (aY 77) (aB 77) (aMl 77) (aRy 77)) := rfl
set_option maxRecDepth 100000 in
theorem cw78 : aGt lw_tbl 987 = some (.code (aY 78) (aB 78) (aMl 78) (aRy 78)) := rfl
set_option maxRecDepth 100000 in
theorem cw79 : aGt lw_tbl 990 = some (.code (aY 79) (aB 79) (aMl 79) (aRy 79)) := rfl
set_option maxRecDepth 100000 in
theorem cw80 : aGt lw_tbl 960 = some (.code (aY 80) (aB 80) (aMl 80) (aRy 80)) := rfl
set_option maxRecDepth 100000 in
theorem cw81 : aGt lw_tbl 1018 = some (.code (aY 81) (aB 81) (aMl 81) (aRy 81)) := rfl
set_option maxRecDepth 100000 in
theorem cw82 : aGt lw_tbl 994 = some (.code (aY 82) (aB 82) (aMl 82) (aRy 82)) := rfl
set_option maxRecDepth 100000 in
theorem cw83 : aGt lw_tbl 1002 = some (.code (aY 83) (aB 83) (aMl 83) (aRy 83)) := rfl
set_option maxRecDepth 100000 in
theorem cw84 : aGt lw_tbl 1014 = some (.code (aY 84) (aB 84) (aMl 84) (aRy 84)) := rfl
set_option maxRecDepth 100000 in
theorem cw85 : aGt lw_tbl 1052 = some (.code (aY 85) (aB 85) (aMl 85) (aRy 85)) := rfl
set_option maxRecDepth 100000 in
theorem cw86 : aGt lw_tbl 1056 = some (.code (aY 86) (aB 86) (aMl 86) (aRy 86)) := rfl
set_option maxRecDepth 100000 in
theorem cw87 : aGt lw_tbl 1060 = some (.code (aY 87) (aB 87) (aMl 87) (aRy 87)) := rfl
set_option maxRecDepth 100000 in
theorem cw88 : aGt lw_tbl 1065 = some (.code (aY 88) (aB 88) (aMl 88) (aRy 88)) := rfl
set_option maxRecDepth 100000 in
theorem cw89 : aGt lw_tbl 353 = some (.code (aY 89) (aB 89) (aMl 89) (aRy 89)) := rfl
set_option maxRecDepth 100000 in
theorem cw90 : aGt lw_tbl 770 = some (.code (aY 90) (aB 90) (aMl 90) (aRy 90)) := rfl
set_option maxRecDepth 100000 in
theorem cw91 : aGt lw_tbl 1048 = some (.code (aY 91) (aB 91) (aMl 91) (aRy 91)) := rfl
set_option maxRecDepth 100000 in
theorem cw92 : aGt lw_tbl 1043 = some (.code (aY 92) (aB 92) (aMl 92) (aRy 92)) := rfl
set_option maxRecDepth 100000 in
theorem cw93 : aGt lw_tbl 505 = some (.code (aY 93) (aB 93) (aMl 93) (aRy 93)) := rfl
set_option maxRecDepth 100000 in
theorem cw94 : aGt lw_tbl 711 = some (.code (aY 94) (aB 94) (aMl 94) (aRy 94)) := rfl
set_option maxRecDepth 100000 in
theorem cw95 : aGt lw_tbl 1210 = some (.code (aY 95) (aB 95) (aMl 95) (aRy 95)) := rfl
set_option maxRecDepth 100000 in
theorem cw96 : aGt lw_tbl 1147 = some (.code (aY 96) (aB 96) (aMl 96) (aRy 96)) := rfl
set_option maxRecDepth 100000 in
theorem cw97 : aGt lw_tbl 412 = some (.code (aY 97) (aB 97) (aMl 97) (aRy 97)) := rfl
set_option maxRecDepth 100000 in
theorem cw98 : aGt lw_tbl 1162 = some (.code (aY 98) (aB 98) (aMl 98) (aRy 98)) := rfl
set_option maxRecDepth 100000 in
theorem cw99 : aGt lw_tbl 1296 = some (.code (aY 99) (aB 99) (aMl 99) (aRy 99)) := rfl
set_option maxRecDepth 100000 in
theorem cw100 : aGt lw_tbl 1302 = some (.code (aY 100) (aB 100) (aMl 100) (aRy 100)) := rfl
set_option maxRecDepth 100000 in
theorem cw101 : aGt lw_tbl 1308 = some (.code (aY 101) (aB 101) (aMl 101) (aRy 101)) := rfl
set_option maxRecDepth 100000 in
theorem cw102 : aGt lw_tbl 1313 = some (.code (aY 102) (aB 102) (aMl 102) (aRy 102)) := rfl
set_option maxRecDepth 100000 in
theorem cw103 : aGt lw_tbl 369 = some (.code (aY 103) (aB 103) (aMl 103) (aRy 103)) := rfl
set_option maxRecDepth 100000 in
theorem cw104 : aGt lw_tbl 781 = some (.code (aY 104) (aB 104) (aMl 104) (aRy 104)) := rfl
set_option maxRecDepth 100000 in
theorem cw105 : aGt lw_tbl 1166 = some (.code (aY 105) (aB 105) (aMl 105) (aRy 105)) := rfl
set_option maxRecDepth 100000 in
theorem cw106 : aGt lw_tbl 127 = some (.code (aY 106) (aB 106) (aMl 106) (aRy 106)) := rfl
set_option maxRecDepth 100000 in
theorem cw107 : aGt lw_tbl 682 = some (.code (aY 107) (aB 107) (aMl 107) (aRy 107)) := rfl
set_option maxRecDepth 100000 in
theorem cw108 : aGt lw_tbl 692 = some (.code (aY 108) (aB 108) (aMl 108) (aRy 108)) := rfl
set_option maxRecDepth 100000 in
theorem cw109 : aGt lw_tbl 696 = some (.code (aY 109) (aB 109) (aMl 109) (aRy 109)) := rfl
set_option maxRecDepth 100000 in
theorem cw110 : aGt lw_tbl 718 = some (.code (aY 110) (aB 110) (aMl 110) (aRy 110)) := rfl
set_option maxRecDepth 100000 in
theorem cw111 : aGt lw_tbl 731 = some (.code (aY 111) (aB 111) (aMl 111) (aRy 111)) := rfl
set_option maxRecDepth 100000 in
theorem cw112 : aGt lw_tbl 743 = some (.code (aY 112) (aB 112) (aMl 112) (aRy 112)) := rfl
set_option maxRecDepth 100000 in
theorem cw113 : aGt lw_tbl 747 = some (.code (aY 113) (aB 113) (aMl 113) (aRy 113)) := rfl
set_option maxRecDepth 100000 in
theorem cw114 : aGt lw_tbl 775 = some (.code (aY 114) (aB 114) (aMl 114) (aRy 114)) := rfl
set_option maxRecDepth 100000 in
theorem cw115 : aGt lw_tbl 785 = some (.code (aY 115) (aB 115) (aMl 115) (aRy 115)) := rfl
set_option maxRecDepth 100000 in
theorem cw116 : aGt lw_tbl 790 = some (.code (aY 116) (aB 116) (aMl 116) (aRy 116)) := rfl
set_option maxRecDepth 100000 in
theorem cw117 : aGt lw_tbl 794 = some (.code (aY 117) (aB 117) (aMl 117) (aRy 117)) := rfl
set_option maxRecDepth 100000 in
theorem cw118 : aGt lw_tbl 802 = some (.code (aY 118) (aB 118) (aMl 118) (aRy 118)) := rfl
set_option maxRecDepth 100000 in
theorem cw119 : aGt lw_tbl 806 = some (.code (aY 119) (aB 119) (aMl 119) (aRy 119)) := rfl
set_option maxRecDepth 100000 in
theorem cw120 : aGt lw_tbl 1026 = some (.code (aY 120) (aB 120) (aMl 120) (aRy 120)) := rfl
set_option maxRecDepth 100000 in
theorem cw121 : aGt lw_tbl 1030 = some (.code (aY 121) (aB 121) (aMl 121) (aRy 121)) := rfl
set_option maxRecDepth 100000 in
theorem cw122 : aGt lw_tbl 1201 = some (.code (aY 122) (aB 122) (aMl 122) (aRy 122)) := rfl
set_option maxRecDepth 100000 in
theorem cw123 : aGt lw_tbl 1222 = some (.code (aY 123) (aB 123) (aMl 123) (aRy 123)) := rfl
set_option maxRecDepth 100000 in
theorem cw124 : aGt lw_tbl 1226 = some (.code (aY 124) (aB 124) (aMl 124) (aRy 124)) := rfl
set_option maxRecDepth 100000 in
theorem cw125 : aGt lw_tbl 1231 = some (.code (aY 125) (aB 125) (aMl 125) (aRy 125)) := rfl
set_option maxRecDepth 100000 in
theorem cw126 : aGt lw_tbl 1239 = some (.code (aY 126) (aB 126) (aMl 126) (aRy 126)) := rfl
set_option maxRecDepth 100000 in
theorem cw127 : aGt lw_tbl 1252 = some (.code (aY 127) (aB 127) (aMl 127) (aRy 127)) := rfl
set_option maxRecDepth 100000 in
theorem cw128 : aGt lw_tbl 1284 = some (.code (aY 128) (aB 128) (aMl 128) (aRy 128)) := rfl
set_option maxRecDepth 100000 in
theorem cw129 : aGt lw_tbl 1288 = some (.code (aY 129) (aB 129) (aMl 129) (aRy 129)) := rfl
set_option maxRecDepth 100000 in
theorem cw130 : aGt lw_tbl 1317 = some (.code (aY 130) (aB 130) (aMl 130) (aRy 130)) := rfl
set_option maxRecDepth 100000 in
theorem cw131 : aGt lw_tbl 1321 = some (.code (aY 131) (aB 131) (aMl 131) (aRy 131)) := rfl
set_option maxRecDepth 100000 in
theorem cw132 : aGt lw_tbl 1329 = some (.code (aY 132) (aB 132) (aMl 132) (aRy 132)) := rfl
set_option maxRecDepth 100000 in
theorem cw133 : aGt lw_tbl 1348 = some (.code (aY 133) (aB 133) (aMl 133) (aRy 133)) := rfl
set_option maxRecDepth 100000 in
theorem cw134 : aGt lw_tbl 1353 = some (.code (aY 134) (aB 134) (aMl 134) (aRy 134)) := rfl
set_option maxRecDepth 100000 in
theorem cw135 : aGt lw_tbl 1357 = some (.code (aY 135) (aB 135) (aMl 135) (aRy 135)) := rfl
set_option maxRecDepth 100000 in
theorem cw136 : aGt lw_tbl 1361 = some (.code (aY 136) (aB 136) (aMl 136) (aRy 136)) := rfl
set_option maxRecDepth 100000 in
theorem cw137 : aGt lw_tbl 1366 = some (.code (aY 137) (aB 137) (aMl 137) (aRy 137)) := rfl
set_option maxRecDepth 100000 in
theorem cw138 : aGt lw_tbl 1375 = some (.code (aY 138) (aB 138) (aMl 138) (aRy 138)) := rfl
set_option maxRecDepth 100000 in
theorem cw139 : aGt lw_tbl 1384 = some (.code (aY 139) (aB 139) (aMl 139) (aRy 139)) := rfl
set_option maxRecDepth 100000 in
theorem cw140 : aGt lw_tbl 1393 = some (.code (aY 140) (aB 140) (aMl 140) (aRy 140)) := rfl
set_option maxRecDepth 100000 in
theorem cw141 : aGt lw_tbl 1397 = some (.code (aY 141) (aB 141) (aMl 141) (aRy 141)) := rfl
set_option maxRecDepth 100000 in
theorem cw142 : aGt lw_tbl 1408 = some (.code (aY 142) (aB 142) (aMl 142) (aRy 142)) := rfl
set_option maxRecDepth 100000 in
theorem cw143 : aGt lw_tbl 686 = some (.code (aY 143) (aB 143) (aMl 143) (aRy 143)) := rfl
set_option maxRecDepth 100000 in
theorem cw144 : aGt lw_tbl 754 = some (.code (aY 144) (aB 144) (aMl 144) (aRy 144)) := rfl
set_option maxRecDepth 100000 in
theorem cw145 : aGt lw_tbl 714 = some (.code (aY 145) (aB 145) (aMl 145) (aRy 145)) := rfl
set_option maxRecDepth 100000 in
theorem cw146 : aGt lw_tbl 722 = some (.code (aY 146) (aB 146) (aMl 146) (aRy 146)) := rfl
set_option maxRecDepth 100000 in
theorem cw147 : aGt lw_tbl 1248 = some (.code (aY 147) (aB 147) (aMl 147) (aRy 147)) := rfl
set_option maxRecDepth 100000 in
theorem cw148 : aGt lw_tbl 1206 = some (.code (aY 148) (aB 148) (aMl 148) (aRy 148)) := rfl
set_option maxRecDepth 100000 in
theorem cw149 : aGt lw_tbl 1218 = some (.code (aY 149) (aB 149) (aMl 149) (aRy 149)) := rfl
set_option maxRecDepth 100000 in
theorem cw150 : aGt lw_tbl 1371 = some (.code (aY 150) (aB 150) (aMl 150) (aRy 150)) := rfl
set_option maxRecDepth 100000 in
theorem cw151 : aGt lw_tbl 1418 = some (.code (aY 151) (aB 151) (aMl 151) (aRy 151)) := rfl
set_option maxRecDepth 100000 in
theorem cw152 : aGt lw_tbl 1688 = some (.code (aY 152) (aB 152) (aMl 152) (aRy 152)) := rfl
set_option maxRecDepth 100000 in
theorem cw153 : aGt lw_tbl 1761 = some (.code (aY 153) (aB 153) (aMl 153) (aRy 153)) := rfl
set_option maxRecDepth 100000 in
theorem cw154 : aGt lw_tbl 1684 = some (.code (aY 154) (aB 154) (aMl 154) (aRy 154)) := rfl
set_option maxRecDepth 100000 in
theorem cw155 : aGt lw_tbl 1699 = some (.code (aY 155) (aB 155) (aMl 155) (aRy 155)) := rfl
set_option maxRecDepth 100000 in
theorem cw156 : aGt lw_tbl 1681 = some (.code (aY 156) (aB 156) (aMl 156) (aRy 156)) := rfl
set_option maxRecDepth 100000 in
theorem cw157 : aGt lw_tbl 1692 = some (.code (aY 157) (aB 157) (aMl 157) (aRy 157)) := rfl
set_option maxRecDepth 100000 in
theorem cw158 : aGt lw_tbl 1696 = some (.code (aY 158) (aB 158) (aMl 158) (aRy 158)) := rfl
set_option maxRecDepth 100000 in
theorem cw159 : aGt lw_tbl 1703 = some (.code (aY 159) (aB 159) (aMl 159) (aRy 159)) := rfl
set_option maxRecDepth 100000 in
theorem cw160 : aGt lw_tbl 1757 = some (.code (aY 160) (aB 160) (aMl 160) (aRy 160)) := rfl
set_option maxRecDepth 100000 in
theorem cw161 : aGt lw_tbl 1707 = some (.code (aY 161) (aB 161) (aMl 161) (aRy 161)) := rfl
set_option maxRecDepth 100000 in
theorem cw162 : aGt lw_tbl 1714 = some (.code (aY 162) (aB 162) (aMl 162) (aRy 162)) := rfl
set_option maxRecDepth 100000 in
theorem cw163 : aGt lw_tbl 1722 = some (.code (aY 163) (aB 163) (aMl 163) (aRy 163)) := rfl
set_option maxRecDepth 100000 in
theorem cw164 : aGt lw_tbl 1743 = some (.code (aY 164) (aB 164) (aMl 164) (aRy 164)) := rfl
set_option maxRecDepth 100000 in
theorem cw165 : aGt lw_tbl 1923 = some (.code (aY 165) (aB 165) (aMl 165) (aRy 165)) := rfl
set_option maxRecDepth 100000 in
theorem cw166 : aGt lw_tbl 1718 = some (.code (aY 166) (aB 166) (aMl 166) (aRy 166)) := rfl
set_option maxRecDepth 100000 in
theorem cw167 : aGt lw_tbl 1734 = some (.code (aY 167) (aB 167) (aMl 167) (aRy 167)) := rfl
set_option maxRecDepth 100000 in
theorem cw168 : aGt lw_tbl 1731 = some (.code (aY 168) (aB 168) (aMl 168) (aRy 168)) := rfl
set_option maxRecDepth 100000 in
theorem cw169 : aGt lw_tbl 1739 = some (.code (aY 169) (aB 169) (aMl 169) (aRy 169)) := rfl
set_option maxRecDepth 100000 in
theorem cw170 : aGt lw_tbl 1747 = some (.code (aY 170) (aB 170) (aMl 170) (aRy 170)) := rfl
set_option maxRecDepth 100000 in
theorem cw171 : aGt lw_tbl 1910 = some (.code (aY 171) (aB 171) (aMl 171) (aRy 171)) := rfl
set_option maxRecDepth 100000 in
theorem cw172 : aGt lw_tbl 1781 = some (.code (aY 172) (aB 172) (aMl 172) (aRy 172)) := rfl
set_option maxRecDepth 100000 in
theorem cw173 : aGt lw_tbl 1751 = some (.code (aY 173) (aB 173) (aMl 173) (aRy 173)) := rfl
set_option maxRecDepth 100000 in
theorem cw174 : aGt lw_tbl 1766 = some (.code (aY 174) (aB 174) (aMl 174) (aRy 174)) := rfl
set_option maxRecDepth 100000 in
theorem cw175 : aGt lw_tbl 1772 = some (.code (aY 175) (aB 175) (aMl 175) (aRy 175)) := rfl
set_option maxRecDepth 100000 in
theorem cw176 : aGt lw_tbl 1777 = some (.code (aY 176) (aB 176) (aMl 176) (aRy 176)) := rfl
set_option maxRecDepth 100000 in
theorem cw177 : aGt lw_tbl 1785 = some (.code (aY 177) (aB 177) (aMl 177) (aRy 177)) := rfl
set_option maxRecDepth 100000 in
theorem cw178 : aGt lw_tbl 1789 = some (.code (aY 178) (aB 178) (aMl 178) (aRy 178)) := rfl
set_option maxRecDepth 100000 in
theorem cw179 : aGt lw_tbl 1805 = some (.code (aY 179) (aB 179) (aMl 179) (aRy 179)) := rfl
set_option maxRecDepth 100000 in
theorem cw180 : aGt lw_tbl 1808 = some (.code (aY 180) (aB 180) (aMl 180) (aRy 180)) := rfl
set_option maxRecDepth 100000 in
theorem cw181 : aGt lw_tbl 1811 = some (.code (aY 181) (aB 181) (aMl 181) (aRy 181)) := rfl
set_option maxRecDepth 100000 in
theorem cw182 : aGt lw_tbl 1814 = some (.code (aY 182) (aB 182) (aMl 182) (aRy 182)) := rfl
set_option maxRecDepth 100000 in
theorem cw183 : aGt lw_tbl 1801 = some (.code (aY 183) (aB 183) (aMl 183) (aRy 183)) := rfl
set_option maxRecDepth 100000 in
theorem cw184 : aGt lw_tbl 1832 = some (.code (aY 184) (aB 184) (aMl 184) (aRy 184)) := rfl
set_option maxRecDepth 100000 in
theorem cw185 : aGt lw_tbl 1855 = some (.code (aY 185) (aB 185) (aMl 185) (aRy 185)) := rfl
set_option maxRecDepth 100000 in
theorem cw186 : aGt lw_tbl 1823 = some (.code (aY 186) (aB 186) (aMl 186) (aRy 186)) := rfl
set_option maxRecDepth 100000 in
theorem cw187 : aGt lw_tbl 1844 = some (.code (aY 187) (aB 187) (aMl 187) (aRy 187)) := rfl
set_option maxRecDepth 100000 in
theorem cw188 : aGt lw_tbl 1840 = some (.code (aY 188) (aB 188) (aMl 188) (aRy 188)) := rfl
set_option maxRecDepth 100000 in
theorem cw189 : aGt lw_tbl 1836 = some (.code (aY 189) (aB 189) (aMl 189) (aRy 189)) := rfl
set_option maxRecDepth 100000 in
theorem cw190 : aGt lw_tbl 1868 = some (.code (aY 190) (aB 190) (aMl 190) (aRy 190)) := rfl
set_option maxRecDepth 100000 in
theorem cw191 : aGt lw_tbl 1864 = some (.code (aY 191) (aB 191) (aMl 191) (aRy 191)) := rfl
set_option maxRecDepth 100000 in
theorem cw192 : aGt lw_tbl 1860 = some (.code (aY 192) (aB 192) (aMl 192) (aRy 192)) := rfl
set_option maxRecDepth 100000 in
theorem cw193 : aGt lw_tbl 1818 = some (.code (aY 193) (aB 193) (aMl 193) (aRy 193)) := rfl
set_option maxRecDepth 100000 in
theorem cw194 : aGt lw_tbl 1797 = some (.code (aY 194) (aB 194) (aMl 194) (aRy 194)) := rfl
set_option maxRecDepth 100000 in
theorem cw195 : aGt lw_tbl 1887 = some (.code (aY 195) (aB 195) (aMl 195) (aRy 195)) := rfl
set_option maxRecDepth 100000 in
theorem cw196 : aGt lw_tbl 1793 = some (.code (aY 196) (aB 196) (aMl 196) (aRy 196)) := rfl
set_option maxRecDepth 100000 in
theorem cw197 : aGt lw_tbl 1874 = some (.code (aY 197) (aB 197) (aMl 197) (aRy 197)) := rfl
set_option maxRecDepth 100000 in
theorem cw198 : aGt lw_tbl 1906 = some (.code (aY 198) (aB 198) (aMl 198) (aRy 198)) := rfl
set_option maxRecDepth 100000 in
theorem cw199 : aGt lw_tbl 1914 = some (.code (aY 199) (aB 199) (aMl 199) (aRy 199)) := rfl
set_option maxRecDepth 100000 in
theorem cw200 : aGt lw_tbl 1901 = some (.code (aY 200) (aB 200) (aMl 200) (aRy 200)) := rfl
set_option maxRecDepth 100000 in
theorem cw201 : aGt lw_tbl 1897 = some (.code (aY 201) (aB 201) (aMl 201) (aRy 201)) := rfl
set_option maxRecDepth 100000 in
theorem cw202 : aGt lw_tbl 1893 = some (.code (aY 202) (aB 202) (aMl 202) (aRy 202)) := rfl
set_option maxRecDepth 100000 in
theorem cw203 : aGt lw_tbl 1882 = some (.code (aY 203) (aB 203) (aMl 203) (aRy 203)) := rfl
set_option maxRecDepth 100000 in
theorem cw204 : aGt lw_tbl 1878 = some (.code (aY 204) (aB 204) (aMl 204) (aRy 204)) := rfl
set_option maxRecDepth 100000 in
theorem cw205 : aGt lw_tbl 1919 = some (.code (aY 205) (aB 205) (aMl 205) (aRy 205)) := rfl
set_option maxRecDepth 100000 in
theorem cw206 : aGt lw_tbl 1927 = some (.code (aY 206) (aB 206) (aMl 206) (aRy 206)) := rfl
set_option maxRecDepth 100000 in
theorem cw207 : aGt lw_tbl 1955 = some (.code (aY 207) (aB 207) (aMl 207) (aRy 207)) := rfl
set_option maxRecDepth 100000 in
theorem cw208 : aGt lw_tbl 1943 = some (.code (aY 208) (aB 208) (aMl 208) (aRy 208)) := rfl
set_option maxRecDepth 100000 in
theorem cw209 : aGt lw_tbl 1951 = some (.code (aY 209) (aB 209) (aMl 209) (aRy 209)) := rfl
set_option maxRecDepth 100000 in
theorem cw210 : aGt lw_tbl 1947 = some (.code (aY 210) (aB 210) (aMl 210) (aRy 210)) := rfl
set_option maxRecDepth 100000 in
theorem cw211 : aGt lw_tbl 1980 = some (.code (aY 211) (aB 211) (aMl 211) (aRy 211)) := rfl
set_option maxRecDepth 100000 in
theorem cw212 : aGt lw_tbl 1988 = some (.code (aY 212) (aB 212) (aMl 212) (aRy 212)) := rfl
set_option maxRecDepth 100000 in
theorem cw213 : aGt lw_tbl 1984 = some (.code (aY 213) (aB 213) (aMl 213) (aRy 213)) := rfl
set_option maxRecDepth 100000 in
theorem cw214 : aGt lw_tbl 1964 = some (.code (aY 214) (aB 214) (aMl 214) (aRy 214)) := rfl
set_option maxRecDepth 100000 in
theorem cw215 : aGt lw_tbl 1968 = some (.code (aY 215) (aB 215) (aMl 215) (aRy 215)) := rfl
set_option maxRecDepth 100000 in
theorem cw216 : aGt lw_tbl 1992 = some (.code (aY 216) (aB 216) (aMl 216) (aRy 216)) := rfl
set_option maxRecDepth 100000 in
theorem cw217 : aGt lw_tbl 1936 = some (.code (aY 217) (aB 217) (aMl 217) (aRy 217)) := rfl
set_option maxRecDepth 100000 in
theorem cw218 : aGt lw_tbl 1959 = some (.code (aY 218) (aB 218) (aMl 218) (aRy 218)) := rfl
set_option maxRecDepth 100000 in
theorem cw219 : aGt lw_tbl 1976 = some (.code (aY 219) (aB 219) (aMl 219) (aRy 219)) := rfl
set_option maxRecDepth 100000 in
theorem cw220 : aGt lw_tbl 1972 = some (.code (aY 220) (aB 220) (aMl 220) (aRy 220)) := rfl
set_option maxRecDepth 100000 in
theorem cw221 : aGt lw_tbl 1996 = some (.code (aY 221) (aB 221) (aMl 221) (aRy 221)) := rfl
set_option maxRecDepth 100000 in
theorem cw222 : aGt lw_tbl 2000 = some (.code (aY 222) (aB 222) (aMl 222) (aRy 222)) := rfl
set_option maxRecDepth 100000 in
theorem cw223 : aGt lw_tbl 1931 = some (.code (aY 223) (aB 223) (aMl 223) (aRy 223)) := rfl
set_option maxRecDepth 100000 in
theorem cw224 : aGt lw_tbl 2004 = some (.code (aY 224) (aB 224) (aMl 224) (aRy 224)) := rfl
set_option maxRecDepth 100000 in
theorem cw225 : aGt lw_tbl 2009 = some (.code (aY 225) (aB 225) (aMl 225) (aRy 225)) := rfl
set_option maxRecDepth 100000 in
theorem cw226 : aGt lw_tbl 2022 = some (.code (aY 226) (aB 226) (aMl 226) (aRy 226)) := rfl
set_option maxRecDepth 100000 in
theorem cw227 : aGt lw_tbl 2018 = some (.code (aY 227) (aB 227) (aMl 227) (aRy 227)) := rfl
set_option maxRecDepth 100000 in
theorem cw228 : aGt lw_tbl 2013 = some (.code (aY 228) (aB 228) (aMl 228) (aRy 228)) := rfl
set_option maxRecDepth 100000 in
theorem cw229 : aGt lw_tbl 2026 = some (.code (aY 229) (aB 229) (aMl 229) (aRy 229)) := rfl
set_option maxRecDepth 100000 in
theorem cw230 : aGt lw_tbl 2042 = some (.code (aY 230) (aB 230) (aMl 230) (aRy 230)) := rfl
set_option maxRecDepth 100000 in
theorem cw231 : aGt lw_tbl 2038 = some (.code (aY 231) (aB 231) (aMl 231) (aRy 231)) := rfl
set_option maxRecDepth 100000 in
theorem cw232 : aGt lw_tbl 2030 = some (.code (aY 232) (aB 232) (aMl 232) (aRy 232)) := rfl
set_option maxRecDepth 100000 in
theorem cw233 : aGt lw_tbl 2046 = some (.code (aY 233) (aB 233) (aMl 233) (aRy 233)) := rfl
set_option maxRecDepth 100000 in
theorem cw234 : aGt lw_tbl 2050 = some (.code (aY 234) (aB 234) (aMl 234) (aRy 234)) := rfl
set_option maxRecDepth 100000 in
theorem cw235 : aGt lw_tbl 2058 = some (.code (aY 235) (aB 235) (aMl 235) (aRy 235)) := rfl
set_option maxRecDepth 100000 in
theorem cw236 : aGt lw_tbl 2054 = some (.code (aY 236) (aB 236) (aMl 236) (aRy 236)) := rfl
set_option maxRecDepth 100000 in
theorem cw237 : aGt lw_tbl 2063 = some (.code (aY 237) (aB 237) (aMl 237) (aRy 237)) := rfl
set_option maxRecDepth 100000 in
theorem cw238 : aGt lw_tbl 2067 = some (.code (aY 238) (aB 238) (aMl 238) (aRy 238)) := rfl
set_option maxRecDepth 100000 in
theorem cw239 : aGt lw_tbl 2071 = some (.code (aY 239) (aB 239) (aMl 239) (aRy 239)) := rfl
set_option maxRecDepth 100000 in
theorem cw240 : aGt lw_tbl 2075 = some (.code (aY 240) (aB 240) (aMl 240) (aRy 240)) := rfl
set_option maxRecDepth 100000 in
theorem cw241 : aGt lw_tbl 2079 = some (.code (aY 241) (aB 241) (aMl 241) (aRy 241)) := rfl
set_option maxRecDepth 100000 in
theorem cw242 : aGt lw_tbl 2083 = some (.code (aY 242) (aB 242) (aMl 242) (aRy 242)) := rfl
set_option maxRecDepth 100000 in
theorem cw243 : aGt lw_tbl 948 = some (.code (aY 243) (aB 243) (aMl 243) (aRy 243)) := rfl
set_option maxRecDepth 100000 in
theorem cw244 : aGt lw_tbl 951 = some (.code (aY 244) (aB 244) (aMl 244) (aRy 244)) := rfl
set_option maxRecDepth 100000 in
theorem cw245 : aGt lw_tbl 955 = some (.code (aY 245) (aB 245) (aMl 245) (aRy 245)) := rfl
set_option maxRecDepth 100000 in
theorem cw246 : aGt lw_tbl 1130 = some (.code (aY 246) (aB 246) (aMl 246) (aRy 246)) := rfl
set_option maxRecDepth 100000 in
theorem cw247 : aGt lw_tbl 917 = some (.code (aY 247) (aB 247) (aMl 247) (aRy 247)) := rfl
set_option maxRecDepth 100000 in
theorem cw248 : aGt lw_tbl 1071 = some (.code (aY 248) (aB 248) (aMl 248) (aRy 248)) := rfl
set_option maxRecDepth 100000 in
theorem cw249 : aGt lw_tbl 898 = some (.code (aY 249) (aB 249) (aMl 249) (aRy 249)) := rfl
set_option maxRecDepth 100000 in
theorem cw250 : aGt lw_tbl 1068 = some (.code (aY 250) (aB 250) (aMl 250) (aRy 250)) := rfl
set_option maxRecDepth 100000 in
theorem cw251 : aGt lw_tbl 847 = some (.code (aY 251) (aB 251) (aMl 251) (aRy 251)) := rfl
set_option maxRecDepth 100000 in
theorem cw252 : aGt lw_tbl 857 = some (.code (aY 252) (aB 252) (aMl 252) (aRy 252)) := rfl
set_option maxRecDepth 100000 in
theorem cw253 : aGt lw_tbl 903 = some (.code (aY 253) (aB 253) (aMl 253) (aRy 253)) := rfl
set_option maxRecDepth 100000 in
theorem cw254 : aGt lw_tbl 907 = some (.code (aY 254) (aB 254) (aMl 254) (aRy 254)) := rfl
set_option maxRecDepth 100000 in
theorem cw255 : aGt lw_tbl 851 = some (.code (aY 255) (aB 255) (aMl 255) (aRy 255)) := rfl
set_option maxRecDepth 100000 in
theorem cw256 : aGt lw_tbl 861 = some (.code (aY 256) (aB 256) (aMl 256) (aRy 256)) := rfl
set_option maxRecDepth 100000 in
theorem cw257 : aGt lw_tbl 867 = some (.code (aY 257) (aB 257) (aMl 257) (aRy 257)) := rfl
set_option maxRecDepth 100000 in
theorem cw258 : aGt lw_tbl 936 = some (.code (aY 258) (aB 258) (aMl 258) (aRy 258)) := rfl
set_option maxRecDepth 100000 in
theorem cw259 : aGt lw_tbl 864 = some (.code (aY 259) (aB 259) (aMl 259) (aRy 259)) := rfl
set_option maxRecDepth 100000 in
theorem cw260 : aGt lw_tbl 914 = some (.code (aY 260) (aB 260) (aMl 260) (aRy 260)) := rfl
set_option maxRecDepth 100000 in
theorem cw261 : aGt lw_tbl 911 = some (.code (aY 261) (aB 261) (aMl 261) (aRy 261)) := rfl
set_option maxRecDepth 100000 in
theorem cw262 : aGt lw_tbl 921 = some (.code (aY 262) (aB 262) (aMl 262) (aRy 262)) := rfl
set_option maxRecDepth 100000 in
theorem cw263 : aGt lw_tbl 885 = some (.code (aY 263) (aB 263) (aMl 263) (aRy 263)) := rfl
set_option maxRecDepth 100000 in
theorem cw264 : aGt lw_tbl 881 = some (.code (aY 264) (aB 264) (aMl 264) (aRy 264)) := rfl
set_option maxRecDepth 100000 in
theorem cw265 : aGt lw_tbl 924 = some (.code (aY 265) (aB 265) (aMl 265) (aRy 265)) := rfl
set_option maxRecDepth 100000 in
theorem cw266 : aGt lw_tbl 930 = some (.code (aY 266) (aB 266) (aMl 266) (aRy 266)) := rfl
set_option maxRecDepth 100000 in
theorem cw267 : aGt lw_tbl 942 = some (.code (aY 267) (aB 267) (aMl 267) (aRy 267)) := rfl
set_option maxRecDepth 100000 in
theorem cw268 : aGt lw_tbl 945 = some (.code (aY 268) (aB 268) (aMl 268) (aRy 268)) := rfl
set_option maxRecDepth 100000 in
theorem cw269 : aGt lw_tbl 875 = some (.code (aY 269) (aB 269) (aMl 269) (aRy 269)) := rfl
set_option maxRecDepth 100000 in
theorem cw270 : aGt lw_tbl 878 = some (.code (aY 270) (aB 270) (aMl 270) (aRy 270)) := rfl
set_option maxRecDepth 100000 in
theorem cw271 : aGt lw_tbl 933 = some (.code (aY 271) (aB 271) (aMl 271) (aRy 271)) := rfl
set_option maxRecDepth 100000 in
theorem cw272 : aGt lw_tbl 1213 = some (.code (aY 272) (aB 272) (aMl 272) (aRy 272)) := rfl
set_option maxRecDepth 100000 in
theorem cw273 : aGt lw_tbl 587 = some (.code (aY 273) (aB 273) (aMl 273) (aRy 273)) := rfl
set_option maxRecDepth 100000 in
theorem cw274 : aGt lw_tbl 872 = some (.code (aY 274) (aB 274) (aMl 274) (aRy 274)) := rfl
set_option maxRecDepth 100000 in
theorem cw275 : aGt lw_tbl 939 = some (.code (aY 275) (aB 275) (aMl 275) (aRy 275)) := rfl
def aCPL : List (List Nat) := [[233, 1075, 1088, 1079, 1093, 1097, 1101, 1106, 1110, 1114, 1118, 454, 1035, 1039, 1123, 1134],
  [1143, 1127, 1152, 1158, 1182, 1173, 1178, 1187, 1193, 1197, 606, 1325, 1333, 1337, 1342, 135],
  [700, 735, 1235, 707, 727, 1244, 739, 1084, 1138, 1257, 1261, 1266, 1276, 1272, 1280, 583],
  [751, 1380, 1389, 765, 1401, 1404, 1412, 761, 317, 798, 810, 814, 834, 822, 838, 818],
  [826, 830, 842, 895, 972, 964, 998, 976, 968, 1006, 1010, 980, 984, 282, 987, 990],
  [960, 1018, 994, 1002, 1014, 1052, 1056, 1060, 1065, 353, 770, 1048, 1043, 505, 711, 1210],
  [1147, 412, 1162, 1296, 1302, 1308, 1313, 369, 781, 1166, 127, 682, 692, 696, 718, 731],
  [743, 747, 775, 785, 790, 794, 802, 806, 1026, 1030, 1201, 1222, 1226, 1231, 1239, 1252],
  [1284, 1288, 1317, 1321, 1329, 1348, 1353, 1357, 1361, 1366, 1375, 1384, 1393, 1397, 1408, 686],
  [754, 714, 722, 1248, 1206, 1218, 1371, 1418, 1688, 1761, 1684, 1699, 1681, 1692, 1696, 1703],
  [1757, 1707, 1714, 1722, 1743, 1923, 1718, 1734, 1731, 1739, 1747, 1910, 1781, 1751, 1766, 1772],
  [1777, 1785, 1789, 1805, 1808, 1811, 1814, 1801, 1832, 1855, 1823, 1844, 1840, 1836, 1868, 1864],
  [1860, 1818, 1797, 1887, 1793, 1874, 1906, 1914, 1901, 1897, 1893, 1882, 1878, 1919, 1927, 1955],
  [1943, 1951, 1947, 1980, 1988, 1984, 1964, 1968, 1992, 1936, 1959, 1976, 1972, 1996, 2000, 1931],
  [2004, 2009, 2022, 2018, 2013, 2026, 2042, 2038, 2030, 2046, 2050, 2058, 2054, 2063, 2067, 2071],
  [2075, 2079, 2083, 948, 951, 955, 1130, 917, 1071, 898, 1068, 847, 857, 903, 907, 851],
  [861, 867, 936, 864, 914, 911, 921, 885, 881, 924, 930, 942, 945, 875, 878, 933],
  [1213, 587, 872, 939, 0]]
theorem cwr_0 (i : Nat) (h : 16 * 0 + i < 16) : aGt lw_tbl (nth 0 (nth [] aCPL 0) i) = some (.code (aY (16 * 0 + i)) (aB (16 * 0 + i)) (aMl (16 * 0 + i)) (aRy (16 * 0 + i))) := match i, h with
  | 0, _ => cw0
  | 1, _ => cw1
  | 2, _ => cw2
  | 3, _ => cw3
  | 4, _ => cw4
  | 5, _ => cw5
  | 6, _ => cw6
  | 7, _ => cw7
  | 8, _ => cw8
  | 9, _ => cw9
  | 10, _ => cw10
  | 11, _ => cw11
  | 12, _ => cw12
  | 13, _ => cw13
  | 14, _ => cw14
  | 15, _ => cw15
  | i + 16, h => absurd h (by omega)
theorem cwr_1 (i : Nat) (h : 16 * 1 + i < 32) : aGt lw_tbl (nth 0 (nth [] aCPL 1) i) = some (.code (aY (16 * 1 + i)) (aB (16 * 1 + i)) (aMl (16 * 1 + i)) (aRy (16 * 1 + i))) := match i, h with
  | 0, _ => cw16
  | 1, _ => cw17
  | 2, _ => cw18
  | 3, _ => cw19
  | 4, _ => cw20
  | 5, _ => cw21
  | 6, _ => cw22
  | 7, _ => cw23
  | 8, _ => cw24
  | 9, _ => cw25
  | 10, _ => cw26
  | 11, _ => cw27
  | 12, _ => cw28
  | 13, _ => cw29
  | 14, _ => cw30
  | 15, _ => cw31
  | i + 16, h => absurd h (by omega)
theorem cwr_2 (i : Nat) (h : 16 * 2 + i < 48) : aGt lw_tbl (nth 0 (nth [] aCPL 2) i) = some (.code (aY (16 * 2 + i)) (aB (16 * 2 + i)) (aMl (16 * 2 + i)) (aRy (16 * 2 + i))) := match i, h with
  | 0, _ => cw32
  | 1, _ => cw33
  | 2, _ => cw34
  | 3, _ => cw35
  | 4, _ => cw36
  | 5, _ => cw37
  | 6, _ => cw38
  | 7, _ => cw39
  | 8, _ => cw40
  | 9, _ => cw41
  | 10, _ => cw42
  | 11, _ => cw43
  | 12, _ => cw44
  | 13, _ => cw45
  | 14, _ => cw46
  | 15, _ => cw47
  | i + 16, h => absurd h (by omega)
theorem cwr_3 (i : Nat) (h : 16 * 3 + i < 64) : aGt lw_tbl (nth 0 (nth [] aCPL 3) i) = some (.code (aY (16 * 3 + i)) (aB (16 * 3 + i)) (aMl (16 * 3 + i)) (aRy (16 * 3 + i))) := match i, h with
  | 0, _ => cw48
  | 1, _ => cw49
  | 2, _ => cw50
  | 3, _ => cw51
  | 4, _ => cw52
  | 5, _ => cw53
  | 6, _ => cw54
  | 7, _ => cw55
  | 8, _ => cw56
  | 9, _ => cw57
  | 10, _ => cw58
  | 11, _ => cw59
  | 12, _ => cw60
  | 13, _ => cw61
  | 14, _ => cw62
  | 15, _ => cw63
  | i + 16, h => absurd h (by omega)
theorem cwr_4 (i : Nat) (h : 16 * 4 + i < 80) : aGt lw_tbl (nth 0 (nth [] aCPL 4) i) = some (.code (aY (16 * 4 + i)) (aB (16 * 4 + i)) (aMl (16 * 4 + i)) (aRy (16 * 4 + i))) := match i, h with
  | 0, _ => cw64
  | 1, _ => cw65
  | 2, _ => cw66
  | 3, _ => cw67
  | 4, _ => cw68
  | 5, _ => cw69
  | 6, _ => cw70
  | 7, _ => cw71
  | 8, _ => cw72
  | 9, _ => cw73
  | 10, _ => cw74
  | 11, _ => cw75
  | 12, _ => cw76
  | 13, _ => cw77
  | 14, _ => cw78
  | 15, _ => cw79
  | i + 16, h => absurd h (by omega)
theorem cwr_5 (i : Nat) (h : 16 * 5 + i < 96) : aGt lw_tbl (nth 0 (nth [] aCPL 5) i) = some (.code (aY (16 * 5 + i)) (aB (16 * 5 + i)) (aMl (16 * 5 + i)) (aRy (16 * 5 + i))) := match i, h with
  | 0, _ => cw80
  | 1, _ => cw81
  | 2, _ => cw82
  | 3, _ => cw83
  | 4, _ => cw84
  | 5, _ => cw85
  | 6, _ => cw86
  | 7, _ => cw87
  | 8, _ => cw88
  | 9, _ => cw89
  | 10, _ => cw90
  | 11, _ => cw91
  | 12, _ => cw92
  | 13, _ => cw93
  | 14, _ => cw94
  | 15, _ => cw95
  | i + 16, h => absurd h (by omega)
theorem cwr_6 (i : Nat) (h : 16 * 6 + i < 112) : aGt lw_tbl (nth 0 (nth [] aCPL 6) i) = some (.code (aY (16 * 6 + i)) (aB (16 * 6 + i)) (aMl (16 * 6 + i)) (aRy (16 * 6 + i))) := match i, h with
  | 0, _ => cw96
  | 1, _ => cw97
  | 2, _ => cw98
  | 3, _ => cw99
  | 4, _ => cw100
  | 5, _ => cw101
  | 6, _ => cw102
  | 7, _ => cw103
  | 8, _ => cw104
  | 9, _ => cw105
  | 10, _ => cw106
  | 11, _ => cw107
  | 12, _ => cw108
  | 13, _ => cw109
  | 14, _ => cw110
  | 15, _ => cw111
  | i + 16, h => absurd h (by omega)
theorem cwr_7 (i : Nat) (h : 16 * 7 + i < 128) : aGt lw_tbl (nth 0 (nth [] aCPL 7) i) = some (.code (aY (16 * 7 + i)) (aB (16 * 7 + i)) (aMl (16 * 7 + i)) (aRy (16 * 7 + i))) := match i, h with
  | 0, _ => cw112
  | 1, _ => cw113
  | 2, _ => cw114
  | 3, _ => cw115
  | 4, _ => cw116
  | 5, _ => cw117
  | 6, _ => cw118
  | 7, _ => cw119
  | 8, _ => cw120
  | 9, _ => cw121
  | 10, _ => cw122
  | 11, _ => cw123
  | 12, _ => cw124
  | 13, _ => cw125
  | 14, _ => cw126
  | 15, _ => cw127
  | i + 16, h => absurd h (by omega)
theorem cwr_8 (i : Nat) (h : 16 * 8 + i < 144) : aGt lw_tbl (nth 0 (nth [] aCPL 8) i) = some (.code (aY (16 * 8 + i)) (aB (16 * 8 + i)) (aMl (16 * 8 + i)) (aRy (16 * 8 + i))) := match i, h with
  | 0, _ => cw128
  | 1, _ => cw129
  | 2, _ => cw130
  | 3, _ => cw131
  | 4, _ => cw132
  | 5, _ => cw133
  | 6, _ => cw134
  | 7, _ => cw135
  | 8, _ => cw136
  | 9, _ => cw137
  | 10, _ => cw138
  | 11, _ => cw139
  | 12, _ => cw140
  | 13, _ => cw141
  | 14, _ => cw142
  | 15, _ => cw143
  | i + 16, h => absurd h (by omega)
theorem cwr_9 (i : Nat) (h : 16 * 9 + i < 160) : aGt lw_tbl (nth 0 (nth [] aCPL 9) i) = some (.code (aY (16 * 9 + i)) (aB (16 * 9 + i)) (aMl (16 * 9 + i)) (aRy (16 * 9 + i))) := match i, h with
  | 0, _ => cw144
  | 1, _ => cw145
  | 2, _ => cw146
  | 3, _ => cw147
  | 4, _ => cw148
  | 5, _ => cw149
  | 6, _ => cw150
  | 7, _ => cw151
  | 8, _ => cw152
  | 9, _ => cw153
  | 10, _ => cw154
  | 11, _ => cw155
  | 12, _ => cw156
  | 13, _ => cw157
  | 14, _ => cw158
  | 15, _ => cw159
  | i + 16, h => absurd h (by omega)
theorem cwr_10 (i : Nat) (h : 16 * 10 + i < 176) : aGt lw_tbl (nth 0 (nth [] aCPL 10) i) = some (.code (aY (16 * 10 + i)) (aB (16 * 10 + i)) (aMl (16 * 10 + i)) (aRy (16 * 10 + i))) := match i, h with
  | 0, _ => cw160
  | 1, _ => cw161
  | 2, _ => cw162
  | 3, _ => cw163
  | 4, _ => cw164
  | 5, _ => cw165
  | 6, _ => cw166
  | 7, _ => cw167
  | 8, _ => cw168
  | 9, _ => cw169
  | 10, _ => cw170
  | 11, _ => cw171
  | 12, _ => cw172
  | 13, _ => cw173
  | 14, _ => cw174
  | 15, _ => cw175
  | i + 16, h => absurd h (by omega)
theorem cwr_11 (i : Nat) (h : 16 * 11 + i < 192) : aGt lw_tbl (nth 0 (nth [] aCPL 11) i) = some (.code (aY (16 * 11 + i)) (aB (16 * 11 + i)) (aMl (16 * 11 + i)) (aRy (16 * 11 + i))) := match i, h with
  | 0, _ => cw176
  | 1, _ => cw177
  | 2, _ => cw178
  | 3, _ => cw179
  | 4, _ => cw180
  | 5, _ => cw181
  | 6, _ => cw182
  | 7, _ => cw183
  | 8, _ => cw184
  | 9, _ => cw185
  | 10, _ => cw186
  | 11, _ => cw187
  | 12, _ => cw188
  | 13, _ => cw189
  | 14, _ => cw190
  | 15, _ => cw191
  | i + 16, h => absurd h (by omega)
theorem cwr_12 (i : Nat) (h : 16 * 12 + i < 208) : aGt lw_tbl (nth 0 (nth [] aCPL 12) i) = some (.code (aY (16 * 12 + i)) (aB (16 * 12 + i)) (aMl (16 * 12 + i)) (aRy (16 * 12 + i))) := match i, h with
  | 0, _ => cw192
  | 1, _ => cw193
  | 2, _ => cw194
  | 3, _ => cw195
  | 4, _ => cw196
  | 5, _ => cw197
  | 6, _ => cw198
  | 7, _ => cw199
  | 8, _ => cw200
  | 9, _ => cw201
  | 10, _ => cw202
  | 11, _ => cw203
  | 12, _ => cw204
  | 13, _ => cw205
  | 14, _ => cw206
  | 15, _ => cw207
  | i + 16, h => absurd h (by omega)
theorem cwr_13 (i : Nat) (h : 16 * 13 + i < 224) : aGt lw_tbl (nth 0 (nth [] aCPL 13) i) = some (.code (aY (16 * 13 + i)) (aB (16 * 13 + i)) (aMl (16 * 13 + i)) (aRy (16 * 13 + i))) := match i, h with
  | 0, _ => cw208
  | 1, _ => cw209
  | 2, _ => cw210
  | 3, _ => cw211
  | 4, _ => cw212
  | 5, _ => cw213
  | 6, _ => cw214
  | 7, _ => cw215
  | 8, _ => cw216
  | 9, _ => cw217
  | 10, _ => cw218
  | 11, _ => cw219
  | 12, _ => cw220
  | 13, _ => cw221
  | 14, _ => cw222
  | 15, _ => cw223
  | i + 16, h => absurd h (by omega)
theorem cwr_14 (i : Nat) (h : 16 * 14 + i < 240) : aGt lw_tbl (nth 0 (nth [] aCPL 14) i) = some (.code (aY (16 * 14 + i)) (aB (16 * 14 + i)) (aMl (16 * 14 + i)) (aRy (16 * 14 + i))) := match i, h with
  | 0, _ => cw224
  | 1, _ => cw225
  | 2, _ => cw226
  | 3, _ => cw227
  | 4, _ => cw228
  | 5, _ => cw229
  | 6, _ => cw230
  | 7, _ => cw231
  | 8, _ => cw232
  | 9, _ => cw233
  | 10, _ => cw234
  | 11, _ => cw235
  | 12, _ => cw236
  | 13, _ => cw237
  | 14, _ => cw238
  | 15, _ => cw239
  | i + 16, h => absurd h (by omega)
theorem cwr_15 (i : Nat) (h : 16 * 15 + i < 256) : aGt lw_tbl (nth 0 (nth [] aCPL 15) i) = some (.code (aY (16 * 15 + i)) (aB (16 * 15 + i)) (aMl (16 * 15 + i)) (aRy (16 * 15 + i))) := match i, h with
  | 0, _ => cw240
  | 1, _ => cw241
  | 2, _ => cw242
  | 3, _ => cw243
  | 4, _ => cw244
  | 5, _ => cw245
  | 6, _ => cw246
  | 7, _ => cw247
  | 8, _ => cw248
  | 9, _ => cw249
  | 10, _ => cw250
  | 11, _ => cw251
  | 12, _ => cw252
  | 13, _ => cw253
  | 14, _ => cw254
  | 15, _ => cw255
  | i + 16, h => absurd h (by omega)
theorem cwr_16 (i : Nat) (h : 16 * 16 + i < 272) : aGt lw_tbl (nth 0 (nth [] aCPL 16) i) = some (.code (aY (16 * 16 + i)) (aB (16 * 16 + i)) (aMl (16 * 16 + i)) (aRy (16 * 16 + i))) := match i, h with
  | 0, _ => cw256
  | 1, _ => cw257
  | 2, _ => cw258
  | 3, _ => cw259
  | 4, _ => cw260
  | 5, _ => cw261
  | 6, _ => cw262
  | 7, _ => cw263
  | 8, _ => cw264
  | 9, _ => cw265
  | 10, _ => cw266
  | 11, _ => cw267
  | 12, _ => cw268
  | 13, _ => cw269
  | 14, _ => cw270
  | 15, _ => cw271
  | i + 16, h => absurd h (by omega)
theorem cwr_17 (i : Nat) (h : 16 * 17 + i < 276) : aGt lw_tbl (nth 0 (nth [] aCPL 17) i) = some (.code (aY (16 * 17 + i)) (aB (16 * 17 + i)) (aMl (16 * 17 + i)) (aRy (16 * 17 + i))) := match i, h with
  | 0, _ => cw272
  | 1, _ => cw273
  | 2, _ => cw274
  | 3, _ => cw275
  | i + 4, h => absurd h (by omega)
theorem cwr (c i : Nat) (hi : i < 16) (h : 16 * c + i < 276) : aGt lw_tbl (nth 0 (nth [] aCPL c) i) = some (.code (aY (16 * c + i)) (aB (16 * c + i)) (aMl (16 * c + i)) (aRy (16 * c + i))) := match c, h with
  | 0, h => cwr_0 i (by omega)
  | 1, h => cwr_1 i (by omega)
  | 2, h => cwr_2 i (by omega)
  | 3, h => cwr_3 i (by omega)
  | 4, h => cwr_4 i (by omega)
  | 5, h => cwr_5 i (by omega)
  | 6, h => cwr_6 i (by omega)
  | 7, h => cwr_7 i (by omega)
  | 8, h => cwr_8 i (by omega)
  | 9, h => cwr_9 i (by omega)
  | 10, h => cwr_10 i (by omega)
  | 11, h => cwr_11 i (by omega)
  | 12, h => cwr_12 i (by omega)
  | 13, h => cwr_13 i (by omega)
  | 14, h => cwr_14 i (by omega)
  | 15, h => cwr_15 i (by omega)
  | 16, h => cwr_16 i (by omega)
  | 17, h => cwr_17 i (by omega)
  | c + 18, h => absurd h (by omega)
theorem cw_all (j : Nat) (h : j < 276) : Jvm.Cond.code (aY j) (aB j) (aMl j) (aRy j) ∈ lw_tbl := by
  have h2 := cwr (j / 16) (j % 16) (Nat.mod_lt _ (by omega)) (by omega)
  rw [Nat.div_add_mod] at h2
  exact aGt_mem h2
set_option maxRecDepth 100000 in
theorem cm0 : aGt lw_tbl 917 = some (.code Lib.Math.max.name Lib.Math.max.code 2 (some .int)) := by decide +kernel
set_option maxRecDepth 100000 in
theorem cm1 : aGt lw_tbl 898 = some (.code Lib.Math.min.name Lib.Math.min.code 2 (some .int)) := by decide +kernel
set_option maxRecDepth 100000 in
theorem cm2 : aGt lw_tbl 1130 = some (.code Lib.Math.abs.name Lib.Math.abs.code 1 (some .int)) := by decide +kernel
set_option maxRecDepth 100000 in
theorem cm3 : aGt lw_tbl 1071 = some (.code Lib.MathLoose.max_long.x Lib.MathLoose.max_long.code 4 (some .long)) := by decide +kernel
set_option maxRecDepth 100000 in
theorem cm4 : aGt lw_tbl 1068 = some (.code Lib.MathLoose.min_long.x Lib.MathLoose.min_long.code 4 (some .long)) := by decide +kernel
end
