theorem md_a0 : ∀ k, 0 ≤ k → k < 50 → MdOK k := by
  intro k h1 h2
  obtain ⟨x, rfl⟩ : ∃ x, k = 0 + x := ⟨k - 0, by omega⟩
  have hx : x < 50 := by omega
  clear h1 h2
  match x, hx with
  | 0, _ => exact md0
  | 1, _ => exact md1
  | 2, _ => exact md2
  | 3, _ => exact md3
  | 4, _ => exact md4
  | 5, _ => exact md5
  | 6, _ => exact md6
  | 7, _ => exact md7
  | 8, _ => exact md8
  | 9, _ => exact md9
  | 10, _ => exact md10
  | 11, _ => exact md11
  | 12, _ => exact md12
  | 13, _ => exact md13
  | 14, _ => exact md14
  | 15, _ => exact md15
  | 16, _ => exact md16
  | 17, _ => exact md17
  | 18, _ => exact md18
  | 19, _ => exact md19
  | 20, _ => exact md20
  | 21, _ => exact md21
  | 22, _ => exact md22
  | 23, _ => exact md23
  | 24, _ => exact md24
  | 25, _ => exact md25
  | 26, _ => exact md26
  | 27, _ => exact md27
  | 28, _ => exact md28
  | 29, _ => exact md29
  | 30, _ => exact md30
  | 31, _ => exact md31
  | 32, _ => exact md32
  | 33, _ => exact md33
  | 34, _ => exact md34
  | 35, _ => exact md35
  | 36, _ => exact md36
  | 37, _ => exact md37
  | 38, _ => exact md38
  | 39, _ => exact md39
  | 40, _ => exact md40
  | 41, _ => exact md41
  | 42, _ => exact md42
  | 43, _ => exact md43
  | 44, _ => exact md44
  | 45, _ => exact md45
  | 46, _ => exact md46
  | 47, _ => exact md47
  | 48, _ => exact md48
  | 49, _ => exact md49
  | x + 50, hx => exact absurd hx (by omega)
theorem md_a50 : ∀ k, 50 ≤ k → k < 100 → MdOK k := by
  intro k h1 h2
  obtain ⟨x, rfl⟩ : ∃ x, k = 50 + x := ⟨k - 50, by omega⟩
  have hx : x < 50 := by omega
  clear h1 h2
  match x, hx with
  | 0, _ => exact md50
  | 1, _ => exact md51
  | 2, _ => exact md52
  | 3, _ => exact md53
  | 4, _ => exact md54
  | 5, _ => exact md55
  | 6, _ => exact md56
  | 7, _ => exact md57
  | 8, _ => exact md58
  | 9, _ => exact md59
  | 10, _ => exact md60
  | 11, _ => exact md61
  | 12, _ => exact md62
  | 13, _ => exact md63
  | 14, _ => exact md64
  | 15, _ => exact md65
  | 16, _ => exact md66
  | 17, _ => exact md67
  | 18, _ => exact md68
  | 19, _ => exact md69
  | 20, _ => exact md70
  | 21, _ => exact md71
  | 22, _ => exact md72
  | 23, _ => exact md73
  | 24, _ => exact md74
  | 25, _ => exact md75
  | 26, _ => exact md76
  | 27, _ => exact md77
  | 28, _ => exact md78
  | 29, _ => exact md79
  | 30, _ => exact md80
  | 31, _ => exact md81
  | 32, _ => exact md82
  | 33, _ => exact md83
  | 34, _ => exact md84
  | 35, _ => exact md85
  | 36, _ => exact md86
  | 37, _ => exact md87
  | 38, _ => exact md88
  | 39, _ => exact md89
  | 40, _ => exact md90
  | 41, _ => exact md91
  | 42, _ => exact md92
  | 43, _ => exact md93
  | 44, _ => exact md94
  | 45, _ => exact md95
  | 46, _ => exact md96
  | 47, _ => exact md97
  | 48, _ => exact md98
  | 49, _ => exact md99
  | x + 50, hx => exact absurd hx (by omega)
theorem md_a100 : ∀ k, 100 ≤ k → k < 150 → MdOK k := by
  intro k h1 h2
  obtain ⟨x, rfl⟩ : ∃ x, k = 100 + x := ⟨k - 100, by omega⟩
  have hx : x < 50 := by omega
  clear h1 h2
  match x, hx with
  | 0, _ => exact md100
  | 1, _ => exact md101
  | 2, _ => exact md102
  | 3, _ => exact md103
  | 4, _ => exact md104
  | 5, _ => exact md105
  | 6, _ => exact md106
  | 7, _ => exact md107
  | 8, _ => exact md108
  | 9, _ => exact md109
  | 10, _ => exact md110
  | 11, _ => exact md111
  | 12, _ => exact md112
  | 13, _ => exact md113
  | 14, _ => exact md114
  | 15, _ => exact md115
  | 16, _ => exact md116
  | 17, _ => exact md117
  | 18, _ => exact md118
  | 19, _ => exact md119
  | 20, _ => exact md120
  | 21, _ => exact md121
  | 22, _ => exact md122
  | 23, _ => exact md123
  | 24, _ => exact md124
  | 25, _ => exact md125
  | 26, _ => exact md126
  | 27, _ => exact md127
  | 28, _ => exact md128
  | 29, _ => exact md129
  | 30, _ => exact md130
  | 31, _ => exact md131
  | 32, _ => exact md132
  | 33, _ => exact md133
  | 34, _ => exact md134
  | 35, _ => exact md135
  | 36, _ => exact md136
  | 37, _ => exact md137
  | 38, _ => exact md138
  | 39, _ => exact md139
  | 40, _ => exact md140
  | 41, _ => exact md141
  | 42, _ => exact md142
  | 43, _ => exact md143
  | 44, _ => exact md144
  | 45, _ => exact md145
  | 46, _ => exact md146
  | 47, _ => exact md147
  | 48, _ => exact md148
  | 49, _ => exact md149
  | x + 50, hx => exact absurd hx (by omega)
theorem md_a150 : ∀ k, 150 ≤ k → k < 200 → MdOK k := by
  intro k h1 h2
  obtain ⟨x, rfl⟩ : ∃ x, k = 150 + x := ⟨k - 150, by omega⟩
  have hx : x < 50 := by omega
  clear h1 h2
  match x, hx with
  | 0, _ => exact md150
  | 1, _ => exact md151
  | 2, _ => exact md152
  | 3, _ => exact md153
  | 4, _ => exact md154
  | 5, _ => exact md155
  | 6, _ => exact md156
  | 7, _ => exact md157
  | 8, _ => exact md158
  | 9, _ => exact md159
  | 10, _ => exact md160
  | 11, _ => exact md161
  | 12, _ => exact md162
  | 13, _ => exact md163
  | 14, _ => exact md164
  | 15, _ => exact md165
  | 16, _ => exact md166
  | 17, _ => exact md167
  | 18, _ => exact md168
  | 19, _ => exact md169
  | 20, _ => exact md170
  | 21, _ => exact md171
  | 22, _ => exact md172
  | 23, _ => exact md173
  | 24, _ => exact md174
  | 25, _ => exact md175
  | 26, _ => exact md176
  | 27, _ => exact md177
  | 28, _ => exact md178
  | 29, _ => exact md179
  | 30, _ => exact md180
  | 31, _ => exact md181
  | 32, _ => exact md182
  | 33, _ => exact md183
  | 34, _ => exact md184
  | 35, _ => exact md185
  | 36, _ => exact md186
  | 37, _ => exact md187
  | 38, _ => exact md188
  | 39, _ => exact md189
  | 40, _ => exact md190
  | 41, _ => exact md191
  | 42, _ => exact md192
  | 43, _ => exact md193
  | 44, _ => exact md194
  | 45, _ => exact md195
  | 46, _ => exact md196
  | 47, _ => exact md197
  | 48, _ => exact md198
  | 49, _ => exact md199
  | x + 50, hx => exact absurd hx (by omega)
theorem md_a200 : ∀ k, 200 ≤ k → k < 250 → MdOK k := by
  intro k h1 h2
  obtain ⟨x, rfl⟩ : ∃ x, k = 200 + x := ⟨k - 200, by omega⟩
  have hx : x < 50 := by omega
  clear h1 h2
  match x, hx with
  | 0, _ => exact md200
  | 1, _ => exact md201
  | 2, _ => exact md202
  | 3, _ => exact md203
  | 4, _ => exact md204
  | 5, _ => exact md205
  | 6, _ => exact md206
  | 7, _ => exact md207
  | 8, _ => exact md208
  | 9, _ => exact md209
  | 10, _ => exact md210
  | 11, _ => exact md211
  | 12, _ => exact md212
  | 13, _ => exact md213
  | 14, _ => exact md214
  | 15, _ => exact md215
  | 16, _ => exact md216
  | 17, _ => exact md217
  | 18, _ => exact md218
  | 19, _ => exact md219
  | 20, _ => exact md220
  | 21, _ => exact md221
  | 22, _ => exact md222
  | 23, _ => exact md223
  | 24, _ => exact md224
  | 25, _ => exact md225
  | 26, _ => exact md226
  | 27, _ => exact md227
  | 28, _ => exact md228
  | 29, _ => exact md229
  | 30, _ => exact md230
  | 31, _ => exact md231
  | 32, _ => exact md232
  | 33, _ => exact md233
  | 34, _ => exact md234
  | 35, _ => exact md235
  | 36, _ => exact md236
  | 37, _ => exact md237
  | 38, _ => exact md238
  | 39, _ => exact md239
  | 40, _ => exact md240
  | 41, _ => exact md241
  | 42, _ => exact md242
  | 43, _ => exact md243
  | 44, _ => exact md244
  | 45, _ => exact md245
  | 46, _ => exact md246
  | 47, _ => exact md247
  | 48, _ => exact md248
  | 49, _ => exact md249
  | x + 50, hx => exact absurd hx (by omega)
theorem md_ok : ∀ k, k < 250 → MdOK k := by
  intro k h
  by_cases c0 : k < 50
  · exact md_a0 k (by omega) c0
  by_cases c50 : k < 100
  · exact md_a50 k (by omega) c50
  by_cases c100 : k < 150
  · exact md_a100 k (by omega) c100
  by_cases c150 : k < 200
  · exact md_a150 k (by omega) c150
  by_cases c200 : k < 250
  · exact md_a200 k (by omega) c200
  omega
theorem mc_a0 : ∀ k, 0 ≤ k → k < 50 → McOK k := by
  intro k h1 h2
  obtain ⟨x, rfl⟩ : ∃ x, k = 0 + x := ⟨k - 0, by omega⟩
  have hx : x < 50 := by omega
  clear h1 h2
  match x, hx with
  | 0, _ => exact mc0
  | 1, _ => exact mc1
  | 2, _ => exact mc2
  | 3, _ => exact mc3
  | 4, _ => exact mc4
  | 5, _ => exact mc5
  | 6, _ => exact mc6
  | 7, _ => exact mc7
  | 8, _ => exact mc8
  | 9, _ => exact mc9
  | 10, _ => exact mc10
  | 11, _ => exact mc11
  | 12, _ => exact mc12
  | 13, _ => exact mc13
  | 14, _ => exact mc14
  | 15, _ => exact mc15
  | 16, _ => exact mc16
  | 17, _ => exact mc17
  | 18, _ => exact mc18
  | 19, _ => exact mc19
  | 20, _ => exact mc20
  | 21, _ => exact mc21
  | 22, _ => exact mc22
  | 23, _ => exact mc23
  | 24, _ => exact mc24
  | 25, _ => exact mc25
  | 26, _ => exact mc26
  | 27, _ => exact mc27
  | 28, _ => exact mc28
  | 29, _ => exact mc29
  | 30, _ => exact mc30
  | 31, _ => exact mc31
  | 32, _ => exact mc32
  | 33, _ => exact mc33
  | 34, _ => exact mc34
  | 35, _ => exact mc35
  | 36, _ => exact mc36
  | 37, _ => exact mc37
  | 38, _ => exact mc38
  | 39, _ => exact mc39
  | 40, _ => exact mc40
  | 41, _ => exact mc41
  | 42, _ => exact mc42
  | 43, _ => exact mc43
  | 44, _ => exact mc44
  | 45, _ => exact mc45
  | 46, _ => exact mc46
  | 47, _ => exact mc47
  | 48, _ => exact mc48
  | 49, _ => exact mc49
  | x + 50, hx => exact absurd hx (by omega)
theorem mc_a50 : ∀ k, 50 ≤ k → k < 100 → McOK k := by
  intro k h1 h2
  obtain ⟨x, rfl⟩ : ∃ x, k = 50 + x := ⟨k - 50, by omega⟩
  have hx : x < 50 := by omega
  clear h1 h2
  match x, hx with
  | 0, _ => exact mc50
  | 1, _ => exact mc51
  | 2, _ => exact mc52
  | 3, _ => exact mc53
  | 4, _ => exact mc54
  | 5, _ => exact mc55
  | 6, _ => exact mc56
  | 7, _ => exact mc57
  | 8, _ => exact mc58
  | 9, _ => exact mc59
  | 10, _ => exact mc60
  | 11, _ => exact mc61
  | 12, _ => exact mc62
  | 13, _ => exact mc63
  | 14, _ => exact mc64
  | 15, _ => exact mc65
  | 16, _ => exact mc66
  | 17, _ => exact mc67
  | 18, _ => exact mc68
  | 19, _ => exact mc69
  | 20, _ => exact mc70
  | 21, _ => exact mc71
  | 22, _ => exact mc72
  | 23, _ => exact mc73
  | 24, _ => exact mc74
  | 25, _ => exact mc75
  | 26, _ => exact mc76
  | 27, _ => exact mc77
  | 28, _ => exact mc78
  | 29, _ => exact mc79
  | 30, _ => exact mc80
  | 31, _ => exact mc81
  | 32, _ => exact mc82
  | 33, _ => exact mc83
  | 34, _ => exact mc84
  | 35, _ => exact mc85
  | 36, _ => exact mc86
  | 37, _ => exact mc87
  | 38, _ => exact mc88
  | 39, _ => exact mc89
  | 40, _ => exact mc90
  | 41, _ => exact mc91
  | 42, _ => exact mc92
  | 43, _ => exact mc93
  | 44, _ => exact mc94
  | 45, _ => exact mc95
  | 46, _ => exact mc96
  | 47, _ => exact mc97
  | 48, _ => exact mc98
  | 49, _ => exact mc99
  | x + 50, hx => exact absurd hx (by omega)
theorem mc_a100 : ∀ k, 100 ≤ k → k < 150 → McOK k := by
  intro k h1 h2
  obtain ⟨x, rfl⟩ : ∃ x, k = 100 + x := ⟨k - 100, by omega⟩
  have hx : x < 50 := by omega
  clear h1 h2
  match x, hx with
  | 0, _ => exact mc100
  | 1, _ => exact mc101
  | 2, _ => exact mc102
  | 3, _ => exact mc103
  | 4, _ => exact mc104
  | 5, _ => exact mc105
  | 6, _ => exact mc106
  | 7, _ => exact mc107
  | 8, _ => exact mc108
  | 9, _ => exact mc109
  | 10, _ => exact mc110
  | 11, _ => exact mc111
  | 12, _ => exact mc112
  | 13, _ => exact mc113
  | 14, _ => exact mc114
  | 15, _ => exact mc115
  | 16, _ => exact mc116
  | 17, _ => exact mc117
  | 18, _ => exact mc118
  | 19, _ => exact mc119
  | 20, _ => exact mc120
  | 21, _ => exact mc121
  | 22, _ => exact mc122
  | 23, _ => exact mc123
  | 24, _ => exact mc124
  | 25, _ => exact mc125
  | 26, _ => exact mc126
  | 27, _ => exact mc127
  | 28, _ => exact mc128
  | 29, _ => exact mc129
  | 30, _ => exact mc130
  | 31, _ => exact mc131
  | 32, _ => exact mc132
  | 33, _ => exact mc133
  | 34, _ => exact mc134
  | 35, _ => exact mc135
  | 36, _ => exact mc136
  | 37, _ => exact mc137
  | 38, _ => exact mc138
  | 39, _ => exact mc139
  | 40, _ => exact mc140
  | 41, _ => exact mc141
  | 42, _ => exact mc142
  | 43, _ => exact mc143
  | 44, _ => exact mc144
  | 45, _ => exact mc145
  | 46, _ => exact mc146
  | 47, _ => exact mc147
  | 48, _ => exact mc148
  | 49, _ => exact mc149
  | x + 50, hx => exact absurd hx (by omega)
theorem mc_a150 : ∀ k, 150 ≤ k → k < 200 → McOK k := by
  intro k h1 h2
  obtain ⟨x, rfl⟩ : ∃ x, k = 150 + x := ⟨k - 150, by omega⟩
  have hx : x < 50 := by omega
  clear h1 h2
  match x, hx with
  | 0, _ => exact mc150
  | 1, _ => exact mc151
  | 2, _ => exact mc152
  | 3, _ => exact mc153
  | 4, _ => exact mc154
  | 5, _ => exact mc155
  | 6, _ => exact mc156
  | 7, _ => exact mc157
  | 8, _ => exact mc158
  | 9, _ => exact mc159
  | 10, _ => exact mc160
  | 11, _ => exact mc161
  | 12, _ => exact mc162
  | 13, _ => exact mc163
  | 14, _ => exact mc164
  | 15, _ => exact mc165
  | 16, _ => exact mc166
  | 17, _ => exact mc167
  | 18, _ => exact mc168
  | 19, _ => exact mc169
  | 20, _ => exact mc170
  | 21, _ => exact mc171
  | 22, _ => exact mc172
  | 23, _ => exact mc173
  | 24, _ => exact mc174
  | 25, _ => exact mc175
  | 26, _ => exact mc176
  | 27, _ => exact mc177
  | 28, _ => exact mc178
  | 29, _ => exact mc179
  | 30, _ => exact mc180
  | 31, _ => exact mc181
  | 32, _ => exact mc182
  | 33, _ => exact mc183
  | 34, _ => exact mc184
  | 35, _ => exact mc185
  | 36, _ => exact mc186
  | 37, _ => exact mc187
  | 38, _ => exact mc188
  | 39, _ => exact mc189
  | 40, _ => exact mc190
  | 41, _ => exact mc191
  | 42, _ => exact mc192
  | 43, _ => exact mc193
  | 44, _ => exact mc194
  | 45, _ => exact mc195
  | 46, _ => exact mc196
  | 47, _ => exact mc197
  | 48, _ => exact mc198
  | 49, _ => exact mc199
  | x + 50, hx => exact absurd hx (by omega)
theorem mc_a200 : ∀ k, 200 ≤ k → k < 250 → McOK k := by
  intro k h1 h2
  obtain ⟨x, rfl⟩ : ∃ x, k = 200 + x := ⟨k - 200, by omega⟩
  have hx : x < 50 := by omega
  clear h1 h2
  match x, hx with
  | 0, _ => exact mc200
  | 1, _ => exact mc201
  | 2, _ => exact mc202
  | 3, _ => exact mc203
  | 4, _ => exact mc204
  | 5, _ => exact mc205
  | 6, _ => exact mc206
  | 7, _ => exact mc207
  | 8, _ => exact mc208
  | 9, _ => exact mc209
  | 10, _ => exact mc210
  | 11, _ => exact mc211
  | 12, _ => exact mc212
  | 13, _ => exact mc213
  | 14, _ => exact mc214
  | 15, _ => exact mc215
  | 16, _ => exact mc216
  | 17, _ => exact mc217
  | 18, _ => exact mc218
  | 19, _ => exact mc219
  | 20, _ => exact mc220
  | 21, _ => exact mc221
  | 22, _ => exact mc222
  | 23, _ => exact mc223
  | 24, _ => exact mc224
  | 25, _ => exact mc225
  | 26, _ => exact mc226
  | 27, _ => exact mc227
  | 28, _ => exact mc228
  | 29, _ => exact mc229
  | 30, _ => exact mc230
  | 31, _ => exact mc231
  | 32, _ => exact mc232
  | 33, _ => exact mc233
  | 34, _ => exact mc234
  | 35, _ => exact mc235
  | 36, _ => exact mc236
  | 37, _ => exact mc237
  | 38, _ => exact mc238
  | 39, _ => exact mc239
  | 40, _ => exact mc240
  | 41, _ => exact mc241
  | 42, _ => exact mc242
  | 43, _ => exact mc243
  | 44, _ => exact mc244
  | 45, _ => exact mc245
  | 46, _ => exact mc246
  | 47, _ => exact mc247
  | 48, _ => exact mc248
  | 49, _ => exact mc249
  | x + 50, hx => exact absurd hx (by omega)
theorem mc_ok : ∀ k, k < 250 → McOK k := by
  intro k h
  by_cases c0 : k < 50
  · exact mc_a0 k (by omega) c0
  by_cases c50 : k < 100
  · exact mc_a50 k (by omega) c50
  by_cases c100 : k < 150
  · exact mc_a100 k (by omega) c100
  by_cases c150 : k < 200
  · exact mc_a150 k (by omega) c150
  by_cases c200 : k < 250
  · exact mc_a200 k (by omega) c200
  omega
theorem cw_a0 : ∀ k, 0 ≤ k → k < 50 → Cond.code (yyN k) (cdN k) (ML k) (rtN k) ∈ lw_tbl := by
  intro k h1 h2
  obtain ⟨x, rfl⟩ : ∃ x, k = 0 + x := ⟨k - 0, by omega⟩
  have hx : x < 50 := by omega
  clear h1 h2
  match x, hx with
  | 0, _ => exact cw0
  | 1, _ => exact cw1
  | 2, _ => exact cw2
  | 3, _ => exact cw3
  | 4, _ => exact cw4
  | 5, _ => exact cw5
  | 6, _ => exact cw6
  | 7, _ => exact cw7
  | 8, _ => exact cw8
  | 9, _ => exact cw9
  | 10, _ => exact cw10
  | 11, _ => exact cw11
  | 12, _ => exact cw12
  | 13, _ => exact cw13
  | 14, _ => exact cw14
  | 15, _ => exact cw15
  | 16, _ => exact cw16
  | 17, _ => exact cw17
  | 18, _ => exact cw18
  | 19, _ => exact cw19
  | 20, _ => exact cw20
  | 21, _ => exact cw21
  | 22, _ => exact cw22
  | 23, _ => exact cw23
  | 24, _ => exact cw24
  | 25, _ => exact cw25
  | 26, _ => exact cw26
  | 27, _ => exact cw27
  | 28, _ => exact cw28
  | 29, _ => exact cw29
  | 30, _ => exact cw30
  | 31, _ => exact cw31
  | 32, _ => exact cw32
  | 33, _ => exact cw33
  | 34, _ => exact cw34
  | 35, _ => exact cw35
  | 36, _ => exact cw36
  | 37, _ => exact cw37
  | 38, _ => exact cw38
  | 39, _ => exact cw39
  | 40, _ => exact cw40
  | 41, _ => exact cw41
  | 42, _ => exact cw42
  | 43, _ => exact cw43
  | 44, _ => exact cw44
  | 45, _ => exact cw45
  | 46, _ => exact cw46
  | 47, _ => exact cw47
  | 48, _ => exact cw48
  | 49, _ => exact cw49
  | x + 50, hx => exact absurd hx (by omega)
theorem cw_a50 : ∀ k, 50 ≤ k → k < 100 → Cond.code (yyN k) (cdN k) (ML k) (rtN k) ∈ lw_tbl := by
  intro k h1 h2
  obtain ⟨x, rfl⟩ : ∃ x, k = 50 + x := ⟨k - 50, by omega⟩
  have hx : x < 50 := by omega
  clear h1 h2
  match x, hx with
  | 0, _ => exact cw50
  | 1, _ => exact cw51
  | 2, _ => exact cw52
  | 3, _ => exact cw53
  | 4, _ => exact cw54
  | 5, _ => exact cw55
  | 6, _ => exact cw56
  | 7, _ => exact cw57
  | 8, _ => exact cw58
  | 9, _ => exact cw59
  | 10, _ => exact cw60
  | 11, _ => exact cw61
  | 12, _ => exact cw62
  | 13, _ => exact cw63
  | 14, _ => exact cw64
  | 15, _ => exact cw65
  | 16, _ => exact cw66
  | 17, _ => exact cw67
  | 18, _ => exact cw68
  | 19, _ => exact cw69
  | 20, _ => exact cw70
  | 21, _ => exact cw71
  | 22, _ => exact cw72
  | 23, _ => exact cw73
  | 24, _ => exact cw74
  | 25, _ => exact cw75
  | 26, _ => exact cw76
  | 27, _ => exact cw77
  | 28, _ => exact cw78
  | 29, _ => exact cw79
  | 30, _ => exact cw80
  | 31, _ => exact cw81
  | 32, _ => exact cw82
  | 33, _ => exact cw83
  | 34, _ => exact cw84
  | 35, _ => exact cw85
  | 36, _ => exact cw86
  | 37, _ => exact cw87
  | 38, _ => exact cw88
  | 39, _ => exact cw89
  | 40, _ => exact cw90
  | 41, _ => exact cw91
  | 42, _ => exact cw92
  | 43, _ => exact cw93
  | 44, _ => exact cw94
  | 45, _ => exact cw95
  | 46, _ => exact cw96
  | 47, _ => exact cw97
  | 48, _ => exact cw98
  | 49, _ => exact cw99
  | x + 50, hx => exact absurd hx (by omega)
theorem cw_a100 : ∀ k, 100 ≤ k → k < 150 → Cond.code (yyN k) (cdN k) (ML k) (rtN k) ∈ lw_tbl := by
  intro k h1 h2
  obtain ⟨x, rfl⟩ : ∃ x, k = 100 + x := ⟨k - 100, by omega⟩
  have hx : x < 50 := by omega
  clear h1 h2
  match x, hx with
  | 0, _ => exact cw100
  | 1, _ => exact cw101
  | 2, _ => exact cw102
  | 3, _ => exact cw103
  | 4, _ => exact cw104
  | 5, _ => exact cw105
  | 6, _ => exact cw106
  | 7, _ => exact cw107
  | 8, _ => exact cw108
  | 9, _ => exact cw109
  | 10, _ => exact cw110
  | 11, _ => exact cw111
  | 12, _ => exact cw112
  | 13, _ => exact cw113
  | 14, _ => exact cw114
  | 15, _ => exact cw115
  | 16, _ => exact cw116
  | 17, _ => exact cw117
  | 18, _ => exact cw118
  | 19, _ => exact cw119
  | 20, _ => exact cw120
  | 21, _ => exact cw121
  | 22, _ => exact cw122
  | 23, _ => exact cw123
  | 24, _ => exact cw124
  | 25, _ => exact cw125
  | 26, _ => exact cw126
  | 27, _ => exact cw127
  | 28, _ => exact cw128
  | 29, _ => exact cw129
  | 30, _ => exact cw130
  | 31, _ => exact cw131
  | 32, _ => exact cw132
  | 33, _ => exact cw133
  | 34, _ => exact cw134
  | 35, _ => exact cw135
  | 36, _ => exact cw136
  | 37, _ => exact cw137
  | 38, _ => exact cw138
  | 39, _ => exact cw139
  | 40, _ => exact cw140
  | 41, _ => exact cw141
  | 42, _ => exact cw142
  | 43, _ => exact cw143
  | 44, _ => exact cw144
  | 45, _ => exact cw145
  | 46, _ => exact cw146
  | 47, _ => exact cw147
  | 48, _ => exact cw148
  | 49, _ => exact cw149
  | x + 50, hx => exact absurd hx (by omega)
theorem cw_a150 : ∀ k, 150 ≤ k → k < 200 → Cond.code (yyN k) (cdN k) (ML k) (rtN k) ∈ lw_tbl := by
  intro k h1 h2
  obtain ⟨x, rfl⟩ : ∃ x, k = 150 + x := ⟨k - 150, by omega⟩
  have hx : x < 50 := by omega
  clear h1 h2
  match x, hx with
  | 0, _ => exact cw150
  | 1, _ => exact cw151
  | 2, _ => exact cw152
  | 3, _ => exact cw153
  | 4, _ => exact cw154
  | 5, _ => exact cw155
  | 6, _ => exact cw156
  | 7, _ => exact cw157
  | 8, _ => exact cw158
  | 9, _ => exact cw159
  | 10, _ => exact cw160
  | 11, _ => exact cw161
  | 12, _ => exact cw162
  | 13, _ => exact cw163
  | 14, _ => exact cw164
  | 15, _ => exact cw165
  | 16, _ => exact cw166
  | 17, _ => exact cw167
  | 18, _ => exact cw168
  | 19, _ => exact cw169
  | 20, _ => exact cw170
  | 21, _ => exact cw171
  | 22, _ => exact cw172
  | 23, _ => exact cw173
  | 24, _ => exact cw174
  | 25, _ => exact cw175
  | 26, _ => exact cw176
  | 27, _ => exact cw177
  | 28, _ => exact cw178
  | 29, _ => exact cw179
  | 30, _ => exact cw180
  | 31, _ => exact cw181
  | 32, _ => exact cw182
  | 33, _ => exact cw183
  | 34, _ => exact cw184
  | 35, _ => exact cw185
  | 36, _ => exact cw186
  | 37, _ => exact cw187
  | 38, _ => exact cw188
  | 39, _ => exact cw189
  | 40, _ => exact cw190
  | 41, _ => exact cw191
  | 42, _ => exact cw192
  | 43, _ => exact cw193
  | 44, _ => exact cw194
  | 45, _ => exact cw195
  | 46, _ => exact cw196
  | 47, _ => exact cw197
  | 48, _ => exact cw198
  | 49, _ => exact cw199
  | x + 50, hx => exact absurd hx (by omega)
theorem cw_a200 : ∀ k, 200 ≤ k → k < 249 → Cond.code (yyN k) (cdN k) (ML k) (rtN k) ∈ lw_tbl := by
  intro k h1 h2
  obtain ⟨x, rfl⟩ : ∃ x, k = 200 + x := ⟨k - 200, by omega⟩
  have hx : x < 49 := by omega
  clear h1 h2
  match x, hx with
  | 0, _ => exact cw200
  | 1, _ => exact cw201
  | 2, _ => exact cw202
  | 3, _ => exact cw203
  | 4, _ => exact cw204
  | 5, _ => exact cw205
  | 6, _ => exact cw206
  | 7, _ => exact cw207
  | 8, _ => exact cw208
  | 9, _ => exact cw209
  | 10, _ => exact cw210
  | 11, _ => exact cw211
  | 12, _ => exact cw212
  | 13, _ => exact cw213
  | 14, _ => exact cw214
  | 15, _ => exact cw215
  | 16, _ => exact cw216
  | 17, _ => exact cw217
  | 18, _ => exact cw218
  | 19, _ => exact cw219
  | 20, _ => exact cw220
  | 21, _ => exact cw221
  | 22, _ => exact cw222
  | 23, _ => exact cw223
  | 24, _ => exact cw224
  | 25, _ => exact cw225
  | 26, _ => exact cw226
  | 27, _ => exact cw227
  | 28, _ => exact cw228
  | 29, _ => exact cw229
  | 30, _ => exact cw230
  | 31, _ => exact cw231
  | 32, _ => exact cw232
  | 33, _ => exact cw233
  | 34, _ => exact cw234
  | 35, _ => exact cw235
  | 36, _ => exact cw236
  | 37, _ => exact cw237
  | 38, _ => exact cw238
  | 39, _ => exact cw239
  | 40, _ => exact cw240
  | 41, _ => exact cw241
  | 42, _ => exact cw242
  | 43, _ => exact cw243
  | 44, _ => exact cw244
  | 45, _ => exact cw245
  | 46, _ => exact cw246
  | 47, _ => exact cw247
  | 48, _ => exact cw248
  | x + 49, hx => exact absurd hx (by omega)
theorem cw_ok : ∀ k, k < 249 → Cond.code (yyN k) (cdN k) (ML k) (rtN k) ∈ lw_tbl := by
  intro k h
  by_cases c0 : k < 50
  · exact cw_a0 k (by omega) c0
  by_cases c50 : k < 100
  · exact cw_a50 k (by omega) c50
  by_cases c100 : k < 150
  · exact cw_a100 k (by omega) c100
  by_cases c150 : k < 200
  · exact cw_a150 k (by omega) c150
  by_cases c200 : k < 249
  · exact cw_a200 k (by omega) c200
  omega
