theorem q_cgB0 : ∀ k, k < 16 → q_ck (0 + k) = true := fun k h => match k, h with
  | 0, _ => q_ck0
  | 1, _ => q_ck1
  | 2, _ => q_ck2
  | 3, _ => q_ck3
  | 4, _ => q_ck4
  | 5, _ => q_ck5
  | 6, _ => q_ck6
  | 7, _ => q_ck7
  | 8, _ => q_ck8
  | 9, _ => q_ck9
  | 10, _ => q_ck10
  | 11, _ => q_ck11
  | 12, _ => q_ck12
  | 13, _ => q_ck13
  | 14, _ => q_ck14
  | 15, _ => q_ck15
  | k + 16, h => absurd h (by omega)
theorem q_cgB1 : ∀ k, k < 16 → q_ck (16 + k) = true := fun k h => match k, h with
  | 0, _ => q_ck16
  | 1, _ => q_ck17
  | 2, _ => q_ck18
  | 3, _ => q_ck19
  | 4, _ => q_ck20
  | 5, _ => q_ck21
  | 6, _ => q_ck22
  | 7, _ => q_ck23
  | 8, _ => q_ck24
  | 9, _ => q_ck25
  | 10, _ => q_ck26
  | 11, _ => q_ck27
  | 12, _ => q_ck28
  | 13, _ => q_ck29
  | 14, _ => q_ck30
  | 15, _ => q_ck31
  | k + 16, h => absurd h (by omega)
theorem q_cgB2 : ∀ k, k < 16 → q_ck (32 + k) = true := fun k h => match k, h with
  | 0, _ => q_ck32
  | 1, _ => q_ck33
  | 2, _ => q_ck34
  | 3, _ => q_ck35
  | 4, _ => q_ck36
  | 5, _ => q_ck37
  | 6, _ => q_ck38
  | 7, _ => q_ck39
  | 8, _ => q_ck40
  | 9, _ => q_ck41
  | 10, _ => q_ck42
  | 11, _ => q_ck43
  | 12, _ => q_ck44
  | 13, _ => q_ck45
  | 14, _ => q_ck46
  | 15, _ => q_ck47
  | k + 16, h => absurd h (by omega)
theorem q_cgB3 : ∀ k, k < 16 → q_ck (48 + k) = true := fun k h => match k, h with
  | 0, _ => q_ck48
  | 1, _ => q_ck49
  | 2, _ => q_ck50
  | 3, _ => q_ck51
  | 4, _ => q_ck52
  | 5, _ => q_ck53
  | 6, _ => q_ck54
  | 7, _ => q_ck55
  | 8, _ => q_ck56
  | 9, _ => q_ck57
  | 10, _ => q_ck58
  | 11, _ => q_ck59
  | 12, _ => q_ck60
  | 13, _ => q_ck61
  | 14, _ => q_ck62
  | 15, _ => q_ck63
  | k + 16, h => absurd h (by omega)
theorem q_cgB4 : ∀ k, k < 16 → q_ck (64 + k) = true := fun k h => match k, h with
  | 0, _ => q_ck64
  | 1, _ => q_ck65
  | 2, _ => q_ck66
  | 3, _ => q_ck67
  | 4, _ => q_ck68
  | 5, _ => q_ck69
  | 6, _ => q_ck70
  | 7, _ => q_ck71
  | 8, _ => q_ck72
  | 9, _ => q_ck73
  | 10, _ => q_ck74
  | 11, _ => q_ck75
  | 12, _ => q_ck76
  | 13, _ => q_ck77
  | 14, _ => q_ck78
  | 15, _ => q_ck79
  | k + 16, h => absurd h (by omega)
theorem q_cgB5 : ∀ k, k < 16 → q_ck (80 + k) = true := fun k h => match k, h with
  | 0, _ => q_ck80
  | 1, _ => q_ck81
  | 2, _ => q_ck82
  | 3, _ => q_ck83
  | 4, _ => q_ck84
  | 5, _ => q_ck85
  | 6, _ => q_ck86
  | 7, _ => q_ck87
  | 8, _ => q_ck88
  | 9, _ => q_ck89
  | 10, _ => q_ck90
  | 11, _ => q_ck91
  | 12, _ => q_ck92
  | 13, _ => q_ck93
  | 14, _ => q_ck94
  | 15, _ => q_ck95
  | k + 16, h => absurd h (by omega)
theorem q_cgB6 : ∀ k, k < 16 → q_ck (96 + k) = true := fun k h => match k, h with
  | 0, _ => q_ck96
  | 1, _ => q_ck97
  | 2, _ => q_ck98
  | 3, _ => q_ck99
  | 4, _ => q_ck100
  | 5, _ => q_ck101
  | 6, _ => q_ck102
  | 7, _ => q_ck103
  | 8, _ => q_ck104
  | 9, _ => q_ck105
  | 10, _ => q_ck106
  | 11, _ => q_ck107
  | 12, _ => q_ck108
  | 13, _ => q_ck109
  | 14, _ => q_ck110
  | 15, _ => q_ck111
  | k + 16, h => absurd h (by omega)
theorem q_cgB7 : ∀ k, k < 16 → q_ck (112 + k) = true := fun k h => match k, h with
  | 0, _ => q_ck112
  | 1, _ => q_ck113
  | 2, _ => q_ck114
  | 3, _ => q_ck115
  | 4, _ => q_ck116
  | 5, _ => q_ck117
  | 6, _ => q_ck118
  | 7, _ => q_ck119
  | 8, _ => q_ck120
  | 9, _ => q_ck121
  | 10, _ => q_ck122
  | 11, _ => q_ck123
  | 12, _ => q_ck124
  | 13, _ => q_ck125
  | 14, _ => q_ck126
  | 15, _ => q_ck127
  | k + 16, h => absurd h (by omega)
theorem q_cgB8 : ∀ k, k < 16 → q_ck (128 + k) = true := fun k h => match k, h with
  | 0, _ => q_ck128
  | 1, _ => q_ck129
  | 2, _ => q_ck130
  | 3, _ => q_ck131
  | 4, _ => q_ck132
  | 5, _ => q_ck133
  | 6, _ => q_ck134
  | 7, _ => q_ck135
  | 8, _ => q_ck136
  | 9, _ => q_ck137
  | 10, _ => q_ck138
  | 11, _ => q_ck139
  | 12, _ => q_ck140
  | 13, _ => q_ck141
  | 14, _ => q_ck142
  | 15, _ => q_ck143
  | k + 16, h => absurd h (by omega)
theorem q_cgB9 : ∀ k, k < 16 → q_ck (144 + k) = true := fun k h => match k, h with
  | 0, _ => q_ck144
  | 1, _ => q_ck145
  | 2, _ => q_ck146
  | 3, _ => q_ck147
  | 4, _ => q_ck148
  | 5, _ => q_ck149
  | 6, _ => q_ck150
  | 7, _ => q_ck151
  | 8, _ => q_ck152
  | 9, _ => q_ck153
  | 10, _ => q_ck154
  | 11, _ => q_ck155
  | 12, _ => q_ck156
  | 13, _ => q_ck157
  | 14, _ => q_ck158
  | 15, _ => q_ck159
  | k + 16, h => absurd h (by omega)
theorem q_cgB10 : ∀ k, k < 16 → q_ck (160 + k) = true := fun k h => match k, h with
  | 0, _ => q_ck160
  | 1, _ => q_ck161
  | 2, _ => q_ck162
  | 3, _ => q_ck163
  | 4, _ => q_ck164
  | 5, _ => q_ck165
  | 6, _ => q_ck166
  | 7, _ => q_ck167
  | 8, _ => q_ck168
  | 9, _ => q_ck169
  | 10, _ => q_ck170
  | 11, _ => q_ck171
  | 12, _ => q_ck172
  | 13, _ => q_ck173
  | 14, _ => q_ck174
  | 15, _ => q_ck175
  | k + 16, h => absurd h (by omega)
theorem q_cgB11 : ∀ k, k < 16 → q_ck (176 + k) = true := fun k h => match k, h with
  | 0, _ => q_ck176
  | 1, _ => q_ck177
  | 2, _ => q_ck178
  | 3, _ => q_ck179
  | 4, _ => q_ck180
  | 5, _ => q_ck181
  | 6, _ => q_ck182
  | 7, _ => q_ck183
  | 8, _ => q_ck184
  | 9, _ => q_ck185
  | 10, _ => q_ck186
  | 11, _ => q_ck187
  | 12, _ => q_ck188
  | 13, _ => q_ck189
  | 14, _ => q_ck190
  | 15, _ => q_ck191
  | k + 16, h => absurd h (by omega)
theorem q_cgB12 : ∀ k, k < 16 → q_ck (192 + k) = true := fun k h => match k, h with
  | 0, _ => q_ck192
  | 1, _ => q_ck193
  | 2, _ => q_ck194
  | 3, _ => q_ck195
  | 4, _ => q_ck196
  | 5, _ => q_ck197
  | 6, _ => q_ck198
  | 7, _ => q_ck199
  | 8, _ => q_ck200
  | 9, _ => q_ck201
  | 10, _ => q_ck202
  | 11, _ => q_ck203
  | 12, _ => q_ck204
  | 13, _ => q_ck205
  | 14, _ => q_ck206
  | 15, _ => q_ck207
  | k + 16, h => absurd h (by omega)
theorem q_cgB13 : ∀ k, k < 16 → q_ck (208 + k) = true := fun k h => match k, h with
  | 0, _ => q_ck208
  | 1, _ => q_ck209
  | 2, _ => q_ck210
  | 3, _ => q_ck211
  | 4, _ => q_ck212
  | 5, _ => q_ck213
  | 6, _ => q_ck214
  | 7, _ => q_ck215
  | 8, _ => q_ck216
  | 9, _ => q_ck217
  | 10, _ => q_ck218
  | 11, _ => q_ck219
  | 12, _ => q_ck220
  | 13, _ => q_ck221
  | 14, _ => q_ck222
  | 15, _ => q_ck223
  | k + 16, h => absurd h (by omega)
theorem q_cgB14 : ∀ k, k < 2 → q_ck (224 + k) = true := fun k h => match k, h with
  | 0, _ => q_ck224
  | 1, _ => q_ck225
  | k + 2, h => absurd h (by omega)
theorem q_cg (j : Nat) (h : j < 226) : q_ck j = true := by
  have e : j = 16 * (j / 16) + j % 16 := by omega
  have h1 : j % 16 < 16 := by omega
  have h2 : j / 16 < 15 := by omega
  rw [e]
  rw [e] at h
  generalize j / 16 = a at *
  generalize j % 16 = b at *
  clear e
  match a, h2 with
  | 0, _ => exact q_cgB0 b (by omega)
  | 1, _ => exact q_cgB1 b (by omega)
  | 2, _ => exact q_cgB2 b (by omega)
  | 3, _ => exact q_cgB3 b (by omega)
  | 4, _ => exact q_cgB4 b (by omega)
  | 5, _ => exact q_cgB5 b (by omega)
  | 6, _ => exact q_cgB6 b (by omega)
  | 7, _ => exact q_cgB7 b (by omega)
  | 8, _ => exact q_cgB8 b (by omega)
  | 9, _ => exact q_cgB9 b (by omega)
  | 10, _ => exact q_cgB10 b (by omega)
  | 11, _ => exact q_cgB11 b (by omega)
  | 12, _ => exact q_cgB12 b (by omega)
  | 13, _ => exact q_cgB13 b (by omega)
  | 14, _ => exact q_cgB14 b (by omega)
theorem q_clB0 : ∀ k, k < 16 → q_ckB 226 (0 + k) = true := fun k h => match k, h with
  | 0, _ => q_ckL0
  | 1, _ => q_ckL1
  | 2, _ => q_ckL2
  | 3, _ => q_ckL3
  | 4, _ => q_ckL4
  | 5, _ => q_ckL5
  | 6, _ => q_ckL6
  | 7, _ => q_ckL7
  | 8, _ => q_ckL8
  | 9, _ => q_ckL9
  | 10, _ => q_ckL10
  | 11, _ => q_ckL11
  | 12, _ => q_ckL12
  | 13, _ => q_ckL13
  | 14, _ => q_ckL14
  | 15, _ => q_ckL15
  | k + 16, h => absurd h (by omega)
theorem q_clB1 : ∀ k, k < 16 → q_ckB 226 (16 + k) = true := fun k h => match k, h with
  | 0, _ => q_ckL16
  | 1, _ => q_ckL17
  | 2, _ => q_ckL18
  | 3, _ => q_ckL19
  | 4, _ => q_ckL20
  | 5, _ => q_ckL21
  | 6, _ => q_ckL22
  | 7, _ => q_ckL23
  | 8, _ => q_ckL24
  | 9, _ => q_ckL25
  | 10, _ => q_ckL26
  | 11, _ => q_ckL27
  | 12, _ => q_ckL28
  | 13, _ => q_ckL29
  | 14, _ => q_ckL30
  | 15, _ => q_ckL31
  | k + 16, h => absurd h (by omega)
theorem q_clB2 : ∀ k, k < 16 → q_ckB 226 (32 + k) = true := fun k h => match k, h with
  | 0, _ => q_ckL32
  | 1, _ => q_ckL33
  | 2, _ => q_ckL34
  | 3, _ => q_ckL35
  | 4, _ => q_ckL36
  | 5, _ => q_ckL37
  | 6, _ => q_ckL38
  | 7, _ => q_ckL39
  | 8, _ => q_ckL40
  | 9, _ => q_ckL41
  | 10, _ => q_ckL42
  | 11, _ => q_ckL43
  | 12, _ => q_ckL44
  | 13, _ => q_ckL45
  | 14, _ => q_ckL46
  | 15, _ => q_ckL47
  | k + 16, h => absurd h (by omega)
theorem q_clB3 : ∀ k, k < 16 → q_ckB 226 (48 + k) = true := fun k h => match k, h with
  | 0, _ => q_ckL48
  | 1, _ => q_ckL49
  | 2, _ => q_ckL50
  | 3, _ => q_ckL51
  | 4, _ => q_ckL52
  | 5, _ => q_ckL53
  | 6, _ => q_ckL54
  | 7, _ => q_ckL55
  | 8, _ => q_ckL56
  | 9, _ => q_ckL57
  | 10, _ => q_ckL58
  | 11, _ => q_ckL59
  | 12, _ => q_ckL60
  | 13, _ => q_ckL61
  | 14, _ => q_ckL62
  | 15, _ => q_ckL63
  | k + 16, h => absurd h (by omega)
theorem q_clB4 : ∀ k, k < 16 → q_ckB 226 (64 + k) = true := fun k h => match k, h with
  | 0, _ => q_ckL64
  | 1, _ => q_ckL65
  | 2, _ => q_ckL66
  | 3, _ => q_ckL67
  | 4, _ => q_ckL68
  | 5, _ => q_ckL69
  | 6, _ => q_ckL70
  | 7, _ => q_ckL71
  | 8, _ => q_ckL72
  | 9, _ => q_ckL73
  | 10, _ => q_ckL74
  | 11, _ => q_ckL75
  | 12, _ => q_ckL76
  | 13, _ => q_ckL77
  | 14, _ => q_ckL78
  | 15, _ => q_ckL79
  | k + 16, h => absurd h (by omega)
theorem q_clB5 : ∀ k, k < 12 → q_ckB 226 (80 + k) = true := fun k h => match k, h with
  | 0, _ => q_ckL80
  | 1, _ => q_ckL81
  | 2, _ => q_ckL82
  | 3, _ => q_ckL83
  | 4, _ => q_ckL84
  | 5, _ => q_ckL85
  | 6, _ => q_ckL86
  | 7, _ => q_ckL87
  | 8, _ => q_ckL88
  | 9, _ => q_ckL89
  | 10, _ => q_ckL90
  | 11, _ => q_ckL91
  | k + 12, h => absurd h (by omega)
theorem q_clg (c : Nat) (h : c < 92) : q_ckB 226 c = true := by
  have e : c = 16 * (c / 16) + c % 16 := by omega
  have h1 : c % 16 < 16 := by omega
  have h2 : c / 16 < 6 := by omega
  rw [e]
  rw [e] at h
  generalize c / 16 = a at *
  generalize c % 16 = b at *
  clear e
  match a, h2 with
  | 0, _ => exact q_clB0 b (by omega)
  | 1, _ => exact q_clB1 b (by omega)
  | 2, _ => exact q_clB2 b (by omega)
  | 3, _ => exact q_clB3 b (by omega)
  | 4, _ => exact q_clB4 b (by omega)
  | 5, _ => exact q_clB5 b (by omega)
theorem q_fe_lt {j pc : Nat} {e : q_In} (h : q_fe j pc = some e) : pc / 16 < q_len j := by
  rcases Nat.lt_or_ge (pc / 16) (q_len j) with h1 | h1
  · exact h1
  · unfold q_fe at h
    unfold q_len at h1
    have e1 : ((q_fs.getD (j / 16) []).getD (j % 16) []).getD (pc / 16) [] = [] := by
      rw [List.getD_eq_getElem?_getD, List.getElem?_eq_none h1]
      rfl
    rw [e1] at h
    simp at h
theorem q_ckI_all : ∀ j, j < 227 → ∀ pc e, q_fe j pc = some e → q_ckI j pc e = true := by
  intro j hj pc e he
  have h1 := q_fe_lt he
  by_cases hl : j < 226
  · have h2 := q_cg j hl
    unfold q_ck at h2
    have h3 := List.all_eq_true.mp h2 pc (List.mem_range.mpr (by omega))
    rw [he] at h3
    exact h3
  · have e1 : j = 226 := by omega
    subst e1
    have e2 : q_len 226 = 92 := by decide +kernel
    rw [e2] at h1
    have h2 := q_clg (pc / 16) h1
    unfold q_ckB at h2
    have h3 := List.all_eq_true.mp h2 (pc % 16) (List.mem_range.mpr (by omega))
    have e3 : 16 * (pc / 16) + pc % 16 = pc := by omega
    rw [e3, he] at h3
    exact h3
