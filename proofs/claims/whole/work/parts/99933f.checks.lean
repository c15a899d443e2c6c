theorem snLwL : 16 * (zmAt [] zmCodeT 0).length = 2240 := by decide +kernel
theorem snLwF : snAllF 0 0 = true := by
  unfold snAllF
  rw [snLwL]
  refine List.all_eq_true.mpr (fun pc hpc => ?_)
  have h := List.mem_range.mp hpc
  have key : ∀ g : Nat, ((List.range 187).all fun j => snPcF 0 0 (g + j)) = true → g ≤ pc → pc < g + 187 → snPcF 0 0 pc = true := by
    intro g hg h1 h2
    have h3 := List.all_eq_true.mp hg (pc - g) (List.mem_range.mpr (by omega))
    rw [show g + (pc - g) = pc by omega] at h3
    exact h3
  have hc : (0 ≤ pc ∧ pc < 187) ∨ (187 ≤ pc ∧ pc < 374) ∨ (374 ≤ pc ∧ pc < 561) ∨ (561 ≤ pc ∧ pc < 748) ∨ (748 ≤ pc ∧ pc < 935) ∨ (935 ≤ pc ∧ pc < 1122) ∨ (1122 ≤ pc ∧ pc < 1309) ∨ (1309 ≤ pc ∧ pc < 1496) ∨ (1496 ≤ pc ∧ pc < 1683) ∨ (1683 ≤ pc ∧ pc < 1870) ∨ (1870 ≤ pc ∧ pc < 2057) ∨ (2057 ≤ pc ∧ pc < 2244) := by omega
  rcases hc with ⟨h1, h2⟩ | ⟨h1, h2⟩ | ⟨h1, h2⟩ | ⟨h1, h2⟩ | ⟨h1, h2⟩ | ⟨h1, h2⟩ | ⟨h1, h2⟩ | ⟨h1, h2⟩ | ⟨h1, h2⟩ | ⟨h1, h2⟩ | ⟨h1, h2⟩ | ⟨h1, h2⟩
  · exact key 0 snLw0 h1 h2
  · exact key 187 snLw1 h1 h2
  · exact key 374 snLw2 h1 h2
  · exact key 561 snLw3 h1 h2
  · exact key 748 snLw4 h1 h2
  · exact key 935 snLw5 h1 h2
  · exact key 1122 snLw6 h1 h2
  · exact key 1309 snLw7 h1 h2
  · exact key 1496 snLw8 h1 h2
  · exact key 1683 snLw9 h1 h2
  · exact key 1870 snLw10 h1 h2
  · exact key 2057 snLw11 h1 h2
theorem snQ0 : snAll 0 = true := snAllF_ok (ci := 0) (own := "RunForItLaw") (by decide +kernel) snTF0 snTM0 snLwF
theorem snAll_ok {μ : Nat} (h : μ < 293) : snAll μ = true := by
  rcases Nat.lt_or_ge μ 16 with q0 | q0
  · have hc : μ = 0 ∨ μ = 1 ∨ μ = 2 ∨ μ = 3 ∨ μ = 4 ∨ μ = 5 ∨ μ = 6 ∨ μ = 7 ∨ μ = 8 ∨ μ = 9 ∨ μ = 10 ∨ μ = 11 ∨ μ = 12 ∨ μ = 13 ∨ μ = 14 ∨ μ = 15 := by omega
    rcases hc with rfl | rfl | rfl | rfl | rfl | rfl | rfl | rfl | rfl | rfl | rfl | rfl | rfl | rfl | rfl | rfl
    · exact snQ0
    · exact snQ1
    · exact snQ2
    · exact snQ3
    · exact snQ4
    · exact snQ5
    · exact snQ6
    · exact snQ7
    · exact snQ8
    · exact snQ9
    · exact snQ10
    · exact snQ11
    · exact snQ12
    · exact snQ13
    · exact snQ14
    · exact snQ15
  rcases Nat.lt_or_ge μ 32 with q16 | q16
  · have hc : μ = 16 ∨ μ = 17 ∨ μ = 18 ∨ μ = 19 ∨ μ = 20 ∨ μ = 21 ∨ μ = 22 ∨ μ = 23 ∨ μ = 24 ∨ μ = 25 ∨ μ = 26 ∨ μ = 27 ∨ μ = 28 ∨ μ = 29 ∨ μ = 30 ∨ μ = 31 := by omega
    rcases hc with rfl | rfl | rfl | rfl | rfl | rfl | rfl | rfl | rfl | rfl | rfl | rfl | rfl | rfl | rfl | rfl
    · exact snQ16
    · exact snQ17
    · exact snQ18
    · exact snQ19
    · exact snQ20
    · exact snQ21
    · exact snQ22
    · exact snQ23
    · exact snQ24
    · exact snQ25
    · exact snQ26
    · exact snQ27
    · exact snQ28
    · exact snQ29
    · exact snQ30
    · exact snQ31
  rcases Nat.lt_or_ge μ 48 with q32 | q32
  · have hc : μ = 32 ∨ μ = 33 ∨ μ = 34 ∨ μ = 35 ∨ μ = 36 ∨ μ = 37 ∨ μ = 38 ∨ μ = 39 ∨ μ = 40 ∨ μ = 41 ∨ μ = 42 ∨ μ = 43 ∨ μ = 44 ∨ μ = 45 ∨ μ = 46 ∨ μ = 47 := by omega
    rcases hc with rfl | rfl | rfl | rfl | rfl | rfl | rfl | rfl | rfl | rfl | rfl | rfl | rfl | rfl | rfl | rfl
    · exact snQ32
    · exact snQ33
    · exact snQ34
    · exact snQ35
    · exact snQ36
    · exact snQ37
    · exact snQ38
    · exact snQ39
    · exact snQ40
    · exact snQ41
    · exact snQ42
    · exact snQ43
    · exact snQ44
    · exact snQ45
    · exact snQ46
    · exact snQ47
  rcases Nat.lt_or_ge μ 64 with q48 | q48
  · have hc : μ = 48 ∨ μ = 49 ∨ μ = 50 ∨ μ = 51 ∨ μ = 52 ∨ μ = 53 ∨ μ = 54 ∨ μ = 55 ∨ μ = 56 ∨ μ = 57 ∨ μ = 58 ∨ μ = 59 ∨ μ = 60 ∨ μ = 61 ∨ μ = 62 ∨ μ = 63 := by omega
    rcases hc with rfl | rfl | rfl | rfl | rfl | rfl | rfl | rfl | rfl | rfl | rfl | rfl | rfl | rfl | rfl | rfl
    · exact snQ48
    · exact snQ49
    · exact snQ50
    · exact snQ51
    · exact snQ52
    · exact snQ53
    · exact snQ54
    · exact snQ55
    · exact snQ56
    · exact snQ57
    · exact snQ58
    · exact snQ59
    · exact snQ60
    · exact snQ61
    · exact snQ62
    · exact snQ63
  rcases Nat.lt_or_ge μ 80 with q64 | q64
  · have hc : μ = 64 ∨ μ = 65 ∨ μ = 66 ∨ μ = 67 ∨ μ = 68 ∨ μ = 69 ∨ μ = 70 ∨ μ = 71 ∨ μ = 72 ∨ μ = 73 ∨ μ = 74 ∨ μ = 75 ∨ μ = 76 ∨ μ = 77 ∨ μ = 78 ∨ μ = 79 := by omega
    rcases hc with rfl | rfl | rfl | rfl | rfl | rfl | rfl | rfl | rfl | rfl | rfl | rfl | rfl | rfl | rfl | rfl
    · exact snQ64
    · exact snQ65
    · exact snQ66
    · exact snQ67
    · exact snQ68
    · exact snQ69
    · exact snQ70
    · exact snQ71
    · exact snQ72
    · exact snQ73
    · exact snQ74
    · exact snQ75
    · exact snQ76
    · exact snQ77
    · exact snQ78
    · exact snQ79
  rcases Nat.lt_or_ge μ 96 with q80 | q80
  · have hc : μ = 80 ∨ μ = 81 ∨ μ = 82 ∨ μ = 83 ∨ μ = 84 ∨ μ = 85 ∨ μ = 86 ∨ μ = 87 ∨ μ = 88 ∨ μ = 89 ∨ μ = 90 ∨ μ = 91 ∨ μ = 92 ∨ μ = 93 ∨ μ = 94 ∨ μ = 95 := by omega
    rcases hc with rfl | rfl | rfl | rfl | rfl | rfl | rfl | rfl | rfl | rfl | rfl | rfl | rfl | rfl | rfl | rfl
    · exact snQ80
    · exact snQ81
    · exact snQ82
    · exact snQ83
    · exact snQ84
    · exact snQ85
    · exact snQ86
    · exact snQ87
    · exact snQ88
    · exact snQ89
    · exact snQ90
    · exact snQ91
    · exact snQ92
    · exact snQ93
    · exact snQ94
    · exact snQ95
  rcases Nat.lt_or_ge μ 112 with q96 | q96
  · have hc : μ = 96 ∨ μ = 97 ∨ μ = 98 ∨ μ = 99 ∨ μ = 100 ∨ μ = 101 ∨ μ = 102 ∨ μ = 103 ∨ μ = 104 ∨ μ = 105 ∨ μ = 106 ∨ μ = 107 ∨ μ = 108 ∨ μ = 109 ∨ μ = 110 ∨ μ = 111 := by omega
    rcases hc with rfl | rfl | rfl | rfl | rfl | rfl | rfl | rfl | rfl | rfl | rfl | rfl | rfl | rfl | rfl | rfl
    · exact snQ96
    · exact snQ97
    · exact snQ98
    · exact snQ99
    · exact snQ100
    · exact snQ101
    · exact snQ102
    · exact snQ103
    · exact snQ104
    · exact snQ105
    · exact snQ106
    · exact snQ107
    · exact snQ108
    · exact snQ109
    · exact snQ110
    · exact snQ111
  rcases Nat.lt_or_ge μ 128 with q112 | q112
  · have hc : μ = 112 ∨ μ = 113 ∨ μ = 114 ∨ μ = 115 ∨ μ = 116 ∨ μ = 117 ∨ μ = 118 ∨ μ = 119 ∨ μ = 120 ∨ μ = 121 ∨ μ = 122 ∨ μ = 123 ∨ μ = 124 ∨ μ = 125 ∨ μ = 126 ∨ μ = 127 := by omega
    rcases hc with rfl | rfl | rfl | rfl | rfl | rfl | rfl | rfl | rfl | rfl | rfl | rfl | rfl | rfl | rfl | rfl
    · exact snQ112
    · exact snQ113
    · exact snQ114
    · exact snQ115
    · exact snQ116
    · exact snQ117
    · exact snQ118
    · exact snQ119
    · exact snQ120
    · exact snQ121
    · exact snQ122
    · exact snQ123
    · exact snQ124
    · exact snQ125
    · exact snQ126
    · exact snQ127
  rcases Nat.lt_or_ge μ 144 with q128 | q128
  · have hc : μ = 128 ∨ μ = 129 ∨ μ = 130 ∨ μ = 131 ∨ μ = 132 ∨ μ = 133 ∨ μ = 134 ∨ μ = 135 ∨ μ = 136 ∨ μ = 137 ∨ μ = 138 ∨ μ = 139 ∨ μ = 140 ∨ μ = 141 ∨ μ = 142 ∨ μ = 143 := by omega
    rcases hc with rfl | rfl | rfl | rfl | rfl | rfl | rfl | rfl | rfl | rfl | rfl | rfl | rfl | rfl | rfl | rfl
    · exact snQ128
    · exact snQ129
    · exact snQ130
    · exact snQ131
    · exact snQ132
    · exact snQ133
    · exact snQ134
    · exact snQ135
    · exact snQ136
    · exact snQ137
    · exact snQ138
    · exact snQ139
    · exact snQ140
    · exact snQ141
    · exact snQ142
    · exact snQ143
  rcases Nat.lt_or_ge μ 160 with q144 | q144
  · have hc : μ = 144 ∨ μ = 145 ∨ μ = 146 ∨ μ = 147 ∨ μ = 148 ∨ μ = 149 ∨ μ = 150 ∨ μ = 151 ∨ μ = 152 ∨ μ = 153 ∨ μ = 154 ∨ μ = 155 ∨ μ = 156 ∨ μ = 157 ∨ μ = 158 ∨ μ = 159 := by omega
    rcases hc with rfl | rfl | rfl | rfl | rfl | rfl | rfl | rfl | rfl | rfl | rfl | rfl | rfl | rfl | rfl | rfl
    · exact snQ144
    · exact snQ145
    · exact snQ146
    · exact snQ147
    · exact snQ148
    · exact snQ149
    · exact snQ150
    · exact snQ151
    · exact snQ152
    · exact snQ153
    · exact snQ154
    · exact snQ155
    · exact snQ156
    · exact snQ157
    · exact snQ158
    · exact snQ159
  rcases Nat.lt_or_ge μ 176 with q160 | q160
  · have hc : μ = 160 ∨ μ = 161 ∨ μ = 162 ∨ μ = 163 ∨ μ = 164 ∨ μ = 165 ∨ μ = 166 ∨ μ = 167 ∨ μ = 168 ∨ μ = 169 ∨ μ = 170 ∨ μ = 171 ∨ μ = 172 ∨ μ = 173 ∨ μ = 174 ∨ μ = 175 := by omega
    rcases hc with rfl | rfl | rfl | rfl | rfl | rfl | rfl | rfl | rfl | rfl | rfl | rfl | rfl | rfl | rfl | rfl
    · exact snQ160
    · exact snQ161
    · exact snQ162
    · exact snQ163
    · exact snQ164
    · exact snQ165
    · exact snQ166
    · exact snQ167
    · exact snQ168
    · exact snQ169
    · exact snQ170
    · exact snQ171
    · exact snQ172
    · exact snQ173
    · exact snQ174
    · exact snQ175
  rcases Nat.lt_or_ge μ 192 with q176 | q176
  · have hc : μ = 176 ∨ μ = 177 ∨ μ = 178 ∨ μ = 179 ∨ μ = 180 ∨ μ = 181 ∨ μ = 182 ∨ μ = 183 ∨ μ = 184 ∨ μ = 185 ∨ μ = 186 ∨ μ = 187 ∨ μ = 188 ∨ μ = 189 ∨ μ = 190 ∨ μ = 191 := by omega
    rcases hc with rfl | rfl | rfl | rfl | rfl | rfl | rfl | rfl | rfl | rfl | rfl | rfl | rfl | rfl | rfl | rfl
    · exact snQ176
    · exact snQ177
    · exact snQ178
    · exact snQ179
    · exact snQ180
    · exact snQ181
    · exact snQ182
    · exact snQ183
    · exact snQ184
    · exact snQ185
    · exact snQ186
    · exact snQ187
    · exact snQ188
    · exact snQ189
    · exact snQ190
    · exact snQ191
  rcases Nat.lt_or_ge μ 208 with q192 | q192
  · have hc : μ = 192 ∨ μ = 193 ∨ μ = 194 ∨ μ = 195 ∨ μ = 196 ∨ μ = 197 ∨ μ = 198 ∨ μ = 199 ∨ μ = 200 ∨ μ = 201 ∨ μ = 202 ∨ μ = 203 ∨ μ = 204 ∨ μ = 205 ∨ μ = 206 ∨ μ = 207 := by omega
    rcases hc with rfl | rfl | rfl | rfl | rfl | rfl | rfl | rfl | rfl | rfl | rfl | rfl | rfl | rfl | rfl | rfl
    · exact snQ192
    · exact snQ193
    · exact snQ194
    · exact snQ195
    · exact snQ196
    · exact snQ197
    · exact snQ198
    · exact snQ199
    · exact snQ200
    · exact snQ201
    · exact snQ202
    · exact snQ203
    · exact snQ204
    · exact snQ205
    · exact snQ206
    · exact snQ207
  rcases Nat.lt_or_ge μ 224 with q208 | q208
  · have hc : μ = 208 ∨ μ = 209 ∨ μ = 210 ∨ μ = 211 ∨ μ = 212 ∨ μ = 213 ∨ μ = 214 ∨ μ = 215 ∨ μ = 216 ∨ μ = 217 ∨ μ = 218 ∨ μ = 219 ∨ μ = 220 ∨ μ = 221 ∨ μ = 222 ∨ μ = 223 := by omega
    rcases hc with rfl | rfl | rfl | rfl | rfl | rfl | rfl | rfl | rfl | rfl | rfl | rfl | rfl | rfl | rfl | rfl
    · exact snQ208
    · exact snQ209
    · exact snQ210
    · exact snQ211
    · exact snQ212
    · exact snQ213
    · exact snQ214
    · exact snQ215
    · exact snQ216
    · exact snQ217
    · exact snQ218
    · exact snQ219
    · exact snQ220
    · exact snQ221
    · exact snQ222
    · exact snQ223
  rcases Nat.lt_or_ge μ 240 with q224 | q224
  · have hc : μ = 224 ∨ μ = 225 ∨ μ = 226 ∨ μ = 227 ∨ μ = 228 ∨ μ = 229 ∨ μ = 230 ∨ μ = 231 ∨ μ = 232 ∨ μ = 233 ∨ μ = 234 ∨ μ = 235 ∨ μ = 236 ∨ μ = 237 ∨ μ = 238 ∨ μ = 239 := by omega
    rcases hc with rfl | rfl | rfl | rfl | rfl | rfl | rfl | rfl | rfl | rfl | rfl | rfl | rfl | rfl | rfl | rfl
    · exact snQ224
    · exact snQ225
    · exact snQ226
    · exact snQ227
    · exact snQ228
    · exact snQ229
    · exact snQ230
    · exact snQ231
    · exact snQ232
    · exact snQ233
    · exact snQ234
    · exact snQ235
    · exact snQ236
    · exact snQ237
    · exact snQ238
    · exact snQ239
  rcases Nat.lt_or_ge μ 256 with q240 | q240
  · have hc : μ = 240 ∨ μ = 241 ∨ μ = 242 ∨ μ = 243 ∨ μ = 244 ∨ μ = 245 ∨ μ = 246 ∨ μ = 247 ∨ μ = 248 ∨ μ = 249 ∨ μ = 250 ∨ μ = 251 ∨ μ = 252 ∨ μ = 253 ∨ μ = 254 ∨ μ = 255 := by omega
    rcases hc with rfl | rfl | rfl | rfl | rfl | rfl | rfl | rfl | rfl | rfl | rfl | rfl | rfl | rfl | rfl | rfl
    · exact snQ240
    · exact snQ241
    · exact snQ242
    · exact snQ243
    · exact snQ244
    · exact snQ245
    · exact snQ246
    · exact snQ247
    · exact snQ248
    · exact snQ249
    · exact snQ250
    · exact snQ251
    · exact snQ252
    · exact snQ253
    · exact snQ254
    · exact snQ255
  rcases Nat.lt_or_ge μ 272 with q256 | q256
  · have hc : μ = 256 ∨ μ = 257 ∨ μ = 258 ∨ μ = 259 ∨ μ = 260 ∨ μ = 261 ∨ μ = 262 ∨ μ = 263 ∨ μ = 264 ∨ μ = 265 ∨ μ = 266 ∨ μ = 267 ∨ μ = 268 ∨ μ = 269 ∨ μ = 270 ∨ μ = 271 := by omega
    rcases hc with rfl | rfl | rfl | rfl | rfl | rfl | rfl | rfl | rfl | rfl | rfl | rfl | rfl | rfl | rfl | rfl
    · exact snQ256
    · exact snQ257
    · exact snQ258
    · exact snQ259
    · exact snQ260
    · exact snQ261
    · exact snQ262
    · exact snQ263
    · exact snQ264
    · exact snQ265
    · exact snQ266
    · exact snQ267
    · exact snQ268
    · exact snQ269
    · exact snQ270
    · exact snQ271
  rcases Nat.lt_or_ge μ 288 with q272 | q272
  · have hc : μ = 272 ∨ μ = 273 ∨ μ = 274 ∨ μ = 275 ∨ μ = 276 ∨ μ = 277 ∨ μ = 278 ∨ μ = 279 ∨ μ = 280 ∨ μ = 281 ∨ μ = 282 ∨ μ = 283 ∨ μ = 284 ∨ μ = 285 ∨ μ = 286 ∨ μ = 287 := by omega
    rcases hc with rfl | rfl | rfl | rfl | rfl | rfl | rfl | rfl | rfl | rfl | rfl | rfl | rfl | rfl | rfl | rfl
    · exact snQ272
    · exact snQ273
    · exact snQ274
    · exact snQ275
    · exact snQ276
    · exact snQ277
    · exact snQ278
    · exact snQ279
    · exact snQ280
    · exact snQ281
    · exact snQ282
    · exact snQ283
    · exact snQ284
    · exact snQ285
    · exact snQ286
    · exact snQ287
  have hc : μ = 288 ∨ μ = 289 ∨ μ = 290 ∨ μ = 291 ∨ μ = 292 := by omega
  rcases hc with rfl | rfl | rfl | rfl | rfl
  · exact snQ288
  · exact snQ289
  · exact snQ290
  · exact snQ291
  · exact snQ292
def snMok3 (μ : Nat) : Bool := snW (snMt μ).2.1 (.initialized (snN μ).cls) && (plainName (snN μ).cls && (decide ((snN μ).cls ≠ "java/lang/invoke/MethodHandle") && (decide ((snN μ).cls ≠ "java/lang/invoke/VarHandle") && Nat.ble (snL μ) 40)))
theorem snMok_of {μ : Nat} (h1 : lw_tbl[(snMt μ).1]? = some (.code (snN μ) (snB μ) (snL μ) (snR μ))) (h2 : snMok3 μ = true) : snMok μ = true := by
  have h3 : snW (snMt μ).1 (.code (snN μ) (snB μ) (snL μ) (snR μ)) = true := by
    unfold snW
    rw [decide_eq_true h1]
    rfl
  unfold snMok
  rw [h3]
  exact h2
