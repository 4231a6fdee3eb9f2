def am_F (own : String) (i c j : Nat) : Prop := j < (am_C c).2.2 ∧ Cond.fieldLink own i ((am_C c).2.1 j).1 ((am_C c).2.1 j).2.1 ((am_C c).2.1 j).2.2.1 ∈ lw_g
set_option maxRecDepth 100000 in
theorem F_River_9 : am_F "MovedSpan$River" 9 5 0 := ⟨by decide, am_in 156 (by decide +kernel) rfl⟩
set_option maxRecDepth 100000 in
theorem F_Reader_83 : am_F "MovedSpan$Reader" 83 5 0 := ⟨by decide, am_in 157 (by decide +kernel) rfl⟩
set_option maxRecDepth 100000 in
theorem F_Sightings_84 : am_F "MovedSpan$Sightings" 84 5 0 := ⟨by decide, am_in 158 (by decide +kernel) rfl⟩
set_option maxRecDepth 100000 in
theorem F_Weeks_130 : am_F "MovedSpan$Weeks" 130 5 0 := ⟨by decide, am_in 159 (by decide +kernel) rfl⟩
set_option maxRecDepth 100000 in
theorem F_Top_344 : am_F "MovedSpan" 344 5 0 := ⟨by decide, am_in 160 (by decide +kernel) rfl⟩
set_option maxRecDepth 100000 in
theorem F_River_15 : am_F "MovedSpan$River" 15 5 1 := ⟨by decide, am_in 161 (by decide +kernel) rfl⟩
set_option maxRecDepth 100000 in
theorem F_Reader_86 : am_F "MovedSpan$Reader" 86 5 1 := ⟨by decide, am_in 162 (by decide +kernel) rfl⟩
set_option maxRecDepth 100000 in
theorem F_Sightings_91 : am_F "MovedSpan$Sightings" 91 5 1 := ⟨by decide, am_in 163 (by decide +kernel) rfl⟩
set_option maxRecDepth 100000 in
theorem F_Ahead_66 : am_F "MovedSpan$Ahead" 66 5 1 := ⟨by decide, am_in 164 (by decide +kernel) rfl⟩
set_option maxRecDepth 100000 in
theorem F_Weeks_121 : am_F "MovedSpan$Weeks" 121 5 1 := ⟨by decide, am_in 165 (by decide +kernel) rfl⟩
set_option maxRecDepth 100000 in
theorem F_Top_347 : am_F "MovedSpan" 347 5 1 := ⟨by decide, am_in 166 (by decide +kernel) rfl⟩
set_option maxRecDepth 100000 in
theorem F_River_18 : am_F "MovedSpan$River" 18 5 2 := ⟨by decide, am_in 167 (by decide +kernel) rfl⟩
set_option maxRecDepth 100000 in
theorem F_State_58 : am_F "MovedSpan$State" 58 5 2 := ⟨by decide, am_in 168 (by decide +kernel) rfl⟩
set_option maxRecDepth 100000 in
theorem F_Reader_92 : am_F "MovedSpan$Reader" 92 5 2 := ⟨by decide, am_in 169 (by decide +kernel) rfl⟩
set_option maxRecDepth 100000 in
theorem F_Weeks_101 : am_F "MovedSpan$Weeks" 101 5 2 := ⟨by decide, am_in 170 (by decide +kernel) rfl⟩
set_option maxRecDepth 100000 in
theorem F_Top_350 : am_F "MovedSpan" 350 5 2 := ⟨by decide, am_in 171 (by decide +kernel) rfl⟩
set_option maxRecDepth 100000 in
theorem F_River_21 : am_F "MovedSpan$River" 21 5 3 := ⟨by decide, am_in 172 (by decide +kernel) rfl⟩
set_option maxRecDepth 100000 in
theorem F_Reader_108 : am_F "MovedSpan$Reader" 108 5 3 := ⟨by decide, am_in 173 (by decide +kernel) rfl⟩
set_option maxRecDepth 100000 in
theorem F_Chances_72 : am_F "MovedSpan$Chances" 72 5 3 := ⟨by decide, am_in 174 (by decide +kernel) rfl⟩
set_option maxRecDepth 100000 in
theorem F_Top_359 : am_F "MovedSpan" 359 5 3 := ⟨by decide, am_in 175 (by decide +kernel) rfl⟩
set_option maxRecDepth 100000 in
theorem F_River_24 : am_F "MovedSpan$River" 24 5 4 := ⟨by decide, am_in 176 (by decide +kernel) rfl⟩
set_option maxRecDepth 100000 in
theorem F_State_37 : am_F "MovedSpan$State" 37 5 4 := ⟨by decide, am_in 177 (by decide +kernel) rfl⟩
set_option maxRecDepth 100000 in
theorem F_Reader_111 : am_F "MovedSpan$Reader" 111 5 4 := ⟨by decide, am_in 178 (by decide +kernel) rfl⟩
set_option maxRecDepth 100000 in
theorem F_River_27 : am_F "MovedSpan$River" 27 5 5 := ⟨by decide, am_in 179 (by decide +kernel) rfl⟩
set_option maxRecDepth 100000 in
theorem F_Reader_72 : am_F "MovedSpan$Reader" 72 5 5 := ⟨by decide, am_in 180 (by decide +kernel) rfl⟩
set_option maxRecDepth 100000 in
theorem F_Top_120 : am_F "MovedSpan" 120 5 5 := ⟨by decide, am_in 181 (by decide +kernel) rfl⟩
set_option maxRecDepth 100000 in
theorem F_River_30 : am_F "MovedSpan$River" 30 5 6 := ⟨by decide, am_in 182 (by decide +kernel) rfl⟩
set_option maxRecDepth 100000 in
theorem F_State_42 : am_F "MovedSpan$State" 42 5 6 := ⟨by decide, am_in 183 (by decide +kernel) rfl⟩
set_option maxRecDepth 100000 in
theorem F_Reader_118 : am_F "MovedSpan$Reader" 118 5 6 := ⟨by decide, am_in 184 (by decide +kernel) rfl⟩
set_option maxRecDepth 100000 in
theorem F_River_34 : am_F "MovedSpan$River" 34 5 7 := ⟨by decide, am_in 185 (by decide +kernel) rfl⟩
set_option maxRecDepth 100000 in
theorem F_State_45 : am_F "MovedSpan$State" 45 5 7 := ⟨by decide, am_in 186 (by decide +kernel) rfl⟩
set_option maxRecDepth 100000 in
theorem F_Reader_122 : am_F "MovedSpan$Reader" 122 5 7 := ⟨by decide, am_in 187 (by decide +kernel) rfl⟩
set_option maxRecDepth 100000 in
theorem F_River_37 : am_F "MovedSpan$River" 37 5 8 := ⟨by decide, am_in 188 (by decide +kernel) rfl⟩
set_option maxRecDepth 100000 in
theorem F_Top_147 : am_F "MovedSpan" 147 5 8 := ⟨by decide, am_in 189 (by decide +kernel) rfl⟩
set_option maxRecDepth 100000 in
theorem F_Reader_128 : am_F "MovedSpan$Reader" 128 5 8 := ⟨by decide, am_in 190 (by decide +kernel) rfl⟩
set_option maxRecDepth 100000 in
theorem F_River_40 : am_F "MovedSpan$River" 40 5 9 := ⟨by decide, am_in 191 (by decide +kernel) rfl⟩
set_option maxRecDepth 100000 in
theorem F_Weeks_62 : am_F "MovedSpan$Weeks" 62 5 9 := ⟨by decide, am_in 192 (by decide +kernel) rfl⟩
set_option maxRecDepth 100000 in
theorem F_State_61 : am_F "MovedSpan$State" 61 5 9 := ⟨by decide, am_in 193 (by decide +kernel) rfl⟩
set_option maxRecDepth 100000 in
theorem F_Top_150 : am_F "MovedSpan" 150 5 9 := ⟨by decide, am_in 194 (by decide +kernel) rfl⟩
set_option maxRecDepth 100000 in
theorem F_Reader_131 : am_F "MovedSpan$Reader" 131 5 9 := ⟨by decide, am_in 195 (by decide +kernel) rfl⟩
set_option maxRecDepth 100000 in
theorem F_River_43 : am_F "MovedSpan$River" 43 5 10 := ⟨by decide, am_in 196 (by decide +kernel) rfl⟩
set_option maxRecDepth 100000 in
theorem F_State_64 : am_F "MovedSpan$State" 64 5 10 := ⟨by decide, am_in 197 (by decide +kernel) rfl⟩
set_option maxRecDepth 100000 in
theorem F_Weeks_76 : am_F "MovedSpan$Weeks" 76 5 10 := ⟨by decide, am_in 198 (by decide +kernel) rfl⟩
set_option maxRecDepth 100000 in
theorem F_Top_153 : am_F "MovedSpan" 153 5 10 := ⟨by decide, am_in 199 (by decide +kernel) rfl⟩
set_option maxRecDepth 100000 in
theorem F_Reader_134 : am_F "MovedSpan$Reader" 134 5 10 := ⟨by decide, am_in 200 (by decide +kernel) rfl⟩
set_option maxRecDepth 100000 in
theorem F_River_46 : am_F "MovedSpan$River" 46 5 11 := ⟨by decide, am_in 201 (by decide +kernel) rfl⟩
set_option maxRecDepth 100000 in
theorem F_River_49 : am_F "MovedSpan$River" 49 5 12 := ⟨by decide, am_in 202 (by decide +kernel) rfl⟩
set_option maxRecDepth 100000 in
theorem F_River_52 : am_F "MovedSpan$River" 52 5 13 := ⟨by decide, am_in 203 (by decide +kernel) rfl⟩
set_option maxRecDepth 100000 in
theorem F_State_9 : am_F "MovedSpan$State" 9 7 0 := ⟨by decide, am_in 240 (by decide +kernel) rfl⟩
set_option maxRecDepth 100000 in
theorem F_Ahead_33 : am_F "MovedSpan$Ahead" 33 7 0 := ⟨by decide, am_in 241 (by decide +kernel) rfl⟩
set_option maxRecDepth 100000 in
theorem F_Sightings_55 : am_F "MovedSpan$Sightings" 55 7 0 := ⟨by decide, am_in 242 (by decide +kernel) rfl⟩
set_option maxRecDepth 100000 in
theorem F_Chances_34 : am_F "MovedSpan$Chances" 34 7 0 := ⟨by decide, am_in 243 (by decide +kernel) rfl⟩
set_option maxRecDepth 100000 in
theorem F_Weeks_79 : am_F "MovedSpan$Weeks" 79 7 0 := ⟨by decide, am_in 244 (by decide +kernel) rfl⟩
set_option maxRecDepth 100000 in
theorem F_Top_133 : am_F "MovedSpan" 133 7 0 := ⟨by decide, am_in 245 (by decide +kernel) rfl⟩
set_option maxRecDepth 100000 in
theorem F_State_15 : am_F "MovedSpan$State" 15 7 1 := ⟨by decide, am_in 246 (by decide +kernel) rfl⟩
set_option maxRecDepth 100000 in
theorem F_Ahead_45 : am_F "MovedSpan$Ahead" 45 7 1 := ⟨by decide, am_in 247 (by decide +kernel) rfl⟩
set_option maxRecDepth 100000 in
theorem F_Sightings_64 : am_F "MovedSpan$Sightings" 64 7 1 := ⟨by decide, am_in 248 (by decide +kernel) rfl⟩
set_option maxRecDepth 100000 in
theorem F_Top_183 : am_F "MovedSpan" 183 7 1 := ⟨by decide, am_in 249 (by decide +kernel) rfl⟩
set_option maxRecDepth 100000 in
theorem F_Weeks_193 : am_F "MovedSpan$Weeks" 193 7 1 := ⟨by decide, am_in 250 (by decide +kernel) rfl⟩
set_option maxRecDepth 100000 in
theorem F_State_18 : am_F "MovedSpan$State" 18 7 2 := ⟨by decide, am_in 251 (by decide +kernel) rfl⟩
set_option maxRecDepth 100000 in
theorem F_Weeks_67 : am_F "MovedSpan$Weeks" 67 7 2 := ⟨by decide, am_in 252 (by decide +kernel) rfl⟩
set_option maxRecDepth 100000 in
theorem F_Top_156 : am_F "MovedSpan" 156 7 2 := ⟨by decide, am_in 253 (by decide +kernel) rfl⟩
set_option maxRecDepth 100000 in
theorem F_State_21 : am_F "MovedSpan$State" 21 7 3 := ⟨by decide, am_in 254 (by decide +kernel) rfl⟩
set_option maxRecDepth 100000 in
theorem F_Ahead_52 : am_F "MovedSpan$Ahead" 52 7 3 := ⟨by decide, am_in 255 (by decide +kernel) rfl⟩
set_option maxRecDepth 100000 in
theorem F_Sightings_75 : am_F "MovedSpan$Sightings" 75 7 3 := ⟨by decide, am_in 256 (by decide +kernel) rfl⟩
set_option maxRecDepth 100000 in
theorem F_Chances_66 : am_F "MovedSpan$Chances" 66 7 3 := ⟨by decide, am_in 257 (by decide +kernel) rfl⟩
set_option maxRecDepth 100000 in
theorem F_Top_129 : am_F "MovedSpan" 129 7 3 := ⟨by decide, am_in 258 (by decide +kernel) rfl⟩
set_option maxRecDepth 100000 in
theorem F_Weeks_115 : am_F "MovedSpan$Weeks" 115 7 3 := ⟨by decide, am_in 259 (by decide +kernel) rfl⟩
set_option maxRecDepth 100000 in
theorem F_State_25 : am_F "MovedSpan$State" 25 7 4 := ⟨by decide, am_in 260 (by decide +kernel) rfl⟩
set_option maxRecDepth 100000 in
theorem F_Ahead_55 : am_F "MovedSpan$Ahead" 55 7 4 := ⟨by decide, am_in 261 (by decide +kernel) rfl⟩
set_option maxRecDepth 100000 in
theorem F_Chances_58 : am_F "MovedSpan$Chances" 58 7 4 := ⟨by decide, am_in 262 (by decide +kernel) rfl⟩
set_option maxRecDepth 100000 in
theorem F_Weeks_88 : am_F "MovedSpan$Weeks" 88 7 4 := ⟨by decide, am_in 263 (by decide +kernel) rfl⟩
set_option maxRecDepth 100000 in
theorem F_Top_144 : am_F "MovedSpan" 144 7 4 := ⟨by decide, am_in 264 (by decide +kernel) rfl⟩
set_option maxRecDepth 100000 in
theorem F_State_28 : am_F "MovedSpan$State" 28 7 5 := ⟨by decide, am_in 265 (by decide +kernel) rfl⟩
set_option maxRecDepth 100000 in
theorem F_Top_159 : am_F "MovedSpan" 159 7 5 := ⟨by decide, am_in 266 (by decide +kernel) rfl⟩
set_option maxRecDepth 100000 in
theorem F_Past_11 : am_F "MovedSpan$Past" 11 3 0 := ⟨by decide, am_in 289 (by decide +kernel) rfl⟩
set_option maxRecDepth 100000 in
theorem F_Past_17 : am_F "MovedSpan$Past" 17 3 1 := ⟨by decide, am_in 290 (by decide +kernel) rfl⟩
set_option maxRecDepth 100000 in
theorem F_Past_21 : am_F "MovedSpan$Past" 21 3 2 := ⟨by decide, am_in 291 (by decide +kernel) rfl⟩
set_option maxRecDepth 100000 in
theorem F_Top_194 : am_F "MovedSpan" 194 3 2 := ⟨by decide, am_in 292 (by decide +kernel) rfl⟩
set_option maxRecDepth 100000 in
theorem F_Tokens_9 : am_F "MovedSpan$Tokens" 9 8 0 := ⟨by decide, am_in 314 (by decide +kernel) rfl⟩
set_option maxRecDepth 100000 in
theorem F_Reader_169 : am_F "MovedSpan$Reader" 169 8 0 := ⟨by decide, am_in 315 (by decide +kernel) rfl⟩
set_option maxRecDepth 100000 in
theorem F_Tokens_15 : am_F "MovedSpan$Tokens" 15 8 1 := ⟨by decide, am_in 316 (by decide +kernel) rfl⟩
set_option maxRecDepth 100000 in
theorem F_Reader_172 : am_F "MovedSpan$Reader" 172 8 1 := ⟨by decide, am_in 317 (by decide +kernel) rfl⟩
set_option maxRecDepth 100000 in
theorem F_Tokens_19 : am_F "MovedSpan$Tokens" 19 8 2 := ⟨by decide, am_in 318 (by decide +kernel) rfl⟩
set_option maxRecDepth 100000 in
theorem F_Reader_178 : am_F "MovedSpan$Reader" 178 8 2 := ⟨by decide, am_in 319 (by decide +kernel) rfl⟩
set_option maxRecDepth 100000 in
theorem F_Tokens_22 : am_F "MovedSpan$Tokens" 22 8 3 := ⟨by decide, am_in 320 (by decide +kernel) rfl⟩
set_option maxRecDepth 100000 in
theorem F_Reader_175 : am_F "MovedSpan$Reader" 175 8 3 := ⟨by decide, am_in 321 (by decide +kernel) rfl⟩
set_option maxRecDepth 100000 in
theorem F_Law_29 : am_F "MovedSpan$Law" 29 2 5 := ⟨by decide, am_in 338 (by decide +kernel) rfl⟩
set_option maxRecDepth 100000 in
theorem F_Reader_166 : am_F "MovedSpan$Reader" 166 2 5 := ⟨by decide, am_in 339 (by decide +kernel) rfl⟩
set_option maxRecDepth 100000 in
theorem F_Law_9 : am_F "MovedSpan$Law" 9 2 0 := ⟨by decide, am_in 340 (by decide +kernel) rfl⟩
set_option maxRecDepth 100000 in
theorem F_Reader_137 : am_F "MovedSpan$Reader" 137 2 0 := ⟨by decide, am_in 341 (by decide +kernel) rfl⟩
set_option maxRecDepth 100000 in
theorem F_River_84 : am_F "MovedSpan$River" 84 2 0 := ⟨by decide, am_in 342 (by decide +kernel) rfl⟩
set_option maxRecDepth 100000 in
theorem F_Law_15 : am_F "MovedSpan$Law" 15 2 1 := ⟨by decide, am_in 343 (by decide +kernel) rfl⟩
set_option maxRecDepth 100000 in
theorem F_Law_19 : am_F "MovedSpan$Law" 19 2 2 := ⟨by decide, am_in 344 (by decide +kernel) rfl⟩
set_option maxRecDepth 100000 in
theorem F_Law_23 : am_F "MovedSpan$Law" 23 2 3 := ⟨by decide, am_in 345 (by decide +kernel) rfl⟩
set_option maxRecDepth 100000 in
theorem F_Law_26 : am_F "MovedSpan$Law" 26 2 4 := ⟨by decide, am_in 346 (by decide +kernel) rfl⟩
set_option maxRecDepth 100000 in
theorem F_Reader_12 : am_F "MovedSpan$Reader" 12 4 0 := ⟨by decide, am_in 360 (by decide +kernel) rfl⟩
set_option maxRecDepth 100000 in
theorem F_Top_106 : am_F "MovedSpan" 106 4 0 := ⟨by decide, am_in 361 (by decide +kernel) rfl⟩
set_option maxRecDepth 100000 in
theorem F_Reader_18 : am_F "MovedSpan$Reader" 18 4 1 := ⟨by decide, am_in 362 (by decide +kernel) rfl⟩
set_option maxRecDepth 100000 in
theorem F_Top_123 : am_F "MovedSpan" 123 4 1 := ⟨by decide, am_in 363 (by decide +kernel) rfl⟩
set_option maxRecDepth 100000 in
theorem F_Reader_22 : am_F "MovedSpan$Reader" 22 4 2 := ⟨by decide, am_in 364 (by decide +kernel) rfl⟩
set_option maxRecDepth 100000 in
theorem F_Top_126 : am_F "MovedSpan" 126 4 2 := ⟨by decide, am_in 365 (by decide +kernel) rfl⟩
set_option maxRecDepth 100000 in
theorem F_Reader_25 : am_F "MovedSpan$Reader" 25 4 3 := ⟨by decide, am_in 366 (by decide +kernel) rfl⟩
set_option maxRecDepth 100000 in
theorem F_Reader_31 : am_F "MovedSpan$Reader" 31 4 4 := ⟨by decide, am_in 367 (by decide +kernel) rfl⟩
set_option maxRecDepth 100000 in
theorem F_Reader_40 : am_F "MovedSpan$Reader" 40 4 5 := ⟨by decide, am_in 368 (by decide +kernel) rfl⟩
set_option maxRecDepth 100000 in
theorem F_Reader_44 : am_F "MovedSpan$Reader" 44 4 6 := ⟨by decide, am_in 369 (by decide +kernel) rfl⟩
set_option maxRecDepth 100000 in
theorem F_Reader_47 : am_F "MovedSpan$Reader" 47 4 7 := ⟨by decide, am_in 370 (by decide +kernel) rfl⟩
set_option maxRecDepth 100000 in
theorem F_Ahead_25 : am_F "MovedSpan$Ahead" 25 0 0 := ⟨by decide, am_in 397 (by decide +kernel) rfl⟩
set_option maxRecDepth 100000 in
theorem F_Ahead_29 : am_F "MovedSpan$Ahead" 29 0 1 := ⟨by decide, am_in 398 (by decide +kernel) rfl⟩
set_option maxRecDepth 100000 in
theorem F_Ahead_9 : am_F "MovedSpan$Ahead" 9 0 2 := ⟨by decide, am_in 399 (by decide +kernel) rfl⟩
set_option maxRecDepth 100000 in
theorem F_Ahead_15 : am_F "MovedSpan$Ahead" 15 0 3 := ⟨by decide, am_in 400 (by decide +kernel) rfl⟩
set_option maxRecDepth 100000 in
theorem F_Ahead_18 : am_F "MovedSpan$Ahead" 18 0 4 := ⟨by decide, am_in 401 (by decide +kernel) rfl⟩
set_option maxRecDepth 100000 in
theorem F_Ahead_22 : am_F "MovedSpan$Ahead" 22 0 5 := ⟨by decide, am_in 402 (by decide +kernel) rfl⟩
set_option maxRecDepth 100000 in
theorem F_Weeks_50 : am_F "MovedSpan$Weeks" 50 10 0 := ⟨by decide, am_in 423 (by decide +kernel) rfl⟩
set_option maxRecDepth 100000 in
theorem F_Weeks_54 : am_F "MovedSpan$Weeks" 54 10 1 := ⟨by decide, am_in 424 (by decide +kernel) rfl⟩
set_option maxRecDepth 100000 in
theorem F_Weeks_58 : am_F "MovedSpan$Weeks" 58 10 2 := ⟨by decide, am_in 425 (by decide +kernel) rfl⟩
set_option maxRecDepth 100000 in
theorem F_Weeks_9 : am_F "MovedSpan$Weeks" 9 10 3 := ⟨by decide, am_in 426 (by decide +kernel) rfl⟩
set_option maxRecDepth 100000 in
theorem F_Weeks_15 : am_F "MovedSpan$Weeks" 15 10 4 := ⟨by decide, am_in 427 (by decide +kernel) rfl⟩
set_option maxRecDepth 100000 in
theorem F_Top_276 : am_F "MovedSpan" 276 10 4 := ⟨by decide, am_in 428 (by decide +kernel) rfl⟩
set_option maxRecDepth 100000 in
theorem F_Weeks_18 : am_F "MovedSpan$Weeks" 18 10 5 := ⟨by decide, am_in 429 (by decide +kernel) rfl⟩
set_option maxRecDepth 100000 in
theorem F_Top_279 : am_F "MovedSpan" 279 10 5 := ⟨by decide, am_in 430 (by decide +kernel) rfl⟩
set_option maxRecDepth 100000 in
theorem F_Weeks_22 : am_F "MovedSpan$Weeks" 22 10 6 := ⟨by decide, am_in 431 (by decide +kernel) rfl⟩
set_option maxRecDepth 100000 in
theorem F_Top_282 : am_F "MovedSpan" 282 10 6 := ⟨by decide, am_in 432 (by decide +kernel) rfl⟩
set_option maxRecDepth 100000 in
theorem F_Weeks_25 : am_F "MovedSpan$Weeks" 25 10 7 := ⟨by decide, am_in 433 (by decide +kernel) rfl⟩
set_option maxRecDepth 100000 in
theorem F_Weeks_28 : am_F "MovedSpan$Weeks" 28 10 8 := ⟨by decide, am_in 434 (by decide +kernel) rfl⟩
set_option maxRecDepth 100000 in
theorem F_Weeks_32 : am_F "MovedSpan$Weeks" 32 10 9 := ⟨by decide, am_in 435 (by decide +kernel) rfl⟩
set_option maxRecDepth 100000 in
theorem F_Weeks_35 : am_F "MovedSpan$Weeks" 35 10 10 := ⟨by decide, am_in 436 (by decide +kernel) rfl⟩
set_option maxRecDepth 100000 in
theorem F_Weeks_38 : am_F "MovedSpan$Weeks" 38 10 11 := ⟨by decide, am_in 437 (by decide +kernel) rfl⟩
set_option maxRecDepth 100000 in
theorem F_Weeks_41 : am_F "MovedSpan$Weeks" 41 10 12 := ⟨by decide, am_in 438 (by decide +kernel) rfl⟩
set_option maxRecDepth 100000 in
theorem F_Weeks_44 : am_F "MovedSpan$Weeks" 44 10 13 := ⟨by decide, am_in 439 (by decide +kernel) rfl⟩
set_option maxRecDepth 100000 in
theorem F_Weeks_47 : am_F "MovedSpan$Weeks" 47 10 14 := ⟨by decide, am_in 440 (by decide +kernel) rfl⟩
set_option maxRecDepth 100000 in
theorem F_Sightings_22 : am_F "MovedSpan$Sightings" 22 6 0 := ⟨by decide, am_in 478 (by decide +kernel) rfl⟩
set_option maxRecDepth 100000 in
theorem F_Sightings_26 : am_F "MovedSpan$Sightings" 26 6 1 := ⟨by decide, am_in 479 (by decide +kernel) rfl⟩
set_option maxRecDepth 100000 in
theorem F_Sightings_9 : am_F "MovedSpan$Sightings" 9 6 2 := ⟨by decide, am_in 480 (by decide +kernel) rfl⟩
set_option maxRecDepth 100000 in
theorem F_Sightings_15 : am_F "MovedSpan$Sightings" 15 6 3 := ⟨by decide, am_in 481 (by decide +kernel) rfl⟩
set_option maxRecDepth 100000 in
theorem F_Sightings_18 : am_F "MovedSpan$Sightings" 18 6 4 := ⟨by decide, am_in 482 (by decide +kernel) rfl⟩
set_option maxRecDepth 100000 in
theorem F_Chances_18 : am_F "MovedSpan$Chances" 18 1 0 := ⟨by decide, am_in 500 (by decide +kernel) rfl⟩
set_option maxRecDepth 100000 in
theorem F_Chances_22 : am_F "MovedSpan$Chances" 22 1 1 := ⟨by decide, am_in 501 (by decide +kernel) rfl⟩
set_option maxRecDepth 100000 in
theorem F_Chances_9 : am_F "MovedSpan$Chances" 9 1 2 := ⟨by decide, am_in 502 (by decide +kernel) rfl⟩
set_option maxRecDepth 100000 in
theorem F_Chances_15 : am_F "MovedSpan$Chances" 15 1 3 := ⟨by decide, am_in 503 (by decide +kernel) rfl⟩
set_option maxRecDepth 100000 in
theorem F_Tray_9 : am_F "MovedSpan$Tray" 9 9 0 := ⟨by decide, am_in 518 (by decide +kernel) rfl⟩
set_option maxRecDepth 100000 in
theorem F_Sightings_30 : am_F "MovedSpan$Sightings" 30 9 0 := ⟨by decide, am_in 519 (by decide +kernel) rfl⟩
set_option maxRecDepth 100000 in
theorem F_Top_207 : am_F "MovedSpan" 207 9 0 := ⟨by decide, am_in 520 (by decide +kernel) rfl⟩
set_option maxRecDepth 100000 in
theorem F_Tray_15 : am_F "MovedSpan$Tray" 15 9 1 := ⟨by decide, am_in 521 (by decide +kernel) rfl⟩
set_option maxRecDepth 100000 in
theorem F_Sightings_36 : am_F "MovedSpan$Sightings" 36 9 1 := ⟨by decide, am_in 522 (by decide +kernel) rfl⟩
set_option maxRecDepth 100000 in
theorem F_State_127 : am_F "MovedSpan$State" 127 9 1 := ⟨by decide, am_in 523 (by decide +kernel) rfl⟩
set_option maxRecDepth 100000 in
theorem F_Top_215 : am_F "MovedSpan" 215 9 1 := ⟨by decide, am_in 524 (by decide +kernel) rfl⟩
set_option maxRecDepth 100000 in
theorem F_Tray_19 : am_F "MovedSpan$Tray" 19 9 2 := ⟨by decide, am_in 525 (by decide +kernel) rfl⟩
set_option maxRecDepth 100000 in
theorem F_Tray_22 : am_F "MovedSpan$Tray" 22 9 3 := ⟨by decide, am_in 526 (by decide +kernel) rfl⟩
set_option maxRecDepth 100000 in
theorem F_Top_10 : am_F "MovedSpan" 10 11 0 := ⟨by decide, am_in 536 (by decide +kernel) rfl⟩
set_option maxRecDepth 100000 in
theorem F_Top_19 : am_F "MovedSpan" 19 11 1 := ⟨by decide, am_in 537 (by decide +kernel) rfl⟩
set_option maxRecDepth 100000 in
theorem F_Top_23 : am_F "MovedSpan" 23 11 2 := ⟨by decide, am_in 538 (by decide +kernel) rfl⟩
set_option maxRecDepth 100000 in
theorem F_Top_29 : am_F "MovedSpan" 29 11 3 := ⟨by decide, am_in 539 (by decide +kernel) rfl⟩
set_option maxRecDepth 100000 in
theorem F_Top_33 : am_F "MovedSpan" 33 11 4 := ⟨by decide, am_in 540 (by decide +kernel) rfl⟩
set_option maxRecDepth 100000 in
theorem F_Top_40 : am_F "MovedSpan" 40 11 5 := ⟨by decide, am_in 541 (by decide +kernel) rfl⟩
set_option maxRecDepth 100000 in
theorem F_Top_46 : am_F "MovedSpan" 46 11 6 := ⟨by decide, am_in 542 (by decide +kernel) rfl⟩
set_option maxRecDepth 100000 in
theorem F_Top_50 : am_F "MovedSpan" 50 11 7 := ⟨by decide, am_in 543 (by decide +kernel) rfl⟩
set_option maxRecDepth 100000 in
theorem F_Top_54 : am_F "MovedSpan" 54 11 8 := ⟨by decide, am_in 544 (by decide +kernel) rfl⟩
set_option maxRecDepth 100000 in
theorem F_Top_63 : am_F "MovedSpan" 63 11 9 := ⟨by decide, am_in 545 (by decide +kernel) rfl⟩
set_option maxRecDepth 100000 in
theorem F_Top_72 : am_F "MovedSpan" 72 11 10 := ⟨by decide, am_in 546 (by decide +kernel) rfl⟩
set_option maxRecDepth 100000 in
theorem F_Top_79 : am_F "MovedSpan" 79 11 11 := ⟨by decide, am_in 547 (by decide +kernel) rfl⟩
set_option maxRecDepth 100000 in
theorem F_Top_86 : am_F "MovedSpan" 86 11 12 := ⟨by decide, am_in 548 (by decide +kernel) rfl⟩
set_option maxRecDepth 100000 in
theorem F_Top_90 : am_F "MovedSpan" 90 11 13 := ⟨by decide, am_in 549 (by decide +kernel) rfl⟩
set_option maxRecDepth 100000 in
theorem F_Top_94 : am_F "MovedSpan" 94 11 14 := ⟨by decide, am_in 550 (by decide +kernel) rfl⟩
set_option maxRecDepth 100000 in
theorem Fs_String_38 : Cond.fieldLink "java/lang/String" 38 "java/lang/String" "COMPACT_STRINGS" "Z" ∈ lw_g := am_in 623 (by decide +kernel) rfl
set_option maxRecDepth 100000 in
theorem Fs_String_1053 : Cond.fieldLink "java/lang/String" 1053 "jdk/internal/util/Preconditions" "SIOOBE_FORMATTER" "Ljava/util/function/BiFunction;" ∈ lw_g := am_in 639 (by decide +kernel) rfl
set_option maxRecDepth 100000 in
theorem Fs_StringUTF16_44 : Cond.fieldLink "java/lang/StringUTF16" 44 "java/lang/StringUTF16" "$assertionsDisabled" "Z" ∈ lw_g := am_in 657 (by decide +kernel) rfl
set_option maxRecDepth 100000 in
theorem Fs_StringUTF16_59 : Cond.fieldLink "java/lang/StringUTF16" 59 "java/lang/StringUTF16" "HI_BYTE_SHIFT" "I" ∈ lw_g := am_in 659 (by decide +kernel) rfl
set_option maxRecDepth 100000 in
theorem Fs_StringUTF16_63 : Cond.fieldLink "java/lang/StringUTF16" 63 "java/lang/StringUTF16" "LO_BYTE_SHIFT" "I" ∈ lw_g := am_in 661 (by decide +kernel) rfl
set_option maxRecDepth 100000 in
theorem F_Mod_1 : am_F "MovedSpanModel" 1 12 0 := ⟨by decide, am_in 1435 (by decide +kernel) rfl⟩
set_option maxRecDepth 100000 in
theorem F_Mod_13 : am_F "MovedSpanModel" 13 12 1 := ⟨by decide, am_in 1436 (by decide +kernel) rfl⟩
set_option maxRecDepth 100000 in
theorem F_Mod_17 : am_F "MovedSpanModel" 17 12 2 := ⟨by decide, am_in 1437 (by decide +kernel) rfl⟩
set_option maxRecDepth 100000 in
theorem F_Mod_21 : am_F "MovedSpanModel" 21 12 3 := ⟨by decide, am_in 1438 (by decide +kernel) rfl⟩
set_option maxRecDepth 100000 in
theorem F_Mod_24 : am_F "MovedSpanModel" 24 12 4 := ⟨by decide, am_in 1439 (by decide +kernel) rfl⟩
set_option maxRecDepth 100000 in
theorem F_Mod_95 : am_F "MovedSpanModel" 95 12 5 := ⟨by decide, am_in 1440 (by decide +kernel) rfl⟩
set_option maxRecDepth 100000 in
theorem F_Mod_113 : am_F "MovedSpanModel" 113 12 6 := ⟨by decide, am_in 1441 (by decide +kernel) rfl⟩
set_option maxRecDepth 100000 in
theorem F_Mod_116 : am_F "MovedSpanModel" 116 12 7 := ⟨by decide, am_in 1442 (by decide +kernel) rfl⟩
set_option maxRecDepth 100000 in
theorem F_Mod_98 : am_F "MovedSpanModel" 98 12 8 := ⟨by decide, am_in 1443 (by decide +kernel) rfl⟩
set_option maxRecDepth 100000 in
theorem F_Mod_123 : am_F "MovedSpanModel" 123 12 9 := ⟨by decide, am_in 1444 (by decide +kernel) rfl⟩
set_option maxRecDepth 100000 in
theorem F_Mod_136 : am_F "MovedSpanModel" 136 12 10 := ⟨by decide, am_in 1445 (by decide +kernel) rfl⟩
set_option maxRecDepth 100000 in
theorem F_Mod_141 : am_F "MovedSpanModel" 141 12 11 := ⟨by decide, am_in 1446 (by decide +kernel) rfl⟩
set_option maxRecDepth 100000 in
theorem F_Mod_144 : am_F "MovedSpanModel" 144 12 12 := ⟨by decide, am_in 1447 (by decide +kernel) rfl⟩
set_option maxRecDepth 100000 in
theorem F_Mod_219 : am_F "MovedSpanModel" 219 12 13 := ⟨by decide, am_in 1448 (by decide +kernel) rfl⟩
set_option maxRecDepth 100000 in
theorem F_Mod_27 : am_F "MovedSpanModel" 27 12 14 := ⟨by decide, am_in 1449 (by decide +kernel) rfl⟩
set_option maxRecDepth 100000 in
theorem F_Mod_161 : am_F "MovedSpanModel" 161 12 15 := ⟨by decide, am_in 1450 (by decide +kernel) rfl⟩
set_option maxRecDepth 100000 in
theorem F_Mod_30 : am_F "MovedSpanModel" 30 12 16 := ⟨by decide, am_in 1451 (by decide +kernel) rfl⟩
set_option maxRecDepth 100000 in
theorem F_Mod_33 : am_F "MovedSpanModel" 33 12 17 := ⟨by decide, am_in 1452 (by decide +kernel) rfl⟩
set_option maxRecDepth 100000 in
theorem F_Mod_36 : am_F "MovedSpanModel" 36 12 18 := ⟨by decide, am_in 1453 (by decide +kernel) rfl⟩
set_option maxRecDepth 100000 in
theorem F_Mod_297 : am_F "MovedSpanModel" 297 12 19 := ⟨by decide, am_in 1454 (by decide +kernel) rfl⟩
set_option maxRecDepth 100000 in
theorem F_Mod_319 : am_F "MovedSpanModel" 319 12 20 := ⟨by decide, am_in 1455 (by decide +kernel) rfl⟩
set_option maxRecDepth 100000 in
theorem F_Mod_39 : am_F "MovedSpanModel" 39 12 21 := ⟨by decide, am_in 1456 (by decide +kernel) rfl⟩
set_option maxRecDepth 100000 in
theorem F_Mod_42 : am_F "MovedSpanModel" 42 12 22 := ⟨by decide, am_in 1457 (by decide +kernel) rfl⟩
set_option maxRecDepth 100000 in
theorem F_Mod_45 : am_F "MovedSpanModel" 45 12 23 := ⟨by decide, am_in 1458 (by decide +kernel) rfl⟩
set_option maxRecDepth 100000 in
theorem F_Mod_48 : am_F "MovedSpanModel" 48 12 24 := ⟨by decide, am_in 1459 (by decide +kernel) rfl⟩
set_option maxRecDepth 100000 in
theorem F_Mod_51 : am_F "MovedSpanModel" 51 12 25 := ⟨by decide, am_in 1460 (by decide +kernel) rfl⟩
set_option maxRecDepth 100000 in
theorem F_Mod_54 : am_F "MovedSpanModel" 54 12 26 := ⟨by decide, am_in 1461 (by decide +kernel) rfl⟩
set_option maxRecDepth 100000 in
theorem F_Mod_58 : am_F "MovedSpanModel" 58 12 27 := ⟨by decide, am_in 1462 (by decide +kernel) rfl⟩
set_option maxRecDepth 100000 in
theorem F_Mod_61 : am_F "MovedSpanModel" 61 12 28 := ⟨by decide, am_in 1463 (by decide +kernel) rfl⟩
set_option maxRecDepth 100000 in
theorem F_Mod_64 : am_F "MovedSpanModel" 64 12 29 := ⟨by decide, am_in 1464 (by decide +kernel) rfl⟩
set_option maxRecDepth 100000 in
theorem F_Mod_67 : am_F "MovedSpanModel" 67 12 30 := ⟨by decide, am_in 1465 (by decide +kernel) rfl⟩
set_option maxRecDepth 100000 in
theorem F_Mod_70 : am_F "MovedSpanModel" 70 12 31 := ⟨by decide, am_in 1466 (by decide +kernel) rfl⟩
set_option maxRecDepth 100000 in
theorem F_Mod_73 : am_F "MovedSpanModel" 73 12 32 := ⟨by decide, am_in 1467 (by decide +kernel) rfl⟩
set_option maxRecDepth 100000 in
theorem F_Mod_393 : am_F "MovedSpanModel" 393 12 33 := ⟨by decide, am_in 1468 (by decide +kernel) rfl⟩
set_option maxRecDepth 100000 in
theorem F_Mod_396 : am_F "MovedSpanModel" 396 12 34 := ⟨by decide, am_in 1469 (by decide +kernel) rfl⟩
set_option maxRecDepth 100000 in
theorem F_Mod_387 : am_F "MovedSpanModel" 387 12 35 := ⟨by decide, am_in 1470 (by decide +kernel) rfl⟩
set_option maxRecDepth 100000 in
theorem F_Mod_76 : am_F "MovedSpanModel" 76 12 36 := ⟨by decide, am_in 1471 (by decide +kernel) rfl⟩
set_option maxRecDepth 100000 in
theorem F_Mod_79 : am_F "MovedSpanModel" 79 12 37 := ⟨by decide, am_in 1472 (by decide +kernel) rfl⟩
set_option maxRecDepth 100000 in
theorem F_Mod_82 : am_F "MovedSpanModel" 82 12 38 := ⟨by decide, am_in 1473 (by decide +kernel) rfl⟩
set_option maxRecDepth 100000 in
theorem F_Mod_85 : am_F "MovedSpanModel" 85 12 39 := ⟨by decide, am_in 1474 (by decide +kernel) rfl⟩
set_option maxRecDepth 100000 in
theorem F_Mod_88 : am_F "MovedSpanModel" 88 12 40 := ⟨by decide, am_in 1475 (by decide +kernel) rfl⟩
set_option maxRecDepth 100000 in
theorem Fs_String_9 : Cond.fieldLink "java/lang/String" 9 "java/lang/String" "value" "[B" ∈ lw_g := am_in 2039 (by decide +kernel) rfl
set_option maxRecDepth 100000 in
theorem Fs_String_15 : Cond.fieldLink "java/lang/String" 15 "java/lang/String" "coder" "B" ∈ lw_g := am_in 2040 (by decide +kernel) rfl
set_option maxRecDepth 100000 in
theorem L_Lw_9 : Cond.methodLink "MovedSpanLaw" 9 M_Top_init.1 ∈ lw_g := am_in 144 (by decide +kernel) rfl
set_option maxRecDepth 100000 in
theorem L_Top_1 : Cond.methodLink "MovedSpan" 1 Lib.objectInit ∈ lw_g := am_in 147 (by decide +kernel) rfl
set_option maxRecDepth 100000 in
theorem L_River_3 : Cond.methodLink "MovedSpan$River" 3 Lib.objectInit ∈ lw_g := am_in 155 (by decide +kernel) rfl
set_option maxRecDepth 100000 in
theorem L_State_3 : Cond.methodLink "MovedSpan$State" 3 Lib.objectInit ∈ lw_g := am_in 239 (by decide +kernel) rfl
set_option maxRecDepth 100000 in
theorem L_Top_28 : Cond.methodLink "MovedSpan" 28 M_Past_init.1 ∈ lw_g := am_in 282 (by decide +kernel) rfl
set_option maxRecDepth 100000 in
theorem L_Past_3 : Cond.methodLink "MovedSpan$Past" 3 Lib.objectInit ∈ lw_g := am_in 285 (by decide +kernel) rfl
set_option maxRecDepth 100000 in
theorem L_Reader_3 : Cond.methodLink "MovedSpan$Reader" 3 Lib.objectInit ∈ lw_g := am_in 305 (by decide +kernel) rfl
set_option maxRecDepth 100000 in
theorem L_Tokens_3 : Cond.methodLink "MovedSpan$Tokens" 3 Lib.objectInit ∈ lw_g := am_in 313 (by decide +kernel) rfl
set_option maxRecDepth 100000 in
theorem L_Reader_37 : Cond.methodLink "MovedSpan$Reader" 37 M_Law_init.1 ∈ lw_g := am_in 334 (by decide +kernel) rfl
set_option maxRecDepth 100000 in
theorem L_Law_3 : Cond.methodLink "MovedSpan$Law" 3 Lib.objectInit ∈ lw_g := am_in 337 (by decide +kernel) rfl
set_option maxRecDepth 100000 in
theorem L_Top_60 : Cond.methodLink "MovedSpan" 60 M_Ahead_init.1 ∈ lw_g := am_in 393 (by decide +kernel) rfl
set_option maxRecDepth 100000 in
theorem L_Ahead_3 : Cond.methodLink "MovedSpan$Ahead" 3 Lib.objectInit ∈ lw_g := am_in 396 (by decide +kernel) rfl
set_option maxRecDepth 100000 in
theorem L_Top_69 : Cond.methodLink "MovedSpan" 69 M_Weeks_init.1 ∈ lw_g := am_in 419 (by decide +kernel) rfl
set_option maxRecDepth 100000 in
theorem L_Weeks_3 : Cond.methodLink "MovedSpan$Weeks" 3 Lib.objectInit ∈ lw_g := am_in 422 (by decide +kernel) rfl
set_option maxRecDepth 100000 in
theorem L_Top_78 : Cond.methodLink "MovedSpan" 78 M_Sightings_init.1 ∈ lw_g := am_in 474 (by decide +kernel) rfl
set_option maxRecDepth 100000 in
theorem L_Sightings_3 : Cond.methodLink "MovedSpan$Sightings" 3 Lib.objectInit ∈ lw_g := am_in 477 (by decide +kernel) rfl
set_option maxRecDepth 100000 in
theorem L_Top_85 : Cond.methodLink "MovedSpan" 85 M_Chances_init.1 ∈ lw_g := am_in 496 (by decide +kernel) rfl
set_option maxRecDepth 100000 in
theorem L_Chances_3 : Cond.methodLink "MovedSpan$Chances" 3 Lib.objectInit ∈ lw_g := am_in 499 (by decide +kernel) rfl
set_option maxRecDepth 100000 in
theorem L_Tray_3 : Cond.methodLink "MovedSpan$Tray" 3 Lib.objectInit ∈ lw_g := am_in 517 (by decide +kernel) rfl
set_option maxRecDepth 100000 in
theorem L_Lw_13 : Cond.methodLink "MovedSpanLaw" 13 M_Top_feed.1 ∈ lw_g := am_in 582 (by decide +kernel) rfl
set_option maxRecDepth 100000 in
theorem L_Top_98 : Cond.methodLink "MovedSpan" 98 M_Top_putBytes.1 ∈ lw_g := am_in 586 (by decide +kernel) rfl
set_option maxRecDepth 100000 in
theorem L_Lw_18 : Cond.methodLink "MovedSpanLaw" 18 M_Top_river.1 ∈ lw_g := am_in 590 (by decide +kernel) rfl
set_option maxRecDepth 100000 in
theorem L_Top_102 : Cond.methodLink "MovedSpan" 102 M_Reader_read.1 ∈ lw_g := am_in 594 (by decide +kernel) rfl
set_option maxRecDepth 100000 in
theorem L_Reader_50 : Cond.methodLink "MovedSpan$Reader" 50 M_Tokens_cut.1 ∈ lw_g := am_in 598 (by decide +kernel) rfl
set_option maxRecDepth 100000 in
theorem L_Tokens_25 : Cond.methodLink "MovedSpan$Tokens" 25 M_Tokens_isLetter.1 ∈ lw_g := am_in 602 (by decide +kernel) rfl
set_option maxRecDepth 100000 in
theorem L_Tokens_29 : Cond.methodLink "MovedSpan$Tokens" 29 M_Tokens_endOf.1 ∈ lw_g := am_in 605 (by decide +kernel) rfl
set_option maxRecDepth 100000 in
theorem L_Tokens_41 : Cond.methodLink "MovedSpan$Tokens" 41 M_Tokens_isDigit.1 ∈ lw_g := am_in 608 (by decide +kernel) rfl
set_option maxRecDepth 100000 in
theorem L_Tokens_33 : Cond.methodLink "MovedSpan$Tokens" 33 M_Tokens_wordKind.1 ∈ lw_g := am_in 611 (by decide +kernel) rfl
set_option maxRecDepth 100000 in
theorem L_Tokens_57 : Cond.methodLink "MovedSpan$Tokens" 57 M_String_length.1 ∈ lw_g := am_in 615 (by decide +kernel) rfl
set_option maxRecDepth 100000 in
theorem L_String_335 : Cond.methodLink "java/lang/String" 335 M_String_coder.1 ∈ lw_g := am_in 619 (by decide +kernel) rfl
set_option maxRecDepth 100000 in
theorem L_Tokens_61 : Cond.methodLink "MovedSpan$Tokens" 61 M_String_charAt.1 ∈ lw_g := am_in 625 (by decide +kernel) rfl
set_option maxRecDepth 100000 in
theorem L_String_492 : Cond.methodLink "java/lang/String" 492 M_String_isLatin1.1 ∈ lw_g := am_in 629 (by decide +kernel) rfl
set_option maxRecDepth 100000 in
theorem L_String_495 : Cond.methodLink "java/lang/String" 495 M_StringLatin1_charAt.1 ∈ lw_g := am_in 633 (by decide +kernel) rfl
set_option maxRecDepth 100000 in
theorem L_StringLatin1_9 : Cond.methodLink "java/lang/StringLatin1" 9 M_String_checkIndex.1 ∈ lw_g := am_in 636 (by decide +kernel) rfl
set_option maxRecDepth 100000 in
theorem L_String_1059 : Cond.methodLink "java/lang/String" 1059 M_Preconditions_checkIndex.1 ∈ lw_g := am_in 641 (by decide +kernel) rfl
set_option maxRecDepth 100000 in
theorem L_String_498 : Cond.methodLink "java/lang/String" 498 M_StringUTF16_charAt.1 ∈ lw_g := am_in 644 (by decide +kernel) rfl
set_option maxRecDepth 100000 in
theorem L_StringUTF16_67 : Cond.methodLink "java/lang/StringUTF16" 67 M_StringUTF16_checkIndex.1 ∈ lw_g := am_in 647 (by decide +kernel) rfl
set_option maxRecDepth 100000 in
theorem L_StringUTF16_48 : Cond.methodLink "java/lang/StringUTF16" 48 M_StringUTF16_length.1 ∈ lw_g := am_in 650 (by decide +kernel) rfl
set_option maxRecDepth 100000 in
theorem L_StringUTF16_414 : Cond.methodLink "java/lang/StringUTF16" 414 M_String_checkIndex.1 ∈ lw_g := am_in 653 (by decide +kernel) rfl
set_option maxRecDepth 100000 in
theorem L_StringUTF16_71 : Cond.methodLink "java/lang/StringUTF16" 71 M_StringUTF16_getChar.1 ∈ lw_g := am_in 654 (by decide +kernel) rfl
set_option maxRecDepth 100000 in
theorem L_Tokens_65 : Cond.methodLink "MovedSpan$Tokens" 65 M_Tokens_isWordAt.1 ∈ lw_g := am_in 663 (by decide +kernel) rfl
set_option maxRecDepth 100000 in
theorem L_Tokens_37 : Cond.methodLink "MovedSpan$Tokens" 37 M_Tokens_add.1 ∈ lw_g := am_in 666 (by decide +kernel) rfl
set_option maxRecDepth 100000 in
theorem L_Tokens_44 : Cond.methodLink "MovedSpan$Tokens" 44 M_Tokens_valueOf.1 ∈ lw_g := am_in 670 (by decide +kernel) rfl
set_option maxRecDepth 100000 in
theorem L_Tokens_49 : Cond.methodLink "MovedSpan$Tokens" 49 M_String_indexOf.1 ∈ lw_g := am_in 674 (by decide +kernel) rfl
set_option maxRecDepth 100000 in
theorem L_String_633 : Cond.methodLink "java/lang/String" 633 M_String_indexOf_III.1 ∈ lw_g := am_in 678 (by decide +kernel) rfl
set_option maxRecDepth 100000 in
theorem L_String_505 : Cond.methodLink "java/lang/String" 505 M_String_length.1 ∈ lw_g := am_in 682 (by decide +kernel) rfl
set_option maxRecDepth 100000 in
theorem L_String_637 : Cond.methodLink "java/lang/String" 637 M_StringLatin1_indexOf.1 ∈ lw_g := am_in 683 (by decide +kernel) rfl
set_option maxRecDepth 100000 in
theorem L_StringLatin1_88 : Cond.methodLink "java/lang/StringLatin1" 88 M_StringLatin1_canEncode.1 ∈ lw_g := am_in 686 (by decide +kernel) rfl
set_option maxRecDepth 100000 in
theorem L_StringLatin1_92 : Cond.methodLink "java/lang/StringLatin1" 92 M_Math_max.1 ∈ lw_g := am_in 689 (by decide +kernel) rfl
set_option maxRecDepth 100000 in
theorem L_StringLatin1_38 : Cond.methodLink "java/lang/StringLatin1" 38 M_Math_min.1 ∈ lw_g := am_in 692 (by decide +kernel) rfl
set_option maxRecDepth 100000 in
theorem L_StringLatin1_95 : Cond.methodLink "java/lang/StringLatin1" 95 M_StringLatin1_indexOfChar.1 ∈ lw_g := am_in 695 (by decide +kernel) rfl
set_option maxRecDepth 100000 in
theorem L_String_640 : Cond.methodLink "java/lang/String" 640 M_StringUTF16_indexOf.1 ∈ lw_g := am_in 698 (by decide +kernel) rfl
set_option maxRecDepth 100000 in
theorem L_StringUTF16_224 : Cond.methodLink "java/lang/StringUTF16" 224 M_Math_max.1 ∈ lw_g := am_in 701 (by decide +kernel) rfl
set_option maxRecDepth 100000 in
theorem L_StringUTF16_183 : Cond.methodLink "java/lang/StringUTF16" 183 M_Math_min.1 ∈ lw_g := am_in 702 (by decide +kernel) rfl
set_option maxRecDepth 100000 in
theorem L_StringUTF16_228 : Cond.methodLink "java/lang/StringUTF16" 228 M_StringUTF16_indexOfChar.1 ∈ lw_g := am_in 704 (by decide +kernel) rfl
set_option maxRecDepth 100000 in
theorem L_StringUTF16_96 : Cond.methodLink "java/lang/StringUTF16" 96 M_StringUTF16_checkBoundsBeginEnd.1 ∈ lw_g := am_in 707 (by decide +kernel) rfl
set_option maxRecDepth 100000 in
theorem L_StringUTF16_241 : Cond.methodLink "java/lang/StringUTF16" 241 M_String_checkBoundsBeginEnd.1 ∈ lw_g := am_in 710 (by decide +kernel) rfl
set_option maxRecDepth 100000 in
theorem L_String_1062 : Cond.methodLink "java/lang/String" 1062 M_Preconditions_checkFromToIndex.1 ∈ lw_g := am_in 713 (by decide +kernel) rfl
set_option maxRecDepth 100000 in
theorem L_StringUTF16_244 : Cond.methodLink "java/lang/StringUTF16" 244 M_StringUTF16_indexOfCharUnsafe.1 ∈ lw_g := am_in 716 (by decide +kernel) rfl
set_option maxRecDepth 100000 in
theorem L_StringUTF16_232 : Cond.methodLink "java/lang/StringUTF16" 232 M_StringUTF16_indexOfSupplementary.1 ∈ lw_g := am_in 719 (by decide +kernel) rfl
set_option maxRecDepth 100000 in
theorem L_StringUTF16_164 : Cond.methodLink "java/lang/StringUTF16" 164 M_Character_isValidCodePoint.1 ∈ lw_g := am_in 722 (by decide +kernel) rfl
set_option maxRecDepth 100000 in
theorem L_StringUTF16_157 : Cond.methodLink "java/lang/StringUTF16" 157 M_Character_highSurrogate.1 ∈ lw_g := am_in 725 (by decide +kernel) rfl
set_option maxRecDepth 100000 in
theorem L_StringUTF16_161 : Cond.methodLink "java/lang/StringUTF16" 161 M_Character_lowSurrogate.1 ∈ lw_g := am_in 729 (by decide +kernel) rfl
set_option maxRecDepth 100000 in
theorem L_Reader_54 : Cond.methodLink "MovedSpan$Reader" 54 M_River_clear.1 ∈ lw_g := am_in 733 (by decide +kernel) rfl
set_option maxRecDepth 100000 in
theorem L_River_55 : Cond.methodLink "MovedSpan$River" 55 M_Arrays_fill.1 ∈ lw_g := am_in 737 (by decide +kernel) rfl
set_option maxRecDepth 100000 in
theorem L_Reader_57 : Cond.methodLink "MovedSpan$Reader" 57 M_Law_clear.1 ∈ lw_g := am_in 740 (by decide +kernel) rfl
set_option maxRecDepth 100000 in
theorem L_Reader_58 : Cond.methodLink "MovedSpan$Reader" 58 M_Reader_readHead.1 ∈ lw_g := am_in 744 (by decide +kernel) rfl
set_option maxRecDepth 100000 in
theorem L_Reader_68 : Cond.methodLink "MovedSpan$Reader" 68 M_Reader_expect.1 ∈ lw_g := am_in 748 (by decide +kernel) rfl
set_option maxRecDepth 100000 in
theorem L_Reader_114 : Cond.methodLink "MovedSpan$Reader" 114 M_Reader_take.1 ∈ lw_g := am_in 752 (by decide +kernel) rfl
set_option maxRecDepth 100000 in
theorem L_Reader_61 : Cond.methodLink "MovedSpan$Reader" 61 M_Reader_kind.1 ∈ lw_g := am_in 756 (by decide +kernel) rfl
set_option maxRecDepth 100000 in
theorem L_Reader_95 : Cond.methodLink "MovedSpan$Reader" 95 M_Reader_blame.1 ∈ lw_g := am_in 760 (by decide +kernel) rfl
set_option maxRecDepth 100000 in
theorem L_Reader_79 : Cond.methodLink "MovedSpan$Reader" 79 M_Reader_readNumber.1 ∈ lw_g := am_in 764 (by decide +kernel) rfl
set_option maxRecDepth 100000 in
theorem L_Reader_65 : Cond.methodLink "MovedSpan$Reader" 65 M_Reader_readLine.1 ∈ lw_g := am_in 768 (by decide +kernel) rfl
set_option maxRecDepth 100000 in
theorem L_Reader_89 : Cond.methodLink "MovedSpan$Reader" 89 M_Reader_readSpan.1 ∈ lw_g := am_in 772 (by decide +kernel) rfl
set_option maxRecDepth 100000 in
theorem L_Reader_98 : Cond.methodLink "MovedSpan$Reader" 98 M_Reader_readPerson.1 ∈ lw_g := am_in 776 (by decide +kernel) rfl
set_option maxRecDepth 100000 in
theorem L_Reader_125 : Cond.methodLink "MovedSpan$Reader" 125 M_Reader_readSpot.1 ∈ lw_g := am_in 780 (by decide +kernel) rfl
set_option maxRecDepth 100000 in
theorem L_Reader_101 : Cond.methodLink "MovedSpan$Reader" 101 M_Reader_beginLaw.1 ∈ lw_g := am_in 784 (by decide +kernel) rfl
set_option maxRecDepth 100000 in
theorem L_Reader_105 : Cond.methodLink "MovedSpan$Reader" 105 M_Reader_readTruth.1 ∈ lw_g := am_in 788 (by decide +kernel) rfl
set_option maxRecDepth 100000 in
theorem L_Reader_141 : Cond.methodLink "MovedSpan$Reader" 141 M_Reader_readBoth.1 ∈ lw_g := am_in 792 (by decide +kernel) rfl
set_option maxRecDepth 100000 in
theorem L_Reader_147 : Cond.methodLink "MovedSpan$Reader" 147 M_Reader_readUnit.1 ∈ lw_g := am_in 796 (by decide +kernel) rfl
set_option maxRecDepth 100000 in
theorem L_Reader_144 : Cond.methodLink "MovedSpan$Reader" 144 M_Law_put.1 ∈ lw_g := am_in 800 (by decide +kernel) rfl
set_option maxRecDepth 100000 in
theorem L_Reader_150 : Cond.methodLink "MovedSpan$Reader" 150 M_Reader_readSum.1 ∈ lw_g := am_in 804 (by decide +kernel) rfl
set_option maxRecDepth 100000 in
theorem L_Reader_156 : Cond.methodLink "MovedSpan$Reader" 156 M_Reader_readTerm.1 ∈ lw_g := am_in 808 (by decide +kernel) rfl
set_option maxRecDepth 100000 in
theorem L_Reader_159 : Cond.methodLink "MovedSpan$Reader" 159 M_Reader_readAtom.1 ∈ lw_g := am_in 812 (by decide +kernel) rfl
set_option maxRecDepth 100000 in
theorem L_Reader_162 : Cond.methodLink "MovedSpan$Reader" 162 M_Reader_askedBy.1 ∈ lw_g := am_in 816 (by decide +kernel) rfl
set_option maxRecDepth 100000 in
theorem L_Reader_153 : Cond.methodLink "MovedSpan$Reader" 153 M_Reader_comparing.1 ∈ lw_g := am_in 820 (by decide +kernel) rfl
set_option maxRecDepth 100000 in
theorem L_Reader_75 : Cond.methodLink "MovedSpan$Reader" 75 M_River_fillRows.1 ∈ lw_g := am_in 824 (by decide +kernel) rfl
set_option maxRecDepth 100000 in
theorem L_River_67 : Cond.methodLink "MovedSpan$River" 67 M_River_row.1 ∈ lw_g := am_in 828 (by decide +kernel) rfl
set_option maxRecDepth 100000 in
theorem L_River_71 : Cond.methodLink "MovedSpan$River" 71 M_River_walkable.1 ∈ lw_g := am_in 831 (by decide +kernel) rfl
set_option maxRecDepth 100000 in
theorem L_River_78 : Cond.methodLink "MovedSpan$River" 78 M_Law_ask.1 ∈ lw_g := am_in 835 (by decide +kernel) rfl
set_option maxRecDepth 100000 in
theorem L_River_88 : Cond.methodLink "MovedSpan$River" 88 M_Law_holds.1 ∈ lw_g := am_in 839 (by decide +kernel) rfl
set_option maxRecDepth 100000 in
theorem L_Law_32 : Cond.methodLink "MovedSpan$Law" 32 M_Law_join.1 ∈ lw_g := am_in 843 (by decide +kernel) rfl
set_option maxRecDepth 100000 in
theorem L_Law_36 : Cond.methodLink "MovedSpan$Law" 36 M_Law_kept.1 ∈ lw_g := am_in 846 (by decide +kernel) rfl
set_option maxRecDepth 100000 in
theorem L_Law_44 : Cond.methodLink "MovedSpan$Law" 44 M_Math_min_JJJ.1 ∈ lw_g := am_in 851 (by decide +kernel) rfl
set_option maxRecDepth 100000 in
theorem L_Law_50 : Cond.methodLink "MovedSpan$Law" 50 M_Math_max_JJJ.1 ∈ lw_g := am_in 854 (by decide +kernel) rfl
set_option maxRecDepth 100000 in
theorem L_River_75 : Cond.methodLink "MovedSpan$River" 75 M_River_serving.1 ∈ lw_g := am_in 857 (by decide +kernel) rfl
set_option maxRecDepth 100000 in
theorem L_Top_109 : Cond.methodLink "MovedSpan" 109 M_River_copyFrom.1 ∈ lw_g := am_in 861 (by decide +kernel) rfl
set_option maxRecDepth 100000 in
theorem L_River_61 : Cond.methodLink "MovedSpan$River" 61 arraycopyName ∈ lw_g := am_in 865 (by decide +kernel) rfl
set_option maxRecDepth 100000 in
theorem L_Top_113 : Cond.methodLink "MovedSpan" 113 M_State_begin.1 ∈ lw_g := am_in 868 (by decide +kernel) rfl
set_option maxRecDepth 100000 in
theorem L_State_31 : Cond.methodLink "MovedSpan$State" 31 arraycopyName ∈ lw_g := am_in 872 (by decide +kernel) rfl
set_option maxRecDepth 100000 in
theorem L_State_48 : Cond.methodLink "MovedSpan$State" 48 M_Arrays_fill.1 ∈ lw_g := am_in 873 (by decide +kernel) rfl
set_option maxRecDepth 100000 in
theorem L_State_54 : Cond.methodLink "MovedSpan$State" 54 M_State_markDone.1 ∈ lw_g := am_in 874 (by decide +kernel) rfl
set_option maxRecDepth 100000 in
theorem L_Top_116 : Cond.methodLink "MovedSpan" 116 M_Past_forget.1 ∈ lw_g := am_in 878 (by decide +kernel) rfl
set_option maxRecDepth 100000 in
theorem L_Top_119 : Cond.methodLink "MovedSpan" 119 M_Weeks_forget.1 ∈ lw_g := am_in 882 (by decide +kernel) rfl
set_option maxRecDepth 100000 in
theorem L_Lw_23 : Cond.methodLink "MovedSpanLaw" 23 M_Top_fault.1 ∈ lw_g := am_in 886 (by decide +kernel) rfl
set_option maxRecDepth 100000 in
theorem L_Lw_27 : Cond.methodLink "MovedSpanLaw" 27 M_Top_span.1 ∈ lw_g := am_in 890 (by decide +kernel) rfl
set_option maxRecDepth 100000 in
theorem L_Top_136 : Cond.methodLink "MovedSpan" 136 M_River_hourOfWeek.1 ∈ lw_g := am_in 894 (by decide +kernel) rfl
set_option maxRecDepth 100000 in
theorem L_Lw_31 : Cond.methodLink "MovedSpanLaw" 31 M_Top_person.1 ∈ lw_g := am_in 898 (by decide +kernel) rfl
set_option maxRecDepth 100000 in
theorem L_Top_140 : Cond.methodLink "MovedSpan" 140 M_River_hasPerson.1 ∈ lw_g := am_in 902 (by decide +kernel) rfl
set_option maxRecDepth 100000 in
theorem L_Lw_36 : Cond.methodLink "MovedSpanLaw" 36 M_Top_why.1 ∈ lw_g := am_in 906 (by decide +kernel) rfl
set_option maxRecDepth 100000 in
theorem L_Top_162 : Cond.methodLink "MovedSpan" 162 M_State_hindrance.1 ∈ lw_g := am_in 910 (by decide +kernel) rfl
set_option maxRecDepth 100000 in
theorem L_State_71 : Cond.methodLink "MovedSpan$State" 71 M_River_hasPerson.1 ∈ lw_g := am_in 914 (by decide +kernel) rfl
set_option maxRecDepth 100000 in
theorem L_State_67 : Cond.methodLink "MovedSpan$State" 67 M_River_hourOfWeek.1 ∈ lw_g := am_in 915 (by decide +kernel) rfl
set_option maxRecDepth 100000 in
theorem L_State_75 : Cond.methodLink "MovedSpan$State" 75 M_River_row.1 ∈ lw_g := am_in 916 (by decide +kernel) rfl
set_option maxRecDepth 100000 in
theorem L_State_79 : Cond.methodLink "MovedSpan$State" 79 M_State_lies.1 ∈ lw_g := am_in 917 (by decide +kernel) rfl
set_option maxRecDepth 100000 in
theorem L_State_83 : Cond.methodLink "MovedSpan$State" 83 M_River_hindrance.1 ∈ lw_g := am_in 921 (by decide +kernel) rfl
set_option maxRecDepth 100000 in
theorem L_Lw_40 : Cond.methodLink "MovedSpanLaw" 40 M_Top_act.1 ∈ lw_g := am_in 928 (by decide +kernel) rfl
set_option maxRecDepth 100000 in
theorem L_Top_166 : Cond.methodLink "MovedSpan" 166 M_Top_willChange.1 ∈ lw_g := am_in 932 (by decide +kernel) rfl
set_option maxRecDepth 100000 in
theorem L_Top_362 : Cond.methodLink "MovedSpan" 362 M_Past_keep.1 ∈ lw_g := am_in 936 (by decide +kernel) rfl
set_option maxRecDepth 100000 in
theorem L_Past_25 : Cond.methodLink "MovedSpan$Past" 25 M_State_copyFrom.1 ∈ lw_g := am_in 940 (by decide +kernel) rfl
set_option maxRecDepth 100000 in
theorem L_Top_169 : Cond.methodLink "MovedSpan" 169 M_State_lies.1 ∈ lw_g := am_in 944 (by decide +kernel) rfl
set_option maxRecDepth 100000 in
theorem L_Top_173 : Cond.methodLink "MovedSpan" 173 M_River_moved.1 ∈ lw_g := am_in 945 (by decide +kernel) rfl
set_option maxRecDepth 100000 in
theorem L_Lw_44 : Cond.methodLink "MovedSpanLaw" 44 M_Top_tell.1 ∈ lw_g := am_in 948 (by decide +kernel) rfl
set_option maxRecDepth 100000 in
theorem L_Top_177 : Cond.methodLink "MovedSpan" 177 M_River_hasHour.1 ∈ lw_g := am_in 952 (by decide +kernel) rfl
set_option maxRecDepth 100000 in
theorem L_Top_180 : Cond.methodLink "MovedSpan" 180 M_River_hasGap.1 ∈ lw_g := am_in 956 (by decide +kernel) rfl
set_option maxRecDepth 100000 in
theorem L_Lw_48 : Cond.methodLink "MovedSpanLaw" 48 M_Top_fog.1 ∈ lw_g := am_in 960 (by decide +kernel) rfl
set_option maxRecDepth 100000 in
theorem L_Lw_52 : Cond.methodLink "MovedSpanLaw" 52 M_Top_hours.1 ∈ lw_g := am_in 964 (by decide +kernel) rfl
set_option maxRecDepth 100000 in
theorem L_Top_186 : Cond.methodLink "MovedSpan" 186 M_Integer_bitCount.1 ∈ lw_g := am_in 968 (by decide +kernel) rfl
set_option maxRecDepth 100000 in
theorem L_Top_191 : Cond.methodLink "MovedSpan" 191 M_State_passHour.1 ∈ lw_g := am_in 974 (by decide +kernel) rfl
set_option maxRecDepth 100000 in
theorem L_State_87 : Cond.methodLink "MovedSpan$State" 87 M_State_hindrance.1 ∈ lw_g := am_in 978 (by decide +kernel) rfl
set_option maxRecDepth 100000 in
theorem L_State_90 : Cond.methodLink "MovedSpan$State" 90 M_River_moved.1 ∈ lw_g := am_in 979 (by decide +kernel) rfl
set_option maxRecDepth 100000 in
theorem L_State_94 : Cond.methodLink "MovedSpan$State" 94 M_Math_max.1 ∈ lw_g := am_in 980 (by decide +kernel) rfl
set_option maxRecDepth 100000 in
theorem L_Lw_56 : Cond.methodLink "MovedSpanLaw" 56 M_Top_undo.1 ∈ lw_g := am_in 981 (by decide +kernel) rfl
set_option maxRecDepth 100000 in
theorem L_Top_197 : Cond.methodLink "MovedSpan" 197 M_Past_back.1 ∈ lw_g := am_in 985 (by decide +kernel) rfl
set_option maxRecDepth 100000 in
theorem L_Past_29 : Cond.methodLink "MovedSpan$Past" 29 M_Math_max.1 ∈ lw_g := am_in 989 (by decide +kernel) rfl
set_option maxRecDepth 100000 in
theorem L_Top_201 : Cond.methodLink "MovedSpan" 201 M_State_copyFrom.1 ∈ lw_g := am_in 990 (by decide +kernel) rfl
set_option maxRecDepth 100000 in
theorem L_Lw_60 : Cond.methodLink "MovedSpanLaw" 60 M_Top_judge.1 ∈ lw_g := am_in 991 (by decide +kernel) rfl
set_option maxRecDepth 100000 in
theorem L_Top_204 : Cond.methodLink "MovedSpan" 204 M_Top_isTray.1 ∈ lw_g := am_in 995 (by decide +kernel) rfl
set_option maxRecDepth 100000 in
theorem L_Top_211 : Cond.methodLink "MovedSpan" 211 M_State_doAll.1 ∈ lw_g := am_in 998 (by decide +kernel) rfl
set_option maxRecDepth 100000 in
theorem L_State_132 : Cond.methodLink "MovedSpan$State" 132 M_Tray_at.1 ∈ lw_g := am_in 1002 (by decide +kernel) rfl
set_option maxRecDepth 100000 in
theorem L_State_136 : Cond.methodLink "MovedSpan$State" 136 M_State_doDeed.1 ∈ lw_g := am_in 1006 (by decide +kernel) rfl
set_option maxRecDepth 100000 in
theorem L_State_102 : Cond.methodLink "MovedSpan$State" 102 M_State_passHour.1 ∈ lw_g := am_in 1011 (by decide +kernel) rfl
set_option maxRecDepth 100000 in
theorem L_State_107 : Cond.methodLink "MovedSpan$State" 107 M_State_tellAct.1 ∈ lw_g := am_in 1013 (by decide +kernel) rfl
set_option maxRecDepth 100000 in
theorem L_State_114 : Cond.methodLink "MovedSpan$State" 114 M_State_tellWeek.1 ∈ lw_g := am_in 1019 (by decide +kernel) rfl
set_option maxRecDepth 100000 in
theorem L_State_121 : Cond.methodLink "MovedSpan$State" 121 M_River_hasHour.1 ∈ lw_g := am_in 1023 (by decide +kernel) rfl
set_option maxRecDepth 100000 in
theorem L_State_124 : Cond.methodLink "MovedSpan$State" 124 M_River_hasGap.1 ∈ lw_g := am_in 1024 (by decide +kernel) rfl
set_option maxRecDepth 100000 in
theorem L_Top_216 : Cond.methodLink "MovedSpan" 216 M_Tray_at.1 ∈ lw_g := am_in 1027 (by decide +kernel) rfl
set_option maxRecDepth 100000 in
theorem L_Top_220 : Cond.methodLink "MovedSpan" 220 M_State_doDeed.1 ∈ lw_g := am_in 1028 (by decide +kernel) rfl
set_option maxRecDepth 100000 in
theorem L_Lw_64 : Cond.methodLink "MovedSpanLaw" 64 M_Top_perform.1 ∈ lw_g := am_in 1029 (by decide +kernel) rfl
set_option maxRecDepth 100000 in
theorem L_Top_224 : Cond.methodLink "MovedSpan" 224 M_Top_becomeTrial.1 ∈ lw_g := am_in 1033 (by decide +kernel) rfl
set_option maxRecDepth 100000 in
theorem L_Lw_68 : Cond.methodLink "MovedSpanLaw" 68 M_Top_year.1 ∈ lw_g := am_in 1037 (by decide +kernel) rfl
set_option maxRecDepth 100000 in
theorem L_Top_227 : Cond.methodLink "MovedSpan" 227 M_State_doYear.1 ∈ lw_g := am_in 1041 (by decide +kernel) rfl
set_option maxRecDepth 100000 in
theorem L_State_140 : Cond.methodLink "MovedSpan$State" 140 M_State_drawn.1 ∈ lw_g := am_in 1045 (by decide +kernel) rfl
set_option maxRecDepth 100000 in
theorem L_Lw_72 : Cond.methodLink "MovedSpanLaw" 72 M_Top_soonest.1 ∈ lw_g := am_in 1049 (by decide +kernel) rfl
set_option maxRecDepth 100000 in
theorem L_Top_230 : Cond.methodLink "MovedSpan" 230 M_River_hasSpot.1 ∈ lw_g := am_in 1053 (by decide +kernel) rfl
set_option maxRecDepth 100000 in
theorem L_Top_233 : Cond.methodLink "MovedSpan" 233 M_Ahead_hoursTo.1 ∈ lw_g := am_in 1057 (by decide +kernel) rfl
set_option maxRecDepth 100000 in
theorem L_Ahead_58 : Cond.methodLink "MovedSpan$Ahead" 58 M_Ahead_hoursFrom.1 ∈ lw_g := am_in 1061 (by decide +kernel) rfl
set_option maxRecDepth 100000 in
theorem L_Ahead_39 : Cond.methodLink "MovedSpan$Ahead" 39 M_River_hourOfWeek.1 ∈ lw_g := am_in 1065 (by decide +kernel) rfl
set_option maxRecDepth 100000 in
theorem L_Ahead_48 : Cond.methodLink "MovedSpan$Ahead" 48 M_River_row.1 ∈ lw_g := am_in 1066 (by decide +kernel) rfl
set_option maxRecDepth 100000 in
theorem L_Ahead_62 : Cond.methodLink "MovedSpan$Ahead" 62 M_River_spread.1 ∈ lw_g := am_in 1067 (by decide +kernel) rfl
set_option maxRecDepth 100000 in
theorem L_River_96 : Cond.methodLink "MovedSpan$River" 96 M_River_joined.1 ∈ lw_g := am_in 1071 (by decide +kernel) rfl
set_option maxRecDepth 100000 in
theorem L_Lw_76 : Cond.methodLink "MovedSpanLaw" 76 M_Top_way.1 ∈ lw_g := am_in 1075 (by decide +kernel) rfl
set_option maxRecDepth 100000 in
theorem L_Top_237 : Cond.methodLink "MovedSpan" 237 M_Ahead_findWay.1 ∈ lw_g := am_in 1079 (by decide +kernel) rfl
set_option maxRecDepth 100000 in
theorem L_Ahead_76 : Cond.methodLink "MovedSpan$Ahead" 76 M_Ahead_hoursTo.1 ∈ lw_g := am_in 1083 (by decide +kernel) rfl
set_option maxRecDepth 100000 in
theorem L_Ahead_69 : Cond.methodLink "MovedSpan$Ahead" 69 M_Ahead_rowIn.1 ∈ lw_g := am_in 1084 (by decide +kernel) rfl
set_option maxRecDepth 100000 in
theorem L_Ahead_73 : Cond.methodLink "MovedSpan$Ahead" 73 M_Ahead_liesIn.1 ∈ lw_g := am_in 1088 (by decide +kernel) rfl
set_option maxRecDepth 100000 in
theorem L_Ahead_79 : Cond.methodLink "MovedSpan$Ahead" 79 M_River_gather.1 ∈ lw_g := am_in 1092 (by decide +kernel) rfl
set_option maxRecDepth 100000 in
theorem L_Ahead_82 : Cond.methodLink "MovedSpan$Ahead" 82 M_Ahead_firstActInto.1 ∈ lw_g := am_in 1096 (by decide +kernel) rfl
set_option maxRecDepth 100000 in
theorem L_Ahead_89 : Cond.methodLink "MovedSpan$Ahead" 89 M_River_hindrance.1 ∈ lw_g := am_in 1100 (by decide +kernel) rfl
set_option maxRecDepth 100000 in
theorem L_Ahead_86 : Cond.methodLink "MovedSpan$Ahead" 86 M_River_moved.1 ∈ lw_g := am_in 1101 (by decide +kernel) rfl
set_option maxRecDepth 100000 in
theorem L_Top_240 : Cond.methodLink "MovedSpan" 240 M_Ahead_actAt.1 ∈ lw_g := am_in 1103 (by decide +kernel) rfl
set_option maxRecDepth 100000 in
theorem L_Lw_81 : Cond.methodLink "MovedSpanLaw" 81 M_Top_ways.1 ∈ lw_g := am_in 1107 (by decide +kernel) rfl
set_option maxRecDepth 100000 in
theorem L_Top_247 : Cond.methodLink "MovedSpan" 247 M_Ahead_countWays.1 ∈ lw_g := am_in 1113 (by decide +kernel) rfl
set_option maxRecDepth 100000 in
theorem L_Ahead_96 : Cond.methodLink "MovedSpan$Ahead" 96 M_Arrays_fill_JJV.1 ∈ lw_g := am_in 1117 (by decide +kernel) rfl
set_option maxRecDepth 100000 in
theorem L_Ahead_102 : Cond.methodLink "MovedSpan$Ahead" 102 M_Ahead_spreadCount.1 ∈ lw_g := am_in 1120 (by decide +kernel) rfl
set_option maxRecDepth 100000 in
theorem L_Lw_86 : Cond.methodLink "MovedSpanLaw" 86 M_Top_reach.1 ∈ lw_g := am_in 1124 (by decide +kernel) rfl
set_option maxRecDepth 100000 in
theorem L_Top_251 : Cond.methodLink "MovedSpan" 251 M_Ahead_spotsIn.1 ∈ lw_g := am_in 1128 (by decide +kernel) rfl
set_option maxRecDepth 100000 in
theorem L_Lw_90 : Cond.methodLink "MovedSpanLaw" 90 M_Top_meet.1 ∈ lw_g := am_in 1132 (by decide +kernel) rfl
set_option maxRecDepth 100000 in
theorem L_Top_254 : Cond.methodLink "MovedSpan" 254 M_Ahead_hoursToMeet.1 ∈ lw_g := am_in 1136 (by decide +kernel) rfl
set_option maxRecDepth 100000 in
theorem L_Lw_94 : Cond.methodLink "MovedSpanLaw" 94 M_Top_meetAt.1 ∈ lw_g := am_in 1140 (by decide +kernel) rfl
set_option maxRecDepth 100000 in
theorem L_Top_257 : Cond.methodLink "MovedSpan" 257 M_Integer_numberOfTrailingZeros.1 ∈ lw_g := am_in 1144 (by decide +kernel) rfl
set_option maxRecDepth 100000 in
theorem L_Lw_98 : Cond.methodLink "MovedSpanLaw" 98 M_Top_inTime.1 ∈ lw_g := am_in 1148 (by decide +kernel) rfl
set_option maxRecDepth 100000 in
theorem L_Top_260 : Cond.methodLink "MovedSpan" 260 M_Weeks_doneInTime.1 ∈ lw_g := am_in 1152 (by decide +kernel) rfl
set_option maxRecDepth 100000 in
theorem L_Weeks_104 : Cond.methodLink "MovedSpan$Weeks" 104 M_Weeks_hasErrand.1 ∈ lw_g := am_in 1156 (by decide +kernel) rfl
set_option maxRecDepth 100000 in
theorem L_Weeks_108 : Cond.methodLink "MovedSpan$Weeks" 108 M_Weeks_isDone.1 ∈ lw_g := am_in 1160 (by decide +kernel) rfl
set_option maxRecDepth 100000 in
theorem L_Weeks_111 : Cond.methodLink "MovedSpan$Weeks" 111 M_Weeks_comes.1 ∈ lw_g := am_in 1165 (by decide +kernel) rfl
set_option maxRecDepth 100000 in
theorem L_Weeks_91 : Cond.methodLink "MovedSpan$Weeks" 91 M_Weeks_hoursLeft.1 ∈ lw_g := am_in 1169 (by decide +kernel) rfl
set_option maxRecDepth 100000 in
theorem L_Weeks_82 : Cond.methodLink "MovedSpan$Weeks" 82 M_Math_min.1 ∈ lw_g := am_in 1173 (by decide +kernel) rfl
set_option maxRecDepth 100000 in
theorem L_Weeks_95 : Cond.methodLink "MovedSpan$Weeks" 95 M_Ahead_hoursFrom.1 ∈ lw_g := am_in 1174 (by decide +kernel) rfl
set_option maxRecDepth 100000 in
theorem L_Lw_103 : Cond.methodLink "MovedSpanLaw" 103 M_Top_spare.1 ∈ lw_g := am_in 1175 (by decide +kernel) rfl
set_option maxRecDepth 100000 in
theorem L_Top_264 : Cond.methodLink "MovedSpan" 264 M_Weeks_hoursToSpare.1 ∈ lw_g := am_in 1179 (by decide +kernel) rfl
set_option maxRecDepth 100000 in
theorem L_Lw_107 : Cond.methodLink "MovedSpanLaw" 107 M_Top_needs.1 ∈ lw_g := am_in 1183 (by decide +kernel) rfl
set_option maxRecDepth 100000 in
theorem L_Top_267 : Cond.methodLink "MovedSpan" 267 M_Weeks_hoursNeeded.1 ∈ lw_g := am_in 1187 (by decide +kernel) rfl
set_option maxRecDepth 100000 in
theorem L_Weeks_118 : Cond.methodLink "MovedSpan$Weeks" 118 M_Weeks_takeWeek.1 ∈ lw_g := am_in 1191 (by decide +kernel) rfl
set_option maxRecDepth 100000 in
theorem L_Weeks_124 : Cond.methodLink "MovedSpan$Weeks" 124 arraycopyName ∈ lw_g := am_in 1195 (by decide +kernel) rfl
set_option maxRecDepth 100000 in
theorem L_Lw_111 : Cond.methodLink "MovedSpanLaw" 111 M_Top_moves.1 ∈ lw_g := am_in 1196 (by decide +kernel) rfl
set_option maxRecDepth 100000 in
theorem L_Top_270 : Cond.methodLink "MovedSpan" 270 M_Weeks_movesOf.1 ∈ lw_g := am_in 1200 (by decide +kernel) rfl
set_option maxRecDepth 100000 in
theorem L_Lw_115 : Cond.methodLink "MovedSpanLaw" 115 M_Top_best.1 ∈ lw_g := am_in 1204 (by decide +kernel) rfl
set_option maxRecDepth 100000 in
theorem L_Top_273 : Cond.methodLink "MovedSpan" 273 M_Weeks_findBest.1 ∈ lw_g := am_in 1208 (by decide +kernel) rfl
set_option maxRecDepth 100000 in
theorem L_Weeks_148 : Cond.methodLink "MovedSpan$Weeks" 148 M_Weeks_sortPeople.1 ∈ lw_g := am_in 1212 (by decide +kernel) rfl
set_option maxRecDepth 100000 in
theorem L_Weeks_151 : Cond.methodLink "MovedSpan$Weeks" 151 M_Arrays_fill.1 ∈ lw_g := am_in 1216 (by decide +kernel) rfl
set_option maxRecDepth 100000 in
theorem L_Weeks_167 : Cond.methodLink "MovedSpan$Weeks" 167 M_Weeks_comesByAll.1 ∈ lw_g := am_in 1217 (by decide +kernel) rfl
set_option maxRecDepth 100000 in
theorem L_Weeks_170 : Cond.methodLink "MovedSpan$Weeks" 170 M_Ahead_rowIn.1 ∈ lw_g := am_in 1221 (by decide +kernel) rfl
set_option maxRecDepth 100000 in
theorem L_Weeks_173 : Cond.methodLink "MovedSpan$Weeks" 173 M_River_spread.1 ∈ lw_g := am_in 1222 (by decide +kernel) rfl
set_option maxRecDepth 100000 in
theorem L_Weeks_157 : Cond.methodLink "MovedSpan$Weeks" 157 M_Weeks_weigh.1 ∈ lw_g := am_in 1223 (by decide +kernel) rfl
set_option maxRecDepth 100000 in
theorem L_Weeks_190 : Cond.methodLink "MovedSpan$Weeks" 190 M_Weeks_openComes.1 ∈ lw_g := am_in 1227 (by decide +kernel) rfl
set_option maxRecDepth 100000 in
theorem L_Weeks_200 : Cond.methodLink "MovedSpan$Weeks" 200 M_Weeks_movesOf.1 ∈ lw_g := am_in 1231 (by decide +kernel) rfl
set_option maxRecDepth 100000 in
theorem L_Weeks_203 : Cond.methodLink "MovedSpan$Weeks" 203 M_Weeks_keepBetter.1 ∈ lw_g := am_in 1232 (by decide +kernel) rfl
set_option maxRecDepth 100000 in
theorem L_Weeks_206 : Cond.methodLink "MovedSpan$Weeks" 206 M_Weeks_trialIsFirst.1 ∈ lw_g := am_in 1236 (by decide +kernel) rfl
set_option maxRecDepth 100000 in
theorem L_Weeks_161 : Cond.methodLink "MovedSpan$Weeks" 161 M_Weeks_tryBest.1 ∈ lw_g := am_in 1240 (by decide +kernel) rfl
set_option maxRecDepth 100000 in
theorem L_Weeks_177 : Cond.methodLink "MovedSpan$Weeks" 177 M_Weeks_lost.1 ∈ lw_g := am_in 1244 (by decide +kernel) rfl
set_option maxRecDepth 100000 in
theorem L_Weeks_145 : Cond.methodLink "MovedSpan$Weeks" 145 M_River_hourOfWeek.1 ∈ lw_g := am_in 1248 (by decide +kernel) rfl
set_option maxRecDepth 100000 in
theorem L_Weeks_180 : Cond.methodLink "MovedSpan$Weeks" 180 M_Weeks_stepOpen.1 ∈ lw_g := am_in 1249 (by decide +kernel) rfl
set_option maxRecDepth 100000 in
theorem L_Weeks_196 : Cond.methodLink "MovedSpan$Weeks" 196 M_River_row.1 ∈ lw_g := am_in 1253 (by decide +kernel) rfl
set_option maxRecDepth 100000 in
theorem L_Lw_119 : Cond.methodLink "MovedSpanLaw" 119 M_Top_change.1 ∈ lw_g := am_in 1254 (by decide +kernel) rfl
set_option maxRecDepth 100000 in
theorem L_Top_285 : Cond.methodLink "MovedSpan" 285 M_Weeks_bestChange.1 ∈ lw_g := am_in 1258 (by decide +kernel) rfl
set_option maxRecDepth 100000 in
theorem L_Weeks_133 : Cond.methodLink "MovedSpan$Weeks" 133 M_Weeks_doneInTime.1 ∈ lw_g := am_in 1262 (by decide +kernel) rfl
set_option maxRecDepth 100000 in
theorem L_Weeks_137 : Cond.methodLink "MovedSpan$Weeks" 137 M_Integer_bitCount.1 ∈ lw_g := am_in 1263 (by decide +kernel) rfl
set_option maxRecDepth 100000 in
theorem L_Weeks_142 : Cond.methodLink "MovedSpan$Weeks" 142 M_Weeks_choice.1 ∈ lw_g := am_in 1264 (by decide +kernel) rfl
set_option maxRecDepth 100000 in
theorem L_Lw_123 : Cond.methodLink "MovedSpanLaw" 123 M_Top_weeks.1 ∈ lw_g := am_in 1268 (by decide +kernel) rfl
set_option maxRecDepth 100000 in
theorem L_Top_289 : Cond.methodLink "MovedSpan" 289 M_Weeks_countGood.1 ∈ lw_g := am_in 1272 (by decide +kernel) rfl
set_option maxRecDepth 100000 in
theorem L_Weeks_164 : Cond.methodLink "MovedSpan$Weeks" 164 M_Weeks_tryGood.1 ∈ lw_g := am_in 1276 (by decide +kernel) rfl
set_option maxRecDepth 100000 in
theorem L_Weeks_184 : Cond.methodLink "MovedSpan$Weeks" 184 M_Weeks_allCome.1 ∈ lw_g := am_in 1280 (by decide +kernel) rfl
set_option maxRecDepth 100000 in
theorem L_Weeks_187 : Cond.methodLink "MovedSpan$Weeks" 187 M_Weeks_weeksOf.1 ∈ lw_g := am_in 1284 (by decide +kernel) rfl
set_option maxRecDepth 100000 in
theorem L_Lw_127 : Cond.methodLink "MovedSpanLaw" 127 M_Top_shift.1 ∈ lw_g := am_in 1288 (by decide +kernel) rfl
set_option maxRecDepth 100000 in
theorem L_Top_292 : Cond.methodLink "MovedSpan" 292 M_Weeks_bestShift.1 ∈ lw_g := am_in 1292 (by decide +kernel) rfl
set_option maxRecDepth 100000 in
theorem L_Lw_131 : Cond.methodLink "MovedSpanLaw" 131 M_Top_fits.1 ∈ lw_g := am_in 1296 (by decide +kernel) rfl
set_option maxRecDepth 100000 in
theorem L_Top_295 : Cond.methodLink "MovedSpan" 295 M_Sightings_take.1 ∈ lw_g := am_in 1300 (by decide +kernel) rfl
set_option maxRecDepth 100000 in
theorem L_Sightings_37 : Cond.methodLink "MovedSpan$Sightings" 37 M_Tray_at.1 ∈ lw_g := am_in 1304 (by decide +kernel) rfl
set_option maxRecDepth 100000 in
theorem L_Sightings_45 : Cond.methodLink "MovedSpan$Sightings" 45 M_River_hasSpot.1 ∈ lw_g := am_in 1307 (by decide +kernel) rfl
set_option maxRecDepth 100000 in
theorem L_Sightings_51 : Cond.methodLink "MovedSpan$Sightings" 51 M_River_allSpots.1 ∈ lw_g := am_in 1308 (by decide +kernel) rfl
set_option maxRecDepth 100000 in
theorem L_Top_299 : Cond.methodLink "MovedSpan" 299 M_Sightings_fitting.1 ∈ lw_g := am_in 1312 (by decide +kernel) rfl
set_option maxRecDepth 100000 in
theorem L_Sightings_78 : Cond.methodLink "MovedSpan$Sightings" 78 arraycopyName ∈ lw_g := am_in 1316 (by decide +kernel) rfl
set_option maxRecDepth 100000 in
theorem L_Sightings_87 : Cond.methodLink "MovedSpan$Sightings" 87 M_Sightings_firstBreak.1 ∈ lw_g := am_in 1317 (by decide +kernel) rfl
set_option maxRecDepth 100000 in
theorem L_Sightings_60 : Cond.methodLink "MovedSpan$Sightings" 60 M_River_hourOfWeek.1 ∈ lw_g := am_in 1321 (by decide +kernel) rfl
set_option maxRecDepth 100000 in
theorem L_Sightings_67 : Cond.methodLink "MovedSpan$Sightings" 67 M_River_row.1 ∈ lw_g := am_in 1322 (by decide +kernel) rfl
set_option maxRecDepth 100000 in
theorem L_Sightings_71 : Cond.methodLink "MovedSpan$Sightings" 71 M_River_spread.1 ∈ lw_g := am_in 1323 (by decide +kernel) rfl
set_option maxRecDepth 100000 in
theorem L_Lw_135 : Cond.methodLink "MovedSpanLaw" 135 M_Top_surest.1 ∈ lw_g := am_in 1324 (by decide +kernel) rfl
set_option maxRecDepth 100000 in
theorem L_Top_302 : Cond.methodLink "MovedSpan" 302 M_Sightings_surestHour.1 ∈ lw_g := am_in 1328 (by decide +kernel) rfl
set_option maxRecDepth 100000 in
theorem L_Sightings_94 : Cond.methodLink "MovedSpan$Sightings" 94 M_Sightings_fitting.1 ∈ lw_g := am_in 1332 (by decide +kernel) rfl
set_option maxRecDepth 100000 in
theorem L_Sightings_98 : Cond.methodLink "MovedSpan$Sightings" 98 M_Integer_bitCount.1 ∈ lw_g := am_in 1333 (by decide +kernel) rfl
set_option maxRecDepth 100000 in
theorem L_Lw_139 : Cond.methodLink "MovedSpanLaw" 139 M_Top_odd.1 ∈ lw_g := am_in 1334 (by decide +kernel) rfl
set_option maxRecDepth 100000 in
theorem L_Top_305 : Cond.methodLink "MovedSpan" 305 M_Sightings_firstBreak.1 ∈ lw_g := am_in 1338 (by decide +kernel) rfl
set_option maxRecDepth 100000 in
theorem L_Lw_143 : Cond.methodLink "MovedSpanLaw" 143 M_Top_chance.1 ∈ lw_g := am_in 1339 (by decide +kernel) rfl
set_option maxRecDepth 100000 in
theorem L_Top_309 : Cond.methodLink "MovedSpan" 309 M_Chances_outOfPower.1 ∈ lw_g := am_in 1343 (by decide +kernel) rfl
set_option maxRecDepth 100000 in
theorem L_Chances_28 : Cond.methodLink "MovedSpan$Chances" 28 M_Arrays_fill_JJV.1 ∈ lw_g := am_in 1347 (by decide +kernel) rfl
set_option maxRecDepth 100000 in
theorem L_Chances_40 : Cond.methodLink "MovedSpan$Chances" 40 M_River_hourOfWeek.1 ∈ lw_g := am_in 1348 (by decide +kernel) rfl
set_option maxRecDepth 100000 in
theorem L_Chances_46 : Cond.methodLink "MovedSpan$Chances" 46 M_River_hasSpot.1 ∈ lw_g := am_in 1349 (by decide +kernel) rfl
set_option maxRecDepth 100000 in
theorem L_Chances_50 : Cond.methodLink "MovedSpan$Chances" 50 M_Chances_weighed.1 ∈ lw_g := am_in 1350 (by decide +kernel) rfl
set_option maxRecDepth 100000 in
theorem L_Chances_62 : Cond.methodLink "MovedSpan$Chances" 62 M_River_row.1 ∈ lw_g := am_in 1354 (by decide +kernel) rfl
set_option maxRecDepth 100000 in
theorem L_Chances_69 : Cond.methodLink "MovedSpan$Chances" 69 M_Chances_likeliest.1 ∈ lw_g := am_in 1355 (by decide +kernel) rfl
set_option maxRecDepth 100000 in
theorem L_Chances_75 : Cond.methodLink "MovedSpan$Chances" 75 M_River_hindrance.1 ∈ lw_g := am_in 1359 (by decide +kernel) rfl
set_option maxRecDepth 100000 in
theorem L_Chances_79 : Cond.methodLink "MovedSpan$Chances" 79 M_River_moved.1 ∈ lw_g := am_in 1360 (by decide +kernel) rfl
set_option maxRecDepth 100000 in
theorem L_Chances_83 : Cond.methodLink "MovedSpan$Chances" 83 M_Math_max_JJJ.1 ∈ lw_g := am_in 1361 (by decide +kernel) rfl
set_option maxRecDepth 100000 in
theorem L_Chances_54 : Cond.methodLink "MovedSpan$Chances" 54 M_Chances_power.1 ∈ lw_g := am_in 1362 (by decide +kernel) rfl
set_option maxRecDepth 100000 in
theorem L_Top_312 : Cond.methodLink "MovedSpan" 312 M_Chances_power.1 ∈ lw_g := am_in 1366 (by decide +kernel) rfl
set_option maxRecDepth 100000 in
theorem L_Top_315 : Cond.methodLink "MovedSpan" 315 M_Chances_sharedDivisor.1 ∈ lw_g := am_in 1367 (by decide +kernel) rfl
set_option maxRecDepth 100000 in
theorem L_Lw_148 : Cond.methodLink "MovedSpanLaw" 148 M_Top_likely.1 ∈ lw_g := am_in 1371 (by decide +kernel) rfl
set_option maxRecDepth 100000 in
theorem L_Lw_152 : Cond.methodLink "MovedSpanLaw" 152 M_Top_numbers.1 ∈ lw_g := am_in 1376 (by decide +kernel) rfl
set_option maxRecDepth 100000 in
theorem L_Top_323 : Cond.methodLink "MovedSpan" 323 M_Tray_empty.1 ∈ lw_g := am_in 1380 (by decide +kernel) rfl
set_option maxRecDepth 100000 in
theorem L_Tray_26 : Cond.methodLink "MovedSpan$Tray" 26 M_Arrays_fill_JJV.1 ∈ lw_g := am_in 1384 (by decide +kernel) rfl
set_option maxRecDepth 100000 in
theorem L_Lw_158 : Cond.methodLink "MovedSpanLaw" 158 M_Top_write.1 ∈ lw_g := am_in 1385 (by decide +kernel) rfl
set_option maxRecDepth 100000 in
theorem L_Top_331 : Cond.methodLink "MovedSpan" 331 M_Tray_put.1 ∈ lw_g := am_in 1391 (by decide +kernel) rfl
set_option maxRecDepth 100000 in
theorem L_Tray_32 : Cond.methodLink "MovedSpan$Tray" 32 M_Tray_cut.1 ∈ lw_g := am_in 1395 (by decide +kernel) rfl
set_option maxRecDepth 100000 in
theorem L_Tray_36 : Cond.methodLink "MovedSpan$Tray" 36 M_Tray_at.1 ∈ lw_g := am_in 1399 (by decide +kernel) rfl
set_option maxRecDepth 100000 in
theorem L_Lw_163 : Cond.methodLink "MovedSpanLaw" 163 M_Top_lists.1 ∈ lw_g := am_in 1400 (by decide +kernel) rfl
set_option maxRecDepth 100000 in
theorem L_Top_335 : Cond.methodLink "MovedSpan" 335 M_Math_min.1 ∈ lw_g := am_in 1404 (by decide +kernel) rfl
set_option maxRecDepth 100000 in
theorem L_Lw_167 : Cond.methodLink "MovedSpanLaw" 167 M_Top_image.1 ∈ lw_g := am_in 1405 (by decide +kernel) rfl
set_option maxRecDepth 100000 in
theorem L_Lw_171 : Cond.methodLink "MovedSpanLaw" 171 M_Top_restore.1 ∈ lw_g := am_in 1409 (by decide +kernel) rfl
set_option maxRecDepth 100000 in
theorem L_Top_340 : Cond.methodLink "MovedSpan" 340 M_Top_hasBit.1 ∈ lw_g := am_in 1413 (by decide +kernel) rfl
set_option maxRecDepth 100000 in
theorem L_Lw_175 : Cond.methodLink "MovedSpanLaw" 175 M_Top_count.1 ∈ lw_g := am_in 1414 (by decide +kernel) rfl
set_option maxRecDepth 100000 in
theorem L_Top_353 : Cond.methodLink "MovedSpan" 353 M_River_withErrands.1 ∈ lw_g := am_in 1418 (by decide +kernel) rfl
set_option maxRecDepth 100000 in
theorem L_Top_356 : Cond.methodLink "MovedSpan" 356 M_State_onSpan.1 ∈ lw_g := am_in 1422 (by decide +kernel) rfl
set_option maxRecDepth 100000 in
theorem L_Lw_12 : Cond.methodLink "MovedSpanLaw" 12 M_Mod_init.1 ∈ lw_g := am_in 1428 (by decide +kernel) rfl
set_option maxRecDepth 100000 in
theorem L_Mod_7 : Cond.methodLink "MovedSpanModel" 7 Lib.objectInit ∈ lw_g := am_in 1431 (by decide +kernel) rfl
set_option maxRecDepth 100000 in
theorem L_Mod_91 : Cond.methodLink "MovedSpanModel" 91 M_Mod_plain.1 ∈ lw_g := am_in 1432 (by decide +kernel) rfl
set_option maxRecDepth 100000 in
theorem L_Lw_17 : Cond.methodLink "MovedSpanLaw" 17 M_Mod_feed.1 ∈ lw_g := am_in 1560 (by decide +kernel) rfl
set_option maxRecDepth 100000 in
theorem L_Lw_22 : Cond.methodLink "MovedSpanLaw" 22 M_Mod_river.1 ∈ lw_g := am_in 1564 (by decide +kernel) rfl
set_option maxRecDepth 100000 in
theorem L_Mod_157 : Cond.methodLink "MovedSpanModel" 157 M_Mod_within.1 ∈ lw_g := am_in 1568 (by decide +kernel) rfl
set_option maxRecDepth 100000 in
theorem L_Mod_150 : Cond.methodLink "MovedSpanModel" 150 M_Mod_next.1 ∈ lw_g := am_in 1571 (by decide +kernel) rfl
set_option maxRecDepth 100000 in
theorem L_Mod_119 : Cond.methodLink "MovedSpanModel" 119 M_Mod_see.1 ∈ lw_g := am_in 1575 (by decide +kernel) rfl
set_option maxRecDepth 100000 in
theorem L_Mod_126 : Cond.methodLink "MovedSpanModel" 126 M_Mod_isSmall.1 ∈ lw_g := am_in 1579 (by decide +kernel) rfl
set_option maxRecDepth 100000 in
theorem L_Mod_130 : Cond.methodLink "MovedSpanModel" 130 M_Mod_keyAt.1 ∈ lw_g := am_in 1582 (by decide +kernel) rfl
set_option maxRecDepth 100000 in
theorem L_Mod_103 : Cond.methodLink "MovedSpanModel" 103 M_String_length.1 ∈ lw_g := am_in 1587 (by decide +kernel) rfl
set_option maxRecDepth 100000 in
theorem L_Mod_109 : Cond.methodLink "MovedSpanModel" 109 M_String_charAt.1 ∈ lw_g := am_in 1588 (by decide +kernel) rfl
set_option maxRecDepth 100000 in
theorem L_Mod_133 : Cond.methodLink "MovedSpanModel" 133 M_Mod_isDigit.1 ∈ lw_g := am_in 1589 (by decide +kernel) rfl
set_option maxRecDepth 100000 in
theorem L_Mod_176 : Cond.methodLink "MovedSpanModel" 176 M_Mod_eats.1 ∈ lw_g := am_in 1593 (by decide +kernel) rfl
set_option maxRecDepth 100000 in
theorem L_Mod_147 : Cond.methodLink "MovedSpanModel" 147 M_Mod_is.1 ∈ lw_g := am_in 1597 (by decide +kernel) rfl
set_option maxRecDepth 100000 in
theorem L_Mod_153 : Cond.methodLink "MovedSpanModel" 153 M_Mod_fails.1 ∈ lw_g := am_in 1601 (by decide +kernel) rfl
set_option maxRecDepth 100000 in
theorem L_Mod_194 : Cond.methodLink "MovedSpanModel" 194 M_Mod_takes.1 ∈ lw_g := am_in 1605 (by decide +kernel) rfl
set_option maxRecDepth 100000 in
theorem L_Mod_213 : Cond.methodLink "MovedSpanModel" 213 M_Mod_ends.1 ∈ lw_g := am_in 1609 (by decide +kernel) rfl
set_option maxRecDepth 100000 in
theorem L_Mod_216 : Cond.methodLink "MovedSpanModel" 216 M_Mod_readLine.1 ∈ lw_g := am_in 1613 (by decide +kernel) rfl
set_option maxRecDepth 100000 in
theorem L_Mod_204 : Cond.methodLink "MovedSpanModel" 204 M_Mod_readSpan.1 ∈ lw_g := am_in 1617 (by decide +kernel) rfl
set_option maxRecDepth 100000 in
theorem L_Mod_207 : Cond.methodLink "MovedSpanModel" 207 M_Mod_readPerson.1 ∈ lw_g := am_in 1621 (by decide +kernel) rfl
set_option maxRecDepth 100000 in
theorem L_Mod_198 : Cond.methodLink "MovedSpanModel" 198 M_Mod_readSpot.1 ∈ lw_g := am_in 1625 (by decide +kernel) rfl
set_option maxRecDepth 100000 in
theorem L_Mod_201 : Cond.methodLink "MovedSpanModel" 201 M_Mod_readFlag.1 ∈ lw_g := am_in 1629 (by decide +kernel) rfl
set_option maxRecDepth 100000 in
theorem L_Mod_210 : Cond.methodLink "MovedSpanModel" 210 M_Mod_readLaw.1 ∈ lw_g := am_in 1633 (by decide +kernel) rfl
set_option maxRecDepth 100000 in
theorem L_Mod_188 : Cond.methodLink "MovedSpanModel" 188 M_Mod_readTruth.1 ∈ lw_g := am_in 1637 (by decide +kernel) rfl
set_option maxRecDepth 100000 in
theorem L_Mod_191 : Cond.methodLink "MovedSpanModel" 191 M_Mod_readBoth.1 ∈ lw_g := am_in 1641 (by decide +kernel) rfl
set_option maxRecDepth 100000 in
theorem L_Mod_185 : Cond.methodLink "MovedSpanModel" 185 M_Mod_readUnit.1 ∈ lw_g := am_in 1645 (by decide +kernel) rfl
set_option maxRecDepth 100000 in
theorem L_Mod_170 : Cond.methodLink "MovedSpanModel" 170 M_Mod_goesIn.1 ∈ lw_g := am_in 1649 (by decide +kernel) rfl
set_option maxRecDepth 100000 in
theorem L_Mod_164 : Cond.methodLink "MovedSpanModel" 164 M_Mod_codes.1 ∈ lw_g := am_in 1653 (by decide +kernel) rfl
set_option maxRecDepth 100000 in
theorem L_Mod_173 : Cond.methodLink "MovedSpanModel" 173 M_Mod_readSum.1 ∈ lw_g := am_in 1657 (by decide +kernel) rfl
set_option maxRecDepth 100000 in
theorem L_Mod_182 : Cond.methodLink "MovedSpanModel" 182 M_Mod_readTerm.1 ∈ lw_g := am_in 1661 (by decide +kernel) rfl
set_option maxRecDepth 100000 in
theorem L_Mod_179 : Cond.methodLink "MovedSpanModel" 179 M_Mod_readAtom.1 ∈ lw_g := am_in 1665 (by decide +kernel) rfl
set_option maxRecDepth 100000 in
theorem L_Mod_167 : Cond.methodLink "MovedSpanModel" 167 M_Mod_wordOf.1 ∈ lw_g := am_in 1669 (by decide +kernel) rfl
set_option maxRecDepth 100000 in
theorem L_Mod_222 : Cond.methodLink "MovedSpanModel" 222 M_Mod_doesErrands.1 ∈ lw_g := am_in 1673 (by decide +kernel) rfl
set_option maxRecDepth 100000 in
theorem L_Mod_260 : Cond.methodLink "MovedSpanModel" 260 M_Mod_isIn.1 ∈ lw_g := am_in 1677 (by decide +kernel) rfl
set_option maxRecDepth 100000 in
theorem L_Lw_26 : Cond.methodLink "MovedSpanLaw" 26 M_Mod_fault.1 ∈ lw_g := am_in 1680 (by decide +kernel) rfl
set_option maxRecDepth 100000 in
theorem L_Lw_30 : Cond.methodLink "MovedSpanLaw" 30 M_Mod_span.1 ∈ lw_g := am_in 1684 (by decide +kernel) rfl
set_option maxRecDepth 100000 in
theorem L_Mod_235 : Cond.methodLink "MovedSpanModel" 235 M_Mod_spanIn.1 ∈ lw_g := am_in 1689 (by decide +kernel) rfl
set_option maxRecDepth 100000 in
theorem L_Lw_35 : Cond.methodLink "MovedSpanLaw" 35 M_Mod_person.1 ∈ lw_g := am_in 1693 (by decide +kernel) rfl
set_option maxRecDepth 100000 in
theorem L_Mod_245 : Cond.methodLink "MovedSpanModel" 245 M_Mod_isPerson.1 ∈ lw_g := am_in 1697 (by decide +kernel) rfl
set_option maxRecDepth 100000 in
theorem L_Lw_39 : Cond.methodLink "MovedSpanLaw" 39 M_Mod_why.1 ∈ lw_g := am_in 1701 (by decide +kernel) rfl
set_option maxRecDepth 100000 in
theorem L_Mod_264 : Cond.methodLink "MovedSpanModel" 264 M_Mod_whyTold.1 ∈ lw_g := am_in 1705 (by decide +kernel) rfl
set_option maxRecDepth 100000 in
theorem L_Mod_251 : Cond.methodLink "MovedSpanModel" 251 M_Mod_fogIn.1 ∈ lw_g := am_in 1710 (by decide +kernel) rfl
set_option maxRecDepth 100000 in
theorem L_Mod_254 : Cond.methodLink "MovedSpanModel" 254 M_Mod_whyAct.1 ∈ lw_g := am_in 1714 (by decide +kernel) rfl
set_option maxRecDepth 100000 in
theorem L_Mod_238 : Cond.methodLink "MovedSpanModel" 238 M_Mod_leads.1 ∈ lw_g := am_in 1718 (by decide +kernel) rfl
set_option maxRecDepth 100000 in
theorem L_Mod_241 : Cond.methodLink "MovedSpanModel" 241 M_Mod_lets.1 ∈ lw_g := am_in 1722 (by decide +kernel) rfl
set_option maxRecDepth 100000 in
theorem L_Mod_231 : Cond.methodLink "MovedSpanModel" 231 M_Mod_between.1 ∈ lw_g := am_in 1726 (by decide +kernel) rfl
set_option maxRecDepth 100000 in
theorem L_Lw_43 : Cond.methodLink "MovedSpanLaw" 43 M_Mod_act.1 ∈ lw_g := am_in 1731 (by decide +kernel) rfl
set_option maxRecDepth 100000 in
theorem L_Mod_268 : Cond.methodLink "MovedSpanModel" 268 M_Mod_keeps.1 ∈ lw_g := am_in 1735 (by decide +kernel) rfl
set_option maxRecDepth 100000 in
theorem L_Mod_271 : Cond.methodLink "MovedSpanModel" 271 M_Mod_notes.1 ∈ lw_g := am_in 1739 (by decide +kernel) rfl
set_option maxRecDepth 100000 in
theorem L_Lw_47 : Cond.methodLink "MovedSpanLaw" 47 M_Mod_tell.1 ∈ lw_g := am_in 1743 (by decide +kernel) rfl
set_option maxRecDepth 100000 in
theorem L_Lw_51 : Cond.methodLink "MovedSpanLaw" 51 M_Mod_fog.1 ∈ lw_g := am_in 1748 (by decide +kernel) rfl
set_option maxRecDepth 100000 in
theorem L_Lw_55 : Cond.methodLink "MovedSpanLaw" 55 M_Mod_hours.1 ∈ lw_g := am_in 1753 (by decide +kernel) rfl
set_option maxRecDepth 100000 in
theorem L_Mod_280 : Cond.methodLink "MovedSpanModel" 280 M_Mod_goesHour.1 ∈ lw_g := am_in 1758 (by decide +kernel) rfl
set_option maxRecDepth 100000 in
theorem L_Lw_59 : Cond.methodLink "MovedSpanLaw" 59 M_Mod_undo.1 ∈ lw_g := am_in 1762 (by decide +kernel) rfl
set_option maxRecDepth 100000 in
theorem L_Lw_63 : Cond.methodLink "MovedSpanLaw" 63 M_Mod_judge.1 ∈ lw_g := am_in 1767 (by decide +kernel) rfl
set_option maxRecDepth 100000 in
theorem L_Mod_309 : Cond.methodLink "MovedSpanModel" 309 M_Mod_noTray.1 ∈ lw_g := am_in 1772 (by decide +kernel) rfl
set_option maxRecDepth 100000 in
theorem L_Mod_312 : Cond.methodLink "MovedSpanModel" 312 M_Mod_tells.1 ∈ lw_g := am_in 1776 (by decide +kernel) rfl
set_option maxRecDepth 100000 in
theorem L_Mod_300 : Cond.methodLink "MovedSpanModel" 300 M_Mod_whyNot.1 ∈ lw_g := am_in 1780 (by decide +kernel) rfl
set_option maxRecDepth 100000 in
theorem L_Mod_304 : Cond.methodLink "MovedSpanModel" 304 M_Mod_does.1 ∈ lw_g := am_in 1790 (by decide +kernel) rfl
set_option maxRecDepth 100000 in
theorem L_Mod_315 : Cond.methodLink "MovedSpanModel" 315 M_Mod_isAgain.1 ∈ lw_g := am_in 1794 (by decide +kernel) rfl
set_option maxRecDepth 100000 in
theorem L_Lw_67 : Cond.methodLink "MovedSpanLaw" 67 M_Mod_perform.1 ∈ lw_g := am_in 1798 (by decide +kernel) rfl
set_option maxRecDepth 100000 in
theorem L_Lw_71 : Cond.methodLink "MovedSpanLaw" 71 M_Mod_year.1 ∈ lw_g := am_in 1802 (by decide +kernel) rfl
set_option maxRecDepth 100000 in
theorem L_Mod_327 : Cond.methodLink "MovedSpanModel" 327 M_Mod_drawn.1 ∈ lw_g := am_in 1807 (by decide +kernel) rfl
set_option maxRecDepth 100000 in
theorem L_Mod_322 : Cond.methodLink "MovedSpanModel" 322 M_Mod_draw.1 ∈ lw_g := am_in 1811 (by decide +kernel) rfl
set_option maxRecDepth 100000 in
theorem L_Lw_75 : Cond.methodLink "MovedSpanLaw" 75 M_Mod_soonest.1 ∈ lw_g := am_in 1816 (by decide +kernel) rfl
set_option maxRecDepth 100000 in
theorem L_Mod_339 : Cond.methodLink "MovedSpanModel" 339 M_Mod_isSpot.1 ∈ lw_g := am_in 1820 (by decide +kernel) rfl
set_option maxRecDepth 100000 in
theorem L_Mod_342 : Cond.methodLink "MovedSpanModel" 342 M_Mod_soonestOf.1 ∈ lw_g := am_in 1825 (by decide +kernel) rfl
set_option maxRecDepth 100000 in
theorem L_Mod_333 : Cond.methodLink "MovedSpanModel" 333 M_Mod_laysLets.1 ∈ lw_g := am_in 1829 (by decide +kernel) rfl
set_option maxRecDepth 100000 in
theorem L_Mod_336 : Cond.methodLink "MovedSpanModel" 336 M_Mod_hoursTo.1 ∈ lw_g := am_in 1833 (by decide +kernel) rfl
set_option maxRecDepth 100000 in
theorem L_Mod_330 : Cond.methodLink "MovedSpanModel" 330 M_Mod_goesOn.1 ∈ lw_g := am_in 1837 (by decide +kernel) rfl
set_option maxRecDepth 100000 in
theorem L_Lw_80 : Cond.methodLink "MovedSpanLaw" 80 M_Mod_way.1 ∈ lw_g := am_in 1841 (by decide +kernel) rfl
set_option maxRecDepth 100000 in
theorem L_Mod_345 : Cond.methodLink "MovedSpanModel" 345 M_Mod_laysWay.1 ∈ lw_g := am_in 1845 (by decide +kernel) rfl
set_option maxRecDepth 100000 in
theorem L_Lw_85 : Cond.methodLink "MovedSpanLaw" 85 M_Mod_ways.1 ∈ lw_g := am_in 1849 (by decide +kernel) rfl
set_option maxRecDepth 100000 in
theorem L_Lw_89 : Cond.methodLink "MovedSpanLaw" 89 M_Mod_reach.1 ∈ lw_g := am_in 1856 (by decide +kernel) rfl
set_option maxRecDepth 100000 in
theorem L_Mod_356 : Cond.methodLink "MovedSpanModel" 356 M_Mod_reachOf.1 ∈ lw_g := am_in 1861 (by decide +kernel) rfl
set_option maxRecDepth 100000 in
theorem L_Lw_93 : Cond.methodLink "MovedSpanLaw" 93 M_Mod_meet.1 ∈ lw_g := am_in 1865 (by decide +kernel) rfl
set_option maxRecDepth 100000 in
theorem L_Mod_359 : Cond.methodLink "MovedSpanModel" 359 M_Mod_meetIn.1 ∈ lw_g := am_in 1869 (by decide +kernel) rfl
set_option maxRecDepth 100000 in
theorem L_Lw_97 : Cond.methodLink "MovedSpanLaw" 97 M_Mod_meetAt.1 ∈ lw_g := am_in 1873 (by decide +kernel) rfl
set_option maxRecDepth 100000 in
theorem L_Lw_102 : Cond.methodLink "MovedSpanLaw" 102 M_Mod_inTime.1 ∈ lw_g := am_in 1877 (by decide +kernel) rfl
set_option maxRecDepth 100000 in
theorem L_Mod_369 : Cond.methodLink "MovedSpanModel" 369 M_Mod_inTimeSet.1 ∈ lw_g := am_in 1881 (by decide +kernel) rfl
set_option maxRecDepth 100000 in
theorem L_Mod_362 : Cond.methodLink "MovedSpanModel" 362 M_Mod_isErrand.1 ∈ lw_g := am_in 1885 (by decide +kernel) rfl
set_option maxRecDepth 100000 in
theorem L_Mod_365 : Cond.methodLink "MovedSpanModel" 365 M_Mod_isInTime.1 ∈ lw_g := am_in 1889 (by decide +kernel) rfl
set_option maxRecDepth 100000 in
theorem L_Lw_106 : Cond.methodLink "MovedSpanLaw" 106 M_Mod_spare.1 ∈ lw_g := am_in 1893 (by decide +kernel) rfl
set_option maxRecDepth 100000 in
theorem L_Lw_110 : Cond.methodLink "MovedSpanLaw" 110 M_Mod_needs.1 ∈ lw_g := am_in 1897 (by decide +kernel) rfl
set_option maxRecDepth 100000 in
theorem L_Lw_114 : Cond.methodLink "MovedSpanLaw" 114 M_Mod_moves.1 ∈ lw_g := am_in 1901 (by decide +kernel) rfl
set_option maxRecDepth 100000 in
theorem L_Mod_384 : Cond.methodLink "MovedSpanModel" 384 M_Mod_movesNow.1 ∈ lw_g := am_in 1905 (by decide +kernel) rfl
set_option maxRecDepth 100000 in
theorem L_Lw_118 : Cond.methodLink "MovedSpanLaw" 118 M_Mod_best.1 ∈ lw_g := am_in 1909 (by decide +kernel) rfl
set_option maxRecDepth 100000 in
theorem L_Mod_402 : Cond.methodLink "MovedSpanModel" 402 M_Mod_laysWeeks.1 ∈ lw_g := am_in 1913 (by decide +kernel) rfl
set_option maxRecDepth 100000 in
theorem L_Mod_399 : Cond.methodLink "MovedSpanModel" 399 M_Mod_keepsLets.1 ∈ lw_g := am_in 1917 (by decide +kernel) rfl
set_option maxRecDepth 100000 in
theorem L_Mod_378 : Cond.methodLink "MovedSpanModel" 378 M_Mod_goesWeeks.1 ∈ lw_g := am_in 1921 (by decide +kernel) rfl
set_option maxRecDepth 100000 in
theorem L_Mod_375 : Cond.methodLink "MovedSpanModel" 375 M_Mod_laysWeek.1 ∈ lw_g := am_in 1925 (by decide +kernel) rfl
set_option maxRecDepth 100000 in
theorem L_Mod_381 : Cond.methodLink "MovedSpanModel" 381 M_Mod_inTimeMany.1 ∈ lw_g := am_in 1929 (by decide +kernel) rfl
set_option maxRecDepth 100000 in
theorem L_Mod_372 : Cond.methodLink "MovedSpanModel" 372 M_Mod_takesLets.1 ∈ lw_g := am_in 1933 (by decide +kernel) rfl
set_option maxRecDepth 100000 in
theorem L_Mod_390 : Cond.methodLink "MovedSpanModel" 390 M_Mod_errandsMany.1 ∈ lw_g := am_in 1937 (by decide +kernel) rfl
set_option maxRecDepth 100000 in
theorem L_Lw_126 : Cond.methodLink "MovedSpanLaw" 126 M_Mod_weeks.1 ∈ lw_g := am_in 1941 (by decide +kernel) rfl
set_option maxRecDepth 100000 in
theorem L_Lw_122 : Cond.methodLink "MovedSpanLaw" 122 M_Mod_change.1 ∈ lw_g := am_in 1945 (by decide +kernel) rfl
set_option maxRecDepth 100000 in
theorem L_Lw_130 : Cond.methodLink "MovedSpanLaw" 130 M_Mod_shift.1 ∈ lw_g := am_in 1949 (by decide +kernel) rfl
set_option maxRecDepth 100000 in
theorem L_Lw_134 : Cond.methodLink "MovedSpanLaw" 134 M_Mod_fits.1 ∈ lw_g := am_in 1953 (by decide +kernel) rfl
set_option maxRecDepth 100000 in
theorem L_Mod_408 : Cond.methodLink "MovedSpanModel" 408 M_Mod_noSeen.1 ∈ lw_g := am_in 1957 (by decide +kernel) rfl
set_option maxRecDepth 100000 in
theorem L_Mod_411 : Cond.methodLink "MovedSpanModel" 411 M_Mod_fitting.1 ∈ lw_g := am_in 1961 (by decide +kernel) rfl
set_option maxRecDepth 100000 in
theorem L_Mod_405 : Cond.methodLink "MovedSpanModel" 405 M_Mod_oddIn.1 ∈ lw_g := am_in 1965 (by decide +kernel) rfl
set_option maxRecDepth 100000 in
theorem L_Lw_138 : Cond.methodLink "MovedSpanLaw" 138 M_Mod_surest.1 ∈ lw_g := am_in 1969 (by decide +kernel) rfl
set_option maxRecDepth 100000 in
theorem L_Mod_414 : Cond.methodLink "MovedSpanModel" 414 M_Mod_bitsOf.1 ∈ lw_g := am_in 1973 (by decide +kernel) rfl
set_option maxRecDepth 100000 in
theorem L_Lw_142 : Cond.methodLink "MovedSpanLaw" 142 M_Mod_odd.1 ∈ lw_g := am_in 1976 (by decide +kernel) rfl
set_option maxRecDepth 100000 in
theorem L_Lw_147 : Cond.methodLink "MovedSpanLaw" 147 M_Mod_chance.1 ∈ lw_g := am_in 1980 (by decide +kernel) rfl
set_option maxRecDepth 100000 in
theorem L_Mod_425 : Cond.methodLink "MovedSpanModel" 425 M_Mod_chanceOf.1 ∈ lw_g := am_in 1984 (by decide +kernel) rfl
set_option maxRecDepth 100000 in
theorem L_Mod_417 : Cond.methodLink "MovedSpanModel" 417 M_Mod_bestOn.1 ∈ lw_g := am_in 1988 (by decide +kernel) rfl
set_option maxRecDepth 100000 in
theorem L_Mod_428 : Cond.methodLink "MovedSpanModel" 428 M_Mod_tens.1 ∈ lw_g := am_in 1992 (by decide +kernel) rfl
set_option maxRecDepth 100000 in
theorem L_Mod_421 : Cond.methodLink "MovedSpanModel" 421 M_Mod_common.1 ∈ lw_g := am_in 1995 (by decide +kernel) rfl
set_option maxRecDepth 100000 in
theorem L_Lw_151 : Cond.methodLink "MovedSpanLaw" 151 M_Mod_likely.1 ∈ lw_g := am_in 1998 (by decide +kernel) rfl
set_option maxRecDepth 100000 in
theorem L_Lw_155 : Cond.methodLink "MovedSpanLaw" 155 M_Mod_numbers.1 ∈ lw_g := am_in 2002 (by decide +kernel) rfl
set_option maxRecDepth 100000 in
theorem L_Lw_162 : Cond.methodLink "MovedSpanLaw" 162 M_Mod_write.1 ∈ lw_g := am_in 2006 (by decide +kernel) rfl
set_option maxRecDepth 100000 in
theorem L_Mod_434 : Cond.methodLink "MovedSpanModel" 434 M_Mod_cut.1 ∈ lw_g := am_in 2011 (by decide +kernel) rfl
set_option maxRecDepth 100000 in
theorem L_Lw_166 : Cond.methodLink "MovedSpanLaw" 166 M_Mod_lists.1 ∈ lw_g := am_in 2014 (by decide +kernel) rfl
set_option maxRecDepth 100000 in
theorem L_Lw_170 : Cond.methodLink "MovedSpanLaw" 170 M_Mod_image.1 ∈ lw_g := am_in 2018 (by decide +kernel) rfl
set_option maxRecDepth 100000 in
theorem L_Lw_174 : Cond.methodLink "MovedSpanLaw" 174 M_Mod_restore.1 ∈ lw_g := am_in 2022 (by decide +kernel) rfl
set_option maxRecDepth 100000 in
theorem L_Lw_178 : Cond.methodLink "MovedSpanLaw" 178 M_Mod_count.1 ∈ lw_g := am_in 2026 (by decide +kernel) rfl
set_option maxRecDepth 100000 in
theorem L_Mod_438 : Cond.methodLink "MovedSpanModel" 438 M_Mod_errandsSet.1 ∈ lw_g := am_in 2030 (by decide +kernel) rfl
set_option maxRecDepth 100000 in
theorem L_Mod_441 : Cond.methodLink "MovedSpanModel" 441 M_Mod_onSpan.1 ∈ lw_g := am_in 2034 (by decide +kernel) rfl
set_option maxRecDepth 100000 in
theorem L_Top_9 : Cond.methodLinkNest "MovedSpan" 9 M_River_init.1 "MovedSpan" ∈ lw_tbl := List.mem_of_getElem? (i := 152) (by decide +kernel)
set_option maxRecDepth 100000 in
theorem L_Top_18 : Cond.methodLinkNest "MovedSpan" 18 M_State_init.1 "MovedSpan" ∈ lw_tbl := List.mem_of_getElem? (i := 236) (by decide +kernel)
set_option maxRecDepth 100000 in
theorem L_Past_24 : Cond.methodLinkNest "MovedSpan$Past" 24 M_State_init.1 "MovedSpan" ∈ lw_tbl := List.mem_of_getElem? (i := 288) (by decide +kernel)
set_option maxRecDepth 100000 in
theorem L_Top_39 : Cond.methodLinkNest "MovedSpan" 39 M_Reader_init.1 "MovedSpan" ∈ lw_tbl := List.mem_of_getElem? (i := 302) (by decide +kernel)
set_option maxRecDepth 100000 in
theorem L_Reader_11 : Cond.methodLinkNest "MovedSpan$Reader" 11 M_River_init.1 "MovedSpan" ∈ lw_tbl := List.mem_of_getElem? (i := 307) (by decide +kernel)
set_option maxRecDepth 100000 in
theorem L_Reader_30 : Cond.methodLinkNest "MovedSpan$Reader" 30 M_Tokens_init.1 "MovedSpan" ∈ lw_tbl := List.mem_of_getElem? (i := 310) (by decide +kernel)
set_option maxRecDepth 100000 in
theorem L_Top_97 : Cond.methodLinkNest "MovedSpan" 97 M_Tray_init.1 "MovedSpan" ∈ lw_tbl := List.mem_of_getElem? (i := 514) (by decide +kernel)
set_option maxRecDepth 100000 in
theorem L_River_92 : Cond.methodLinkNest "MovedSpan$River" 92 M_Top_hasBit.1 "MovedSpan" ∈ lw_tbl := List.mem_of_getElem? (i := 925) (by decide +kernel)
set_option maxRecDepth 100000 in
theorem L_Ahead_92 : Cond.methodLinkNest "MovedSpan$Ahead" 92 M_Top_hasBit.1 "MovedSpan" ∈ lw_tbl := List.mem_of_getElem? (i := 1102) (by decide +kernel)
set_option maxRecDepth 100000 in
theorem L_Weeks_72 : Cond.methodLinkNest "MovedSpan$Weeks" 72 M_Top_hasBit.1 "MovedSpan" ∈ lw_tbl := List.mem_of_getElem? (i := 1164) (by decide +kernel)
set_option maxRecDepth 100000 in
theorem C_StringUTF16_227 : Cond.constant "java/lang/StringUTF16" 227 (65536) ∈ lw_g := am_in 703 (by decide +kernel) rfl
set_option maxRecDepth 100000 in
theorem C_Character_110 : Cond.constant "java/lang/Character" 110 (55232) ∈ lw_g := am_in 728 (by decide +kernel) rfl
set_option maxRecDepth 100000 in
theorem C_Character_76 : Cond.constant "java/lang/Character" 76 (56320) ∈ lw_g := am_in 732 (by decide +kernel) rfl
set_option maxRecDepth 100000 in
theorem C_Integer_265 : Cond.constant "java/lang/Integer" 265 (1431655765) ∈ lw_g := am_in 971 (by decide +kernel) rfl
set_option maxRecDepth 100000 in
theorem C_Integer_266 : Cond.constant "java/lang/Integer" 266 (858993459) ∈ lw_g := am_in 972 (by decide +kernel) rfl
set_option maxRecDepth 100000 in
theorem C_Integer_267 : Cond.constant "java/lang/Integer" 267 (252645135) ∈ lw_g := am_in 973 (by decide +kernel) rfl
set_option maxRecDepth 100000 in
theorem C_State_143 : Cond.constant "MovedSpan$State" 143 (1103515245) ∈ lw_g := am_in 1048 (by decide +kernel) rfl
set_option maxRecDepth 100000 in
theorem C_Integer_264 : Cond.constant "java/lang/Integer" 264 (65536) ∈ lw_g := am_in 1147 (by decide +kernel) rfl
set_option maxRecDepth 100000 in
theorem C_Mod_318 : Cond.constant "MovedSpanModel" 318 (1103515245) ∈ lw_g := am_in 1815 (by decide +kernel) rfl
set_option maxRecDepth 100000 in
theorem C_Law_40 : Cond.constantLong "MovedSpan$Law" 40 (-1000000) ∈ lw_g := am_in 849 (by decide +kernel) rfl
set_option maxRecDepth 100000 in
theorem C_Law_42 : Cond.constantLong "MovedSpan$Law" 42 (1000000) ∈ lw_g := am_in 850 (by decide +kernel) rfl
set_option maxRecDepth 100000 in
theorem C_State_100 : Cond.constantLong "MovedSpan$State" 100 (-1) ∈ lw_g := am_in 1010 (by decide +kernel) rfl
set_option maxRecDepth 100000 in
theorem C_State_105 : Cond.constantLong "MovedSpan$State" 105 (49) ∈ lw_g := am_in 1012 (by decide +kernel) rfl
set_option maxRecDepth 100000 in
theorem C_State_110 : Cond.constantLong "MovedSpan$State" 110 (100) ∈ lw_g := am_in 1017 (by decide +kernel) rfl
set_option maxRecDepth 100000 in
theorem C_State_112 : Cond.constantLong "MovedSpan$State" 112 (159) ∈ lw_g := am_in 1018 (by decide +kernel) rfl
set_option maxRecDepth 100000 in
theorem C_State_117 : Cond.constantLong "MovedSpan$State" 117 (200) ∈ lw_g := am_in 1025 (by decide +kernel) rfl
set_option maxRecDepth 100000 in
theorem C_State_119 : Cond.constantLong "MovedSpan$State" 119 (209) ∈ lw_g := am_in 1026 (by decide +kernel) rfl
set_option maxRecDepth 100000 in
theorem C_Top_243 : Cond.constantLong "MovedSpan" 243 (-2) ∈ lw_g := am_in 1111 (by decide +kernel) rfl
set_option maxRecDepth 100000 in
theorem C_Top_245 : Cond.constantLong "MovedSpan" 245 (-3) ∈ lw_g := am_in 1112 (by decide +kernel) rfl
set_option maxRecDepth 100000 in
theorem C_Sightings_41 : Cond.constantLong "MovedSpan$Sightings" 41 (-1) ∈ lw_g := am_in 1305 (by decide +kernel) rfl
set_option maxRecDepth 100000 in
theorem C_Sightings_43 : Cond.constantLong "MovedSpan$Sightings" 43 (8) ∈ lw_g := am_in 1306 (by decide +kernel) rfl
set_option maxRecDepth 100000 in
theorem C_Chances_26 : Cond.constantLong "MovedSpan$Chances" 26 (10) ∈ lw_g := am_in 1365 (by decide +kernel) rfl
set_option maxRecDepth 100000 in
theorem C_Top_319 : Cond.constantLong "MovedSpan" 319 (-1) ∈ lw_g := am_in 1370 (by decide +kernel) rfl
set_option maxRecDepth 100000 in
theorem C_Top_321 : Cond.constantLong "MovedSpan" 321 (100) ∈ lw_g := am_in 1375 (by decide +kernel) rfl
set_option maxRecDepth 100000 in
theorem C_Top_327 : Cond.constantLong "MovedSpan" 327 (-6) ∈ lw_g := am_in 1389 (by decide +kernel) rfl
set_option maxRecDepth 100000 in
theorem C_Top_329 : Cond.constantLong "MovedSpan" 329 (-7) ∈ lw_g := am_in 1390 (by decide +kernel) rfl
set_option maxRecDepth 100000 in
theorem C_Mod_258 : Cond.constantLong "MovedSpanModel" 258 (999) ∈ lw_g := am_in 1688 (by decide +kernel) rfl
set_option maxRecDepth 100000 in
theorem C_Mod_249 : Cond.constantLong "MovedSpanModel" 249 (6) ∈ lw_g := am_in 1709 (by decide +kernel) rfl
set_option maxRecDepth 100000 in
theorem C_Mod_227 : Cond.constantLong "MovedSpanModel" 227 (1000000) ∈ lw_g := am_in 1729 (by decide +kernel) rfl
set_option maxRecDepth 100000 in
theorem C_Mod_229 : Cond.constantLong "MovedSpanModel" 229 (-1000000) ∈ lw_g := am_in 1730 (by decide +kernel) rfl
set_option maxRecDepth 100000 in
theorem C_Mod_274 : Cond.constantLong "MovedSpanModel" 274 (-1) ∈ lw_g := am_in 1747 (by decide +kernel) rfl
set_option maxRecDepth 100000 in
theorem C_Mod_276 : Cond.constantLong "MovedSpanModel" 276 (99) ∈ lw_g := am_in 1752 (by decide +kernel) rfl
set_option maxRecDepth 100000 in
theorem C_Mod_278 : Cond.constantLong "MovedSpanModel" 278 (48) ∈ lw_g := am_in 1757 (by decide +kernel) rfl
set_option maxRecDepth 100000 in
theorem C_Mod_283 : Cond.constantLong "MovedSpanModel" 283 (10) ∈ lw_g := am_in 1766 (by decide +kernel) rfl
set_option maxRecDepth 100000 in
theorem C_Mod_307 : Cond.constantLong "MovedSpanModel" 307 (3) ∈ lw_g := am_in 1771 (by decide +kernel) rfl
set_option maxRecDepth 100000 in
theorem C_Mod_285 : Cond.constantLong "MovedSpanModel" 285 (200) ∈ lw_g := am_in 1784 (by decide +kernel) rfl
set_option maxRecDepth 100000 in
theorem C_Mod_287 : Cond.constantLong "MovedSpanModel" 287 (209) ∈ lw_g := am_in 1785 (by decide +kernel) rfl
set_option maxRecDepth 100000 in
theorem C_Mod_289 : Cond.constantLong "MovedSpanModel" 289 (49) ∈ lw_g := am_in 1786 (by decide +kernel) rfl
set_option maxRecDepth 100000 in
theorem C_Mod_291 : Cond.constantLong "MovedSpanModel" 291 (100) ∈ lw_g := am_in 1787 (by decide +kernel) rfl
set_option maxRecDepth 100000 in
theorem C_Mod_293 : Cond.constantLong "MovedSpanModel" 293 (159) ∈ lw_g := am_in 1788 (by decide +kernel) rfl
set_option maxRecDepth 100000 in
theorem C_Mod_295 : Cond.constantLong "MovedSpanModel" 295 (9) ∈ lw_g := am_in 1789 (by decide +kernel) rfl
set_option maxRecDepth 100000 in
theorem C_Mod_325 : Cond.constantLong "MovedSpanModel" 325 (40) ∈ lw_g := am_in 1806 (by decide +kernel) rfl
set_option maxRecDepth 100000 in
theorem C_Mod_225 : Cond.constantLong "MovedSpanModel" 225 (8) ∈ lw_g := am_in 1824 (by decide +kernel) rfl
set_option maxRecDepth 100000 in
theorem C_Mod_348 : Cond.constantLong "MovedSpanModel" 348 (-2) ∈ lw_g := am_in 1853 (by decide +kernel) rfl
set_option maxRecDepth 100000 in
theorem C_Mod_350 : Cond.constantLong "MovedSpanModel" 350 (12) ∈ lw_g := am_in 1854 (by decide +kernel) rfl
set_option maxRecDepth 100000 in
theorem C_Mod_352 : Cond.constantLong "MovedSpanModel" 352 (-3) ∈ lw_g := am_in 1855 (by decide +kernel) rfl
set_option maxRecDepth 100000 in
theorem C_Mod_354 : Cond.constantLong "MovedSpanModel" 354 (60) ∈ lw_g := am_in 1860 (by decide +kernel) rfl
set_option maxRecDepth 100000 in
theorem C_Mod_432 : Cond.constantLong "MovedSpanModel" 432 (-7) ∈ lw_g := am_in 2010 (by decide +kernel) rfl
set_option maxRecDepth 100000 in
theorem C_Lw_156 : Cond.constantLong "MovedSpanLaw" 156 (4294967295) ∈ lw_g := am_in 2038 (by decide +kernel) rfl
set_option maxRecDepth 100000 in
theorem Cl_Lw_7 : Cond.classLink "MovedSpanLaw" 7 "MovedSpan" ∈ lw_g := am_in 142 (by decide +kernel) rfl
set_option maxRecDepth 100000 in
theorem Cl_Top_7 : Cond.classLink "MovedSpan" 7 "MovedSpan$River" ∈ lw_g := am_in 150 (by decide +kernel) rfl
set_option maxRecDepth 100000 in
theorem Cl_Top_16 : Cond.classLink "MovedSpan" 16 "MovedSpan$State" ∈ lw_g := am_in 234 (by decide +kernel) rfl
set_option maxRecDepth 100000 in
theorem Cl_Top_26 : Cond.classLink "MovedSpan" 26 "MovedSpan$Past" ∈ lw_g := am_in 280 (by decide +kernel) rfl
set_option maxRecDepth 100000 in
theorem Cl_Past_9 : Cond.classLink "MovedSpan$Past" 9 "MovedSpan$State" ∈ lw_g := am_in 286 (by decide +kernel) rfl
set_option maxRecDepth 100000 in
theorem Cl_Top_37 : Cond.classLink "MovedSpan" 37 "MovedSpan$Reader" ∈ lw_g := am_in 300 (by decide +kernel) rfl
set_option maxRecDepth 100000 in
theorem Cl_Reader_9 : Cond.classLink "MovedSpan$Reader" 9 "MovedSpan$River" ∈ lw_g := am_in 306 (by decide +kernel) rfl
set_option maxRecDepth 100000 in
theorem Cl_Reader_28 : Cond.classLink "MovedSpan$Reader" 28 "MovedSpan$Tokens" ∈ lw_g := am_in 308 (by decide +kernel) rfl
set_option maxRecDepth 100000 in
theorem Cl_Reader_35 : Cond.classLink "MovedSpan$Reader" 35 "MovedSpan$Law" ∈ lw_g := am_in 332 (by decide +kernel) rfl
set_option maxRecDepth 100000 in
theorem Cl_Top_44 : Cond.classLink "MovedSpan" 44 "MovedSpan$Tray" ∈ lw_g := am_in 388 (by decide +kernel) rfl
set_option maxRecDepth 100000 in
theorem Cl_Top_58 : Cond.classLink "MovedSpan" 58 "MovedSpan$Ahead" ∈ lw_g := am_in 391 (by decide +kernel) rfl
set_option maxRecDepth 100000 in
theorem Cl_Top_67 : Cond.classLink "MovedSpan" 67 "MovedSpan$Weeks" ∈ lw_g := am_in 417 (by decide +kernel) rfl
set_option maxRecDepth 100000 in
theorem Cl_Top_76 : Cond.classLink "MovedSpan" 76 "MovedSpan$Sightings" ∈ lw_g := am_in 472 (by decide +kernel) rfl
set_option maxRecDepth 100000 in
theorem Cl_Top_83 : Cond.classLink "MovedSpan" 83 "MovedSpan$Chances" ∈ lw_g := am_in 494 (by decide +kernel) rfl
set_option maxRecDepth 100000 in
theorem Cl_Lw_10 : Cond.classLink "MovedSpanLaw" 10 "MovedSpanModel" ∈ lw_g := am_in 1426 (by decide +kernel) rfl
set_option maxRecDepth 100000 in
theorem Ins_Top : Cond.instantiable "MovedSpan" 15 ∈ lw_g := am_in 143 (by decide +kernel) rfl
set_option maxRecDepth 100000 in
theorem Ins_River : Cond.instantiable "MovedSpan$River" 14 ∈ lw_g := am_in 151 (by decide +kernel) rfl
set_option maxRecDepth 100000 in
theorem Ins_State : Cond.instantiable "MovedSpan$State" 6 ∈ lw_g := am_in 235 (by decide +kernel) rfl
set_option maxRecDepth 100000 in
theorem Ins_Past : Cond.instantiable "MovedSpan$Past" 3 ∈ lw_g := am_in 281 (by decide +kernel) rfl
set_option maxRecDepth 100000 in
theorem Ins_Reader : Cond.instantiable "MovedSpan$Reader" 8 ∈ lw_g := am_in 301 (by decide +kernel) rfl
set_option maxRecDepth 100000 in
theorem Ins_Tokens : Cond.instantiable "MovedSpan$Tokens" 4 ∈ lw_g := am_in 309 (by decide +kernel) rfl
set_option maxRecDepth 100000 in
theorem Ins_Law : Cond.instantiable "MovedSpan$Law" 6 ∈ lw_g := am_in 333 (by decide +kernel) rfl
set_option maxRecDepth 100000 in
theorem Ins_Ahead : Cond.instantiable "MovedSpan$Ahead" 6 ∈ lw_g := am_in 392 (by decide +kernel) rfl
set_option maxRecDepth 100000 in
theorem Ins_Weeks : Cond.instantiable "MovedSpan$Weeks" 15 ∈ lw_g := am_in 418 (by decide +kernel) rfl
set_option maxRecDepth 100000 in
theorem Ins_Sightings : Cond.instantiable "MovedSpan$Sightings" 5 ∈ lw_g := am_in 473 (by decide +kernel) rfl
set_option maxRecDepth 100000 in
theorem Ins_Chances : Cond.instantiable "MovedSpan$Chances" 4 ∈ lw_g := am_in 495 (by decide +kernel) rfl
set_option maxRecDepth 100000 in
theorem Ins_Tray : Cond.instantiable "MovedSpan$Tray" 4 ∈ lw_g := am_in 513 (by decide +kernel) rfl
set_option maxRecDepth 100000 in
theorem Ins_Mod : Cond.instantiable "MovedSpanModel" 41 ∈ lw_g := am_in 1427 (by decide +kernel) rfl
set_option maxRecDepth 100000 in
theorem Ac_int : Cond.arrayClass FieldType.int ∈ lw_g := am_in 233 (by decide +kernel) rfl
set_option maxRecDepth 100000 in
theorem Ac_byte : Cond.arrayClass FieldType.byte ∈ lw_g := am_in 331 (by decide +kernel) rfl
set_option maxRecDepth 100000 in
theorem Ac_long : Cond.arrayClass FieldType.long ∈ lw_g := am_in 416 (by decide +kernel) rfl
set_option maxRecDepth 100000 in
theorem Ac_boolean : Cond.arrayClass FieldType.boolean ∈ lw_g := am_in 1559 (by decide +kernel) rfl
set_option maxRecDepth 100000 in
theorem Ao_State : Cond.arrayOver (.object "MovedSpan$State") ∈ lw_tbl := List.mem_of_getElem? (i := 287) (by decide +kernel)
set_option maxRecDepth 100000 in
theorem Ao_Tray : Cond.arrayOver (.object "MovedSpan$Tray") ∈ lw_tbl := List.mem_of_getElem? (i := 389) (by decide +kernel)
set_option maxRecDepth 100000 in
theorem Ao_River : Cond.arrayOver (.object "MovedSpan$River") ∈ lw_tbl := List.mem_of_getElem? (i := 390) (by decide +kernel)
set_option maxRecDepth 100000 in
theorem Cp_nat : Cond.native arraycopyName ∈ lw_g := am_in 867 (by decide +kernel) rfl
set_option maxRecDepth 100000 in
theorem Cp_st : Cond.static arraycopyName ∈ lw_g := am_in 866 (by decide +kernel) rfl
