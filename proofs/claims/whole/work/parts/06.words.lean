/-! words of the tables, by their places -/
theorem iconst_0 : Int32.ofInt 0 = 0 := by decide
theorem iconst_1 : Int32.ofInt 1 = 1 := by decide
theorem iconst_3 : Int32.ofInt 3 = 3 := by decide
theorem fl_RX3_9 : Fl RX3 9 3 0 := ⟨by decide, by decide, tb_in 85 (by decide +kernel) rfl, tb_in 34 (by decide +kernel) rfl⟩
theorem la_3 : ∀ k, k < nf 3 → u_lay (tR 3) (tT 3) k ∈ TBL := by
  intro k hk
  have hk : k < 17 := hk
  rcases (show k = 0 ∨ k = 1 ∨ k = 2 ∨ k = 3 ∨ k = 4 ∨ k = 5 ∨ k = 6 ∨ k = 7 ∨ k = 8 ∨ k = 9 ∨ k = 10 ∨ k = 11 ∨ k = 12 ∨ k = 13 ∨ k = 14 ∨ k = 15 ∨ k = 16 by omega) with rfl | rfl | rfl | rfl | rfl | rfl | rfl | rfl | rfl | rfl | rfl | rfl | rfl | rfl | rfl | rfl | rfl
  · exact tb_in 85 (by decide +kernel) rfl
  · exact tb_in 87 (by decide +kernel) rfl
  · exact tb_in 89 (by decide +kernel) rfl
  · exact tb_in 91 (by decide +kernel) rfl
  · exact tb_in 93 (by decide +kernel) rfl
  · exact tb_in 95 (by decide +kernel) rfl
  · exact tb_in 97 (by decide +kernel) rfl
  · exact tb_in 99 (by decide +kernel) rfl
  · exact tb_in 101 (by decide +kernel) rfl
  · exact tb_in 103 (by decide +kernel) rfl
  · exact tb_in 105 (by decide +kernel) rfl
  · exact tb_in 107 (by decide +kernel) rfl
  · exact tb_in 109 (by decide +kernel) rfl
  · exact tb_in 111 (by decide +kernel) rfl
  · exact tb_in 113 (by decide +kernel) rfl
  · exact tb_in 115 (by decide +kernel) rfl
  · exact tb_in 117 (by decide +kernel) rfl
theorem fl_RX3_15 : Fl RX3 15 3 1 := ⟨by decide, by decide, tb_in 87 (by decide +kernel) rfl, tb_in 38 (by decide +kernel) rfl⟩
theorem fl_RX3_18 : Fl RX3 18 3 2 := ⟨by decide, by decide, tb_in 89 (by decide +kernel) rfl, tb_in 42 (by decide +kernel) rfl⟩
theorem sipush_999 : (Int16.ofInt 999).toInt32 = 999 := by decide
theorem fl_RX3_21 : Fl RX3 21 3 3 := ⟨by decide, by decide, tb_in 91 (by decide +kernel) rfl, tb_in 45 (by decide +kernel) rfl⟩
theorem fl_RX3_24 : Fl RX3 24 3 4 := ⟨by decide, by decide, tb_in 93 (by decide +kernel) rfl, tb_in 49 (by decide +kernel) rfl⟩
theorem fl_RX3_27 : Fl RX3 27 3 5 := ⟨by decide, by decide, tb_in 95 (by decide +kernel) rfl, tb_in 52 (by decide +kernel) rfl⟩
theorem fl_RX3_30 : Fl RX3 30 3 6 := ⟨by decide, by decide, tb_in 97 (by decide +kernel) rfl, tb_in 56 (by decide +kernel) rfl⟩
theorem fl_RX3_33 : Fl RX3 33 3 7 := ⟨by decide, by decide, tb_in 99 (by decide +kernel) rfl, tb_in 60 (by decide +kernel) rfl⟩
theorem fl_RX3_36 : Fl RX3 36 3 8 := ⟨by decide, by decide, tb_in 101 (by decide +kernel) rfl, tb_in 63 (by decide +kernel) rfl⟩
theorem fl_RX3_39 : Fl RX3 39 3 9 := ⟨by decide, by decide, tb_in 103 (by decide +kernel) rfl, tb_in 65 (by decide +kernel) rfl⟩
theorem fl_RX3_49 : Fl RX3 49 3 12 := ⟨by decide, by decide, tb_in 109 (by decide +kernel) rfl, tb_in 73 (by decide +kernel) rfl⟩
theorem ml_RX3_64 : Cond.methodLink RX3 64 yJ7_fill_53178 ∈ TBL := tb_in 247 (by decide +kernel) rfl
theorem mth_J7_fill_53178 : Mth yJ7_fill_53178 cJ7_fill_53178 4 none 2 := ⟨tb_in 249 (by decide +kernel) rfl, tb_in 6 (by decide +kernel) rfl, ⟨by decide +kernel, by decide +kernel⟩, by decide +kernel⟩
theorem fl_RX3_52 : Fl RX3 52 3 13 := ⟨by decide, by decide, tb_in 111 (by decide +kernel) rfl, tb_in 76 (by decide +kernel) rfl⟩
theorem fl_RX3_61 : Fl RX3 61 3 16 := ⟨by decide, by decide, tb_in 117 (by decide +kernel) rfl, tb_in 83 (by decide +kernel) rfl⟩
theorem iconst_m1 : Int32.ofInt (-1) = (-1) := by decide
theorem st_J7_fill_53178 : Cond.static yJ7_fill_53178 ∈ TBL := tb_in 248 (by decide +kernel) rfl
theorem fl_RX3_42 : Fl RX3 42 3 10 := ⟨by decide, by decide, tb_in 105 (by decide +kernel) rfl, tb_in 67 (by decide +kernel) rfl⟩
theorem mn_RX3_96 : (RX3, 96, yX4_write, "SeaMeeting") ∈ nestM := List.mem_of_getElem? (i := 2) rfl
theorem mth_X4_write : Mth yX4_write cX4_write 3 none 3 := ⟨tb_in 260 (by decide +kernel) rfl, tb_in 1 (by decide +kernel) rfl, ⟨by decide +kernel, by decide +kernel⟩, by decide +kernel⟩
theorem fl_RX3_46 : Fl RX3 46 3 11 := ⟨by decide, by decide, tb_in 107 (by decide +kernel) rfl, tb_in 70 (by decide +kernel) rfl⟩
theorem st_X4_write : Cond.static yX4_write ∈ TBL := tb_in 259 (by decide +kernel) rfl
theorem ml_RX3_70 : Cond.methodLink RX3 70 yX3_beginEmpty ∈ TBL := tb_in 243 (by decide +kernel) rfl
theorem mth_X3_beginEmpty : Mth yX3_beginEmpty cX3_beginEmpty 1 none 0 := ⟨tb_in 246 (by decide +kernel) rfl, tb_in 2 (by decide +kernel) rfl, ⟨by decide +kernel, by decide +kernel⟩, by decide +kernel⟩
theorem ml_RX3_73 : Cond.methodLink RX3 73 yX3_cellAt ∈ TBL := tb_in 250 (by decide +kernel) rfl
theorem mth_X3_cellAt : Mth yX3_cellAt cX3_cellAt 3 (some .int) 2 := ⟨tb_in 253 (by decide +kernel) rfl, tb_in 2 (by decide +kernel) rfl, ⟨by decide +kernel, by decide +kernel⟩, by decide +kernel⟩
theorem iconst_2 : Int32.ofInt 2 = 2 := by decide
theorem bipush_10 : (Int8.ofInt 10).toInt32 = 10 := by decide
theorem ml_RX3_77 : Cond.methodLink RX3 77 yX3_addHelper ∈ TBL := tb_in 254 (by decide +kernel) rfl
theorem mth_X3_addHelper : Mth yX3_addHelper cX3_addHelper 3 none 2 := ⟨tb_in 257 (by decide +kernel) rfl, tb_in 2 (by decide +kernel) rfl, ⟨by decide +kernel, by decide +kernel⟩, by decide +kernel⟩
theorem iv_X3_addHelper : Cond.instanceMethod yX3_addHelper ∈ TBL ∧ Cond.selects RX3 yX3_addHelper yX3_addHelper ∈ TBL := ⟨tb_in 255 (by decide +kernel) rfl, tb_in 256 (by decide +kernel) rfl⟩
theorem iv_X3_cellAt : Cond.instanceMethod yX3_cellAt ∈ TBL ∧ Cond.selects RX3 yX3_cellAt yX3_cellAt ∈ TBL := ⟨tb_in 251 (by decide +kernel) rfl, tb_in 252 (by decide +kernel) rfl⟩
theorem iv_X3_beginEmpty : Cond.instanceMethod yX3_beginEmpty ∈ TBL ∧ Cond.selects RX3 yX3_beginEmpty yX3_beginEmpty ∈ TBL := ⟨tb_in 244 (by decide +kernel) rfl, tb_in 245 (by decide +kernel) rfl⟩
theorem bipush_24 : (Int8.ofInt 24).toInt32 = 24 := by decide
theorem fl_RX4_9 : Fl RX4 9 4 0 := ⟨by decide, by decide, tb_in 274 (by decide +kernel) rfl, tb_in 261 (by decide +kernel) rfl⟩
theorem A_1 {b : Wy} : IsA (wC b) 1 := ⟨rfl, Nat.le_of_ble_eq_true rfl, Nat.le_of_ble_eq_true rfl⟩
theorem fl_RX4_45 : Fl RX4 45 4 6 := ⟨by decide, by decide, tb_in 286 (by decide +kernel) rfl, tb_in 267 (by decide +kernel) rfl⟩
theorem sipush_255 : (Int16.ofInt 255).toInt32 = 255 := by decide
theorem ml_RX4_133 : Cond.methodLink RX4 133 yX4_write ∈ TBL := tb_in 309 (by decide +kernel) rfl
theorem la_4 : ∀ k, k < nf 4 → u_lay (tR 4) (tT 4) k ∈ TBL := by
  intro k hk
  have hk : k < 13 := hk
  rcases (show k = 0 ∨ k = 1 ∨ k = 2 ∨ k = 3 ∨ k = 4 ∨ k = 5 ∨ k = 6 ∨ k = 7 ∨ k = 8 ∨ k = 9 ∨ k = 10 ∨ k = 11 ∨ k = 12 by omega) with rfl | rfl | rfl | rfl | rfl | rfl | rfl | rfl | rfl | rfl | rfl | rfl | rfl
  · exact tb_in 274 (by decide +kernel) rfl
  · exact tb_in 276 (by decide +kernel) rfl
  · exact tb_in 278 (by decide +kernel) rfl
  · exact tb_in 280 (by decide +kernel) rfl
  · exact tb_in 282 (by decide +kernel) rfl
  · exact tb_in 284 (by decide +kernel) rfl
  · exact tb_in 286 (by decide +kernel) rfl
  · exact tb_in 288 (by decide +kernel) rfl
  · exact tb_in 290 (by decide +kernel) rfl
  · exact tb_in 292 (by decide +kernel) rfl
  · exact tb_in 294 (by decide +kernel) rfl
  · exact tb_in 296 (by decide +kernel) rfl
  · exact tb_in 298 (by decide +kernel) rfl
theorem iconst_m8 : Int32.ofInt (-8) = (-8) := by decide
theorem bipush_20 : (Int8.ofInt 20).toInt32 = 20 := by decide
theorem sipush_400 : (Int16.ofInt 400).toInt32 = 400 := by decide
theorem ml_RX4_70 : Cond.methodLink RX4 70 yX4_putBytes ∈ TBL := tb_in 305 (by decide +kernel) rfl
theorem mth_X4_putBytes : Mth yX4_putBytes cX4_putBytes 3 none 1 := ⟨tb_in 308 (by decide +kernel) rfl, tb_in 1 (by decide +kernel) rfl, ⟨by decide +kernel, by decide +kernel⟩, by decide +kernel⟩
theorem iv_X4_putBytes : Cond.instanceMethod yX4_putBytes ∈ TBL ∧ Cond.selects RX4 yX4_putBytes yX4_putBytes ∈ TBL := ⟨tb_in 307 (by decide +kernel) rfl, tb_sel (q := (yX4_putBytes, 13)) (List.mem_of_getElem? (i := 0) (by decide +kernel))⟩
theorem fl_RX4_49 : Fl RX4 49 4 7 := ⟨by decide, by decide, tb_in 288 (by decide +kernel) rfl, tb_in 268 (by decide +kernel) rfl⟩
theorem fl_RX4_41 : Fl RX4 41 4 5 := ⟨by decide, by decide, tb_in 284 (by decide +kernel) rfl, tb_in 266 (by decide +kernel) rfl⟩
theorem mm_RX4_246 : Cond.methodLink RX4 246 Lib.Math.min.name ∈ TBL := tb_in 322 (by decide +kernel) rfl
theorem ms_min : Cond.static Lib.Math.min.name ∈ TBL := tb_in 323 (by decide +kernel) rfl
theorem mi_math : Cond.initialized "java/lang/Math" ∈ TBL := tb_in 12 (by decide +kernel) rfl
theorem mc_min : Cond.code Lib.Math.min.name Lib.Math.min.code 2 (some .int) ∈ TBL := tb_in 324 (by decide +kernel) rfl
theorem mm_RX4_251 : Cond.methodLink RX4 251 Lib.Math.max.name ∈ TBL := tb_in 325 (by decide +kernel) rfl
theorem ms_max : Cond.static Lib.Math.max.name ∈ TBL := tb_in 326 (by decide +kernel) rfl
theorem mc_max : Cond.code Lib.Math.max.name Lib.Math.max.code 2 (some .int) ∈ TBL := tb_in 327 (by decide +kernel) rfl
theorem mm_RX3_85 : Cond.methodLink RX3 85 Lib.Math.min.name ∈ TBL := tb_in 335 (by decide +kernel) rfl
theorem ac_RX3_90 : Cond.methodLink RX3 90 arraycopyName ∈ TBL := tb_in 336 (by decide +kernel) rfl
theorem an_copy : Cond.native arraycopyName ∈ TBL := tb_in 338 (by decide +kernel) rfl
theorem as_copy : Cond.static arraycopyName ∈ TBL := tb_in 337 (by decide +kernel) rfl
theorem ai_copy : Cond.initialized "java/lang/System" ∈ TBL := tb_in 17 (by decide +kernel) rfl
theorem ml_RX3_81 : Cond.methodLink RX3 81 yX3_copyRow ∈ TBL := tb_in 332 (by decide +kernel) rfl
theorem mth_X3_copyRow : Mth yX3_copyRow cX3_copyRow 2 none 2 := ⟨tb_in 334 (by decide +kernel) rfl, tb_in 2 (by decide +kernel) rfl, ⟨by decide +kernel, by decide +kernel⟩, by decide +kernel⟩
theorem fl_RX3_55 : Fl RX3 55 3 14 := ⟨by decide, by decide, tb_in 113 (by decide +kernel) rfl, tb_in 79 (by decide +kernel) rfl⟩
theorem fl_RX3_58 : Fl RX3 58 3 15 := ⟨by decide, by decide, tb_in 115 (by decide +kernel) rfl, tb_in 81 (by decide +kernel) rfl⟩
theorem st_X3_copyRow : Cond.static yX3_copyRow ∈ TBL := tb_in 333 (by decide +kernel) rfl
theorem fl_RX0_42 : Fl RX0 42 0 9 := ⟨by decide, by decide, tb_in 235 (by decide +kernel) rfl, tb_in 216 (by decide +kernel) rfl⟩
theorem la_0 : ∀ k, k < nf 0 → u_lay (tR 0) (tT 0) k ∈ TBL := by
  intro k hk
  have hk : k < 10 := hk
  rcases (show k = 0 ∨ k = 1 ∨ k = 2 ∨ k = 3 ∨ k = 4 ∨ k = 5 ∨ k = 6 ∨ k = 7 ∨ k = 8 ∨ k = 9 by omega) with rfl | rfl | rfl | rfl | rfl | rfl | rfl | rfl | rfl | rfl
  · exact tb_in 217 (by decide +kernel) rfl
  · exact tb_in 219 (by decide +kernel) rfl
  · exact tb_in 221 (by decide +kernel) rfl
  · exact tb_in 223 (by decide +kernel) rfl
  · exact tb_in 225 (by decide +kernel) rfl
  · exact tb_in 227 (by decide +kernel) rfl
  · exact tb_in 229 (by decide +kernel) rfl
  · exact tb_in 231 (by decide +kernel) rfl
  · exact tb_in 233 (by decide +kernel) rfl
  · exact tb_in 235 (by decide +kernel) rfl
theorem fl_RX4_55 : Fl RX4 55 4 9 := ⟨by decide, by decide, tb_in 292 (by decide +kernel) rfl, tb_in 270 (by decide +kernel) rfl⟩
theorem fl_RX4_52 : Fl RX4 52 4 8 := ⟨by decide, by decide, tb_in 290 (by decide +kernel) rfl, tb_in 269 (by decide +kernel) rfl⟩
theorem bipush_8 : (Int8.ofInt 8).toInt32 = 8 := by decide
theorem fl_RX4_16 : Fl RX4 16 4 1 := ⟨by decide, by decide, tb_in 276 (by decide +kernel) rfl, tb_in 262 (by decide +kernel) rfl⟩
theorem ml_RX4_143 : Cond.methodLink RX4 143 yX4_keptAt ∈ TBL := tb_in 318 (by decide +kernel) rfl
theorem mth_X4_keptAt : Mth yX4_keptAt cX4_keptAt 2 (some (.object "SeaMeeting$World")) 1 := ⟨tb_in 321 (by decide +kernel) rfl, tb_in 1 (by decide +kernel) rfl, ⟨by decide +kernel, by decide +kernel⟩, by decide +kernel⟩
theorem ml_RX4_90 : Cond.methodLink RX4 90 yX3_become ∈ TBL := tb_in 328 (by decide +kernel) rfl
theorem mth_X3_become : Mth yX3_become cX3_become 2 none 1 := ⟨tb_in 331 (by decide +kernel) rfl, tb_in 2 (by decide +kernel) rfl, ⟨by decide +kernel, by decide +kernel⟩, by decide +kernel⟩
theorem fl_RX4_37 : Fl RX4 37 4 4 := ⟨by decide, by decide, tb_in 282 (by decide +kernel) rfl, tb_in 265 (by decide +kernel) rfl⟩
theorem ml_RX4_147 : Cond.methodLink RX4 147 yX0_forget ∈ TBL := tb_in 339 (by decide +kernel) rfl
theorem mth_X0_forget : Mth yX0_forget cX0_forget 1 none 0 := ⟨tb_in 342 (by decide +kernel) rfl, tb_in 4 (by decide +kernel) rfl, ⟨by decide +kernel, by decide +kernel⟩, by decide +kernel⟩
theorem iv_X0_forget : Cond.instanceMethod yX0_forget ∈ TBL ∧ Cond.selects RX0 yX0_forget yX0_forget ∈ TBL := ⟨tb_in 340 (by decide +kernel) rfl, tb_in 341 (by decide +kernel) rfl⟩
theorem iv_X3_become : Cond.instanceMethod yX3_become ∈ TBL ∧ Cond.selects RX3 yX3_become yX3_become ∈ TBL := ⟨tb_in 329 (by decide +kernel) rfl, tb_in 330 (by decide +kernel) rfl⟩
theorem iv_X4_keptAt : Cond.instanceMethod yX4_keptAt ∈ TBL ∧ Cond.selects RX4 yX4_keptAt yX4_keptAt ∈ TBL := ⟨tb_in 320 (by decide +kernel) rfl, tb_sel (q := (yX4_keptAt, 13)) (List.mem_of_getElem? (i := 1) (by decide +kernel))⟩
theorem fl_RX1_20 : Fl RX1 20 1 2 := ⟨by decide, by decide, tb_in 202 (by decide +kernel) rfl, tb_in 194 (by decide +kernel) rfl⟩
theorem la_1 : ∀ k, k < nf 1 → u_lay (tR 1) (tT 1) k ∈ TBL := by
  intro k hk
  have hk : k < 4 := hk
  rcases (show k = 0 ∨ k = 1 ∨ k = 2 ∨ k = 3 by omega) with rfl | rfl | rfl | rfl
  · exact tb_in 198 (by decide +kernel) rfl
  · exact tb_in 200 (by decide +kernel) rfl
  · exact tb_in 202 (by decide +kernel) rfl
  · exact tb_in 204 (by decide +kernel) rfl
theorem fl_RX1_24 : Fl RX1 24 1 3 := ⟨by decide, by decide, tb_in 204 (by decide +kernel) rfl, tb_in 196 (by decide +kernel) rfl⟩
theorem bipush_9 : (Int8.ofInt 9).toInt32 = 9 := by decide
theorem ml_RX3_100 : Cond.methodLink RX3 100 yX3_xOf ∈ TBL := tb_in 375 (by decide +kernel) rfl
theorem mth_X3_xOf : Mth yX3_xOf cX3_xOf 2 (some .int) 1 := ⟨tb_in 378 (by decide +kernel) rfl, tb_in 2 (by decide +kernel) rfl, ⟨by decide +kernel, by decide +kernel⟩, by decide +kernel⟩
theorem ml_RX3_107 : Cond.methodLink RX3 107 yX3_yOf ∈ TBL := tb_in 381 (by decide +kernel) rfl
theorem mth_X3_yOf : Mth yX3_yOf cX3_yOf 2 (some .int) 1 := ⟨tb_in 384 (by decide +kernel) rfl, tb_in 2 (by decide +kernel) rfl, ⟨by decide +kernel, by decide +kernel⟩, by decide +kernel⟩
theorem ml_RX3_113 : Cond.methodLink RX3 113 yX3_isOnSea ∈ TBL := tb_in 387 (by decide +kernel) rfl
theorem mth_X3_isOnSea : Mth yX3_isOnSea cX3_isOnSea 3 (some .boolean) 2 := ⟨tb_in 390 (by decide +kernel) rfl, tb_in 2 (by decide +kernel) rfl, ⟨by decide +kernel, by decide +kernel⟩, by decide +kernel⟩
theorem mn_RX3_117 : (RX3, 117, yX4_read, "SeaMeeting") ∈ nestM := List.mem_of_getElem? (i := 3) rfl
theorem mth_X4_read : Mth yX4_read cX4_read 2 (some .int) 2 := ⟨tb_in 366 (by decide +kernel) rfl, tb_in 1 (by decide +kernel) rfl, ⟨by decide +kernel, by decide +kernel⟩, by decide +kernel⟩
theorem st_X4_read : Cond.static yX4_read ∈ TBL := tb_in 365 (by decide +kernel) rfl
theorem iv_X3_isOnSea : Cond.instanceMethod yX3_isOnSea ∈ TBL ∧ Cond.selects RX3 yX3_isOnSea yX3_isOnSea ∈ TBL := ⟨tb_in 388 (by decide +kernel) rfl, tb_in 389 (by decide +kernel) rfl⟩
theorem iv_X3_yOf : Cond.instanceMethod yX3_yOf ∈ TBL ∧ Cond.selects RX3 yX3_yOf yX3_yOf ∈ TBL := ⟨tb_in 382 (by decide +kernel) rfl, tb_in 383 (by decide +kernel) rfl⟩
theorem iv_X3_xOf : Cond.instanceMethod yX3_xOf ∈ TBL ∧ Cond.selects RX3 yX3_xOf yX3_xOf ∈ TBL := ⟨tb_in 376 (by decide +kernel) rfl, tb_in 377 (by decide +kernel) rfl⟩
theorem ml_RX3_121 : Cond.methodLink RX3 121 yX3_stepFrom ∈ TBL := tb_in 371 (by decide +kernel) rfl
theorem mth_X3_stepFrom : Mth yX3_stepFrom cX3_stepFrom 6 (some .int) 2 := ⟨tb_in 374 (by decide +kernel) rfl, tb_in 2 (by decide +kernel) rfl, ⟨by decide +kernel, by decide +kernel⟩, by decide +kernel⟩
theorem iv_X3_stepFrom : Cond.instanceMethod yX3_stepFrom ∈ TBL ∧ Cond.selects RX3 yX3_stepFrom yX3_stepFrom ∈ TBL := ⟨tb_in 372 (by decide +kernel) rfl, tb_in 373 (by decide +kernel) rfl⟩
theorem ml_RX3_124 : Cond.methodLink RX3 124 yX3_carriedFrom ∈ TBL := tb_in 367 (by decide +kernel) rfl
theorem mth_X3_carriedFrom : Mth yX3_carriedFrom cX3_carriedFrom 4 (some .int) 2 := ⟨tb_in 370 (by decide +kernel) rfl, tb_in 2 (by decide +kernel) rfl, ⟨by decide +kernel, by decide +kernel⟩, by decide +kernel⟩
theorem iv_X3_carriedFrom : Cond.instanceMethod yX3_carriedFrom ∈ TBL ∧ Cond.selects RX3 yX3_carriedFrom yX3_carriedFrom ∈ TBL := ⟨tb_in 368 (by decide +kernel) rfl, tb_in 369 (by decide +kernel) rfl⟩
theorem ml_RX3_127 : Cond.methodLink RX3 127 yX3_windOf ∈ TBL := tb_in 391 (by decide +kernel) rfl
theorem mth_X3_windOf : Mth yX3_windOf cX3_windOf 3 (some .int) 1 := ⟨tb_in 394 (by decide +kernel) rfl, tb_in 2 (by decide +kernel) rfl, ⟨by decide +kernel, by decide +kernel⟩, by decide +kernel⟩
theorem iv_X3_windOf : Cond.instanceMethod yX3_windOf ∈ TBL ∧ Cond.selects RX3 yX3_windOf yX3_windOf ∈ TBL := ⟨tb_in 392 (by decide +kernel) rfl, tb_in 393 (by decide +kernel) rfl⟩
theorem fl_RX0_46 : Fl RX0 46 0 0 := ⟨by decide, by decide, tb_in 217 (by decide +kernel) rfl, tb_in 207 (by decide +kernel) rfl⟩
theorem fl_RX0_77 : Fl RX0 77 3 5 := ⟨by decide, by decide, tb_in 95 (by decide +kernel) rfl, tb_in 53 (by decide +kernel) rfl⟩
theorem fl_RX0_80 : Fl RX0 80 3 6 := ⟨by decide, by decide, tb_in 97 (by decide +kernel) rfl, tb_in 57 (by decide +kernel) rfl⟩
theorem bipush_60 : (Int8.ofInt 60).toInt32 = 60 := by decide
theorem fl_RX0_9 : Fl RX0 9 0 1 := ⟨by decide, by decide, tb_in 219 (by decide +kernel) rfl, tb_in 208 (by decide +kernel) rfl⟩
theorem A_20 {b : Wy} : IsA (wC b) 20 := ⟨rfl, Nat.le_of_ble_eq_true rfl, Nat.le_of_ble_eq_true rfl⟩
theorem fl_RX0_15 : Fl RX0 15 0 2 := ⟨by decide, by decide, tb_in 221 (by decide +kernel) rfl, tb_in 209 (by decide +kernel) rfl⟩
theorem A_21 {b : Wy} : IsA (wC b) 21 := ⟨rfl, Nat.le_of_ble_eq_true rfl, Nat.le_of_ble_eq_true rfl⟩
theorem fl_RX0_83 : Fl RX0 83 3 2 := ⟨by decide, by decide, tb_in 89 (by decide +kernel) rfl, tb_in 43 (by decide +kernel) rfl⟩
theorem ml_RX0_86 : Cond.methodLink RX0 86 yX3_drifterBehind ∈ TBL := tb_in 360 (by decide +kernel) rfl
theorem mth_X3_drifterBehind : Mth yX3_drifterBehind cX3_drifterBehind 5 (some .int) 2 := ⟨tb_in 363 (by decide +kernel) rfl, tb_in 2 (by decide +kernel) rfl, ⟨by decide +kernel, by decide +kernel⟩, by decide +kernel⟩
theorem ml_RX0_89 : Cond.methodLink RX0 89 yX3_portBehind ∈ TBL := tb_in 395 (by decide +kernel) rfl
theorem mth_X3_portBehind : Mth yX3_portBehind cX3_portBehind 3 (some .int) 2 := ⟨tb_in 398 (by decide +kernel) rfl, tb_in 2 (by decide +kernel) rfl, ⟨by decide +kernel, by decide +kernel⟩, by decide +kernel⟩
theorem iv_X3_portBehind : Cond.instanceMethod yX3_portBehind ∈ TBL ∧ Cond.selects RX3 yX3_portBehind yX3_portBehind ∈ TBL := ⟨tb_in 396 (by decide +kernel) rfl, tb_in 397 (by decide +kernel) rfl⟩
theorem iv_X3_drifterBehind : Cond.instanceMethod yX3_drifterBehind ∈ TBL ∧ Cond.selects RX3 yX3_drifterBehind yX3_drifterBehind ∈ TBL := ⟨tb_in 361 (by decide +kernel) rfl, tb_in 362 (by decide +kernel) rfl⟩
theorem fl_RX0_38 : Fl RX0 38 0 8 := ⟨by decide, by decide, tb_in 233 (by decide +kernel) rfl, tb_in 215 (by decide +kernel) rfl⟩
theorem sipush_240 : (Int16.ofInt 240).toInt32 = 240 := by decide
theorem fl_RX0_18 : Fl RX0 18 0 3 := ⟨by decide, by decide, tb_in 223 (by decide +kernel) rfl, tb_in 210 (by decide +kernel) rfl⟩
theorem A_22 {b : Wy} : IsA (wC b) 22 := ⟨rfl, Nat.le_of_ble_eq_true rfl, Nat.le_of_ble_eq_true rfl⟩
theorem ml_RX0_92 : Cond.methodLink RX0 92 yX3_helperBehind ∈ TBL := tb_in 403 (by decide +kernel) rfl
theorem mth_X3_helperBehind : Mth yX3_helperBehind cX3_helperBehind 4 (some .int) 2 := ⟨tb_in 406 (by decide +kernel) rfl, tb_in 2 (by decide +kernel) rfl, ⟨by decide +kernel, by decide +kernel⟩, by decide +kernel⟩
theorem iv_X3_helperBehind : Cond.instanceMethod yX3_helperBehind ∈ TBL ∧ Cond.selects RX3 yX3_helperBehind yX3_helperBehind ∈ TBL := ⟨tb_in 404 (by decide +kernel) rfl, tb_in 405 (by decide +kernel) rfl⟩
theorem mm_RX3_130 : Cond.methodLink RX3 130 Lib.Math.abs.name ∈ TBL := tb_in 415 (by decide +kernel) rfl
theorem ms_abs : Cond.static Lib.Math.abs.name ∈ TBL := tb_in 416 (by decide +kernel) rfl
theorem mc_abs : Cond.code Lib.Math.abs.name Lib.Math.abs.code 1 (some .int) ∈ TBL := tb_in 417 (by decide +kernel) rfl
theorem fl_RX0_21 : Fl RX0 21 0 4 := ⟨by decide, by decide, tb_in 225 (by decide +kernel) rfl, tb_in 211 (by decide +kernel) rfl⟩
theorem A_23 {b : Wy} : IsA (wC b) 23 := ⟨rfl, Nat.le_of_ble_eq_true rfl, Nat.le_of_ble_eq_true rfl⟩
theorem ml_RX0_95 : Cond.methodLink RX0 95 yX3_priceOf ∈ TBL := tb_in 411 (by decide +kernel) rfl
theorem mth_X3_priceOf : Mth yX3_priceOf cX3_priceOf 5 (some .int) 2 := ⟨tb_in 414 (by decide +kernel) rfl, tb_in 2 (by decide +kernel) rfl, ⟨by decide +kernel, by decide +kernel⟩, by decide +kernel⟩
theorem iv_X3_priceOf : Cond.instanceMethod yX3_priceOf ∈ TBL ∧ Cond.selects RX3 yX3_priceOf yX3_priceOf ∈ TBL := ⟨tb_in 412 (by decide +kernel) rfl, tb_in 413 (by decide +kernel) rfl⟩
theorem fl_RX0_51 : Fl RX0 51 3 0 := ⟨by decide, by decide, tb_in 85 (by decide +kernel) rfl, tb_in 35 (by decide +kernel) rfl⟩
theorem fl_RX0_56 : Fl RX0 56 3 1 := ⟨by decide, by decide, tb_in 87 (by decide +kernel) rfl, tb_in 39 (by decide +kernel) rfl⟩
theorem mm_RX0_59 : Cond.methodLink RX0 59 Lib.Math.min.name ∈ TBL := tb_in 351 (by decide +kernel) rfl
theorem fl_RX0_26 : Fl RX0 26 0 5 := ⟨by decide, by decide, tb_in 227 (by decide +kernel) rfl, tb_in 212 (by decide +kernel) rfl⟩
theorem ml_RX0_68 : Cond.methodLink RX0 68 yX0_lookAtPaths ∈ TBL := tb_in 356 (by decide +kernel) rfl
theorem mth_X0_lookAtPaths : Mth yX0_lookAtPaths cX0_lookAtPaths 4 none 0 := ⟨tb_in 359 (by decide +kernel) rfl, tb_in 4 (by decide +kernel) rfl, ⟨by decide +kernel, by decide +kernel⟩, by decide +kernel⟩
theorem ml_RX0_71 : Cond.methodLink RX0 71 yX0_lookAtCourses ∈ TBL := tb_in 399 (by decide +kernel) rfl
theorem mth_X0_lookAtCourses : Mth yX0_lookAtCourses cX0_lookAtCourses 3 none 0 := ⟨tb_in 402 (by decide +kernel) rfl, tb_in 4 (by decide +kernel) rfl, ⟨by decide +kernel, by decide +kernel⟩, by decide +kernel⟩
theorem ml_RX0_74 : Cond.methodLink RX0 74 yX0_lookAtPrices ∈ TBL := tb_in 407 (by decide +kernel) rfl
theorem mth_X0_lookAtPrices : Mth yX0_lookAtPrices cX0_lookAtPrices 3 none 0 := ⟨tb_in 410 (by decide +kernel) rfl, tb_in 4 (by decide +kernel) rfl, ⟨by decide +kernel, by decide +kernel⟩, by decide +kernel⟩
theorem iv_X0_lookAtPrices : Cond.instanceMethod yX0_lookAtPrices ∈ TBL ∧ Cond.selects RX0 yX0_lookAtPrices yX0_lookAtPrices ∈ TBL := ⟨tb_in 409 (by decide +kernel) rfl, tb_sel (q := (yX0_lookAtPrices, 10)) (List.mem_of_getElem? (i := 4) (by decide +kernel))⟩
theorem iv_X0_lookAtCourses : Cond.instanceMethod yX0_lookAtCourses ∈ TBL ∧ Cond.selects RX0 yX0_lookAtCourses yX0_lookAtCourses ∈ TBL := ⟨tb_in 401 (by decide +kernel) rfl, tb_sel (q := (yX0_lookAtCourses, 10)) (List.mem_of_getElem? (i := 3) (by decide +kernel))⟩
theorem iv_X0_lookAtPaths : Cond.instanceMethod yX0_lookAtPaths ∈ TBL ∧ Cond.selects RX0 yX0_lookAtPaths yX0_lookAtPaths ∈ TBL := ⟨tb_in 358 (by decide +kernel) rfl, tb_sel (q := (yX0_lookAtPaths, 10)) (List.mem_of_getElem? (i := 2) (by decide +kernel))⟩
theorem ml_RX0_65 : Cond.methodLink RX0 65 yX1_forget ∈ TBL := tb_in 352 (by decide +kernel) rfl
theorem mth_X1_forget : Mth yX1_forget cX1_forget 1 none 0 := ⟨tb_in 355 (by decide +kernel) rfl, tb_in 5 (by decide +kernel) rfl, ⟨by decide +kernel, by decide +kernel⟩, by decide +kernel⟩
theorem iv_X1_forget : Cond.instanceMethod yX1_forget ∈ TBL ∧ Cond.selects RX1 yX1_forget yX1_forget ∈ TBL := ⟨tb_in 353 (by decide +kernel) rfl, tb_in 354 (by decide +kernel) rfl⟩
theorem mm_RX0_117 : Cond.methodLink RX0 117 Lib.Math.max.name ∈ TBL := tb_in 430 (by decide +kernel) rfl
theorem ml_RX0_137 : Cond.methodLink RX0 137 yJ7_fill_53178 ∈ TBL := tb_in 435 (by decide +kernel) rfl
theorem mn_RX0_143 : (RX0, 143, yX4_write, "SeaMeeting") ∈ nestM := List.mem_of_getElem? (i := 5) rfl
theorem ml_RX0_146 : Cond.methodLink RX0 146 yX0_sailFrom ∈ TBL := tb_in 441 (by decide +kernel) rfl
theorem mth_X0_sailFrom : Mth yX0_sailFrom cX0_sailFrom 11 none 5 := ⟨tb_in 444 (by decide +kernel) rfl, tb_in 4 (by decide +kernel) rfl, ⟨by decide +kernel, by decide +kernel⟩, by decide +kernel⟩
theorem iv_X0_sailFrom : Cond.instanceMethod yX0_sailFrom ∈ TBL ∧ Cond.selects RX0 yX0_sailFrom yX0_sailFrom ∈ TBL := ⟨tb_in 443 (by decide +kernel) rfl, tb_sel (q := (yX0_sailFrom, 10)) (List.mem_of_getElem? (i := 8) (by decide +kernel))⟩
theorem ml_RX0_110 : Cond.methodLink RX0 110 yX0_sailingOf ∈ TBL := tb_in 426 (by decide +kernel) rfl
theorem mth_X0_sailingOf : Mth yX0_sailingOf cX0_sailingOf 2 (some (.object "SeaMeeting$Sailing")) 1 := ⟨tb_in 429 (by decide +kernel) rfl, tb_in 4 (by decide +kernel) rfl, ⟨by decide +kernel, by decide +kernel⟩, by decide +kernel⟩
theorem fl_RX0_114 : Fl RX0 114 1 2 := ⟨by decide, by decide, tb_in 202 (by decide +kernel) rfl, tb_in 195 (by decide +kernel) rfl⟩
theorem iv_X0_sailingOf : Cond.instanceMethod yX0_sailingOf ∈ TBL ∧ Cond.selects RX0 yX0_sailingOf yX0_sailingOf ∈ TBL := ⟨tb_in 428 (by decide +kernel) rfl, tb_sel (q := (yX0_sailingOf, 10)) (List.mem_of_getElem? (i := 6) (by decide +kernel))⟩
theorem fl_RX0_120 : Fl RX0 120 1 0 := ⟨by decide, by decide, tb_in 198 (by decide +kernel) rfl, tb_in 191 (by decide +kernel) rfl⟩
theorem ml_RX0_133 : Cond.methodLink RX0 133 yX0_sailHour ∈ TBL := tb_in 437 (by decide +kernel) rfl
theorem mth_X0_sailHour : Mth yX0_sailHour cX0_sailHour 6 none 4 := ⟨tb_in 440 (by decide +kernel) rfl, tb_in 4 (by decide +kernel) rfl, ⟨by decide +kernel, by decide +kernel⟩, by decide +kernel⟩
theorem iv_X0_sailHour : Cond.instanceMethod yX0_sailHour ∈ TBL ∧ Cond.selects RX0 yX0_sailHour yX0_sailHour ∈ TBL := ⟨tb_in 439 (by decide +kernel) rfl, tb_sel (q := (yX0_sailHour, 10)) (List.mem_of_getElem? (i := 7) (by decide +kernel))⟩
theorem fl_RX0_123 : Fl RX0 123 3 10 := ⟨by decide, by decide, tb_in 105 (by decide +kernel) rfl, tb_in 69 (by decide +kernel) rfl⟩
theorem mn_RX0_98 : (RX0, 98, yX4_read, "SeaMeeting") ∈ nestM := List.mem_of_getElem? (i := 4) rfl
theorem fl_RX0_126 : Fl RX0 126 3 11 := ⟨by decide, by decide, tb_in 107 (by decide +kernel) rfl, tb_in 72 (by decide +kernel) rfl⟩
theorem ml_RX0_129 : Cond.methodLink RX0 129 yX0_begin ∈ TBL := tb_in 432 (by decide +kernel) rfl
theorem mth_X0_begin : Mth yX0_begin cX0_begin 3 none 3 := ⟨tb_in 434 (by decide +kernel) rfl, tb_in 4 (by decide +kernel) rfl, ⟨by decide +kernel, by decide +kernel⟩, by decide +kernel⟩
theorem st_X0_begin : Cond.static yX0_begin ∈ TBL := tb_in 433 (by decide +kernel) rfl
theorem ml_RX0_102 : Cond.methodLink RX0 102 yX0_mostsOf ∈ TBL := tb_in 422 (by decide +kernel) rfl
theorem mth_X0_mostsOf : Mth yX0_mostsOf cX0_mostsOf 5 (some (.array .int)) 2 := ⟨tb_in 425 (by decide +kernel) rfl, tb_in 4 (by decide +kernel) rfl, ⟨by decide +kernel, by decide +kernel⟩, by decide +kernel⟩
theorem iv_X0_mostsOf : Cond.instanceMethod yX0_mostsOf ∈ TBL ∧ Cond.selects RX0 yX0_mostsOf yX0_mostsOf ∈ TBL := ⟨tb_in 424 (by decide +kernel) rfl, tb_sel (q := (yX0_mostsOf, 10)) (List.mem_of_getElem? (i := 5) (by decide +kernel))⟩
theorem ml_RX4_190 : Cond.methodLink RX4 190 yX0_refresh ∈ TBL := tb_in 347 (by decide +kernel) rfl
theorem mth_X0_refresh : Mth yX0_refresh cX0_refresh 2 none 0 := ⟨tb_in 350 (by decide +kernel) rfl, tb_in 4 (by decide +kernel) rfl, ⟨by decide +kernel, by decide +kernel⟩, by decide +kernel⟩
theorem bipush_61 : (Int8.ofInt 61).toInt32 = 61 := by decide
theorem iv_X0_refresh : Cond.instanceMethod yX0_refresh ∈ TBL ∧ Cond.selects RX0 yX0_refresh yX0_refresh ∈ TBL := ⟨tb_in 348 (by decide +kernel) rfl, tb_in 349 (by decide +kernel) rfl⟩
theorem fl_RX4_93 : Fl RX4 93 3 7 := ⟨by decide, by decide, tb_in 99 (by decide +kernel) rfl, tb_in 62 (by decide +kernel) rfl⟩
theorem ml_RX4_202 : Cond.methodLink RX4 202 yX0_earliestOf ∈ TBL := tb_in 418 (by decide +kernel) rfl
theorem mth_X0_earliestOf : Mth yX0_earliestOf cX0_earliestOf 3 (some .int) 1 := ⟨tb_in 421 (by decide +kernel) rfl, tb_in 4 (by decide +kernel) rfl, ⟨by decide +kernel, by decide +kernel⟩, by decide +kernel⟩
theorem iv_X0_earliestOf : Cond.instanceMethod yX0_earliestOf ∈ TBL ∧ Cond.selects RX0 yX0_earliestOf yX0_earliestOf ∈ TBL := ⟨tb_in 419 (by decide +kernel) rfl, tb_in 420 (by decide +kernel) rfl⟩
theorem cl_RX4_227 : Cond.constantLong RX4 227 31 ∈ TBL := tb_in 449 (by decide +kernel) rfl
theorem fl_RX4_162 : Fl RX4 162 3 5 := ⟨by decide, by decide, tb_in 95 (by decide +kernel) rfl, tb_in 55 (by decide +kernel) rfl⟩
theorem fl_RX4_171 : Fl RX4 171 3 6 := ⟨by decide, by decide, tb_in 97 (by decide +kernel) rfl, tb_in 59 (by decide +kernel) rfl⟩
theorem fl_RX4_187 : Fl RX4 187 3 10 := ⟨by decide, by decide, tb_in 105 (by decide +kernel) rfl, tb_in 68 (by decide +kernel) rfl⟩
theorem ml_RX4_129 : Cond.methodLink RX4 129 yX4_read ∈ TBL := tb_in 450 (by decide +kernel) rfl
theorem fl_RX4_126 : Fl RX4 126 3 11 := ⟨by decide, by decide, tb_in 107 (by decide +kernel) rfl, tb_in 71 (by decide +kernel) rfl⟩
theorem tsw0_3 (a : Int32) : (a < 0 ∨ 2 < a) ∨ a = 0 ∨ a = 1 ∨ a = 2 := by
  have h := tsw_of a
  rcases (show (a.toInt < 0 ∨ 2 < a.toInt) ∨ a.toInt = 0 ∨ a.toInt = 1 ∨ a.toInt = 2 by omega) with h1 | h1 | h1 | h1
  · exact Or.inl (h1.imp (fun z => Int32.lt_iff_toInt_lt.mpr z) (fun z => Int32.lt_iff_toInt_lt.mpr z))
  · exact Or.inr ((Or.inl (Int32.toInt_inj.mp h1)))
  · exact Or.inr ((Or.inr (Or.inl (Int32.toInt_inj.mp h1))))
  · exact Or.inr ((Or.inr (Or.inr (id (Int32.toInt_inj.mp h1)))))
theorem tswO0_3 {a : Int32} (h : a < 0 ∨ 2 < a) : a.toInt < 0 ∨ 2 < a.toInt := h.imp (fun z => (show a.toInt < (0 : Int32).toInt from Int32.lt_iff_toInt_lt.mp z)) (fun z => (show (2 : Int32).toInt < a.toInt from Int32.lt_iff_toInt_lt.mp z))
theorem fl_RX4_58 : Fl RX4 58 4 10 := ⟨by decide, by decide, tb_in 294 (by decide +kernel) rfl, tb_in 271 (by decide +kernel) rfl⟩
theorem fl_RX4_61 : Fl RX4 61 4 11 := ⟨by decide, by decide, tb_in 296 (by decide +kernel) rfl, tb_in 272 (by decide +kernel) rfl⟩
theorem fl_RX4_64 : Fl RX4 64 4 12 := ⟨by decide, by decide, tb_in 298 (by decide +kernel) rfl, tb_in 273 (by decide +kernel) rfl⟩
theorem fl_RX2_56 : Fl RX2 56 2 1 := ⟨by decide, by decide, tb_in 145 (by decide +kernel) rfl, tb_in 128 (by decide +kernel) rfl⟩
theorem ml_RX2_83 : Cond.methodLink RX2 83 yX3_beginEmpty ∈ TBL := tb_in 546 (by decide +kernel) rfl
theorem fl_RX2_52 : Fl RX2 52 2 0 := ⟨by decide, by decide, tb_in 143 (by decide +kernel) rfl, tb_in 127 (by decide +kernel) rfl⟩
theorem mm_RX2_86 : Cond.methodLink RX2 86 Lib.Math.min.name ∈ TBL := tb_in 547 (by decide +kernel) rfl
theorem fl_RX2_9 : Fl RX2 9 2 2 := ⟨by decide, by decide, tb_in 147 (by decide +kernel) rfl, tb_in 129 (by decide +kernel) rfl⟩
theorem la_2 : ∀ k, k < nf 2 → u_lay (tR 2) (tT 2) k ∈ TBL := by
  intro k hk
  have hk : k < 15 := hk
  rcases (show k = 0 ∨ k = 1 ∨ k = 2 ∨ k = 3 ∨ k = 4 ∨ k = 5 ∨ k = 6 ∨ k = 7 ∨ k = 8 ∨ k = 9 ∨ k = 10 ∨ k = 11 ∨ k = 12 ∨ k = 13 ∨ k = 14 by omega) with rfl | rfl | rfl | rfl | rfl | rfl | rfl | rfl | rfl | rfl | rfl | rfl | rfl | rfl | rfl
  · exact tb_in 143 (by decide +kernel) rfl
  · exact tb_in 145 (by decide +kernel) rfl
  · exact tb_in 147 (by decide +kernel) rfl
  · exact tb_in 149 (by decide +kernel) rfl
  · exact tb_in 151 (by decide +kernel) rfl
  · exact tb_in 153 (by decide +kernel) rfl
  · exact tb_in 155 (by decide +kernel) rfl
  · exact tb_in 157 (by decide +kernel) rfl
  · exact tb_in 159 (by decide +kernel) rfl
  · exact tb_in 161 (by decide +kernel) rfl
  · exact tb_in 163 (by decide +kernel) rfl
  · exact tb_in 165 (by decide +kernel) rfl
  · exact tb_in 167 (by decide +kernel) rfl
  · exact tb_in 169 (by decide +kernel) rfl
  · exact tb_in 171 (by decide +kernel) rfl
theorem fl_RX2_15 : Fl RX2 15 2 3 := ⟨by decide, by decide, tb_in 149 (by decide +kernel) rfl, tb_in 130 (by decide +kernel) rfl⟩
theorem fl_RX2_33 : Fl RX2 33 2 9 := ⟨by decide, by decide, tb_in 161 (by decide +kernel) rfl, tb_in 136 (by decide +kernel) rfl⟩
theorem fl_RX2_36 : Fl RX2 36 2 10 := ⟨by decide, by decide, tb_in 163 (by decide +kernel) rfl, tb_in 137 (by decide +kernel) rfl⟩
theorem fl_RX2_39 : Fl RX2 39 2 11 := ⟨by decide, by decide, tb_in 165 (by decide +kernel) rfl, tb_in 139 (by decide +kernel) rfl⟩
theorem fl_RX2_43 : Fl RX2 43 2 12 := ⟨by decide, by decide, tb_in 167 (by decide +kernel) rfl, tb_in 140 (by decide +kernel) rfl⟩
theorem fl_RX2_46 : Fl RX2 46 2 13 := ⟨by decide, by decide, tb_in 169 (by decide +kernel) rfl, tb_in 141 (by decide +kernel) rfl⟩
theorem fl_RX2_49 : Fl RX2 49 2 14 := ⟨by decide, by decide, tb_in 171 (by decide +kernel) rfl, tb_in 142 (by decide +kernel) rfl⟩
theorem bipush_32 : (Int8.ofInt 32).toInt32 = 32 := by decide
theorem ml_RX2_239 : Cond.methodLink RX2 239 yX2_skipBlanks ∈ TBL := tb_in 556 (by decide +kernel) rfl
theorem mth_X2_skipBlanks : Mth yX2_skipBlanks cX2_skipBlanks 1 none 0 := ⟨tb_in 559 (by decide +kernel) rfl, tb_in 3 (by decide +kernel) rfl, ⟨by decide +kernel, by decide +kernel⟩, by decide +kernel⟩
theorem fl_RX2_18 : Fl RX2 18 2 4 := ⟨by decide, by decide, tb_in 151 (by decide +kernel) rfl, tb_in 131 (by decide +kernel) rfl⟩
theorem iv_X2_skipBlanks : Cond.instanceMethod yX2_skipBlanks ∈ TBL ∧ Cond.selects RX2 yX2_skipBlanks yX2_skipBlanks ∈ TBL := ⟨tb_in 558 (by decide +kernel) rfl, tb_sel (q := (yX2_skipBlanks, 15)) (List.mem_of_getElem? (i := 14) (by decide +kernel))⟩
theorem ml_RX2_242 : Cond.methodLink RX2 242 yX2_byteAt ∈ TBL := tb_in 560 (by decide +kernel) rfl
theorem mth_X2_byteAt : Mth yX2_byteAt cX2_byteAt 2 (some .int) 1 := ⟨tb_in 563 (by decide +kernel) rfl, tb_in 3 (by decide +kernel) rfl, ⟨by decide +kernel, by decide +kernel⟩, by decide +kernel⟩
theorem bipush_97 : (Int8.ofInt 97).toInt32 = 97 := by decide
theorem bipush_122 : (Int8.ofInt 122).toInt32 = 122 := by decide
theorem mn_RX2_245 : (RX2, 245, yX4_isIn, "SeaMeeting") ∈ nestM := List.mem_of_getElem? (i := 6) rfl
theorem mth_X4_isIn : Mth yX4_isIn cX4_isIn 3 (some .boolean) 3 := ⟨tb_in 465 (by decide +kernel) rfl, tb_in 1 (by decide +kernel) rfl, ⟨by decide +kernel, by decide +kernel⟩, by decide +kernel⟩
theorem st_X4_isIn : Cond.static yX4_isIn ∈ TBL := tb_in 464 (by decide +kernel) rfl
theorem iv_X2_byteAt : Cond.instanceMethod yX2_byteAt ∈ TBL ∧ Cond.selects RX2 yX2_byteAt yX2_byteAt ∈ TBL := ⟨tb_in 562 (by decide +kernel) rfl, tb_sel (q := (yX2_byteAt, 15)) (List.mem_of_getElem? (i := 15) (by decide +kernel))⟩
theorem ml_RX2_79 : Cond.methodLink RX2 79 yX2_fail ∈ TBL := tb_in 565 (by decide +kernel) rfl
theorem mth_X2_fail : Mth yX2_fail cX2_fail 3 (some .boolean) 2 := ⟨tb_in 568 (by decide +kernel) rfl, tb_in 3 (by decide +kernel) rfl, ⟨by decide +kernel, by decide +kernel⟩, by decide +kernel⟩
theorem iv_X2_fail : Cond.instanceMethod yX2_fail ∈ TBL ∧ Cond.selects RX2 yX2_fail yX2_fail ∈ TBL := ⟨tb_in 567 (by decide +kernel) rfl, tb_sel (q := (yX2_fail, 15)) (List.mem_of_getElem? (i := 16) (by decide +kernel))⟩
theorem ml_RX2_249 : Cond.methodLink RX2 249 yJ0_length_8abf5 ∈ TBL := tb_in 574 (by decide +kernel) rfl
theorem ml_RX2_255 : Cond.methodLink RX2 255 yJ0_charAt_5068e ∈ TBL := tb_in 584 (by decide +kernel) rfl
theorem fl_RX2_21 : Fl RX2 21 2 5 := ⟨by decide, by decide, tb_in 153 (by decide +kernel) rfl, tb_in 132 (by decide +kernel) rfl⟩
theorem bipush_48 : (Int8.ofInt 48).toInt32 = 48 := by decide
theorem bipush_57 : (Int8.ofInt 57).toInt32 = 57 := by decide
theorem sipush_1000 : (Int16.ofInt 1000).toInt32 = 1000 := by decide
theorem bipush_59 : (Int8.ofInt 59).toInt32 = 59 := by decide
theorem ml_RX2_214 : Cond.methodLink RX2 214 yX2_isEnd ∈ TBL := tb_in 630 (by decide +kernel) rfl
theorem mth_X2_isEnd : Mth yX2_isEnd cX2_isEnd 1 (some .boolean) 0 := ⟨tb_in 633 (by decide +kernel) rfl, tb_in 3 (by decide +kernel) rfl, ⟨by decide +kernel, by decide +kernel⟩, by decide +kernel⟩
theorem iv_X2_isEnd : Cond.instanceMethod yX2_isEnd ∈ TBL ∧ Cond.selects RX2 yX2_isEnd yX2_isEnd ∈ TBL := ⟨tb_in 632 (by decide +kernel) rfl, tb_sel (q := (yX2_isEnd, 15)) (List.mem_of_getElem? (i := 20) (by decide +kernel))⟩
theorem ml_RX2_92 : Cond.methodLink RX2 92 yX2_readWord ∈ TBL := tb_in 552 (by decide +kernel) rfl
theorem mth_X2_readWord : Mth yX2_readWord cX2_readWord 1 (some .boolean) 0 := ⟨tb_in 555 (by decide +kernel) rfl, tb_in 3 (by decide +kernel) rfl, ⟨by decide +kernel, by decide +kernel⟩, by decide +kernel⟩
theorem ml_RX2_97 : Cond.methodLink RX2 97 yX2_isWord ∈ TBL := tb_in 570 (by decide +kernel) rfl
theorem mth_X2_isWord : Mth yX2_isWord cX2_isWord 4 (some .boolean) 1 := ⟨tb_in 573 (by decide +kernel) rfl, tb_in 3 (by decide +kernel) rfl, ⟨by decide +kernel, by decide +kernel⟩, by decide +kernel⟩
theorem ml_RX2_101 : Cond.methodLink RX2 101 yX2_readNumber ∈ TBL := tb_in 622 (by decide +kernel) rfl
theorem mth_X2_readNumber : Mth yX2_readNumber cX2_readNumber 3 (some .boolean) 2 := ⟨tb_in 625 (by decide +kernel) rfl, tb_in 3 (by decide +kernel) rfl, ⟨by decide +kernel, by decide +kernel⟩, by decide +kernel⟩
theorem fl_RX2_104 : Fl RX2 104 3 0 := ⟨by decide, by decide, tb_in 85 (by decide +kernel) rfl, tb_in 36 (by decide +kernel) rfl⟩
theorem bipush_12 : (Int8.ofInt 12).toInt32 = 12 := by decide
theorem fl_RX2_107 : Fl RX2 107 3 1 := ⟨by decide, by decide, tb_in 87 (by decide +kernel) rfl, tb_in 40 (by decide +kernel) rfl⟩
theorem ml_RX2_110 : Cond.methodLink RX2 110 yX2_readEnd ∈ TBL := tb_in 626 (by decide +kernel) rfl
theorem mth_X2_readEnd : Mth yX2_readEnd cX2_readEnd 1 (some .boolean) 0 := ⟨tb_in 629 (by decide +kernel) rfl, tb_in 3 (by decide +kernel) rfl, ⟨by decide +kernel, by decide +kernel⟩, by decide +kernel⟩
theorem iv_X2_readEnd : Cond.instanceMethod yX2_readEnd ∈ TBL ∧ Cond.selects RX2 yX2_readEnd yX2_readEnd ∈ TBL := ⟨tb_in 628 (by decide +kernel) rfl, tb_sel (q := (yX2_readEnd, 15)) (List.mem_of_getElem? (i := 19) (by decide +kernel))⟩
theorem iv_X2_readNumber : Cond.instanceMethod yX2_readNumber ∈ TBL ∧ Cond.selects RX2 yX2_readNumber yX2_readNumber ∈ TBL := ⟨tb_in 624 (by decide +kernel) rfl, tb_sel (q := (yX2_readNumber, 15)) (List.mem_of_getElem? (i := 18) (by decide +kernel))⟩
theorem iv_X2_isWord : Cond.instanceMethod yX2_isWord ∈ TBL ∧ Cond.selects RX2 yX2_isWord yX2_isWord ∈ TBL := ⟨tb_in 572 (by decide +kernel) rfl, tb_sel (q := (yX2_isWord, 15)) (List.mem_of_getElem? (i := 17) (by decide +kernel))⟩
theorem iv_X2_readWord : Cond.instanceMethod yX2_readWord ∈ TBL ∧ Cond.selects RX2 yX2_readWord yX2_readWord ∈ TBL := ⟨tb_in 554 (by decide +kernel) rfl, tb_sel (q := (yX2_readWord, 15)) (List.mem_of_getElem? (i := 13) (by decide +kernel))⟩
theorem fl_RX2_27 : Fl RX2 27 2 7 := ⟨by decide, by decide, tb_in 157 (by decide +kernel) rfl, tb_in 134 (by decide +kernel) rfl⟩
theorem ml_RX2_179 : Cond.methodLink RX2 179 yX3_cellAt ∈ TBL := tb_in 651 (by decide +kernel) rfl
theorem fl_RX2_24 : Fl RX2 24 2 6 := ⟨by decide, by decide, tb_in 155 (by decide +kernel) rfl, tb_in 133 (by decide +kernel) rfl⟩
theorem ml_RX2_148 : Cond.methodLink RX2 148 yX2_readCell ∈ TBL := tb_in 647 (by decide +kernel) rfl
theorem mth_X2_readCell : Mth yX2_readCell cX2_readCell 2 (some .boolean) 0 := ⟨tb_in 650 (by decide +kernel) rfl, tb_in 3 (by decide +kernel) rfl, ⟨by decide +kernel, by decide +kernel⟩, by decide +kernel⟩
theorem fl_RX2_151 : Fl RX2 151 3 5 := ⟨by decide, by decide, tb_in 95 (by decide +kernel) rfl, tb_in 54 (by decide +kernel) rfl⟩
theorem iv_X2_readCell : Cond.instanceMethod yX2_readCell ∈ TBL ∧ Cond.selects RX2 yX2_readCell yX2_readCell ∈ TBL := ⟨tb_in 649 (by decide +kernel) rfl, tb_sel (q := (yX2_readCell, 15)) (List.mem_of_getElem? (i := 24) (by decide +kernel))⟩
theorem fl_RX2_153 : Fl RX2 153 3 6 := ⟨by decide, by decide, tb_in 97 (by decide +kernel) rfl, tb_in 58 (by decide +kernel) rfl⟩
theorem ml_RX2_155 : Cond.methodLink RX2 155 yX3_isTaken ∈ TBL := tb_in 652 (by decide +kernel) rfl
theorem mth_X3_isTaken : Mth yX3_isTaken cX3_isTaken 3 (some .boolean) 1 := ⟨tb_in 655 (by decide +kernel) rfl, tb_in 2 (by decide +kernel) rfl, ⟨by decide +kernel, by decide +kernel⟩, by decide +kernel⟩
theorem fl_RX2_159 : Fl RX2 159 3 12 := ⟨by decide, by decide, tb_in 109 (by decide +kernel) rfl, tb_in 74 (by decide +kernel) rfl⟩
theorem mn_RX2_162 : (RX2, 162, yX4_write, "SeaMeeting") ∈ nestM := List.mem_of_getElem? (i := 7) rfl
theorem iv_X3_isTaken : Cond.instanceMethod yX3_isTaken ∈ TBL ∧ Cond.selects RX3 yX3_isTaken yX3_isTaken ∈ TBL := ⟨tb_in 653 (by decide +kernel) rfl, tb_in 654 (by decide +kernel) rfl⟩
theorem tsw1_8 (a : Int32) : (a < 1 ∨ 8 < a) ∨ a = 1 ∨ a = 2 ∨ a = 3 ∨ a = 4 ∨ a = 5 ∨ a = 6 ∨ a = 7 ∨ a = 8 := by
  have h := tsw_of a
  rcases (show (a.toInt < 1 ∨ 8 < a.toInt) ∨ a.toInt = 1 ∨ a.toInt = 2 ∨ a.toInt = 3 ∨ a.toInt = 4 ∨ a.toInt = 5 ∨ a.toInt = 6 ∨ a.toInt = 7 ∨ a.toInt = 8 by omega) with h1 | h1 | h1 | h1 | h1 | h1 | h1 | h1 | h1
  · exact Or.inl (h1.imp (fun z => Int32.lt_iff_toInt_lt.mpr z) (fun z => Int32.lt_iff_toInt_lt.mpr z))
  · exact Or.inr ((Or.inl (Int32.toInt_inj.mp h1)))
  · exact Or.inr ((Or.inr (Or.inl (Int32.toInt_inj.mp h1))))
  · exact Or.inr ((Or.inr (Or.inr (Or.inl (Int32.toInt_inj.mp h1)))))
  · exact Or.inr ((Or.inr (Or.inr (Or.inr (Or.inl (Int32.toInt_inj.mp h1))))))
  · exact Or.inr ((Or.inr (Or.inr (Or.inr (Or.inr (Or.inl (Int32.toInt_inj.mp h1)))))))
  · exact Or.inr ((Or.inr (Or.inr (Or.inr (Or.inr (Or.inr (Or.inl (Int32.toInt_inj.mp h1))))))))
  · exact Or.inr ((Or.inr (Or.inr (Or.inr (Or.inr (Or.inr (Or.inr (Or.inl (Int32.toInt_inj.mp h1)))))))))
  · exact Or.inr ((Or.inr (Or.inr (Or.inr (Or.inr (Or.inr (Or.inr (Or.inr (id (Int32.toInt_inj.mp h1))))))))))
theorem tswO1_8 {a : Int32} (h : a < 1 ∨ 8 < a) : a.toInt < 1 ∨ 8 < a.toInt := h.imp (fun z => (show a.toInt < (1 : Int32).toInt from Int32.lt_iff_toInt_lt.mp z)) (fun z => (show (8 : Int32).toInt < a.toInt from Int32.lt_iff_toInt_lt.mp z))
theorem ml_RX2_217 : Cond.methodLink RX2 217 yX2_wordOf ∈ TBL := tb_in 668 (by decide +kernel) rfl
theorem mth_X2_wordOf : Mth yX2_wordOf cX2_wordOf 1 (some (.object "java/lang/String")) 1 := ⟨tb_in 670 (by decide +kernel) rfl, tb_in 3 (by decide +kernel) rfl, ⟨by decide +kernel, by decide +kernel⟩, by decide +kernel⟩
theorem st_X2_wordOf : Cond.static yX2_wordOf ∈ TBL := tb_in 669 (by decide +kernel) rfl
theorem ml_RX2_166 : Cond.methodLink RX2 166 yX3_xOf ∈ TBL := tb_in 662 (by decide +kernel) rfl
theorem ml_RX2_170 : Cond.methodLink RX2 170 yX3_yOf ∈ TBL := tb_in 663 (by decide +kernel) rfl
theorem ml_RX2_173 : Cond.methodLink RX2 173 yX2_isDirection ∈ TBL := tb_in 664 (by decide +kernel) rfl
theorem mth_X2_isDirection : Mth yX2_isDirection cX2_isDirection 2 (some .boolean) 0 := ⟨tb_in 667 (by decide +kernel) rfl, tb_in 3 (by decide +kernel) rfl, ⟨by decide +kernel, by decide +kernel⟩, by decide +kernel⟩
theorem iv_X2_isDirection : Cond.instanceMethod yX2_isDirection ∈ TBL ∧ Cond.selects RX2 yX2_isDirection yX2_isDirection ∈ TBL := ⟨tb_in 666 (by decide +kernel) rfl, tb_sel (q := (yX2_isDirection, 15)) (List.mem_of_getElem? (i := 26) (by decide +kernel))⟩
theorem fl_RX2_176 : Fl RX2 176 3 13 := ⟨by decide, by decide, tb_in 111 (by decide +kernel) rfl, tb_in 77 (by decide +kernel) rfl⟩
theorem fl_RX2_30 : Fl RX2 30 2 8 := ⟨by decide, by decide, tb_in 159 (by decide +kernel) rfl, tb_in 135 (by decide +kernel) rfl⟩
theorem fl_RX2_182 : Fl RX2 182 3 14 := ⟨by decide, by decide, tb_in 113 (by decide +kernel) rfl, tb_in 80 (by decide +kernel) rfl⟩
theorem ml_RX2_185 : Cond.methodLink RX2 185 yX2_readDirections ∈ TBL := tb_in 685 (by decide +kernel) rfl
theorem mth_X2_readDirections : Mth yX2_readDirections cX2_readDirections 4 (some .boolean) 2 := ⟨tb_in 688 (by decide +kernel) rfl, tb_in 3 (by decide +kernel) rfl, ⟨by decide +kernel, by decide +kernel⟩, by decide +kernel⟩
theorem fl_RX2_189 : Fl RX2 189 3 8 := ⟨by decide, by decide, tb_in 101 (by decide +kernel) rfl, tb_in 64 (by decide +kernel) rfl⟩
theorem iv_X2_readDirections : Cond.instanceMethod yX2_readDirections ∈ TBL ∧ Cond.selects RX2 yX2_readDirections yX2_readDirections ∈ TBL := ⟨tb_in 687 (by decide +kernel) rfl, tb_sel (q := (yX2_readDirections, 15)) (List.mem_of_getElem? (i := 28) (by decide +kernel))⟩
theorem mn_RX2_210 : (RX2, 210, yX4_read, "SeaMeeting") ∈ nestM := List.mem_of_getElem? (i := 8) rfl
theorem ml_RX2_192 : Cond.methodLink RX2 192 yX2_isWater ∈ TBL := tb_in 694 (by decide +kernel) rfl
theorem mth_X2_isWater : Mth yX2_isWater cX2_isWater 1 (some .boolean) 0 := ⟨tb_in 697 (by decide +kernel) rfl, tb_in 3 (by decide +kernel) rfl, ⟨by decide +kernel, by decide +kernel⟩, by decide +kernel⟩
theorem fl_RX2_195 : Fl RX2 195 3 4 := ⟨by decide, by decide, tb_in 93 (by decide +kernel) rfl, tb_in 51 (by decide +kernel) rfl⟩
theorem iv_X2_isWater : Cond.instanceMethod yX2_isWater ∈ TBL ∧ Cond.selects RX2 yX2_isWater yX2_isWater ∈ TBL := ⟨tb_in 696 (by decide +kernel) rfl, tb_sel (q := (yX2_isWater, 15)) (List.mem_of_getElem? (i := 30) (by decide +kernel))⟩
theorem fl_RX2_74 : Fl RX2 74 3 7 := ⟨by decide, by decide, tb_in 99 (by decide +kernel) rfl, tb_in 61 (by decide +kernel) rfl⟩
theorem fl_RX2_198 : Fl RX2 198 3 3 := ⟨by decide, by decide, tb_in 91 (by decide +kernel) rfl, tb_in 47 (by decide +kernel) rfl⟩
theorem iconst_4 : Int32.ofInt 4 = 4 := by decide
theorem ml_RX2_200 : Cond.methodLink RX2 200 yX3_addHelper ∈ TBL := tb_in 704 (by decide +kernel) rfl
theorem fl_RX2_204 : Fl RX2 204 3 15 := ⟨by decide, by decide, tb_in 115 (by decide +kernel) rfl, tb_in 82 (by decide +kernel) rfl⟩
theorem fl_RX2_207 : Fl RX2 207 3 9 := ⟨by decide, by decide, tb_in 103 (by decide +kernel) rfl, tb_in 66 (by decide +kernel) rfl⟩
theorem ml_RX2_145 : Cond.methodLink RX2 145 yX2_readTank ∈ TBL := tb_in 711 (by decide +kernel) rfl
theorem mth_X2_readTank : Mth yX2_readTank cX2_readTank 1 (some .boolean) 0 := ⟨tb_in 714 (by decide +kernel) rfl, tb_in 3 (by decide +kernel) rfl, ⟨by decide +kernel, by decide +kernel⟩, by decide +kernel⟩
theorem iv_X2_readTank : Cond.instanceMethod yX2_readTank ∈ TBL ∧ Cond.selects RX2 yX2_readTank yX2_readTank ∈ TBL := ⟨tb_in 713 (by decide +kernel) rfl, tb_sel (q := (yX2_readTank, 15)) (List.mem_of_getElem? (i := 33) (by decide +kernel))⟩
theorem ml_RX2_140 : Cond.methodLink RX2 140 yX2_readPort ∈ TBL := tb_in 706 (by decide +kernel) rfl
theorem mth_X2_readPort : Mth yX2_readPort cX2_readPort 1 (some .boolean) 0 := ⟨tb_in 709 (by decide +kernel) rfl, tb_in 3 (by decide +kernel) rfl, ⟨by decide +kernel, by decide +kernel⟩, by decide +kernel⟩
theorem iv_X2_readPort : Cond.instanceMethod yX2_readPort ∈ TBL ∧ Cond.selects RX2 yX2_readPort yX2_readPort ∈ TBL := ⟨tb_in 708 (by decide +kernel) rfl, tb_sel (q := (yX2_readPort, 15)) (List.mem_of_getElem? (i := 32) (by decide +kernel))⟩
theorem ml_RX2_135 : Cond.methodLink RX2 135 yX2_readHelper ∈ TBL := tb_in 700 (by decide +kernel) rfl
theorem mth_X2_readHelper : Mth yX2_readHelper cX2_readHelper 1 (some .boolean) 0 := ⟨tb_in 703 (by decide +kernel) rfl, tb_in 3 (by decide +kernel) rfl, ⟨by decide +kernel, by decide +kernel⟩, by decide +kernel⟩
theorem iv_X2_readHelper : Cond.instanceMethod yX2_readHelper ∈ TBL ∧ Cond.selects RX2 yX2_readHelper yX2_readHelper ∈ TBL := ⟨tb_in 702 (by decide +kernel) rfl, tb_sel (q := (yX2_readHelper, 15)) (List.mem_of_getElem? (i := 31) (by decide +kernel))⟩
theorem ml_RX2_130 : Cond.methodLink RX2 130 yX2_readDrifter ∈ TBL := tb_in 690 (by decide +kernel) rfl
theorem mth_X2_readDrifter : Mth yX2_readDrifter cX2_readDrifter 1 (some .boolean) 0 := ⟨tb_in 693 (by decide +kernel) rfl, tb_in 3 (by decide +kernel) rfl, ⟨by decide +kernel, by decide +kernel⟩, by decide +kernel⟩
theorem iv_X2_readDrifter : Cond.instanceMethod yX2_readDrifter ∈ TBL ∧ Cond.selects RX2 yX2_readDrifter yX2_readDrifter ∈ TBL := ⟨tb_in 692 (by decide +kernel) rfl, tb_sel (q := (yX2_readDrifter, 15)) (List.mem_of_getElem? (i := 29) (by decide +kernel))⟩
theorem ml_RX2_125 : Cond.methodLink RX2 125 yX2_readWind ∈ TBL := tb_in 681 (by decide +kernel) rfl
theorem mth_X2_readWind : Mth yX2_readWind cX2_readWind 1 (some .boolean) 0 := ⟨tb_in 684 (by decide +kernel) rfl, tb_in 3 (by decide +kernel) rfl, ⟨by decide +kernel, by decide +kernel⟩, by decide +kernel⟩
theorem iv_X2_readWind : Cond.instanceMethod yX2_readWind ∈ TBL ∧ Cond.selects RX2 yX2_readWind yX2_readWind ∈ TBL := ⟨tb_in 683 (by decide +kernel) rfl, tb_sel (q := (yX2_readWind, 15)) (List.mem_of_getElem? (i := 27) (by decide +kernel))⟩
theorem ml_RX2_120 : Cond.methodLink RX2 120 yX2_readCurrent ∈ TBL := tb_in 658 (by decide +kernel) rfl
theorem mth_X2_readCurrent : Mth yX2_readCurrent cX2_readCurrent 7 (some .boolean) 0 := ⟨tb_in 661 (by decide +kernel) rfl, tb_in 3 (by decide +kernel) rfl, ⟨by decide +kernel, by decide +kernel⟩, by decide +kernel⟩
theorem iv_X2_readCurrent : Cond.instanceMethod yX2_readCurrent ∈ TBL ∧ Cond.selects RX2 yX2_readCurrent yX2_readCurrent ∈ TBL := ⟨tb_in 660 (by decide +kernel) rfl, tb_sel (q := (yX2_readCurrent, 15)) (List.mem_of_getElem? (i := 25) (by decide +kernel))⟩
theorem ml_RX2_115 : Cond.methodLink RX2 115 yX2_readLand ∈ TBL := tb_in 643 (by decide +kernel) rfl
theorem mth_X2_readLand : Mth yX2_readLand cX2_readLand 3 (some .boolean) 0 := ⟨tb_in 646 (by decide +kernel) rfl, tb_in 3 (by decide +kernel) rfl, ⟨by decide +kernel, by decide +kernel⟩, by decide +kernel⟩
theorem iv_X2_readLand : Cond.instanceMethod yX2_readLand ∈ TBL ∧ Cond.selects RX2 yX2_readLand yX2_readLand ∈ TBL := ⟨tb_in 645 (by decide +kernel) rfl, tb_sel (q := (yX2_readLand, 15)) (List.mem_of_getElem? (i := 23) (by decide +kernel))⟩
theorem ml_RX2_60 : Cond.methodLink RX2 60 yX2_begin ∈ TBL := tb_in 542 (by decide +kernel) rfl
theorem mth_X2_begin : Mth yX2_begin cX2_begin 2 none 1 := ⟨tb_in 545 (by decide +kernel) rfl, tb_in 3 (by decide +kernel) rfl, ⟨by decide +kernel, by decide +kernel⟩, by decide +kernel⟩
theorem ml_RX2_64 : Cond.methodLink RX2 64 yX2_readSea ∈ TBL := tb_in 548 (by decide +kernel) rfl
theorem mth_X2_readSea : Mth yX2_readSea cX2_readSea 1 (some .boolean) 0 := ⟨tb_in 551 (by decide +kernel) rfl, tb_in 3 (by decide +kernel) rfl, ⟨by decide +kernel, by decide +kernel⟩, by decide +kernel⟩
theorem iv_X2_readSea : Cond.instanceMethod yX2_readSea ∈ TBL ∧ Cond.selects RX2 yX2_readSea yX2_readSea ∈ TBL := ⟨tb_in 550 (by decide +kernel) rfl, tb_sel (q := (yX2_readSea, 15)) (List.mem_of_getElem? (i := 12) (by decide +kernel))⟩
theorem iv_X2_begin : Cond.instanceMethod yX2_begin ∈ TBL ∧ Cond.selects RX2 yX2_begin yX2_begin ∈ TBL := ⟨tb_in 544 (by decide +kernel) rfl, tb_sel (q := (yX2_begin, 15)) (List.mem_of_getElem? (i := 11) (by decide +kernel))⟩
theorem ml_RX2_68 : Cond.methodLink RX2 68 yX2_isMore ∈ TBL := tb_in 634 (by decide +kernel) rfl
theorem mth_X2_isMore : Mth yX2_isMore cX2_isMore 1 (some .boolean) 0 := ⟨tb_in 637 (by decide +kernel) rfl, tb_in 3 (by decide +kernel) rfl, ⟨by decide +kernel, by decide +kernel⟩, by decide +kernel⟩
theorem ml_RX2_71 : Cond.methodLink RX2 71 yX2_readSentence ∈ TBL := tb_in 638 (by decide +kernel) rfl
theorem mth_X2_readSentence : Mth yX2_readSentence cX2_readSentence 1 (some .boolean) 0 := ⟨tb_in 641 (by decide +kernel) rfl, tb_in 3 (by decide +kernel) rfl, ⟨by decide +kernel, by decide +kernel⟩, by decide +kernel⟩
theorem iv_X2_readSentence : Cond.instanceMethod yX2_readSentence ∈ TBL ∧ Cond.selects RX2 yX2_readSentence yX2_readSentence ∈ TBL := ⟨tb_in 640 (by decide +kernel) rfl, tb_sel (q := (yX2_readSentence, 15)) (List.mem_of_getElem? (i := 22) (by decide +kernel))⟩
theorem iv_X2_isMore : Cond.instanceMethod yX2_isMore ∈ TBL ∧ Cond.selects RX2 yX2_isMore yX2_isMore ∈ TBL := ⟨tb_in 636 (by decide +kernel) rfl, tb_sel (q := (yX2_isMore, 15)) (List.mem_of_getElem? (i := 21) (by decide +kernel))⟩
theorem iconst_5 : Int32.ofInt 5 = 5 := by decide
theorem ml_RX4_74 : Cond.methodLink RX4 74 yX4_isIn ∈ TBL := tb_in 463 (by decide +kernel) rfl
theorem ml_RX4_78 : Cond.methodLink RX4 78 yX4_needNumber ∈ TBL := tb_in 466 (by decide +kernel) rfl
theorem mth_X4_needNumber : Mth yX4_needNumber cX4_needNumber 2 none 1 := ⟨tb_in 469 (by decide +kernel) rfl, tb_in 1 (by decide +kernel) rfl, ⟨by decide +kernel, by decide +kernel⟩, by decide +kernel⟩
theorem fl_RX4_28 : Fl RX4 28 4 3 := ⟨by decide, by decide, tb_in 280 (by decide +kernel) rfl, tb_in 264 (by decide +kernel) rfl⟩
theorem ml_RX4_82 : Cond.methodLink RX4 82 yX2_readText ∈ TBL := tb_in 538 (by decide +kernel) rfl
theorem mth_X2_readText : Mth yX2_readText cX2_readText 4 (some .int) 1 := ⟨tb_in 541 (by decide +kernel) rfl, tb_in 3 (by decide +kernel) rfl, ⟨by decide +kernel, by decide +kernel⟩, by decide +kernel⟩
theorem fn_RX4_86 : FlN RX4 86 2 10 "SeaMeeting" := ⟨by decide, by decide, tb_in 163 (by decide +kernel) rfl, List.mem_of_getElem? (i := 0) rfl⟩
theorem ml_RX4_87 : Cond.methodLink RX4 87 yX4_keepWorld ∈ TBL := tb_in 715 (by decide +kernel) rfl
theorem mth_X4_keepWorld : Mth yX4_keepWorld cX4_keepWorld 1 none 0 := ⟨tb_in 718 (by decide +kernel) rfl, tb_in 1 (by decide +kernel) rfl, ⟨by decide +kernel, by decide +kernel⟩, by decide +kernel⟩
theorem fl_RX4_20 : Fl RX4 20 4 2 := ⟨by decide, by decide, tb_in 278 (by decide +kernel) rfl, tb_in 263 (by decide +kernel) rfl⟩
theorem iv_X4_keepWorld : Cond.instanceMethod yX4_keepWorld ∈ TBL ∧ Cond.selects RX4 yX4_keepWorld yX4_keepWorld ∈ TBL := ⟨tb_in 717 (by decide +kernel) rfl, tb_sel (q := (yX4_keepWorld, 13)) (List.mem_of_getElem? (i := 34) (by decide +kernel))⟩
theorem iv_X2_readText : Cond.instanceMethod yX2_readText ∈ TBL ∧ Cond.selects RX2 yX2_readText yX2_readText ∈ TBL := ⟨tb_in 539 (by decide +kernel) rfl, tb_in 540 (by decide +kernel) rfl⟩
theorem iv_X4_needNumber : Cond.instanceMethod yX4_needNumber ∈ TBL ∧ Cond.selects RX4 yX4_needNumber yX4_needNumber ∈ TBL := ⟨tb_in 468 (by decide +kernel) rfl, tb_sel (q := (yX4_needNumber, 13)) (List.mem_of_getElem? (i := 9) (by decide +kernel))⟩
theorem ml_RX3_133 : Cond.methodLink RX3 133 yX3_priceOf ∈ TBL := tb_in 735 (by decide +kernel) rfl
theorem ml_RX3_136 : Cond.methodLink RX3 136 yX3_helperBehind ∈ TBL := tb_in 736 (by decide +kernel) rfl
theorem ml_RX3_139 : Cond.methodLink RX3 139 yX3_drifterBehind ∈ TBL := tb_in 765 (by decide +kernel) rfl
theorem ml_RX3_142 : Cond.methodLink RX3 142 yX3_portBehind ∈ TBL := tb_in 766 (by decide +kernel) rfl
theorem ml_RX4_96 : Cond.methodLink RX4 96 yX4_isCourseOf ∈ TBL := tb_in 727 (by decide +kernel) rfl
theorem mth_X4_isCourseOf : Mth yX4_isCourseOf cX4_isCourseOf 3 (some .boolean) 2 := ⟨tb_in 730 (by decide +kernel) rfl, tb_in 1 (by decide +kernel) rfl, ⟨by decide +kernel, by decide +kernel⟩, by decide +kernel⟩
theorem iv_X4_isCourseOf : Cond.instanceMethod yX4_isCourseOf ∈ TBL ∧ Cond.selects RX4 yX4_isCourseOf yX4_isCourseOf ∈ TBL := ⟨tb_in 729 (by decide +kernel) rfl, tb_sel (q := (yX4_isCourseOf, 13)) (List.mem_of_getElem? (i := 35) (by decide +kernel))⟩
theorem ml_RX4_100 : Cond.methodLink RX4 100 yX3_canSail ∈ TBL := tb_in 731 (by decide +kernel) rfl
theorem mth_X3_canSail : Mth yX3_canSail cX3_canSail 4 (some .boolean) 2 := ⟨tb_in 734 (by decide +kernel) rfl, tb_in 2 (by decide +kernel) rfl, ⟨by decide +kernel, by decide +kernel⟩, by decide +kernel⟩
theorem iv_X3_canSail : Cond.instanceMethod yX3_canSail ∈ TBL ∧ Cond.selects RX3 yX3_canSail yX3_canSail ∈ TBL := ⟨tb_in 732 (by decide +kernel) rfl, tb_in 733 (by decide +kernel) rfl⟩
theorem ml_RX4_103 : Cond.methodLink RX4 103 yX4_needState ∈ TBL := tb_in 737 (by decide +kernel) rfl
theorem mth_X4_needState : Mth yX4_needState cX4_needState 2 none 1 := ⟨tb_in 740 (by decide +kernel) rfl, tb_in 1 (by decide +kernel) rfl, ⟨by decide +kernel, by decide +kernel⟩, by decide +kernel⟩
theorem fl_RX4_106 : Fl RX4 106 3 2 := ⟨by decide, by decide, tb_in 89 (by decide +kernel) rfl, tb_in 44 (by decide +kernel) rfl⟩
theorem sipush_500 : (Int16.ofInt 500).toInt32 = 500 := by decide
theorem iv_X4_needState : Cond.instanceMethod yX4_needState ∈ TBL ∧ Cond.selects RX4 yX4_needState yX4_needState ∈ TBL := ⟨tb_in 739 (by decide +kernel) rfl, tb_sel (q := (yX4_needState, 13)) (List.mem_of_getElem? (i := 36) (by decide +kernel))⟩
theorem ml_RX4_109 : Cond.methodLink RX4 109 yX3_sail ∈ TBL := tb_in 757 (by decide +kernel) rfl
theorem mth_X3_sail : Mth yX3_sail cX3_sail 3 none 2 := ⟨tb_in 760 (by decide +kernel) rfl, tb_in 2 (by decide +kernel) rfl, ⟨by decide +kernel, by decide +kernel⟩, by decide +kernel⟩
theorem ml_RX4_113 : Cond.methodLink RX4 113 yX3_passHour ∈ TBL := tb_in 761 (by decide +kernel) rfl
theorem mth_X3_passHour : Mth yX3_passHour cX3_passHour 1 none 0 := ⟨tb_in 764 (by decide +kernel) rfl, tb_in 2 (by decide +kernel) rfl, ⟨by decide +kernel, by decide +kernel⟩, by decide +kernel⟩
theorem ml_RX4_116 : Cond.methodLink RX4 116 yX3_meetingBits ∈ TBL := tb_in 767 (by decide +kernel) rfl
theorem mth_X3_meetingBits : Mth yX3_meetingBits cX3_meetingBits 3 (some .int) 0 := ⟨tb_in 770 (by decide +kernel) rfl, tb_in 2 (by decide +kernel) rfl, ⟨by decide +kernel, by decide +kernel⟩, by decide +kernel⟩
theorem iv_X3_meetingBits : Cond.instanceMethod yX3_meetingBits ∈ TBL ∧ Cond.selects RX3 yX3_meetingBits yX3_meetingBits ∈ TBL := ⟨tb_in 768 (by decide +kernel) rfl, tb_in 769 (by decide +kernel) rfl⟩
theorem iv_X3_passHour : Cond.instanceMethod yX3_passHour ∈ TBL ∧ Cond.selects RX3 yX3_passHour yX3_passHour ∈ TBL := ⟨tb_in 762 (by decide +kernel) rfl, tb_in 763 (by decide +kernel) rfl⟩
theorem iv_X3_sail : Cond.instanceMethod yX3_sail ∈ TBL ∧ Cond.selects RX3 yX3_sail yX3_sail ∈ TBL := ⟨tb_in 758 (by decide +kernel) rfl, tb_in 759 (by decide +kernel) rfl⟩
theorem ml_RX4_120 : Cond.methodLink RX4 120 yX4_needHelper ∈ TBL := tb_in 779 (by decide +kernel) rfl
theorem mth_X4_needHelper : Mth yX4_needHelper cX4_needHelper 2 none 1 := ⟨tb_in 782 (by decide +kernel) rfl, tb_in 1 (by decide +kernel) rfl, ⟨by decide +kernel, by decide +kernel⟩, by decide +kernel⟩
theorem fl_RX4_123 : Fl RX4 123 3 3 := ⟨by decide, by decide, tb_in 91 (by decide +kernel) rfl, tb_in 46 (by decide +kernel) rfl⟩
theorem iv_X4_needHelper : Cond.instanceMethod yX4_needHelper ∈ TBL ∧ Cond.selects RX4 yX4_needHelper yX4_needHelper ∈ TBL := ⟨tb_in 781 (by decide +kernel) rfl, tb_sel (q := (yX4_needHelper, 13)) (List.mem_of_getElem? (i := 37) (by decide +kernel))⟩
theorem sipush_560 : (Int16.ofInt 560).toInt32 = 560 := by decide
theorem ml_RX4_137 : Cond.methodLink RX4 137 yX3_windOf ∈ TBL := tb_in 806 (by decide +kernel) rfl
theorem fl_RX4_140 : Fl RX4 140 3 16 := ⟨by decide, by decide, tb_in 117 (by decide +kernel) rfl, tb_in 84 (by decide +kernel) rfl⟩
theorem tsw0_12 (a : Int32) : (a < 0 ∨ 11 < a) ∨ a = 0 ∨ a = 1 ∨ a = 2 ∨ a = 3 ∨ a = 4 ∨ a = 5 ∨ a = 6 ∨ a = 7 ∨ a = 8 ∨ a = 9 ∨ a = 10 ∨ a = 11 := by
  have h := tsw_of a
  rcases (show (a.toInt < 0 ∨ 11 < a.toInt) ∨ a.toInt = 0 ∨ a.toInt = 1 ∨ a.toInt = 2 ∨ a.toInt = 3 ∨ a.toInt = 4 ∨ a.toInt = 5 ∨ a.toInt = 6 ∨ a.toInt = 7 ∨ a.toInt = 8 ∨ a.toInt = 9 ∨ a.toInt = 10 ∨ a.toInt = 11 by omega) with h1 | h1 | h1 | h1 | h1 | h1 | h1 | h1 | h1 | h1 | h1 | h1 | h1
  · exact Or.inl (h1.imp (fun z => Int32.lt_iff_toInt_lt.mpr z) (fun z => Int32.lt_iff_toInt_lt.mpr z))
  · exact Or.inr ((Or.inl (Int32.toInt_inj.mp h1)))
  · exact Or.inr ((Or.inr (Or.inl (Int32.toInt_inj.mp h1))))
  · exact Or.inr ((Or.inr (Or.inr (Or.inl (Int32.toInt_inj.mp h1)))))
  · exact Or.inr ((Or.inr (Or.inr (Or.inr (Or.inl (Int32.toInt_inj.mp h1))))))
  · exact Or.inr ((Or.inr (Or.inr (Or.inr (Or.inr (Or.inl (Int32.toInt_inj.mp h1)))))))
  · exact Or.inr ((Or.inr (Or.inr (Or.inr (Or.inr (Or.inr (Or.inl (Int32.toInt_inj.mp h1))))))))
  · exact Or.inr ((Or.inr (Or.inr (Or.inr (Or.inr (Or.inr (Or.inr (Or.inl (Int32.toInt_inj.mp h1)))))))))
  · exact Or.inr ((Or.inr (Or.inr (Or.inr (Or.inr (Or.inr (Or.inr (Or.inr (Or.inl (Int32.toInt_inj.mp h1))))))))))
  · exact Or.inr ((Or.inr (Or.inr (Or.inr (Or.inr (Or.inr (Or.inr (Or.inr (Or.inr (Or.inl (Int32.toInt_inj.mp h1)))))))))))
  · exact Or.inr ((Or.inr (Or.inr (Or.inr (Or.inr (Or.inr (Or.inr (Or.inr (Or.inr (Or.inr (Or.inl (Int32.toInt_inj.mp h1))))))))))))
  · exact Or.inr ((Or.inr (Or.inr (Or.inr (Or.inr (Or.inr (Or.inr (Or.inr (Or.inr (Or.inr (Or.inr (Or.inl (Int32.toInt_inj.mp h1)))))))))))))
  · exact Or.inr ((Or.inr (Or.inr (Or.inr (Or.inr (Or.inr (Or.inr (Or.inr (Or.inr (Or.inr (Or.inr (Or.inr (id (Int32.toInt_inj.mp h1))))))))))))))
theorem tswO0_12 {a : Int32} (h : a < 0 ∨ 11 < a) : a.toInt < 0 ∨ 11 < a.toInt := h.imp (fun z => (show a.toInt < (0 : Int32).toInt from Int32.lt_iff_toInt_lt.mp z)) (fun z => (show (11 : Int32).toInt < a.toInt from Int32.lt_iff_toInt_lt.mp z))
theorem fl_RX4_150 : Fl RX4 150 3 0 := ⟨by decide, by decide, tb_in 85 (by decide +kernel) rfl, tb_in 37 (by decide +kernel) rfl⟩
theorem fl_RX4_153 : Fl RX4 153 3 1 := ⟨by decide, by decide, tb_in 87 (by decide +kernel) rfl, tb_in 41 (by decide +kernel) rfl⟩
theorem fl_RX4_156 : Fl RX4 156 3 4 := ⟨by decide, by decide, tb_in 93 (by decide +kernel) rfl, tb_in 50 (by decide +kernel) rfl⟩
theorem ml_RX4_159 : Cond.methodLink RX4 159 yX3_countLand ∈ TBL := tb_in 814 (by decide +kernel) rfl
theorem mth_X3_countLand : Mth yX3_countLand cX3_countLand 3 (some .int) 0 := ⟨tb_in 817 (by decide +kernel) rfl, tb_in 2 (by decide +kernel) rfl, ⟨by decide +kernel, by decide +kernel⟩, by decide +kernel⟩
theorem iv_X3_countLand : Cond.instanceMethod yX3_countLand ∈ TBL ∧ Cond.selects RX3 yX3_countLand yX3_countLand ∈ TBL := ⟨tb_in 815 (by decide +kernel) rfl, tb_in 816 (by decide +kernel) rfl⟩
theorem ml_RX4_165 : Cond.methodLink RX4 165 yX3_xOf ∈ TBL := tb_in 818 (by decide +kernel) rfl
theorem ml_RX4_168 : Cond.methodLink RX4 168 yX3_yOf ∈ TBL := tb_in 819 (by decide +kernel) rfl
theorem ml_RX4_174 : Cond.methodLink RX4 174 yX3_isOnSea ∈ TBL := tb_in 827 (by decide +kernel) rfl
theorem ml_RX4_177 : Cond.methodLink RX4 177 yX3_cellAt ∈ TBL := tb_in 828 (by decide +kernel) rfl
theorem fl_RX4_184 : Fl RX4 184 3 13 := ⟨by decide, by decide, tb_in 111 (by decide +kernel) rfl, tb_in 78 (by decide +kernel) rfl⟩
theorem fl_RX4_181 : Fl RX4 181 3 12 := ⟨by decide, by decide, tb_in 109 (by decide +kernel) rfl, tb_in 75 (by decide +kernel) rfl⟩
theorem ml_RX4_196 : Cond.methodLink RX4 196 yX0_portIn ∈ TBL := tb_in 854 (by decide +kernel) rfl
theorem mth_X0_portIn : Mth yX0_portIn cX0_portIn 2 (some .int) 1 := ⟨tb_in 857 (by decide +kernel) rfl, tb_in 4 (by decide +kernel) rfl, ⟨by decide +kernel, by decide +kernel⟩, by decide +kernel⟩
theorem iv_X0_portIn : Cond.instanceMethod yX0_portIn ∈ TBL ∧ Cond.selects RX0 yX0_portIn yX0_portIn ∈ TBL := ⟨tb_in 855 (by decide +kernel) rfl, tb_in 856 (by decide +kernel) rfl⟩
theorem ml_RX4_193 : Cond.methodLink RX4 193 yX0_drifterIn ∈ TBL := tb_in 850 (by decide +kernel) rfl
theorem mth_X0_drifterIn : Mth yX0_drifterIn cX0_drifterIn 2 (some .int) 1 := ⟨tb_in 853 (by decide +kernel) rfl, tb_in 4 (by decide +kernel) rfl, ⟨by decide +kernel, by decide +kernel⟩, by decide +kernel⟩
theorem iv_X0_drifterIn : Cond.instanceMethod yX0_drifterIn ∈ TBL ∧ Cond.selects RX0 yX0_drifterIn yX0_drifterIn ∈ TBL := ⟨tb_in 851 (by decide +kernel) rfl, tb_in 852 (by decide +kernel) rfl⟩
theorem ml_RX4_199 : Cond.methodLink RX4 199 yX3_priceOf ∈ TBL := tb_in 865 (by decide +kernel) rfl
theorem ml_RX0_106 : Cond.methodLink RX0 106 yX0_drifterIn ∈ TBL := tb_in 877 (by decide +kernel) rfl
theorem ml_RX4_205 : Cond.methodLink RX4 205 yX0_mostMeeting ∈ TBL := tb_in 873 (by decide +kernel) rfl
theorem mth_X0_mostMeeting : Mth yX0_mostMeeting cX0_mostMeeting 3 (some .int) 2 := ⟨tb_in 876 (by decide +kernel) rfl, tb_in 4 (by decide +kernel) rfl, ⟨by decide +kernel, by decide +kernel⟩, by decide +kernel⟩
theorem iv_X0_mostMeeting : Cond.instanceMethod yX0_mostMeeting ∈ TBL ∧ Cond.selects RX0 yX0_mostMeeting yX0_mostMeeting ∈ TBL := ⟨tb_in 874 (by decide +kernel) rfl, tb_in 875 (by decide +kernel) rfl⟩
theorem fl_RX0_32 : Fl RX0 32 0 6 := ⟨by decide, by decide, tb_in 229 (by decide +kernel) rfl, tb_in 213 (by decide +kernel) rfl⟩
theorem ml_RX0_169 : Cond.methodLink RX0 169 yX0_needBy ∈ TBL := tb_in 898 (by decide +kernel) rfl
theorem mth_X0_needBy : Mth yX0_needBy cX0_needBy 5 (some .int) 3 := ⟨tb_in 901 (by decide +kernel) rfl, tb_in 4 (by decide +kernel) rfl, ⟨by decide +kernel, by decide +kernel⟩, by decide +kernel⟩
theorem iv_X0_needBy : Cond.instanceMethod yX0_needBy ∈ TBL ∧ Cond.selects RX0 yX0_needBy yX0_needBy ∈ TBL := ⟨tb_in 900 (by decide +kernel) rfl, tb_sel (q := (yX0_needBy, 10)) (List.mem_of_getElem? (i := 40) (by decide +kernel))⟩
theorem ml_RX0_166 : Cond.methodLink RX0 166 yX0_needFrom ∈ TBL := tb_in 894 (by decide +kernel) rfl
theorem mth_X0_needFrom : Mth yX0_needFrom cX0_needFrom 6 (some .int) 2 := ⟨tb_in 897 (by decide +kernel) rfl, tb_in 4 (by decide +kernel) rfl, ⟨by decide +kernel, by decide +kernel⟩, by decide +kernel⟩
theorem iv_X0_needFrom : Cond.instanceMethod yX0_needFrom ∈ TBL ∧ Cond.selects RX0 yX0_needFrom yX0_needFrom ∈ TBL := ⟨tb_in 896 (by decide +kernel) rfl, tb_sel (q := (yX0_needFrom, 10)) (List.mem_of_getElem? (i := 39) (by decide +kernel))⟩
theorem ml_RX0_173 : Cond.methodLink RX0 173 yX0_firstNeeding ∈ TBL := tb_in 906 (by decide +kernel) rfl
theorem mth_X0_firstNeeding : Mth yX0_firstNeeding cX0_firstNeeding 5 (some .int) 3 := ⟨tb_in 909 (by decide +kernel) rfl, tb_in 4 (by decide +kernel) rfl, ⟨by decide +kernel, by decide +kernel⟩, by decide +kernel⟩
theorem iv_X0_firstNeeding : Cond.instanceMethod yX0_firstNeeding ∈ TBL ∧ Cond.selects RX0 yX0_firstNeeding yX0_firstNeeding ∈ TBL := ⟨tb_in 908 (by decide +kernel) rfl, tb_sel (q := (yX0_firstNeeding, 10)) (List.mem_of_getElem? (i := 42) (by decide +kernel))⟩
theorem ml_RX0_150 : Cond.methodLink RX0 150 yX0_earliestOf ∈ TBL := tb_in 889 (by decide +kernel) rfl
theorem fl_RX0_153 : Fl RX0 153 1 3 := ⟨by decide, by decide, tb_in 204 (by decide +kernel) rfl, tb_in 197 (by decide +kernel) rfl⟩
theorem fl_RX0_160 : Fl RX0 160 1 1 := ⟨by decide, by decide, tb_in 200 (by decide +kernel) rfl, tb_in 193 (by decide +kernel) rfl⟩
theorem ml_RX0_156 : Cond.methodLink RX0 156 yX0_lookAtNeeds ∈ TBL := tb_in 890 (by decide +kernel) rfl
theorem mth_X0_lookAtNeeds : Mth yX0_lookAtNeeds cX0_lookAtNeeds 4 none 1 := ⟨tb_in 893 (by decide +kernel) rfl, tb_in 4 (by decide +kernel) rfl, ⟨by decide +kernel, by decide +kernel⟩, by decide +kernel⟩
theorem ml_RX0_163 : Cond.methodLink RX0 163 yX0_walk ∈ TBL := tb_in 902 (by decide +kernel) rfl
theorem mth_X0_walk : Mth yX0_walk cX0_walk 6 none 3 := ⟨tb_in 905 (by decide +kernel) rfl, tb_in 4 (by decide +kernel) rfl, ⟨by decide +kernel, by decide +kernel⟩, by decide +kernel⟩
theorem iv_X0_walk : Cond.instanceMethod yX0_walk ∈ TBL ∧ Cond.selects RX0 yX0_walk yX0_walk ∈ TBL := ⟨tb_in 904 (by decide +kernel) rfl, tb_sel (q := (yX0_walk, 10)) (List.mem_of_getElem? (i := 41) (by decide +kernel))⟩
theorem iv_X0_lookAtNeeds : Cond.instanceMethod yX0_lookAtNeeds ∈ TBL ∧ Cond.selects RX0 yX0_lookAtNeeds yX0_lookAtNeeds ∈ TBL := ⟨tb_in 892 (by decide +kernel) rfl, tb_sel (q := (yX0_lookAtNeeds, 10)) (List.mem_of_getElem? (i := 38) (by decide +kernel))⟩
theorem ml_RX4_208 : Cond.methodLink RX4 208 yX0_courseOf ∈ TBL := tb_in 885 (by decide +kernel) rfl
theorem mth_X0_courseOf : Mth yX0_courseOf cX0_courseOf 5 (some .int) 2 := ⟨tb_in 888 (by decide +kernel) rfl, tb_in 4 (by decide +kernel) rfl, ⟨by decide +kernel, by decide +kernel⟩, by decide +kernel⟩
theorem iv_X0_courseOf : Cond.instanceMethod yX0_courseOf ∈ TBL ∧ Cond.selects RX0 yX0_courseOf yX0_courseOf ∈ TBL := ⟨tb_in 886 (by decide +kernel) rfl, tb_in 887 (by decide +kernel) rfl⟩
theorem fl_RX0_35 : Fl RX0 35 0 7 := ⟨by decide, by decide, tb_in 231 (by decide +kernel) rfl, tb_in 214 (by decide +kernel) rfl⟩
theorem ml_RX4_211 : Cond.methodLink RX4 211 yX0_leastOf ∈ TBL := tb_in 917 (by decide +kernel) rfl
theorem mth_X0_leastOf : Mth yX0_leastOf cX0_leastOf 6 (some .int) 2 := ⟨tb_in 920 (by decide +kernel) rfl, tb_in 4 (by decide +kernel) rfl, ⟨by decide +kernel, by decide +kernel⟩, by decide +kernel⟩
theorem iv_X0_leastOf : Cond.instanceMethod yX0_leastOf ∈ TBL ∧ Cond.selects RX0 yX0_leastOf yX0_leastOf ∈ TBL := ⟨tb_in 918 (by decide +kernel) rfl, tb_in 919 (by decide +kernel) rfl⟩
theorem ml_RX4_214 : Cond.methodLink RX4 214 yX0_reachOf ∈ TBL := tb_in 928 (by decide +kernel) rfl
theorem mth_X0_reachOf : Mth yX0_reachOf cX0_reachOf 6 (some .int) 2 := ⟨tb_in 931 (by decide +kernel) rfl, tb_in 4 (by decide +kernel) rfl, ⟨by decide +kernel, by decide +kernel⟩, by decide +kernel⟩
theorem iv_X0_reachOf : Cond.instanceMethod yX0_reachOf ∈ TBL ∧ Cond.selects RX0 yX0_reachOf yX0_reachOf ∈ TBL := ⟨tb_in 929 (by decide +kernel) rfl, tb_in 930 (by decide +kernel) rfl⟩
theorem ml_RX4_217 : Cond.methodLink RX4 217 yX0_mostOf ∈ TBL := tb_in 939 (by decide +kernel) rfl
theorem mth_X0_mostOf : Mth yX0_mostOf cX0_mostOf 4 (some .int) 3 := ⟨tb_in 942 (by decide +kernel) rfl, tb_in 4 (by decide +kernel) rfl, ⟨by decide +kernel, by decide +kernel⟩, by decide +kernel⟩
theorem iv_X0_mostOf : Cond.instanceMethod yX0_mostOf ∈ TBL ∧ Cond.selects RX0 yX0_mostOf yX0_mostOf ∈ TBL := ⟨tb_in 940 (by decide +kernel) rfl, tb_in 941 (by decide +kernel) rfl⟩
theorem fl_RX0_180 : Fl RX0 180 3 3 := ⟨by decide, by decide, tb_in 91 (by decide +kernel) rfl, tb_in 48 (by decide +kernel) rfl⟩
theorem ml_RX0_176 : Cond.methodLink RX0 176 yX0_giveFuel ∈ TBL := tb_in 954 (by decide +kernel) rfl
theorem mth_X0_giveFuel : Mth yX0_giveFuel cX0_giveFuel 8 none 3 := ⟨tb_in 957 (by decide +kernel) rfl, tb_in 4 (by decide +kernel) rfl, ⟨by decide +kernel, by decide +kernel⟩, by decide +kernel⟩
theorem iv_X0_giveFuel : Cond.instanceMethod yX0_giveFuel ∈ TBL ∧ Cond.selects RX0 yX0_giveFuel yX0_giveFuel ∈ TBL := ⟨tb_in 956 (by decide +kernel) rfl, tb_sel (q := (yX0_giveFuel, 10)) (List.mem_of_getElem? (i := 43) (by decide +kernel))⟩
theorem ml_RX4_221 : Cond.methodLink RX4 221 yX0_relayOf ∈ TBL := tb_in 950 (by decide +kernel) rfl
theorem mth_X0_relayOf : Mth yX0_relayOf cX0_relayOf 5 (some .int) 2 := ⟨tb_in 953 (by decide +kernel) rfl, tb_in 4 (by decide +kernel) rfl, ⟨by decide +kernel, by decide +kernel⟩, by decide +kernel⟩
theorem iv_X0_relayOf : Cond.instanceMethod yX0_relayOf ∈ TBL ∧ Cond.selects RX0 yX0_relayOf yX0_relayOf ∈ TBL := ⟨tb_in 951 (by decide +kernel) rfl, tb_in 952 (by decide +kernel) rfl⟩
theorem ml_RX0_183 : Cond.methodLink RX0 183 yX0_mostMeeting ∈ TBL := tb_in 969 (by decide +kernel) rfl
theorem ml_RX0_186 : Cond.methodLink RX0 186 yX0_portIn ∈ TBL := tb_in 970 (by decide +kernel) rfl
theorem ml_RX4_224 : Cond.methodLink RX4 224 yX0_homeOf ∈ TBL := tb_in 965 (by decide +kernel) rfl
theorem mth_X0_homeOf : Mth yX0_homeOf cX0_homeOf 6 (some .int) 2 := ⟨tb_in 968 (by decide +kernel) rfl, tb_in 4 (by decide +kernel) rfl, ⟨by decide +kernel, by decide +kernel⟩, by decide +kernel⟩
theorem iv_X0_homeOf : Cond.instanceMethod yX0_homeOf ∈ TBL ∧ Cond.selects RX0 yX0_homeOf yX0_homeOf ∈ TBL := ⟨tb_in 966 (by decide +kernel) rfl, tb_in 967 (by decide +kernel) rfl⟩
theorem sipush_1098 : (Int16.ofInt 1098).toInt32 = 1098 := by decide
theorem fl_RX5_50 : Fl RX5 50 5 0 := ⟨by decide, by decide, tb_in 1001 (by decide +kernel) rfl, tb_in 981 (by decide +kernel) rfl⟩
theorem la_5 : ∀ k, k < nf 5 → u_lay (tR 5) (tT 5) k ∈ TBL := by
  intro k hk
  have hk : k < 20 := hk
  rcases (show k = 0 ∨ k = 1 ∨ k = 2 ∨ k = 3 ∨ k = 4 ∨ k = 5 ∨ k = 6 ∨ k = 7 ∨ k = 8 ∨ k = 9 ∨ k = 10 ∨ k = 11 ∨ k = 12 ∨ k = 13 ∨ k = 14 ∨ k = 15 ∨ k = 16 ∨ k = 17 ∨ k = 18 ∨ k = 19 by omega) with rfl | rfl | rfl | rfl | rfl | rfl | rfl | rfl | rfl | rfl | rfl | rfl | rfl | rfl | rfl | rfl | rfl | rfl | rfl | rfl
  · exact tb_in 1001 (by decide +kernel) rfl
  · exact tb_in 1003 (by decide +kernel) rfl
  · exact tb_in 1005 (by decide +kernel) rfl
  · exact tb_in 1007 (by decide +kernel) rfl
  · exact tb_in 1009 (by decide +kernel) rfl
  · exact tb_in 1011 (by decide +kernel) rfl
  · exact tb_in 1013 (by decide +kernel) rfl
  · exact tb_in 1015 (by decide +kernel) rfl
  · exact tb_in 1017 (by decide +kernel) rfl
  · exact tb_in 1019 (by decide +kernel) rfl
  · exact tb_in 1021 (by decide +kernel) rfl
  · exact tb_in 1023 (by decide +kernel) rfl
  · exact tb_in 1025 (by decide +kernel) rfl
  · exact tb_in 1027 (by decide +kernel) rfl
  · exact tb_in 1029 (by decide +kernel) rfl
  · exact tb_in 1031 (by decide +kernel) rfl
  · exact tb_in 1033 (by decide +kernel) rfl
  · exact tb_in 1035 (by decide +kernel) rfl
  · exact tb_in 1037 (by decide +kernel) rfl
  · exact tb_in 1039 (by decide +kernel) rfl
theorem fl_RX5_53 : Fl RX5 53 5 2 := ⟨by decide, by decide, tb_in 1005 (by decide +kernel) rfl, tb_in 983 (by decide +kernel) rfl⟩
theorem bipush_16 : (Int8.ofInt 16).toInt32 = 16 := by decide
theorem fl_RX5_17 : Fl RX5 17 5 8 := ⟨by decide, by decide, tb_in 1017 (by decide +kernel) rfl, tb_in 989 (by decide +kernel) rfl⟩
theorem A_349 {b : Wy} : IsA (wM b) 349 := ⟨rfl, Nat.le_of_ble_eq_true rfl, Nat.le_of_ble_eq_true rfl⟩
theorem fl_RX5_9 : Fl RX5 9 5 1 := ⟨by decide, by decide, tb_in 1003 (by decide +kernel) rfl, tb_in 982 (by decide +kernel) rfl⟩
theorem A_348 {b : Wy} : IsA (wM b) 348 := ⟨rfl, Nat.le_of_ble_eq_true rfl, Nat.le_of_ble_eq_true rfl⟩
theorem fl_RX5_98 : Fl RX5 98 5 6 := ⟨by decide, by decide, tb_in 1013 (by decide +kernel) rfl, tb_in 987 (by decide +kernel) rfl⟩
theorem fl_RX5_89 : Fl RX5 89 5 3 := ⟨by decide, by decide, tb_in 1007 (by decide +kernel) rfl, tb_in 984 (by decide +kernel) rfl⟩
theorem fl_RX5_92 : Fl RX5 92 5 4 := ⟨by decide, by decide, tb_in 1009 (by decide +kernel) rfl, tb_in 985 (by decide +kernel) rfl⟩
theorem ml_RX5_95 : Cond.methodLink RX5 95 yX5_byteAt ∈ TBL := tb_in 1078 (by decide +kernel) rfl
theorem mth_X5_byteAt : Mth yX5_byteAt cX5_byteAt 2 (some .int) 1 := ⟨tb_in 1081 (by decide +kernel) rfl, tb_in 7 (by decide +kernel) rfl, ⟨by decide +kernel, by decide +kernel⟩, by decide +kernel⟩
theorem iv_X5_byteAt : Cond.instanceMethod yX5_byteAt ∈ TBL ∧ Cond.selects RX5 yX5_byteAt yX5_byteAt ∈ TBL := ⟨tb_in 1080 (by decide +kernel) rfl, tb_sel (q := (yX5_byteAt, 20)) (List.mem_of_getElem? (i := 49) (by decide +kernel))⟩
theorem ml_RX5_104 : Cond.methodLink RX5 104 yX5_here ∈ TBL := tb_in 1074 (by decide +kernel) rfl
theorem mth_X5_here : Mth yX5_here cX5_here 1 (some .int) 0 := ⟨tb_in 1077 (by decide +kernel) rfl, tb_in 7 (by decide +kernel) rfl, ⟨by decide +kernel, by decide +kernel⟩, by decide +kernel⟩
theorem iv_X5_here : Cond.instanceMethod yX5_here ∈ TBL ∧ Cond.selects RX5 yX5_here yX5_here ∈ TBL := ⟨tb_in 1076 (by decide +kernel) rfl, tb_sel (q := (yX5_here, 20)) (List.mem_of_getElem? (i := 48) (by decide +kernel))⟩
theorem ml_RX5_108 : Cond.methodLink RX5 108 yJ0_length_8abf5 ∈ TBL := tb_in 1082 (by decide +kernel) rfl
theorem ml_RX5_113 : Cond.methodLink RX5 113 yJ0_charAt_5068e ∈ TBL := tb_in 1083 (by decide +kernel) rfl
theorem ml_RX5_117 : Cond.methodLink RX5 117 yX5_isSmall ∈ TBL := tb_in 1084 (by decide +kernel) rfl
theorem mth_X5_isSmall : Mth yX5_isSmall cX5_isSmall 1 (some .boolean) 1 := ⟨tb_in 1086 (by decide +kernel) rfl, tb_in 7 (by decide +kernel) rfl, ⟨by decide +kernel, by decide +kernel⟩, by decide +kernel⟩
theorem st_X5_isSmall : Cond.static yX5_isSmall ∈ TBL := tb_in 1085 (by decide +kernel) rfl
theorem ml_RX5_121 : Cond.methodLink RX5 121 yX5_fine ∈ TBL := tb_in 1066 (by decide +kernel) rfl
theorem mth_X5_fine : Mth yX5_fine cX5_fine 1 (some .boolean) 0 := ⟨tb_in 1069 (by decide +kernel) rfl, tb_in 7 (by decide +kernel) rfl, ⟨by decide +kernel, by decide +kernel⟩, by decide +kernel⟩
theorem ml_RX5_125 : Cond.methodLink RX5 125 yX5_isWord ∈ TBL := tb_in 1070 (by decide +kernel) rfl
theorem mth_X5_isWord : Mth yX5_isWord cX5_isWord 3 (some .boolean) 1 := ⟨tb_in 1073 (by decide +kernel) rfl, tb_in 7 (by decide +kernel) rfl, ⟨by decide +kernel, by decide +kernel⟩, by decide +kernel⟩
theorem iv_X5_isWord : Cond.instanceMethod yX5_isWord ∈ TBL ∧ Cond.selects RX5 yX5_isWord yX5_isWord ∈ TBL := ⟨tb_in 1072 (by decide +kernel) rfl, tb_sel (q := (yX5_isWord, 20)) (List.mem_of_getElem? (i := 47) (by decide +kernel))⟩
theorem iv_X5_fine : Cond.instanceMethod yX5_fine ∈ TBL ∧ Cond.selects RX5 yX5_fine yX5_fine ∈ TBL := ⟨tb_in 1068 (by decide +kernel) rfl, tb_sel (q := (yX5_fine, 20)) (List.mem_of_getElem? (i := 46) (by decide +kernel))⟩
theorem fl_RX5_101 : Fl RX5 101 5 7 := ⟨by decide, by decide, tb_in 1015 (by decide +kernel) rfl, tb_in 988 (by decide +kernel) rfl⟩
theorem ml_RX5_129 : Cond.methodLink RX5 129 yX5_isDigit ∈ TBL := tb_in 1095 (by decide +kernel) rfl
theorem mth_X5_isDigit : Mth yX5_isDigit cX5_isDigit 1 (some .boolean) 1 := ⟨tb_in 1097 (by decide +kernel) rfl, tb_in 7 (by decide +kernel) rfl, ⟨by decide +kernel, by decide +kernel⟩, by decide +kernel⟩
theorem ml_RX5_132 : Cond.methodLink RX5 132 yX5_wrong ∈ TBL := tb_in 1087 (by decide +kernel) rfl
theorem mth_X5_wrong : Mth yX5_wrong cX5_wrong 3 none 2 := ⟨tb_in 1090 (by decide +kernel) rfl, tb_in 7 (by decide +kernel) rfl, ⟨by decide +kernel, by decide +kernel⟩, by decide +kernel⟩
theorem iv_X5_wrong : Cond.instanceMethod yX5_wrong ∈ TBL ∧ Cond.selects RX5 yX5_wrong yX5_wrong ∈ TBL := ⟨tb_in 1089 (by decide +kernel) rfl, tb_sel (q := (yX5_wrong, 20)) (List.mem_of_getElem? (i := 50) (by decide +kernel))⟩
theorem st_X5_isDigit : Cond.static yX5_isDigit ∈ TBL := tb_in 1096 (by decide +kernel) rfl
theorem ml_RX5_56 : Cond.methodLink RX5 56 yX5_in ∈ TBL := tb_in 1054 (by decide +kernel) rfl
theorem mth_X5_in : Mth yX5_in cX5_in 3 (some .boolean) 3 := ⟨tb_in 1056 (by decide +kernel) rfl, tb_in 7 (by decide +kernel) rfl, ⟨by decide +kernel, by decide +kernel⟩, by decide +kernel⟩
theorem st_X5_in : Cond.static yX5_in ∈ TBL := tb_in 1055 (by decide +kernel) rfl
theorem ci_RX5_136 : Cond.constant RX5 136 100000 ∈ TBL := tb_in 1098 (by decide +kernel) rfl
theorem ml_RX5_86 : Cond.methodLink RX5 86 yX5_less ∈ TBL := tb_in 1099 (by decide +kernel) rfl
theorem mth_X5_less : Mth yX5_less cX5_less 2 (some .int) 2 := ⟨tb_in 1101 (by decide +kernel) rfl, tb_in 7 (by decide +kernel) rfl, ⟨by decide +kernel, by decide +kernel⟩, by decide +kernel⟩
theorem st_X5_less : Cond.static yX5_less ∈ TBL := tb_in 1100 (by decide +kernel) rfl
theorem fl_RX5_23 : Fl RX5 23 5 10 := ⟨by decide, by decide, tb_in 1021 (by decide +kernel) rfl, tb_in 991 (by decide +kernel) rfl⟩
theorem A_351 {b : Wy} : IsA (wM b) 351 := ⟨rfl, Nat.le_of_ble_eq_true rfl, Nat.le_of_ble_eq_true rfl⟩
theorem ml_RX5_165 : Cond.methodLink RX5 165 yX5_number ∈ TBL := tb_in 1091 (by decide +kernel) rfl
theorem mth_X5_number : Mth yX5_number cX5_number 5 (some .int) 2 := ⟨tb_in 1094 (by decide +kernel) rfl, tb_in 7 (by decide +kernel) rfl, ⟨by decide +kernel, by decide +kernel⟩, by decide +kernel⟩
theorem ml_RX5_71 : Cond.methodLink RX5 71 yX5_cellAt ∈ TBL := tb_in 1119 (by decide +kernel) rfl
theorem mth_X5_cellAt : Mth yX5_cellAt cX5_cellAt 2 (some .int) 2 := ⟨tb_in 1121 (by decide +kernel) rfl, tb_in 7 (by decide +kernel) rfl, ⟨by decide +kernel, by decide +kernel⟩, by decide +kernel⟩
theorem st_X5_cellAt : Cond.static yX5_cellAt ∈ TBL := tb_in 1120 (by decide +kernel) rfl
theorem iv_X5_number : Cond.instanceMethod yX5_number ∈ TBL ∧ Cond.selects RX5 yX5_number yX5_number ∈ TBL := ⟨tb_in 1093 (by decide +kernel) rfl, tb_sel (q := (yX5_number, 20)) (List.mem_of_getElem? (i := 51) (by decide +kernel))⟩
theorem fl_RX5_168 : Fl RX5 168 5 13 := ⟨by decide, by decide, tb_in 1027 (by decide +kernel) rfl, tb_in 994 (by decide +kernel) rfl⟩
theorem sipush_609 : (Int16.ofInt 609).toInt32 = 609 := by decide
theorem fl_RX5_171 : Fl RX5 171 5 14 := ⟨by decide, by decide, tb_in 1029 (by decide +kernel) rfl, tb_in 995 (by decide +kernel) rfl⟩
theorem ml_RX5_174 : Cond.methodLink RX5 174 yX5_readsCell ∈ TBL := tb_in 1115 (by decide +kernel) rfl
theorem mth_X5_readsCell : Mth yX5_readsCell cX5_readsCell 5 none 1 := ⟨tb_in 1118 (by decide +kernel) rfl, tb_in 7 (by decide +kernel) rfl, ⟨by decide +kernel, by decide +kernel⟩, by decide +kernel⟩
theorem ml_RX5_178 : Cond.methodLink RX5 178 yX5_isTold ∈ TBL := tb_in 1122 (by decide +kernel) rfl
theorem mth_X5_isTold : Mth yX5_isTold cX5_isTold 2 (some .boolean) 1 := ⟨tb_in 1125 (by decide +kernel) rfl, tb_in 7 (by decide +kernel) rfl, ⟨by decide +kernel, by decide +kernel⟩, by decide +kernel⟩
theorem bipush_6 : (Int8.ofInt 6).toInt32 = 6 := by decide
theorem bipush_7 : (Int8.ofInt 7).toInt32 = 7 := by decide
theorem iv_X5_isTold : Cond.instanceMethod yX5_isTold ∈ TBL ∧ Cond.selects RX5 yX5_isTold yX5_isTold ∈ TBL := ⟨tb_in 1124 (by decide +kernel) rfl, tb_sel (q := (yX5_isTold, 20)) (List.mem_of_getElem? (i := 56) (by decide +kernel))⟩
theorem iv_X5_readsCell : Cond.instanceMethod yX5_readsCell ∈ TBL ∧ Cond.selects RX5 yX5_readsCell yX5_readsCell ∈ TBL := ⟨tb_in 1117 (by decide +kernel) rfl, tb_sel (q := (yX5_readsCell, 20)) (List.mem_of_getElem? (i := 55) (by decide +kernel))⟩
theorem sipush_1089 : (Int16.ofInt 1089).toInt32 = 1089 := by decide
theorem tsw0_8 (a : Int32) : (a < 0 ∨ 7 < a) ∨ a = 0 ∨ a = 1 ∨ a = 2 ∨ a = 3 ∨ a = 4 ∨ a = 5 ∨ a = 6 ∨ a = 7 := by
  have h := tsw_of a
  rcases (show (a.toInt < 0 ∨ 7 < a.toInt) ∨ a.toInt = 0 ∨ a.toInt = 1 ∨ a.toInt = 2 ∨ a.toInt = 3 ∨ a.toInt = 4 ∨ a.toInt = 5 ∨ a.toInt = 6 ∨ a.toInt = 7 by omega) with h1 | h1 | h1 | h1 | h1 | h1 | h1 | h1 | h1
  · exact Or.inl (h1.imp (fun z => Int32.lt_iff_toInt_lt.mpr z) (fun z => Int32.lt_iff_toInt_lt.mpr z))
  · exact Or.inr ((Or.inl (Int32.toInt_inj.mp h1)))
  · exact Or.inr ((Or.inr (Or.inl (Int32.toInt_inj.mp h1))))
  · exact Or.inr ((Or.inr (Or.inr (Or.inl (Int32.toInt_inj.mp h1)))))
  · exact Or.inr ((Or.inr (Or.inr (Or.inr (Or.inl (Int32.toInt_inj.mp h1))))))
  · exact Or.inr ((Or.inr (Or.inr (Or.inr (Or.inr (Or.inl (Int32.toInt_inj.mp h1)))))))
  · exact Or.inr ((Or.inr (Or.inr (Or.inr (Or.inr (Or.inr (Or.inl (Int32.toInt_inj.mp h1))))))))
  · exact Or.inr ((Or.inr (Or.inr (Or.inr (Or.inr (Or.inr (Or.inr (Or.inl (Int32.toInt_inj.mp h1)))))))))
  · exact Or.inr ((Or.inr (Or.inr (Or.inr (Or.inr (Or.inr (Or.inr (Or.inr (id (Int32.toInt_inj.mp h1))))))))))
theorem tswO0_8 {a : Int32} (h : a < 0 ∨ 7 < a) : a.toInt < 0 ∨ 7 < a.toInt := h.imp (fun z => (show a.toInt < (0 : Int32).toInt from Int32.lt_iff_toInt_lt.mp z)) (fun z => (show (7 : Int32).toInt < a.toInt from Int32.lt_iff_toInt_lt.mp z))
theorem ml_RX5_155 : Cond.methodLink RX5 155 yX5_wordOf ∈ TBL := tb_in 1135 (by decide +kernel) rfl
theorem mth_X5_wordOf : Mth yX5_wordOf cX5_wordOf 1 (some (.object "java/lang/String")) 1 := ⟨tb_in 1137 (by decide +kernel) rfl, tb_in 7 (by decide +kernel) rfl, ⟨by decide +kernel, by decide +kernel⟩, by decide +kernel⟩
theorem ml_RX5_159 : Cond.methodLink RX5 159 yX5_takes ∈ TBL := tb_in 1062 (by decide +kernel) rfl
theorem mth_X5_takes : Mth yX5_takes cX5_takes 2 (some .boolean) 1 := ⟨tb_in 1065 (by decide +kernel) rfl, tb_in 7 (by decide +kernel) rfl, ⟨by decide +kernel, by decide +kernel⟩, by decide +kernel⟩
theorem iv_X5_takes : Cond.instanceMethod yX5_takes ∈ TBL ∧ Cond.selects RX5 yX5_takes yX5_takes ∈ TBL := ⟨tb_in 1064 (by decide +kernel) rfl, tb_sel (q := (yX5_takes, 20)) (List.mem_of_getElem? (i := 45) (by decide +kernel))⟩
theorem st_X5_wordOf : Cond.static yX5_wordOf ∈ TBL := tb_in 1136 (by decide +kernel) rfl
theorem ml_RX5_162 : Cond.methodLink RX5 162 yX5_direction ∈ TBL := tb_in 1131 (by decide +kernel) rfl
theorem mth_X5_direction : Mth yX5_direction cX5_direction 2 (some .int) 0 := ⟨tb_in 1134 (by decide +kernel) rfl, tb_in 7 (by decide +kernel) rfl, ⟨by decide +kernel, by decide +kernel⟩, by decide +kernel⟩
theorem iv_X5_direction : Cond.instanceMethod yX5_direction ∈ TBL ∧ Cond.selects RX5 yX5_direction yX5_direction ∈ TBL := ⟨tb_in 1133 (by decide +kernel) rfl, tb_sel (q := (yX5_direction, 20)) (List.mem_of_getElem? (i := 58) (by decide +kernel))⟩
theorem sipush_849 : (Int16.ofInt 849).toInt32 = 849 := by decide
theorem ml_RX5_193 : Cond.methodLink RX5 193 yX5_takesOnce ∈ TBL := tb_in 1148 (by decide +kernel) rfl
theorem mth_X5_takesOnce : Mth yX5_takesOnce cX5_takesOnce 3 (some .boolean) 2 := ⟨tb_in 1151 (by decide +kernel) rfl, tb_in 7 (by decide +kernel) rfl, ⟨by decide +kernel, by decide +kernel⟩, by decide +kernel⟩
theorem ml_RX5_213 : Cond.methodLink RX5 213 yX5_must ∈ TBL := tb_in 1102 (by decide +kernel) rfl
theorem mth_X5_must : Mth yX5_must cX5_must 2 none 1 := ⟨tb_in 1105 (by decide +kernel) rfl, tb_in 7 (by decide +kernel) rfl, ⟨by decide +kernel, by decide +kernel⟩, by decide +kernel⟩
theorem iv_X5_must : Cond.instanceMethod yX5_must ∈ TBL ∧ Cond.selects RX5 yX5_must yX5_must ∈ TBL := ⟨tb_in 1104 (by decide +kernel) rfl, tb_sel (q := (yX5_must, 20)) (List.mem_of_getElem? (i := 52) (by decide +kernel))⟩
theorem ml_RX5_209 : Cond.methodLink RX5 209 yX5_readsHelper ∈ TBL := tb_in 1160 (by decide +kernel) rfl
theorem mth_X5_readsHelper : Mth yX5_readsHelper cX5_readsHelper 4 none 1 := ⟨tb_in 1163 (by decide +kernel) rfl, tb_in 7 (by decide +kernel) rfl, ⟨by decide +kernel, by decide +kernel⟩, by decide +kernel⟩
theorem iv_X5_readsHelper : Cond.instanceMethod yX5_readsHelper ∈ TBL ∧ Cond.selects RX5 yX5_readsHelper yX5_readsHelper ∈ TBL := ⟨tb_in 1162 (by decide +kernel) rfl, tb_sel (q := (yX5_readsHelper, 20)) (List.mem_of_getElem? (i := 61) (by decide +kernel))⟩
theorem iv_X5_takesOnce : Cond.instanceMethod yX5_takesOnce ∈ TBL ∧ Cond.selects RX5 yX5_takesOnce yX5_takesOnce ∈ TBL := ⟨tb_in 1150 (by decide +kernel) rfl, tb_sel (q := (yX5_takesOnce, 20)) (List.mem_of_getElem? (i := 59) (by decide +kernel))⟩
theorem bipush_11 : (Int8.ofInt 11).toInt32 = 11 := by decide
theorem bipush_36 : (Int8.ofInt 36).toInt32 = 36 := by decide
theorem ml_RX5_197 : Cond.methodLink RX5 197 yX5_directions ∈ TBL := tb_in 1152 (by decide +kernel) rfl
theorem mth_X5_directions : Mth yX5_directions cX5_directions 7 (some .int) 3 := ⟨tb_in 1155 (by decide +kernel) rfl, tb_in 7 (by decide +kernel) rfl, ⟨by decide +kernel, by decide +kernel⟩, by decide +kernel⟩
theorem iv_X5_directions : Cond.instanceMethod yX5_directions ∈ TBL ∧ Cond.selects RX5 yX5_directions yX5_directions ∈ TBL := ⟨tb_in 1154 (by decide +kernel) rfl, tb_sel (q := (yX5_directions, 20)) (List.mem_of_getElem? (i := 60) (by decide +kernel))⟩
theorem ml_RX5_188 : Cond.methodLink RX5 188 yX5_readsCurrent ∈ TBL := tb_in 1127 (by decide +kernel) rfl
theorem mth_X5_readsCurrent : Mth yX5_readsCurrent cX5_readsCurrent 8 none 0 := ⟨tb_in 1130 (by decide +kernel) rfl, tb_in 7 (by decide +kernel) rfl, ⟨by decide +kernel, by decide +kernel⟩, by decide +kernel⟩
theorem iv_X5_readsCurrent : Cond.instanceMethod yX5_readsCurrent ∈ TBL ∧ Cond.selects RX5 yX5_readsCurrent yX5_readsCurrent ∈ TBL := ⟨tb_in 1129 (by decide +kernel) rfl, tb_sel (q := (yX5_readsCurrent, 20)) (List.mem_of_getElem? (i := 57) (by decide +kernel))⟩
theorem ml_RX5_183 : Cond.methodLink RX5 183 yX5_readsLand ∈ TBL := tb_in 1111 (by decide +kernel) rfl
theorem mth_X5_readsLand : Mth yX5_readsLand cX5_readsLand 4 none 0 := ⟨tb_in 1114 (by decide +kernel) rfl, tb_in 7 (by decide +kernel) rfl, ⟨by decide +kernel, by decide +kernel⟩, by decide +kernel⟩
theorem iv_X5_readsLand : Cond.instanceMethod yX5_readsLand ∈ TBL ∧ Cond.selects RX5 yX5_readsLand yX5_readsLand ∈ TBL := ⟨tb_in 1113 (by decide +kernel) rfl, tb_sel (q := (yX5_readsLand, 20)) (List.mem_of_getElem? (i := 54) (by decide +kernel))⟩
theorem fl_RX5_232 : Fl RX5 232 5 12 := ⟨by decide, by decide, tb_in 1025 (by decide +kernel) rfl, tb_in 993 (by decide +kernel) rfl⟩
theorem fl_RX5_20 : Fl RX5 20 5 9 := ⟨by decide, by decide, tb_in 1019 (by decide +kernel) rfl, tb_in 990 (by decide +kernel) rfl⟩
theorem A_350 {b : Wy} : IsA (wM b) 350 := ⟨rfl, Nat.le_of_ble_eq_true rfl, Nat.le_of_ble_eq_true rfl⟩
theorem fl_RX5_28 : Fl RX5 28 5 11 := ⟨by decide, by decide, tb_in 1023 (by decide +kernel) rfl, tb_in 992 (by decide +kernel) rfl⟩
theorem ml_RX5_228 : Cond.methodLink RX5 228 yX5_copies ∈ TBL := tb_in 1168 (by decide +kernel) rfl
theorem mth_X5_copies : Mth yX5_copies cX5_copies 3 none 2 := ⟨tb_in 1170 (by decide +kernel) rfl, tb_in 7 (by decide +kernel) rfl, ⟨by decide +kernel, by decide +kernel⟩, by decide +kernel⟩
theorem st_X5_copies : Cond.static yX5_copies ∈ TBL := tb_in 1169 (by decide +kernel) rfl
theorem ml_RX5_216 : Cond.methodLink RX5 216 yX5_bad ∈ TBL := tb_in 1057 (by decide +kernel) rfl
theorem mth_X5_bad : Mth yX5_bad cX5_bad 4 (some .boolean) 3 := ⟨tb_in 1060 (by decide +kernel) rfl, tb_in 7 (by decide +kernel) rfl, ⟨by decide +kernel, by decide +kernel⟩, by decide +kernel⟩
theorem ml_RX5_46 : Cond.methodLink RX5 46 yX5_begins ∈ TBL := tb_in 978 (by decide +kernel) rfl
theorem mth_X5_begins : Mth yX5_begins cX5_begins 2 none 1 := ⟨tb_in 980 (by decide +kernel) rfl, tb_in 7 (by decide +kernel) rfl, ⟨by decide +kernel, by decide +kernel⟩, by decide +kernel⟩
theorem st_X5_begins : Cond.static yX5_begins ∈ TBL := tb_in 979 (by decide +kernel) rfl
theorem iv_X5_bad : Cond.instanceMethod yX5_bad ∈ TBL ∧ Cond.selects RX5 yX5_bad yX5_bad ∈ TBL := ⟨tb_in 1059 (by decide +kernel) rfl, tb_sel (q := (yX5_bad, 20)) (List.mem_of_getElem? (i := 44) (by decide +kernel))⟩
theorem ml_RX5_222 : Cond.methodLink RX5 222 yX5_readsLine ∈ TBL := tb_in 1106 (by decide +kernel) rfl
theorem mth_X5_readsLine : Mth yX5_readsLine cX5_readsLine 2 none 0 := ⟨tb_in 1109 (by decide +kernel) rfl, tb_in 7 (by decide +kernel) rfl, ⟨by decide +kernel, by decide +kernel⟩, by decide +kernel⟩
theorem iv_X5_readsLine : Cond.instanceMethod yX5_readsLine ∈ TBL ∧ Cond.selects RX5 yX5_readsLine yX5_readsLine ∈ TBL := ⟨tb_in 1108 (by decide +kernel) rfl, tb_sel (q := (yX5_readsLine, 20)) (List.mem_of_getElem? (i := 53) (by decide +kernel))⟩
theorem fl_RX5_13 : Fl RX5 13 5 5 := ⟨by decide, by decide, tb_in 1011 (by decide +kernel) rfl, tb_in 986 (by decide +kernel) rfl⟩
theorem ml_RX5_225 : Cond.methodLink RX5 225 yX5_remembers ∈ TBL := tb_in 1164 (by decide +kernel) rfl
theorem mth_X5_remembers : Mth yX5_remembers cX5_remembers 2 none 0 := ⟨tb_in 1167 (by decide +kernel) rfl, tb_in 7 (by decide +kernel) rfl, ⟨by decide +kernel, by decide +kernel⟩, by decide +kernel⟩
theorem iv_X5_remembers : Cond.instanceMethod yX5_remembers ∈ TBL ∧ Cond.selects RX5 yX5_remembers yX5_remembers ∈ TBL := ⟨tb_in 1166 (by decide +kernel) rfl, tb_sel (q := (yX5_remembers, 20)) (List.mem_of_getElem? (i := 62) (by decide +kernel))⟩
theorem ml_RX5_235 : Cond.methodLink RX5 235 yX5_isHelper ∈ TBL := tb_in 1187 (by decide +kernel) rfl
theorem mth_X5_isHelper : Mth yX5_isHelper cX5_isHelper 2 (some .boolean) 1 := ⟨tb_in 1190 (by decide +kernel) rfl, tb_in 7 (by decide +kernel) rfl, ⟨by decide +kernel, by decide +kernel⟩, by decide +kernel⟩
theorem iv_X5_isHelper : Cond.instanceMethod yX5_isHelper ∈ TBL ∧ Cond.selects RX5 yX5_isHelper yX5_isHelper ∈ TBL := ⟨tb_in 1189 (by decide +kernel) rfl, tb_sel (q := (yX5_isHelper, 20)) (List.mem_of_getElem? (i := 64) (by decide +kernel))⟩
theorem ml_RX5_60 : Cond.methodLink RX5 60 yX5_eastOf ∈ TBL := tb_in 1202 (by decide +kernel) rfl
theorem mth_X5_eastOf : Mth yX5_eastOf cX5_eastOf 1 (some .int) 1 := ⟨tb_in 1204 (by decide +kernel) rfl, tb_in 7 (by decide +kernel) rfl, ⟨by decide +kernel, by decide +kernel⟩, by decide +kernel⟩
theorem ml_RX5_64 : Cond.methodLink RX5 64 yX5_northOf ∈ TBL := tb_in 1205 (by decide +kernel) rfl
theorem mth_X5_northOf : Mth yX5_northOf cX5_northOf 1 (some .int) 1 := ⟨tb_in 1207 (by decide +kernel) rfl, tb_in 7 (by decide +kernel) rfl, ⟨by decide +kernel, by decide +kernel⟩, by decide +kernel⟩
theorem ml_RX5_67 : Cond.methodLink RX5 67 yX5_isOn ∈ TBL := tb_in 1208 (by decide +kernel) rfl
theorem mth_X5_isOn : Mth yX5_isOn cX5_isOn 3 (some .boolean) 3 := ⟨tb_in 1210 (by decide +kernel) rfl, tb_in 7 (by decide +kernel) rfl, ⟨by decide +kernel, by decide +kernel⟩, by decide +kernel⟩
theorem st_X5_isOn : Cond.static yX5_isOn ∈ TBL := tb_in 1209 (by decide +kernel) rfl
theorem st_X5_northOf : Cond.static yX5_northOf ∈ TBL := tb_in 1206 (by decide +kernel) rfl
theorem st_X5_eastOf : Cond.static yX5_eastOf ∈ TBL := tb_in 1203 (by decide +kernel) rfl
theorem ml_RX5_238 : Cond.methodLink RX5 238 yX5_helperCell ∈ TBL := tb_in 1195 (by decide +kernel) rfl
theorem mth_X5_helperCell : Mth yX5_helperCell cX5_helperCell 2 (some .int) 1 := ⟨tb_in 1198 (by decide +kernel) rfl, tb_in 7 (by decide +kernel) rfl, ⟨by decide +kernel, by decide +kernel⟩, by decide +kernel⟩
theorem ml_RX5_75 : Cond.methodLink RX5 75 yX5_goes ∈ TBL := tb_in 1199 (by decide +kernel) rfl
theorem mth_X5_goes : Mth yX5_goes cX5_goes 5 (some .boolean) 3 := ⟨tb_in 1201 (by decide +kernel) rfl, tb_in 7 (by decide +kernel) rfl, ⟨by decide +kernel, by decide +kernel⟩, by decide +kernel⟩
theorem ml_RX5_82 : Cond.methodLink RX5 82 yX5_windOf ∈ TBL := tb_in 1211 (by decide +kernel) rfl
theorem mth_X5_windOf : Mth yX5_windOf cX5_windOf 2 (some .int) 2 := ⟨tb_in 1213 (by decide +kernel) rfl, tb_in 7 (by decide +kernel) rfl, ⟨by decide +kernel, by decide +kernel⟩, by decide +kernel⟩
theorem ml_RX5_241 : Cond.methodLink RX5 241 yX5_costBy ∈ TBL := tb_in 1214 (by decide +kernel) rfl
theorem mth_X5_costBy : Mth yX5_costBy cX5_costBy 3 (some .int) 2 := ⟨tb_in 1216 (by decide +kernel) rfl, tb_in 7 (by decide +kernel) rfl, ⟨by decide +kernel, by decide +kernel⟩, by decide +kernel⟩
theorem ml_RX5_244 : Cond.methodLink RX5 244 yX5_fuelOf ∈ TBL := tb_in 1217 (by decide +kernel) rfl
theorem mth_X5_fuelOf : Mth yX5_fuelOf cX5_fuelOf 2 (some .int) 1 := ⟨tb_in 1220 (by decide +kernel) rfl, tb_in 7 (by decide +kernel) rfl, ⟨by decide +kernel, by decide +kernel⟩, by decide +kernel⟩
theorem iv_X5_fuelOf : Cond.instanceMethod yX5_fuelOf ∈ TBL ∧ Cond.selects RX5 yX5_fuelOf yX5_fuelOf ∈ TBL := ⟨tb_in 1219 (by decide +kernel) rfl, tb_sel (q := (yX5_fuelOf, 20)) (List.mem_of_getElem? (i := 67) (by decide +kernel))⟩
theorem st_X5_costBy : Cond.static yX5_costBy ∈ TBL := tb_in 1215 (by decide +kernel) rfl
theorem st_X5_windOf : Cond.static yX5_windOf ∈ TBL := tb_in 1212 (by decide +kernel) rfl
theorem st_X5_goes : Cond.static yX5_goes ∈ TBL := tb_in 1200 (by decide +kernel) rfl
theorem iv_X5_helperCell : Cond.instanceMethod yX5_helperCell ∈ TBL ∧ Cond.selects RX5 yX5_helperCell yX5_helperCell ∈ TBL := ⟨tb_in 1197 (by decide +kernel) rfl, tb_sel (q := (yX5_helperCell, 20)) (List.mem_of_getElem? (i := 66) (by decide +kernel))⟩
theorem ml_RX5_78 : Cond.methodLink RX5 78 yX5_behind ∈ TBL := tb_in 1228 (by decide +kernel) rfl
theorem mth_X5_behind : Mth yX5_behind cX5_behind 3 (some .int) 3 := ⟨tb_in 1230 (by decide +kernel) rfl, tb_in 7 (by decide +kernel) rfl, ⟨by decide +kernel, by decide +kernel⟩, by decide +kernel⟩
theorem st_X5_behind : Cond.static yX5_behind ∈ TBL := tb_in 1229 (by decide +kernel) rfl
theorem ml_RX5_247 : Cond.methodLink RX5 247 yX5_carried ∈ TBL := tb_in 1225 (by decide +kernel) rfl
theorem mth_X5_carried : Mth yX5_carried cX5_carried 4 (some .int) 3 := ⟨tb_in 1227 (by decide +kernel) rfl, tb_in 7 (by decide +kernel) rfl, ⟨by decide +kernel, by decide +kernel⟩, by decide +kernel⟩
theorem st_X5_carried : Cond.static yX5_carried ∈ TBL := tb_in 1226 (by decide +kernel) rfl
theorem ml_RX5_250 : Cond.methodLink RX5 250 yX5_isCourse ∈ TBL := tb_in 1183 (by decide +kernel) rfl
theorem mth_X5_isCourse : Mth yX5_isCourse cX5_isCourse 3 (some .boolean) 2 := ⟨tb_in 1186 (by decide +kernel) rfl, tb_in 7 (by decide +kernel) rfl, ⟨by decide +kernel, by decide +kernel⟩, by decide +kernel⟩
theorem iv_X5_isCourse : Cond.instanceMethod yX5_isCourse ∈ TBL ∧ Cond.selects RX5 yX5_isCourse yX5_isCourse ∈ TBL := ⟨tb_in 1185 (by decide +kernel) rfl, tb_sel (q := (yX5_isCourse, 20)) (List.mem_of_getElem? (i := 63) (by decide +kernel))⟩
theorem ml_RX5_254 : Cond.methodLink RX5 254 yX5_canGo ∈ TBL := tb_in 1191 (by decide +kernel) rfl
theorem mth_X5_canGo : Mth yX5_canGo cX5_canGo 3 (some .boolean) 2 := ⟨tb_in 1194 (by decide +kernel) rfl, tb_in 7 (by decide +kernel) rfl, ⟨by decide +kernel, by decide +kernel⟩, by decide +kernel⟩
theorem iv_X5_canGo : Cond.instanceMethod yX5_canGo ∈ TBL ∧ Cond.selects RX5 yX5_canGo yX5_canGo ∈ TBL := ⟨tb_in 1193 (by decide +kernel) rfl, tb_sel (q := (yX5_canGo, 20)) (List.mem_of_getElem? (i := 65) (by decide +kernel))⟩
theorem ml_RX5_260 : Cond.methodLink RX5 260 yX5_drifterCell ∈ TBL := tb_in 1231 (by decide +kernel) rfl
theorem mth_X5_drifterCell : Mth yX5_drifterCell cX5_drifterCell 1 (some .int) 0 := ⟨tb_in 1234 (by decide +kernel) rfl, tb_in 7 (by decide +kernel) rfl, ⟨by decide +kernel, by decide +kernel⟩, by decide +kernel⟩
theorem ml_RX5_263 : Cond.methodLink RX5 263 yX5_drifted ∈ TBL := tb_in 1235 (by decide +kernel) rfl
theorem mth_X5_drifted : Mth yX5_drifted cX5_drifted 4 (some .int) 3 := ⟨tb_in 1237 (by decide +kernel) rfl, tb_in 7 (by decide +kernel) rfl, ⟨by decide +kernel, by decide +kernel⟩, by decide +kernel⟩
theorem ml_RX5_266 : Cond.methodLink RX5 266 yX5_portBehind ∈ TBL := tb_in 1238 (by decide +kernel) rfl
theorem mth_X5_portBehind : Mth yX5_portBehind cX5_portBehind 3 (some .int) 3 := ⟨tb_in 1240 (by decide +kernel) rfl, tb_in 7 (by decide +kernel) rfl, ⟨by decide +kernel, by decide +kernel⟩, by decide +kernel⟩
theorem st_X5_portBehind : Cond.static yX5_portBehind ∈ TBL := tb_in 1239 (by decide +kernel) rfl
theorem st_X5_drifted : Cond.static yX5_drifted ∈ TBL := tb_in 1236 (by decide +kernel) rfl
theorem iv_X5_drifterCell : Cond.instanceMethod yX5_drifterCell ∈ TBL ∧ Cond.selects RX5 yX5_drifterCell yX5_drifterCell ∈ TBL := ⟨tb_in 1233 (by decide +kernel) rfl, tb_sel (q := (yX5_drifterCell, 20)) (List.mem_of_getElem? (i := 69) (by decide +kernel))⟩
theorem ml_RX5_257 : Cond.methodLink RX5 257 yX5_helperGoes ∈ TBL := tb_in 1221 (by decide +kernel) rfl
theorem mth_X5_helperGoes : Mth yX5_helperGoes cX5_helperGoes 4 none 2 := ⟨tb_in 1224 (by decide +kernel) rfl, tb_in 7 (by decide +kernel) rfl, ⟨by decide +kernel, by decide +kernel⟩, by decide +kernel⟩
theorem iv_X5_helperGoes : Cond.instanceMethod yX5_helperGoes ∈ TBL ∧ Cond.selects RX5 yX5_helperGoes yX5_helperGoes ∈ TBL := ⟨tb_in 1223 (by decide +kernel) rfl, tb_sel (q := (yX5_helperGoes, 20)) (List.mem_of_getElem? (i := 68) (by decide +kernel))⟩
theorem fl_RX5_31 : Fl RX5 31 5 15 := ⟨by decide, by decide, tb_in 1031 (by decide +kernel) rfl, tb_in 996 (by decide +kernel) rfl⟩
theorem A_361 {b : Wy} : IsA (wM b) 361 := ⟨rfl, Nat.le_of_ble_eq_true rfl, Nat.le_of_ble_eq_true rfl⟩
theorem fl_RX5_34 : Fl RX5 34 5 16 := ⟨by decide, by decide, tb_in 1033 (by decide +kernel) rfl, tb_in 997 (by decide +kernel) rfl⟩
theorem A_362 {b : Wy} : IsA (wM b) 362 := ⟨rfl, Nat.le_of_ble_eq_true rfl, Nat.le_of_ble_eq_true rfl⟩
theorem ml_RX5_269 : Cond.methodLink RX5 269 yX5_looksAhead ∈ TBL := tb_in 1269 (by decide +kernel) rfl
theorem mth_X5_looksAhead : Mth yX5_looksAhead cX5_looksAhead 2 none 0 := ⟨tb_in 1272 (by decide +kernel) rfl, tb_in 7 (by decide +kernel) rfl, ⟨by decide +kernel, by decide +kernel⟩, by decide +kernel⟩
theorem iv_X5_looksAhead : Cond.instanceMethod yX5_looksAhead ∈ TBL ∧ Cond.selects RX5 yX5_looksAhead yX5_looksAhead ∈ TBL := ⟨tb_in 1271 (by decide +kernel) rfl, tb_sel (q := (yX5_looksAhead, 20)) (List.mem_of_getElem? (i := 70) (by decide +kernel))⟩
theorem ci_RX5_272 : Cond.constant RX5 272 1048576 ∈ TBL := tb_in 1293 (by decide +kernel) rfl
theorem ml_RX5_273 : Cond.methodLink RX5 273 yX5_empties ∈ TBL := tb_in 1289 (by decide +kernel) rfl
theorem mth_X5_empties : Mth yX5_empties cX5_empties 3 none 1 := ⟨tb_in 1292 (by decide +kernel) rfl, tb_in 7 (by decide +kernel) rfl, ⟨by decide +kernel, by decide +kernel⟩, by decide +kernel⟩
theorem iv_X5_empties : Cond.instanceMethod yX5_empties ∈ TBL ∧ Cond.selects RX5 yX5_empties yX5_empties ∈ TBL := ⟨tb_in 1291 (by decide +kernel) rfl, tb_sel (q := (yX5_empties, 20)) (List.mem_of_getElem? (i := 73) (by decide +kernel))⟩
theorem fl_RX5_37 : Fl RX5 37 5 17 := ⟨by decide, by decide, tb_in 1035 (by decide +kernel) rfl, tb_in 998 (by decide +kernel) rfl⟩
theorem ml_RX5_276 : Cond.methodLink RX5 276 yX5_spreads ∈ TBL := tb_in 1285 (by decide +kernel) rfl
theorem mth_X5_spreads : Mth yX5_spreads cX5_spreads 9 none 3 := ⟨tb_in 1288 (by decide +kernel) rfl, tb_in 7 (by decide +kernel) rfl, ⟨by decide +kernel, by decide +kernel⟩, by decide +kernel⟩
theorem iv_X5_spreads : Cond.instanceMethod yX5_spreads ∈ TBL ∧ Cond.selects RX5 yX5_spreads yX5_spreads ∈ TBL := ⟨tb_in 1287 (by decide +kernel) rfl, tb_sel (q := (yX5_spreads, 20)) (List.mem_of_getElem? (i := 72) (by decide +kernel))⟩
theorem ml_RX5_280 : Cond.methodLink RX5 280 yX5_earliest ∈ TBL := tb_in 1281 (by decide +kernel) rfl
theorem mth_X5_earliest : Mth yX5_earliest cX5_earliest 3 (some .int) 1 := ⟨tb_in 1284 (by decide +kernel) rfl, tb_in 7 (by decide +kernel) rfl, ⟨by decide +kernel, by decide +kernel⟩, by decide +kernel⟩
theorem iv_X5_earliest : Cond.instanceMethod yX5_earliest ∈ TBL ∧ Cond.selects RX5 yX5_earliest yX5_earliest ∈ TBL := ⟨tb_in 1283 (by decide +kernel) rfl, tb_sel (q := (yX5_earliest, 20)) (List.mem_of_getElem? (i := 71) (by decide +kernel))⟩
theorem fl_RX5_43 : Fl RX5 43 5 19 := ⟨by decide, by decide, tb_in 1039 (by decide +kernel) rfl, tb_in 1000 (by decide +kernel) rfl⟩
theorem ml_RX5_283 : Cond.methodLink RX5 283 yX5_leads ∈ TBL := tb_in 1298 (by decide +kernel) rfl
theorem mth_X5_leads : Mth yX5_leads cX5_leads 7 none 2 := ⟨tb_in 1301 (by decide +kernel) rfl, tb_in 7 (by decide +kernel) rfl, ⟨by decide +kernel, by decide +kernel⟩, by decide +kernel⟩
theorem iv_X5_leads : Cond.instanceMethod yX5_leads ∈ TBL ∧ Cond.selects RX5 yX5_leads yX5_leads ∈ TBL := ⟨tb_in 1300 (by decide +kernel) rfl, tb_sel (q := (yX5_leads, 20)) (List.mem_of_getElem? (i := 74) (by decide +kernel))⟩
theorem fl_RX5_40 : Fl RX5 40 5 18 := ⟨by decide, by decide, tb_in 1037 (by decide +kernel) rfl, tb_in 999 (by decide +kernel) rfl⟩
theorem cl_RX5_286 : Cond.constantLong RX5 286 31 ∈ TBL := tb_in 1330 (by decide +kernel) rfl
theorem ml_RX5_288 : Cond.methodLink RX5 288 yX5_numberOf ∈ TBL := tb_in 1331 (by decide +kernel) rfl
theorem mth_X5_numberOf : Mth yX5_numberOf cX5_numberOf 3 (some .int) 3 := ⟨tb_in 1333 (by decide +kernel) rfl, tb_in 7 (by decide +kernel) rfl, ⟨by decide +kernel, by decide +kernel⟩, by decide +kernel⟩
theorem st_X5_numberOf : Cond.static yX5_numberOf ∈ TBL := tb_in 1332 (by decide +kernel) rfl
