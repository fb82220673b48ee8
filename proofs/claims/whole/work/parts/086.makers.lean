/-! the constructors, walked; printed by program -/
theorem vS_int {B k c j : Nat} {v : Int32} (hk : kd k = c) (hc : c < 6) (hr : isR c j = false) (hv : s0 k j = v) : vS B k j = .int v := by
  unfold vS fv
  rw [hk, if_pos hc, hr, if_neg (by decide), hv]
theorem vS_ref {B k c j t : Nat} (hk : kd k = c) (hc : c < 6) (hr : isR c j = true) (ht : tgt k j = t) : vS B k j = .ref (B + t) := by
  unfold vS fv
  rw [hk, if_pos hc, hr, if_pos rfl, ht]
theorem vS_arr {B k i n t : Nat} (hi : 0 < i) (hk : kd k = 6 + i) (ht : tgt k n = t) : vS B k n = .ref (B + t) := by
  unfold vS
  rw [hk, if_neg (by omega), if_neg (by omega), ht]
theorem oi_RX3 : Cond.methodLink RX3 3 Lib.objectInit ∈ TBL := tb_in 33 (by decide +kernel) rfl
theorem oi_i : Cond.instanceMethod Lib.objectInit ∈ TBL := tb_in 26 (by decide +kernel) rfl
theorem oi_c : Cond.code Lib.objectInit ⟨#[0xb1]⟩ 1 none ∈ TBL := tb_in 27 (by decide +kernel) rfl
theorem ac_int : Cond.arrayClass .int ∈ TBL := tb_in 120 (by decide +kernel) rfl
theorem oi_RX1 : Cond.methodLink RX1 3 Lib.objectInit ∈ TBL := tb_in 188 (by decide +kernel) rfl
theorem ck_RX1_9 : Cond.classLink RX1 9 "[[I" ∈ TBL := tb_in 189 (by decide +kernel) rfl
theorem fl_RX1_11 : Fl RX1 11 1 0 := ⟨by decide, by decide, tb_in 198 (by decide +kernel) rfl, tb_in 190 (by decide +kernel) rfl⟩
theorem fl_RX1_16 : Fl RX1 16 1 1 := ⟨by decide, by decide, tb_in 200 (by decide +kernel) rfl, tb_in 192 (by decide +kernel) rfl⟩
theorem oi_RX2 : Cond.methodLink RX2 3 Lib.objectInit ∈ TBL := tb_in 126 (by decide +kernel) rfl
theorem oi_RX0 : Cond.methodLink RX0 3 Lib.objectInit ∈ TBL := tb_in 179 (by decide +kernel) rfl
theorem ck_RX0_24 : Cond.classLink RX0 24 "SeaMeeting$Sailing" ∈ TBL := tb_in 180 (by decide +kernel) rfl
theorem ck_RX0_30 : Cond.classLink RX0 30 "[[I" ∈ TBL := tb_in 182 (by decide +kernel) rfl
theorem ia_1 : Cond.instantiable (tR 1) (nf 1) ∈ TBL := tb_in 184 (by decide +kernel) rfl
theorem in_1 : Cond.initialized (tR 1) ∈ TBL := tb_in 5 (by decide +kernel) rfl
theorem mn_RX0_50 : (RX0, 50, yX1_init, "SeaMeeting") ∈ nestM := List.mem_of_getElem? (i := 1) rfl
theorem mth_X1_init : Mth yX1_init cX1_init 1 none 0 := ⟨tb_in 187 (by decide +kernel) rfl, tb_in 5 (by decide +kernel) rfl, ⟨by decide +kernel, by decide +kernel⟩, by decide +kernel⟩
theorem ivi_X1_init : Cond.instanceMethod yX1_init ∈ TBL := tb_in 186 (by decide +kernel) rfl
theorem oi_RX4 : Cond.methodLink RX4 3 Lib.objectInit ∈ TBL := tb_in 25 (by decide +kernel) rfl
theorem ck_RX4_13 : Cond.classLink RX4 13 (tR 3) ∈ TBL := tb_in 28 (by decide +kernel) rfl
theorem ia_3 : Cond.instantiable (tR 3) (nf 3) ∈ TBL := tb_in 29 (by decide +kernel) rfl
theorem in_3 : Cond.initialized (tR 3) ∈ TBL := tb_in 2 (by decide +kernel) rfl
theorem mn_RX4_15 : (RX4, 15, yX3_init, "SeaMeeting") ∈ nestM := List.mem_of_getElem? (i := 0) rfl
theorem mth_X3_init : Mth yX3_init cX3_init 1 none 0 := ⟨tb_in 32 (by decide +kernel) rfl, tb_in 2 (by decide +kernel) rfl, ⟨by decide +kernel, by decide +kernel⟩, by decide +kernel⟩
theorem ivi_X3_init : Cond.instanceMethod yX3_init ∈ TBL := tb_in 31 (by decide +kernel) rfl
theorem ck_RX4_23 : Cond.classLink RX4 23 (tR 2) ∈ TBL := tb_in 121 (by decide +kernel) rfl
theorem ia_2 : Cond.instantiable (tR 2) (nf 2) ∈ TBL := tb_in 122 (by decide +kernel) rfl
theorem in_2 : Cond.initialized (tR 2) ∈ TBL := tb_in 3 (by decide +kernel) rfl
theorem ml_RX4_25 : Cond.methodLink RX4 25 yX2_init ∈ TBL := tb_in 123 (by decide +kernel) rfl
theorem mth_X2_init : Mth yX2_init cX2_init 3 none 2 := ⟨tb_in 125 (by decide +kernel) rfl, tb_in 3 (by decide +kernel) rfl, ⟨by decide +kernel, by decide +kernel⟩, by decide +kernel⟩
theorem ivi_X2_init : Cond.instanceMethod yX2_init ∈ TBL := tb_in 124 (by decide +kernel) rfl
theorem ck_RX4_32 : Cond.classLink RX4 32 (tR 0) ∈ TBL := tb_in 174 (by decide +kernel) rfl
theorem ia_0 : Cond.instantiable (tR 0) (nf 0) ∈ TBL := tb_in 175 (by decide +kernel) rfl
theorem in_0 : Cond.initialized (tR 0) ∈ TBL := tb_in 4 (by decide +kernel) rfl
theorem ml_RX4_34 : Cond.methodLink RX4 34 yX0_init ∈ TBL := tb_in 176 (by decide +kernel) rfl
theorem mth_X0_init : Mth yX0_init cX0_init 3 none 1 := ⟨tb_in 178 (by decide +kernel) rfl, tb_in 4 (by decide +kernel) rfl, ⟨by decide +kernel, by decide +kernel⟩, by decide +kernel⟩
theorem ivi_X0_init : Cond.instanceMethod yX0_init ∈ TBL := tb_in 177 (by decide +kernel) rfl
theorem ml_RX4_67 : Cond.methodLink RX4 67 yX3_beginSmall ∈ TBL := tb_in 239 (by decide +kernel) rfl
theorem mth_X3_beginSmall : Mth yX3_beginSmall cX3_beginSmall 1 none 0 := ⟨tb_in 242 (by decide +kernel) rfl, tb_in 2 (by decide +kernel) rfl, ⟨by decide +kernel, by decide +kernel⟩, by decide +kernel⟩
theorem iv_X3_beginSmall : Cond.instanceMethod yX3_beginSmall ∈ TBL ∧ Cond.selects RX3 yX3_beginSmall yX3_beginSmall ∈ TBL := ⟨tb_in 240 (by decide +kernel) rfl, tb_in 241 (by decide +kernel) rfl⟩
theorem oi_RX5 : Cond.methodLink RX5 3 Lib.objectInit ∈ TBL := tb_in 976 (by decide +kernel) rfl
theorem ck_RX5_26 : Cond.classLink RX5 26 "[[I" ∈ TBL := tb_in 977 (by decide +kernel) rfl
theorem d_X3_init_0 : decode cX3_init 0 = .ok (.aload_n 0, 1) := by decide +kernel
theorem d_X3_init_1 : decode cX3_init 1 = .ok (.invokespecial 3, 3) := by decide +kernel
theorem d_X3_init_4 : decode cX3_init 4 = .ok (.aload_n 0, 1) := by decide +kernel
theorem d_X3_init_5 : decode cX3_init 5 = .ok (.iconst 3, 1) := by decide +kernel
theorem d_X3_init_6 : decode cX3_init 6 = .ok (.putfield 9, 3) := by decide +kernel
theorem d_X3_init_9 : decode cX3_init 9 = .ok (.aload_n 0, 1) := by decide +kernel
theorem d_X3_init_10 : decode cX3_init 10 = .ok (.iconst 3, 1) := by decide +kernel
theorem d_X3_init_11 : decode cX3_init 11 = .ok (.putfield 15, 3) := by decide +kernel
theorem d_X3_init_14 : decode cX3_init 14 = .ok (.aload_n 0, 1) := by decide +kernel
theorem d_X3_init_15 : decode cX3_init 15 = .ok (.iconst 0, 1) := by decide +kernel
theorem d_X3_init_16 : decode cX3_init 16 = .ok (.putfield 18, 3) := by decide +kernel
theorem d_X3_init_19 : decode cX3_init 19 = .ok (.aload_n 0, 1) := by decide +kernel
theorem d_X3_init_20 : decode cX3_init 20 = .ok (.sipush 999, 3) := by decide +kernel
theorem d_X3_init_23 : decode cX3_init 23 = .ok (.putfield 21, 3) := by decide +kernel
theorem d_X3_init_26 : decode cX3_init 26 = .ok (.aload_n 0, 1) := by decide +kernel
theorem d_X3_init_27 : decode cX3_init 27 = .ok (.iconst 0, 1) := by decide +kernel
theorem d_X3_init_28 : decode cX3_init 28 = .ok (.putfield 24, 3) := by decide +kernel
theorem d_X3_init_31 : decode cX3_init 31 = .ok (.aload_n 0, 1) := by decide +kernel
theorem d_X3_init_32 : decode cX3_init 32 = .ok (.iconst 0, 1) := by decide +kernel
theorem d_X3_init_33 : decode cX3_init 33 = .ok (.putfield 27, 3) := by decide +kernel
theorem d_X3_init_36 : decode cX3_init 36 = .ok (.aload_n 0, 1) := by decide +kernel
theorem d_X3_init_37 : decode cX3_init 37 = .ok (.iconst 0, 1) := by decide +kernel
theorem d_X3_init_38 : decode cX3_init 38 = .ok (.putfield 30, 3) := by decide +kernel
theorem d_X3_init_41 : decode cX3_init 41 = .ok (.aload_n 0, 1) := by decide +kernel
theorem d_X3_init_42 : decode cX3_init 42 = .ok (.iconst 0, 1) := by decide +kernel
theorem d_X3_init_43 : decode cX3_init 43 = .ok (.putfield 33, 3) := by decide +kernel
theorem d_X3_init_46 : decode cX3_init 46 = .ok (.aload_n 0, 1) := by decide +kernel
theorem d_X3_init_47 : decode cX3_init 47 = .ok (.iconst 0, 1) := by decide +kernel
theorem d_X3_init_48 : decode cX3_init 48 = .ok (.putfield 36, 3) := by decide +kernel
theorem d_X3_init_51 : decode cX3_init 51 = .ok (.aload_n 0, 1) := by decide +kernel
theorem d_X3_init_52 : decode cX3_init 52 = .ok (.iconst 0, 1) := by decide +kernel
theorem d_X3_init_53 : decode cX3_init 53 = .ok (.putfield 39, 3) := by decide +kernel
theorem d_X3_init_56 : decode cX3_init 56 = .ok (.aload_n 0, 1) := by decide +kernel
theorem d_X3_init_57 : decode cX3_init 57 = .ok (.iconst 3, 1) := by decide +kernel
theorem d_X3_init_58 : decode cX3_init 58 = .ok (.newarray .int, 2) := by decide +kernel
theorem d_X3_init_60 : decode cX3_init 60 = .ok (.putfield 42, 3) := by decide +kernel
theorem d_X3_init_63 : decode cX3_init 63 = .ok (.aload_n 0, 1) := by decide +kernel
theorem d_X3_init_64 : decode cX3_init 64 = .ok (.iconst 3, 1) := by decide +kernel
theorem d_X3_init_65 : decode cX3_init 65 = .ok (.newarray .int, 2) := by decide +kernel
theorem d_X3_init_67 : decode cX3_init 67 = .ok (.putfield 46, 3) := by decide +kernel
theorem d_X3_init_70 : decode cX3_init 70 = .ok (.aload_n 0, 1) := by decide +kernel
theorem d_X3_init_71 : decode cX3_init 71 = .ok (.sipush 240, 3) := by decide +kernel
theorem d_X3_init_74 : decode cX3_init 74 = .ok (.newarray .int, 2) := by decide +kernel
theorem d_X3_init_76 : decode cX3_init 76 = .ok (.putfield 49, 3) := by decide +kernel
theorem d_X3_init_79 : decode cX3_init 79 = .ok (.aload_n 0, 1) := by decide +kernel
theorem d_X3_init_80 : decode cX3_init 80 = .ok (.sipush 240, 3) := by decide +kernel
theorem d_X3_init_83 : decode cX3_init 83 = .ok (.newarray .int, 2) := by decide +kernel
theorem d_X3_init_85 : decode cX3_init 85 = .ok (.putfield 52, 3) := by decide +kernel
theorem d_X3_init_88 : decode cX3_init 88 = .ok (.aload_n 0, 1) := by decide +kernel
theorem d_X3_init_89 : decode cX3_init 89 = .ok (.bipush 24, 2) := by decide +kernel
theorem d_X3_init_91 : decode cX3_init 91 = .ok (.newarray .int, 2) := by decide +kernel
theorem d_X3_init_93 : decode cX3_init 93 = .ok (.putfield 55, 3) := by decide +kernel
theorem d_X3_init_96 : decode cX3_init 96 = .ok (.aload_n 0, 1) := by decide +kernel
theorem d_X3_init_97 : decode cX3_init 97 = .ok (.bipush 12, 2) := by decide +kernel
theorem d_X3_init_99 : decode cX3_init 99 = .ok (.newarray .int, 2) := by decide +kernel
theorem d_X3_init_101 : decode cX3_init 101 = .ok (.putfield 58, 3) := by decide +kernel
theorem d_X3_init_104 : decode cX3_init 104 = .ok (.aload_n 0, 1) := by decide +kernel
theorem d_X3_init_105 : decode cX3_init 105 = .ok (.sipush 561, 3) := by decide +kernel
theorem d_X3_init_108 : decode cX3_init 108 = .ok (.newarray .int, 2) := by decide +kernel
theorem d_X3_init_110 : decode cX3_init 110 = .ok (.putfield 61, 3) := by decide +kernel
theorem d_X3_init_113 : decode cX3_init 113 = .ok (.return_, 1) := by decide +kernel
abbrev rm_X3_init : Room := { frames := 1, cells := 7, slots := 1083, locals := 12 }
theorem d_X1_init_0 : decode cX1_init 0 = .ok (.aload_n 0, 1) := by decide +kernel
theorem d_X1_init_1 : decode cX1_init 1 = .ok (.invokespecial 3, 3) := by decide +kernel
theorem d_X1_init_4 : decode cX1_init 4 = .ok (.aload_n 0, 1) := by decide +kernel
theorem d_X1_init_5 : decode cX1_init 5 = .ok (.bipush 61, 2) := by decide +kernel
theorem d_X1_init_7 : decode cX1_init 7 = .ok (.sipush 240, 3) := by decide +kernel
theorem d_X1_init_10 : decode cX1_init 10 = .ok (.multianewarray 9 2, 4) := by decide +kernel
theorem d_X1_init_14 : decode cX1_init 14 = .ok (.putfield 11, 3) := by decide +kernel
theorem d_X1_init_17 : decode cX1_init 17 = .ok (.aload_n 0, 1) := by decide +kernel
theorem d_X1_init_18 : decode cX1_init 18 = .ok (.bipush 60, 2) := by decide +kernel
theorem d_X1_init_20 : decode cX1_init 20 = .ok (.newarray .int, 2) := by decide +kernel
theorem d_X1_init_22 : decode cX1_init 22 = .ok (.putfield 16, 3) := by decide +kernel
theorem d_X1_init_25 : decode cX1_init 25 = .ok (.aload_n 0, 1) := by decide +kernel
theorem d_X1_init_26 : decode cX1_init 26 = .ok (.iconst 0, 1) := by decide +kernel
theorem d_X1_init_27 : decode cX1_init 27 = .ok (.putfield 20, 3) := by decide +kernel
theorem d_X1_init_30 : decode cX1_init 30 = .ok (.aload_n 0, 1) := by decide +kernel
theorem d_X1_init_31 : decode cX1_init 31 = .ok (.iconst 0, 1) := by decide +kernel
theorem d_X1_init_32 : decode cX1_init 32 = .ok (.putfield 24, 3) := by decide +kernel
theorem d_X1_init_35 : decode cX1_init 35 = .ok (.return_, 1) := by decide +kernel
abbrev rm_X1_init : Room := { frames := 1, cells := 63, slots := 14761, locals := 12 }
theorem d_X2_init_0 : decode cX2_init 0 = .ok (.aload_n 0, 1) := by decide +kernel
theorem d_X2_init_1 : decode cX2_init 1 = .ok (.invokespecial 3, 3) := by decide +kernel
theorem d_X2_init_4 : decode cX2_init 4 = .ok (.aload_n 0, 1) := by decide +kernel
theorem d_X2_init_5 : decode cX2_init 5 = .ok (.iconst 0, 1) := by decide +kernel
theorem d_X2_init_6 : decode cX2_init 6 = .ok (.putfield 9, 3) := by decide +kernel
theorem d_X2_init_9 : decode cX2_init 9 = .ok (.aload_n 0, 1) := by decide +kernel
theorem d_X2_init_10 : decode cX2_init 10 = .ok (.iconst 0, 1) := by decide +kernel
theorem d_X2_init_11 : decode cX2_init 11 = .ok (.putfield 15, 3) := by decide +kernel
theorem d_X2_init_14 : decode cX2_init 14 = .ok (.aload_n 0, 1) := by decide +kernel
theorem d_X2_init_15 : decode cX2_init 15 = .ok (.iconst 0, 1) := by decide +kernel
theorem d_X2_init_16 : decode cX2_init 16 = .ok (.putfield 18, 3) := by decide +kernel
theorem d_X2_init_19 : decode cX2_init 19 = .ok (.aload_n 0, 1) := by decide +kernel
theorem d_X2_init_20 : decode cX2_init 20 = .ok (.iconst 0, 1) := by decide +kernel
theorem d_X2_init_21 : decode cX2_init 21 = .ok (.putfield 21, 3) := by decide +kernel
theorem d_X2_init_24 : decode cX2_init 24 = .ok (.aload_n 0, 1) := by decide +kernel
theorem d_X2_init_25 : decode cX2_init 25 = .ok (.iconst 0, 1) := by decide +kernel
theorem d_X2_init_26 : decode cX2_init 26 = .ok (.putfield 24, 3) := by decide +kernel
theorem d_X2_init_29 : decode cX2_init 29 = .ok (.aload_n 0, 1) := by decide +kernel
theorem d_X2_init_30 : decode cX2_init 30 = .ok (.iconst 0, 1) := by decide +kernel
theorem d_X2_init_31 : decode cX2_init 31 = .ok (.putfield 27, 3) := by decide +kernel
theorem d_X2_init_34 : decode cX2_init 34 = .ok (.aload_n 0, 1) := by decide +kernel
theorem d_X2_init_35 : decode cX2_init 35 = .ok (.iconst 0, 1) := by decide +kernel
theorem d_X2_init_36 : decode cX2_init 36 = .ok (.putfield 30, 3) := by decide +kernel
theorem d_X2_init_39 : decode cX2_init 39 = .ok (.aload_n 0, 1) := by decide +kernel
theorem d_X2_init_40 : decode cX2_init 40 = .ok (.iconst 0, 1) := by decide +kernel
theorem d_X2_init_41 : decode cX2_init 41 = .ok (.putfield 33, 3) := by decide +kernel
theorem d_X2_init_44 : decode cX2_init 44 = .ok (.aload_n 0, 1) := by decide +kernel
theorem d_X2_init_45 : decode cX2_init 45 = .ok (.iconst (-1), 1) := by decide +kernel
theorem d_X2_init_46 : decode cX2_init 46 = .ok (.putfield 36, 3) := by decide +kernel
theorem d_X2_init_49 : decode cX2_init 49 = .ok (.aload_n 0, 1) := by decide +kernel
theorem d_X2_init_50 : decode cX2_init 50 = .ok (.iconst 0, 1) := by decide +kernel
theorem d_X2_init_51 : decode cX2_init 51 = .ok (.putfield 39, 3) := by decide +kernel
theorem d_X2_init_54 : decode cX2_init 54 = .ok (.aload_n 0, 1) := by decide +kernel
theorem d_X2_init_55 : decode cX2_init 55 = .ok (.iconst 0, 1) := by decide +kernel
theorem d_X2_init_56 : decode cX2_init 56 = .ok (.putfield 43, 3) := by decide +kernel
theorem d_X2_init_59 : decode cX2_init 59 = .ok (.aload_n 0, 1) := by decide +kernel
theorem d_X2_init_60 : decode cX2_init 60 = .ok (.iconst 0, 1) := by decide +kernel
theorem d_X2_init_61 : decode cX2_init 61 = .ok (.putfield 46, 3) := by decide +kernel
theorem d_X2_init_64 : decode cX2_init 64 = .ok (.aload_n 0, 1) := by decide +kernel
theorem d_X2_init_65 : decode cX2_init 65 = .ok (.iconst 0, 1) := by decide +kernel
theorem d_X2_init_66 : decode cX2_init 66 = .ok (.putfield 49, 3) := by decide +kernel
theorem d_X2_init_69 : decode cX2_init 69 = .ok (.aload_n 0, 1) := by decide +kernel
theorem d_X2_init_70 : decode cX2_init 70 = .ok (.aload_n 1, 1) := by decide +kernel
theorem d_X2_init_71 : decode cX2_init 71 = .ok (.putfield 52, 3) := by decide +kernel
theorem d_X2_init_74 : decode cX2_init 74 = .ok (.aload_n 0, 1) := by decide +kernel
theorem d_X2_init_75 : decode cX2_init 75 = .ok (.aload_n 2, 1) := by decide +kernel
theorem d_X2_init_76 : decode cX2_init 76 = .ok (.putfield 56, 3) := by decide +kernel
theorem d_X2_init_79 : decode cX2_init 79 = .ok (.return_, 1) := by decide +kernel
abbrev rm_X2_init : Room := { frames := 1, cells := 0, slots := 0, locals := 12 }
theorem d_X0_init_0 : decode cX0_init 0 = .ok (.aload_n 0, 1) := by decide +kernel
theorem d_X0_init_1 : decode cX0_init 1 = .ok (.invokespecial 3, 3) := by decide +kernel
theorem d_X0_init_4 : decode cX0_init 4 = .ok (.aload_n 0, 1) := by decide +kernel
theorem d_X0_init_5 : decode cX0_init 5 = .ok (.bipush 61, 2) := by decide +kernel
theorem d_X0_init_7 : decode cX0_init 7 = .ok (.newarray .int, 2) := by decide +kernel
theorem d_X0_init_9 : decode cX0_init 9 = .ok (.putfield 9, 3) := by decide +kernel
theorem d_X0_init_12 : decode cX0_init 12 = .ok (.aload_n 0, 1) := by decide +kernel
theorem d_X0_init_13 : decode cX0_init 13 = .ok (.bipush 61, 2) := by decide +kernel
theorem d_X0_init_15 : decode cX0_init 15 = .ok (.newarray .int, 2) := by decide +kernel
theorem d_X0_init_17 : decode cX0_init 17 = .ok (.putfield 15, 3) := by decide +kernel
theorem d_X0_init_20 : decode cX0_init 20 = .ok (.aload_n 0, 1) := by decide +kernel
theorem d_X0_init_21 : decode cX0_init 21 = .ok (.sipush 2160, 3) := by decide +kernel
theorem d_X0_init_24 : decode cX0_init 24 = .ok (.newarray .int, 2) := by decide +kernel
theorem d_X0_init_26 : decode cX0_init 26 = .ok (.putfield 18, 3) := by decide +kernel
theorem d_X0_init_29 : decode cX0_init 29 = .ok (.aload_n 0, 1) := by decide +kernel
theorem d_X0_init_30 : decode cX0_init 30 = .ok (.sipush 540, 3) := by decide +kernel
theorem d_X0_init_33 : decode cX0_init 33 = .ok (.newarray .int, 2) := by decide +kernel
theorem d_X0_init_35 : decode cX0_init 35 = .ok (.putfield 21, 3) := by decide +kernel
theorem d_X0_init_38 : decode cX0_init 38 = .ok (.aload_n 0, 1) := by decide +kernel
theorem d_X0_init_39 : decode cX0_init 39 = .ok (.iconst 3, 1) := by decide +kernel
theorem d_X0_init_40 : decode cX0_init 40 = .ok (.anewarray 24, 3) := by decide +kernel
theorem d_X0_init_43 : decode cX0_init 43 = .ok (.putfield 26, 3) := by decide +kernel
theorem d_X0_init_46 : decode cX0_init 46 = .ok (.aload_n 0, 1) := by decide +kernel
theorem d_X0_init_47 : decode cX0_init 47 = .ok (.bipush 61, 2) := by decide +kernel
theorem d_X0_init_49 : decode cX0_init 49 = .ok (.sipush 240, 3) := by decide +kernel
theorem d_X0_init_52 : decode cX0_init 52 = .ok (.multianewarray 30 2, 4) := by decide +kernel
theorem d_X0_init_56 : decode cX0_init 56 = .ok (.putfield 32, 3) := by decide +kernel
theorem d_X0_init_59 : decode cX0_init 59 = .ok (.aload_n 0, 1) := by decide +kernel
theorem d_X0_init_60 : decode cX0_init 60 = .ok (.iconst 2, 1) := by decide +kernel
theorem d_X0_init_61 : decode cX0_init 61 = .ok (.sipush 240, 3) := by decide +kernel
theorem d_X0_init_64 : decode cX0_init 64 = .ok (.multianewarray 30 2, 4) := by decide +kernel
theorem d_X0_init_68 : decode cX0_init 68 = .ok (.putfield 35, 3) := by decide +kernel
theorem d_X0_init_71 : decode cX0_init 71 = .ok (.aload_n 0, 1) := by decide +kernel
theorem d_X0_init_72 : decode cX0_init 72 = .ok (.iconst 0, 1) := by decide +kernel
theorem d_X0_init_73 : decode cX0_init 73 = .ok (.putfield 38, 3) := by decide +kernel
theorem d_X0_init_76 : decode cX0_init 76 = .ok (.aload_n 0, 1) := by decide +kernel
theorem d_X0_init_77 : decode cX0_init 77 = .ok (.iconst 0, 1) := by decide +kernel
theorem d_X0_init_78 : decode cX0_init 78 = .ok (.putfield 42, 3) := by decide +kernel
theorem d_X0_init_81 : decode cX0_init 81 = .ok (.aload_n 0, 1) := by decide +kernel
theorem d_X0_init_82 : decode cX0_init 82 = .ok (.aload_n 1, 1) := by decide +kernel
theorem d_X0_init_83 : decode cX0_init 83 = .ok (.putfield 46, 3) := by decide +kernel
theorem d_X0_init_86 : decode cX0_init 86 = .ok (.iconst 0, 1) := by decide +kernel
theorem d_X0_init_87 : decode cX0_init 87 = .ok (.istore_n 2, 1) := by decide +kernel
theorem d_X0_init_88 : decode cX0_init 88 = .ok (.iload_n 2, 1) := by decide +kernel
theorem d_X0_init_89 : decode cX0_init 89 = .ok (.aload_n 0, 1) := by decide +kernel
theorem d_X0_init_90 : decode cX0_init 90 = .ok (.getfield 26, 3) := by decide +kernel
theorem d_X0_init_93 : decode cX0_init 93 = .ok (.arraylength, 1) := by decide +kernel
theorem d_X0_init_94 : decode cX0_init 94 = .ok (.if_icmp .ge 22, 3) := by decide +kernel
theorem d_X0_init_97 : decode cX0_init 97 = .ok (.aload_n 0, 1) := by decide +kernel
theorem d_X0_init_98 : decode cX0_init 98 = .ok (.getfield 26, 3) := by decide +kernel
theorem d_X0_init_101 : decode cX0_init 101 = .ok (.iload_n 2, 1) := by decide +kernel
theorem d_X0_init_102 : decode cX0_init 102 = .ok (.new 24, 3) := by decide +kernel
theorem d_X0_init_105 : decode cX0_init 105 = .ok (.dup, 1) := by decide +kernel
theorem d_X0_init_106 : decode cX0_init 106 = .ok (.invokespecial 50, 3) := by decide +kernel
theorem d_X0_init_109 : decode cX0_init 109 = .ok (.aastore, 1) := by decide +kernel
theorem d_X0_init_110 : decode cX0_init 110 = .ok (.iinc 2 1, 3) := by decide +kernel
theorem d_X0_init_113 : decode cX0_init 113 = .ok (.goto (-25), 3) := by decide +kernel
theorem d_X0_init_116 : decode cX0_init 116 = .ok (.return_, 1) := by decide +kernel
abbrev rm_X0_init : Room := { frames := 2, cells := 262, slots := 62303, locals := 32 }
theorem d_X4_init_0 : decode cX4_init 0 = .ok (.aload_n 0, 1) := by decide +kernel
theorem d_X4_init_1 : decode cX4_init 1 = .ok (.invokespecial 3, 3) := by decide +kernel
theorem d_X4_init_4 : decode cX4_init 4 = .ok (.aload_n 0, 1) := by decide +kernel
theorem d_X4_init_5 : decode cX4_init 5 = .ok (.sipush 400, 3) := by decide +kernel
theorem d_X4_init_8 : decode cX4_init 8 = .ok (.newarray .int, 2) := by decide +kernel
theorem d_X4_init_10 : decode cX4_init 10 = .ok (.putfield 9, 3) := by decide +kernel
theorem d_X4_init_13 : decode cX4_init 13 = .ok (.aload_n 0, 1) := by decide +kernel
theorem d_X4_init_14 : decode cX4_init 14 = .ok (.new 13, 3) := by decide +kernel
theorem d_X4_init_17 : decode cX4_init 17 = .ok (.dup, 1) := by decide +kernel
theorem d_X4_init_18 : decode cX4_init 18 = .ok (.invokespecial 15, 3) := by decide +kernel
theorem d_X4_init_21 : decode cX4_init 21 = .ok (.putfield 16, 3) := by decide +kernel
theorem d_X4_init_24 : decode cX4_init 24 = .ok (.aload_n 0, 1) := by decide +kernel
theorem d_X4_init_25 : decode cX4_init 25 = .ok (.new 13, 3) := by decide +kernel
theorem d_X4_init_28 : decode cX4_init 28 = .ok (.dup, 1) := by decide +kernel
theorem d_X4_init_29 : decode cX4_init 29 = .ok (.invokespecial 15, 3) := by decide +kernel
theorem d_X4_init_32 : decode cX4_init 32 = .ok (.putfield 20, 3) := by decide +kernel
theorem d_X4_init_35 : decode cX4_init 35 = .ok (.aload_n 0, 1) := by decide +kernel
theorem d_X4_init_36 : decode cX4_init 36 = .ok (.new 23, 3) := by decide +kernel
theorem d_X4_init_39 : decode cX4_init 39 = .ok (.dup, 1) := by decide +kernel
theorem d_X4_init_40 : decode cX4_init 40 = .ok (.aload_n 0, 1) := by decide +kernel
theorem d_X4_init_41 : decode cX4_init 41 = .ok (.getfield 9, 3) := by decide +kernel
theorem d_X4_init_44 : decode cX4_init 44 = .ok (.aload_n 0, 1) := by decide +kernel
theorem d_X4_init_45 : decode cX4_init 45 = .ok (.getfield 20, 3) := by decide +kernel
theorem d_X4_init_48 : decode cX4_init 48 = .ok (.invokespecial 25, 3) := by decide +kernel
theorem d_X4_init_51 : decode cX4_init 51 = .ok (.putfield 28, 3) := by decide +kernel
theorem d_X4_init_54 : decode cX4_init 54 = .ok (.aload_n 0, 1) := by decide +kernel
theorem d_X4_init_55 : decode cX4_init 55 = .ok (.new 32, 3) := by decide +kernel
theorem d_X4_init_58 : decode cX4_init 58 = .ok (.dup, 1) := by decide +kernel
theorem d_X4_init_59 : decode cX4_init 59 = .ok (.aload_n 0, 1) := by decide +kernel
theorem d_X4_init_60 : decode cX4_init 60 = .ok (.getfield 16, 3) := by decide +kernel
theorem d_X4_init_63 : decode cX4_init 63 = .ok (.invokespecial 34, 3) := by decide +kernel
theorem d_X4_init_66 : decode cX4_init 66 = .ok (.putfield 37, 3) := by decide +kernel
theorem d_X4_init_69 : decode cX4_init 69 = .ok (.aload_n 0, 1) := by decide +kernel
theorem d_X4_init_70 : decode cX4_init 70 = .ok (.bipush 8, 2) := by decide +kernel
theorem d_X4_init_72 : decode cX4_init 72 = .ok (.anewarray 13, 3) := by decide +kernel
theorem d_X4_init_75 : decode cX4_init 75 = .ok (.putfield 41, 3) := by decide +kernel
theorem d_X4_init_78 : decode cX4_init 78 = .ok (.aload_n 0, 1) := by decide +kernel
theorem d_X4_init_79 : decode cX4_init 79 = .ok (.iconst 0, 1) := by decide +kernel
theorem d_X4_init_80 : decode cX4_init 80 = .ok (.putfield 45, 3) := by decide +kernel
theorem d_X4_init_83 : decode cX4_init 83 = .ok (.aload_n 0, 1) := by decide +kernel
theorem d_X4_init_84 : decode cX4_init 84 = .ok (.iconst (-1), 1) := by decide +kernel
theorem d_X4_init_85 : decode cX4_init 85 = .ok (.putfield 49, 3) := by decide +kernel
theorem d_X4_init_88 : decode cX4_init 88 = .ok (.aload_n 0, 1) := by decide +kernel
theorem d_X4_init_89 : decode cX4_init 89 = .ok (.iconst 0, 1) := by decide +kernel
theorem d_X4_init_90 : decode cX4_init 90 = .ok (.putfield 52, 3) := by decide +kernel
theorem d_X4_init_93 : decode cX4_init 93 = .ok (.aload_n 0, 1) := by decide +kernel
theorem d_X4_init_94 : decode cX4_init 94 = .ok (.iconst 0, 1) := by decide +kernel
theorem d_X4_init_95 : decode cX4_init 95 = .ok (.putfield 55, 3) := by decide +kernel
theorem d_X4_init_98 : decode cX4_init 98 = .ok (.aload_n 0, 1) := by decide +kernel
theorem d_X4_init_99 : decode cX4_init 99 = .ok (.iconst 0, 1) := by decide +kernel
theorem d_X4_init_100 : decode cX4_init 100 = .ok (.putfield 58, 3) := by decide +kernel
theorem d_X4_init_103 : decode cX4_init 103 = .ok (.aload_n 0, 1) := by decide +kernel
theorem d_X4_init_104 : decode cX4_init 104 = .ok (.iconst 0, 1) := by decide +kernel
theorem d_X4_init_105 : decode cX4_init 105 = .ok (.putfield 61, 3) := by decide +kernel
theorem d_X4_init_108 : decode cX4_init 108 = .ok (.aload_n 0, 1) := by decide +kernel
theorem d_X4_init_109 : decode cX4_init 109 = .ok (.iconst 0, 1) := by decide +kernel
theorem d_X4_init_110 : decode cX4_init 110 = .ok (.putfield 64, 3) := by decide +kernel
theorem d_X4_init_113 : decode cX4_init 113 = .ok (.iconst 0, 1) := by decide +kernel
theorem d_X4_init_114 : decode cX4_init 114 = .ok (.istore_n 1, 1) := by decide +kernel
theorem d_X4_init_115 : decode cX4_init 115 = .ok (.iload_n 1, 1) := by decide +kernel
theorem d_X4_init_116 : decode cX4_init 116 = .ok (.aload_n 0, 1) := by decide +kernel
theorem d_X4_init_117 : decode cX4_init 117 = .ok (.getfield 41, 3) := by decide +kernel
theorem d_X4_init_120 : decode cX4_init 120 = .ok (.arraylength, 1) := by decide +kernel
theorem d_X4_init_121 : decode cX4_init 121 = .ok (.if_icmp .ge 22, 3) := by decide +kernel
theorem d_X4_init_124 : decode cX4_init 124 = .ok (.aload_n 0, 1) := by decide +kernel
theorem d_X4_init_125 : decode cX4_init 125 = .ok (.getfield 41, 3) := by decide +kernel
theorem d_X4_init_128 : decode cX4_init 128 = .ok (.iload_n 1, 1) := by decide +kernel
theorem d_X4_init_129 : decode cX4_init 129 = .ok (.new 13, 3) := by decide +kernel
theorem d_X4_init_132 : decode cX4_init 132 = .ok (.dup, 1) := by decide +kernel
theorem d_X4_init_133 : decode cX4_init 133 = .ok (.invokespecial 15, 3) := by decide +kernel
theorem d_X4_init_136 : decode cX4_init 136 = .ok (.aastore, 1) := by decide +kernel
theorem d_X4_init_137 : decode cX4_init 137 = .ok (.iinc 1 1, 3) := by decide +kernel
theorem d_X4_init_140 : decode cX4_init 140 = .ok (.goto (-25), 3) := by decide +kernel
theorem d_X4_init_143 : decode cX4_init 143 = .ok (.aload_n 0, 1) := by decide +kernel
theorem d_X4_init_144 : decode cX4_init 144 = .ok (.getfield 16, 3) := by decide +kernel
theorem d_X4_init_147 : decode cX4_init 147 = .ok (.invokevirtual 67, 3) := by decide +kernel
theorem d_X4_init_150 : decode cX4_init 150 = .ok (.return_, 1) := by decide +kernel
abbrev rm_X4_init : Room := { frames := 3, cells := 346, slots := 73736, locals := 64 }
theorem d_X5_init_0 : decode cX5_init 0 = .ok (.aload_n 0, 1) := by decide +kernel
theorem d_X5_init_1 : decode cX5_init 1 = .ok (.invokespecial 3, 3) := by decide +kernel
theorem d_X5_init_4 : decode cX5_init 4 = .ok (.aload_n 0, 1) := by decide +kernel
theorem d_X5_init_5 : decode cX5_init 5 = .ok (.iconst 3, 1) := by decide +kernel
theorem d_X5_init_6 : decode cX5_init 6 = .ok (.newarray .int, 2) := by decide +kernel
theorem d_X5_init_8 : decode cX5_init 8 = .ok (.putfield 9, 3) := by decide +kernel
theorem d_X5_init_11 : decode cX5_init 11 = .ok (.aload_n 0, 1) := by decide +kernel
theorem d_X5_init_12 : decode cX5_init 12 = .ok (.iconst (-1), 1) := by decide +kernel
theorem d_X5_init_13 : decode cX5_init 13 = .ok (.putfield 13, 3) := by decide +kernel
theorem d_X5_init_16 : decode cX5_init 16 = .ok (.aload_n 0, 1) := by decide +kernel
theorem d_X5_init_17 : decode cX5_init 17 = .ok (.sipush 400, 3) := by decide +kernel
theorem d_X5_init_20 : decode cX5_init 20 = .ok (.newarray .int, 2) := by decide +kernel
theorem d_X5_init_22 : decode cX5_init 22 = .ok (.putfield 17, 3) := by decide +kernel
theorem d_X5_init_25 : decode cX5_init 25 = .ok (.aload_n 0, 1) := by decide +kernel
theorem d_X5_init_26 : decode cX5_init 26 = .ok (.sipush 1098, 3) := by decide +kernel
theorem d_X5_init_29 : decode cX5_init 29 = .ok (.newarray .int, 2) := by decide +kernel
theorem d_X5_init_31 : decode cX5_init 31 = .ok (.putfield 20, 3) := by decide +kernel
theorem d_X5_init_34 : decode cX5_init 34 = .ok (.aload_n 0, 1) := by decide +kernel
theorem d_X5_init_35 : decode cX5_init 35 = .ok (.sipush 1098, 3) := by decide +kernel
theorem d_X5_init_38 : decode cX5_init 38 = .ok (.newarray .int, 2) := by decide +kernel
theorem d_X5_init_40 : decode cX5_init 40 = .ok (.putfield 23, 3) := by decide +kernel
theorem d_X5_init_43 : decode cX5_init 43 = .ok (.aload_n 0, 1) := by decide +kernel
theorem d_X5_init_44 : decode cX5_init 44 = .ok (.bipush 8, 2) := by decide +kernel
theorem d_X5_init_46 : decode cX5_init 46 = .ok (.sipush 1098, 3) := by decide +kernel
theorem d_X5_init_49 : decode cX5_init 49 = .ok (.multianewarray 26 2, 4) := by decide +kernel
theorem d_X5_init_53 : decode cX5_init 53 = .ok (.putfield 28, 3) := by decide +kernel
theorem d_X5_init_56 : decode cX5_init 56 = .ok (.aload_n 0, 1) := by decide +kernel
theorem d_X5_init_57 : decode cX5_init 57 = .ok (.bipush 61, 2) := by decide +kernel
theorem d_X5_init_59 : decode cX5_init 59 = .ok (.newarray .int, 2) := by decide +kernel
theorem d_X5_init_61 : decode cX5_init 61 = .ok (.putfield 31, 3) := by decide +kernel
theorem d_X5_init_64 : decode cX5_init 64 = .ok (.aload_n 0, 1) := by decide +kernel
theorem d_X5_init_65 : decode cX5_init 65 = .ok (.bipush 61, 2) := by decide +kernel
theorem d_X5_init_67 : decode cX5_init 67 = .ok (.newarray .int, 2) := by decide +kernel
theorem d_X5_init_69 : decode cX5_init 69 = .ok (.putfield 34, 3) := by decide +kernel
theorem d_X5_init_72 : decode cX5_init 72 = .ok (.aload_n 0, 1) := by decide +kernel
theorem d_X5_init_73 : decode cX5_init 73 = .ok (.bipush 61, 2) := by decide +kernel
theorem d_X5_init_75 : decode cX5_init 75 = .ok (.sipush 240, 3) := by decide +kernel
theorem d_X5_init_78 : decode cX5_init 78 = .ok (.multianewarray 26 2, 4) := by decide +kernel
theorem d_X5_init_82 : decode cX5_init 82 = .ok (.putfield 37, 3) := by decide +kernel
theorem d_X5_init_85 : decode cX5_init 85 = .ok (.aload_n 0, 1) := by decide +kernel
theorem d_X5_init_86 : decode cX5_init 86 = .ok (.bipush 61, 2) := by decide +kernel
theorem d_X5_init_88 : decode cX5_init 88 = .ok (.sipush 240, 3) := by decide +kernel
theorem d_X5_init_91 : decode cX5_init 91 = .ok (.multianewarray 26 2, 4) := by decide +kernel
theorem d_X5_init_95 : decode cX5_init 95 = .ok (.putfield 40, 3) := by decide +kernel
theorem d_X5_init_98 : decode cX5_init 98 = .ok (.aload_n 0, 1) := by decide +kernel
theorem d_X5_init_99 : decode cX5_init 99 = .ok (.bipush 61, 2) := by decide +kernel
theorem d_X5_init_101 : decode cX5_init 101 = .ok (.sipush 240, 3) := by decide +kernel
theorem d_X5_init_104 : decode cX5_init 104 = .ok (.multianewarray 26 2, 4) := by decide +kernel
theorem d_X5_init_108 : decode cX5_init 108 = .ok (.putfield 43, 3) := by decide +kernel
theorem d_X5_init_111 : decode cX5_init 111 = .ok (.aload_n 0, 1) := by decide +kernel
theorem d_X5_init_112 : decode cX5_init 112 = .ok (.getfield 20, 3) := by decide +kernel
theorem d_X5_init_115 : decode cX5_init 115 = .ok (.invokestatic 46, 3) := by decide +kernel
theorem d_X5_init_118 : decode cX5_init 118 = .ok (.aload_n 0, 1) := by decide +kernel
theorem d_X5_init_119 : decode cX5_init 119 = .ok (.getfield 20, 3) := by decide +kernel
theorem d_X5_init_122 : decode cX5_init 122 = .ok (.iconst 0, 1) := by decide +kernel
theorem d_X5_init_123 : decode cX5_init 123 = .ok (.iconst 3, 1) := by decide +kernel
theorem d_X5_init_124 : decode cX5_init 124 = .ok (.iastore, 1) := by decide +kernel
theorem d_X5_init_125 : decode cX5_init 125 = .ok (.aload_n 0, 1) := by decide +kernel
theorem d_X5_init_126 : decode cX5_init 126 = .ok (.getfield 20, 3) := by decide +kernel
theorem d_X5_init_129 : decode cX5_init 129 = .ok (.iconst 1, 1) := by decide +kernel
theorem d_X5_init_130 : decode cX5_init 130 = .ok (.iconst 3, 1) := by decide +kernel
theorem d_X5_init_131 : decode cX5_init 131 = .ok (.iastore, 1) := by decide +kernel
theorem d_X5_init_132 : decode cX5_init 132 = .ok (.aload_n 0, 1) := by decide +kernel
theorem d_X5_init_133 : decode cX5_init 133 = .ok (.getfield 20, 3) := by decide +kernel
theorem d_X5_init_136 : decode cX5_init 136 = .ok (.iconst 3, 1) := by decide +kernel
theorem d_X5_init_137 : decode cX5_init 137 = .ok (.iconst 1, 1) := by decide +kernel
theorem d_X5_init_138 : decode cX5_init 138 = .ok (.iastore, 1) := by decide +kernel
theorem d_X5_init_139 : decode cX5_init 139 = .ok (.aload_n 0, 1) := by decide +kernel
theorem d_X5_init_140 : decode cX5_init 140 = .ok (.getfield 20, 3) := by decide +kernel
theorem d_X5_init_143 : decode cX5_init 143 = .ok (.bipush 8, 2) := by decide +kernel
theorem d_X5_init_145 : decode cX5_init 145 = .ok (.iconst 1, 1) := by decide +kernel
theorem d_X5_init_146 : decode cX5_init 146 = .ok (.iastore, 1) := by decide +kernel
theorem d_X5_init_147 : decode cX5_init 147 = .ok (.aload_n 0, 1) := by decide +kernel
theorem d_X5_init_148 : decode cX5_init 148 = .ok (.getfield 20, 3) := by decide +kernel
theorem d_X5_init_151 : decode cX5_init 151 = .ok (.bipush 9, 2) := by decide +kernel
theorem d_X5_init_153 : decode cX5_init 153 = .ok (.iconst 1, 1) := by decide +kernel
theorem d_X5_init_154 : decode cX5_init 154 = .ok (.iastore, 1) := by decide +kernel
theorem d_X5_init_155 : decode cX5_init 155 = .ok (.aload_n 0, 1) := by decide +kernel
theorem d_X5_init_156 : decode cX5_init 156 = .ok (.getfield 20, 3) := by decide +kernel
theorem d_X5_init_159 : decode cX5_init 159 = .ok (.sipush 1089, 3) := by decide +kernel
theorem d_X5_init_162 : decode cX5_init 162 = .ok (.iconst 2, 1) := by decide +kernel
theorem d_X5_init_163 : decode cX5_init 163 = .ok (.iastore, 1) := by decide +kernel
theorem d_X5_init_164 : decode cX5_init 164 = .ok (.aload_n 0, 1) := by decide +kernel
theorem d_X5_init_165 : decode cX5_init 165 = .ok (.getfield 20, 3) := by decide +kernel
theorem d_X5_init_168 : decode cX5_init 168 = .ok (.sipush 1090, 3) := by decide +kernel
theorem d_X5_init_171 : decode cX5_init 171 = .ok (.iconst 2, 1) := by decide +kernel
theorem d_X5_init_172 : decode cX5_init 172 = .ok (.iastore, 1) := by decide +kernel
theorem d_X5_init_173 : decode cX5_init 173 = .ok (.aload_n 0, 1) := by decide +kernel
theorem d_X5_init_174 : decode cX5_init 174 = .ok (.getfield 20, 3) := by decide +kernel
theorem d_X5_init_177 : decode cX5_init 177 = .ok (.sipush 1091, 3) := by decide +kernel
theorem d_X5_init_180 : decode cX5_init 180 = .ok (.bipush 10, 2) := by decide +kernel
theorem d_X5_init_182 : decode cX5_init 182 = .ok (.iastore, 1) := by decide +kernel
theorem d_X5_init_183 : decode cX5_init 183 = .ok (.return_, 1) := by decide +kernel
abbrev rm_X5_init : Room := { frames := 1, cells := 201, slots := 55616, locals := 21 }
set_option maxHeartbeats 4000000 in
set_option maxRecDepth 20000 in
theorem w_X3_init (l : Launch) (b : Wy) {v0 : Nat} (hv0 : IsW v0) (op : Ops) : CtO l (wC b) yX3_init cX3_init 1 rm_X3_init [.ref (wB (wC b) + v0)] ((v0, (fun j => defaultValue (tY 3 j))) :: op) (v0 + 1) op (v0 + 8) := by
  refine CtO.of (own := RX3) (by decide +kernel) rfl rfl (Nat.le_of_ble_eq_true rfl) (fun x hx o hnm => ?_)
  subst hx
  show JO x (wC b) (FinO x (wC b) op (v0 + 8) (rm_X3_init.cells, rm_X3_init.slots)) 0 [(0, .ref (wB (wC b) + v0))] [] (0, 0) ((v0, (fun j => defaultValue (tY 3 j))) :: op) (v0 + 1)
  refine JO_aload_n o 0 d_X3_init_0 rfl ?_
  refine JO_objInit o oi_RX3 oi_i oi_c ⟨Nat.le_of_ble_eq_true rfl, Nat.le_of_ble_eq_true rfl⟩ d_X3_init_1 ?_
  refine JO_aload_n o 0 d_X3_init_4 rfl ?_
  refine JO_iconst (v := 3) o d_X3_init_5 (by decide) ?_
  refine JO_put (op1 := (v0, (updV (fun j => defaultValue (tY 3 j)) 0 (.int 3))) :: op) o 0 fl_RX3_9 la_3 (W_kd hv0) rfl rfl (by rfl) (by rfl) rfl d_X3_init_6 ?_
  refine JO_aload_n o 0 d_X3_init_9 rfl ?_
  refine JO_iconst (v := 3) o d_X3_init_10 (by decide) ?_
  refine JO_put (op1 := (v0, (updV (updV (fun j => defaultValue (tY 3 j)) 0 (.int 3)) 1 (.int 3))) :: op) o 0 fl_RX3_15 la_3 (W_kd hv0) rfl rfl (by rfl) (by rfl) rfl d_X3_init_11 ?_
  refine JO_aload_n o 0 d_X3_init_14 rfl ?_
  refine JO_iconst (v := 0) o d_X3_init_15 (by decide) ?_
  refine JO_put (op1 := (v0, (updV (updV (updV (fun j => defaultValue (tY 3 j)) 0 (.int 3)) 1 (.int 3)) 2 (.int 0))) :: op) o 0 fl_RX3_18 la_3 (W_kd hv0) rfl rfl (by rfl) (by rfl) rfl d_X3_init_16 ?_
  refine JO_aload_n o 0 d_X3_init_19 rfl ?_
  refine JO_sipush (v := 999) o d_X3_init_20 (by decide) ?_
  refine JO_put (op1 := (v0, (updV (updV (updV (updV (fun j => defaultValue (tY 3 j)) 0 (.int 3)) 1 (.int 3)) 2 (.int 0)) 3 (.int 999))) :: op) o 0 fl_RX3_21 la_3 (W_kd hv0) rfl rfl (by rfl) (by rfl) rfl d_X3_init_23 ?_
  refine JO_aload_n o 0 d_X3_init_26 rfl ?_
  refine JO_iconst (v := 0) o d_X3_init_27 (by decide) ?_
  refine JO_put (op1 := (v0, (updV (updV (updV (updV (updV (fun j => defaultValue (tY 3 j)) 0 (.int 3)) 1 (.int 3)) 2 (.int 0)) 3 (.int 999)) 4 (.int 0))) :: op) o 0 fl_RX3_24 la_3 (W_kd hv0) rfl rfl (by rfl) (by rfl) rfl d_X3_init_28 ?_
  refine JO_aload_n o 0 d_X3_init_31 rfl ?_
  refine JO_iconst (v := 0) o d_X3_init_32 (by decide) ?_
  refine JO_put (op1 := (v0, (updV (updV (updV (updV (updV (updV (fun j => defaultValue (tY 3 j)) 0 (.int 3)) 1 (.int 3)) 2 (.int 0)) 3 (.int 999)) 4 (.int 0)) 5 (.int 0))) :: op) o 0 fl_RX3_27 la_3 (W_kd hv0) rfl rfl (by rfl) (by rfl) rfl d_X3_init_33 ?_
  refine JO_aload_n o 0 d_X3_init_36 rfl ?_
  refine JO_iconst (v := 0) o d_X3_init_37 (by decide) ?_
  refine JO_put (op1 := (v0, (updV (updV (updV (updV (updV (updV (updV (fun j => defaultValue (tY 3 j)) 0 (.int 3)) 1 (.int 3)) 2 (.int 0)) 3 (.int 999)) 4 (.int 0)) 5 (.int 0)) 6 (.int 0))) :: op) o 0 fl_RX3_30 la_3 (W_kd hv0) rfl rfl (by rfl) (by rfl) rfl d_X3_init_38 ?_
  refine JO_aload_n o 0 d_X3_init_41 rfl ?_
  refine JO_iconst (v := 0) o d_X3_init_42 (by decide) ?_
  refine JO_put (op1 := (v0, (updV (updV (updV (updV (updV (updV (updV (updV (fun j => defaultValue (tY 3 j)) 0 (.int 3)) 1 (.int 3)) 2 (.int 0)) 3 (.int 999)) 4 (.int 0)) 5 (.int 0)) 6 (.int 0)) 7 (.int 0))) :: op) o 0 fl_RX3_33 la_3 (W_kd hv0) rfl rfl (by rfl) (by rfl) rfl d_X3_init_43 ?_
  refine JO_aload_n o 0 d_X3_init_46 rfl ?_
  refine JO_iconst (v := 0) o d_X3_init_47 (by decide) ?_
  refine JO_put (op1 := (v0, (updV (updV (updV (updV (updV (updV (updV (updV (updV (fun j => defaultValue (tY 3 j)) 0 (.int 3)) 1 (.int 3)) 2 (.int 0)) 3 (.int 999)) 4 (.int 0)) 5 (.int 0)) 6 (.int 0)) 7 (.int 0)) 8 (.int 0))) :: op) o 0 fl_RX3_36 la_3 (W_kd hv0) rfl rfl (by rfl) (by rfl) rfl d_X3_init_48 ?_
  refine JO_aload_n o 0 d_X3_init_51 rfl ?_
  refine JO_iconst (v := 0) o d_X3_init_52 (by decide) ?_
  refine JO_put (op1 := (v0, (updV (updV (updV (updV (updV (updV (updV (updV (updV (updV (fun j => defaultValue (tY 3 j)) 0 (.int 3)) 1 (.int 3)) 2 (.int 0)) 3 (.int 999)) 4 (.int 0)) 5 (.int 0)) 6 (.int 0)) 7 (.int 0)) 8 (.int 0)) 9 (.int 0))) :: op) o 0 fl_RX3_39 la_3 (W_kd hv0) rfl rfl (by rfl) (by rfl) rfl d_X3_init_53 ?_
  refine JO_aload_n o 0 d_X3_init_56 rfl ?_
  refine JO_iconst (v := 3) o d_X3_init_57 (by decide) ?_
  refine JO_newI (n1 := (v0 + 2)) o (W_k1 hv0).1 (W_L1 hv0) ac_int (by decide) (by decide) (by decide) ⟨Nat.le_of_ble_eq_true rfl, Nat.le_of_ble_eq_true rfl⟩ rfl d_X3_init_58 ?_
  refine JO_putF (op1 := (v0, (updV (updV (updV (updV (updV (updV (updV (updV (updV (updV (updV (fun j => defaultValue (tY 3 j)) 0 (.int 3)) 1 (.int 3)) 2 (.int 0)) 3 (.int 999)) 4 (.int 0)) 5 (.int 0)) 6 (.int 0)) 7 (.int 0)) 8 (.int 0)) 9 (.int 0)) 10 (.ref (wB (wC b) + (v0 + 1))))) :: op) o hnm 0 fl_RX3_42 la_3 (W_kd hv0) rfl rfl rfl (by rfl) (by rfl) rfl d_X3_init_60 ?_
  refine JO_aload_n o 0 d_X3_init_63 rfl ?_
  refine JO_iconst (v := 3) o d_X3_init_64 (by decide) ?_
  refine JO_newI (n1 := (v0 + 3)) o (W_k2 hv0).1 (W_L2 hv0) ac_int (by decide) (by decide) (by decide) ⟨Nat.le_of_ble_eq_true rfl, Nat.le_of_ble_eq_true rfl⟩ rfl d_X3_init_65 ?_
  refine JO_putF (op1 := (v0, (updV (updV (updV (updV (updV (updV (updV (updV (updV (updV (updV (updV (fun j => defaultValue (tY 3 j)) 0 (.int 3)) 1 (.int 3)) 2 (.int 0)) 3 (.int 999)) 4 (.int 0)) 5 (.int 0)) 6 (.int 0)) 7 (.int 0)) 8 (.int 0)) 9 (.int 0)) 10 (.ref (wB (wC b) + (v0 + 1)))) 11 (.ref (wB (wC b) + (v0 + 2))))) :: op) o hnm 0 fl_RX3_46 la_3 (W_kd hv0) rfl rfl rfl (by rfl) (by rfl) rfl d_X3_init_67 ?_
  refine JO_aload_n o 0 d_X3_init_70 rfl ?_
  refine JO_sipush (v := 240) o d_X3_init_71 (by decide) ?_
  refine JO_newI (n1 := (v0 + 4)) o (W_k3 hv0).1 (W_L3 hv0) ac_int (by decide) (by decide) (by decide) ⟨Nat.le_of_ble_eq_true rfl, Nat.le_of_ble_eq_true rfl⟩ rfl d_X3_init_74 ?_
  refine JO_putF (op1 := (v0, (updV (updV (updV (updV (updV (updV (updV (updV (updV (updV (updV (updV (updV (fun j => defaultValue (tY 3 j)) 0 (.int 3)) 1 (.int 3)) 2 (.int 0)) 3 (.int 999)) 4 (.int 0)) 5 (.int 0)) 6 (.int 0)) 7 (.int 0)) 8 (.int 0)) 9 (.int 0)) 10 (.ref (wB (wC b) + (v0 + 1)))) 11 (.ref (wB (wC b) + (v0 + 2)))) 12 (.ref (wB (wC b) + (v0 + 3))))) :: op) o hnm 0 fl_RX3_49 la_3 (W_kd hv0) rfl rfl rfl (by rfl) (by rfl) rfl d_X3_init_76 ?_
  refine JO_aload_n o 0 d_X3_init_79 rfl ?_
  refine JO_sipush (v := 240) o d_X3_init_80 (by decide) ?_
  refine JO_newI (n1 := (v0 + 5)) o (W_k4 hv0).1 (W_L4 hv0) ac_int (by decide) (by decide) (by decide) ⟨Nat.le_of_ble_eq_true rfl, Nat.le_of_ble_eq_true rfl⟩ rfl d_X3_init_83 ?_
  refine JO_putF (op1 := (v0, (updV (updV (updV (updV (updV (updV (updV (updV (updV (updV (updV (updV (updV (updV (fun j => defaultValue (tY 3 j)) 0 (.int 3)) 1 (.int 3)) 2 (.int 0)) 3 (.int 999)) 4 (.int 0)) 5 (.int 0)) 6 (.int 0)) 7 (.int 0)) 8 (.int 0)) 9 (.int 0)) 10 (.ref (wB (wC b) + (v0 + 1)))) 11 (.ref (wB (wC b) + (v0 + 2)))) 12 (.ref (wB (wC b) + (v0 + 3)))) 13 (.ref (wB (wC b) + (v0 + 4))))) :: op) o hnm 0 fl_RX3_52 la_3 (W_kd hv0) rfl rfl rfl (by rfl) (by rfl) rfl d_X3_init_85 ?_
  refine JO_aload_n o 0 d_X3_init_88 rfl ?_
  refine JO_bipush (v := 24) o d_X3_init_89 (by decide) ?_
  refine JO_newI (n1 := (v0 + 6)) o (W_k5 hv0).1 (W_L5 hv0) ac_int (by decide) (by decide) (by decide) ⟨Nat.le_of_ble_eq_true rfl, Nat.le_of_ble_eq_true rfl⟩ rfl d_X3_init_91 ?_
  refine JO_putF (op1 := (v0, (updV (updV (updV (updV (updV (updV (updV (updV (updV (updV (updV (updV (updV (updV (updV (fun j => defaultValue (tY 3 j)) 0 (.int 3)) 1 (.int 3)) 2 (.int 0)) 3 (.int 999)) 4 (.int 0)) 5 (.int 0)) 6 (.int 0)) 7 (.int 0)) 8 (.int 0)) 9 (.int 0)) 10 (.ref (wB (wC b) + (v0 + 1)))) 11 (.ref (wB (wC b) + (v0 + 2)))) 12 (.ref (wB (wC b) + (v0 + 3)))) 13 (.ref (wB (wC b) + (v0 + 4)))) 14 (.ref (wB (wC b) + (v0 + 5))))) :: op) o hnm 0 fl_RX3_55 la_3 (W_kd hv0) rfl rfl rfl (by rfl) (by rfl) rfl d_X3_init_93 ?_
  refine JO_aload_n o 0 d_X3_init_96 rfl ?_
  refine JO_bipush (v := 12) o d_X3_init_97 (by decide) ?_
  refine JO_newI (n1 := (v0 + 7)) o (W_k6 hv0).1 (W_L6 hv0) ac_int (by decide) (by decide) (by decide) ⟨Nat.le_of_ble_eq_true rfl, Nat.le_of_ble_eq_true rfl⟩ rfl d_X3_init_99 ?_
  refine JO_putF (op1 := (v0, (updV (updV (updV (updV (updV (updV (updV (updV (updV (updV (updV (updV (updV (updV (updV (updV (fun j => defaultValue (tY 3 j)) 0 (.int 3)) 1 (.int 3)) 2 (.int 0)) 3 (.int 999)) 4 (.int 0)) 5 (.int 0)) 6 (.int 0)) 7 (.int 0)) 8 (.int 0)) 9 (.int 0)) 10 (.ref (wB (wC b) + (v0 + 1)))) 11 (.ref (wB (wC b) + (v0 + 2)))) 12 (.ref (wB (wC b) + (v0 + 3)))) 13 (.ref (wB (wC b) + (v0 + 4)))) 14 (.ref (wB (wC b) + (v0 + 5)))) 15 (.ref (wB (wC b) + (v0 + 6))))) :: op) o hnm 0 fl_RX3_58 la_3 (W_kd hv0) rfl rfl rfl (by rfl) (by rfl) rfl d_X3_init_101 ?_
  refine JO_aload_n o 0 d_X3_init_104 rfl ?_
  refine JO_sipush (v := 561) o d_X3_init_105 (by decide) ?_
  refine JO_newI (n1 := (v0 + 8)) o (W_k7 hv0).1 (W_L7 hv0) ac_int (by decide) (by decide) (by decide) ⟨Nat.le_of_ble_eq_true rfl, Nat.le_of_ble_eq_true rfl⟩ rfl d_X3_init_108 ?_
  refine JO_putF (op1 := (v0, (updV (updV (updV (updV (updV (updV (updV (updV (updV (updV (updV (updV (updV (updV (updV (updV (updV (fun j => defaultValue (tY 3 j)) 0 (.int 3)) 1 (.int 3)) 2 (.int 0)) 3 (.int 999)) 4 (.int 0)) 5 (.int 0)) 6 (.int 0)) 7 (.int 0)) 8 (.int 0)) 9 (.int 0)) 10 (.ref (wB (wC b) + (v0 + 1)))) 11 (.ref (wB (wC b) + (v0 + 2)))) 12 (.ref (wB (wC b) + (v0 + 3)))) 13 (.ref (wB (wC b) + (v0 + 4)))) 14 (.ref (wB (wC b) + (v0 + 5)))) 15 (.ref (wB (wC b) + (v0 + 6)))) 16 (.ref (wB (wC b) + (v0 + 7))))) :: op) o hnm 0 fl_RX3_61 la_3 (W_kd hv0) rfl rfl rfl (by rfl) (by rfl) rfl d_X3_init_110 ?_
  refine JO_shut (fun j hj => ?_) ?_
  · have hj : j < 17 := by
      unfold szC at hj
      rw [show kd v0 = 3 from (W_kd hv0)] at hj
      exact hj
    rcases (show j = 0 ∨ j = 1 ∨ j = 2 ∨ j = 3 ∨ j = 4 ∨ j = 5 ∨ j = 6 ∨ j = 7 ∨ j = 8 ∨ j = 9 ∨ j = 10 ∨ j = 11 ∨ j = 12 ∨ j = 13 ∨ j = 14 ∨ j = 15 ∨ j = 16 by omega) with rfl | rfl | rfl | rfl | rfl | rfl | rfl | rfl | rfl | rfl | rfl | rfl | rfl | rfl | rfl | rfl | rfl
    · exact Eq.trans (b := Value.int 3) rfl (vS_int (c := 3) (W_kd hv0) (by decide) rfl (by unfold s0; rw [show kd v0 = 3 from (W_kd hv0)]; rfl)).symm
    · exact Eq.trans (b := Value.int 3) rfl (vS_int (c := 3) (W_kd hv0) (by decide) rfl (by unfold s0; rw [show kd v0 = 3 from (W_kd hv0)]; rfl)).symm
    · exact Eq.trans (b := Value.int 0) rfl (vS_int (c := 3) (W_kd hv0) (by decide) rfl (by unfold s0; rw [show kd v0 = 3 from (W_kd hv0)]; rfl)).symm
    · exact Eq.trans (b := Value.int 999) rfl (vS_int (c := 3) (W_kd hv0) (by decide) rfl (by unfold s0; rw [show kd v0 = 3 from (W_kd hv0)]; rfl)).symm
    · exact Eq.trans (b := Value.int 0) rfl (vS_int (c := 3) (W_kd hv0) (by decide) rfl (by unfold s0; rw [show kd v0 = 3 from (W_kd hv0)]; rfl)).symm
    · exact Eq.trans (b := Value.int 0) rfl (vS_int (c := 3) (W_kd hv0) (by decide) rfl (by unfold s0; rw [show kd v0 = 3 from (W_kd hv0)]; rfl)).symm
    · exact Eq.trans (b := Value.int 0) rfl (vS_int (c := 3) (W_kd hv0) (by decide) rfl (by unfold s0; rw [show kd v0 = 3 from (W_kd hv0)]; rfl)).symm
    · exact Eq.trans (b := Value.int 0) rfl (vS_int (c := 3) (W_kd hv0) (by decide) rfl (by unfold s0; rw [show kd v0 = 3 from (W_kd hv0)]; rfl)).symm
    · exact Eq.trans (b := Value.int 0) rfl (vS_int (c := 3) (W_kd hv0) (by decide) rfl (by unfold s0; rw [show kd v0 = 3 from (W_kd hv0)]; rfl)).symm
    · exact Eq.trans (b := Value.int 0) rfl (vS_int (c := 3) (W_kd hv0) (by decide) rfl (by unfold s0; rw [show kd v0 = 3 from (W_kd hv0)]; rfl)).symm
    · exact Eq.trans (b := Value.ref (wB (wC b) + (v0 + 1))) rfl (vS_ref (c := 3) (k := v0) (j := 10) (t := (v0 + 1)) (W_kd hv0) (by decide) rfl (W_t hv0 10 (by decide))).symm
    · exact Eq.trans (b := Value.ref (wB (wC b) + (v0 + 2))) rfl (vS_ref (c := 3) (k := v0) (j := 11) (t := (v0 + 2)) (W_kd hv0) (by decide) rfl (W_t hv0 11 (by decide))).symm
    · exact Eq.trans (b := Value.ref (wB (wC b) + (v0 + 3))) rfl (vS_ref (c := 3) (k := v0) (j := 12) (t := (v0 + 3)) (W_kd hv0) (by decide) rfl (W_t hv0 12 (by decide))).symm
    · exact Eq.trans (b := Value.ref (wB (wC b) + (v0 + 4))) rfl (vS_ref (c := 3) (k := v0) (j := 13) (t := (v0 + 4)) (W_kd hv0) (by decide) rfl (W_t hv0 13 (by decide))).symm
    · exact Eq.trans (b := Value.ref (wB (wC b) + (v0 + 5))) rfl (vS_ref (c := 3) (k := v0) (j := 14) (t := (v0 + 5)) (W_kd hv0) (by decide) rfl (W_t hv0 14 (by decide))).symm
    · exact Eq.trans (b := Value.ref (wB (wC b) + (v0 + 6))) rfl (vS_ref (c := 3) (k := v0) (j := 15) (t := (v0 + 6)) (W_kd hv0) (by decide) rfl (W_t hv0 15 (by decide))).symm
    · exact Eq.trans (b := Value.ref (wB (wC b) + (v0 + 7))) rfl (vS_ref (c := 3) (k := v0) (j := 16) (t := (v0 + 7)) (W_kd hv0) (by decide) rfl (W_t hv0 16 (by decide))).symm
  exact JO_ret o d_X3_init_113
set_option maxHeartbeats 4000000 in
set_option maxRecDepth 20000 in
theorem w_X1_init (l : Launch) (b : Wy) {v0 : Nat} (hv0 : IsS v0) (op : Ops) : CtO l (wC b) yX1_init cX1_init 1 rm_X1_init [.ref (wB (wC b) + v0)] ((v0, (fun j => defaultValue (tY 1 j))) :: op) (v0 + 1) op (v0 + 64) := by
  refine CtO.of (own := RX1) (by decide +kernel) rfl rfl (Nat.le_of_ble_eq_true rfl) (fun x hx o hnm => ?_)
  subst hx
  show JO x (wC b) (FinO x (wC b) op (v0 + 64) (rm_X1_init.cells, rm_X1_init.slots)) 0 [(0, .ref (wB (wC b) + v0))] [] (0, 0) ((v0, (fun j => defaultValue (tY 1 j))) :: op) (v0 + 1)
  refine JO_aload_n o 0 d_X1_init_0 rfl ?_
  refine JO_objInit o oi_RX1 oi_i oi_c ⟨Nat.le_of_ble_eq_true rfl, Nat.le_of_ble_eq_true rfl⟩ d_X1_init_1 ?_
  refine JO_aload_n o 0 d_X1_init_4 rfl ?_
  refine JO_bipush (v := 61) o d_X1_init_5 (by decide) ?_
  refine JO_sipush (v := 240) o d_X1_init_7 (by decide) ?_
  refine JO_mna (N := 61) (M := 240) (n1 := (v0 + 63)) o (S_mk hv0) (S_ml hv0) (fun j _ => (S_mt hv0 j).trans (by omega)) (fun j hj => by rw [show v0 + 1 + 1 + j = v0 + 2 + j by omega]; exact ⟨(S_m1 hv0 hj).1, (S_m1 hv0 hj).2.2⟩) ck_RX1_9 ac_int (by decide) (by decide) (by decide) (by decide) ⟨by decide, by decide⟩ ⟨Nat.le_of_ble_eq_true rfl, Nat.le_of_ble_eq_true rfl⟩ (by omega) d_X1_init_10 ?_
  refine JO_putF (op1 := (v0, (updV (fun j => defaultValue (tY 1 j)) 0 (.ref (wB (wC b) + (v0 + 1))))) :: op) o hnm 0 fl_RX1_11 la_1 (S_kd hv0) rfl rfl rfl (by rfl) (by rfl) rfl d_X1_init_14 ?_
  refine JO_aload_n o 0 d_X1_init_17 rfl ?_
  refine JO_bipush (v := 60) o d_X1_init_18 (by decide) ?_
  refine JO_newI (n1 := (v0 + 64)) o (S_ck hv0).1 (S_cL hv0) ac_int (by decide) (by decide) (by decide) ⟨Nat.le_of_ble_eq_true rfl, Nat.le_of_ble_eq_true rfl⟩ rfl d_X1_init_20 ?_
  refine JO_putF (op1 := (v0, (updV (updV (fun j => defaultValue (tY 1 j)) 0 (.ref (wB (wC b) + (v0 + 1)))) 1 (.ref (wB (wC b) + (v0 + 63))))) :: op) o hnm 0 fl_RX1_16 la_1 (S_kd hv0) rfl rfl rfl (by rfl) (by rfl) rfl d_X1_init_22 ?_
  refine JO_aload_n o 0 d_X1_init_25 rfl ?_
  refine JO_iconst (v := 0) o d_X1_init_26 (by decide) ?_
  refine JO_put (op1 := (v0, (updV (updV (updV (fun j => defaultValue (tY 1 j)) 0 (.ref (wB (wC b) + (v0 + 1)))) 1 (.ref (wB (wC b) + (v0 + 63)))) 2 (.int 0))) :: op) o 0 fl_RX1_20 la_1 (S_kd hv0) rfl rfl (by rfl) (by rfl) rfl d_X1_init_27 ?_
  refine JO_aload_n o 0 d_X1_init_30 rfl ?_
  refine JO_iconst (v := 0) o d_X1_init_31 (by decide) ?_
  refine JO_put (op1 := (v0, (updV (updV (updV (updV (fun j => defaultValue (tY 1 j)) 0 (.ref (wB (wC b) + (v0 + 1)))) 1 (.ref (wB (wC b) + (v0 + 63)))) 2 (.int 0)) 3 (.int 0))) :: op) o 0 fl_RX1_24 la_1 (S_kd hv0) rfl rfl (by rfl) (by rfl) rfl d_X1_init_32 ?_
  refine JO_shut (fun j hj => ?_) ?_
  · have hj : j < 4 := by
      unfold szC at hj
      rw [show kd v0 = 1 from (S_kd hv0)] at hj
      exact hj
    rcases (show j = 0 ∨ j = 1 ∨ j = 2 ∨ j = 3 by omega) with rfl | rfl | rfl | rfl
    · exact Eq.trans (b := Value.ref (wB (wC b) + (v0 + 1))) rfl (vS_ref (c := 1) (k := v0) (j := 0) (t := (v0 + 1)) (S_kd hv0) (by decide) rfl (S_t0 hv0)).symm
    · exact Eq.trans (b := Value.ref (wB (wC b) + (v0 + 63))) rfl (vS_ref (c := 1) (k := v0) (j := 1) (t := (v0 + 63)) (S_kd hv0) (by decide) rfl (S_t1 hv0)).symm
    · exact Eq.trans (b := Value.int 0) rfl (vS_int (c := 1) (S_kd hv0) (by decide) rfl (by unfold s0; rw [show kd v0 = 1 from (S_kd hv0)]; rfl)).symm
    · exact Eq.trans (b := Value.int 0) rfl (vS_int (c := 1) (S_kd hv0) (by decide) rfl (by unfold s0; rw [show kd v0 = 1 from (S_kd hv0)]; rfl)).symm
  exact JO_ret o d_X1_init_35
set_option maxHeartbeats 4000000 in
set_option maxRecDepth 20000 in
theorem w_X2_init (l : Launch) (b : Wy) (op : Ops) : CtO l (wC b) yX2_init cX2_init 3 rm_X2_init [.ref (wB (wC b) + 18), .ref (wB (wC b) + 1), .ref (wB (wC b) + 10)] ((18, (fun j => defaultValue (tY 2 j))) :: op) 19 op 19 := by
  refine CtO.of (own := RX2) (by decide +kernel) rfl rfl (Nat.le_of_ble_eq_true rfl) (fun x hx o hnm => ?_)
  subst hx
  show JO x (wC b) (FinO x (wC b) op 19 (rm_X2_init.cells, rm_X2_init.slots)) 0 [(0, .ref (wB (wC b) + 18)), (1, .ref (wB (wC b) + 1)), (2, .ref (wB (wC b) + 10))] [] (0, 0) ((18, (fun j => defaultValue (tY 2 j))) :: op) 19
  refine JO_aload_n o 0 d_X2_init_0 rfl ?_
  refine JO_objInit o oi_RX2 oi_i oi_c ⟨Nat.le_of_ble_eq_true rfl, Nat.le_of_ble_eq_true rfl⟩ d_X2_init_1 ?_
  refine JO_aload_n o 0 d_X2_init_4 rfl ?_
  refine JO_iconst (v := 0) o d_X2_init_5 (by decide) ?_
  refine JO_put (op1 := (18, (updV (fun j => defaultValue (tY 2 j)) 2 (.int 0))) :: op) o 0 fl_RX2_9 la_2 rfl rfl rfl (by rfl) (by rfl) rfl d_X2_init_6 ?_
  refine JO_aload_n o 0 d_X2_init_9 rfl ?_
  refine JO_iconst (v := 0) o d_X2_init_10 (by decide) ?_
  refine JO_put (op1 := (18, (updV (updV (fun j => defaultValue (tY 2 j)) 2 (.int 0)) 3 (.int 0))) :: op) o 0 fl_RX2_15 la_2 rfl rfl rfl (by rfl) (by rfl) rfl d_X2_init_11 ?_
  refine JO_aload_n o 0 d_X2_init_14 rfl ?_
  refine JO_iconst (v := 0) o d_X2_init_15 (by decide) ?_
  refine JO_put (op1 := (18, (updV (updV (updV (fun j => defaultValue (tY 2 j)) 2 (.int 0)) 3 (.int 0)) 4 (.int 0))) :: op) o 0 fl_RX2_18 la_2 rfl rfl rfl (by rfl) (by rfl) rfl d_X2_init_16 ?_
  refine JO_aload_n o 0 d_X2_init_19 rfl ?_
  refine JO_iconst (v := 0) o d_X2_init_20 (by decide) ?_
  refine JO_put (op1 := (18, (updV (updV (updV (updV (fun j => defaultValue (tY 2 j)) 2 (.int 0)) 3 (.int 0)) 4 (.int 0)) 5 (.int 0))) :: op) o 0 fl_RX2_21 la_2 rfl rfl rfl (by rfl) (by rfl) rfl d_X2_init_21 ?_
  refine JO_aload_n o 0 d_X2_init_24 rfl ?_
  refine JO_iconst (v := 0) o d_X2_init_25 (by decide) ?_
  refine JO_put (op1 := (18, (updV (updV (updV (updV (updV (fun j => defaultValue (tY 2 j)) 2 (.int 0)) 3 (.int 0)) 4 (.int 0)) 5 (.int 0)) 6 (.int 0))) :: op) o 0 fl_RX2_24 la_2 rfl rfl rfl (by rfl) (by rfl) rfl d_X2_init_26 ?_
  refine JO_aload_n o 0 d_X2_init_29 rfl ?_
  refine JO_iconst (v := 0) o d_X2_init_30 (by decide) ?_
  refine JO_put (op1 := (18, (updV (updV (updV (updV (updV (updV (fun j => defaultValue (tY 2 j)) 2 (.int 0)) 3 (.int 0)) 4 (.int 0)) 5 (.int 0)) 6 (.int 0)) 7 (.int 0))) :: op) o 0 fl_RX2_27 la_2 rfl rfl rfl (by rfl) (by rfl) rfl d_X2_init_31 ?_
  refine JO_aload_n o 0 d_X2_init_34 rfl ?_
  refine JO_iconst (v := 0) o d_X2_init_35 (by decide) ?_
  refine JO_put (op1 := (18, (updV (updV (updV (updV (updV (updV (updV (fun j => defaultValue (tY 2 j)) 2 (.int 0)) 3 (.int 0)) 4 (.int 0)) 5 (.int 0)) 6 (.int 0)) 7 (.int 0)) 8 (.int 0))) :: op) o 0 fl_RX2_30 la_2 rfl rfl rfl (by rfl) (by rfl) rfl d_X2_init_36 ?_
  refine JO_aload_n o 0 d_X2_init_39 rfl ?_
  refine JO_iconst (v := 0) o d_X2_init_40 (by decide) ?_
  refine JO_put (op1 := (18, (updV (updV (updV (updV (updV (updV (updV (updV (fun j => defaultValue (tY 2 j)) 2 (.int 0)) 3 (.int 0)) 4 (.int 0)) 5 (.int 0)) 6 (.int 0)) 7 (.int 0)) 8 (.int 0)) 9 (.int 0))) :: op) o 0 fl_RX2_33 la_2 rfl rfl rfl (by rfl) (by rfl) rfl d_X2_init_41 ?_
  refine JO_aload_n o 0 d_X2_init_44 rfl ?_
  refine JO_iconst (v := (-1)) o d_X2_init_45 (by decide) ?_
  refine JO_put (op1 := (18, (updV (updV (updV (updV (updV (updV (updV (updV (updV (fun j => defaultValue (tY 2 j)) 2 (.int 0)) 3 (.int 0)) 4 (.int 0)) 5 (.int 0)) 6 (.int 0)) 7 (.int 0)) 8 (.int 0)) 9 (.int 0)) 10 (.int (-1)))) :: op) o 0 fl_RX2_36 la_2 rfl rfl rfl (by rfl) (by rfl) rfl d_X2_init_46 ?_
  refine JO_aload_n o 0 d_X2_init_49 rfl ?_
  refine JO_iconst (v := 0) o d_X2_init_50 (by decide) ?_
  refine JO_put (op1 := (18, (updV (updV (updV (updV (updV (updV (updV (updV (updV (updV (fun j => defaultValue (tY 2 j)) 2 (.int 0)) 3 (.int 0)) 4 (.int 0)) 5 (.int 0)) 6 (.int 0)) 7 (.int 0)) 8 (.int 0)) 9 (.int 0)) 10 (.int (-1))) 11 (.int 0))) :: op) o 0 fl_RX2_39 la_2 rfl rfl rfl (by rfl) (by rfl) rfl d_X2_init_51 ?_
  refine JO_aload_n o 0 d_X2_init_54 rfl ?_
  refine JO_iconst (v := 0) o d_X2_init_55 (by decide) ?_
  refine JO_put (op1 := (18, (updV (updV (updV (updV (updV (updV (updV (updV (updV (updV (updV (fun j => defaultValue (tY 2 j)) 2 (.int 0)) 3 (.int 0)) 4 (.int 0)) 5 (.int 0)) 6 (.int 0)) 7 (.int 0)) 8 (.int 0)) 9 (.int 0)) 10 (.int (-1))) 11 (.int 0)) 12 (.int 0))) :: op) o 0 fl_RX2_43 la_2 rfl rfl rfl (by rfl) (by rfl) rfl d_X2_init_56 ?_
  refine JO_aload_n o 0 d_X2_init_59 rfl ?_
  refine JO_iconst (v := 0) o d_X2_init_60 (by decide) ?_
  refine JO_put (op1 := (18, (updV (updV (updV (updV (updV (updV (updV (updV (updV (updV (updV (updV (fun j => defaultValue (tY 2 j)) 2 (.int 0)) 3 (.int 0)) 4 (.int 0)) 5 (.int 0)) 6 (.int 0)) 7 (.int 0)) 8 (.int 0)) 9 (.int 0)) 10 (.int (-1))) 11 (.int 0)) 12 (.int 0)) 13 (.int 0))) :: op) o 0 fl_RX2_46 la_2 rfl rfl rfl (by rfl) (by rfl) rfl d_X2_init_61 ?_
  refine JO_aload_n o 0 d_X2_init_64 rfl ?_
  refine JO_iconst (v := 0) o d_X2_init_65 (by decide) ?_
  refine JO_put (op1 := (18, (updV (updV (updV (updV (updV (updV (updV (updV (updV (updV (updV (updV (updV (fun j => defaultValue (tY 2 j)) 2 (.int 0)) 3 (.int 0)) 4 (.int 0)) 5 (.int 0)) 6 (.int 0)) 7 (.int 0)) 8 (.int 0)) 9 (.int 0)) 10 (.int (-1))) 11 (.int 0)) 12 (.int 0)) 13 (.int 0)) 14 (.int 0))) :: op) o 0 fl_RX2_49 la_2 rfl rfl rfl (by rfl) (by rfl) rfl d_X2_init_66 ?_
  refine JO_aload_n o 0 d_X2_init_69 rfl ?_
  refine JO_aload_n o 1 d_X2_init_70 rfl ?_
  refine JO_putF (op1 := (18, (updV (updV (updV (updV (updV (updV (updV (updV (updV (updV (updV (updV (updV (updV (fun j => defaultValue (tY 2 j)) 2 (.int 0)) 3 (.int 0)) 4 (.int 0)) 5 (.int 0)) 6 (.int 0)) 7 (.int 0)) 8 (.int 0)) 9 (.int 0)) 10 (.int (-1))) 11 (.int 0)) 12 (.int 0)) 13 (.int 0)) 14 (.int 0)) 0 (.ref (wB (wC b) + 1)))) :: op) o hnm 0 fl_RX2_52 la_2 rfl rfl rfl rfl (by rfl) (by rfl) rfl d_X2_init_71 ?_
  refine JO_aload_n o 0 d_X2_init_74 rfl ?_
  refine JO_aload_n o 2 d_X2_init_75 rfl ?_
  refine JO_putF (op1 := (18, (updV (updV (updV (updV (updV (updV (updV (updV (updV (updV (updV (updV (updV (updV (updV (fun j => defaultValue (tY 2 j)) 2 (.int 0)) 3 (.int 0)) 4 (.int 0)) 5 (.int 0)) 6 (.int 0)) 7 (.int 0)) 8 (.int 0)) 9 (.int 0)) 10 (.int (-1))) 11 (.int 0)) 12 (.int 0)) 13 (.int 0)) 14 (.int 0)) 0 (.ref (wB (wC b) + 1))) 1 (.ref (wB (wC b) + 10)))) :: op) o hnm 0 fl_RX2_56 la_2 rfl rfl rfl rfl (by rfl) (by rfl) rfl d_X2_init_76 ?_
  refine JO_shut (fun j hj => ?_) ?_
  · have hj : j < 15 := by
      unfold szC at hj
      rw [show kd 18 = 2 from rfl] at hj
      exact hj
    rcases (show j = 0 ∨ j = 1 ∨ j = 2 ∨ j = 3 ∨ j = 4 ∨ j = 5 ∨ j = 6 ∨ j = 7 ∨ j = 8 ∨ j = 9 ∨ j = 10 ∨ j = 11 ∨ j = 12 ∨ j = 13 ∨ j = 14 by omega) with rfl | rfl | rfl | rfl | rfl | rfl | rfl | rfl | rfl | rfl | rfl | rfl | rfl | rfl | rfl
    · exact Eq.trans (b := Value.ref (wB (wC b) + 1)) rfl (vS_ref (c := 2) (k := 18) (j := 0) (t := 1) rfl (by decide) rfl rfl).symm
    · exact Eq.trans (b := Value.ref (wB (wC b) + 10)) rfl (vS_ref (c := 2) (k := 18) (j := 1) (t := 10) rfl (by decide) rfl rfl).symm
    · exact Eq.trans (b := Value.int 0) rfl (vS_int (c := 2) rfl (by decide) rfl (by unfold s0; rw [show kd 18 = 2 from rfl]; rfl)).symm
    · exact Eq.trans (b := Value.int 0) rfl (vS_int (c := 2) rfl (by decide) rfl (by unfold s0; rw [show kd 18 = 2 from rfl]; rfl)).symm
    · exact Eq.trans (b := Value.int 0) rfl (vS_int (c := 2) rfl (by decide) rfl (by unfold s0; rw [show kd 18 = 2 from rfl]; rfl)).symm
    · exact Eq.trans (b := Value.int 0) rfl (vS_int (c := 2) rfl (by decide) rfl (by unfold s0; rw [show kd 18 = 2 from rfl]; rfl)).symm
    · exact Eq.trans (b := Value.int 0) rfl (vS_int (c := 2) rfl (by decide) rfl (by unfold s0; rw [show kd 18 = 2 from rfl]; rfl)).symm
    · exact Eq.trans (b := Value.int 0) rfl (vS_int (c := 2) rfl (by decide) rfl (by unfold s0; rw [show kd 18 = 2 from rfl]; rfl)).symm
    · exact Eq.trans (b := Value.int 0) rfl (vS_int (c := 2) rfl (by decide) rfl (by unfold s0; rw [show kd 18 = 2 from rfl]; rfl)).symm
    · exact Eq.trans (b := Value.int 0) rfl (vS_int (c := 2) rfl (by decide) rfl (by unfold s0; rw [show kd 18 = 2 from rfl]; rfl)).symm
    · exact Eq.trans (b := Value.int (-1)) rfl (vS_int (c := 2) rfl (by decide) rfl (by unfold s0; rw [show kd 18 = 2 from rfl]; rfl)).symm
    · exact Eq.trans (b := Value.int 0) rfl (vS_int (c := 2) rfl (by decide) rfl (by unfold s0; rw [show kd 18 = 2 from rfl]; rfl)).symm
    · exact Eq.trans (b := Value.int 0) rfl (vS_int (c := 2) rfl (by decide) rfl (by unfold s0; rw [show kd 18 = 2 from rfl]; rfl)).symm
    · exact Eq.trans (b := Value.int 0) rfl (vS_int (c := 2) rfl (by decide) rfl (by unfold s0; rw [show kd 18 = 2 from rfl]; rfl)).symm
    · exact Eq.trans (b := Value.int 0) rfl (vS_int (c := 2) rfl (by decide) rfl (by unfold s0; rw [show kd 18 = 2 from rfl]; rfl)).symm
  exact JO_ret o d_X2_init_79
set_option maxHeartbeats 4000000 in
set_option maxRecDepth 20000 in
theorem w_X0_init (l : Launch) (b : Wy) (g : Nat → Value) : CtO l (wC b) yX0_init cX0_init 3 rm_X0_init [.ref (wB (wC b) + 19), .ref (wB (wC b) + 2)] ((19, (fun j => defaultValue (tY 0 j))) :: [(0, g)]) 20 [(0, g)] 282 := by
  refine CtO.of (own := RX0) (by decide +kernel) rfl rfl (Nat.le_of_ble_eq_true rfl) (fun x hx o hnm => ?_)
  subst hx
  show JO x (wC b) (FinO x (wC b) [(0, g)] 282 (rm_X0_init.cells, rm_X0_init.slots)) 0 [(0, .ref (wB (wC b) + 19)), (1, .ref (wB (wC b) + 2))] [] (0, 0) ((19, (fun j => defaultValue (tY 0 j))) :: [(0, g)]) 20
  refine JO_aload_n o 0 d_X0_init_0 rfl ?_
  refine JO_objInit o oi_RX0 oi_i oi_c ⟨Nat.le_of_ble_eq_true rfl, Nat.le_of_ble_eq_true rfl⟩ d_X0_init_1 ?_
  refine JO_aload_n o 0 d_X0_init_4 rfl ?_
  refine JO_bipush (v := 61) o d_X0_init_5 (by decide) ?_
  refine JO_newI (n1 := 21) o rfl rfl ac_int (by decide) (by decide) (by decide) ⟨Nat.le_of_ble_eq_true rfl, Nat.le_of_ble_eq_true rfl⟩ rfl d_X0_init_7 ?_
  refine JO_putF (op1 := (19, (updV (fun j => defaultValue (tY 0 j)) 1 (.ref (wB (wC b) + 20)))) :: [(0, g)]) o hnm 0 fl_RX0_9 la_0 rfl rfl rfl rfl (by rfl) (by rfl) rfl d_X0_init_9 ?_
  refine JO_aload_n o 0 d_X0_init_12 rfl ?_
  refine JO_bipush (v := 61) o d_X0_init_13 (by decide) ?_
  refine JO_newI (n1 := 22) o rfl rfl ac_int (by decide) (by decide) (by decide) ⟨Nat.le_of_ble_eq_true rfl, Nat.le_of_ble_eq_true rfl⟩ rfl d_X0_init_15 ?_
  refine JO_putF (op1 := (19, (updV (updV (fun j => defaultValue (tY 0 j)) 1 (.ref (wB (wC b) + 20))) 2 (.ref (wB (wC b) + 21)))) :: [(0, g)]) o hnm 0 fl_RX0_15 la_0 rfl rfl rfl rfl (by rfl) (by rfl) rfl d_X0_init_17 ?_
  refine JO_aload_n o 0 d_X0_init_20 rfl ?_
  refine JO_sipush (v := 2160) o d_X0_init_21 (by decide) ?_
  refine JO_newI (n1 := 23) o rfl rfl ac_int (by decide) (by decide) (by decide) ⟨Nat.le_of_ble_eq_true rfl, Nat.le_of_ble_eq_true rfl⟩ rfl d_X0_init_24 ?_
  refine JO_putF (op1 := (19, (updV (updV (updV (fun j => defaultValue (tY 0 j)) 1 (.ref (wB (wC b) + 20))) 2 (.ref (wB (wC b) + 21))) 3 (.ref (wB (wC b) + 22)))) :: [(0, g)]) o hnm 0 fl_RX0_18 la_0 rfl rfl rfl rfl (by rfl) (by rfl) rfl d_X0_init_26 ?_
  refine JO_aload_n o 0 d_X0_init_29 rfl ?_
  refine JO_sipush (v := 540) o d_X0_init_30 (by decide) ?_
  refine JO_newI (n1 := 24) o rfl rfl ac_int (by decide) (by decide) (by decide) ⟨Nat.le_of_ble_eq_true rfl, Nat.le_of_ble_eq_true rfl⟩ rfl d_X0_init_33 ?_
  refine JO_putF (op1 := (19, (updV (updV (updV (updV (fun j => defaultValue (tY 0 j)) 1 (.ref (wB (wC b) + 20))) 2 (.ref (wB (wC b) + 21))) 3 (.ref (wB (wC b) + 22))) 4 (.ref (wB (wC b) + 23)))) :: [(0, g)]) o hnm 0 fl_RX0_21 la_0 rfl rfl rfl rfl (by rfl) (by rfl) rfl d_X0_init_35 ?_
  refine JO_aload_n o 0 d_X0_init_38 rfl ?_
  refine JO_iconst (v := 3) o d_X0_init_39 (by decide) ?_
  refine JO_newQ (i := 1) (n1 := 25) o (by decide) rfl rfl rfl ck_RX0_24 o.2.2.1 (by decide) (by decide) (by decide) ⟨Nat.le_of_ble_eq_true rfl, Nat.le_of_ble_eq_true rfl⟩ rfl d_X0_init_40 ?_
  refine JO_putF (op1 := (24, (fun _ => Value.null)) :: (19, (updV (updV (updV (updV (updV (fun j => defaultValue (tY 0 j)) 1 (.ref (wB (wC b) + 20))) 2 (.ref (wB (wC b) + 21))) 3 (.ref (wB (wC b) + 22))) 4 (.ref (wB (wC b) + 23))) 5 (.ref (wB (wC b) + 24)))) :: [(0, g)]) o hnm 1 fl_RX0_26 la_0 rfl rfl rfl rfl (by rfl) (by rfl) rfl d_X0_init_43 ?_
  refine JO_aload_n o 0 d_X0_init_46 rfl ?_
  refine JO_bipush (v := 61) o d_X0_init_47 (by decide) ?_
  refine JO_sipush (v := 240) o d_X0_init_49 (by decide) ?_
  refine JO_mna (N := 61) (M := 240) (n1 := 87) o rfl rfl (fun j hj => rfl) (show ∀ j, j < 61 → kd (25 + 1 + j) = 6 ∧ ln (25 + 1 + j) = 240 by decide +kernel) ck_RX0_30 ac_int (by decide) (by decide) (by decide) (by decide) ⟨by decide, by decide⟩ ⟨Nat.le_of_ble_eq_true rfl, Nat.le_of_ble_eq_true rfl⟩ (by omega) d_X0_init_52 ?_
  refine JO_putF (op1 := (24, (fun _ => Value.null)) :: (19, (updV (updV (updV (updV (updV (updV (fun j => defaultValue (tY 0 j)) 1 (.ref (wB (wC b) + 20))) 2 (.ref (wB (wC b) + 21))) 3 (.ref (wB (wC b) + 22))) 4 (.ref (wB (wC b) + 23))) 5 (.ref (wB (wC b) + 24))) 6 (.ref (wB (wC b) + 25)))) :: [(0, g)]) o hnm 1 fl_RX0_32 la_0 rfl rfl rfl rfl (by rfl) (by rfl) rfl d_X0_init_56 ?_
  refine JO_aload_n o 0 d_X0_init_59 rfl ?_
  refine JO_iconst (v := 2) o d_X0_init_60 (by decide) ?_
  refine JO_sipush (v := 240) o d_X0_init_61 (by decide) ?_
  refine JO_mna (N := 2) (M := 240) (n1 := 90) o rfl rfl (fun j hj => rfl) (show ∀ j, j < 2 → kd (87 + 1 + j) = 6 ∧ ln (87 + 1 + j) = 240 by decide +kernel) ck_RX0_30 ac_int (by decide) (by decide) (by decide) (by decide) ⟨by decide, by decide⟩ ⟨Nat.le_of_ble_eq_true rfl, Nat.le_of_ble_eq_true rfl⟩ (by omega) d_X0_init_64 ?_
  refine JO_putF (op1 := (24, (fun _ => Value.null)) :: (19, (updV (updV (updV (updV (updV (updV (updV (fun j => defaultValue (tY 0 j)) 1 (.ref (wB (wC b) + 20))) 2 (.ref (wB (wC b) + 21))) 3 (.ref (wB (wC b) + 22))) 4 (.ref (wB (wC b) + 23))) 5 (.ref (wB (wC b) + 24))) 6 (.ref (wB (wC b) + 25))) 7 (.ref (wB (wC b) + 87)))) :: [(0, g)]) o hnm 1 fl_RX0_35 la_0 rfl rfl rfl rfl (by rfl) (by rfl) rfl d_X0_init_68 ?_
  refine JO_aload_n o 0 d_X0_init_71 rfl ?_
  refine JO_iconst (v := 0) o d_X0_init_72 (by decide) ?_
  refine JO_put (op1 := (24, (fun _ => Value.null)) :: (19, (updV (updV (updV (updV (updV (updV (updV (updV (fun j => defaultValue (tY 0 j)) 1 (.ref (wB (wC b) + 20))) 2 (.ref (wB (wC b) + 21))) 3 (.ref (wB (wC b) + 22))) 4 (.ref (wB (wC b) + 23))) 5 (.ref (wB (wC b) + 24))) 6 (.ref (wB (wC b) + 25))) 7 (.ref (wB (wC b) + 87))) 8 (.int 0))) :: [(0, g)]) o 1 fl_RX0_38 la_0 rfl rfl rfl (by rfl) (by rfl) rfl d_X0_init_73 ?_
  refine JO_aload_n o 0 d_X0_init_76 rfl ?_
  refine JO_iconst (v := 0) o d_X0_init_77 (by decide) ?_
  refine JO_put (op1 := (24, (fun _ => Value.null)) :: (19, (updV (updV (updV (updV (updV (updV (updV (updV (updV (fun j => defaultValue (tY 0 j)) 1 (.ref (wB (wC b) + 20))) 2 (.ref (wB (wC b) + 21))) 3 (.ref (wB (wC b) + 22))) 4 (.ref (wB (wC b) + 23))) 5 (.ref (wB (wC b) + 24))) 6 (.ref (wB (wC b) + 25))) 7 (.ref (wB (wC b) + 87))) 8 (.int 0)) 9 (.int 0))) :: [(0, g)]) o 1 fl_RX0_42 la_0 rfl rfl rfl (by rfl) (by rfl) rfl d_X0_init_78 ?_
  refine JO_aload_n o 0 d_X0_init_81 rfl ?_
  refine JO_aload_n o 1 d_X0_init_82 rfl ?_
  refine JO_putF (op1 := (24, (fun _ => Value.null)) :: (19, (updV (updV (updV (updV (updV (updV (updV (updV (updV (updV (fun j => defaultValue (tY 0 j)) 1 (.ref (wB (wC b) + 20))) 2 (.ref (wB (wC b) + 21))) 3 (.ref (wB (wC b) + 22))) 4 (.ref (wB (wC b) + 23))) 5 (.ref (wB (wC b) + 24))) 6 (.ref (wB (wC b) + 25))) 7 (.ref (wB (wC b) + 87))) 8 (.int 0)) 9 (.int 0)) 0 (.ref (wB (wC b) + 2)))) :: [(0, g)]) o hnm 1 fl_RX0_46 la_0 rfl rfl rfl rfl (by rfl) (by rfl) rfl d_X0_init_83 ?_
  refine JO_iconst (v := 0) o d_X0_init_86 (by decide) ?_
  refine JO_istore_n (lv' := [(2, .int 0), (0, .ref (wB (wC b) + 19)), (1, .ref (wB (wC b) + 2))]) o d_X0_init_87 (by decide) rfl ?_
  refine JO_iload_n (v := 0) o 0 d_X0_init_88 rfl ?_
  refine JO_aload_n o 1 d_X0_init_89 rfl ?_
  refine JO_get (v := .ref (wB (wC b) + 24)) o 1 fl_RX0_26 rfl rfl rfl rfl d_X0_init_90 ?_
  refine JO_alen (ia := 1) (m := 3) o 0 (by decide) rfl rfl rfl d_X0_init_93 ?_
  refine JO_icmp_ge o 116 d_X0_init_94 (by decide) (fun h => absurd h (show ¬ ((3 : Int32) ≤ 0) by decide)) (fun _ => ?_)
  refine JO_aload_n o 1 d_X0_init_97 rfl ?_
  refine JO_get (v := .ref (wB (wC b) + 24)) o 1 fl_RX0_26 rfl rfl rfl rfl d_X0_init_98 ?_
  refine JO_iload_n (v := 0) o 0 d_X0_init_101 rfl ?_
  refine JO_new (c := 1) (n1 := 91) o (by decide) rfl la_1 ck_RX0_24 ia_1 in_1 ⟨Nat.le_of_ble_eq_true rfl, Nat.le_of_ble_eq_true rfl⟩ rfl d_X0_init_102 ?_
  refine JO_dup o d_X0_init_105 rfl ?_
  refine JO_callN (b := wB (wC b) + 90) (n1 := 154) (op1 := (24, (fun _ => Value.null)) :: (19, (updV (updV (updV (updV (updV (updV (updV (updV (updV (updV (fun j => defaultValue (tY 0 j)) 1 (.ref (wB (wC b) + 20))) 2 (.ref (wB (wC b) + 21))) 3 (.ref (wB (wC b) + 22))) 4 (.ref (wB (wC b) + 23))) 5 (.ref (wB (wC b) + 24))) 6 (.ref (wB (wC b) + 25))) 7 (.ref (wB (wC b) + 87))) 8 (.int 0)) 9 (.int 0)) 0 (.ref (wB (wC b) + 2)))) :: [(0, g)]) o [] mth_X1_init ⟨rfl, ivi_X1_init⟩ mn_RX0_50 ⟨Nat.le_of_ble_eq_true rfl, Nat.le_of_ble_eq_true rfl⟩ rfl rfl (Nat.le_of_ble_eq_true rfl) ⟨Nat.le_of_ble_eq_true rfl, Nat.le_of_ble_eq_true rfl⟩ d_X0_init_106 (w_X1_init (xL x) b (show IsS 90 from ⟨0, by decide, rfl⟩) _) ?_
  refine JO_aast (ia := 1) (c := 1) (op1 := (24, (updV (fun _ => Value.null) 0 (.ref (wB (wC b) + 90)))) :: (19, (updV (updV (updV (updV (updV (updV (updV (updV (updV (updV (fun j => defaultValue (tY 0 j)) 1 (.ref (wB (wC b) + 20))) 2 (.ref (wB (wC b) + 21))) 3 (.ref (wB (wC b) + 22))) 4 (.ref (wB (wC b) + 23))) 5 (.ref (wB (wC b) + 24))) 6 (.ref (wB (wC b) + 25))) 7 (.ref (wB (wC b) + 87))) 8 (.int 0)) 9 (.int 0)) 0 (.ref (wB (wC b) + 2)))) :: [(0, g)]) o 0 (by decide) (by decide) rfl rfl rfl rfl (Nat.le_of_ble_eq_true rfl) (Nat.le_of_ble_eq_true rfl) (List.forall_mem_cons.mpr ⟨Nat.ne_of_beq_eq_false rfl, (List.forall_mem_cons.mpr ⟨Nat.ne_of_beq_eq_false rfl, (List.forall_mem_cons.mpr ⟨Nat.ne_of_beq_eq_false rfl, (fun _ h => by cases h)⟩)⟩)⟩) (by decide) (by decide) rfl d_X0_init_109 ?_
  refine JO_iinc (v2 := 1) (lv' := [(2, .int 1), (0, .ref (wB (wC b) + 19)), (1, .ref (wB (wC b) + 2))]) o 0 d_X0_init_110 (by decide) rfl (by decide) rfl ?_
  refine JO_goto o 88 d_X0_init_113 (by decide) ?_
  refine JO_iload_n (v := 1) o 0 d_X0_init_88 rfl ?_
  refine JO_aload_n o 1 d_X0_init_89 rfl ?_
  refine JO_get (v := .ref (wB (wC b) + 24)) o 1 fl_RX0_26 rfl rfl rfl rfl d_X0_init_90 ?_
  refine JO_alen (ia := 1) (m := 3) o 0 (by decide) rfl rfl rfl d_X0_init_93 ?_
  refine JO_icmp_ge o 116 d_X0_init_94 (by decide) (fun h => absurd h (show ¬ ((3 : Int32) ≤ 1) by decide)) (fun _ => ?_)
  refine JO_aload_n o 1 d_X0_init_97 rfl ?_
  refine JO_get (v := .ref (wB (wC b) + 24)) o 1 fl_RX0_26 rfl rfl rfl rfl d_X0_init_98 ?_
  refine JO_iload_n (v := 1) o 0 d_X0_init_101 rfl ?_
  refine JO_new (c := 1) (n1 := 155) o (by decide) rfl la_1 ck_RX0_24 ia_1 in_1 ⟨Nat.le_of_ble_eq_true rfl, Nat.le_of_ble_eq_true rfl⟩ rfl d_X0_init_102 ?_
  refine JO_dup o d_X0_init_105 rfl ?_
  refine JO_callN (b := wB (wC b) + 154) (n1 := 218) (op1 := (24, (updV (fun _ => Value.null) 0 (.ref (wB (wC b) + 90)))) :: (19, (updV (updV (updV (updV (updV (updV (updV (updV (updV (updV (fun j => defaultValue (tY 0 j)) 1 (.ref (wB (wC b) + 20))) 2 (.ref (wB (wC b) + 21))) 3 (.ref (wB (wC b) + 22))) 4 (.ref (wB (wC b) + 23))) 5 (.ref (wB (wC b) + 24))) 6 (.ref (wB (wC b) + 25))) 7 (.ref (wB (wC b) + 87))) 8 (.int 0)) 9 (.int 0)) 0 (.ref (wB (wC b) + 2)))) :: [(0, g)]) o [] mth_X1_init ⟨rfl, ivi_X1_init⟩ mn_RX0_50 ⟨Nat.le_of_ble_eq_true rfl, Nat.le_of_ble_eq_true rfl⟩ rfl rfl (Nat.le_of_ble_eq_true rfl) ⟨Nat.le_of_ble_eq_true rfl, Nat.le_of_ble_eq_true rfl⟩ d_X0_init_106 (w_X1_init (xL x) b (show IsS 154 from ⟨1, by decide, rfl⟩) _) ?_
  refine JO_aast (ia := 1) (c := 1) (op1 := (24, (updV (updV (fun _ => Value.null) 0 (.ref (wB (wC b) + 90))) 1 (.ref (wB (wC b) + 154)))) :: (19, (updV (updV (updV (updV (updV (updV (updV (updV (updV (updV (fun j => defaultValue (tY 0 j)) 1 (.ref (wB (wC b) + 20))) 2 (.ref (wB (wC b) + 21))) 3 (.ref (wB (wC b) + 22))) 4 (.ref (wB (wC b) + 23))) 5 (.ref (wB (wC b) + 24))) 6 (.ref (wB (wC b) + 25))) 7 (.ref (wB (wC b) + 87))) 8 (.int 0)) 9 (.int 0)) 0 (.ref (wB (wC b) + 2)))) :: [(0, g)]) o 0 (by decide) (by decide) rfl rfl rfl rfl (Nat.le_of_ble_eq_true rfl) (Nat.le_of_ble_eq_true rfl) (List.forall_mem_cons.mpr ⟨Nat.ne_of_beq_eq_false rfl, (List.forall_mem_cons.mpr ⟨Nat.ne_of_beq_eq_false rfl, (List.forall_mem_cons.mpr ⟨Nat.ne_of_beq_eq_false rfl, (fun _ h => by cases h)⟩)⟩)⟩) (by decide) (by decide) rfl d_X0_init_109 ?_
  refine JO_iinc (v2 := 1) (lv' := [(2, .int 2), (0, .ref (wB (wC b) + 19)), (1, .ref (wB (wC b) + 2))]) o 0 d_X0_init_110 (by decide) rfl (by decide) rfl ?_
  refine JO_goto o 88 d_X0_init_113 (by decide) ?_
  refine JO_iload_n (v := 2) o 0 d_X0_init_88 rfl ?_
  refine JO_aload_n o 1 d_X0_init_89 rfl ?_
  refine JO_get (v := .ref (wB (wC b) + 24)) o 1 fl_RX0_26 rfl rfl rfl rfl d_X0_init_90 ?_
  refine JO_alen (ia := 1) (m := 3) o 0 (by decide) rfl rfl rfl d_X0_init_93 ?_
  refine JO_icmp_ge o 116 d_X0_init_94 (by decide) (fun h => absurd h (show ¬ ((3 : Int32) ≤ 2) by decide)) (fun _ => ?_)
  refine JO_aload_n o 1 d_X0_init_97 rfl ?_
  refine JO_get (v := .ref (wB (wC b) + 24)) o 1 fl_RX0_26 rfl rfl rfl rfl d_X0_init_98 ?_
  refine JO_iload_n (v := 2) o 0 d_X0_init_101 rfl ?_
  refine JO_new (c := 1) (n1 := 219) o (by decide) rfl la_1 ck_RX0_24 ia_1 in_1 ⟨Nat.le_of_ble_eq_true rfl, Nat.le_of_ble_eq_true rfl⟩ rfl d_X0_init_102 ?_
  refine JO_dup o d_X0_init_105 rfl ?_
  refine JO_callN (b := wB (wC b) + 218) (n1 := 282) (op1 := (24, (updV (updV (fun _ => Value.null) 0 (.ref (wB (wC b) + 90))) 1 (.ref (wB (wC b) + 154)))) :: (19, (updV (updV (updV (updV (updV (updV (updV (updV (updV (updV (fun j => defaultValue (tY 0 j)) 1 (.ref (wB (wC b) + 20))) 2 (.ref (wB (wC b) + 21))) 3 (.ref (wB (wC b) + 22))) 4 (.ref (wB (wC b) + 23))) 5 (.ref (wB (wC b) + 24))) 6 (.ref (wB (wC b) + 25))) 7 (.ref (wB (wC b) + 87))) 8 (.int 0)) 9 (.int 0)) 0 (.ref (wB (wC b) + 2)))) :: [(0, g)]) o [] mth_X1_init ⟨rfl, ivi_X1_init⟩ mn_RX0_50 ⟨Nat.le_of_ble_eq_true rfl, Nat.le_of_ble_eq_true rfl⟩ rfl rfl (Nat.le_of_ble_eq_true rfl) ⟨Nat.le_of_ble_eq_true rfl, Nat.le_of_ble_eq_true rfl⟩ d_X0_init_106 (w_X1_init (xL x) b (show IsS 218 from ⟨2, by decide, rfl⟩) _) ?_
  refine JO_aast (ia := 1) (c := 1) (op1 := (24, (updV (updV (updV (fun _ => Value.null) 0 (.ref (wB (wC b) + 90))) 1 (.ref (wB (wC b) + 154))) 2 (.ref (wB (wC b) + 218)))) :: (19, (updV (updV (updV (updV (updV (updV (updV (updV (updV (updV (fun j => defaultValue (tY 0 j)) 1 (.ref (wB (wC b) + 20))) 2 (.ref (wB (wC b) + 21))) 3 (.ref (wB (wC b) + 22))) 4 (.ref (wB (wC b) + 23))) 5 (.ref (wB (wC b) + 24))) 6 (.ref (wB (wC b) + 25))) 7 (.ref (wB (wC b) + 87))) 8 (.int 0)) 9 (.int 0)) 0 (.ref (wB (wC b) + 2)))) :: [(0, g)]) o 0 (by decide) (by decide) rfl rfl rfl rfl (Nat.le_of_ble_eq_true rfl) (Nat.le_of_ble_eq_true rfl) (List.forall_mem_cons.mpr ⟨Nat.ne_of_beq_eq_false rfl, (List.forall_mem_cons.mpr ⟨Nat.ne_of_beq_eq_false rfl, (List.forall_mem_cons.mpr ⟨Nat.ne_of_beq_eq_false rfl, (fun _ h => by cases h)⟩)⟩)⟩) (by decide) (by decide) rfl d_X0_init_109 ?_
  refine JO_iinc (v2 := 1) (lv' := [(2, .int 3), (0, .ref (wB (wC b) + 19)), (1, .ref (wB (wC b) + 2))]) o 0 d_X0_init_110 (by decide) rfl (by decide) rfl ?_
  refine JO_goto o 88 d_X0_init_113 (by decide) ?_
  refine JO_iload_n (v := 3) o 0 d_X0_init_88 rfl ?_
  refine JO_aload_n o 1 d_X0_init_89 rfl ?_
  refine JO_get (v := .ref (wB (wC b) + 24)) o 1 fl_RX0_26 rfl rfl rfl rfl d_X0_init_90 ?_
  refine JO_alen (ia := 1) (m := 3) o 0 (by decide) rfl rfl rfl d_X0_init_93 ?_
  refine JO_icmp_ge o 116 d_X0_init_94 (by decide) (fun _ => ?_) (fun h => absurd (show (3 : Int32) ≤ 3 by decide) h)
  refine JO_shut (fun j hj => ?_) ?_
  · have hj : j < 3 := by
      unfold szC at hj
      rw [show kd 24 = 7 from rfl] at hj
      exact hj
    rcases (show j = 0 ∨ j = 1 ∨ j = 2 by omega) with rfl | rfl | rfl
    · exact Eq.trans (b := Value.ref (wB (wC b) + 90)) rfl (vS_arr (i := 1) (n := 0) (t := 90) (k := 24) (by decide) rfl rfl).symm
    · exact Eq.trans (b := Value.ref (wB (wC b) + 154)) rfl (vS_arr (i := 1) (n := 1) (t := 154) (k := 24) (by decide) rfl rfl).symm
    · exact Eq.trans (b := Value.ref (wB (wC b) + 218)) rfl (vS_arr (i := 1) (n := 2) (t := 218) (k := 24) (by decide) rfl rfl).symm
  refine JO_shut (fun j hj => ?_) ?_
  · have hj : j < 10 := by
      unfold szC at hj
      rw [show kd 19 = 0 from rfl] at hj
      exact hj
    rcases (show j = 0 ∨ j = 1 ∨ j = 2 ∨ j = 3 ∨ j = 4 ∨ j = 5 ∨ j = 6 ∨ j = 7 ∨ j = 8 ∨ j = 9 by omega) with rfl | rfl | rfl | rfl | rfl | rfl | rfl | rfl | rfl | rfl
    · exact Eq.trans (b := Value.ref (wB (wC b) + 2)) rfl (vS_ref (c := 0) (k := 19) (j := 0) (t := 2) rfl (by decide) rfl rfl).symm
    · exact Eq.trans (b := Value.ref (wB (wC b) + 20)) rfl (vS_ref (c := 0) (k := 19) (j := 1) (t := 20) rfl (by decide) rfl rfl).symm
    · exact Eq.trans (b := Value.ref (wB (wC b) + 21)) rfl (vS_ref (c := 0) (k := 19) (j := 2) (t := 21) rfl (by decide) rfl rfl).symm
    · exact Eq.trans (b := Value.ref (wB (wC b) + 22)) rfl (vS_ref (c := 0) (k := 19) (j := 3) (t := 22) rfl (by decide) rfl rfl).symm
    · exact Eq.trans (b := Value.ref (wB (wC b) + 23)) rfl (vS_ref (c := 0) (k := 19) (j := 4) (t := 23) rfl (by decide) rfl rfl).symm
    · exact Eq.trans (b := Value.ref (wB (wC b) + 24)) rfl (vS_ref (c := 0) (k := 19) (j := 5) (t := 24) rfl (by decide) rfl rfl).symm
    · exact Eq.trans (b := Value.ref (wB (wC b) + 25)) rfl (vS_ref (c := 0) (k := 19) (j := 6) (t := 25) rfl (by decide) rfl rfl).symm
    · exact Eq.trans (b := Value.ref (wB (wC b) + 87)) rfl (vS_ref (c := 0) (k := 19) (j := 7) (t := 87) rfl (by decide) rfl rfl).symm
    · exact Eq.trans (b := Value.int 0) rfl (vS_int (c := 0) rfl (by decide) rfl (by unfold s0; rw [show kd 19 = 0 from rfl]; rfl)).symm
    · exact Eq.trans (b := Value.int 0) rfl (vS_int (c := 0) rfl (by decide) rfl (by unfold s0; rw [show kd 19 = 0 from rfl]; rfl)).symm
  exact JO_ret o d_X0_init_116
set_option maxHeartbeats 4000000 in
set_option maxRecDepth 20000 in
theorem w_X4_init (l : Launch) (b : Wy) {K : Sg → Prop} (h : m_X3_beginSmall 2 s0 K) : Met l yX4_init (.code yX4_init cX4_init 2 none :: TBL) rm_X4_init (PreO (wC b) [.ref (wB (wC b) + 0)] ((0, (fun j => defaultValue (tY 4 j))) :: []) 1) (PostC (wC b) (PV K)) rm_X4_init.cells rm_X4_init.slots (Fr (wC b)) := by
  refine Met.ofJO (own := RX4) (by decide +kernel) rfl rfl (Nat.le_of_ble_eq_true rfl) (fun x hx o hnm hz => ?_)
  subst hx
  have hz : (xS x).heap.size = wB (wC b) + 1 := hz
  rw [fr_ar (b1 := 1) hz ⟨Nat.le_of_ble_eq_true rfl, Nat.le_of_ble_eq_true rfl⟩]
  show JO x (wC b) (FinC x (wC b) (PV K) (rm_X4_init.cells, rm_X4_init.slots)) 0 [(0, .ref (wB (wC b) + 0))] [] (0, 0) ((0, (fun j => defaultValue (tY 4 j))) :: []) 1
  refine JO_aload_n o 0 d_X4_init_0 rfl ?_
  refine JO_objInit o oi_RX4 oi_i oi_c ⟨Nat.le_of_ble_eq_true rfl, Nat.le_of_ble_eq_true rfl⟩ d_X4_init_1 ?_
  refine JO_aload_n o 0 d_X4_init_4 rfl ?_
  refine JO_sipush (v := 400) o d_X4_init_5 (by decide) ?_
  refine JO_newI (n1 := 2) o rfl rfl ac_int (by decide) (by decide) (by decide) ⟨Nat.le_of_ble_eq_true rfl, Nat.le_of_ble_eq_true rfl⟩ rfl d_X4_init_8 ?_
  refine JO_putF (op1 := (0, (updV (fun j => defaultValue (tY 4 j)) 0 (.ref (wB (wC b) + 1)))) :: []) o hnm 0 fl_RX4_9 la_4 rfl rfl rfl rfl (by rfl) (by rfl) rfl d_X4_init_10 ?_
  refine JO_aload_n o 0 d_X4_init_13 rfl ?_
  refine JO_new (c := 3) (n1 := 3) o (by decide) rfl la_3 ck_RX4_13 ia_3 in_3 ⟨Nat.le_of_ble_eq_true rfl, Nat.le_of_ble_eq_true rfl⟩ rfl d_X4_init_14 ?_
  refine JO_dup o d_X4_init_17 rfl ?_
  refine JO_callN (b := wB (wC b) + 2) (n1 := 10) (op1 := (0, (updV (fun j => defaultValue (tY 4 j)) 0 (.ref (wB (wC b) + 1)))) :: []) o [] mth_X3_init ⟨rfl, ivi_X3_init⟩ mn_RX4_15 ⟨Nat.le_of_ble_eq_true rfl, Nat.le_of_ble_eq_true rfl⟩ rfl rfl (Nat.le_of_ble_eq_true rfl) ⟨Nat.le_of_ble_eq_true rfl, Nat.le_of_ble_eq_true rfl⟩ d_X4_init_18 (w_X3_init (xL x) b W_2 _) ?_
  refine JO_putF (op1 := (0, (updV (updV (fun j => defaultValue (tY 4 j)) 0 (.ref (wB (wC b) + 1))) 1 (.ref (wB (wC b) + 2)))) :: []) o hnm 0 fl_RX4_16 la_4 rfl rfl rfl rfl (by rfl) (by rfl) rfl d_X4_init_21 ?_
  refine JO_aload_n o 0 d_X4_init_24 rfl ?_
  refine JO_new (c := 3) (n1 := 11) o (by decide) rfl la_3 ck_RX4_13 ia_3 in_3 ⟨Nat.le_of_ble_eq_true rfl, Nat.le_of_ble_eq_true rfl⟩ rfl d_X4_init_25 ?_
  refine JO_dup o d_X4_init_28 rfl ?_
  refine JO_callN (b := wB (wC b) + 10) (n1 := 18) (op1 := (0, (updV (updV (fun j => defaultValue (tY 4 j)) 0 (.ref (wB (wC b) + 1))) 1 (.ref (wB (wC b) + 2)))) :: []) o [] mth_X3_init ⟨rfl, ivi_X3_init⟩ mn_RX4_15 ⟨Nat.le_of_ble_eq_true rfl, Nat.le_of_ble_eq_true rfl⟩ rfl rfl (Nat.le_of_ble_eq_true rfl) ⟨Nat.le_of_ble_eq_true rfl, Nat.le_of_ble_eq_true rfl⟩ d_X4_init_29 (w_X3_init (xL x) b W_10 _) ?_
  refine JO_putF (op1 := (0, (updV (updV (updV (fun j => defaultValue (tY 4 j)) 0 (.ref (wB (wC b) + 1))) 1 (.ref (wB (wC b) + 2))) 2 (.ref (wB (wC b) + 10)))) :: []) o hnm 0 fl_RX4_20 la_4 rfl rfl rfl rfl (by rfl) (by rfl) rfl d_X4_init_32 ?_
  refine JO_aload_n o 0 d_X4_init_35 rfl ?_
  refine JO_new (c := 2) (n1 := 19) o (by decide) rfl la_2 ck_RX4_23 ia_2 in_2 ⟨Nat.le_of_ble_eq_true rfl, Nat.le_of_ble_eq_true rfl⟩ rfl d_X4_init_36 ?_
  refine JO_dup o d_X4_init_39 rfl ?_
  refine JO_aload_n o 0 d_X4_init_40 rfl ?_
  refine JO_get (v := .ref (wB (wC b) + 1)) o 1 fl_RX4_9 rfl rfl rfl rfl d_X4_init_41 ?_
  refine JO_aload_n o 0 d_X4_init_44 rfl ?_
  refine JO_get (v := .ref (wB (wC b) + 10)) o 1 fl_RX4_20 rfl rfl rfl rfl d_X4_init_45 ?_
  refine JO_call (b := wB (wC b) + 18) (n1 := 19) (op1 := (0, (updV (updV (updV (fun j => defaultValue (tY 4 j)) 0 (.ref (wB (wC b) + 1))) 1 (.ref (wB (wC b) + 2))) 2 (.ref (wB (wC b) + 10)))) :: []) o [.ref (wB (wC b) + 1), .ref (wB (wC b) + 10)] mth_X2_init ⟨rfl, ivi_X2_init⟩ ml_RX4_25 ⟨Nat.le_of_ble_eq_true rfl, Nat.le_of_ble_eq_true rfl⟩ rfl rfl (Nat.le_of_ble_eq_true rfl) ⟨Nat.le_of_ble_eq_true rfl, Nat.le_of_ble_eq_true rfl⟩ d_X4_init_48 (w_X2_init (xL x) b _) ?_
  refine JO_putF (op1 := (0, (updV (updV (updV (updV (fun j => defaultValue (tY 4 j)) 0 (.ref (wB (wC b) + 1))) 1 (.ref (wB (wC b) + 2))) 2 (.ref (wB (wC b) + 10))) 3 (.ref (wB (wC b) + 18)))) :: []) o hnm 0 fl_RX4_28 la_4 rfl rfl rfl rfl (by rfl) (by rfl) rfl d_X4_init_51 ?_
  refine JO_aload_n o 0 d_X4_init_54 rfl ?_
  refine JO_new (c := 0) (n1 := 20) o (by decide) rfl la_0 ck_RX4_32 ia_0 in_0 ⟨Nat.le_of_ble_eq_true rfl, Nat.le_of_ble_eq_true rfl⟩ rfl d_X4_init_55 ?_
  refine JO_dup o d_X4_init_58 rfl ?_
  refine JO_aload_n o 0 d_X4_init_59 rfl ?_
  refine JO_get (v := .ref (wB (wC b) + 2)) o 1 fl_RX4_16 rfl rfl rfl rfl d_X4_init_60 ?_
  refine JO_call (b := wB (wC b) + 19) (n1 := 282) (op1 := (0, (updV (updV (updV (updV (fun j => defaultValue (tY 4 j)) 0 (.ref (wB (wC b) + 1))) 1 (.ref (wB (wC b) + 2))) 2 (.ref (wB (wC b) + 10))) 3 (.ref (wB (wC b) + 18)))) :: []) o [.ref (wB (wC b) + 2)] mth_X0_init ⟨rfl, ivi_X0_init⟩ ml_RX4_34 ⟨Nat.le_of_ble_eq_true rfl, Nat.le_of_ble_eq_true rfl⟩ rfl rfl (Nat.le_of_ble_eq_true rfl) ⟨Nat.le_of_ble_eq_true rfl, Nat.le_of_ble_eq_true rfl⟩ d_X4_init_63 (w_X0_init (xL x) b _) ?_
  refine JO_putF (op1 := (0, (updV (updV (updV (updV (updV (fun j => defaultValue (tY 4 j)) 0 (.ref (wB (wC b) + 1))) 1 (.ref (wB (wC b) + 2))) 2 (.ref (wB (wC b) + 10))) 3 (.ref (wB (wC b) + 18))) 4 (.ref (wB (wC b) + 19)))) :: []) o hnm 0 fl_RX4_37 la_4 rfl rfl rfl rfl (by rfl) (by rfl) rfl d_X4_init_66 ?_
  refine JO_aload_n o 0 d_X4_init_69 rfl ?_
  refine JO_bipush (v := 8) o d_X4_init_70 (by decide) ?_
  refine JO_newQ (i := 2) (n1 := 283) o (by decide) rfl rfl rfl ck_RX4_13 o.2.2.2.1 (by decide) (by decide) (by decide) ⟨Nat.le_of_ble_eq_true rfl, Nat.le_of_ble_eq_true rfl⟩ rfl d_X4_init_72 ?_
  refine JO_putF (op1 := (282, (fun _ => Value.null)) :: (0, (updV (updV (updV (updV (updV (updV (fun j => defaultValue (tY 4 j)) 0 (.ref (wB (wC b) + 1))) 1 (.ref (wB (wC b) + 2))) 2 (.ref (wB (wC b) + 10))) 3 (.ref (wB (wC b) + 18))) 4 (.ref (wB (wC b) + 19))) 5 (.ref (wB (wC b) + 282)))) :: []) o hnm 1 fl_RX4_41 la_4 rfl rfl rfl rfl (by rfl) (by rfl) rfl d_X4_init_75 ?_
  refine JO_aload_n o 0 d_X4_init_78 rfl ?_
  refine JO_iconst (v := 0) o d_X4_init_79 (by decide) ?_
  refine JO_put (op1 := (282, (fun _ => Value.null)) :: (0, (updV (updV (updV (updV (updV (updV (updV (fun j => defaultValue (tY 4 j)) 0 (.ref (wB (wC b) + 1))) 1 (.ref (wB (wC b) + 2))) 2 (.ref (wB (wC b) + 10))) 3 (.ref (wB (wC b) + 18))) 4 (.ref (wB (wC b) + 19))) 5 (.ref (wB (wC b) + 282))) 6 (.int 0))) :: []) o 1 fl_RX4_45 la_4 rfl rfl rfl (by rfl) (by rfl) rfl d_X4_init_80 ?_
  refine JO_aload_n o 0 d_X4_init_83 rfl ?_
  refine JO_iconst (v := (-1)) o d_X4_init_84 (by decide) ?_
  refine JO_put (op1 := (282, (fun _ => Value.null)) :: (0, (updV (updV (updV (updV (updV (updV (updV (updV (fun j => defaultValue (tY 4 j)) 0 (.ref (wB (wC b) + 1))) 1 (.ref (wB (wC b) + 2))) 2 (.ref (wB (wC b) + 10))) 3 (.ref (wB (wC b) + 18))) 4 (.ref (wB (wC b) + 19))) 5 (.ref (wB (wC b) + 282))) 6 (.int 0)) 7 (.int (-1)))) :: []) o 1 fl_RX4_49 la_4 rfl rfl rfl (by rfl) (by rfl) rfl d_X4_init_85 ?_
  refine JO_aload_n o 0 d_X4_init_88 rfl ?_
  refine JO_iconst (v := 0) o d_X4_init_89 (by decide) ?_
  refine JO_put (op1 := (282, (fun _ => Value.null)) :: (0, (updV (updV (updV (updV (updV (updV (updV (updV (updV (fun j => defaultValue (tY 4 j)) 0 (.ref (wB (wC b) + 1))) 1 (.ref (wB (wC b) + 2))) 2 (.ref (wB (wC b) + 10))) 3 (.ref (wB (wC b) + 18))) 4 (.ref (wB (wC b) + 19))) 5 (.ref (wB (wC b) + 282))) 6 (.int 0)) 7 (.int (-1))) 8 (.int 0))) :: []) o 1 fl_RX4_52 la_4 rfl rfl rfl (by rfl) (by rfl) rfl d_X4_init_90 ?_
  refine JO_aload_n o 0 d_X4_init_93 rfl ?_
  refine JO_iconst (v := 0) o d_X4_init_94 (by decide) ?_
  refine JO_put (op1 := (282, (fun _ => Value.null)) :: (0, (updV (updV (updV (updV (updV (updV (updV (updV (updV (updV (fun j => defaultValue (tY 4 j)) 0 (.ref (wB (wC b) + 1))) 1 (.ref (wB (wC b) + 2))) 2 (.ref (wB (wC b) + 10))) 3 (.ref (wB (wC b) + 18))) 4 (.ref (wB (wC b) + 19))) 5 (.ref (wB (wC b) + 282))) 6 (.int 0)) 7 (.int (-1))) 8 (.int 0)) 9 (.int 0))) :: []) o 1 fl_RX4_55 la_4 rfl rfl rfl (by rfl) (by rfl) rfl d_X4_init_95 ?_
  refine JO_aload_n o 0 d_X4_init_98 rfl ?_
  refine JO_iconst (v := 0) o d_X4_init_99 (by decide) ?_
  refine JO_put (op1 := (282, (fun _ => Value.null)) :: (0, (updV (updV (updV (updV (updV (updV (updV (updV (updV (updV (updV (fun j => defaultValue (tY 4 j)) 0 (.ref (wB (wC b) + 1))) 1 (.ref (wB (wC b) + 2))) 2 (.ref (wB (wC b) + 10))) 3 (.ref (wB (wC b) + 18))) 4 (.ref (wB (wC b) + 19))) 5 (.ref (wB (wC b) + 282))) 6 (.int 0)) 7 (.int (-1))) 8 (.int 0)) 9 (.int 0)) 10 (.int 0))) :: []) o 1 fl_RX4_58 la_4 rfl rfl rfl (by rfl) (by rfl) rfl d_X4_init_100 ?_
  refine JO_aload_n o 0 d_X4_init_103 rfl ?_
  refine JO_iconst (v := 0) o d_X4_init_104 (by decide) ?_
  refine JO_put (op1 := (282, (fun _ => Value.null)) :: (0, (updV (updV (updV (updV (updV (updV (updV (updV (updV (updV (updV (updV (fun j => defaultValue (tY 4 j)) 0 (.ref (wB (wC b) + 1))) 1 (.ref (wB (wC b) + 2))) 2 (.ref (wB (wC b) + 10))) 3 (.ref (wB (wC b) + 18))) 4 (.ref (wB (wC b) + 19))) 5 (.ref (wB (wC b) + 282))) 6 (.int 0)) 7 (.int (-1))) 8 (.int 0)) 9 (.int 0)) 10 (.int 0)) 11 (.int 0))) :: []) o 1 fl_RX4_61 la_4 rfl rfl rfl (by rfl) (by rfl) rfl d_X4_init_105 ?_
  refine JO_aload_n o 0 d_X4_init_108 rfl ?_
  refine JO_iconst (v := 0) o d_X4_init_109 (by decide) ?_
  refine JO_put (op1 := (282, (fun _ => Value.null)) :: (0, (updV (updV (updV (updV (updV (updV (updV (updV (updV (updV (updV (updV (updV (fun j => defaultValue (tY 4 j)) 0 (.ref (wB (wC b) + 1))) 1 (.ref (wB (wC b) + 2))) 2 (.ref (wB (wC b) + 10))) 3 (.ref (wB (wC b) + 18))) 4 (.ref (wB (wC b) + 19))) 5 (.ref (wB (wC b) + 282))) 6 (.int 0)) 7 (.int (-1))) 8 (.int 0)) 9 (.int 0)) 10 (.int 0)) 11 (.int 0)) 12 (.int 0))) :: []) o 1 fl_RX4_64 la_4 rfl rfl rfl (by rfl) (by rfl) rfl d_X4_init_110 ?_
  refine JO_iconst (v := 0) o d_X4_init_113 (by decide) ?_
  refine JO_istore_n (lv' := [(1, .int 0), (0, .ref (wB (wC b) + 0))]) o d_X4_init_114 (by decide) rfl ?_
  refine JO_iload_n (v := 0) o 0 d_X4_init_115 rfl ?_
  refine JO_aload_n o 1 d_X4_init_116 rfl ?_
  refine JO_get (v := .ref (wB (wC b) + 282)) o 1 fl_RX4_41 rfl rfl rfl rfl d_X4_init_117 ?_
  refine JO_alen (ia := 2) (m := 8) o 0 (by decide) rfl rfl rfl d_X4_init_120 ?_
  refine JO_icmp_ge o 143 d_X4_init_121 (by decide) (fun h => absurd h (show ¬ ((8 : Int32) ≤ 0) by decide)) (fun _ => ?_)
  refine JO_aload_n o 1 d_X4_init_124 rfl ?_
  refine JO_get (v := .ref (wB (wC b) + 282)) o 1 fl_RX4_41 rfl rfl rfl rfl d_X4_init_125 ?_
  refine JO_iload_n (v := 0) o 0 d_X4_init_128 rfl ?_
  refine JO_new (c := 3) (n1 := 284) o (by decide) rfl la_3 ck_RX4_13 ia_3 in_3 ⟨Nat.le_of_ble_eq_true rfl, Nat.le_of_ble_eq_true rfl⟩ rfl d_X4_init_129 ?_
  refine JO_dup o d_X4_init_132 rfl ?_
  refine JO_callN (b := wB (wC b) + 283) (n1 := 291) (op1 := (282, (fun _ => Value.null)) :: (0, (updV (updV (updV (updV (updV (updV (updV (updV (updV (updV (updV (updV (updV (fun j => defaultValue (tY 4 j)) 0 (.ref (wB (wC b) + 1))) 1 (.ref (wB (wC b) + 2))) 2 (.ref (wB (wC b) + 10))) 3 (.ref (wB (wC b) + 18))) 4 (.ref (wB (wC b) + 19))) 5 (.ref (wB (wC b) + 282))) 6 (.int 0)) 7 (.int (-1))) 8 (.int 0)) 9 (.int 0)) 10 (.int 0)) 11 (.int 0)) 12 (.int 0))) :: []) o [] mth_X3_init ⟨rfl, ivi_X3_init⟩ mn_RX4_15 ⟨Nat.le_of_ble_eq_true rfl, Nat.le_of_ble_eq_true rfl⟩ rfl rfl (Nat.le_of_ble_eq_true rfl) ⟨Nat.le_of_ble_eq_true rfl, Nat.le_of_ble_eq_true rfl⟩ d_X4_init_133 (w_X3_init (xL x) b (show IsW 283 from Or.inr (Or.inr ⟨0, by decide, rfl⟩)) _) ?_
  refine JO_aast (ia := 2) (c := 3) (op1 := (282, (updV (fun _ => Value.null) 0 (.ref (wB (wC b) + 283)))) :: (0, (updV (updV (updV (updV (updV (updV (updV (updV (updV (updV (updV (updV (updV (fun j => defaultValue (tY 4 j)) 0 (.ref (wB (wC b) + 1))) 1 (.ref (wB (wC b) + 2))) 2 (.ref (wB (wC b) + 10))) 3 (.ref (wB (wC b) + 18))) 4 (.ref (wB (wC b) + 19))) 5 (.ref (wB (wC b) + 282))) 6 (.int 0)) 7 (.int (-1))) 8 (.int 0)) 9 (.int 0)) 10 (.int 0)) 11 (.int 0)) 12 (.int 0))) :: []) o 0 (by decide) (by decide) rfl rfl rfl rfl (Nat.le_of_ble_eq_true rfl) (Nat.le_of_ble_eq_true rfl) (List.forall_mem_cons.mpr ⟨Nat.ne_of_beq_eq_false rfl, (List.forall_mem_cons.mpr ⟨Nat.ne_of_beq_eq_false rfl, (fun _ h => by cases h)⟩)⟩) (by decide) (by decide) rfl d_X4_init_136 ?_
  refine JO_iinc (v2 := 1) (lv' := [(1, .int 1), (0, .ref (wB (wC b) + 0))]) o 0 d_X4_init_137 (by decide) rfl (by decide) rfl ?_
  refine JO_goto o 115 d_X4_init_140 (by decide) ?_
  refine JO_iload_n (v := 1) o 0 d_X4_init_115 rfl ?_
  refine JO_aload_n o 1 d_X4_init_116 rfl ?_
  refine JO_get (v := .ref (wB (wC b) + 282)) o 1 fl_RX4_41 rfl rfl rfl rfl d_X4_init_117 ?_
  refine JO_alen (ia := 2) (m := 8) o 0 (by decide) rfl rfl rfl d_X4_init_120 ?_
  refine JO_icmp_ge o 143 d_X4_init_121 (by decide) (fun h => absurd h (show ¬ ((8 : Int32) ≤ 1) by decide)) (fun _ => ?_)
  refine JO_aload_n o 1 d_X4_init_124 rfl ?_
  refine JO_get (v := .ref (wB (wC b) + 282)) o 1 fl_RX4_41 rfl rfl rfl rfl d_X4_init_125 ?_
  refine JO_iload_n (v := 1) o 0 d_X4_init_128 rfl ?_
  refine JO_new (c := 3) (n1 := 292) o (by decide) rfl la_3 ck_RX4_13 ia_3 in_3 ⟨Nat.le_of_ble_eq_true rfl, Nat.le_of_ble_eq_true rfl⟩ rfl d_X4_init_129 ?_
  refine JO_dup o d_X4_init_132 rfl ?_
  refine JO_callN (b := wB (wC b) + 291) (n1 := 299) (op1 := (282, (updV (fun _ => Value.null) 0 (.ref (wB (wC b) + 283)))) :: (0, (updV (updV (updV (updV (updV (updV (updV (updV (updV (updV (updV (updV (updV (fun j => defaultValue (tY 4 j)) 0 (.ref (wB (wC b) + 1))) 1 (.ref (wB (wC b) + 2))) 2 (.ref (wB (wC b) + 10))) 3 (.ref (wB (wC b) + 18))) 4 (.ref (wB (wC b) + 19))) 5 (.ref (wB (wC b) + 282))) 6 (.int 0)) 7 (.int (-1))) 8 (.int 0)) 9 (.int 0)) 10 (.int 0)) 11 (.int 0)) 12 (.int 0))) :: []) o [] mth_X3_init ⟨rfl, ivi_X3_init⟩ mn_RX4_15 ⟨Nat.le_of_ble_eq_true rfl, Nat.le_of_ble_eq_true rfl⟩ rfl rfl (Nat.le_of_ble_eq_true rfl) ⟨Nat.le_of_ble_eq_true rfl, Nat.le_of_ble_eq_true rfl⟩ d_X4_init_133 (w_X3_init (xL x) b (show IsW 291 from Or.inr (Or.inr ⟨1, by decide, rfl⟩)) _) ?_
  refine JO_aast (ia := 2) (c := 3) (op1 := (282, (updV (updV (fun _ => Value.null) 0 (.ref (wB (wC b) + 283))) 1 (.ref (wB (wC b) + 291)))) :: (0, (updV (updV (updV (updV (updV (updV (updV (updV (updV (updV (updV (updV (updV (fun j => defaultValue (tY 4 j)) 0 (.ref (wB (wC b) + 1))) 1 (.ref (wB (wC b) + 2))) 2 (.ref (wB (wC b) + 10))) 3 (.ref (wB (wC b) + 18))) 4 (.ref (wB (wC b) + 19))) 5 (.ref (wB (wC b) + 282))) 6 (.int 0)) 7 (.int (-1))) 8 (.int 0)) 9 (.int 0)) 10 (.int 0)) 11 (.int 0)) 12 (.int 0))) :: []) o 0 (by decide) (by decide) rfl rfl rfl rfl (Nat.le_of_ble_eq_true rfl) (Nat.le_of_ble_eq_true rfl) (List.forall_mem_cons.mpr ⟨Nat.ne_of_beq_eq_false rfl, (List.forall_mem_cons.mpr ⟨Nat.ne_of_beq_eq_false rfl, (fun _ h => by cases h)⟩)⟩) (by decide) (by decide) rfl d_X4_init_136 ?_
  refine JO_iinc (v2 := 1) (lv' := [(1, .int 2), (0, .ref (wB (wC b) + 0))]) o 0 d_X4_init_137 (by decide) rfl (by decide) rfl ?_
  refine JO_goto o 115 d_X4_init_140 (by decide) ?_
  refine JO_iload_n (v := 2) o 0 d_X4_init_115 rfl ?_
  refine JO_aload_n o 1 d_X4_init_116 rfl ?_
  refine JO_get (v := .ref (wB (wC b) + 282)) o 1 fl_RX4_41 rfl rfl rfl rfl d_X4_init_117 ?_
  refine JO_alen (ia := 2) (m := 8) o 0 (by decide) rfl rfl rfl d_X4_init_120 ?_
  refine JO_icmp_ge o 143 d_X4_init_121 (by decide) (fun h => absurd h (show ¬ ((8 : Int32) ≤ 2) by decide)) (fun _ => ?_)
  refine JO_aload_n o 1 d_X4_init_124 rfl ?_
  refine JO_get (v := .ref (wB (wC b) + 282)) o 1 fl_RX4_41 rfl rfl rfl rfl d_X4_init_125 ?_
  refine JO_iload_n (v := 2) o 0 d_X4_init_128 rfl ?_
  refine JO_new (c := 3) (n1 := 300) o (by decide) rfl la_3 ck_RX4_13 ia_3 in_3 ⟨Nat.le_of_ble_eq_true rfl, Nat.le_of_ble_eq_true rfl⟩ rfl d_X4_init_129 ?_
  refine JO_dup o d_X4_init_132 rfl ?_
  refine JO_callN (b := wB (wC b) + 299) (n1 := 307) (op1 := (282, (updV (updV (fun _ => Value.null) 0 (.ref (wB (wC b) + 283))) 1 (.ref (wB (wC b) + 291)))) :: (0, (updV (updV (updV (updV (updV (updV (updV (updV (updV (updV (updV (updV (updV (fun j => defaultValue (tY 4 j)) 0 (.ref (wB (wC b) + 1))) 1 (.ref (wB (wC b) + 2))) 2 (.ref (wB (wC b) + 10))) 3 (.ref (wB (wC b) + 18))) 4 (.ref (wB (wC b) + 19))) 5 (.ref (wB (wC b) + 282))) 6 (.int 0)) 7 (.int (-1))) 8 (.int 0)) 9 (.int 0)) 10 (.int 0)) 11 (.int 0)) 12 (.int 0))) :: []) o [] mth_X3_init ⟨rfl, ivi_X3_init⟩ mn_RX4_15 ⟨Nat.le_of_ble_eq_true rfl, Nat.le_of_ble_eq_true rfl⟩ rfl rfl (Nat.le_of_ble_eq_true rfl) ⟨Nat.le_of_ble_eq_true rfl, Nat.le_of_ble_eq_true rfl⟩ d_X4_init_133 (w_X3_init (xL x) b (show IsW 299 from Or.inr (Or.inr ⟨2, by decide, rfl⟩)) _) ?_
  refine JO_aast (ia := 2) (c := 3) (op1 := (282, (updV (updV (updV (fun _ => Value.null) 0 (.ref (wB (wC b) + 283))) 1 (.ref (wB (wC b) + 291))) 2 (.ref (wB (wC b) + 299)))) :: (0, (updV (updV (updV (updV (updV (updV (updV (updV (updV (updV (updV (updV (updV (fun j => defaultValue (tY 4 j)) 0 (.ref (wB (wC b) + 1))) 1 (.ref (wB (wC b) + 2))) 2 (.ref (wB (wC b) + 10))) 3 (.ref (wB (wC b) + 18))) 4 (.ref (wB (wC b) + 19))) 5 (.ref (wB (wC b) + 282))) 6 (.int 0)) 7 (.int (-1))) 8 (.int 0)) 9 (.int 0)) 10 (.int 0)) 11 (.int 0)) 12 (.int 0))) :: []) o 0 (by decide) (by decide) rfl rfl rfl rfl (Nat.le_of_ble_eq_true rfl) (Nat.le_of_ble_eq_true rfl) (List.forall_mem_cons.mpr ⟨Nat.ne_of_beq_eq_false rfl, (List.forall_mem_cons.mpr ⟨Nat.ne_of_beq_eq_false rfl, (fun _ h => by cases h)⟩)⟩) (by decide) (by decide) rfl d_X4_init_136 ?_
  refine JO_iinc (v2 := 1) (lv' := [(1, .int 3), (0, .ref (wB (wC b) + 0))]) o 0 d_X4_init_137 (by decide) rfl (by decide) rfl ?_
  refine JO_goto o 115 d_X4_init_140 (by decide) ?_
  refine JO_iload_n (v := 3) o 0 d_X4_init_115 rfl ?_
  refine JO_aload_n o 1 d_X4_init_116 rfl ?_
  refine JO_get (v := .ref (wB (wC b) + 282)) o 1 fl_RX4_41 rfl rfl rfl rfl d_X4_init_117 ?_
  refine JO_alen (ia := 2) (m := 8) o 0 (by decide) rfl rfl rfl d_X4_init_120 ?_
  refine JO_icmp_ge o 143 d_X4_init_121 (by decide) (fun h => absurd h (show ¬ ((8 : Int32) ≤ 3) by decide)) (fun _ => ?_)
  refine JO_aload_n o 1 d_X4_init_124 rfl ?_
  refine JO_get (v := .ref (wB (wC b) + 282)) o 1 fl_RX4_41 rfl rfl rfl rfl d_X4_init_125 ?_
  refine JO_iload_n (v := 3) o 0 d_X4_init_128 rfl ?_
  refine JO_new (c := 3) (n1 := 308) o (by decide) rfl la_3 ck_RX4_13 ia_3 in_3 ⟨Nat.le_of_ble_eq_true rfl, Nat.le_of_ble_eq_true rfl⟩ rfl d_X4_init_129 ?_
  refine JO_dup o d_X4_init_132 rfl ?_
  refine JO_callN (b := wB (wC b) + 307) (n1 := 315) (op1 := (282, (updV (updV (updV (fun _ => Value.null) 0 (.ref (wB (wC b) + 283))) 1 (.ref (wB (wC b) + 291))) 2 (.ref (wB (wC b) + 299)))) :: (0, (updV (updV (updV (updV (updV (updV (updV (updV (updV (updV (updV (updV (updV (fun j => defaultValue (tY 4 j)) 0 (.ref (wB (wC b) + 1))) 1 (.ref (wB (wC b) + 2))) 2 (.ref (wB (wC b) + 10))) 3 (.ref (wB (wC b) + 18))) 4 (.ref (wB (wC b) + 19))) 5 (.ref (wB (wC b) + 282))) 6 (.int 0)) 7 (.int (-1))) 8 (.int 0)) 9 (.int 0)) 10 (.int 0)) 11 (.int 0)) 12 (.int 0))) :: []) o [] mth_X3_init ⟨rfl, ivi_X3_init⟩ mn_RX4_15 ⟨Nat.le_of_ble_eq_true rfl, Nat.le_of_ble_eq_true rfl⟩ rfl rfl (Nat.le_of_ble_eq_true rfl) ⟨Nat.le_of_ble_eq_true rfl, Nat.le_of_ble_eq_true rfl⟩ d_X4_init_133 (w_X3_init (xL x) b (show IsW 307 from Or.inr (Or.inr ⟨3, by decide, rfl⟩)) _) ?_
  refine JO_aast (ia := 2) (c := 3) (op1 := (282, (updV (updV (updV (updV (fun _ => Value.null) 0 (.ref (wB (wC b) + 283))) 1 (.ref (wB (wC b) + 291))) 2 (.ref (wB (wC b) + 299))) 3 (.ref (wB (wC b) + 307)))) :: (0, (updV (updV (updV (updV (updV (updV (updV (updV (updV (updV (updV (updV (updV (fun j => defaultValue (tY 4 j)) 0 (.ref (wB (wC b) + 1))) 1 (.ref (wB (wC b) + 2))) 2 (.ref (wB (wC b) + 10))) 3 (.ref (wB (wC b) + 18))) 4 (.ref (wB (wC b) + 19))) 5 (.ref (wB (wC b) + 282))) 6 (.int 0)) 7 (.int (-1))) 8 (.int 0)) 9 (.int 0)) 10 (.int 0)) 11 (.int 0)) 12 (.int 0))) :: []) o 0 (by decide) (by decide) rfl rfl rfl rfl (Nat.le_of_ble_eq_true rfl) (Nat.le_of_ble_eq_true rfl) (List.forall_mem_cons.mpr ⟨Nat.ne_of_beq_eq_false rfl, (List.forall_mem_cons.mpr ⟨Nat.ne_of_beq_eq_false rfl, (fun _ h => by cases h)⟩)⟩) (by decide) (by decide) rfl d_X4_init_136 ?_
  refine JO_iinc (v2 := 1) (lv' := [(1, .int 4), (0, .ref (wB (wC b) + 0))]) o 0 d_X4_init_137 (by decide) rfl (by decide) rfl ?_
  refine JO_goto o 115 d_X4_init_140 (by decide) ?_
  refine JO_iload_n (v := 4) o 0 d_X4_init_115 rfl ?_
  refine JO_aload_n o 1 d_X4_init_116 rfl ?_
  refine JO_get (v := .ref (wB (wC b) + 282)) o 1 fl_RX4_41 rfl rfl rfl rfl d_X4_init_117 ?_
  refine JO_alen (ia := 2) (m := 8) o 0 (by decide) rfl rfl rfl d_X4_init_120 ?_
  refine JO_icmp_ge o 143 d_X4_init_121 (by decide) (fun h => absurd h (show ¬ ((8 : Int32) ≤ 4) by decide)) (fun _ => ?_)
  refine JO_aload_n o 1 d_X4_init_124 rfl ?_
  refine JO_get (v := .ref (wB (wC b) + 282)) o 1 fl_RX4_41 rfl rfl rfl rfl d_X4_init_125 ?_
  refine JO_iload_n (v := 4) o 0 d_X4_init_128 rfl ?_
  refine JO_new (c := 3) (n1 := 316) o (by decide) rfl la_3 ck_RX4_13 ia_3 in_3 ⟨Nat.le_of_ble_eq_true rfl, Nat.le_of_ble_eq_true rfl⟩ rfl d_X4_init_129 ?_
  refine JO_dup o d_X4_init_132 rfl ?_
  refine JO_callN (b := wB (wC b) + 315) (n1 := 323) (op1 := (282, (updV (updV (updV (updV (fun _ => Value.null) 0 (.ref (wB (wC b) + 283))) 1 (.ref (wB (wC b) + 291))) 2 (.ref (wB (wC b) + 299))) 3 (.ref (wB (wC b) + 307)))) :: (0, (updV (updV (updV (updV (updV (updV (updV (updV (updV (updV (updV (updV (updV (fun j => defaultValue (tY 4 j)) 0 (.ref (wB (wC b) + 1))) 1 (.ref (wB (wC b) + 2))) 2 (.ref (wB (wC b) + 10))) 3 (.ref (wB (wC b) + 18))) 4 (.ref (wB (wC b) + 19))) 5 (.ref (wB (wC b) + 282))) 6 (.int 0)) 7 (.int (-1))) 8 (.int 0)) 9 (.int 0)) 10 (.int 0)) 11 (.int 0)) 12 (.int 0))) :: []) o [] mth_X3_init ⟨rfl, ivi_X3_init⟩ mn_RX4_15 ⟨Nat.le_of_ble_eq_true rfl, Nat.le_of_ble_eq_true rfl⟩ rfl rfl (Nat.le_of_ble_eq_true rfl) ⟨Nat.le_of_ble_eq_true rfl, Nat.le_of_ble_eq_true rfl⟩ d_X4_init_133 (w_X3_init (xL x) b (show IsW 315 from Or.inr (Or.inr ⟨4, by decide, rfl⟩)) _) ?_
  refine JO_aast (ia := 2) (c := 3) (op1 := (282, (updV (updV (updV (updV (updV (fun _ => Value.null) 0 (.ref (wB (wC b) + 283))) 1 (.ref (wB (wC b) + 291))) 2 (.ref (wB (wC b) + 299))) 3 (.ref (wB (wC b) + 307))) 4 (.ref (wB (wC b) + 315)))) :: (0, (updV (updV (updV (updV (updV (updV (updV (updV (updV (updV (updV (updV (updV (fun j => defaultValue (tY 4 j)) 0 (.ref (wB (wC b) + 1))) 1 (.ref (wB (wC b) + 2))) 2 (.ref (wB (wC b) + 10))) 3 (.ref (wB (wC b) + 18))) 4 (.ref (wB (wC b) + 19))) 5 (.ref (wB (wC b) + 282))) 6 (.int 0)) 7 (.int (-1))) 8 (.int 0)) 9 (.int 0)) 10 (.int 0)) 11 (.int 0)) 12 (.int 0))) :: []) o 0 (by decide) (by decide) rfl rfl rfl rfl (Nat.le_of_ble_eq_true rfl) (Nat.le_of_ble_eq_true rfl) (List.forall_mem_cons.mpr ⟨Nat.ne_of_beq_eq_false rfl, (List.forall_mem_cons.mpr ⟨Nat.ne_of_beq_eq_false rfl, (fun _ h => by cases h)⟩)⟩) (by decide) (by decide) rfl d_X4_init_136 ?_
  refine JO_iinc (v2 := 1) (lv' := [(1, .int 5), (0, .ref (wB (wC b) + 0))]) o 0 d_X4_init_137 (by decide) rfl (by decide) rfl ?_
  refine JO_goto o 115 d_X4_init_140 (by decide) ?_
  refine JO_iload_n (v := 5) o 0 d_X4_init_115 rfl ?_
  refine JO_aload_n o 1 d_X4_init_116 rfl ?_
  refine JO_get (v := .ref (wB (wC b) + 282)) o 1 fl_RX4_41 rfl rfl rfl rfl d_X4_init_117 ?_
  refine JO_alen (ia := 2) (m := 8) o 0 (by decide) rfl rfl rfl d_X4_init_120 ?_
  refine JO_icmp_ge o 143 d_X4_init_121 (by decide) (fun h => absurd h (show ¬ ((8 : Int32) ≤ 5) by decide)) (fun _ => ?_)
  refine JO_aload_n o 1 d_X4_init_124 rfl ?_
  refine JO_get (v := .ref (wB (wC b) + 282)) o 1 fl_RX4_41 rfl rfl rfl rfl d_X4_init_125 ?_
  refine JO_iload_n (v := 5) o 0 d_X4_init_128 rfl ?_
  refine JO_new (c := 3) (n1 := 324) o (by decide) rfl la_3 ck_RX4_13 ia_3 in_3 ⟨Nat.le_of_ble_eq_true rfl, Nat.le_of_ble_eq_true rfl⟩ rfl d_X4_init_129 ?_
  refine JO_dup o d_X4_init_132 rfl ?_
  refine JO_callN (b := wB (wC b) + 323) (n1 := 331) (op1 := (282, (updV (updV (updV (updV (updV (fun _ => Value.null) 0 (.ref (wB (wC b) + 283))) 1 (.ref (wB (wC b) + 291))) 2 (.ref (wB (wC b) + 299))) 3 (.ref (wB (wC b) + 307))) 4 (.ref (wB (wC b) + 315)))) :: (0, (updV (updV (updV (updV (updV (updV (updV (updV (updV (updV (updV (updV (updV (fun j => defaultValue (tY 4 j)) 0 (.ref (wB (wC b) + 1))) 1 (.ref (wB (wC b) + 2))) 2 (.ref (wB (wC b) + 10))) 3 (.ref (wB (wC b) + 18))) 4 (.ref (wB (wC b) + 19))) 5 (.ref (wB (wC b) + 282))) 6 (.int 0)) 7 (.int (-1))) 8 (.int 0)) 9 (.int 0)) 10 (.int 0)) 11 (.int 0)) 12 (.int 0))) :: []) o [] mth_X3_init ⟨rfl, ivi_X3_init⟩ mn_RX4_15 ⟨Nat.le_of_ble_eq_true rfl, Nat.le_of_ble_eq_true rfl⟩ rfl rfl (Nat.le_of_ble_eq_true rfl) ⟨Nat.le_of_ble_eq_true rfl, Nat.le_of_ble_eq_true rfl⟩ d_X4_init_133 (w_X3_init (xL x) b (show IsW 323 from Or.inr (Or.inr ⟨5, by decide, rfl⟩)) _) ?_
  refine JO_aast (ia := 2) (c := 3) (op1 := (282, (updV (updV (updV (updV (updV (updV (fun _ => Value.null) 0 (.ref (wB (wC b) + 283))) 1 (.ref (wB (wC b) + 291))) 2 (.ref (wB (wC b) + 299))) 3 (.ref (wB (wC b) + 307))) 4 (.ref (wB (wC b) + 315))) 5 (.ref (wB (wC b) + 323)))) :: (0, (updV (updV (updV (updV (updV (updV (updV (updV (updV (updV (updV (updV (updV (fun j => defaultValue (tY 4 j)) 0 (.ref (wB (wC b) + 1))) 1 (.ref (wB (wC b) + 2))) 2 (.ref (wB (wC b) + 10))) 3 (.ref (wB (wC b) + 18))) 4 (.ref (wB (wC b) + 19))) 5 (.ref (wB (wC b) + 282))) 6 (.int 0)) 7 (.int (-1))) 8 (.int 0)) 9 (.int 0)) 10 (.int 0)) 11 (.int 0)) 12 (.int 0))) :: []) o 0 (by decide) (by decide) rfl rfl rfl rfl (Nat.le_of_ble_eq_true rfl) (Nat.le_of_ble_eq_true rfl) (List.forall_mem_cons.mpr ⟨Nat.ne_of_beq_eq_false rfl, (List.forall_mem_cons.mpr ⟨Nat.ne_of_beq_eq_false rfl, (fun _ h => by cases h)⟩)⟩) (by decide) (by decide) rfl d_X4_init_136 ?_
  refine JO_iinc (v2 := 1) (lv' := [(1, .int 6), (0, .ref (wB (wC b) + 0))]) o 0 d_X4_init_137 (by decide) rfl (by decide) rfl ?_
  refine JO_goto o 115 d_X4_init_140 (by decide) ?_
  refine JO_iload_n (v := 6) o 0 d_X4_init_115 rfl ?_
  refine JO_aload_n o 1 d_X4_init_116 rfl ?_
  refine JO_get (v := .ref (wB (wC b) + 282)) o 1 fl_RX4_41 rfl rfl rfl rfl d_X4_init_117 ?_
  refine JO_alen (ia := 2) (m := 8) o 0 (by decide) rfl rfl rfl d_X4_init_120 ?_
  refine JO_icmp_ge o 143 d_X4_init_121 (by decide) (fun h => absurd h (show ¬ ((8 : Int32) ≤ 6) by decide)) (fun _ => ?_)
  refine JO_aload_n o 1 d_X4_init_124 rfl ?_
  refine JO_get (v := .ref (wB (wC b) + 282)) o 1 fl_RX4_41 rfl rfl rfl rfl d_X4_init_125 ?_
  refine JO_iload_n (v := 6) o 0 d_X4_init_128 rfl ?_
  refine JO_new (c := 3) (n1 := 332) o (by decide) rfl la_3 ck_RX4_13 ia_3 in_3 ⟨Nat.le_of_ble_eq_true rfl, Nat.le_of_ble_eq_true rfl⟩ rfl d_X4_init_129 ?_
  refine JO_dup o d_X4_init_132 rfl ?_
  refine JO_callN (b := wB (wC b) + 331) (n1 := 339) (op1 := (282, (updV (updV (updV (updV (updV (updV (fun _ => Value.null) 0 (.ref (wB (wC b) + 283))) 1 (.ref (wB (wC b) + 291))) 2 (.ref (wB (wC b) + 299))) 3 (.ref (wB (wC b) + 307))) 4 (.ref (wB (wC b) + 315))) 5 (.ref (wB (wC b) + 323)))) :: (0, (updV (updV (updV (updV (updV (updV (updV (updV (updV (updV (updV (updV (updV (fun j => defaultValue (tY 4 j)) 0 (.ref (wB (wC b) + 1))) 1 (.ref (wB (wC b) + 2))) 2 (.ref (wB (wC b) + 10))) 3 (.ref (wB (wC b) + 18))) 4 (.ref (wB (wC b) + 19))) 5 (.ref (wB (wC b) + 282))) 6 (.int 0)) 7 (.int (-1))) 8 (.int 0)) 9 (.int 0)) 10 (.int 0)) 11 (.int 0)) 12 (.int 0))) :: []) o [] mth_X3_init ⟨rfl, ivi_X3_init⟩ mn_RX4_15 ⟨Nat.le_of_ble_eq_true rfl, Nat.le_of_ble_eq_true rfl⟩ rfl rfl (Nat.le_of_ble_eq_true rfl) ⟨Nat.le_of_ble_eq_true rfl, Nat.le_of_ble_eq_true rfl⟩ d_X4_init_133 (w_X3_init (xL x) b (show IsW 331 from Or.inr (Or.inr ⟨6, by decide, rfl⟩)) _) ?_
  refine JO_aast (ia := 2) (c := 3) (op1 := (282, (updV (updV (updV (updV (updV (updV (updV (fun _ => Value.null) 0 (.ref (wB (wC b) + 283))) 1 (.ref (wB (wC b) + 291))) 2 (.ref (wB (wC b) + 299))) 3 (.ref (wB (wC b) + 307))) 4 (.ref (wB (wC b) + 315))) 5 (.ref (wB (wC b) + 323))) 6 (.ref (wB (wC b) + 331)))) :: (0, (updV (updV (updV (updV (updV (updV (updV (updV (updV (updV (updV (updV (updV (fun j => defaultValue (tY 4 j)) 0 (.ref (wB (wC b) + 1))) 1 (.ref (wB (wC b) + 2))) 2 (.ref (wB (wC b) + 10))) 3 (.ref (wB (wC b) + 18))) 4 (.ref (wB (wC b) + 19))) 5 (.ref (wB (wC b) + 282))) 6 (.int 0)) 7 (.int (-1))) 8 (.int 0)) 9 (.int 0)) 10 (.int 0)) 11 (.int 0)) 12 (.int 0))) :: []) o 0 (by decide) (by decide) rfl rfl rfl rfl (Nat.le_of_ble_eq_true rfl) (Nat.le_of_ble_eq_true rfl) (List.forall_mem_cons.mpr ⟨Nat.ne_of_beq_eq_false rfl, (List.forall_mem_cons.mpr ⟨Nat.ne_of_beq_eq_false rfl, (fun _ h => by cases h)⟩)⟩) (by decide) (by decide) rfl d_X4_init_136 ?_
  refine JO_iinc (v2 := 1) (lv' := [(1, .int 7), (0, .ref (wB (wC b) + 0))]) o 0 d_X4_init_137 (by decide) rfl (by decide) rfl ?_
  refine JO_goto o 115 d_X4_init_140 (by decide) ?_
  refine JO_iload_n (v := 7) o 0 d_X4_init_115 rfl ?_
  refine JO_aload_n o 1 d_X4_init_116 rfl ?_
  refine JO_get (v := .ref (wB (wC b) + 282)) o 1 fl_RX4_41 rfl rfl rfl rfl d_X4_init_117 ?_
  refine JO_alen (ia := 2) (m := 8) o 0 (by decide) rfl rfl rfl d_X4_init_120 ?_
  refine JO_icmp_ge o 143 d_X4_init_121 (by decide) (fun h => absurd h (show ¬ ((8 : Int32) ≤ 7) by decide)) (fun _ => ?_)
  refine JO_aload_n o 1 d_X4_init_124 rfl ?_
  refine JO_get (v := .ref (wB (wC b) + 282)) o 1 fl_RX4_41 rfl rfl rfl rfl d_X4_init_125 ?_
  refine JO_iload_n (v := 7) o 0 d_X4_init_128 rfl ?_
  refine JO_new (c := 3) (n1 := 340) o (by decide) rfl la_3 ck_RX4_13 ia_3 in_3 ⟨Nat.le_of_ble_eq_true rfl, Nat.le_of_ble_eq_true rfl⟩ rfl d_X4_init_129 ?_
  refine JO_dup o d_X4_init_132 rfl ?_
  refine JO_callN (b := wB (wC b) + 339) (n1 := 347) (op1 := (282, (updV (updV (updV (updV (updV (updV (updV (fun _ => Value.null) 0 (.ref (wB (wC b) + 283))) 1 (.ref (wB (wC b) + 291))) 2 (.ref (wB (wC b) + 299))) 3 (.ref (wB (wC b) + 307))) 4 (.ref (wB (wC b) + 315))) 5 (.ref (wB (wC b) + 323))) 6 (.ref (wB (wC b) + 331)))) :: (0, (updV (updV (updV (updV (updV (updV (updV (updV (updV (updV (updV (updV (updV (fun j => defaultValue (tY 4 j)) 0 (.ref (wB (wC b) + 1))) 1 (.ref (wB (wC b) + 2))) 2 (.ref (wB (wC b) + 10))) 3 (.ref (wB (wC b) + 18))) 4 (.ref (wB (wC b) + 19))) 5 (.ref (wB (wC b) + 282))) 6 (.int 0)) 7 (.int (-1))) 8 (.int 0)) 9 (.int 0)) 10 (.int 0)) 11 (.int 0)) 12 (.int 0))) :: []) o [] mth_X3_init ⟨rfl, ivi_X3_init⟩ mn_RX4_15 ⟨Nat.le_of_ble_eq_true rfl, Nat.le_of_ble_eq_true rfl⟩ rfl rfl (Nat.le_of_ble_eq_true rfl) ⟨Nat.le_of_ble_eq_true rfl, Nat.le_of_ble_eq_true rfl⟩ d_X4_init_133 (w_X3_init (xL x) b (show IsW 339 from Or.inr (Or.inr ⟨7, by decide, rfl⟩)) _) ?_
  refine JO_aast (ia := 2) (c := 3) (op1 := (282, (updV (updV (updV (updV (updV (updV (updV (updV (fun _ => Value.null) 0 (.ref (wB (wC b) + 283))) 1 (.ref (wB (wC b) + 291))) 2 (.ref (wB (wC b) + 299))) 3 (.ref (wB (wC b) + 307))) 4 (.ref (wB (wC b) + 315))) 5 (.ref (wB (wC b) + 323))) 6 (.ref (wB (wC b) + 331))) 7 (.ref (wB (wC b) + 339)))) :: (0, (updV (updV (updV (updV (updV (updV (updV (updV (updV (updV (updV (updV (updV (fun j => defaultValue (tY 4 j)) 0 (.ref (wB (wC b) + 1))) 1 (.ref (wB (wC b) + 2))) 2 (.ref (wB (wC b) + 10))) 3 (.ref (wB (wC b) + 18))) 4 (.ref (wB (wC b) + 19))) 5 (.ref (wB (wC b) + 282))) 6 (.int 0)) 7 (.int (-1))) 8 (.int 0)) 9 (.int 0)) 10 (.int 0)) 11 (.int 0)) 12 (.int 0))) :: []) o 0 (by decide) (by decide) rfl rfl rfl rfl (Nat.le_of_ble_eq_true rfl) (Nat.le_of_ble_eq_true rfl) (List.forall_mem_cons.mpr ⟨Nat.ne_of_beq_eq_false rfl, (List.forall_mem_cons.mpr ⟨Nat.ne_of_beq_eq_false rfl, (fun _ h => by cases h)⟩)⟩) (by decide) (by decide) rfl d_X4_init_136 ?_
  refine JO_iinc (v2 := 1) (lv' := [(1, .int 8), (0, .ref (wB (wC b) + 0))]) o 0 d_X4_init_137 (by decide) rfl (by decide) rfl ?_
  refine JO_goto o 115 d_X4_init_140 (by decide) ?_
  refine JO_iload_n (v := 8) o 0 d_X4_init_115 rfl ?_
  refine JO_aload_n o 1 d_X4_init_116 rfl ?_
  refine JO_get (v := .ref (wB (wC b) + 282)) o 1 fl_RX4_41 rfl rfl rfl rfl d_X4_init_117 ?_
  refine JO_alen (ia := 2) (m := 8) o 0 (by decide) rfl rfl rfl d_X4_init_120 ?_
  refine JO_icmp_ge o 143 d_X4_init_121 (by decide) (fun _ => ?_) (fun h => absurd (show (8 : Int32) ≤ 8 by decide) h)
  refine JO_shut (fun j hj => ?_) ?_
  · have hj : j < 8 := by
      unfold szC at hj
      rw [show kd 282 = 8 from rfl] at hj
      exact hj
    rcases (show j = 0 ∨ j = 1 ∨ j = 2 ∨ j = 3 ∨ j = 4 ∨ j = 5 ∨ j = 6 ∨ j = 7 by omega) with rfl | rfl | rfl | rfl | rfl | rfl | rfl | rfl
    · exact Eq.trans (b := Value.ref (wB (wC b) + 283)) rfl (vS_arr (i := 2) (n := 0) (t := 283) (k := 282) (by decide) rfl rfl).symm
    · exact Eq.trans (b := Value.ref (wB (wC b) + 291)) rfl (vS_arr (i := 2) (n := 1) (t := 291) (k := 282) (by decide) rfl rfl).symm
    · exact Eq.trans (b := Value.ref (wB (wC b) + 299)) rfl (vS_arr (i := 2) (n := 2) (t := 299) (k := 282) (by decide) rfl rfl).symm
    · exact Eq.trans (b := Value.ref (wB (wC b) + 307)) rfl (vS_arr (i := 2) (n := 3) (t := 307) (k := 282) (by decide) rfl rfl).symm
    · exact Eq.trans (b := Value.ref (wB (wC b) + 315)) rfl (vS_arr (i := 2) (n := 4) (t := 315) (k := 282) (by decide) rfl rfl).symm
    · exact Eq.trans (b := Value.ref (wB (wC b) + 323)) rfl (vS_arr (i := 2) (n := 5) (t := 323) (k := 282) (by decide) rfl rfl).symm
    · exact Eq.trans (b := Value.ref (wB (wC b) + 331)) rfl (vS_arr (i := 2) (n := 6) (t := 331) (k := 282) (by decide) rfl rfl).symm
    · exact Eq.trans (b := Value.ref (wB (wC b) + 339)) rfl (vS_arr (i := 2) (n := 7) (t := 339) (k := 282) (by decide) rfl rfl).symm
  refine JO_shut (fun j hj => ?_) ?_
  · have hj : j < 13 := by
      unfold szC at hj
      rw [show kd 0 = 4 from rfl] at hj
      exact hj
    rcases (show j = 0 ∨ j = 1 ∨ j = 2 ∨ j = 3 ∨ j = 4 ∨ j = 5 ∨ j = 6 ∨ j = 7 ∨ j = 8 ∨ j = 9 ∨ j = 10 ∨ j = 11 ∨ j = 12 by omega) with rfl | rfl | rfl | rfl | rfl | rfl | rfl | rfl | rfl | rfl | rfl | rfl | rfl
    · exact Eq.trans (b := Value.ref (wB (wC b) + 1)) rfl (vS_ref (c := 4) (k := 0) (j := 0) (t := 1) rfl (by decide) rfl rfl).symm
    · exact Eq.trans (b := Value.ref (wB (wC b) + 2)) rfl (vS_ref (c := 4) (k := 0) (j := 1) (t := 2) rfl (by decide) rfl rfl).symm
    · exact Eq.trans (b := Value.ref (wB (wC b) + 10)) rfl (vS_ref (c := 4) (k := 0) (j := 2) (t := 10) rfl (by decide) rfl rfl).symm
    · exact Eq.trans (b := Value.ref (wB (wC b) + 18)) rfl (vS_ref (c := 4) (k := 0) (j := 3) (t := 18) rfl (by decide) rfl rfl).symm
    · exact Eq.trans (b := Value.ref (wB (wC b) + 19)) rfl (vS_ref (c := 4) (k := 0) (j := 4) (t := 19) rfl (by decide) rfl rfl).symm
    · exact Eq.trans (b := Value.ref (wB (wC b) + 282)) rfl (vS_ref (c := 4) (k := 0) (j := 5) (t := 282) rfl (by decide) rfl rfl).symm
    · exact Eq.trans (b := Value.int 0) rfl (vS_int (c := 4) rfl (by decide) rfl (by unfold s0; rw [show kd 0 = 4 from rfl]; rfl)).symm
    · exact Eq.trans (b := Value.int (-1)) rfl (vS_int (c := 4) rfl (by decide) rfl (by unfold s0; rw [show kd 0 = 4 from rfl]; rfl)).symm
    · exact Eq.trans (b := Value.int 0) rfl (vS_int (c := 4) rfl (by decide) rfl (by unfold s0; rw [show kd 0 = 4 from rfl]; rfl)).symm
    · exact Eq.trans (b := Value.int 0) rfl (vS_int (c := 4) rfl (by decide) rfl (by unfold s0; rw [show kd 0 = 4 from rfl]; rfl)).symm
    · exact Eq.trans (b := Value.int 0) rfl (vS_int (c := 4) rfl (by decide) rfl (by unfold s0; rw [show kd 0 = 4 from rfl]; rfl)).symm
    · exact Eq.trans (b := Value.int 0) rfl (vS_int (c := 4) rfl (by decide) rfl (by unfold s0; rw [show kd 0 = 4 from rfl]; rfl)).symm
    · exact Eq.trans (b := Value.int 0) rfl (vS_int (c := 4) rfl (by decide) rfl (by unfold s0; rw [show kd 0 = 4 from rfl]; rfl)).symm
  refine JO_J (b1 := 1) hz ⟨Nat.le_of_ble_eq_true rfl, Nat.le_of_ble_eq_true rfl⟩ (Nat.le_refl 347) ?_
  refine J_aload_n o.1 1 d_X4_init_143 rfl ?_
  refine J_getR o.1 fl_RX4_16 rfl (Nat.le_of_ble_eq_true rfl) (Nat.le_of_ble_eq_true rfl) rfl (show tgt 0 1 = 2 from rfl) d_X4_init_144 ?_
  refine J_callV (k := 2) (c := 3) o.1 [] rfl (by decide) (Nat.le_of_ble_eq_true rfl) (Nat.le_of_ble_eq_true rfl) mth_X3_beginSmall iv_X3_beginSmall ml_RX4_67 ⟨Nat.le_of_ble_eq_true rfl, Nat.le_of_ble_eq_true rfl⟩ rfl rfl (Nat.le_of_ble_eq_true rfl) ⟨Nat.le_of_ble_eq_true rfl, Nat.le_of_ble_eq_true rfl⟩ d_X4_init_147 (w_X3_beginSmall (xL x) b W_2 h) (aV (fun s1 h => ?_))
  exact J_vret o.1 d_X4_init_150 ⟨rfl, h⟩
set_option maxHeartbeats 4000000 in
set_option maxRecDepth 20000 in
theorem w_X5_init (l : Launch) (b : Wy) {K : Sg → Prop} (h : m_X5_begins 350 s0 (fun σ => K (st2 (st2 (st2 (st2 (st2 (st2 (st2 (st2 σ 350 0 3) 350 1 3) 350 3 1) 350 8 1) 350 9 1) 350 1089 2) 350 1090 2) 350 1091 10))) : Met l yX5_init (.code yX5_init cX5_init 1 none :: TBL) rm_X5_init (PreO (wM b) [.ref (wB (wM b) + 347)] ((347, (fun j => defaultValue (tY 5 j))) :: []) 348) (PostC (wM b) (PV K)) rm_X5_init.cells rm_X5_init.slots (Fr (wM b)) := by
  refine Met.ofJO (own := RX5) (by decide +kernel) rfl rfl (Nat.le_of_ble_eq_true rfl) (fun x hx o hnm hz => ?_)
  subst hx
  have hz : (xS x).heap.size = wB (wM b) + 348 := hz
  rw [fr_ar (b1 := 348) hz ⟨Nat.le_of_ble_eq_true rfl, Nat.le_of_ble_eq_true rfl⟩]
  show JO x (wM b) (FinC x (wM b) (PV K) (rm_X5_init.cells, rm_X5_init.slots)) 0 [(0, .ref (wB (wM b) + 347))] [] (0, 0) ((347, (fun j => defaultValue (tY 5 j))) :: []) 348
  refine JO_aload_n o 0 d_X5_init_0 rfl ?_
  refine JO_objInit o oi_RX5 oi_i oi_c ⟨Nat.le_of_ble_eq_true rfl, Nat.le_of_ble_eq_true rfl⟩ d_X5_init_1 ?_
  refine JO_aload_n o 0 d_X5_init_4 rfl ?_
  refine JO_iconst (v := 3) o d_X5_init_5 (by decide) ?_
  refine JO_newI (n1 := 349) o rfl rfl ac_int (by decide) (by decide) (by decide) ⟨Nat.le_of_ble_eq_true rfl, Nat.le_of_ble_eq_true rfl⟩ rfl d_X5_init_6 ?_
  refine JO_putF (op1 := (347, (updV (fun j => defaultValue (tY 5 j)) 1 (.ref (wB (wM b) + 348)))) :: []) o hnm 0 fl_RX5_9 la_5 rfl rfl rfl rfl (by rfl) (by rfl) rfl d_X5_init_8 ?_
  refine JO_aload_n o 0 d_X5_init_11 rfl ?_
  refine JO_iconst (v := (-1)) o d_X5_init_12 (by decide) ?_
  refine JO_put (op1 := (347, (updV (updV (fun j => defaultValue (tY 5 j)) 1 (.ref (wB (wM b) + 348))) 5 (.int (-1)))) :: []) o 0 fl_RX5_13 la_5 rfl rfl rfl (by rfl) (by rfl) rfl d_X5_init_13 ?_
  refine JO_aload_n o 0 d_X5_init_16 rfl ?_
  refine JO_sipush (v := 400) o d_X5_init_17 (by decide) ?_
  refine JO_newI (n1 := 350) o rfl rfl ac_int (by decide) (by decide) (by decide) ⟨Nat.le_of_ble_eq_true rfl, Nat.le_of_ble_eq_true rfl⟩ rfl d_X5_init_20 ?_
  refine JO_putF (op1 := (347, (updV (updV (updV (fun j => defaultValue (tY 5 j)) 1 (.ref (wB (wM b) + 348))) 5 (.int (-1))) 8 (.ref (wB (wM b) + 349)))) :: []) o hnm 0 fl_RX5_17 la_5 rfl rfl rfl rfl (by rfl) (by rfl) rfl d_X5_init_22 ?_
  refine JO_aload_n o 0 d_X5_init_25 rfl ?_
  refine JO_sipush (v := 1098) o d_X5_init_26 (by decide) ?_
  refine JO_newI (n1 := 351) o rfl rfl ac_int (by decide) (by decide) (by decide) ⟨Nat.le_of_ble_eq_true rfl, Nat.le_of_ble_eq_true rfl⟩ rfl d_X5_init_29 ?_
  refine JO_putF (op1 := (347, (updV (updV (updV (updV (fun j => defaultValue (tY 5 j)) 1 (.ref (wB (wM b) + 348))) 5 (.int (-1))) 8 (.ref (wB (wM b) + 349))) 9 (.ref (wB (wM b) + 350)))) :: []) o hnm 0 fl_RX5_20 la_5 rfl rfl rfl rfl (by rfl) (by rfl) rfl d_X5_init_31 ?_
  refine JO_aload_n o 0 d_X5_init_34 rfl ?_
  refine JO_sipush (v := 1098) o d_X5_init_35 (by decide) ?_
  refine JO_newI (n1 := 352) o rfl rfl ac_int (by decide) (by decide) (by decide) ⟨Nat.le_of_ble_eq_true rfl, Nat.le_of_ble_eq_true rfl⟩ rfl d_X5_init_38 ?_
  refine JO_putF (op1 := (347, (updV (updV (updV (updV (updV (fun j => defaultValue (tY 5 j)) 1 (.ref (wB (wM b) + 348))) 5 (.int (-1))) 8 (.ref (wB (wM b) + 349))) 9 (.ref (wB (wM b) + 350))) 10 (.ref (wB (wM b) + 351)))) :: []) o hnm 0 fl_RX5_23 la_5 rfl rfl rfl rfl (by rfl) (by rfl) rfl d_X5_init_40 ?_
  refine JO_aload_n o 0 d_X5_init_43 rfl ?_
  refine JO_bipush (v := 8) o d_X5_init_44 (by decide) ?_
  refine JO_sipush (v := 1098) o d_X5_init_46 (by decide) ?_
  refine JO_mna (N := 8) (M := 1098) (n1 := 361) o rfl rfl (fun j hj => rfl) (show ∀ j, j < 8 → kd (352 + 1 + j) = 6 ∧ ln (352 + 1 + j) = 1098 by decide +kernel) ck_RX5_26 ac_int (by decide) (by decide) (by decide) (by decide) ⟨by decide, by decide⟩ ⟨Nat.le_of_ble_eq_true rfl, Nat.le_of_ble_eq_true rfl⟩ (by omega) d_X5_init_49 ?_
  refine JO_putF (op1 := (347, (updV (updV (updV (updV (updV (updV (fun j => defaultValue (tY 5 j)) 1 (.ref (wB (wM b) + 348))) 5 (.int (-1))) 8 (.ref (wB (wM b) + 349))) 9 (.ref (wB (wM b) + 350))) 10 (.ref (wB (wM b) + 351))) 11 (.ref (wB (wM b) + 352)))) :: []) o hnm 0 fl_RX5_28 la_5 rfl rfl rfl rfl (by rfl) (by rfl) rfl d_X5_init_53 ?_
  refine JO_aload_n o 0 d_X5_init_56 rfl ?_
  refine JO_bipush (v := 61) o d_X5_init_57 (by decide) ?_
  refine JO_newI (n1 := 362) o rfl rfl ac_int (by decide) (by decide) (by decide) ⟨Nat.le_of_ble_eq_true rfl, Nat.le_of_ble_eq_true rfl⟩ rfl d_X5_init_59 ?_
  refine JO_putF (op1 := (347, (updV (updV (updV (updV (updV (updV (updV (fun j => defaultValue (tY 5 j)) 1 (.ref (wB (wM b) + 348))) 5 (.int (-1))) 8 (.ref (wB (wM b) + 349))) 9 (.ref (wB (wM b) + 350))) 10 (.ref (wB (wM b) + 351))) 11 (.ref (wB (wM b) + 352))) 15 (.ref (wB (wM b) + 361)))) :: []) o hnm 0 fl_RX5_31 la_5 rfl rfl rfl rfl (by rfl) (by rfl) rfl d_X5_init_61 ?_
  refine JO_aload_n o 0 d_X5_init_64 rfl ?_
  refine JO_bipush (v := 61) o d_X5_init_65 (by decide) ?_
  refine JO_newI (n1 := 363) o rfl rfl ac_int (by decide) (by decide) (by decide) ⟨Nat.le_of_ble_eq_true rfl, Nat.le_of_ble_eq_true rfl⟩ rfl d_X5_init_67 ?_
  refine JO_putF (op1 := (347, (updV (updV (updV (updV (updV (updV (updV (updV (fun j => defaultValue (tY 5 j)) 1 (.ref (wB (wM b) + 348))) 5 (.int (-1))) 8 (.ref (wB (wM b) + 349))) 9 (.ref (wB (wM b) + 350))) 10 (.ref (wB (wM b) + 351))) 11 (.ref (wB (wM b) + 352))) 15 (.ref (wB (wM b) + 361))) 16 (.ref (wB (wM b) + 362)))) :: []) o hnm 0 fl_RX5_34 la_5 rfl rfl rfl rfl (by rfl) (by rfl) rfl d_X5_init_69 ?_
  refine JO_aload_n o 0 d_X5_init_72 rfl ?_
  refine JO_bipush (v := 61) o d_X5_init_73 (by decide) ?_
  refine JO_sipush (v := 240) o d_X5_init_75 (by decide) ?_
  refine JO_mna (N := 61) (M := 240) (n1 := 425) o rfl rfl (fun j hj => rfl) (show ∀ j, j < 61 → kd (363 + 1 + j) = 6 ∧ ln (363 + 1 + j) = 240 by decide +kernel) ck_RX5_26 ac_int (by decide) (by decide) (by decide) (by decide) ⟨by decide, by decide⟩ ⟨Nat.le_of_ble_eq_true rfl, Nat.le_of_ble_eq_true rfl⟩ (by omega) d_X5_init_78 ?_
  refine JO_putF (op1 := (347, (updV (updV (updV (updV (updV (updV (updV (updV (updV (fun j => defaultValue (tY 5 j)) 1 (.ref (wB (wM b) + 348))) 5 (.int (-1))) 8 (.ref (wB (wM b) + 349))) 9 (.ref (wB (wM b) + 350))) 10 (.ref (wB (wM b) + 351))) 11 (.ref (wB (wM b) + 352))) 15 (.ref (wB (wM b) + 361))) 16 (.ref (wB (wM b) + 362))) 17 (.ref (wB (wM b) + 363)))) :: []) o hnm 0 fl_RX5_37 la_5 rfl rfl rfl rfl (by rfl) (by rfl) rfl d_X5_init_82 ?_
  refine JO_aload_n o 0 d_X5_init_85 rfl ?_
  refine JO_bipush (v := 61) o d_X5_init_86 (by decide) ?_
  refine JO_sipush (v := 240) o d_X5_init_88 (by decide) ?_
  refine JO_mna (N := 61) (M := 240) (n1 := 487) o rfl rfl (fun j hj => rfl) (show ∀ j, j < 61 → kd (425 + 1 + j) = 6 ∧ ln (425 + 1 + j) = 240 by decide +kernel) ck_RX5_26 ac_int (by decide) (by decide) (by decide) (by decide) ⟨by decide, by decide⟩ ⟨Nat.le_of_ble_eq_true rfl, Nat.le_of_ble_eq_true rfl⟩ (by omega) d_X5_init_91 ?_
  refine JO_putF (op1 := (347, (updV (updV (updV (updV (updV (updV (updV (updV (updV (updV (fun j => defaultValue (tY 5 j)) 1 (.ref (wB (wM b) + 348))) 5 (.int (-1))) 8 (.ref (wB (wM b) + 349))) 9 (.ref (wB (wM b) + 350))) 10 (.ref (wB (wM b) + 351))) 11 (.ref (wB (wM b) + 352))) 15 (.ref (wB (wM b) + 361))) 16 (.ref (wB (wM b) + 362))) 17 (.ref (wB (wM b) + 363))) 18 (.ref (wB (wM b) + 425)))) :: []) o hnm 0 fl_RX5_40 la_5 rfl rfl rfl rfl (by rfl) (by rfl) rfl d_X5_init_95 ?_
  refine JO_aload_n o 0 d_X5_init_98 rfl ?_
  refine JO_bipush (v := 61) o d_X5_init_99 (by decide) ?_
  refine JO_sipush (v := 240) o d_X5_init_101 (by decide) ?_
  refine JO_mna (N := 61) (M := 240) (n1 := 549) o rfl rfl (fun j hj => rfl) (show ∀ j, j < 61 → kd (487 + 1 + j) = 6 ∧ ln (487 + 1 + j) = 240 by decide +kernel) ck_RX5_26 ac_int (by decide) (by decide) (by decide) (by decide) ⟨by decide, by decide⟩ ⟨Nat.le_of_ble_eq_true rfl, Nat.le_of_ble_eq_true rfl⟩ (by omega) d_X5_init_104 ?_
  refine JO_putF (op1 := (347, (updV (updV (updV (updV (updV (updV (updV (updV (updV (updV (updV (fun j => defaultValue (tY 5 j)) 1 (.ref (wB (wM b) + 348))) 5 (.int (-1))) 8 (.ref (wB (wM b) + 349))) 9 (.ref (wB (wM b) + 350))) 10 (.ref (wB (wM b) + 351))) 11 (.ref (wB (wM b) + 352))) 15 (.ref (wB (wM b) + 361))) 16 (.ref (wB (wM b) + 362))) 17 (.ref (wB (wM b) + 363))) 18 (.ref (wB (wM b) + 425))) 19 (.ref (wB (wM b) + 487)))) :: []) o hnm 0 fl_RX5_43 la_5 rfl rfl rfl rfl (by rfl) (by rfl) rfl d_X5_init_108 ?_
  refine JO_shut (fun j hj => ?_) ?_
  · have hj : j < 20 := by
      unfold szC at hj
      rw [show kd 347 = 5 from rfl] at hj
      exact hj
    rcases (show j = 0 ∨ j = 1 ∨ j = 2 ∨ j = 3 ∨ j = 4 ∨ j = 5 ∨ j = 6 ∨ j = 7 ∨ j = 8 ∨ j = 9 ∨ j = 10 ∨ j = 11 ∨ j = 12 ∨ j = 13 ∨ j = 14 ∨ j = 15 ∨ j = 16 ∨ j = 17 ∨ j = 18 ∨ j = 19 by omega) with rfl | rfl | rfl | rfl | rfl | rfl | rfl | rfl | rfl | rfl | rfl | rfl | rfl | rfl | rfl | rfl | rfl | rfl | rfl | rfl
    · exact Eq.trans (b := Value.int 0) rfl (vS_int (c := 5) rfl (by decide) rfl (by unfold s0; rw [show kd 347 = 5 from rfl]; rfl)).symm
    · exact Eq.trans (b := Value.ref (wB (wM b) + 348)) rfl (vS_ref (c := 5) (k := 347) (j := 1) (t := 348) rfl (by decide) rfl rfl).symm
    · exact Eq.trans (b := Value.int 0) rfl (vS_int (c := 5) rfl (by decide) rfl (by unfold s0; rw [show kd 347 = 5 from rfl]; rfl)).symm
    · exact Eq.trans (b := Value.int 0) rfl (vS_int (c := 5) rfl (by decide) rfl (by unfold s0; rw [show kd 347 = 5 from rfl]; rfl)).symm
    · exact Eq.trans (b := Value.int 0) rfl (vS_int (c := 5) rfl (by decide) rfl (by unfold s0; rw [show kd 347 = 5 from rfl]; rfl)).symm
    · exact Eq.trans (b := Value.int (-1)) rfl (vS_int (c := 5) rfl (by decide) rfl (by unfold s0; rw [show kd 347 = 5 from rfl]; rfl)).symm
    · exact Eq.trans (b := Value.int 0) rfl (vS_int (c := 5) rfl (by decide) rfl (by unfold s0; rw [show kd 347 = 5 from rfl]; rfl)).symm
    · exact Eq.trans (b := Value.int 0) rfl (vS_int (c := 5) rfl (by decide) rfl (by unfold s0; rw [show kd 347 = 5 from rfl]; rfl)).symm
    · exact Eq.trans (b := Value.ref (wB (wM b) + 349)) rfl (vS_ref (c := 5) (k := 347) (j := 8) (t := 349) rfl (by decide) rfl rfl).symm
    · exact Eq.trans (b := Value.ref (wB (wM b) + 350)) rfl (vS_ref (c := 5) (k := 347) (j := 9) (t := 350) rfl (by decide) rfl rfl).symm
    · exact Eq.trans (b := Value.ref (wB (wM b) + 351)) rfl (vS_ref (c := 5) (k := 347) (j := 10) (t := 351) rfl (by decide) rfl rfl).symm
    · exact Eq.trans (b := Value.ref (wB (wM b) + 352)) rfl (vS_ref (c := 5) (k := 347) (j := 11) (t := 352) rfl (by decide) rfl rfl).symm
    · exact Eq.trans (b := Value.int 0) rfl (vS_int (c := 5) rfl (by decide) rfl (by unfold s0; rw [show kd 347 = 5 from rfl]; rfl)).symm
    · exact Eq.trans (b := Value.int 0) rfl (vS_int (c := 5) rfl (by decide) rfl (by unfold s0; rw [show kd 347 = 5 from rfl]; rfl)).symm
    · exact Eq.trans (b := Value.int 0) rfl (vS_int (c := 5) rfl (by decide) rfl (by unfold s0; rw [show kd 347 = 5 from rfl]; rfl)).symm
    · exact Eq.trans (b := Value.ref (wB (wM b) + 361)) rfl (vS_ref (c := 5) (k := 347) (j := 15) (t := 361) rfl (by decide) rfl rfl).symm
    · exact Eq.trans (b := Value.ref (wB (wM b) + 362)) rfl (vS_ref (c := 5) (k := 347) (j := 16) (t := 362) rfl (by decide) rfl rfl).symm
    · exact Eq.trans (b := Value.ref (wB (wM b) + 363)) rfl (vS_ref (c := 5) (k := 347) (j := 17) (t := 363) rfl (by decide) rfl rfl).symm
    · exact Eq.trans (b := Value.ref (wB (wM b) + 425)) rfl (vS_ref (c := 5) (k := 347) (j := 18) (t := 425) rfl (by decide) rfl rfl).symm
    · exact Eq.trans (b := Value.ref (wB (wM b) + 487)) rfl (vS_ref (c := 5) (k := 347) (j := 19) (t := 487) rfl (by decide) rfl rfl).symm
  refine JO_J (b1 := 348) hz ⟨Nat.le_of_ble_eq_true rfl, Nat.le_of_ble_eq_true rfl⟩ (Nat.le_refl 549) ?_
  refine J_aload_n o.1 0 d_X5_init_111 rfl ?_
  refine J_getR o.1 fl_RX5_20 rfl (Nat.le_of_ble_eq_true rfl) (Nat.le_of_ble_eq_true rfl) rfl (show tgt 347 9 = 350 from rfl) d_X5_init_112 ?_
  refine J_callS o.1 [.ref (wB (wM b) + 350)] mth_X5_begins st_X5_begins ml_RX5_46 ⟨Nat.le_of_ble_eq_true rfl, Nat.le_of_ble_eq_true rfl⟩ rfl rfl (Nat.le_of_ble_eq_true rfl) ⟨Nat.le_of_ble_eq_true rfl, Nat.le_of_ble_eq_true rfl⟩ d_X5_init_115 (w_X5_begins (xL x) b A_350 h) (aV (fun s1 h => ?_))
  refine J_aload_n o.1 0 d_X5_init_118 rfl ?_
  refine J_getR o.1 fl_RX5_20 rfl (Nat.le_of_ble_eq_true rfl) (Nat.le_of_ble_eq_true rfl) rfl (show tgt 347 9 = 350 from rfl) d_X5_init_119 ?_
  refine J_iconst (v := 0) o.1 d_X5_init_122 (by decide) ?_
  refine J_iconst (v := 3) o.1 d_X5_init_123 (by decide) ?_
  refine J_iast o.1 A_350 (show ¬ ((0 : Int32) < 0 ∨ 1098 ≤ (0 : Int32).toNatClampNeg) by decide) d_X5_init_124 ?_
  rw [show (0 : Int32).toNatClampNeg = 0 by decide]
  refine J_aload_n o.1 0 d_X5_init_125 rfl ?_
  refine J_getR o.1 fl_RX5_20 rfl (Nat.le_of_ble_eq_true rfl) (Nat.le_of_ble_eq_true rfl) rfl (show tgt 347 9 = 350 from rfl) d_X5_init_126 ?_
  refine J_iconst (v := 1) o.1 d_X5_init_129 (by decide) ?_
  refine J_iconst (v := 3) o.1 d_X5_init_130 (by decide) ?_
  refine J_iast o.1 A_350 (show ¬ ((1 : Int32) < 0 ∨ 1098 ≤ (1 : Int32).toNatClampNeg) by decide) d_X5_init_131 ?_
  rw [show (1 : Int32).toNatClampNeg = 1 by decide]
  refine J_aload_n o.1 0 d_X5_init_132 rfl ?_
  refine J_getR o.1 fl_RX5_20 rfl (Nat.le_of_ble_eq_true rfl) (Nat.le_of_ble_eq_true rfl) rfl (show tgt 347 9 = 350 from rfl) d_X5_init_133 ?_
  refine J_iconst (v := 3) o.1 d_X5_init_136 (by decide) ?_
  refine J_iconst (v := 1) o.1 d_X5_init_137 (by decide) ?_
  refine J_iast o.1 A_350 (show ¬ ((3 : Int32) < 0 ∨ 1098 ≤ (3 : Int32).toNatClampNeg) by decide) d_X5_init_138 ?_
  rw [show (3 : Int32).toNatClampNeg = 3 by decide]
  refine J_aload_n o.1 0 d_X5_init_139 rfl ?_
  refine J_getR o.1 fl_RX5_20 rfl (Nat.le_of_ble_eq_true rfl) (Nat.le_of_ble_eq_true rfl) rfl (show tgt 347 9 = 350 from rfl) d_X5_init_140 ?_
  refine J_bipush (v := 8) o.1 d_X5_init_143 (by decide) ?_
  refine J_iconst (v := 1) o.1 d_X5_init_145 (by decide) ?_
  refine J_iast o.1 A_350 (show ¬ ((8 : Int32) < 0 ∨ 1098 ≤ (8 : Int32).toNatClampNeg) by decide) d_X5_init_146 ?_
  rw [show (8 : Int32).toNatClampNeg = 8 by decide]
  refine J_aload_n o.1 0 d_X5_init_147 rfl ?_
  refine J_getR o.1 fl_RX5_20 rfl (Nat.le_of_ble_eq_true rfl) (Nat.le_of_ble_eq_true rfl) rfl (show tgt 347 9 = 350 from rfl) d_X5_init_148 ?_
  refine J_bipush (v := 9) o.1 d_X5_init_151 (by decide) ?_
  refine J_iconst (v := 1) o.1 d_X5_init_153 (by decide) ?_
  refine J_iast o.1 A_350 (show ¬ ((9 : Int32) < 0 ∨ 1098 ≤ (9 : Int32).toNatClampNeg) by decide) d_X5_init_154 ?_
  rw [show (9 : Int32).toNatClampNeg = 9 by decide]
  refine J_aload_n o.1 0 d_X5_init_155 rfl ?_
  refine J_getR o.1 fl_RX5_20 rfl (Nat.le_of_ble_eq_true rfl) (Nat.le_of_ble_eq_true rfl) rfl (show tgt 347 9 = 350 from rfl) d_X5_init_156 ?_
  refine J_sipush (v := 1089) o.1 d_X5_init_159 (by decide) ?_
  refine J_iconst (v := 2) o.1 d_X5_init_162 (by decide) ?_
  refine J_iast o.1 A_350 (show ¬ ((1089 : Int32) < 0 ∨ 1098 ≤ (1089 : Int32).toNatClampNeg) by decide) d_X5_init_163 ?_
  rw [show (1089 : Int32).toNatClampNeg = 1089 by decide]
  refine J_aload_n o.1 0 d_X5_init_164 rfl ?_
  refine J_getR o.1 fl_RX5_20 rfl (Nat.le_of_ble_eq_true rfl) (Nat.le_of_ble_eq_true rfl) rfl (show tgt 347 9 = 350 from rfl) d_X5_init_165 ?_
  refine J_sipush (v := 1090) o.1 d_X5_init_168 (by decide) ?_
  refine J_iconst (v := 2) o.1 d_X5_init_171 (by decide) ?_
  refine J_iast o.1 A_350 (show ¬ ((1090 : Int32) < 0 ∨ 1098 ≤ (1090 : Int32).toNatClampNeg) by decide) d_X5_init_172 ?_
  rw [show (1090 : Int32).toNatClampNeg = 1090 by decide]
  refine J_aload_n o.1 0 d_X5_init_173 rfl ?_
  refine J_getR o.1 fl_RX5_20 rfl (Nat.le_of_ble_eq_true rfl) (Nat.le_of_ble_eq_true rfl) rfl (show tgt 347 9 = 350 from rfl) d_X5_init_174 ?_
  refine J_sipush (v := 1091) o.1 d_X5_init_177 (by decide) ?_
  refine J_bipush (v := 10) o.1 d_X5_init_180 (by decide) ?_
  refine J_iast o.1 A_350 (show ¬ ((1091 : Int32) < 0 ∨ 1098 ≤ (1091 : Int32).toNatClampNeg) by decide) d_X5_init_182 ?_
  rw [show (1091 : Int32).toNatClampNeg = 1091 by decide]
  exact J_vret o.1 d_X5_init_183 ⟨rfl, h⟩
