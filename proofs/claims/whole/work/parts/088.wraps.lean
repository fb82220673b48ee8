/-! the law's wrappers, walked; printed by program -/
theorem mth_X4_text : Mth yX4_text cX4_text 3 (some .int) 1 := ⟨tb_in 462 (by decide +kernel) rfl, tb_in 1 (by decide +kernel) rfl, ⟨by decide +kernel, by decide +kernel⟩, by decide +kernel⟩
theorem iv_X4_text : Cond.instanceMethod yX4_text ∈ TBL ∧ Cond.selects RX4 yX4_text yX4_text ∈ TBL := ⟨tb_in 460 (by decide +kernel) rfl, tb_in 461 (by decide +kernel) rfl⟩
theorem ml_RL_7 : Cond.methodLink RL 7 yX4_text ∈ TBL := tb_in 459 (by decide +kernel) rfl
theorem ckE_13 : Cond.classLink RL 13 "java/lang/IllegalArgumentException" ∈ TBL := tb_in 458 (by decide +kernel) rfl
theorem mth_X4_hour : Mth yX4_hour cX4_hour 4 (some .int) 3 := ⟨tb_in 726 (by decide +kernel) rfl, tb_in 1 (by decide +kernel) rfl, ⟨by decide +kernel, by decide +kernel⟩, by decide +kernel⟩
theorem iv_X4_hour : Cond.instanceMethod yX4_hour ∈ TBL ∧ Cond.selects RX4 yX4_hour yX4_hour ∈ TBL := ⟨tb_in 724 (by decide +kernel) rfl, tb_in 725 (by decide +kernel) rfl⟩
theorem ml_RL_15 : Cond.methodLink RL 15 yX4_hour ∈ TBL := tb_in 723 (by decide +kernel) rfl
theorem ckE_19 : Cond.classLink RL 19 "java/lang/IllegalStateException" ∈ TBL := tb_in 722 (by decide +kernel) rfl
theorem mth_X4_fuel : Mth yX4_fuel cX4_fuel 4 (some .int) 2 := ⟨tb_in 778 (by decide +kernel) rfl, tb_in 1 (by decide +kernel) rfl, ⟨by decide +kernel, by decide +kernel⟩, by decide +kernel⟩
theorem iv_X4_fuel : Cond.instanceMethod yX4_fuel ∈ TBL ∧ Cond.selects RX4 yX4_fuel yX4_fuel ∈ TBL := ⟨tb_in 776 (by decide +kernel) rfl, tb_in 777 (by decide +kernel) rfl⟩
theorem ml_RL_21 : Cond.methodLink RL 21 yX4_fuel ∈ TBL := tb_in 775 (by decide +kernel) rfl
theorem ckE_25 : Cond.classLink RL 25 "java/util/NoSuchElementException" ∈ TBL := tb_in 774 (by decide +kernel) rfl
theorem mth_X4_wind : Mth yX4_wind cX4_wind 4 (some .int) 2 := ⟨tb_in 805 (by decide +kernel) rfl, tb_in 1 (by decide +kernel) rfl, ⟨by decide +kernel, by decide +kernel⟩, by decide +kernel⟩
theorem iv_X4_wind : Cond.instanceMethod yX4_wind ∈ TBL ∧ Cond.selects RX4 yX4_wind yX4_wind ∈ TBL := ⟨tb_in 803 (by decide +kernel) rfl, tb_in 804 (by decide +kernel) rfl⟩
theorem ml_RL_27 : Cond.methodLink RL 27 yX4_wind ∈ TBL := tb_in 802 (by decide +kernel) rfl
theorem mth_X4_told : Mth yX4_told cX4_told 2 (some .int) 1 := ⟨tb_in 813 (by decide +kernel) rfl, tb_in 1 (by decide +kernel) rfl, ⟨by decide +kernel, by decide +kernel⟩, by decide +kernel⟩
theorem iv_X4_told : Cond.instanceMethod yX4_told ∈ TBL ∧ Cond.selects RX4 yX4_told yX4_told ∈ TBL := ⟨tb_in 811 (by decide +kernel) rfl, tb_in 812 (by decide +kernel) rfl⟩
theorem ml_RL_30 : Cond.methodLink RL 30 yX4_told ∈ TBL := tb_in 810 (by decide +kernel) rfl
theorem mth_X4_cell : Mth yX4_cell cX4_cell 5 (some .int) 3 := ⟨tb_in 826 (by decide +kernel) rfl, tb_in 1 (by decide +kernel) rfl, ⟨by decide +kernel, by decide +kernel⟩, by decide +kernel⟩
theorem iv_X4_cell : Cond.instanceMethod yX4_cell ∈ TBL ∧ Cond.selects RX4 yX4_cell yX4_cell ∈ TBL := ⟨tb_in 824 (by decide +kernel) rfl, tb_in 825 (by decide +kernel) rfl⟩
theorem ml_RL_33 : Cond.methodLink RL 33 yX4_cell ∈ TBL := tb_in 823 (by decide +kernel) rfl
theorem mth_X4_blows : Mth yX4_blows cX4_blows 2 (some .int) 1 := ⟨tb_in 835 (by decide +kernel) rfl, tb_in 1 (by decide +kernel) rfl, ⟨by decide +kernel, by decide +kernel⟩, by decide +kernel⟩
theorem iv_X4_blows : Cond.instanceMethod yX4_blows ∈ TBL ∧ Cond.selects RX4 yX4_blows yX4_blows ∈ TBL := ⟨tb_in 833 (by decide +kernel) rfl, tb_in 834 (by decide +kernel) rfl⟩
theorem ml_RL_36 : Cond.methodLink RL 36 yX4_blows ∈ TBL := tb_in 832 (by decide +kernel) rfl
theorem mth_X4_helper : Mth yX4_helper cX4_helper 4 (some .int) 2 := ⟨tb_in 842 (by decide +kernel) rfl, tb_in 1 (by decide +kernel) rfl, ⟨by decide +kernel, by decide +kernel⟩, by decide +kernel⟩
theorem iv_X4_helper : Cond.instanceMethod yX4_helper ∈ TBL ∧ Cond.selects RX4 yX4_helper yX4_helper ∈ TBL := ⟨tb_in 840 (by decide +kernel) rfl, tb_in 841 (by decide +kernel) rfl⟩
theorem ml_RL_39 : Cond.methodLink RL 39 yX4_helper ∈ TBL := tb_in 839 (by decide +kernel) rfl
theorem mth_X4_drift : Mth yX4_drift cX4_drift 4 (some .int) 2 := ⟨tb_in 849 (by decide +kernel) rfl, tb_in 1 (by decide +kernel) rfl, ⟨by decide +kernel, by decide +kernel⟩, by decide +kernel⟩
theorem iv_X4_drift : Cond.instanceMethod yX4_drift ∈ TBL ∧ Cond.selects RX4 yX4_drift yX4_drift ∈ TBL := ⟨tb_in 847 (by decide +kernel) rfl, tb_in 848 (by decide +kernel) rfl⟩
theorem ml_RL_42 : Cond.methodLink RL 42 yX4_drift ∈ TBL := tb_in 846 (by decide +kernel) rfl
theorem mth_X4_cost : Mth yX4_cost cX4_cost 3 (some .int) 2 := ⟨tb_in 864 (by decide +kernel) rfl, tb_in 1 (by decide +kernel) rfl, ⟨by decide +kernel, by decide +kernel⟩, by decide +kernel⟩
theorem iv_X4_cost : Cond.instanceMethod yX4_cost ∈ TBL ∧ Cond.selects RX4 yX4_cost yX4_cost ∈ TBL := ⟨tb_in 862 (by decide +kernel) rfl, tb_in 863 (by decide +kernel) rfl⟩
theorem ml_RL_45 : Cond.methodLink RL 45 yX4_cost ∈ TBL := tb_in 861 (by decide +kernel) rfl
theorem mth_X4_meet : Mth yX4_meet cX4_meet 4 (some .int) 2 := ⟨tb_in 872 (by decide +kernel) rfl, tb_in 1 (by decide +kernel) rfl, ⟨by decide +kernel, by decide +kernel⟩, by decide +kernel⟩
theorem iv_X4_meet : Cond.instanceMethod yX4_meet ∈ TBL ∧ Cond.selects RX4 yX4_meet yX4_meet ∈ TBL := ⟨tb_in 870 (by decide +kernel) rfl, tb_in 871 (by decide +kernel) rfl⟩
theorem ml_RL_48 : Cond.methodLink RL 48 yX4_meet ∈ TBL := tb_in 869 (by decide +kernel) rfl
theorem mth_X4_route : Mth yX4_route cX4_route 3 (some .int) 2 := ⟨tb_in 884 (by decide +kernel) rfl, tb_in 1 (by decide +kernel) rfl, ⟨by decide +kernel, by decide +kernel⟩, by decide +kernel⟩
theorem iv_X4_route : Cond.instanceMethod yX4_route ∈ TBL ∧ Cond.selects RX4 yX4_route yX4_route ∈ TBL := ⟨tb_in 882 (by decide +kernel) rfl, tb_in 883 (by decide +kernel) rfl⟩
theorem ml_RL_51 : Cond.methodLink RL 51 yX4_route ∈ TBL := tb_in 881 (by decide +kernel) rfl
theorem mth_X4_least : Mth yX4_least cX4_least 3 (some .int) 2 := ⟨tb_in 916 (by decide +kernel) rfl, tb_in 1 (by decide +kernel) rfl, ⟨by decide +kernel, by decide +kernel⟩, by decide +kernel⟩
theorem iv_X4_least : Cond.instanceMethod yX4_least ∈ TBL ∧ Cond.selects RX4 yX4_least yX4_least ∈ TBL := ⟨tb_in 914 (by decide +kernel) rfl, tb_in 915 (by decide +kernel) rfl⟩
theorem ml_RL_54 : Cond.methodLink RL 54 yX4_least ∈ TBL := tb_in 913 (by decide +kernel) rfl
theorem mth_X4_reach : Mth yX4_reach cX4_reach 3 (some .int) 2 := ⟨tb_in 927 (by decide +kernel) rfl, tb_in 1 (by decide +kernel) rfl, ⟨by decide +kernel, by decide +kernel⟩, by decide +kernel⟩
theorem iv_X4_reach : Cond.instanceMethod yX4_reach ∈ TBL ∧ Cond.selects RX4 yX4_reach yX4_reach ∈ TBL := ⟨tb_in 925 (by decide +kernel) rfl, tb_in 926 (by decide +kernel) rfl⟩
theorem ml_RL_57 : Cond.methodLink RL 57 yX4_reach ∈ TBL := tb_in 924 (by decide +kernel) rfl
theorem mth_X4_most : Mth yX4_most cX4_most 5 (some .int) 4 := ⟨tb_in 938 (by decide +kernel) rfl, tb_in 1 (by decide +kernel) rfl, ⟨by decide +kernel, by decide +kernel⟩, by decide +kernel⟩
theorem iv_X4_most : Cond.instanceMethod yX4_most ∈ TBL ∧ Cond.selects RX4 yX4_most yX4_most ∈ TBL := ⟨tb_in 936 (by decide +kernel) rfl, tb_in 937 (by decide +kernel) rfl⟩
theorem ml_RL_60 : Cond.methodLink RL 60 yX4_most ∈ TBL := tb_in 935 (by decide +kernel) rfl
theorem mth_X4_relay : Mth yX4_relay cX4_relay 3 (some .int) 2 := ⟨tb_in 949 (by decide +kernel) rfl, tb_in 1 (by decide +kernel) rfl, ⟨by decide +kernel, by decide +kernel⟩, by decide +kernel⟩
theorem iv_X4_relay : Cond.instanceMethod yX4_relay ∈ TBL ∧ Cond.selects RX4 yX4_relay yX4_relay ∈ TBL := ⟨tb_in 947 (by decide +kernel) rfl, tb_in 948 (by decide +kernel) rfl⟩
theorem ml_RL_64 : Cond.methodLink RL 64 yX4_relay ∈ TBL := tb_in 946 (by decide +kernel) rfl
theorem mth_X4_home : Mth yX4_home cX4_home 3 (some .int) 2 := ⟨tb_in 964 (by decide +kernel) rfl, tb_in 1 (by decide +kernel) rfl, ⟨by decide +kernel, by decide +kernel⟩, by decide +kernel⟩
theorem iv_X4_home : Cond.instanceMethod yX4_home ∈ TBL ∧ Cond.selects RX4 yX4_home yX4_home ∈ TBL := ⟨tb_in 962 (by decide +kernel) rfl, tb_in 963 (by decide +kernel) rfl⟩
theorem ml_RL_67 : Cond.methodLink RL 67 yX4_home ∈ TBL := tb_in 961 (by decide +kernel) rfl
theorem d_L_text_0 : decode cL_text 0 = .ok (.aload_n 2, 1) := by decide +kernel
theorem d_L_text_1 : decode cL_text 1 = .ok (.iconst 0, 1) := by decide +kernel
theorem d_L_text_2 : decode cL_text 2 = .ok (.aload_n 0, 1) := by decide +kernel
theorem d_L_text_3 : decode cL_text 3 = .ok (.iload_n 1, 1) := by decide +kernel
theorem d_L_text_4 : decode cL_text 4 = .ok (.invokevirtual 7, 3) := by decide +kernel
theorem d_L_text_7 : decode cL_text 7 = .ok (.i2l, 1) := by decide +kernel
theorem d_L_text_8 : decode cL_text 8 = .ok (.lastore, 1) := by decide +kernel
theorem d_L_text_9 : decode cL_text 9 = .ok (.goto 6, 3) := by decide +kernel
theorem d_L_text_12 : decode cL_text 12 = .ok (.astore_n 3, 1) := by decide +kernel
theorem d_L_text_13 : decode cL_text 13 = .ok (.iconst 1, 1) := by decide +kernel
theorem d_L_text_14 : decode cL_text 14 = .ok (.ireturn, 1) := by decide +kernel
theorem d_L_text_15 : decode cL_text 15 = .ok (.iconst 0, 1) := by decide +kernel
theorem d_L_text_16 : decode cL_text 16 = .ok (.ireturn, 1) := by decide +kernel
abbrev rm_L_text : Room := { frames := 11, cells := 1, slots := 6, locals := 237 }
theorem d_L_hour_0 : decode cL_hour 0 = .ok (.aload 4, 2) := by decide +kernel
theorem d_L_hour_2 : decode cL_hour 2 = .ok (.iconst 0, 1) := by decide +kernel
theorem d_L_hour_3 : decode cL_hour 3 = .ok (.aload_n 0, 1) := by decide +kernel
theorem d_L_hour_4 : decode cL_hour 4 = .ok (.iload_n 1, 1) := by decide +kernel
theorem d_L_hour_5 : decode cL_hour 5 = .ok (.iload_n 2, 1) := by decide +kernel
theorem d_L_hour_6 : decode cL_hour 6 = .ok (.iload_n 3, 1) := by decide +kernel
theorem d_L_hour_7 : decode cL_hour 7 = .ok (.invokevirtual 15, 3) := by decide +kernel
theorem d_L_hour_10 : decode cL_hour 10 = .ok (.i2l, 1) := by decide +kernel
theorem d_L_hour_11 : decode cL_hour 11 = .ok (.lastore, 1) := by decide +kernel
theorem d_L_hour_12 : decode cL_hour 12 = .ok (.goto 11, 3) := by decide +kernel
theorem d_L_hour_15 : decode cL_hour 15 = .ok (.astore 5, 2) := by decide +kernel
theorem d_L_hour_17 : decode cL_hour 17 = .ok (.iconst 1, 1) := by decide +kernel
theorem d_L_hour_18 : decode cL_hour 18 = .ok (.ireturn, 1) := by decide +kernel
theorem d_L_hour_19 : decode cL_hour 19 = .ok (.astore 5, 2) := by decide +kernel
theorem d_L_hour_21 : decode cL_hour 21 = .ok (.iconst 2, 1) := by decide +kernel
theorem d_L_hour_22 : decode cL_hour 22 = .ok (.ireturn, 1) := by decide +kernel
theorem d_L_hour_23 : decode cL_hour 23 = .ok (.iconst 0, 1) := by decide +kernel
theorem d_L_hour_24 : decode cL_hour 24 = .ok (.ireturn, 1) := by decide +kernel
abbrev rm_L_hour : Room := { frames := 8, cells := 3, slots := 18, locals := 139 }
theorem d_L_fuel_0 : decode cL_fuel 0 = .ok (.aload_n 3, 1) := by decide +kernel
theorem d_L_fuel_1 : decode cL_fuel 1 = .ok (.iconst 0, 1) := by decide +kernel
theorem d_L_fuel_2 : decode cL_fuel 2 = .ok (.aload_n 0, 1) := by decide +kernel
theorem d_L_fuel_3 : decode cL_fuel 3 = .ok (.iload_n 1, 1) := by decide +kernel
theorem d_L_fuel_4 : decode cL_fuel 4 = .ok (.iload_n 2, 1) := by decide +kernel
theorem d_L_fuel_5 : decode cL_fuel 5 = .ok (.invokevirtual 21, 3) := by decide +kernel
theorem d_L_fuel_8 : decode cL_fuel 8 = .ok (.i2l, 1) := by decide +kernel
theorem d_L_fuel_9 : decode cL_fuel 9 = .ok (.lastore, 1) := by decide +kernel
theorem d_L_fuel_10 : decode cL_fuel 10 = .ok (.goto 11, 3) := by decide +kernel
theorem d_L_fuel_13 : decode cL_fuel 13 = .ok (.astore 4, 2) := by decide +kernel
theorem d_L_fuel_15 : decode cL_fuel 15 = .ok (.iconst 1, 1) := by decide +kernel
theorem d_L_fuel_16 : decode cL_fuel 16 = .ok (.ireturn, 1) := by decide +kernel
theorem d_L_fuel_17 : decode cL_fuel 17 = .ok (.astore 4, 2) := by decide +kernel
theorem d_L_fuel_19 : decode cL_fuel 19 = .ok (.iconst 2, 1) := by decide +kernel
theorem d_L_fuel_20 : decode cL_fuel 20 = .ok (.ireturn, 1) := by decide +kernel
theorem d_L_fuel_21 : decode cL_fuel 21 = .ok (.iconst 0, 1) := by decide +kernel
theorem d_L_fuel_22 : decode cL_fuel 22 = .ok (.ireturn, 1) := by decide +kernel
abbrev rm_L_fuel : Room := { frames := 8, cells := 2, slots := 12, locals := 134 }
theorem d_L_wind_0 : decode cL_wind 0 = .ok (.aload_n 3, 1) := by decide +kernel
theorem d_L_wind_1 : decode cL_wind 1 = .ok (.iconst 0, 1) := by decide +kernel
theorem d_L_wind_2 : decode cL_wind 2 = .ok (.aload_n 0, 1) := by decide +kernel
theorem d_L_wind_3 : decode cL_wind 3 = .ok (.iload_n 1, 1) := by decide +kernel
theorem d_L_wind_4 : decode cL_wind 4 = .ok (.iload_n 2, 1) := by decide +kernel
theorem d_L_wind_5 : decode cL_wind 5 = .ok (.invokevirtual 27, 3) := by decide +kernel
theorem d_L_wind_8 : decode cL_wind 8 = .ok (.i2l, 1) := by decide +kernel
theorem d_L_wind_9 : decode cL_wind 9 = .ok (.lastore, 1) := by decide +kernel
theorem d_L_wind_10 : decode cL_wind 10 = .ok (.goto 7, 3) := by decide +kernel
theorem d_L_wind_13 : decode cL_wind 13 = .ok (.astore 4, 2) := by decide +kernel
theorem d_L_wind_15 : decode cL_wind 15 = .ok (.iconst 1, 1) := by decide +kernel
theorem d_L_wind_16 : decode cL_wind 16 = .ok (.ireturn, 1) := by decide +kernel
theorem d_L_wind_17 : decode cL_wind 17 = .ok (.iconst 0, 1) := by decide +kernel
theorem d_L_wind_18 : decode cL_wind 18 = .ok (.ireturn, 1) := by decide +kernel
abbrev rm_L_wind : Room := { frames := 8, cells := 1, slots := 6, locals := 134 }
theorem d_L_told_0 : decode cL_told 0 = .ok (.aload_n 2, 1) := by decide +kernel
theorem d_L_told_1 : decode cL_told 1 = .ok (.iconst 0, 1) := by decide +kernel
theorem d_L_told_2 : decode cL_told 2 = .ok (.aload_n 0, 1) := by decide +kernel
theorem d_L_told_3 : decode cL_told 3 = .ok (.iload_n 1, 1) := by decide +kernel
theorem d_L_told_4 : decode cL_told 4 = .ok (.invokevirtual 30, 3) := by decide +kernel
theorem d_L_told_7 : decode cL_told 7 = .ok (.i2l, 1) := by decide +kernel
theorem d_L_told_8 : decode cL_told 8 = .ok (.lastore, 1) := by decide +kernel
theorem d_L_told_9 : decode cL_told 9 = .ok (.goto 6, 3) := by decide +kernel
theorem d_L_told_12 : decode cL_told 12 = .ok (.astore_n 3, 1) := by decide +kernel
theorem d_L_told_13 : decode cL_told 13 = .ok (.iconst 1, 1) := by decide +kernel
theorem d_L_told_14 : decode cL_told 14 = .ok (.ireturn, 1) := by decide +kernel
theorem d_L_told_15 : decode cL_told 15 = .ok (.iconst 0, 1) := by decide +kernel
theorem d_L_told_16 : decode cL_told 16 = .ok (.ireturn, 1) := by decide +kernel
abbrev rm_L_told : Room := { frames := 8, cells := 1, slots := 6, locals := 132 }
theorem d_L_cell_0 : decode cL_cell 0 = .ok (.aload 4, 2) := by decide +kernel
theorem d_L_cell_2 : decode cL_cell 2 = .ok (.iconst 0, 1) := by decide +kernel
theorem d_L_cell_3 : decode cL_cell 3 = .ok (.aload_n 0, 1) := by decide +kernel
theorem d_L_cell_4 : decode cL_cell 4 = .ok (.iload_n 1, 1) := by decide +kernel
theorem d_L_cell_5 : decode cL_cell 5 = .ok (.iload_n 2, 1) := by decide +kernel
theorem d_L_cell_6 : decode cL_cell 6 = .ok (.iload_n 3, 1) := by decide +kernel
theorem d_L_cell_7 : decode cL_cell 7 = .ok (.invokevirtual 33, 3) := by decide +kernel
theorem d_L_cell_10 : decode cL_cell 10 = .ok (.i2l, 1) := by decide +kernel
theorem d_L_cell_11 : decode cL_cell 11 = .ok (.lastore, 1) := by decide +kernel
theorem d_L_cell_12 : decode cL_cell 12 = .ok (.goto 7, 3) := by decide +kernel
theorem d_L_cell_15 : decode cL_cell 15 = .ok (.astore 5, 2) := by decide +kernel
theorem d_L_cell_17 : decode cL_cell 17 = .ok (.iconst 1, 1) := by decide +kernel
theorem d_L_cell_18 : decode cL_cell 18 = .ok (.ireturn, 1) := by decide +kernel
theorem d_L_cell_19 : decode cL_cell 19 = .ok (.iconst 0, 1) := by decide +kernel
theorem d_L_cell_20 : decode cL_cell 20 = .ok (.ireturn, 1) := by decide +kernel
abbrev rm_L_cell : Room := { frames := 8, cells := 1, slots := 6, locals := 135 }
theorem d_L_blows_0 : decode cL_blows 0 = .ok (.aload_n 2, 1) := by decide +kernel
theorem d_L_blows_1 : decode cL_blows 1 = .ok (.iconst 0, 1) := by decide +kernel
theorem d_L_blows_2 : decode cL_blows 2 = .ok (.aload_n 0, 1) := by decide +kernel
theorem d_L_blows_3 : decode cL_blows 3 = .ok (.iload_n 1, 1) := by decide +kernel
theorem d_L_blows_4 : decode cL_blows 4 = .ok (.invokevirtual 36, 3) := by decide +kernel
theorem d_L_blows_7 : decode cL_blows 7 = .ok (.i2l, 1) := by decide +kernel
theorem d_L_blows_8 : decode cL_blows 8 = .ok (.lastore, 1) := by decide +kernel
theorem d_L_blows_9 : decode cL_blows 9 = .ok (.goto 6, 3) := by decide +kernel
theorem d_L_blows_12 : decode cL_blows 12 = .ok (.astore_n 3, 1) := by decide +kernel
theorem d_L_blows_13 : decode cL_blows 13 = .ok (.iconst 1, 1) := by decide +kernel
theorem d_L_blows_14 : decode cL_blows 14 = .ok (.ireturn, 1) := by decide +kernel
theorem d_L_blows_15 : decode cL_blows 15 = .ok (.iconst 0, 1) := by decide +kernel
theorem d_L_blows_16 : decode cL_blows 16 = .ok (.ireturn, 1) := by decide +kernel
abbrev rm_L_blows : Room := { frames := 8, cells := 1, slots := 6, locals := 132 }
theorem d_L_helper_0 : decode cL_helper 0 = .ok (.aload_n 3, 1) := by decide +kernel
theorem d_L_helper_1 : decode cL_helper 1 = .ok (.iconst 0, 1) := by decide +kernel
theorem d_L_helper_2 : decode cL_helper 2 = .ok (.aload_n 0, 1) := by decide +kernel
theorem d_L_helper_3 : decode cL_helper 3 = .ok (.iload_n 1, 1) := by decide +kernel
theorem d_L_helper_4 : decode cL_helper 4 = .ok (.iload_n 2, 1) := by decide +kernel
theorem d_L_helper_5 : decode cL_helper 5 = .ok (.invokevirtual 39, 3) := by decide +kernel
theorem d_L_helper_8 : decode cL_helper 8 = .ok (.i2l, 1) := by decide +kernel
theorem d_L_helper_9 : decode cL_helper 9 = .ok (.lastore, 1) := by decide +kernel
theorem d_L_helper_10 : decode cL_helper 10 = .ok (.goto 11, 3) := by decide +kernel
theorem d_L_helper_13 : decode cL_helper 13 = .ok (.astore 4, 2) := by decide +kernel
theorem d_L_helper_15 : decode cL_helper 15 = .ok (.iconst 1, 1) := by decide +kernel
theorem d_L_helper_16 : decode cL_helper 16 = .ok (.ireturn, 1) := by decide +kernel
theorem d_L_helper_17 : decode cL_helper 17 = .ok (.astore 4, 2) := by decide +kernel
theorem d_L_helper_19 : decode cL_helper 19 = .ok (.iconst 2, 1) := by decide +kernel
theorem d_L_helper_20 : decode cL_helper 20 = .ok (.ireturn, 1) := by decide +kernel
theorem d_L_helper_21 : decode cL_helper 21 = .ok (.iconst 0, 1) := by decide +kernel
theorem d_L_helper_22 : decode cL_helper 22 = .ok (.ireturn, 1) := by decide +kernel
abbrev rm_L_helper : Room := { frames := 8, cells := 2, slots := 12, locals := 134 }
theorem d_L_drift_0 : decode cL_drift 0 = .ok (.aload_n 3, 1) := by decide +kernel
theorem d_L_drift_1 : decode cL_drift 1 = .ok (.iconst 0, 1) := by decide +kernel
theorem d_L_drift_2 : decode cL_drift 2 = .ok (.aload_n 0, 1) := by decide +kernel
theorem d_L_drift_3 : decode cL_drift 3 = .ok (.iload_n 1, 1) := by decide +kernel
theorem d_L_drift_4 : decode cL_drift 4 = .ok (.iload_n 2, 1) := by decide +kernel
theorem d_L_drift_5 : decode cL_drift 5 = .ok (.invokevirtual 42, 3) := by decide +kernel
theorem d_L_drift_8 : decode cL_drift 8 = .ok (.i2l, 1) := by decide +kernel
theorem d_L_drift_9 : decode cL_drift 9 = .ok (.lastore, 1) := by decide +kernel
theorem d_L_drift_10 : decode cL_drift 10 = .ok (.goto 7, 3) := by decide +kernel
theorem d_L_drift_13 : decode cL_drift 13 = .ok (.astore 4, 2) := by decide +kernel
theorem d_L_drift_15 : decode cL_drift 15 = .ok (.iconst 1, 1) := by decide +kernel
theorem d_L_drift_16 : decode cL_drift 16 = .ok (.ireturn, 1) := by decide +kernel
theorem d_L_drift_17 : decode cL_drift 17 = .ok (.iconst 0, 1) := by decide +kernel
theorem d_L_drift_18 : decode cL_drift 18 = .ok (.ireturn, 1) := by decide +kernel
abbrev rm_L_drift : Room := { frames := 8, cells := 1, slots := 6, locals := 161 }
theorem d_L_cost_0 : decode cL_cost 0 = .ok (.aload_n 3, 1) := by decide +kernel
theorem d_L_cost_1 : decode cL_cost 1 = .ok (.iconst 0, 1) := by decide +kernel
theorem d_L_cost_2 : decode cL_cost 2 = .ok (.aload_n 0, 1) := by decide +kernel
theorem d_L_cost_3 : decode cL_cost 3 = .ok (.iload_n 1, 1) := by decide +kernel
theorem d_L_cost_4 : decode cL_cost 4 = .ok (.iload_n 2, 1) := by decide +kernel
theorem d_L_cost_5 : decode cL_cost 5 = .ok (.invokevirtual 45, 3) := by decide +kernel
theorem d_L_cost_8 : decode cL_cost 8 = .ok (.i2l, 1) := by decide +kernel
theorem d_L_cost_9 : decode cL_cost 9 = .ok (.lastore, 1) := by decide +kernel
theorem d_L_cost_10 : decode cL_cost 10 = .ok (.goto 7, 3) := by decide +kernel
theorem d_L_cost_13 : decode cL_cost 13 = .ok (.astore 4, 2) := by decide +kernel
theorem d_L_cost_15 : decode cL_cost 15 = .ok (.iconst 1, 1) := by decide +kernel
theorem d_L_cost_16 : decode cL_cost 16 = .ok (.ireturn, 1) := by decide +kernel
theorem d_L_cost_17 : decode cL_cost 17 = .ok (.iconst 0, 1) := by decide +kernel
theorem d_L_cost_18 : decode cL_cost 18 = .ok (.ireturn, 1) := by decide +kernel
abbrev rm_L_cost : Room := { frames := 8, cells := 1, slots := 6, locals := 133 }
theorem d_L_meet_0 : decode cL_meet 0 = .ok (.aload_n 3, 1) := by decide +kernel
theorem d_L_meet_1 : decode cL_meet 1 = .ok (.iconst 0, 1) := by decide +kernel
theorem d_L_meet_2 : decode cL_meet 2 = .ok (.aload_n 0, 1) := by decide +kernel
theorem d_L_meet_3 : decode cL_meet 3 = .ok (.iload_n 1, 1) := by decide +kernel
theorem d_L_meet_4 : decode cL_meet 4 = .ok (.iload_n 2, 1) := by decide +kernel
theorem d_L_meet_5 : decode cL_meet 5 = .ok (.invokevirtual 48, 3) := by decide +kernel
theorem d_L_meet_8 : decode cL_meet 8 = .ok (.i2l, 1) := by decide +kernel
theorem d_L_meet_9 : decode cL_meet 9 = .ok (.lastore, 1) := by decide +kernel
theorem d_L_meet_10 : decode cL_meet 10 = .ok (.goto 11, 3) := by decide +kernel
theorem d_L_meet_13 : decode cL_meet 13 = .ok (.astore 4, 2) := by decide +kernel
theorem d_L_meet_15 : decode cL_meet 15 = .ok (.iconst 1, 1) := by decide +kernel
theorem d_L_meet_16 : decode cL_meet 16 = .ok (.ireturn, 1) := by decide +kernel
theorem d_L_meet_17 : decode cL_meet 17 = .ok (.astore 4, 2) := by decide +kernel
theorem d_L_meet_19 : decode cL_meet 19 = .ok (.iconst 2, 1) := by decide +kernel
theorem d_L_meet_20 : decode cL_meet 20 = .ok (.ireturn, 1) := by decide +kernel
theorem d_L_meet_21 : decode cL_meet 21 = .ok (.iconst 0, 1) := by decide +kernel
theorem d_L_meet_22 : decode cL_meet 22 = .ok (.ireturn, 1) := by decide +kernel
abbrev rm_L_meet : Room := { frames := 8, cells := 2, slots := 12, locals := 161 }
theorem d_L_route_0 : decode cL_route 0 = .ok (.aload_n 3, 1) := by decide +kernel
theorem d_L_route_1 : decode cL_route 1 = .ok (.iconst 0, 1) := by decide +kernel
theorem d_L_route_2 : decode cL_route 2 = .ok (.aload_n 0, 1) := by decide +kernel
theorem d_L_route_3 : decode cL_route 3 = .ok (.iload_n 1, 1) := by decide +kernel
theorem d_L_route_4 : decode cL_route 4 = .ok (.iload_n 2, 1) := by decide +kernel
theorem d_L_route_5 : decode cL_route 5 = .ok (.invokevirtual 51, 3) := by decide +kernel
theorem d_L_route_8 : decode cL_route 8 = .ok (.i2l, 1) := by decide +kernel
theorem d_L_route_9 : decode cL_route 9 = .ok (.lastore, 1) := by decide +kernel
theorem d_L_route_10 : decode cL_route 10 = .ok (.goto 7, 3) := by decide +kernel
theorem d_L_route_13 : decode cL_route 13 = .ok (.astore 4, 2) := by decide +kernel
theorem d_L_route_15 : decode cL_route 15 = .ok (.iconst 1, 1) := by decide +kernel
theorem d_L_route_16 : decode cL_route 16 = .ok (.ireturn, 1) := by decide +kernel
theorem d_L_route_17 : decode cL_route 17 = .ok (.iconst 0, 1) := by decide +kernel
theorem d_L_route_18 : decode cL_route 18 = .ok (.ireturn, 1) := by decide +kernel
abbrev rm_L_route : Room := { frames := 8, cells := 1, slots := 6, locals := 160 }
theorem d_L_least_0 : decode cL_least 0 = .ok (.aload_n 3, 1) := by decide +kernel
theorem d_L_least_1 : decode cL_least 1 = .ok (.iconst 0, 1) := by decide +kernel
theorem d_L_least_2 : decode cL_least 2 = .ok (.aload_n 0, 1) := by decide +kernel
theorem d_L_least_3 : decode cL_least 3 = .ok (.iload_n 1, 1) := by decide +kernel
theorem d_L_least_4 : decode cL_least 4 = .ok (.iload_n 2, 1) := by decide +kernel
theorem d_L_least_5 : decode cL_least 5 = .ok (.invokevirtual 54, 3) := by decide +kernel
theorem d_L_least_8 : decode cL_least 8 = .ok (.i2l, 1) := by decide +kernel
theorem d_L_least_9 : decode cL_least 9 = .ok (.lastore, 1) := by decide +kernel
theorem d_L_least_10 : decode cL_least 10 = .ok (.goto 11, 3) := by decide +kernel
theorem d_L_least_13 : decode cL_least 13 = .ok (.astore 4, 2) := by decide +kernel
theorem d_L_least_15 : decode cL_least 15 = .ok (.iconst 1, 1) := by decide +kernel
theorem d_L_least_16 : decode cL_least 16 = .ok (.ireturn, 1) := by decide +kernel
theorem d_L_least_17 : decode cL_least 17 = .ok (.astore 4, 2) := by decide +kernel
theorem d_L_least_19 : decode cL_least 19 = .ok (.iconst 2, 1) := by decide +kernel
theorem d_L_least_20 : decode cL_least 20 = .ok (.ireturn, 1) := by decide +kernel
theorem d_L_least_21 : decode cL_least 21 = .ok (.iconst 0, 1) := by decide +kernel
theorem d_L_least_22 : decode cL_least 22 = .ok (.ireturn, 1) := by decide +kernel
abbrev rm_L_least : Room := { frames := 8, cells := 2, slots := 12, locals := 160 }
theorem d_L_reach_0 : decode cL_reach 0 = .ok (.aload_n 3, 1) := by decide +kernel
theorem d_L_reach_1 : decode cL_reach 1 = .ok (.iconst 0, 1) := by decide +kernel
theorem d_L_reach_2 : decode cL_reach 2 = .ok (.aload_n 0, 1) := by decide +kernel
theorem d_L_reach_3 : decode cL_reach 3 = .ok (.iload_n 1, 1) := by decide +kernel
theorem d_L_reach_4 : decode cL_reach 4 = .ok (.iload_n 2, 1) := by decide +kernel
theorem d_L_reach_5 : decode cL_reach 5 = .ok (.invokevirtual 57, 3) := by decide +kernel
theorem d_L_reach_8 : decode cL_reach 8 = .ok (.i2l, 1) := by decide +kernel
theorem d_L_reach_9 : decode cL_reach 9 = .ok (.lastore, 1) := by decide +kernel
theorem d_L_reach_10 : decode cL_reach 10 = .ok (.goto 11, 3) := by decide +kernel
theorem d_L_reach_13 : decode cL_reach 13 = .ok (.astore 4, 2) := by decide +kernel
theorem d_L_reach_15 : decode cL_reach 15 = .ok (.iconst 1, 1) := by decide +kernel
theorem d_L_reach_16 : decode cL_reach 16 = .ok (.ireturn, 1) := by decide +kernel
theorem d_L_reach_17 : decode cL_reach 17 = .ok (.astore 4, 2) := by decide +kernel
theorem d_L_reach_19 : decode cL_reach 19 = .ok (.iconst 2, 1) := by decide +kernel
theorem d_L_reach_20 : decode cL_reach 20 = .ok (.ireturn, 1) := by decide +kernel
theorem d_L_reach_21 : decode cL_reach 21 = .ok (.iconst 0, 1) := by decide +kernel
theorem d_L_reach_22 : decode cL_reach 22 = .ok (.ireturn, 1) := by decide +kernel
abbrev rm_L_reach : Room := { frames := 8, cells := 2, slots := 12, locals := 160 }
theorem d_L_most_0 : decode cL_most 0 = .ok (.aload 5, 2) := by decide +kernel
theorem d_L_most_2 : decode cL_most 2 = .ok (.iconst 0, 1) := by decide +kernel
theorem d_L_most_3 : decode cL_most 3 = .ok (.aload_n 0, 1) := by decide +kernel
theorem d_L_most_4 : decode cL_most 4 = .ok (.iload_n 1, 1) := by decide +kernel
theorem d_L_most_5 : decode cL_most 5 = .ok (.iload_n 2, 1) := by decide +kernel
theorem d_L_most_6 : decode cL_most 6 = .ok (.iload_n 3, 1) := by decide +kernel
theorem d_L_most_7 : decode cL_most 7 = .ok (.iload 4, 2) := by decide +kernel
theorem d_L_most_9 : decode cL_most 9 = .ok (.invokevirtual 60, 3) := by decide +kernel
theorem d_L_most_12 : decode cL_most 12 = .ok (.i2l, 1) := by decide +kernel
theorem d_L_most_13 : decode cL_most 13 = .ok (.lastore, 1) := by decide +kernel
theorem d_L_most_14 : decode cL_most 14 = .ok (.goto 11, 3) := by decide +kernel
theorem d_L_most_17 : decode cL_most 17 = .ok (.astore 6, 2) := by decide +kernel
theorem d_L_most_19 : decode cL_most 19 = .ok (.iconst 1, 1) := by decide +kernel
theorem d_L_most_20 : decode cL_most 20 = .ok (.ireturn, 1) := by decide +kernel
theorem d_L_most_21 : decode cL_most 21 = .ok (.astore 6, 2) := by decide +kernel
theorem d_L_most_23 : decode cL_most 23 = .ok (.iconst 2, 1) := by decide +kernel
theorem d_L_most_24 : decode cL_most 24 = .ok (.ireturn, 1) := by decide +kernel
theorem d_L_most_25 : decode cL_most 25 = .ok (.iconst 0, 1) := by decide +kernel
theorem d_L_most_26 : decode cL_most 26 = .ok (.ireturn, 1) := by decide +kernel
abbrev rm_L_most : Room := { frames := 8, cells := 2, slots := 12, locals := 162 }
theorem d_L_relay_0 : decode cL_relay 0 = .ok (.aload_n 3, 1) := by decide +kernel
theorem d_L_relay_1 : decode cL_relay 1 = .ok (.iconst 0, 1) := by decide +kernel
theorem d_L_relay_2 : decode cL_relay 2 = .ok (.aload_n 0, 1) := by decide +kernel
theorem d_L_relay_3 : decode cL_relay 3 = .ok (.iload_n 1, 1) := by decide +kernel
theorem d_L_relay_4 : decode cL_relay 4 = .ok (.iload_n 2, 1) := by decide +kernel
theorem d_L_relay_5 : decode cL_relay 5 = .ok (.invokevirtual 64, 3) := by decide +kernel
theorem d_L_relay_8 : decode cL_relay 8 = .ok (.i2l, 1) := by decide +kernel
theorem d_L_relay_9 : decode cL_relay 9 = .ok (.lastore, 1) := by decide +kernel
theorem d_L_relay_10 : decode cL_relay 10 = .ok (.goto 11, 3) := by decide +kernel
theorem d_L_relay_13 : decode cL_relay 13 = .ok (.astore 4, 2) := by decide +kernel
theorem d_L_relay_15 : decode cL_relay 15 = .ok (.iconst 1, 1) := by decide +kernel
theorem d_L_relay_16 : decode cL_relay 16 = .ok (.ireturn, 1) := by decide +kernel
theorem d_L_relay_17 : decode cL_relay 17 = .ok (.astore 4, 2) := by decide +kernel
theorem d_L_relay_19 : decode cL_relay 19 = .ok (.iconst 2, 1) := by decide +kernel
theorem d_L_relay_20 : decode cL_relay 20 = .ok (.ireturn, 1) := by decide +kernel
theorem d_L_relay_21 : decode cL_relay 21 = .ok (.iconst 0, 1) := by decide +kernel
theorem d_L_relay_22 : decode cL_relay 22 = .ok (.ireturn, 1) := by decide +kernel
abbrev rm_L_relay : Room := { frames := 8, cells := 3, slots := 18, locals := 160 }
theorem d_L_home_0 : decode cL_home 0 = .ok (.aload_n 3, 1) := by decide +kernel
theorem d_L_home_1 : decode cL_home 1 = .ok (.iconst 0, 1) := by decide +kernel
theorem d_L_home_2 : decode cL_home 2 = .ok (.aload_n 0, 1) := by decide +kernel
theorem d_L_home_3 : decode cL_home 3 = .ok (.iload_n 1, 1) := by decide +kernel
theorem d_L_home_4 : decode cL_home 4 = .ok (.iload_n 2, 1) := by decide +kernel
theorem d_L_home_5 : decode cL_home 5 = .ok (.invokevirtual 67, 3) := by decide +kernel
theorem d_L_home_8 : decode cL_home 8 = .ok (.i2l, 1) := by decide +kernel
theorem d_L_home_9 : decode cL_home 9 = .ok (.lastore, 1) := by decide +kernel
theorem d_L_home_10 : decode cL_home 10 = .ok (.goto 11, 3) := by decide +kernel
theorem d_L_home_13 : decode cL_home 13 = .ok (.astore 4, 2) := by decide +kernel
theorem d_L_home_15 : decode cL_home 15 = .ok (.iconst 1, 1) := by decide +kernel
theorem d_L_home_16 : decode cL_home 16 = .ok (.ireturn, 1) := by decide +kernel
theorem d_L_home_17 : decode cL_home 17 = .ok (.astore 4, 2) := by decide +kernel
theorem d_L_home_19 : decode cL_home 19 = .ok (.iconst 2, 1) := by decide +kernel
theorem d_L_home_20 : decode cL_home 20 = .ok (.ireturn, 1) := by decide +kernel
theorem d_L_home_21 : decode cL_home 21 = .ok (.iconst 0, 1) := by decide +kernel
theorem d_L_home_22 : decode cL_home 22 = .ok (.ireturn, 1) := by decide +kernel
abbrev rm_L_home : Room := { frames := 8, cells := 2, slots := 12, locals := 160 }
set_option maxHeartbeats 4000000 in
set_option maxRecDepth 20000 in
theorem w_L_text (l : Launch) (hfl : l.stackTraces = false) (d : Lb) (hd : Ld d) {v1 : Int32} {σc σm : Sg} {v : Int64} {K : Int32 → Sg → Int64 → Prop} (h : m_X4_text v1 σc (fun r σ' => K 0 σ' r.toInt64) (fun E σ' => (E = "java/lang/IllegalArgumentException" ∧ K 1 σ' v))) : CtL l d yL_text cL_text 4 [(0, 9, 12, 13)] rm_L_text [.ref (wB (wC (dC d)) + 0), .int v1, .ref (dO d)] σc σm v K := by
  refine CtL.of hd (own := RL) (by decide +kernel) rfl (Nat.le_of_ble_eq_true rfl) (fun x hx ht o => ?_)
  subst hx
  show JP x (frL d) (LW d σc σm v) (FinL x d K σm (1, 6)) 0 [(0, .ref (wB (wC (dC d)) + 0)), (1, .int v1), (2, .ref (dO d))] [] (0, 0)
  refine JP_aload_n o.1 2 d_L_text_0 rfl ?_
  refine JP_iconst (v := 0) o.1 d_L_text_1 (by decide) ?_
  refine JP_aload_n o.1 0 d_L_text_2 rfl ?_
  refine JP_iload_n o.1 1 d_L_text_3 rfl ?_
  refine JL_callX o [.int v1] mth_X4_text iv_X4_text ml_RL_7 ⟨Nat.le_of_ble_eq_true rfl, Nat.le_of_ble_eq_true rfl⟩ rfl rfl (Nat.le_of_ble_eq_true rfl) ⟨Nat.le_of_ble_eq_true rfl, Nat.le_of_ble_eq_true rfl⟩ d_L_text_4 (w_X4_text (xL x) (dC d) hfl h) (fun E σ' hE => ?_) (fun u s1 hu => ?_)
  · rcases hE with ⟨rfl, hE⟩
    · refine JPT_catch o [] ⟨0, 9, 12, 13⟩ [] ht (fun _ h => by cases h) rfl (by decide) ckE_13 (by decide +kernel) (fun q => ?_)
      refine JP_astore_n (lv' := [(3, .ref q), (0, .ref (wB (wC (dC d)) + 0)), (1, .int v1), (2, .ref (dO d))]) o.1 d_L_text_12 (by decide) rfl ?_
      refine JP_iconst (v := 1) o.1 d_L_text_13 (by decide) ?_
      exact JL_ret o ⟨Nat.le_of_ble_eq_true rfl, Nat.le_of_ble_eq_true rfl⟩ d_L_text_14 hE
  · obtain ⟨r, hr, hk⟩ := hu
    cases hr
    refine JP_i2l o.1 d_L_text_7 ?_
    refine JL_last o d_L_text_8 ?_
    refine JP_goto o.1 15 d_L_text_9 (by decide) ?_
    refine JP_iconst (v := 0) o.1 d_L_text_15 (by decide) ?_
    exact JL_ret o ⟨Nat.le_of_ble_eq_true rfl, Nat.le_of_ble_eq_true rfl⟩ d_L_text_16 hk
set_option maxHeartbeats 4000000 in
set_option maxRecDepth 20000 in
theorem w_L_hour (l : Launch) (hfl : l.stackTraces = false) (d : Lb) (hd : Ld d) {v1 : Int32} {v2 : Int32} {v3 : Int32} {σc σm : Sg} {v : Int64} {K : Int32 → Sg → Int64 → Prop} (h : m_X4_hour v1 v2 v3 σc (fun r σ' => K 0 σ' r.toInt64) (fun E σ' => (E = "java/lang/IllegalArgumentException" ∧ K 1 σ' v) ∨ (E = "java/lang/IllegalStateException" ∧ K 2 σ' v))) : CtL l d yL_hour cL_hour 6 [(0, 12, 15, 13), (0, 12, 19, 19)] rm_L_hour [.ref (wB (wC (dC d)) + 0), .int v1, .int v2, .int v3, .ref (dO d)] σc σm v K := by
  refine CtL.of hd (own := RL) (by decide +kernel) rfl (Nat.le_of_ble_eq_true rfl) (fun x hx ht o => ?_)
  subst hx
  show JP x (frL d) (LW d σc σm v) (FinL x d K σm (3, 18)) 0 [(0, .ref (wB (wC (dC d)) + 0)), (1, .int v1), (2, .int v2), (3, .int v3), (4, .ref (dO d))] [] (0, 0)
  refine JP_aload o.1 4 d_L_hour_0 rfl ?_
  refine JP_iconst (v := 0) o.1 d_L_hour_2 (by decide) ?_
  refine JP_aload_n o.1 0 d_L_hour_3 rfl ?_
  refine JP_iload_n o.1 1 d_L_hour_4 rfl ?_
  refine JP_iload_n o.1 2 d_L_hour_5 rfl ?_
  refine JP_iload_n o.1 3 d_L_hour_6 rfl ?_
  refine JL_callX o [.int v1, .int v2, .int v3] mth_X4_hour iv_X4_hour ml_RL_15 ⟨Nat.le_of_ble_eq_true rfl, Nat.le_of_ble_eq_true rfl⟩ rfl rfl (Nat.le_of_ble_eq_true rfl) ⟨Nat.le_of_ble_eq_true rfl, Nat.le_of_ble_eq_true rfl⟩ d_L_hour_7 (w_X4_hour (xL x) (dC d) hfl h) (fun E σ' hE => ?_) (fun u s1 hu => ?_)
  · rcases hE with ⟨rfl, hE⟩ | ⟨rfl, hE⟩
    · refine JPT_catch o [] ⟨0, 12, 15, 13⟩ [⟨0, 12, 19, 19⟩] ht (fun _ h => by cases h) rfl (by decide) ckE_13 (by decide +kernel) (fun q => ?_)
      refine JP_astore (lv' := [(5, .ref q), (0, .ref (wB (wC (dC d)) + 0)), (1, .int v1), (2, .int v2), (3, .int v3), (4, .ref (dO d))]) o.1 d_L_hour_15 (by decide) rfl ?_
      refine JP_iconst (v := 1) o.1 d_L_hour_17 (by decide) ?_
      exact JL_ret o ⟨Nat.le_of_ble_eq_true rfl, Nat.le_of_ble_eq_true rfl⟩ d_L_hour_18 hE
    · refine JPT_catch o [⟨0, 12, 15, 13⟩] ⟨0, 12, 19, 19⟩ [] ht (List.forall_mem_cons.mpr ⟨⟨by decide, "java/lang/IllegalArgumentException", ckE_13, by decide +kernel⟩, fun _ h => by cases h⟩) rfl (by decide) ckE_19 (by decide +kernel) (fun q => ?_)
      refine JP_astore (lv' := [(5, .ref q), (0, .ref (wB (wC (dC d)) + 0)), (1, .int v1), (2, .int v2), (3, .int v3), (4, .ref (dO d))]) o.1 d_L_hour_19 (by decide) rfl ?_
      refine JP_iconst (v := 2) o.1 d_L_hour_21 (by decide) ?_
      exact JL_ret o ⟨Nat.le_of_ble_eq_true rfl, Nat.le_of_ble_eq_true rfl⟩ d_L_hour_22 hE
  · obtain ⟨r, hr, hk⟩ := hu
    cases hr
    refine JP_i2l o.1 d_L_hour_10 ?_
    refine JL_last o d_L_hour_11 ?_
    refine JP_goto o.1 23 d_L_hour_12 (by decide) ?_
    refine JP_iconst (v := 0) o.1 d_L_hour_23 (by decide) ?_
    exact JL_ret o ⟨Nat.le_of_ble_eq_true rfl, Nat.le_of_ble_eq_true rfl⟩ d_L_hour_24 hk
set_option maxHeartbeats 4000000 in
set_option maxRecDepth 20000 in
theorem w_L_fuel (l : Launch) (hfl : l.stackTraces = false) (d : Lb) (hd : Ld d) {v1 : Int32} {v2 : Int32} {σc σm : Sg} {v : Int64} {K : Int32 → Sg → Int64 → Prop} (h : m_X4_fuel v1 v2 σc (fun r σ' => K 0 σ' r.toInt64) (fun E σ' => (E = "java/util/NoSuchElementException" ∧ K 1 σ' v) ∨ (E = "java/lang/IllegalArgumentException" ∧ K 2 σ' v))) : CtL l d yL_fuel cL_fuel 5 [(0, 10, 13, 25), (0, 10, 17, 13)] rm_L_fuel [.ref (wB (wC (dC d)) + 0), .int v1, .int v2, .ref (dO d)] σc σm v K := by
  refine CtL.of hd (own := RL) (by decide +kernel) rfl (Nat.le_of_ble_eq_true rfl) (fun x hx ht o => ?_)
  subst hx
  show JP x (frL d) (LW d σc σm v) (FinL x d K σm (2, 12)) 0 [(0, .ref (wB (wC (dC d)) + 0)), (1, .int v1), (2, .int v2), (3, .ref (dO d))] [] (0, 0)
  refine JP_aload_n o.1 3 d_L_fuel_0 rfl ?_
  refine JP_iconst (v := 0) o.1 d_L_fuel_1 (by decide) ?_
  refine JP_aload_n o.1 0 d_L_fuel_2 rfl ?_
  refine JP_iload_n o.1 1 d_L_fuel_3 rfl ?_
  refine JP_iload_n o.1 2 d_L_fuel_4 rfl ?_
  refine JL_callX o [.int v1, .int v2] mth_X4_fuel iv_X4_fuel ml_RL_21 ⟨Nat.le_of_ble_eq_true rfl, Nat.le_of_ble_eq_true rfl⟩ rfl rfl (Nat.le_of_ble_eq_true rfl) ⟨Nat.le_of_ble_eq_true rfl, Nat.le_of_ble_eq_true rfl⟩ d_L_fuel_5 (w_X4_fuel (xL x) (dC d) hfl h) (fun E σ' hE => ?_) (fun u s1 hu => ?_)
  · rcases hE with ⟨rfl, hE⟩ | ⟨rfl, hE⟩
    · refine JPT_catch o [] ⟨0, 10, 13, 25⟩ [⟨0, 10, 17, 13⟩] ht (fun _ h => by cases h) rfl (by decide) ckE_25 (by decide +kernel) (fun q => ?_)
      refine JP_astore (lv' := [(4, .ref q), (0, .ref (wB (wC (dC d)) + 0)), (1, .int v1), (2, .int v2), (3, .ref (dO d))]) o.1 d_L_fuel_13 (by decide) rfl ?_
      refine JP_iconst (v := 1) o.1 d_L_fuel_15 (by decide) ?_
      exact JL_ret o ⟨Nat.le_of_ble_eq_true rfl, Nat.le_of_ble_eq_true rfl⟩ d_L_fuel_16 hE
    · refine JPT_catch o [⟨0, 10, 13, 25⟩] ⟨0, 10, 17, 13⟩ [] ht (List.forall_mem_cons.mpr ⟨⟨by decide, "java/util/NoSuchElementException", ckE_25, by decide +kernel⟩, fun _ h => by cases h⟩) rfl (by decide) ckE_13 (by decide +kernel) (fun q => ?_)
      refine JP_astore (lv' := [(4, .ref q), (0, .ref (wB (wC (dC d)) + 0)), (1, .int v1), (2, .int v2), (3, .ref (dO d))]) o.1 d_L_fuel_17 (by decide) rfl ?_
      refine JP_iconst (v := 2) o.1 d_L_fuel_19 (by decide) ?_
      exact JL_ret o ⟨Nat.le_of_ble_eq_true rfl, Nat.le_of_ble_eq_true rfl⟩ d_L_fuel_20 hE
  · obtain ⟨r, hr, hk⟩ := hu
    cases hr
    refine JP_i2l o.1 d_L_fuel_8 ?_
    refine JL_last o d_L_fuel_9 ?_
    refine JP_goto o.1 21 d_L_fuel_10 (by decide) ?_
    refine JP_iconst (v := 0) o.1 d_L_fuel_21 (by decide) ?_
    exact JL_ret o ⟨Nat.le_of_ble_eq_true rfl, Nat.le_of_ble_eq_true rfl⟩ d_L_fuel_22 hk
set_option maxHeartbeats 4000000 in
set_option maxRecDepth 20000 in
theorem w_L_wind (l : Launch) (hfl : l.stackTraces = false) (d : Lb) (hd : Ld d) {v1 : Int32} {v2 : Int32} {σc σm : Sg} {v : Int64} {K : Int32 → Sg → Int64 → Prop} (h : m_X4_wind v1 v2 σc (fun r σ' => K 0 σ' r.toInt64) (fun E σ' => (E = "java/lang/IllegalArgumentException" ∧ K 1 σ' v))) : CtL l d yL_wind cL_wind 5 [(0, 10, 13, 13)] rm_L_wind [.ref (wB (wC (dC d)) + 0), .int v1, .int v2, .ref (dO d)] σc σm v K := by
  refine CtL.of hd (own := RL) (by decide +kernel) rfl (Nat.le_of_ble_eq_true rfl) (fun x hx ht o => ?_)
  subst hx
  show JP x (frL d) (LW d σc σm v) (FinL x d K σm (1, 6)) 0 [(0, .ref (wB (wC (dC d)) + 0)), (1, .int v1), (2, .int v2), (3, .ref (dO d))] [] (0, 0)
  refine JP_aload_n o.1 3 d_L_wind_0 rfl ?_
  refine JP_iconst (v := 0) o.1 d_L_wind_1 (by decide) ?_
  refine JP_aload_n o.1 0 d_L_wind_2 rfl ?_
  refine JP_iload_n o.1 1 d_L_wind_3 rfl ?_
  refine JP_iload_n o.1 2 d_L_wind_4 rfl ?_
  refine JL_callX o [.int v1, .int v2] mth_X4_wind iv_X4_wind ml_RL_27 ⟨Nat.le_of_ble_eq_true rfl, Nat.le_of_ble_eq_true rfl⟩ rfl rfl (Nat.le_of_ble_eq_true rfl) ⟨Nat.le_of_ble_eq_true rfl, Nat.le_of_ble_eq_true rfl⟩ d_L_wind_5 (w_X4_wind (xL x) (dC d) hfl h) (fun E σ' hE => ?_) (fun u s1 hu => ?_)
  · rcases hE with ⟨rfl, hE⟩
    · refine JPT_catch o [] ⟨0, 10, 13, 13⟩ [] ht (fun _ h => by cases h) rfl (by decide) ckE_13 (by decide +kernel) (fun q => ?_)
      refine JP_astore (lv' := [(4, .ref q), (0, .ref (wB (wC (dC d)) + 0)), (1, .int v1), (2, .int v2), (3, .ref (dO d))]) o.1 d_L_wind_13 (by decide) rfl ?_
      refine JP_iconst (v := 1) o.1 d_L_wind_15 (by decide) ?_
      exact JL_ret o ⟨Nat.le_of_ble_eq_true rfl, Nat.le_of_ble_eq_true rfl⟩ d_L_wind_16 hE
  · obtain ⟨r, hr, hk⟩ := hu
    cases hr
    refine JP_i2l o.1 d_L_wind_8 ?_
    refine JL_last o d_L_wind_9 ?_
    refine JP_goto o.1 17 d_L_wind_10 (by decide) ?_
    refine JP_iconst (v := 0) o.1 d_L_wind_17 (by decide) ?_
    exact JL_ret o ⟨Nat.le_of_ble_eq_true rfl, Nat.le_of_ble_eq_true rfl⟩ d_L_wind_18 hk
set_option maxHeartbeats 4000000 in
set_option maxRecDepth 20000 in
theorem w_L_told (l : Launch) (hfl : l.stackTraces = false) (d : Lb) (hd : Ld d) {v1 : Int32} {σc σm : Sg} {v : Int64} {K : Int32 → Sg → Int64 → Prop} (h : m_X4_told v1 σc (fun r σ' => K 0 σ' r.toInt64) (fun E σ' => (E = "java/lang/IllegalArgumentException" ∧ K 1 σ' v))) : CtL l d yL_told cL_told 4 [(0, 9, 12, 13)] rm_L_told [.ref (wB (wC (dC d)) + 0), .int v1, .ref (dO d)] σc σm v K := by
  refine CtL.of hd (own := RL) (by decide +kernel) rfl (Nat.le_of_ble_eq_true rfl) (fun x hx ht o => ?_)
  subst hx
  show JP x (frL d) (LW d σc σm v) (FinL x d K σm (1, 6)) 0 [(0, .ref (wB (wC (dC d)) + 0)), (1, .int v1), (2, .ref (dO d))] [] (0, 0)
  refine JP_aload_n o.1 2 d_L_told_0 rfl ?_
  refine JP_iconst (v := 0) o.1 d_L_told_1 (by decide) ?_
  refine JP_aload_n o.1 0 d_L_told_2 rfl ?_
  refine JP_iload_n o.1 1 d_L_told_3 rfl ?_
  refine JL_callX o [.int v1] mth_X4_told iv_X4_told ml_RL_30 ⟨Nat.le_of_ble_eq_true rfl, Nat.le_of_ble_eq_true rfl⟩ rfl rfl (Nat.le_of_ble_eq_true rfl) ⟨Nat.le_of_ble_eq_true rfl, Nat.le_of_ble_eq_true rfl⟩ d_L_told_4 (w_X4_told (xL x) (dC d) hfl h) (fun E σ' hE => ?_) (fun u s1 hu => ?_)
  · rcases hE with ⟨rfl, hE⟩
    · refine JPT_catch o [] ⟨0, 9, 12, 13⟩ [] ht (fun _ h => by cases h) rfl (by decide) ckE_13 (by decide +kernel) (fun q => ?_)
      refine JP_astore_n (lv' := [(3, .ref q), (0, .ref (wB (wC (dC d)) + 0)), (1, .int v1), (2, .ref (dO d))]) o.1 d_L_told_12 (by decide) rfl ?_
      refine JP_iconst (v := 1) o.1 d_L_told_13 (by decide) ?_
      exact JL_ret o ⟨Nat.le_of_ble_eq_true rfl, Nat.le_of_ble_eq_true rfl⟩ d_L_told_14 hE
  · obtain ⟨r, hr, hk⟩ := hu
    cases hr
    refine JP_i2l o.1 d_L_told_7 ?_
    refine JL_last o d_L_told_8 ?_
    refine JP_goto o.1 15 d_L_told_9 (by decide) ?_
    refine JP_iconst (v := 0) o.1 d_L_told_15 (by decide) ?_
    exact JL_ret o ⟨Nat.le_of_ble_eq_true rfl, Nat.le_of_ble_eq_true rfl⟩ d_L_told_16 hk
set_option maxHeartbeats 4000000 in
set_option maxRecDepth 20000 in
theorem w_L_cell (l : Launch) (hfl : l.stackTraces = false) (d : Lb) (hd : Ld d) {v1 : Int32} {v2 : Int32} {v3 : Int32} {σc σm : Sg} {v : Int64} {K : Int32 → Sg → Int64 → Prop} (h : m_X4_cell v1 v2 v3 σc (fun r σ' => K 0 σ' r.toInt64) (fun E σ' => (E = "java/lang/IllegalArgumentException" ∧ K 1 σ' v))) : CtL l d yL_cell cL_cell 6 [(0, 12, 15, 13)] rm_L_cell [.ref (wB (wC (dC d)) + 0), .int v1, .int v2, .int v3, .ref (dO d)] σc σm v K := by
  refine CtL.of hd (own := RL) (by decide +kernel) rfl (Nat.le_of_ble_eq_true rfl) (fun x hx ht o => ?_)
  subst hx
  show JP x (frL d) (LW d σc σm v) (FinL x d K σm (1, 6)) 0 [(0, .ref (wB (wC (dC d)) + 0)), (1, .int v1), (2, .int v2), (3, .int v3), (4, .ref (dO d))] [] (0, 0)
  refine JP_aload o.1 4 d_L_cell_0 rfl ?_
  refine JP_iconst (v := 0) o.1 d_L_cell_2 (by decide) ?_
  refine JP_aload_n o.1 0 d_L_cell_3 rfl ?_
  refine JP_iload_n o.1 1 d_L_cell_4 rfl ?_
  refine JP_iload_n o.1 2 d_L_cell_5 rfl ?_
  refine JP_iload_n o.1 3 d_L_cell_6 rfl ?_
  refine JL_callX o [.int v1, .int v2, .int v3] mth_X4_cell iv_X4_cell ml_RL_33 ⟨Nat.le_of_ble_eq_true rfl, Nat.le_of_ble_eq_true rfl⟩ rfl rfl (Nat.le_of_ble_eq_true rfl) ⟨Nat.le_of_ble_eq_true rfl, Nat.le_of_ble_eq_true rfl⟩ d_L_cell_7 (w_X4_cell (xL x) (dC d) hfl h) (fun E σ' hE => ?_) (fun u s1 hu => ?_)
  · rcases hE with ⟨rfl, hE⟩
    · refine JPT_catch o [] ⟨0, 12, 15, 13⟩ [] ht (fun _ h => by cases h) rfl (by decide) ckE_13 (by decide +kernel) (fun q => ?_)
      refine JP_astore (lv' := [(5, .ref q), (0, .ref (wB (wC (dC d)) + 0)), (1, .int v1), (2, .int v2), (3, .int v3), (4, .ref (dO d))]) o.1 d_L_cell_15 (by decide) rfl ?_
      refine JP_iconst (v := 1) o.1 d_L_cell_17 (by decide) ?_
      exact JL_ret o ⟨Nat.le_of_ble_eq_true rfl, Nat.le_of_ble_eq_true rfl⟩ d_L_cell_18 hE
  · obtain ⟨r, hr, hk⟩ := hu
    cases hr
    refine JP_i2l o.1 d_L_cell_10 ?_
    refine JL_last o d_L_cell_11 ?_
    refine JP_goto o.1 19 d_L_cell_12 (by decide) ?_
    refine JP_iconst (v := 0) o.1 d_L_cell_19 (by decide) ?_
    exact JL_ret o ⟨Nat.le_of_ble_eq_true rfl, Nat.le_of_ble_eq_true rfl⟩ d_L_cell_20 hk
set_option maxHeartbeats 4000000 in
set_option maxRecDepth 20000 in
theorem w_L_blows (l : Launch) (hfl : l.stackTraces = false) (d : Lb) (hd : Ld d) {v1 : Int32} {σc σm : Sg} {v : Int64} {K : Int32 → Sg → Int64 → Prop} (h : m_X4_blows v1 σc (fun r σ' => K 0 σ' r.toInt64) (fun E σ' => (E = "java/lang/IllegalArgumentException" ∧ K 1 σ' v))) : CtL l d yL_blows cL_blows 4 [(0, 9, 12, 13)] rm_L_blows [.ref (wB (wC (dC d)) + 0), .int v1, .ref (dO d)] σc σm v K := by
  refine CtL.of hd (own := RL) (by decide +kernel) rfl (Nat.le_of_ble_eq_true rfl) (fun x hx ht o => ?_)
  subst hx
  show JP x (frL d) (LW d σc σm v) (FinL x d K σm (1, 6)) 0 [(0, .ref (wB (wC (dC d)) + 0)), (1, .int v1), (2, .ref (dO d))] [] (0, 0)
  refine JP_aload_n o.1 2 d_L_blows_0 rfl ?_
  refine JP_iconst (v := 0) o.1 d_L_blows_1 (by decide) ?_
  refine JP_aload_n o.1 0 d_L_blows_2 rfl ?_
  refine JP_iload_n o.1 1 d_L_blows_3 rfl ?_
  refine JL_callX o [.int v1] mth_X4_blows iv_X4_blows ml_RL_36 ⟨Nat.le_of_ble_eq_true rfl, Nat.le_of_ble_eq_true rfl⟩ rfl rfl (Nat.le_of_ble_eq_true rfl) ⟨Nat.le_of_ble_eq_true rfl, Nat.le_of_ble_eq_true rfl⟩ d_L_blows_4 (w_X4_blows (xL x) (dC d) hfl h) (fun E σ' hE => ?_) (fun u s1 hu => ?_)
  · rcases hE with ⟨rfl, hE⟩
    · refine JPT_catch o [] ⟨0, 9, 12, 13⟩ [] ht (fun _ h => by cases h) rfl (by decide) ckE_13 (by decide +kernel) (fun q => ?_)
      refine JP_astore_n (lv' := [(3, .ref q), (0, .ref (wB (wC (dC d)) + 0)), (1, .int v1), (2, .ref (dO d))]) o.1 d_L_blows_12 (by decide) rfl ?_
      refine JP_iconst (v := 1) o.1 d_L_blows_13 (by decide) ?_
      exact JL_ret o ⟨Nat.le_of_ble_eq_true rfl, Nat.le_of_ble_eq_true rfl⟩ d_L_blows_14 hE
  · obtain ⟨r, hr, hk⟩ := hu
    cases hr
    refine JP_i2l o.1 d_L_blows_7 ?_
    refine JL_last o d_L_blows_8 ?_
    refine JP_goto o.1 15 d_L_blows_9 (by decide) ?_
    refine JP_iconst (v := 0) o.1 d_L_blows_15 (by decide) ?_
    exact JL_ret o ⟨Nat.le_of_ble_eq_true rfl, Nat.le_of_ble_eq_true rfl⟩ d_L_blows_16 hk
set_option maxHeartbeats 4000000 in
set_option maxRecDepth 20000 in
theorem w_L_helper (l : Launch) (hfl : l.stackTraces = false) (d : Lb) (hd : Ld d) {v1 : Int32} {v2 : Int32} {σc σm : Sg} {v : Int64} {K : Int32 → Sg → Int64 → Prop} (h : m_X4_helper v1 v2 σc (fun r σ' => K 0 σ' r.toInt64) (fun E σ' => (E = "java/util/NoSuchElementException" ∧ K 1 σ' v) ∨ (E = "java/lang/IllegalArgumentException" ∧ K 2 σ' v))) : CtL l d yL_helper cL_helper 5 [(0, 10, 13, 25), (0, 10, 17, 13)] rm_L_helper [.ref (wB (wC (dC d)) + 0), .int v1, .int v2, .ref (dO d)] σc σm v K := by
  refine CtL.of hd (own := RL) (by decide +kernel) rfl (Nat.le_of_ble_eq_true rfl) (fun x hx ht o => ?_)
  subst hx
  show JP x (frL d) (LW d σc σm v) (FinL x d K σm (2, 12)) 0 [(0, .ref (wB (wC (dC d)) + 0)), (1, .int v1), (2, .int v2), (3, .ref (dO d))] [] (0, 0)
  refine JP_aload_n o.1 3 d_L_helper_0 rfl ?_
  refine JP_iconst (v := 0) o.1 d_L_helper_1 (by decide) ?_
  refine JP_aload_n o.1 0 d_L_helper_2 rfl ?_
  refine JP_iload_n o.1 1 d_L_helper_3 rfl ?_
  refine JP_iload_n o.1 2 d_L_helper_4 rfl ?_
  refine JL_callX o [.int v1, .int v2] mth_X4_helper iv_X4_helper ml_RL_39 ⟨Nat.le_of_ble_eq_true rfl, Nat.le_of_ble_eq_true rfl⟩ rfl rfl (Nat.le_of_ble_eq_true rfl) ⟨Nat.le_of_ble_eq_true rfl, Nat.le_of_ble_eq_true rfl⟩ d_L_helper_5 (w_X4_helper (xL x) (dC d) hfl h) (fun E σ' hE => ?_) (fun u s1 hu => ?_)
  · rcases hE with ⟨rfl, hE⟩ | ⟨rfl, hE⟩
    · refine JPT_catch o [] ⟨0, 10, 13, 25⟩ [⟨0, 10, 17, 13⟩] ht (fun _ h => by cases h) rfl (by decide) ckE_25 (by decide +kernel) (fun q => ?_)
      refine JP_astore (lv' := [(4, .ref q), (0, .ref (wB (wC (dC d)) + 0)), (1, .int v1), (2, .int v2), (3, .ref (dO d))]) o.1 d_L_helper_13 (by decide) rfl ?_
      refine JP_iconst (v := 1) o.1 d_L_helper_15 (by decide) ?_
      exact JL_ret o ⟨Nat.le_of_ble_eq_true rfl, Nat.le_of_ble_eq_true rfl⟩ d_L_helper_16 hE
    · refine JPT_catch o [⟨0, 10, 13, 25⟩] ⟨0, 10, 17, 13⟩ [] ht (List.forall_mem_cons.mpr ⟨⟨by decide, "java/util/NoSuchElementException", ckE_25, by decide +kernel⟩, fun _ h => by cases h⟩) rfl (by decide) ckE_13 (by decide +kernel) (fun q => ?_)
      refine JP_astore (lv' := [(4, .ref q), (0, .ref (wB (wC (dC d)) + 0)), (1, .int v1), (2, .int v2), (3, .ref (dO d))]) o.1 d_L_helper_17 (by decide) rfl ?_
      refine JP_iconst (v := 2) o.1 d_L_helper_19 (by decide) ?_
      exact JL_ret o ⟨Nat.le_of_ble_eq_true rfl, Nat.le_of_ble_eq_true rfl⟩ d_L_helper_20 hE
  · obtain ⟨r, hr, hk⟩ := hu
    cases hr
    refine JP_i2l o.1 d_L_helper_8 ?_
    refine JL_last o d_L_helper_9 ?_
    refine JP_goto o.1 21 d_L_helper_10 (by decide) ?_
    refine JP_iconst (v := 0) o.1 d_L_helper_21 (by decide) ?_
    exact JL_ret o ⟨Nat.le_of_ble_eq_true rfl, Nat.le_of_ble_eq_true rfl⟩ d_L_helper_22 hk
set_option maxHeartbeats 4000000 in
set_option maxRecDepth 20000 in
theorem w_L_drift (l : Launch) (hfl : l.stackTraces = false) (d : Lb) (hd : Ld d) {v1 : Int32} {v2 : Int32} {σc σm : Sg} {v : Int64} {K : Int32 → Sg → Int64 → Prop} (h : m_X4_drift v1 v2 σc (fun r σ' => K 0 σ' r.toInt64) (fun E σ' => (E = "java/lang/IllegalArgumentException" ∧ K 1 σ' v))) : CtL l d yL_drift cL_drift 5 [(0, 10, 13, 13)] rm_L_drift [.ref (wB (wC (dC d)) + 0), .int v1, .int v2, .ref (dO d)] σc σm v K := by
  refine CtL.of hd (own := RL) (by decide +kernel) rfl (Nat.le_of_ble_eq_true rfl) (fun x hx ht o => ?_)
  subst hx
  show JP x (frL d) (LW d σc σm v) (FinL x d K σm (1, 6)) 0 [(0, .ref (wB (wC (dC d)) + 0)), (1, .int v1), (2, .int v2), (3, .ref (dO d))] [] (0, 0)
  refine JP_aload_n o.1 3 d_L_drift_0 rfl ?_
  refine JP_iconst (v := 0) o.1 d_L_drift_1 (by decide) ?_
  refine JP_aload_n o.1 0 d_L_drift_2 rfl ?_
  refine JP_iload_n o.1 1 d_L_drift_3 rfl ?_
  refine JP_iload_n o.1 2 d_L_drift_4 rfl ?_
  refine JL_callX o [.int v1, .int v2] mth_X4_drift iv_X4_drift ml_RL_42 ⟨Nat.le_of_ble_eq_true rfl, Nat.le_of_ble_eq_true rfl⟩ rfl rfl (Nat.le_of_ble_eq_true rfl) ⟨Nat.le_of_ble_eq_true rfl, Nat.le_of_ble_eq_true rfl⟩ d_L_drift_5 (w_X4_drift (xL x) (dC d) hfl h) (fun E σ' hE => ?_) (fun u s1 hu => ?_)
  · rcases hE with ⟨rfl, hE⟩
    · refine JPT_catch o [] ⟨0, 10, 13, 13⟩ [] ht (fun _ h => by cases h) rfl (by decide) ckE_13 (by decide +kernel) (fun q => ?_)
      refine JP_astore (lv' := [(4, .ref q), (0, .ref (wB (wC (dC d)) + 0)), (1, .int v1), (2, .int v2), (3, .ref (dO d))]) o.1 d_L_drift_13 (by decide) rfl ?_
      refine JP_iconst (v := 1) o.1 d_L_drift_15 (by decide) ?_
      exact JL_ret o ⟨Nat.le_of_ble_eq_true rfl, Nat.le_of_ble_eq_true rfl⟩ d_L_drift_16 hE
  · obtain ⟨r, hr, hk⟩ := hu
    cases hr
    refine JP_i2l o.1 d_L_drift_8 ?_
    refine JL_last o d_L_drift_9 ?_
    refine JP_goto o.1 17 d_L_drift_10 (by decide) ?_
    refine JP_iconst (v := 0) o.1 d_L_drift_17 (by decide) ?_
    exact JL_ret o ⟨Nat.le_of_ble_eq_true rfl, Nat.le_of_ble_eq_true rfl⟩ d_L_drift_18 hk
set_option maxHeartbeats 4000000 in
set_option maxRecDepth 20000 in
theorem w_L_cost (l : Launch) (hfl : l.stackTraces = false) (d : Lb) (hd : Ld d) {v1 : Int32} {v2 : Int32} {σc σm : Sg} {v : Int64} {K : Int32 → Sg → Int64 → Prop} (h : m_X4_cost v1 v2 σc (fun r σ' => K 0 σ' r.toInt64) (fun E σ' => (E = "java/lang/IllegalArgumentException" ∧ K 1 σ' v))) : CtL l d yL_cost cL_cost 5 [(0, 10, 13, 13)] rm_L_cost [.ref (wB (wC (dC d)) + 0), .int v1, .int v2, .ref (dO d)] σc σm v K := by
  refine CtL.of hd (own := RL) (by decide +kernel) rfl (Nat.le_of_ble_eq_true rfl) (fun x hx ht o => ?_)
  subst hx
  show JP x (frL d) (LW d σc σm v) (FinL x d K σm (1, 6)) 0 [(0, .ref (wB (wC (dC d)) + 0)), (1, .int v1), (2, .int v2), (3, .ref (dO d))] [] (0, 0)
  refine JP_aload_n o.1 3 d_L_cost_0 rfl ?_
  refine JP_iconst (v := 0) o.1 d_L_cost_1 (by decide) ?_
  refine JP_aload_n o.1 0 d_L_cost_2 rfl ?_
  refine JP_iload_n o.1 1 d_L_cost_3 rfl ?_
  refine JP_iload_n o.1 2 d_L_cost_4 rfl ?_
  refine JL_callX o [.int v1, .int v2] mth_X4_cost iv_X4_cost ml_RL_45 ⟨Nat.le_of_ble_eq_true rfl, Nat.le_of_ble_eq_true rfl⟩ rfl rfl (Nat.le_of_ble_eq_true rfl) ⟨Nat.le_of_ble_eq_true rfl, Nat.le_of_ble_eq_true rfl⟩ d_L_cost_5 (w_X4_cost (xL x) (dC d) hfl h) (fun E σ' hE => ?_) (fun u s1 hu => ?_)
  · rcases hE with ⟨rfl, hE⟩
    · refine JPT_catch o [] ⟨0, 10, 13, 13⟩ [] ht (fun _ h => by cases h) rfl (by decide) ckE_13 (by decide +kernel) (fun q => ?_)
      refine JP_astore (lv' := [(4, .ref q), (0, .ref (wB (wC (dC d)) + 0)), (1, .int v1), (2, .int v2), (3, .ref (dO d))]) o.1 d_L_cost_13 (by decide) rfl ?_
      refine JP_iconst (v := 1) o.1 d_L_cost_15 (by decide) ?_
      exact JL_ret o ⟨Nat.le_of_ble_eq_true rfl, Nat.le_of_ble_eq_true rfl⟩ d_L_cost_16 hE
  · obtain ⟨r, hr, hk⟩ := hu
    cases hr
    refine JP_i2l o.1 d_L_cost_8 ?_
    refine JL_last o d_L_cost_9 ?_
    refine JP_goto o.1 17 d_L_cost_10 (by decide) ?_
    refine JP_iconst (v := 0) o.1 d_L_cost_17 (by decide) ?_
    exact JL_ret o ⟨Nat.le_of_ble_eq_true rfl, Nat.le_of_ble_eq_true rfl⟩ d_L_cost_18 hk
set_option maxHeartbeats 4000000 in
set_option maxRecDepth 20000 in
theorem w_L_meet (l : Launch) (hfl : l.stackTraces = false) (d : Lb) (hd : Ld d) {v1 : Int32} {v2 : Int32} {σc σm : Sg} {v : Int64} {K : Int32 → Sg → Int64 → Prop} (h : m_X4_meet v1 v2 σc (fun r σ' => K 0 σ' r.toInt64) (fun E σ' => (E = "java/util/NoSuchElementException" ∧ K 1 σ' v) ∨ (E = "java/lang/IllegalArgumentException" ∧ K 2 σ' v))) : CtL l d yL_meet cL_meet 5 [(0, 10, 13, 25), (0, 10, 17, 13)] rm_L_meet [.ref (wB (wC (dC d)) + 0), .int v1, .int v2, .ref (dO d)] σc σm v K := by
  refine CtL.of hd (own := RL) (by decide +kernel) rfl (Nat.le_of_ble_eq_true rfl) (fun x hx ht o => ?_)
  subst hx
  show JP x (frL d) (LW d σc σm v) (FinL x d K σm (2, 12)) 0 [(0, .ref (wB (wC (dC d)) + 0)), (1, .int v1), (2, .int v2), (3, .ref (dO d))] [] (0, 0)
  refine JP_aload_n o.1 3 d_L_meet_0 rfl ?_
  refine JP_iconst (v := 0) o.1 d_L_meet_1 (by decide) ?_
  refine JP_aload_n o.1 0 d_L_meet_2 rfl ?_
  refine JP_iload_n o.1 1 d_L_meet_3 rfl ?_
  refine JP_iload_n o.1 2 d_L_meet_4 rfl ?_
  refine JL_callX o [.int v1, .int v2] mth_X4_meet iv_X4_meet ml_RL_48 ⟨Nat.le_of_ble_eq_true rfl, Nat.le_of_ble_eq_true rfl⟩ rfl rfl (Nat.le_of_ble_eq_true rfl) ⟨Nat.le_of_ble_eq_true rfl, Nat.le_of_ble_eq_true rfl⟩ d_L_meet_5 (w_X4_meet (xL x) (dC d) hfl h) (fun E σ' hE => ?_) (fun u s1 hu => ?_)
  · rcases hE with ⟨rfl, hE⟩ | ⟨rfl, hE⟩
    · refine JPT_catch o [] ⟨0, 10, 13, 25⟩ [⟨0, 10, 17, 13⟩] ht (fun _ h => by cases h) rfl (by decide) ckE_25 (by decide +kernel) (fun q => ?_)
      refine JP_astore (lv' := [(4, .ref q), (0, .ref (wB (wC (dC d)) + 0)), (1, .int v1), (2, .int v2), (3, .ref (dO d))]) o.1 d_L_meet_13 (by decide) rfl ?_
      refine JP_iconst (v := 1) o.1 d_L_meet_15 (by decide) ?_
      exact JL_ret o ⟨Nat.le_of_ble_eq_true rfl, Nat.le_of_ble_eq_true rfl⟩ d_L_meet_16 hE
    · refine JPT_catch o [⟨0, 10, 13, 25⟩] ⟨0, 10, 17, 13⟩ [] ht (List.forall_mem_cons.mpr ⟨⟨by decide, "java/util/NoSuchElementException", ckE_25, by decide +kernel⟩, fun _ h => by cases h⟩) rfl (by decide) ckE_13 (by decide +kernel) (fun q => ?_)
      refine JP_astore (lv' := [(4, .ref q), (0, .ref (wB (wC (dC d)) + 0)), (1, .int v1), (2, .int v2), (3, .ref (dO d))]) o.1 d_L_meet_17 (by decide) rfl ?_
      refine JP_iconst (v := 2) o.1 d_L_meet_19 (by decide) ?_
      exact JL_ret o ⟨Nat.le_of_ble_eq_true rfl, Nat.le_of_ble_eq_true rfl⟩ d_L_meet_20 hE
  · obtain ⟨r, hr, hk⟩ := hu
    cases hr
    refine JP_i2l o.1 d_L_meet_8 ?_
    refine JL_last o d_L_meet_9 ?_
    refine JP_goto o.1 21 d_L_meet_10 (by decide) ?_
    refine JP_iconst (v := 0) o.1 d_L_meet_21 (by decide) ?_
    exact JL_ret o ⟨Nat.le_of_ble_eq_true rfl, Nat.le_of_ble_eq_true rfl⟩ d_L_meet_22 hk
set_option maxHeartbeats 4000000 in
set_option maxRecDepth 20000 in
theorem w_L_route (l : Launch) (hfl : l.stackTraces = false) (d : Lb) (hd : Ld d) {v1 : Int32} {v2 : Int32} {σc σm : Sg} {v : Int64} {K : Int32 → Sg → Int64 → Prop} (h : m_X4_route v1 v2 σc (fun r σ' => K 0 σ' r.toInt64) (fun E σ' => (E = "java/util/NoSuchElementException" ∧ K 1 σ' v))) : CtL l d yL_route cL_route 5 [(0, 10, 13, 25)] rm_L_route [.ref (wB (wC (dC d)) + 0), .int v1, .int v2, .ref (dO d)] σc σm v K := by
  refine CtL.of hd (own := RL) (by decide +kernel) rfl (Nat.le_of_ble_eq_true rfl) (fun x hx ht o => ?_)
  subst hx
  show JP x (frL d) (LW d σc σm v) (FinL x d K σm (1, 6)) 0 [(0, .ref (wB (wC (dC d)) + 0)), (1, .int v1), (2, .int v2), (3, .ref (dO d))] [] (0, 0)
  refine JP_aload_n o.1 3 d_L_route_0 rfl ?_
  refine JP_iconst (v := 0) o.1 d_L_route_1 (by decide) ?_
  refine JP_aload_n o.1 0 d_L_route_2 rfl ?_
  refine JP_iload_n o.1 1 d_L_route_3 rfl ?_
  refine JP_iload_n o.1 2 d_L_route_4 rfl ?_
  refine JL_callX o [.int v1, .int v2] mth_X4_route iv_X4_route ml_RL_51 ⟨Nat.le_of_ble_eq_true rfl, Nat.le_of_ble_eq_true rfl⟩ rfl rfl (Nat.le_of_ble_eq_true rfl) ⟨Nat.le_of_ble_eq_true rfl, Nat.le_of_ble_eq_true rfl⟩ d_L_route_5 (w_X4_route (xL x) (dC d) hfl h) (fun E σ' hE => ?_) (fun u s1 hu => ?_)
  · rcases hE with ⟨rfl, hE⟩
    · refine JPT_catch o [] ⟨0, 10, 13, 25⟩ [] ht (fun _ h => by cases h) rfl (by decide) ckE_25 (by decide +kernel) (fun q => ?_)
      refine JP_astore (lv' := [(4, .ref q), (0, .ref (wB (wC (dC d)) + 0)), (1, .int v1), (2, .int v2), (3, .ref (dO d))]) o.1 d_L_route_13 (by decide) rfl ?_
      refine JP_iconst (v := 1) o.1 d_L_route_15 (by decide) ?_
      exact JL_ret o ⟨Nat.le_of_ble_eq_true rfl, Nat.le_of_ble_eq_true rfl⟩ d_L_route_16 hE
  · obtain ⟨r, hr, hk⟩ := hu
    cases hr
    refine JP_i2l o.1 d_L_route_8 ?_
    refine JL_last o d_L_route_9 ?_
    refine JP_goto o.1 17 d_L_route_10 (by decide) ?_
    refine JP_iconst (v := 0) o.1 d_L_route_17 (by decide) ?_
    exact JL_ret o ⟨Nat.le_of_ble_eq_true rfl, Nat.le_of_ble_eq_true rfl⟩ d_L_route_18 hk
set_option maxHeartbeats 4000000 in
set_option maxRecDepth 20000 in
theorem w_L_least (l : Launch) (hfl : l.stackTraces = false) (d : Lb) (hd : Ld d) {v1 : Int32} {v2 : Int32} {σc σm : Sg} {v : Int64} {K : Int32 → Sg → Int64 → Prop} (h : m_X4_least v1 v2 σc (fun r σ' => K 0 σ' r.toInt64) (fun E σ' => (E = "java/util/NoSuchElementException" ∧ K 1 σ' v) ∨ (E = "java/lang/IllegalArgumentException" ∧ K 2 σ' v))) : CtL l d yL_least cL_least 5 [(0, 10, 13, 25), (0, 10, 17, 13)] rm_L_least [.ref (wB (wC (dC d)) + 0), .int v1, .int v2, .ref (dO d)] σc σm v K := by
  refine CtL.of hd (own := RL) (by decide +kernel) rfl (Nat.le_of_ble_eq_true rfl) (fun x hx ht o => ?_)
  subst hx
  show JP x (frL d) (LW d σc σm v) (FinL x d K σm (2, 12)) 0 [(0, .ref (wB (wC (dC d)) + 0)), (1, .int v1), (2, .int v2), (3, .ref (dO d))] [] (0, 0)
  refine JP_aload_n o.1 3 d_L_least_0 rfl ?_
  refine JP_iconst (v := 0) o.1 d_L_least_1 (by decide) ?_
  refine JP_aload_n o.1 0 d_L_least_2 rfl ?_
  refine JP_iload_n o.1 1 d_L_least_3 rfl ?_
  refine JP_iload_n o.1 2 d_L_least_4 rfl ?_
  refine JL_callX o [.int v1, .int v2] mth_X4_least iv_X4_least ml_RL_54 ⟨Nat.le_of_ble_eq_true rfl, Nat.le_of_ble_eq_true rfl⟩ rfl rfl (Nat.le_of_ble_eq_true rfl) ⟨Nat.le_of_ble_eq_true rfl, Nat.le_of_ble_eq_true rfl⟩ d_L_least_5 (w_X4_least (xL x) (dC d) hfl h) (fun E σ' hE => ?_) (fun u s1 hu => ?_)
  · rcases hE with ⟨rfl, hE⟩ | ⟨rfl, hE⟩
    · refine JPT_catch o [] ⟨0, 10, 13, 25⟩ [⟨0, 10, 17, 13⟩] ht (fun _ h => by cases h) rfl (by decide) ckE_25 (by decide +kernel) (fun q => ?_)
      refine JP_astore (lv' := [(4, .ref q), (0, .ref (wB (wC (dC d)) + 0)), (1, .int v1), (2, .int v2), (3, .ref (dO d))]) o.1 d_L_least_13 (by decide) rfl ?_
      refine JP_iconst (v := 1) o.1 d_L_least_15 (by decide) ?_
      exact JL_ret o ⟨Nat.le_of_ble_eq_true rfl, Nat.le_of_ble_eq_true rfl⟩ d_L_least_16 hE
    · refine JPT_catch o [⟨0, 10, 13, 25⟩] ⟨0, 10, 17, 13⟩ [] ht (List.forall_mem_cons.mpr ⟨⟨by decide, "java/util/NoSuchElementException", ckE_25, by decide +kernel⟩, fun _ h => by cases h⟩) rfl (by decide) ckE_13 (by decide +kernel) (fun q => ?_)
      refine JP_astore (lv' := [(4, .ref q), (0, .ref (wB (wC (dC d)) + 0)), (1, .int v1), (2, .int v2), (3, .ref (dO d))]) o.1 d_L_least_17 (by decide) rfl ?_
      refine JP_iconst (v := 2) o.1 d_L_least_19 (by decide) ?_
      exact JL_ret o ⟨Nat.le_of_ble_eq_true rfl, Nat.le_of_ble_eq_true rfl⟩ d_L_least_20 hE
  · obtain ⟨r, hr, hk⟩ := hu
    cases hr
    refine JP_i2l o.1 d_L_least_8 ?_
    refine JL_last o d_L_least_9 ?_
    refine JP_goto o.1 21 d_L_least_10 (by decide) ?_
    refine JP_iconst (v := 0) o.1 d_L_least_21 (by decide) ?_
    exact JL_ret o ⟨Nat.le_of_ble_eq_true rfl, Nat.le_of_ble_eq_true rfl⟩ d_L_least_22 hk
set_option maxHeartbeats 4000000 in
set_option maxRecDepth 20000 in
theorem w_L_reach (l : Launch) (hfl : l.stackTraces = false) (d : Lb) (hd : Ld d) {v1 : Int32} {v2 : Int32} {σc σm : Sg} {v : Int64} {K : Int32 → Sg → Int64 → Prop} (h : m_X4_reach v1 v2 σc (fun r σ' => K 0 σ' r.toInt64) (fun E σ' => (E = "java/util/NoSuchElementException" ∧ K 1 σ' v) ∨ (E = "java/lang/IllegalArgumentException" ∧ K 2 σ' v))) : CtL l d yL_reach cL_reach 5 [(0, 10, 13, 25), (0, 10, 17, 13)] rm_L_reach [.ref (wB (wC (dC d)) + 0), .int v1, .int v2, .ref (dO d)] σc σm v K := by
  refine CtL.of hd (own := RL) (by decide +kernel) rfl (Nat.le_of_ble_eq_true rfl) (fun x hx ht o => ?_)
  subst hx
  show JP x (frL d) (LW d σc σm v) (FinL x d K σm (2, 12)) 0 [(0, .ref (wB (wC (dC d)) + 0)), (1, .int v1), (2, .int v2), (3, .ref (dO d))] [] (0, 0)
  refine JP_aload_n o.1 3 d_L_reach_0 rfl ?_
  refine JP_iconst (v := 0) o.1 d_L_reach_1 (by decide) ?_
  refine JP_aload_n o.1 0 d_L_reach_2 rfl ?_
  refine JP_iload_n o.1 1 d_L_reach_3 rfl ?_
  refine JP_iload_n o.1 2 d_L_reach_4 rfl ?_
  refine JL_callX o [.int v1, .int v2] mth_X4_reach iv_X4_reach ml_RL_57 ⟨Nat.le_of_ble_eq_true rfl, Nat.le_of_ble_eq_true rfl⟩ rfl rfl (Nat.le_of_ble_eq_true rfl) ⟨Nat.le_of_ble_eq_true rfl, Nat.le_of_ble_eq_true rfl⟩ d_L_reach_5 (w_X4_reach (xL x) (dC d) hfl h) (fun E σ' hE => ?_) (fun u s1 hu => ?_)
  · rcases hE with ⟨rfl, hE⟩ | ⟨rfl, hE⟩
    · refine JPT_catch o [] ⟨0, 10, 13, 25⟩ [⟨0, 10, 17, 13⟩] ht (fun _ h => by cases h) rfl (by decide) ckE_25 (by decide +kernel) (fun q => ?_)
      refine JP_astore (lv' := [(4, .ref q), (0, .ref (wB (wC (dC d)) + 0)), (1, .int v1), (2, .int v2), (3, .ref (dO d))]) o.1 d_L_reach_13 (by decide) rfl ?_
      refine JP_iconst (v := 1) o.1 d_L_reach_15 (by decide) ?_
      exact JL_ret o ⟨Nat.le_of_ble_eq_true rfl, Nat.le_of_ble_eq_true rfl⟩ d_L_reach_16 hE
    · refine JPT_catch o [⟨0, 10, 13, 25⟩] ⟨0, 10, 17, 13⟩ [] ht (List.forall_mem_cons.mpr ⟨⟨by decide, "java/util/NoSuchElementException", ckE_25, by decide +kernel⟩, fun _ h => by cases h⟩) rfl (by decide) ckE_13 (by decide +kernel) (fun q => ?_)
      refine JP_astore (lv' := [(4, .ref q), (0, .ref (wB (wC (dC d)) + 0)), (1, .int v1), (2, .int v2), (3, .ref (dO d))]) o.1 d_L_reach_17 (by decide) rfl ?_
      refine JP_iconst (v := 2) o.1 d_L_reach_19 (by decide) ?_
      exact JL_ret o ⟨Nat.le_of_ble_eq_true rfl, Nat.le_of_ble_eq_true rfl⟩ d_L_reach_20 hE
  · obtain ⟨r, hr, hk⟩ := hu
    cases hr
    refine JP_i2l o.1 d_L_reach_8 ?_
    refine JL_last o d_L_reach_9 ?_
    refine JP_goto o.1 21 d_L_reach_10 (by decide) ?_
    refine JP_iconst (v := 0) o.1 d_L_reach_21 (by decide) ?_
    exact JL_ret o ⟨Nat.le_of_ble_eq_true rfl, Nat.le_of_ble_eq_true rfl⟩ d_L_reach_22 hk
set_option maxHeartbeats 4000000 in
set_option maxRecDepth 20000 in
theorem w_L_most (l : Launch) (hfl : l.stackTraces = false) (d : Lb) (hd : Ld d) {v1 : Int32} {v2 : Int32} {v3 : Int32} {v4 : Int32} {σc σm : Sg} {v : Int64} {K : Int32 → Sg → Int64 → Prop} (h : m_X4_most v1 v2 v3 v4 σc (fun r σ' => K 0 σ' r.toInt64) (fun E σ' => (E = "java/util/NoSuchElementException" ∧ K 1 σ' v) ∨ (E = "java/lang/IllegalArgumentException" ∧ K 2 σ' v))) : CtL l d yL_most cL_most 7 [(0, 14, 17, 25), (0, 14, 21, 13)] rm_L_most [.ref (wB (wC (dC d)) + 0), .int v1, .int v2, .int v3, .int v4, .ref (dO d)] σc σm v K := by
  refine CtL.of hd (own := RL) (by decide +kernel) rfl (Nat.le_of_ble_eq_true rfl) (fun x hx ht o => ?_)
  subst hx
  show JP x (frL d) (LW d σc σm v) (FinL x d K σm (2, 12)) 0 [(0, .ref (wB (wC (dC d)) + 0)), (1, .int v1), (2, .int v2), (3, .int v3), (4, .int v4), (5, .ref (dO d))] [] (0, 0)
  refine JP_aload o.1 5 d_L_most_0 rfl ?_
  refine JP_iconst (v := 0) o.1 d_L_most_2 (by decide) ?_
  refine JP_aload_n o.1 0 d_L_most_3 rfl ?_
  refine JP_iload_n o.1 1 d_L_most_4 rfl ?_
  refine JP_iload_n o.1 2 d_L_most_5 rfl ?_
  refine JP_iload_n o.1 3 d_L_most_6 rfl ?_
  refine JP_iload o.1 4 d_L_most_7 rfl ?_
  refine JL_callX o [.int v1, .int v2, .int v3, .int v4] mth_X4_most iv_X4_most ml_RL_60 ⟨Nat.le_of_ble_eq_true rfl, Nat.le_of_ble_eq_true rfl⟩ rfl rfl (Nat.le_of_ble_eq_true rfl) ⟨Nat.le_of_ble_eq_true rfl, Nat.le_of_ble_eq_true rfl⟩ d_L_most_9 (w_X4_most (xL x) (dC d) hfl h) (fun E σ' hE => ?_) (fun u s1 hu => ?_)
  · rcases hE with ⟨rfl, hE⟩ | ⟨rfl, hE⟩
    · refine JPT_catch o [] ⟨0, 14, 17, 25⟩ [⟨0, 14, 21, 13⟩] ht (fun _ h => by cases h) rfl (by decide) ckE_25 (by decide +kernel) (fun q => ?_)
      refine JP_astore (lv' := [(6, .ref q), (0, .ref (wB (wC (dC d)) + 0)), (1, .int v1), (2, .int v2), (3, .int v3), (4, .int v4), (5, .ref (dO d))]) o.1 d_L_most_17 (by decide) rfl ?_
      refine JP_iconst (v := 1) o.1 d_L_most_19 (by decide) ?_
      exact JL_ret o ⟨Nat.le_of_ble_eq_true rfl, Nat.le_of_ble_eq_true rfl⟩ d_L_most_20 hE
    · refine JPT_catch o [⟨0, 14, 17, 25⟩] ⟨0, 14, 21, 13⟩ [] ht (List.forall_mem_cons.mpr ⟨⟨by decide, "java/util/NoSuchElementException", ckE_25, by decide +kernel⟩, fun _ h => by cases h⟩) rfl (by decide) ckE_13 (by decide +kernel) (fun q => ?_)
      refine JP_astore (lv' := [(6, .ref q), (0, .ref (wB (wC (dC d)) + 0)), (1, .int v1), (2, .int v2), (3, .int v3), (4, .int v4), (5, .ref (dO d))]) o.1 d_L_most_21 (by decide) rfl ?_
      refine JP_iconst (v := 2) o.1 d_L_most_23 (by decide) ?_
      exact JL_ret o ⟨Nat.le_of_ble_eq_true rfl, Nat.le_of_ble_eq_true rfl⟩ d_L_most_24 hE
  · obtain ⟨r, hr, hk⟩ := hu
    cases hr
    refine JP_i2l o.1 d_L_most_12 ?_
    refine JL_last o d_L_most_13 ?_
    refine JP_goto o.1 25 d_L_most_14 (by decide) ?_
    refine JP_iconst (v := 0) o.1 d_L_most_25 (by decide) ?_
    exact JL_ret o ⟨Nat.le_of_ble_eq_true rfl, Nat.le_of_ble_eq_true rfl⟩ d_L_most_26 hk
set_option maxHeartbeats 4000000 in
set_option maxRecDepth 20000 in
theorem w_L_relay (l : Launch) (hfl : l.stackTraces = false) (d : Lb) (hd : Ld d) {v1 : Int32} {v2 : Int32} {σc σm : Sg} {v : Int64} {K : Int32 → Sg → Int64 → Prop} (h : m_X4_relay v1 v2 σc (fun r σ' => K 0 σ' r.toInt64) (fun E σ' => (E = "java/util/NoSuchElementException" ∧ K 1 σ' v) ∨ (E = "java/lang/IllegalArgumentException" ∧ K 2 σ' v))) : CtL l d yL_relay cL_relay 5 [(0, 10, 13, 25), (0, 10, 17, 13)] rm_L_relay [.ref (wB (wC (dC d)) + 0), .int v1, .int v2, .ref (dO d)] σc σm v K := by
  refine CtL.of hd (own := RL) (by decide +kernel) rfl (Nat.le_of_ble_eq_true rfl) (fun x hx ht o => ?_)
  subst hx
  show JP x (frL d) (LW d σc σm v) (FinL x d K σm (3, 18)) 0 [(0, .ref (wB (wC (dC d)) + 0)), (1, .int v1), (2, .int v2), (3, .ref (dO d))] [] (0, 0)
  refine JP_aload_n o.1 3 d_L_relay_0 rfl ?_
  refine JP_iconst (v := 0) o.1 d_L_relay_1 (by decide) ?_
  refine JP_aload_n o.1 0 d_L_relay_2 rfl ?_
  refine JP_iload_n o.1 1 d_L_relay_3 rfl ?_
  refine JP_iload_n o.1 2 d_L_relay_4 rfl ?_
  refine JL_callX o [.int v1, .int v2] mth_X4_relay iv_X4_relay ml_RL_64 ⟨Nat.le_of_ble_eq_true rfl, Nat.le_of_ble_eq_true rfl⟩ rfl rfl (Nat.le_of_ble_eq_true rfl) ⟨Nat.le_of_ble_eq_true rfl, Nat.le_of_ble_eq_true rfl⟩ d_L_relay_5 (w_X4_relay (xL x) (dC d) hfl h) (fun E σ' hE => ?_) (fun u s1 hu => ?_)
  · rcases hE with ⟨rfl, hE⟩ | ⟨rfl, hE⟩
    · refine JPT_catch o [] ⟨0, 10, 13, 25⟩ [⟨0, 10, 17, 13⟩] ht (fun _ h => by cases h) rfl (by decide) ckE_25 (by decide +kernel) (fun q => ?_)
      refine JP_astore (lv' := [(4, .ref q), (0, .ref (wB (wC (dC d)) + 0)), (1, .int v1), (2, .int v2), (3, .ref (dO d))]) o.1 d_L_relay_13 (by decide) rfl ?_
      refine JP_iconst (v := 1) o.1 d_L_relay_15 (by decide) ?_
      exact JL_ret o ⟨Nat.le_of_ble_eq_true rfl, Nat.le_of_ble_eq_true rfl⟩ d_L_relay_16 hE
    · refine JPT_catch o [⟨0, 10, 13, 25⟩] ⟨0, 10, 17, 13⟩ [] ht (List.forall_mem_cons.mpr ⟨⟨by decide, "java/util/NoSuchElementException", ckE_25, by decide +kernel⟩, fun _ h => by cases h⟩) rfl (by decide) ckE_13 (by decide +kernel) (fun q => ?_)
      refine JP_astore (lv' := [(4, .ref q), (0, .ref (wB (wC (dC d)) + 0)), (1, .int v1), (2, .int v2), (3, .ref (dO d))]) o.1 d_L_relay_17 (by decide) rfl ?_
      refine JP_iconst (v := 2) o.1 d_L_relay_19 (by decide) ?_
      exact JL_ret o ⟨Nat.le_of_ble_eq_true rfl, Nat.le_of_ble_eq_true rfl⟩ d_L_relay_20 hE
  · obtain ⟨r, hr, hk⟩ := hu
    cases hr
    refine JP_i2l o.1 d_L_relay_8 ?_
    refine JL_last o d_L_relay_9 ?_
    refine JP_goto o.1 21 d_L_relay_10 (by decide) ?_
    refine JP_iconst (v := 0) o.1 d_L_relay_21 (by decide) ?_
    exact JL_ret o ⟨Nat.le_of_ble_eq_true rfl, Nat.le_of_ble_eq_true rfl⟩ d_L_relay_22 hk
set_option maxHeartbeats 4000000 in
set_option maxRecDepth 20000 in
theorem w_L_home (l : Launch) (hfl : l.stackTraces = false) (d : Lb) (hd : Ld d) {v1 : Int32} {v2 : Int32} {σc σm : Sg} {v : Int64} {K : Int32 → Sg → Int64 → Prop} (h : m_X4_home v1 v2 σc (fun r σ' => K 0 σ' r.toInt64) (fun E σ' => (E = "java/util/NoSuchElementException" ∧ K 1 σ' v) ∨ (E = "java/lang/IllegalArgumentException" ∧ K 2 σ' v))) : CtL l d yL_home cL_home 5 [(0, 10, 13, 25), (0, 10, 17, 13)] rm_L_home [.ref (wB (wC (dC d)) + 0), .int v1, .int v2, .ref (dO d)] σc σm v K := by
  refine CtL.of hd (own := RL) (by decide +kernel) rfl (Nat.le_of_ble_eq_true rfl) (fun x hx ht o => ?_)
  subst hx
  show JP x (frL d) (LW d σc σm v) (FinL x d K σm (2, 12)) 0 [(0, .ref (wB (wC (dC d)) + 0)), (1, .int v1), (2, .int v2), (3, .ref (dO d))] [] (0, 0)
  refine JP_aload_n o.1 3 d_L_home_0 rfl ?_
  refine JP_iconst (v := 0) o.1 d_L_home_1 (by decide) ?_
  refine JP_aload_n o.1 0 d_L_home_2 rfl ?_
  refine JP_iload_n o.1 1 d_L_home_3 rfl ?_
  refine JP_iload_n o.1 2 d_L_home_4 rfl ?_
  refine JL_callX o [.int v1, .int v2] mth_X4_home iv_X4_home ml_RL_67 ⟨Nat.le_of_ble_eq_true rfl, Nat.le_of_ble_eq_true rfl⟩ rfl rfl (Nat.le_of_ble_eq_true rfl) ⟨Nat.le_of_ble_eq_true rfl, Nat.le_of_ble_eq_true rfl⟩ d_L_home_5 (w_X4_home (xL x) (dC d) hfl h) (fun E σ' hE => ?_) (fun u s1 hu => ?_)
  · rcases hE with ⟨rfl, hE⟩ | ⟨rfl, hE⟩
    · refine JPT_catch o [] ⟨0, 10, 13, 25⟩ [⟨0, 10, 17, 13⟩] ht (fun _ h => by cases h) rfl (by decide) ckE_25 (by decide +kernel) (fun q => ?_)
      refine JP_astore (lv' := [(4, .ref q), (0, .ref (wB (wC (dC d)) + 0)), (1, .int v1), (2, .int v2), (3, .ref (dO d))]) o.1 d_L_home_13 (by decide) rfl ?_
      refine JP_iconst (v := 1) o.1 d_L_home_15 (by decide) ?_
      exact JL_ret o ⟨Nat.le_of_ble_eq_true rfl, Nat.le_of_ble_eq_true rfl⟩ d_L_home_16 hE
    · refine JPT_catch o [⟨0, 10, 13, 25⟩] ⟨0, 10, 17, 13⟩ [] ht (List.forall_mem_cons.mpr ⟨⟨by decide, "java/util/NoSuchElementException", ckE_25, by decide +kernel⟩, fun _ h => by cases h⟩) rfl (by decide) ckE_13 (by decide +kernel) (fun q => ?_)
      refine JP_astore (lv' := [(4, .ref q), (0, .ref (wB (wC (dC d)) + 0)), (1, .int v1), (2, .int v2), (3, .ref (dO d))]) o.1 d_L_home_17 (by decide) rfl ?_
      refine JP_iconst (v := 2) o.1 d_L_home_19 (by decide) ?_
      exact JL_ret o ⟨Nat.le_of_ble_eq_true rfl, Nat.le_of_ble_eq_true rfl⟩ d_L_home_20 hE
  · obtain ⟨r, hr, hk⟩ := hu
    cases hr
    refine JP_i2l o.1 d_L_home_8 ?_
    refine JL_last o d_L_home_9 ?_
    refine JP_goto o.1 21 d_L_home_10 (by decide) ?_
    refine JP_iconst (v := 0) o.1 d_L_home_21 (by decide) ?_
    exact JL_ret o ⟨Nat.le_of_ble_eq_true rfl, Nat.le_of_ble_eq_true rfl⟩ d_L_home_22 hk
