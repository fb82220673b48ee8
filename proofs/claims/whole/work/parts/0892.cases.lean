/-! the law's cases, walked; printed by program -/
theorem lgc_self (a : Int64) : lg_cmp a a = 0 := by
  unfold lg_cmp
  rw [if_neg (by simp), if_pos rfl]
theorem ml_RL_74 : Cond.methodLink RL 74 yX4_feed ∈ TBL := tb_in 301 (by decide +kernel) rfl
theorem mth_X4_feed : Mth yX4_feed cX4_feed 6 (some .int) 5 := ⟨tb_in 304 (by decide +kernel) rfl, tb_in 1 (by decide +kernel) rfl, ⟨by decide +kernel, by decide +kernel⟩, by decide +kernel⟩
theorem iv_X4_feed : Cond.instanceMethod yX4_feed ∈ TBL ∧ Cond.selects RX4 yX4_feed yX4_feed ∈ TBL := ⟨tb_in 302 (by decide +kernel) rfl, tb_in 303 (by decide +kernel) rfl⟩
theorem ml_RL_78 : Cond.methodLink RL 78 yX5_feed ∈ TBL := tb_in 1046 (by decide +kernel) rfl
theorem mth_X5_feed : Mth yX5_feed cX5_feed 8 (some .int) 5 := ⟨tb_in 1049 (by decide +kernel) rfl, tb_in 7 (by decide +kernel) rfl, ⟨by decide +kernel, by decide +kernel⟩, by decide +kernel⟩
theorem iv_X5_feed : Cond.instanceMethod yX5_feed ∈ TBL ∧ Cond.selects RX5 yX5_feed yX5_feed ∈ TBL := ⟨tb_in 1047 (by decide +kernel) rfl, tb_in 1048 (by decide +kernel) rfl⟩
theorem ml_RL_79 : Cond.methodLink RL 79 yL_text ∈ TBL := tb_in 455 (by decide +kernel) rfl
theorem mw_L_text : Cond.codeWith yL_text cL_text 4 (some .int) [(0, 9, 12, 13)] ∈ TBL ∧ Cond.initialized yL_text.cls ∈ TBL ∧ (yL_text.cls ≠ "java/lang/invoke/MethodHandle" ∧ yL_text.cls ≠ "java/lang/invoke/VarHandle") ∧ (parseMethodDescriptor yL_text.desc).map (fun d => d.parameters.length) = some 3 := ⟨tb_in 457 (by decide +kernel) rfl, tb_in 0 (by decide +kernel) rfl, ⟨by decide +kernel, by decide +kernel⟩, by decide +kernel⟩
theorem st_L_text : Cond.static yL_text ∈ TBL := tb_in 456 (by decide +kernel) rfl
theorem ml_RL_84 : Cond.methodLink RL 84 yX5_text ∈ TBL := tb_in 1050 (by decide +kernel) rfl
theorem mth_X5_text : Mth yX5_text cX5_text 2 (some .int) 1 := ⟨tb_in 1053 (by decide +kernel) rfl, tb_in 7 (by decide +kernel) rfl, ⟨by decide +kernel, by decide +kernel⟩, by decide +kernel⟩
theorem iv_X5_text : Cond.instanceMethod yX5_text ∈ TBL ∧ Cond.selects RX5 yX5_text yX5_text ∈ TBL := ⟨tb_in 1051 (by decide +kernel) rfl, tb_in 1052 (by decide +kernel) rfl⟩
theorem ml_RL_85 : Cond.methodLink RL 85 yX5_thrown ∈ TBL := tb_in 1042 (by decide +kernel) rfl
theorem mth_X5_thrown : Mth yX5_thrown cX5_thrown 1 (some .int) 0 := ⟨tb_in 1045 (by decide +kernel) rfl, tb_in 7 (by decide +kernel) rfl, ⟨by decide +kernel, by decide +kernel⟩, by decide +kernel⟩
theorem iv_X5_thrown : Cond.instanceMethod yX5_thrown ∈ TBL ∧ Cond.selects RX5 yX5_thrown yX5_thrown ∈ TBL := ⟨tb_in 1043 (by decide +kernel) rfl, tb_in 1044 (by decide +kernel) rfl⟩
theorem ml_RL_89 : Cond.methodLink RL 89 yX4_fault ∈ TBL := tb_in 310 (by decide +kernel) rfl
theorem mth_X4_fault : Mth yX4_fault cX4_fault 1 (some .int) 0 := ⟨tb_in 313 (by decide +kernel) rfl, tb_in 1 (by decide +kernel) rfl, ⟨by decide +kernel, by decide +kernel⟩, by decide +kernel⟩
theorem iv_X4_fault : Cond.instanceMethod yX4_fault ∈ TBL ∧ Cond.selects RX4 yX4_fault yX4_fault ∈ TBL := ⟨tb_in 311 (by decide +kernel) rfl, tb_in 312 (by decide +kernel) rfl⟩
theorem ml_RL_92 : Cond.methodLink RL 92 yX5_fault ∈ TBL := tb_in 1171 (by decide +kernel) rfl
theorem mth_X5_fault : Mth yX5_fault cX5_fault 1 (some .int) 0 := ⟨tb_in 1174 (by decide +kernel) rfl, tb_in 7 (by decide +kernel) rfl, ⟨by decide +kernel, by decide +kernel⟩, by decide +kernel⟩
theorem iv_X5_fault : Cond.instanceMethod yX5_fault ∈ TBL ∧ Cond.selects RX5 yX5_fault yX5_fault ∈ TBL := ⟨tb_in 1172 (by decide +kernel) rfl, tb_in 1173 (by decide +kernel) rfl⟩
theorem ml_RL_93 : Cond.methodLink RL 93 yL_hour ∈ TBL := tb_in 719 (by decide +kernel) rfl
theorem mw_L_hour : Cond.codeWith yL_hour cL_hour 6 (some .int) [(0, 12, 15, 13), (0, 12, 19, 19)] ∈ TBL ∧ Cond.initialized yL_hour.cls ∈ TBL ∧ (yL_hour.cls ≠ "java/lang/invoke/MethodHandle" ∧ yL_hour.cls ≠ "java/lang/invoke/VarHandle") ∧ (parseMethodDescriptor yL_hour.desc).map (fun d => d.parameters.length) = some 5 := ⟨tb_in 721 (by decide +kernel) rfl, tb_in 0 (by decide +kernel) rfl, ⟨by decide +kernel, by decide +kernel⟩, by decide +kernel⟩
theorem st_L_hour : Cond.static yL_hour ∈ TBL := tb_in 720 (by decide +kernel) rfl
theorem ml_RL_96 : Cond.methodLink RL 96 yX5_hour ∈ TBL := tb_in 1179 (by decide +kernel) rfl
theorem mth_X5_hour : Mth yX5_hour cX5_hour 8 (some .int) 3 := ⟨tb_in 1182 (by decide +kernel) rfl, tb_in 7 (by decide +kernel) rfl, ⟨by decide +kernel, by decide +kernel⟩, by decide +kernel⟩
theorem iv_X5_hour : Cond.instanceMethod yX5_hour ∈ TBL ∧ Cond.selects RX5 yX5_hour yX5_hour ∈ TBL := ⟨tb_in 1180 (by decide +kernel) rfl, tb_in 1181 (by decide +kernel) rfl⟩
theorem ml_RL_97 : Cond.methodLink RL 97 yL_fuel ∈ TBL := tb_in 771 (by decide +kernel) rfl
theorem mw_L_fuel : Cond.codeWith yL_fuel cL_fuel 5 (some .int) [(0, 10, 13, 25), (0, 10, 17, 13)] ∈ TBL ∧ Cond.initialized yL_fuel.cls ∈ TBL ∧ (yL_fuel.cls ≠ "java/lang/invoke/MethodHandle" ∧ yL_fuel.cls ≠ "java/lang/invoke/VarHandle") ∧ (parseMethodDescriptor yL_fuel.desc).map (fun d => d.parameters.length) = some 4 := ⟨tb_in 773 (by decide +kernel) rfl, tb_in 0 (by decide +kernel) rfl, ⟨by decide +kernel, by decide +kernel⟩, by decide +kernel⟩
theorem st_L_fuel : Cond.static yL_fuel ∈ TBL := tb_in 772 (by decide +kernel) rfl
theorem ml_RL_100 : Cond.methodLink RL 100 yX5_fuel ∈ TBL := tb_in 1241 (by decide +kernel) rfl
theorem mth_X5_fuel : Mth yX5_fuel cX5_fuel 4 (some .int) 2 := ⟨tb_in 1244 (by decide +kernel) rfl, tb_in 7 (by decide +kernel) rfl, ⟨by decide +kernel, by decide +kernel⟩, by decide +kernel⟩
theorem iv_X5_fuel : Cond.instanceMethod yX5_fuel ∈ TBL ∧ Cond.selects RX5 yX5_fuel yX5_fuel ∈ TBL := ⟨tb_in 1242 (by decide +kernel) rfl, tb_in 1243 (by decide +kernel) rfl⟩
theorem ml_RL_101 : Cond.methodLink RL 101 yL_wind ∈ TBL := tb_in 799 (by decide +kernel) rfl
theorem mw_L_wind : Cond.codeWith yL_wind cL_wind 5 (some .int) [(0, 10, 13, 13)] ∈ TBL ∧ Cond.initialized yL_wind.cls ∈ TBL ∧ (yL_wind.cls ≠ "java/lang/invoke/MethodHandle" ∧ yL_wind.cls ≠ "java/lang/invoke/VarHandle") ∧ (parseMethodDescriptor yL_wind.desc).map (fun d => d.parameters.length) = some 4 := ⟨tb_in 801 (by decide +kernel) rfl, tb_in 0 (by decide +kernel) rfl, ⟨by decide +kernel, by decide +kernel⟩, by decide +kernel⟩
theorem st_L_wind : Cond.static yL_wind ∈ TBL := tb_in 800 (by decide +kernel) rfl
theorem ml_RL_103 : Cond.methodLink RL 103 yX5_wind ∈ TBL := tb_in 1245 (by decide +kernel) rfl
theorem mth_X5_wind : Mth yX5_wind cX5_wind 4 (some .int) 2 := ⟨tb_in 1248 (by decide +kernel) rfl, tb_in 7 (by decide +kernel) rfl, ⟨by decide +kernel, by decide +kernel⟩, by decide +kernel⟩
theorem iv_X5_wind : Cond.instanceMethod yX5_wind ∈ TBL ∧ Cond.selects RX5 yX5_wind yX5_wind ∈ TBL := ⟨tb_in 1246 (by decide +kernel) rfl, tb_in 1247 (by decide +kernel) rfl⟩
theorem ml_RL_104 : Cond.methodLink RL 104 yX4_undo ∈ TBL := tb_in 314 (by decide +kernel) rfl
theorem mth_X4_undo : Mth yX4_undo cX4_undo 1 (some .int) 0 := ⟨tb_in 317 (by decide +kernel) rfl, tb_in 1 (by decide +kernel) rfl, ⟨by decide +kernel, by decide +kernel⟩, by decide +kernel⟩
theorem iv_X4_undo : Cond.instanceMethod yX4_undo ∈ TBL ∧ Cond.selects RX4 yX4_undo yX4_undo ∈ TBL := ⟨tb_in 315 (by decide +kernel) rfl, tb_in 316 (by decide +kernel) rfl⟩
theorem ml_RL_107 : Cond.methodLink RL 107 yX5_undo ∈ TBL := tb_in 1175 (by decide +kernel) rfl
theorem mth_X5_undo : Mth yX5_undo cX5_undo 1 (some .int) 0 := ⟨tb_in 1178 (by decide +kernel) rfl, tb_in 7 (by decide +kernel) rfl, ⟨by decide +kernel, by decide +kernel⟩, by decide +kernel⟩
theorem iv_X5_undo : Cond.instanceMethod yX5_undo ∈ TBL ∧ Cond.selects RX5 yX5_undo yX5_undo ∈ TBL := ⟨tb_in 1176 (by decide +kernel) rfl, tb_in 1177 (by decide +kernel) rfl⟩
theorem ml_RL_108 : Cond.methodLink RL 108 yL_told ∈ TBL := tb_in 807 (by decide +kernel) rfl
theorem mw_L_told : Cond.codeWith yL_told cL_told 4 (some .int) [(0, 9, 12, 13)] ∈ TBL ∧ Cond.initialized yL_told.cls ∈ TBL ∧ (yL_told.cls ≠ "java/lang/invoke/MethodHandle" ∧ yL_told.cls ≠ "java/lang/invoke/VarHandle") ∧ (parseMethodDescriptor yL_told.desc).map (fun d => d.parameters.length) = some 3 := ⟨tb_in 809 (by decide +kernel) rfl, tb_in 0 (by decide +kernel) rfl, ⟨by decide +kernel, by decide +kernel⟩, by decide +kernel⟩
theorem st_L_told : Cond.static yL_told ∈ TBL := tb_in 808 (by decide +kernel) rfl
theorem ml_RL_110 : Cond.methodLink RL 110 yX5_told ∈ TBL := tb_in 1249 (by decide +kernel) rfl
theorem mth_X5_told : Mth yX5_told cX5_told 4 (some .int) 1 := ⟨tb_in 1252 (by decide +kernel) rfl, tb_in 7 (by decide +kernel) rfl, ⟨by decide +kernel, by decide +kernel⟩, by decide +kernel⟩
theorem iv_X5_told : Cond.instanceMethod yX5_told ∈ TBL ∧ Cond.selects RX5 yX5_told yX5_told ∈ TBL := ⟨tb_in 1250 (by decide +kernel) rfl, tb_in 1251 (by decide +kernel) rfl⟩
theorem ml_RL_111 : Cond.methodLink RL 111 yL_cell ∈ TBL := tb_in 820 (by decide +kernel) rfl
theorem mw_L_cell : Cond.codeWith yL_cell cL_cell 6 (some .int) [(0, 12, 15, 13)] ∈ TBL ∧ Cond.initialized yL_cell.cls ∈ TBL ∧ (yL_cell.cls ≠ "java/lang/invoke/MethodHandle" ∧ yL_cell.cls ≠ "java/lang/invoke/VarHandle") ∧ (parseMethodDescriptor yL_cell.desc).map (fun d => d.parameters.length) = some 5 := ⟨tb_in 822 (by decide +kernel) rfl, tb_in 0 (by decide +kernel) rfl, ⟨by decide +kernel, by decide +kernel⟩, by decide +kernel⟩
theorem st_L_cell : Cond.static yL_cell ∈ TBL := tb_in 821 (by decide +kernel) rfl
theorem ml_RL_113 : Cond.methodLink RL 113 yX5_cell ∈ TBL := tb_in 1253 (by decide +kernel) rfl
theorem mth_X5_cell : Mth yX5_cell cX5_cell 4 (some .int) 3 := ⟨tb_in 1256 (by decide +kernel) rfl, tb_in 7 (by decide +kernel) rfl, ⟨by decide +kernel, by decide +kernel⟩, by decide +kernel⟩
theorem iv_X5_cell : Cond.instanceMethod yX5_cell ∈ TBL ∧ Cond.selects RX5 yX5_cell yX5_cell ∈ TBL := ⟨tb_in 1254 (by decide +kernel) rfl, tb_in 1255 (by decide +kernel) rfl⟩
theorem ml_RL_114 : Cond.methodLink RL 114 yL_blows ∈ TBL := tb_in 829 (by decide +kernel) rfl
theorem mw_L_blows : Cond.codeWith yL_blows cL_blows 4 (some .int) [(0, 9, 12, 13)] ∈ TBL ∧ Cond.initialized yL_blows.cls ∈ TBL ∧ (yL_blows.cls ≠ "java/lang/invoke/MethodHandle" ∧ yL_blows.cls ≠ "java/lang/invoke/VarHandle") ∧ (parseMethodDescriptor yL_blows.desc).map (fun d => d.parameters.length) = some 3 := ⟨tb_in 831 (by decide +kernel) rfl, tb_in 0 (by decide +kernel) rfl, ⟨by decide +kernel, by decide +kernel⟩, by decide +kernel⟩
theorem st_L_blows : Cond.static yL_blows ∈ TBL := tb_in 830 (by decide +kernel) rfl
theorem ml_RL_116 : Cond.methodLink RL 116 yX5_blows ∈ TBL := tb_in 1257 (by decide +kernel) rfl
theorem mth_X5_blows : Mth yX5_blows cX5_blows 2 (some .int) 1 := ⟨tb_in 1260 (by decide +kernel) rfl, tb_in 7 (by decide +kernel) rfl, ⟨by decide +kernel, by decide +kernel⟩, by decide +kernel⟩
theorem iv_X5_blows : Cond.instanceMethod yX5_blows ∈ TBL ∧ Cond.selects RX5 yX5_blows yX5_blows ∈ TBL := ⟨tb_in 1258 (by decide +kernel) rfl, tb_in 1259 (by decide +kernel) rfl⟩
theorem ml_RL_117 : Cond.methodLink RL 117 yL_helper ∈ TBL := tb_in 836 (by decide +kernel) rfl
theorem mw_L_helper : Cond.codeWith yL_helper cL_helper 5 (some .int) [(0, 10, 13, 25), (0, 10, 17, 13)] ∈ TBL ∧ Cond.initialized yL_helper.cls ∈ TBL ∧ (yL_helper.cls ≠ "java/lang/invoke/MethodHandle" ∧ yL_helper.cls ≠ "java/lang/invoke/VarHandle") ∧ (parseMethodDescriptor yL_helper.desc).map (fun d => d.parameters.length) = some 4 := ⟨tb_in 838 (by decide +kernel) rfl, tb_in 0 (by decide +kernel) rfl, ⟨by decide +kernel, by decide +kernel⟩, by decide +kernel⟩
theorem st_L_helper : Cond.static yL_helper ∈ TBL := tb_in 837 (by decide +kernel) rfl
theorem ml_RL_119 : Cond.methodLink RL 119 yX5_helper ∈ TBL := tb_in 1261 (by decide +kernel) rfl
theorem mth_X5_helper : Mth yX5_helper cX5_helper 3 (some .int) 2 := ⟨tb_in 1264 (by decide +kernel) rfl, tb_in 7 (by decide +kernel) rfl, ⟨by decide +kernel, by decide +kernel⟩, by decide +kernel⟩
theorem iv_X5_helper : Cond.instanceMethod yX5_helper ∈ TBL ∧ Cond.selects RX5 yX5_helper yX5_helper ∈ TBL := ⟨tb_in 1262 (by decide +kernel) rfl, tb_in 1263 (by decide +kernel) rfl⟩
theorem ml_RL_120 : Cond.methodLink RL 120 yL_drift ∈ TBL := tb_in 843 (by decide +kernel) rfl
theorem mw_L_drift : Cond.codeWith yL_drift cL_drift 5 (some .int) [(0, 10, 13, 13)] ∈ TBL ∧ Cond.initialized yL_drift.cls ∈ TBL ∧ (yL_drift.cls ≠ "java/lang/invoke/MethodHandle" ∧ yL_drift.cls ≠ "java/lang/invoke/VarHandle") ∧ (parseMethodDescriptor yL_drift.desc).map (fun d => d.parameters.length) = some 4 := ⟨tb_in 845 (by decide +kernel) rfl, tb_in 0 (by decide +kernel) rfl, ⟨by decide +kernel, by decide +kernel⟩, by decide +kernel⟩
theorem st_L_drift : Cond.static yL_drift ∈ TBL := tb_in 844 (by decide +kernel) rfl
theorem ml_RL_122 : Cond.methodLink RL 122 yX5_drift ∈ TBL := tb_in 1265 (by decide +kernel) rfl
theorem mth_X5_drift : Mth yX5_drift cX5_drift 4 (some .int) 2 := ⟨tb_in 1268 (by decide +kernel) rfl, tb_in 7 (by decide +kernel) rfl, ⟨by decide +kernel, by decide +kernel⟩, by decide +kernel⟩
theorem iv_X5_drift : Cond.instanceMethod yX5_drift ∈ TBL ∧ Cond.selects RX5 yX5_drift yX5_drift ∈ TBL := ⟨tb_in 1266 (by decide +kernel) rfl, tb_in 1267 (by decide +kernel) rfl⟩
theorem ml_RL_123 : Cond.methodLink RL 123 yL_cost ∈ TBL := tb_in 858 (by decide +kernel) rfl
theorem mw_L_cost : Cond.codeWith yL_cost cL_cost 5 (some .int) [(0, 10, 13, 13)] ∈ TBL ∧ Cond.initialized yL_cost.cls ∈ TBL ∧ (yL_cost.cls ≠ "java/lang/invoke/MethodHandle" ∧ yL_cost.cls ≠ "java/lang/invoke/VarHandle") ∧ (parseMethodDescriptor yL_cost.desc).map (fun d => d.parameters.length) = some 4 := ⟨tb_in 860 (by decide +kernel) rfl, tb_in 0 (by decide +kernel) rfl, ⟨by decide +kernel, by decide +kernel⟩, by decide +kernel⟩
theorem st_L_cost : Cond.static yL_cost ∈ TBL := tb_in 859 (by decide +kernel) rfl
theorem ml_RL_125 : Cond.methodLink RL 125 yX5_cost ∈ TBL := tb_in 1273 (by decide +kernel) rfl
theorem mth_X5_cost : Mth yX5_cost cX5_cost 3 (some .int) 2 := ⟨tb_in 1276 (by decide +kernel) rfl, tb_in 7 (by decide +kernel) rfl, ⟨by decide +kernel, by decide +kernel⟩, by decide +kernel⟩
theorem iv_X5_cost : Cond.instanceMethod yX5_cost ∈ TBL ∧ Cond.selects RX5 yX5_cost yX5_cost ∈ TBL := ⟨tb_in 1274 (by decide +kernel) rfl, tb_in 1275 (by decide +kernel) rfl⟩
theorem ml_RL_126 : Cond.methodLink RL 126 yL_meet ∈ TBL := tb_in 866 (by decide +kernel) rfl
theorem mw_L_meet : Cond.codeWith yL_meet cL_meet 5 (some .int) [(0, 10, 13, 25), (0, 10, 17, 13)] ∈ TBL ∧ Cond.initialized yL_meet.cls ∈ TBL ∧ (yL_meet.cls ≠ "java/lang/invoke/MethodHandle" ∧ yL_meet.cls ≠ "java/lang/invoke/VarHandle") ∧ (parseMethodDescriptor yL_meet.desc).map (fun d => d.parameters.length) = some 4 := ⟨tb_in 868 (by decide +kernel) rfl, tb_in 0 (by decide +kernel) rfl, ⟨by decide +kernel, by decide +kernel⟩, by decide +kernel⟩
theorem st_L_meet : Cond.static yL_meet ∈ TBL := tb_in 867 (by decide +kernel) rfl
theorem ml_RL_128 : Cond.methodLink RL 128 yX5_meet ∈ TBL := tb_in 1277 (by decide +kernel) rfl
theorem mth_X5_meet : Mth yX5_meet cX5_meet 4 (some .int) 2 := ⟨tb_in 1280 (by decide +kernel) rfl, tb_in 7 (by decide +kernel) rfl, ⟨by decide +kernel, by decide +kernel⟩, by decide +kernel⟩
theorem iv_X5_meet : Cond.instanceMethod yX5_meet ∈ TBL ∧ Cond.selects RX5 yX5_meet yX5_meet ∈ TBL := ⟨tb_in 1278 (by decide +kernel) rfl, tb_in 1279 (by decide +kernel) rfl⟩
theorem ml_RL_129 : Cond.methodLink RL 129 yL_route ∈ TBL := tb_in 878 (by decide +kernel) rfl
theorem mw_L_route : Cond.codeWith yL_route cL_route 5 (some .int) [(0, 10, 13, 25)] ∈ TBL ∧ Cond.initialized yL_route.cls ∈ TBL ∧ (yL_route.cls ≠ "java/lang/invoke/MethodHandle" ∧ yL_route.cls ≠ "java/lang/invoke/VarHandle") ∧ (parseMethodDescriptor yL_route.desc).map (fun d => d.parameters.length) = some 4 := ⟨tb_in 880 (by decide +kernel) rfl, tb_in 0 (by decide +kernel) rfl, ⟨by decide +kernel, by decide +kernel⟩, by decide +kernel⟩
theorem st_L_route : Cond.static yL_route ∈ TBL := tb_in 879 (by decide +kernel) rfl
theorem ml_RL_131 : Cond.methodLink RL 131 yX5_route ∈ TBL := tb_in 1294 (by decide +kernel) rfl
theorem mth_X5_route : Mth yX5_route cX5_route 8 (some .int) 2 := ⟨tb_in 1297 (by decide +kernel) rfl, tb_in 7 (by decide +kernel) rfl, ⟨by decide +kernel, by decide +kernel⟩, by decide +kernel⟩
theorem iv_X5_route : Cond.instanceMethod yX5_route ∈ TBL ∧ Cond.selects RX5 yX5_route yX5_route ∈ TBL := ⟨tb_in 1295 (by decide +kernel) rfl, tb_in 1296 (by decide +kernel) rfl⟩
theorem ml_RL_132 : Cond.methodLink RL 132 yX4_first ∈ TBL := tb_in 343 (by decide +kernel) rfl
theorem mth_X4_first : Mth yX4_first cX4_first 5 (some .int) 0 := ⟨tb_in 346 (by decide +kernel) rfl, tb_in 1 (by decide +kernel) rfl, ⟨by decide +kernel, by decide +kernel⟩, by decide +kernel⟩
theorem iv_X4_first : Cond.instanceMethod yX4_first ∈ TBL ∧ Cond.selects RX4 yX4_first yX4_first ∈ TBL := ⟨tb_in 344 (by decide +kernel) rfl, tb_in 345 (by decide +kernel) rfl⟩
theorem ml_RL_135 : Cond.methodLink RL 135 yX5_first ∈ TBL := tb_in 1302 (by decide +kernel) rfl
theorem mth_X5_first : Mth yX5_first cX5_first 5 (some .int) 0 := ⟨tb_in 1305 (by decide +kernel) rfl, tb_in 7 (by decide +kernel) rfl, ⟨by decide +kernel, by decide +kernel⟩, by decide +kernel⟩
theorem iv_X5_first : Cond.instanceMethod yX5_first ∈ TBL ∧ Cond.selects RX5 yX5_first yX5_first ∈ TBL := ⟨tb_in 1303 (by decide +kernel) rfl, tb_in 1304 (by decide +kernel) rfl⟩
theorem ml_RL_136 : Cond.methodLink RL 136 yL_least ∈ TBL := tb_in 910 (by decide +kernel) rfl
theorem mw_L_least : Cond.codeWith yL_least cL_least 5 (some .int) [(0, 10, 13, 25), (0, 10, 17, 13)] ∈ TBL ∧ Cond.initialized yL_least.cls ∈ TBL ∧ (yL_least.cls ≠ "java/lang/invoke/MethodHandle" ∧ yL_least.cls ≠ "java/lang/invoke/VarHandle") ∧ (parseMethodDescriptor yL_least.desc).map (fun d => d.parameters.length) = some 4 := ⟨tb_in 912 (by decide +kernel) rfl, tb_in 0 (by decide +kernel) rfl, ⟨by decide +kernel, by decide +kernel⟩, by decide +kernel⟩
theorem st_L_least : Cond.static yL_least ∈ TBL := tb_in 911 (by decide +kernel) rfl
theorem ml_RL_138 : Cond.methodLink RL 138 yX5_least ∈ TBL := tb_in 1306 (by decide +kernel) rfl
theorem mth_X5_least : Mth yX5_least cX5_least 6 (some .int) 2 := ⟨tb_in 1309 (by decide +kernel) rfl, tb_in 7 (by decide +kernel) rfl, ⟨by decide +kernel, by decide +kernel⟩, by decide +kernel⟩
theorem iv_X5_least : Cond.instanceMethod yX5_least ∈ TBL ∧ Cond.selects RX5 yX5_least yX5_least ∈ TBL := ⟨tb_in 1307 (by decide +kernel) rfl, tb_in 1308 (by decide +kernel) rfl⟩
theorem ml_RL_139 : Cond.methodLink RL 139 yL_reach ∈ TBL := tb_in 921 (by decide +kernel) rfl
theorem mw_L_reach : Cond.codeWith yL_reach cL_reach 5 (some .int) [(0, 10, 13, 25), (0, 10, 17, 13)] ∈ TBL ∧ Cond.initialized yL_reach.cls ∈ TBL ∧ (yL_reach.cls ≠ "java/lang/invoke/MethodHandle" ∧ yL_reach.cls ≠ "java/lang/invoke/VarHandle") ∧ (parseMethodDescriptor yL_reach.desc).map (fun d => d.parameters.length) = some 4 := ⟨tb_in 923 (by decide +kernel) rfl, tb_in 0 (by decide +kernel) rfl, ⟨by decide +kernel, by decide +kernel⟩, by decide +kernel⟩
theorem st_L_reach : Cond.static yL_reach ∈ TBL := tb_in 922 (by decide +kernel) rfl
theorem ml_RL_141 : Cond.methodLink RL 141 yX5_reach ∈ TBL := tb_in 1310 (by decide +kernel) rfl
theorem mth_X5_reach : Mth yX5_reach cX5_reach 6 (some .int) 2 := ⟨tb_in 1313 (by decide +kernel) rfl, tb_in 7 (by decide +kernel) rfl, ⟨by decide +kernel, by decide +kernel⟩, by decide +kernel⟩
theorem iv_X5_reach : Cond.instanceMethod yX5_reach ∈ TBL ∧ Cond.selects RX5 yX5_reach yX5_reach ∈ TBL := ⟨tb_in 1311 (by decide +kernel) rfl, tb_in 1312 (by decide +kernel) rfl⟩
theorem ml_RL_142 : Cond.methodLink RL 142 yL_most ∈ TBL := tb_in 932 (by decide +kernel) rfl
theorem mw_L_most : Cond.codeWith yL_most cL_most 7 (some .int) [(0, 14, 17, 25), (0, 14, 21, 13)] ∈ TBL ∧ Cond.initialized yL_most.cls ∈ TBL ∧ (yL_most.cls ≠ "java/lang/invoke/MethodHandle" ∧ yL_most.cls ≠ "java/lang/invoke/VarHandle") ∧ (parseMethodDescriptor yL_most.desc).map (fun d => d.parameters.length) = some 6 := ⟨tb_in 934 (by decide +kernel) rfl, tb_in 0 (by decide +kernel) rfl, ⟨by decide +kernel, by decide +kernel⟩, by decide +kernel⟩
theorem st_L_most : Cond.static yL_most ∈ TBL := tb_in 933 (by decide +kernel) rfl
theorem ml_RL_145 : Cond.methodLink RL 145 yX5_most ∈ TBL := tb_in 1314 (by decide +kernel) rfl
theorem mth_X5_most : Mth yX5_most cX5_most 7 (some .int) 4 := ⟨tb_in 1317 (by decide +kernel) rfl, tb_in 7 (by decide +kernel) rfl, ⟨by decide +kernel, by decide +kernel⟩, by decide +kernel⟩
theorem iv_X5_most : Cond.instanceMethod yX5_most ∈ TBL ∧ Cond.selects RX5 yX5_most yX5_most ∈ TBL := ⟨tb_in 1315 (by decide +kernel) rfl, tb_in 1316 (by decide +kernel) rfl⟩
theorem ml_RL_146 : Cond.methodLink RL 146 yL_relay ∈ TBL := tb_in 943 (by decide +kernel) rfl
theorem mw_L_relay : Cond.codeWith yL_relay cL_relay 5 (some .int) [(0, 10, 13, 25), (0, 10, 17, 13)] ∈ TBL ∧ Cond.initialized yL_relay.cls ∈ TBL ∧ (yL_relay.cls ≠ "java/lang/invoke/MethodHandle" ∧ yL_relay.cls ≠ "java/lang/invoke/VarHandle") ∧ (parseMethodDescriptor yL_relay.desc).map (fun d => d.parameters.length) = some 4 := ⟨tb_in 945 (by decide +kernel) rfl, tb_in 0 (by decide +kernel) rfl, ⟨by decide +kernel, by decide +kernel⟩, by decide +kernel⟩
theorem st_L_relay : Cond.static yL_relay ∈ TBL := tb_in 944 (by decide +kernel) rfl
theorem ml_RL_148 : Cond.methodLink RL 148 yX5_relay ∈ TBL := tb_in 1318 (by decide +kernel) rfl
theorem mth_X5_relay : Mth yX5_relay cX5_relay 6 (some .int) 2 := ⟨tb_in 1321 (by decide +kernel) rfl, tb_in 7 (by decide +kernel) rfl, ⟨by decide +kernel, by decide +kernel⟩, by decide +kernel⟩
theorem iv_X5_relay : Cond.instanceMethod yX5_relay ∈ TBL ∧ Cond.selects RX5 yX5_relay yX5_relay ∈ TBL := ⟨tb_in 1319 (by decide +kernel) rfl, tb_in 1320 (by decide +kernel) rfl⟩
theorem ml_RL_149 : Cond.methodLink RL 149 yL_home ∈ TBL := tb_in 958 (by decide +kernel) rfl
theorem mw_L_home : Cond.codeWith yL_home cL_home 5 (some .int) [(0, 10, 13, 25), (0, 10, 17, 13)] ∈ TBL ∧ Cond.initialized yL_home.cls ∈ TBL ∧ (yL_home.cls ≠ "java/lang/invoke/MethodHandle" ∧ yL_home.cls ≠ "java/lang/invoke/VarHandle") ∧ (parseMethodDescriptor yL_home.desc).map (fun d => d.parameters.length) = some 4 := ⟨tb_in 960 (by decide +kernel) rfl, tb_in 0 (by decide +kernel) rfl, ⟨by decide +kernel, by decide +kernel⟩, by decide +kernel⟩
theorem st_L_home : Cond.static yL_home ∈ TBL := tb_in 959 (by decide +kernel) rfl
theorem ml_RL_151 : Cond.methodLink RL 151 yX5_home ∈ TBL := tb_in 1322 (by decide +kernel) rfl
theorem mth_X5_home : Mth yX5_home cX5_home 6 (some .int) 2 := ⟨tb_in 1325 (by decide +kernel) rfl, tb_in 7 (by decide +kernel) rfl, ⟨by decide +kernel, by decide +kernel⟩, by decide +kernel⟩
theorem iv_X5_home : Cond.instanceMethod yX5_home ∈ TBL ∧ Cond.selects RX5 yX5_home yX5_home ∈ TBL := ⟨tb_in 1323 (by decide +kernel) rfl, tb_in 1324 (by decide +kernel) rfl⟩
theorem ml_RL_152 : Cond.methodLink RL 152 yX4_print ∈ TBL := tb_in 445 (by decide +kernel) rfl
theorem mth_X4_print : Mth yX4_print cX4_print 4 (some .long) 0 := ⟨tb_in 448 (by decide +kernel) rfl, tb_in 1 (by decide +kernel) rfl, ⟨by decide +kernel, by decide +kernel⟩, by decide +kernel⟩
theorem iv_X4_print : Cond.instanceMethod yX4_print ∈ TBL ∧ Cond.selects RX4 yX4_print yX4_print ∈ TBL := ⟨tb_in 446 (by decide +kernel) rfl, tb_in 447 (by decide +kernel) rfl⟩
theorem ml_RL_156 : Cond.methodLink RL 156 yX5_print ∈ TBL := tb_in 1326 (by decide +kernel) rfl
theorem mth_X5_print : Mth yX5_print cX5_print 4 (some .long) 0 := ⟨tb_in 1329 (by decide +kernel) rfl, tb_in 7 (by decide +kernel) rfl, ⟨by decide +kernel, by decide +kernel⟩, by decide +kernel⟩
theorem iv_X5_print : Cond.instanceMethod yX5_print ∈ TBL ∧ Cond.selects RX5 yX5_print yX5_print ∈ TBL := ⟨tb_in 1327 (by decide +kernel) rfl, tb_in 1328 (by decide +kernel) rfl⟩
theorem ml_RL_157 : Cond.methodLink RL 157 yX4_status ∈ TBL := tb_in 451 (by decide +kernel) rfl
theorem mth_X4_status : Mth yX4_status cX4_status 2 (some .int) 1 := ⟨tb_in 454 (by decide +kernel) rfl, tb_in 1 (by decide +kernel) rfl, ⟨by decide +kernel, by decide +kernel⟩, by decide +kernel⟩
theorem iv_X4_status : Cond.instanceMethod yX4_status ∈ TBL ∧ Cond.selects RX4 yX4_status yX4_status ∈ TBL := ⟨tb_in 452 (by decide +kernel) rfl, tb_in 453 (by decide +kernel) rfl⟩
theorem ml_RL_160 : Cond.methodLink RL 160 yX5_status ∈ TBL := tb_in 1334 (by decide +kernel) rfl
theorem mth_X5_status : Mth yX5_status cX5_status 2 (some .int) 1 := ⟨tb_in 1337 (by decide +kernel) rfl, tb_in 7 (by decide +kernel) rfl, ⟨by decide +kernel, by decide +kernel⟩, by decide +kernel⟩
theorem iv_X5_status : Cond.instanceMethod yX5_status ∈ TBL ∧ Cond.selects RX5 yX5_status yX5_status ∈ TBL := ⟨tb_in 1335 (by decide +kernel) rfl, tb_in 1336 (by decide +kernel) rfl⟩
set_option maxHeartbeats 4000000 in
set_option maxRecDepth 20000 in
theorem l_feed {x : Cx} {d : Lb} {Q : State → Prop} (o : OkL x d cL_law 7 RL (some .boolean) room_1) (hfl : (xL x).stackTraces = false) {b L : Nat} {xs : Nat → Int32} (hT : va_T .int b L (fun j => .int (xs j)) (frL d) (xS x) (xS x).heap) {R : Sg → Sg → Prop} (hob : obl_feed R) {i : Int32} (hi : vp_in (i + 1) L ∧ vp_in (i + 2) L ∧ vp_in (i + 3) L ∧ vp_in (i + 4) L ∧ vp_in (i + 5) L) {σc σm : Sg} {v : Int64} (hr : R σc σm) {cs : Nat × Nat} (hro : cs.1 + 4 ≤ 601024 ∧ cs.2 + 24 ≤ 7293034)
    (kn : ∀ (σ' τ' : Sg) (v' : Int64), R σ' τ' → JP x (frL d) (LW d σ' τ' v') Q 1467 [(4, .int i), (3, .ref (dO d)), (2, .ref (wB (wM (dM d)) + 347)), (1, .ref (wB (wC (dC d)) + 0)), (0, .ref b)] [] (cs.1 + 4, cs.2 + 24)) : JP x (frL d) (LW d σc σm v) Q 148 [(4, .int i), (3, .ref (dO d)), (2, .ref (wB (wM (dM d)) + 347)), (1, .ref (wB (wC (dC d)) + 0)), (0, .ref b)] [] cs := by
  obtain ⟨hro1, hro2⟩ := hro
  refine JP_aload_n o.1 3 d_L_law_148 rfl ?_
  refine JP_aload_n o.1 4 d_L_law_149 rfl ?_
  refine JP_iload o.1 0 d_L_law_150 rfl ?_
  refine JP_iconst (v := 1) o.1 d_L_law_152 (by decide) ?_
  refine JP_iadd o.1 d_L_law_153 ?_
  refine JP_ald o.1 hT hi.1 d_L_law_154 ?_
  refine JP_aload_n o.1 4 d_L_law_155 rfl ?_
  refine JP_iload o.1 0 d_L_law_156 rfl ?_
  refine JP_iconst (v := 2) o.1 d_L_law_158 (by decide) ?_
  refine JP_iadd o.1 d_L_law_159 ?_
  refine JP_ald o.1 hT hi.2.1 d_L_law_160 ?_
  refine JP_aload_n o.1 4 d_L_law_161 rfl ?_
  refine JP_iload o.1 0 d_L_law_162 rfl ?_
  refine JP_iconst (v := 3) o.1 d_L_law_164 (by decide) ?_
  refine JP_iadd o.1 d_L_law_165 ?_
  refine JP_ald o.1 hT hi.2.2.1 d_L_law_166 ?_
  refine JP_aload_n o.1 4 d_L_law_167 rfl ?_
  refine JP_iload o.1 0 d_L_law_168 rfl ?_
  refine JP_iconst (v := 4) o.1 d_L_law_170 (by decide) ?_
  refine JP_iadd o.1 d_L_law_171 ?_
  refine JP_ald o.1 hT hi.2.2.2.1 d_L_law_172 ?_
  refine JP_aload_n o.1 4 d_L_law_173 rfl ?_
  refine JP_iload o.1 0 d_L_law_174 rfl ?_
  refine JP_iconst (v := 5) o.1 d_L_law_176 (by decide) ?_
  refine JP_iadd o.1 d_L_law_177 ?_
  refine JP_ald o.1 hT hi.2.2.2.2 d_L_law_178 ?_
  refine JL_callC o [.int (xs (i + 1).toNatClampNeg), .int (xs (i + 2).toNatClampNeg), .int (xs (i + 3).toNatClampNeg), .int (xs (i + 4).toNatClampNeg), .int (xs (i + 5).toNatClampNeg)] mth_X4_feed iv_X4_feed ml_RL_74 ⟨Nat.le_of_ble_eq_true rfl, Nat.le_of_ble_eq_true rfl⟩ rfl rfl (Nat.le_of_ble_eq_true rfl) ⟨(show cs.1 + 0 ≤ 601024 by omega), (show cs.2 + 0 ≤ 7293034 by omega)⟩ d_L_law_179 (w_X4_feed (xL x) (dC d) (hob _ _ _ _ _ _ _ hr)) (fun u t1 hu => ?_)
  obtain ⟨r1, hr1, hk⟩ := hu
  cases hr1
  refine JP_aload_n o.1 2 d_L_law_182 rfl ?_
  refine JP_aload_n o.1 4 d_L_law_183 rfl ?_
  refine JP_iload o.1 0 d_L_law_184 rfl ?_
  refine JP_iconst (v := 1) o.1 d_L_law_186 (by decide) ?_
  refine JP_iadd o.1 d_L_law_187 ?_
  refine JP_ald o.1 hT hi.1 d_L_law_188 ?_
  refine JP_aload_n o.1 4 d_L_law_189 rfl ?_
  refine JP_iload o.1 0 d_L_law_190 rfl ?_
  refine JP_iconst (v := 2) o.1 d_L_law_192 (by decide) ?_
  refine JP_iadd o.1 d_L_law_193 ?_
  refine JP_ald o.1 hT hi.2.1 d_L_law_194 ?_
  refine JP_aload_n o.1 4 d_L_law_195 rfl ?_
  refine JP_iload o.1 0 d_L_law_196 rfl ?_
  refine JP_iconst (v := 3) o.1 d_L_law_198 (by decide) ?_
  refine JP_iadd o.1 d_L_law_199 ?_
  refine JP_ald o.1 hT hi.2.2.1 d_L_law_200 ?_
  refine JP_aload_n o.1 4 d_L_law_201 rfl ?_
  refine JP_iload o.1 0 d_L_law_202 rfl ?_
  refine JP_iconst (v := 4) o.1 d_L_law_204 (by decide) ?_
  refine JP_iadd o.1 d_L_law_205 ?_
  refine JP_ald o.1 hT hi.2.2.2.1 d_L_law_206 ?_
  refine JP_aload_n o.1 4 d_L_law_207 rfl ?_
  refine JP_iload o.1 0 d_L_law_208 rfl ?_
  refine JP_iconst (v := 5) o.1 d_L_law_210 (by decide) ?_
  refine JP_iadd o.1 d_L_law_211 ?_
  refine JP_ald o.1 hT hi.2.2.2.2 d_L_law_212 ?_
  refine JL_callM o [.int (xs (i + 1).toNatClampNeg), .int (xs (i + 2).toNatClampNeg), .int (xs (i + 3).toNatClampNeg), .int (xs (i + 4).toNatClampNeg), .int (xs (i + 5).toNatClampNeg)] mth_X5_feed iv_X5_feed ml_RL_78 ⟨Nat.le_of_ble_eq_true rfl, Nat.le_of_ble_eq_true rfl⟩ rfl rfl (Nat.le_of_ble_eq_true rfl) ⟨(show cs.1 + 0 + 0 ≤ 601024 by omega), (show cs.2 + 0 + 0 ≤ 7293034 by omega)⟩ d_L_law_213 (w_X5_feed (xL x) (dM d) hk) (fun u t2 hu => ?_)
  obtain ⟨r2, hr2, hk⟩ := hu
  cases hr2
  refine JP_icmp_eq o.1 1467 d_L_law_216 (by decide) (fun _ => ?_) (fun hne => absurd hk.1 hne)
  exact JP_wide ⟨(show cs.1 + 0 + 0 ≤ cs.1 + 4 by omega), (show cs.2 + 0 + 0 ≤ cs.2 + 24 by omega)⟩ (kn _ _ _ hk.2)
set_option maxHeartbeats 4000000 in
set_option maxRecDepth 20000 in
theorem l_text {x : Cx} {d : Lb} {Q : State → Prop} (o : OkL x d cL_law 7 RL (some .boolean) room_1) (hfl : (xL x).stackTraces = false) {b L : Nat} {xs : Nat → Int32} (hT : va_T .int b L (fun j => .int (xs j)) (frL d) (xS x) (xS x).heap) {R : Sg → Sg → Prop} (hob : obl_text R) {i : Int32} (hi : vp_in (i + 1) L ∧ vp_in (i + 2) L ∧ vp_in (i + 3) L ∧ vp_in (i + 4) L ∧ vp_in (i + 5) L) {σc σm : Sg} {v : Int64} (hr : R σc σm) {cs : Nat × Nat} (hro : cs.1 + 4 ≤ 601024 ∧ cs.2 + 24 ≤ 7293034)
    (kn : ∀ (σ' τ' : Sg) (v' : Int64), R σ' τ' → JP x (frL d) (LW d σ' τ' v') Q 1467 [(4, .int i), (3, .ref (dO d)), (2, .ref (wB (wM (dM d)) + 347)), (1, .ref (wB (wC (dC d)) + 0)), (0, .ref b)] [] (cs.1 + 4, cs.2 + 24)) : JP x (frL d) (LW d σc σm v) Q 221 [(4, .int i), (3, .ref (dO d)), (2, .ref (wB (wM (dM d)) + 347)), (1, .ref (wB (wC (dC d)) + 0)), (0, .ref b)] [] cs := by
  obtain ⟨hro1, hro2⟩ := hro
  refine JP_aload_n o.1 3 d_L_law_221 rfl ?_
  refine JP_aload_n o.1 4 d_L_law_222 rfl ?_
  refine JP_iload o.1 0 d_L_law_223 rfl ?_
  refine JP_iconst (v := 1) o.1 d_L_law_225 (by decide) ?_
  refine JP_iadd o.1 d_L_law_226 ?_
  refine JP_ald o.1 hT hi.1 d_L_law_227 ?_
  refine JP_aload_n o.1 1 d_L_law_228 rfl ?_
  refine JL_callW o [.ref (wB (wC (dC d)) + 0), .int (xs (i + 1).toNatClampNeg), .ref (dO d)] mw_L_text st_L_text ml_RL_79 ⟨Nat.le_of_ble_eq_true rfl, Nat.le_of_ble_eq_true rfl⟩ rfl rfl (Nat.le_of_ble_eq_true rfl) ⟨(show cs.1 + 1 ≤ 601024 by omega), (show cs.2 + 6 ≤ 7293034 by omega)⟩ d_L_law_229 (w_L_text (xL x) hfl d o.2.2 (hob _ _ _ _ hr)) (fun k s1 v1 hk => ?_)
  refine JP_istore (lv' := [(5, .int k), (4, .int i), (3, .ref (dO d)), (2, .ref (wB (wM (dM d)) + 347)), (1, .ref (wB (wC (dC d)) + 0)), (0, .ref b)]) o.1 d_L_law_232 (by decide) rfl ?_
  refine JP_aload_n o.1 3 d_L_law_234 rfl ?_
  refine JP_aload_n o.1 5 d_L_law_235 rfl ?_
  refine JP_iload o.1 1 d_L_law_236 rfl ?_
  refine JP_iconst (v := 1) o.1 d_L_law_238 (by decide) ?_
  refine JP_iadd o.1 d_L_law_239 ?_
  refine JP_ald o.1 hT hi.1 d_L_law_240 ?_
  refine JL_callM o [.int (xs (i + 1).toNatClampNeg)] mth_X5_text iv_X5_text ml_RL_84 ⟨Nat.le_of_ble_eq_true rfl, Nat.le_of_ble_eq_true rfl⟩ rfl rfl (Nat.le_of_ble_eq_true rfl) ⟨(show cs.1 + 1 + 0 ≤ 601024 by omega), (show cs.2 + 6 + 0 ≤ 7293034 by omega)⟩ d_L_law_241 (w_X5_text (xL x) (dM d) hk) (fun u t1 hu => ?_)
  obtain ⟨r1, hr1, hk⟩ := hu
  cases hr1
  refine JP_istore (lv' := [(6, .int r1), (5, .int k), (4, .int i), (3, .ref (dO d)), (2, .ref (wB (wM (dM d)) + 347)), (1, .ref (wB (wC (dC d)) + 0)), (0, .ref b)]) o.1 d_L_law_244 (by decide) rfl ?_
  refine JP_aload_n o.1 4 d_L_law_246 rfl ?_
  refine JL_callM o [] mth_X5_thrown iv_X5_thrown ml_RL_85 ⟨Nat.le_of_ble_eq_true rfl, Nat.le_of_ble_eq_true rfl⟩ rfl rfl (Nat.le_of_ble_eq_true rfl) ⟨(show cs.1 + 1 + 0 + 0 ≤ 601024 by omega), (show cs.2 + 6 + 0 + 0 ≤ 7293034 by omega)⟩ d_L_law_247 (w_X5_thrown (xL x) (dM d) hk) (fun u t2 hu => ?_)
  obtain ⟨r2, hr2, hk⟩ := hu
  cases hr2
  refine JP_iload o.1 1 d_L_law_250 rfl ?_
  refine JP_icmp_eq o.1 257 d_L_law_252 (by decide) (fun _ => ?_) (fun hne => absurd hk.1 hne)
  refine JP_iload o.1 1 d_L_law_257 rfl ?_
  refine JP_if_ne o.1 274 d_L_law_259 (by decide) (fun _ => ?_) (fun hk0 => ?_)
  · skip
    refine JP_goto o.1 1467 d_L_law_274 (by decide) ?_
    refine JP_sub [2, 3, 4, 5, 6] rfl ?_
    exact JP_wide ⟨(show cs.1 + 1 + 0 + 0 ≤ cs.1 + 4 by omega), (show cs.2 + 6 + 0 + 0 ≤ cs.2 + 24 by omega)⟩ (kn _ _ _ hk.2.2)
  · skip
    refine JP_aload_n o.1 3 d_L_law_262 rfl ?_
    refine JP_iconst (v := 0) o.1 d_L_law_263 (by decide) ?_
    refine JL_lald o d_L_law_264 ?_
    refine JP_iload o.1 0 d_L_law_265 rfl ?_
    refine JP_i2l o.1 d_L_law_267 ?_
    refine JP_lcmp o.1 d_L_law_268 ?_
    refine JP_if_eq o.1 274 d_L_law_269 (by decide) (fun _ => ?_) (fun hne => absurd (by rw [hk.2.1 hk0]; exact lgc_self _) hne)
    refine JP_goto o.1 1467 d_L_law_274 (by decide) ?_
    refine JP_sub [2, 3, 4, 5, 6] rfl ?_
    exact JP_wide ⟨(show cs.1 + 1 + 0 + 0 ≤ cs.1 + 4 by omega), (show cs.2 + 6 + 0 + 0 ≤ cs.2 + 24 by omega)⟩ (kn _ _ _ hk.2.2)
set_option maxHeartbeats 4000000 in
set_option maxRecDepth 20000 in
theorem l_fault {x : Cx} {d : Lb} {Q : State → Prop} (o : OkL x d cL_law 7 RL (some .boolean) room_1) (hfl : (xL x).stackTraces = false) {b L : Nat} {xs : Nat → Int32} (hT : va_T .int b L (fun j => .int (xs j)) (frL d) (xS x) (xS x).heap) {R : Sg → Sg → Prop} (hob : obl_fault R) {i : Int32} (hi : vp_in (i + 1) L ∧ vp_in (i + 2) L ∧ vp_in (i + 3) L ∧ vp_in (i + 4) L ∧ vp_in (i + 5) L) {σc σm : Sg} {v : Int64} (hr : R σc σm) {cs : Nat × Nat} (hro : cs.1 + 4 ≤ 601024 ∧ cs.2 + 24 ≤ 7293034)
    (kn : ∀ (σ' τ' : Sg) (v' : Int64), R σ' τ' → JP x (frL d) (LW d σ' τ' v') Q 1467 [(4, .int i), (3, .ref (dO d)), (2, .ref (wB (wM (dM d)) + 347)), (1, .ref (wB (wC (dC d)) + 0)), (0, .ref b)] [] (cs.1 + 4, cs.2 + 24)) : JP x (frL d) (LW d σc σm v) Q 277 [(4, .int i), (3, .ref (dO d)), (2, .ref (wB (wM (dM d)) + 347)), (1, .ref (wB (wC (dC d)) + 0)), (0, .ref b)] [] cs := by
  obtain ⟨hro1, hro2⟩ := hro
  refine JP_aload_n o.1 3 d_L_law_277 rfl ?_
  refine JL_callC o [] mth_X4_fault iv_X4_fault ml_RL_89 ⟨Nat.le_of_ble_eq_true rfl, Nat.le_of_ble_eq_true rfl⟩ rfl rfl (Nat.le_of_ble_eq_true rfl) ⟨(show cs.1 + 0 ≤ 601024 by omega), (show cs.2 + 0 ≤ 7293034 by omega)⟩ d_L_law_278 (w_X4_fault (xL x) (dC d) (hob _ _ hr)) (fun u t1 hu => ?_)
  obtain ⟨r1, hr1, hk⟩ := hu
  cases hr1
  refine JP_aload_n o.1 2 d_L_law_281 rfl ?_
  refine JL_callM o [] mth_X5_fault iv_X5_fault ml_RL_92 ⟨Nat.le_of_ble_eq_true rfl, Nat.le_of_ble_eq_true rfl⟩ rfl rfl (Nat.le_of_ble_eq_true rfl) ⟨(show cs.1 + 0 + 0 ≤ 601024 by omega), (show cs.2 + 0 + 0 ≤ 7293034 by omega)⟩ d_L_law_282 (w_X5_fault (xL x) (dM d) hk) (fun u t2 hu => ?_)
  obtain ⟨r2, hr2, hk⟩ := hu
  cases hr2
  refine JP_icmp_eq o.1 1467 d_L_law_285 (by decide) (fun _ => ?_) (fun hne => absurd hk.1 hne)
  exact JP_wide ⟨(show cs.1 + 0 + 0 ≤ cs.1 + 4 by omega), (show cs.2 + 0 + 0 ≤ cs.2 + 24 by omega)⟩ (kn _ _ _ hk.2)
set_option maxHeartbeats 4000000 in
set_option maxRecDepth 20000 in
theorem l_hour {x : Cx} {d : Lb} {Q : State → Prop} (o : OkL x d cL_law 7 RL (some .boolean) room_1) (hfl : (xL x).stackTraces = false) {b L : Nat} {xs : Nat → Int32} (hT : va_T .int b L (fun j => .int (xs j)) (frL d) (xS x) (xS x).heap) {R : Sg → Sg → Prop} (hob : obl_hour R) {i : Int32} (hi : vp_in (i + 1) L ∧ vp_in (i + 2) L ∧ vp_in (i + 3) L ∧ vp_in (i + 4) L ∧ vp_in (i + 5) L) {σc σm : Sg} {v : Int64} (hr : R σc σm) {cs : Nat × Nat} (hro : cs.1 + 4 ≤ 601024 ∧ cs.2 + 24 ≤ 7293034)
    (kn : ∀ (σ' τ' : Sg) (v' : Int64), R σ' τ' → JP x (frL d) (LW d σ' τ' v') Q 1467 [(4, .int i), (3, .ref (dO d)), (2, .ref (wB (wM (dM d)) + 347)), (1, .ref (wB (wC (dC d)) + 0)), (0, .ref b)] [] (cs.1 + 4, cs.2 + 24)) : JP x (frL d) (LW d σc σm v) Q 290 [(4, .int i), (3, .ref (dO d)), (2, .ref (wB (wM (dM d)) + 347)), (1, .ref (wB (wC (dC d)) + 0)), (0, .ref b)] [] cs := by
  obtain ⟨hro1, hro2⟩ := hro
  refine JP_aload_n o.1 3 d_L_law_290 rfl ?_
  refine JP_aload_n o.1 4 d_L_law_291 rfl ?_
  refine JP_iload o.1 0 d_L_law_292 rfl ?_
  refine JP_iconst (v := 1) o.1 d_L_law_294 (by decide) ?_
  refine JP_iadd o.1 d_L_law_295 ?_
  refine JP_ald o.1 hT hi.1 d_L_law_296 ?_
  refine JP_aload_n o.1 4 d_L_law_297 rfl ?_
  refine JP_iload o.1 0 d_L_law_298 rfl ?_
  refine JP_iconst (v := 2) o.1 d_L_law_300 (by decide) ?_
  refine JP_iadd o.1 d_L_law_301 ?_
  refine JP_ald o.1 hT hi.2.1 d_L_law_302 ?_
  refine JP_aload_n o.1 4 d_L_law_303 rfl ?_
  refine JP_iload o.1 0 d_L_law_304 rfl ?_
  refine JP_iconst (v := 3) o.1 d_L_law_306 (by decide) ?_
  refine JP_iadd o.1 d_L_law_307 ?_
  refine JP_ald o.1 hT hi.2.2.1 d_L_law_308 ?_
  refine JP_aload_n o.1 1 d_L_law_309 rfl ?_
  refine JL_callW o [.ref (wB (wC (dC d)) + 0), .int (xs (i + 1).toNatClampNeg), .int (xs (i + 2).toNatClampNeg), .int (xs (i + 3).toNatClampNeg), .ref (dO d)] mw_L_hour st_L_hour ml_RL_93 ⟨Nat.le_of_ble_eq_true rfl, Nat.le_of_ble_eq_true rfl⟩ rfl rfl (Nat.le_of_ble_eq_true rfl) ⟨(show cs.1 + 3 ≤ 601024 by omega), (show cs.2 + 18 ≤ 7293034 by omega)⟩ d_L_law_310 (w_L_hour (xL x) hfl d o.2.2 (hob _ _ _ _ _ _ hr)) (fun k s1 v1 hk => ?_)
  refine JP_istore (lv' := [(5, .int k), (4, .int i), (3, .ref (dO d)), (2, .ref (wB (wM (dM d)) + 347)), (1, .ref (wB (wC (dC d)) + 0)), (0, .ref b)]) o.1 d_L_law_313 (by decide) rfl ?_
  refine JP_aload_n o.1 3 d_L_law_315 rfl ?_
  refine JP_aload_n o.1 5 d_L_law_316 rfl ?_
  refine JP_iload o.1 1 d_L_law_317 rfl ?_
  refine JP_iconst (v := 1) o.1 d_L_law_319 (by decide) ?_
  refine JP_iadd o.1 d_L_law_320 ?_
  refine JP_ald o.1 hT hi.1 d_L_law_321 ?_
  refine JP_aload_n o.1 5 d_L_law_322 rfl ?_
  refine JP_iload o.1 1 d_L_law_323 rfl ?_
  refine JP_iconst (v := 2) o.1 d_L_law_325 (by decide) ?_
  refine JP_iadd o.1 d_L_law_326 ?_
  refine JP_ald o.1 hT hi.2.1 d_L_law_327 ?_
  refine JP_aload_n o.1 5 d_L_law_328 rfl ?_
  refine JP_iload o.1 1 d_L_law_329 rfl ?_
  refine JP_iconst (v := 3) o.1 d_L_law_331 (by decide) ?_
  refine JP_iadd o.1 d_L_law_332 ?_
  refine JP_ald o.1 hT hi.2.2.1 d_L_law_333 ?_
  refine JL_callM o [.int (xs (i + 1).toNatClampNeg), .int (xs (i + 2).toNatClampNeg), .int (xs (i + 3).toNatClampNeg)] mth_X5_hour iv_X5_hour ml_RL_96 ⟨Nat.le_of_ble_eq_true rfl, Nat.le_of_ble_eq_true rfl⟩ rfl rfl (Nat.le_of_ble_eq_true rfl) ⟨(show cs.1 + 3 + 0 ≤ 601024 by omega), (show cs.2 + 18 + 0 ≤ 7293034 by omega)⟩ d_L_law_334 (w_X5_hour (xL x) (dM d) hk) (fun u t1 hu => ?_)
  obtain ⟨r1, hr1, hk⟩ := hu
  cases hr1
  refine JP_istore (lv' := [(6, .int r1), (5, .int k), (4, .int i), (3, .ref (dO d)), (2, .ref (wB (wM (dM d)) + 347)), (1, .ref (wB (wC (dC d)) + 0)), (0, .ref b)]) o.1 d_L_law_337 (by decide) rfl ?_
  refine JP_aload_n o.1 4 d_L_law_339 rfl ?_
  refine JL_callM o [] mth_X5_thrown iv_X5_thrown ml_RL_85 ⟨Nat.le_of_ble_eq_true rfl, Nat.le_of_ble_eq_true rfl⟩ rfl rfl (Nat.le_of_ble_eq_true rfl) ⟨(show cs.1 + 3 + 0 + 0 ≤ 601024 by omega), (show cs.2 + 18 + 0 + 0 ≤ 7293034 by omega)⟩ d_L_law_340 (w_X5_thrown (xL x) (dM d) hk) (fun u t2 hu => ?_)
  obtain ⟨r2, hr2, hk⟩ := hu
  cases hr2
  refine JP_iload o.1 1 d_L_law_343 rfl ?_
  refine JP_icmp_eq o.1 350 d_L_law_345 (by decide) (fun _ => ?_) (fun hne => absurd hk.1 hne)
  refine JP_iload o.1 1 d_L_law_350 rfl ?_
  refine JP_if_ne o.1 367 d_L_law_352 (by decide) (fun _ => ?_) (fun hk0 => ?_)
  · skip
    refine JP_goto o.1 1467 d_L_law_367 (by decide) ?_
    refine JP_sub [2, 3, 4, 5, 6] rfl ?_
    exact JP_wide ⟨(show cs.1 + 3 + 0 + 0 ≤ cs.1 + 4 by omega), (show cs.2 + 18 + 0 + 0 ≤ cs.2 + 24 by omega)⟩ (kn _ _ _ hk.2.2)
  · skip
    refine JP_aload_n o.1 3 d_L_law_355 rfl ?_
    refine JP_iconst (v := 0) o.1 d_L_law_356 (by decide) ?_
    refine JL_lald o d_L_law_357 ?_
    refine JP_iload o.1 0 d_L_law_358 rfl ?_
    refine JP_i2l o.1 d_L_law_360 ?_
    refine JP_lcmp o.1 d_L_law_361 ?_
    refine JP_if_eq o.1 367 d_L_law_362 (by decide) (fun _ => ?_) (fun hne => absurd (by rw [hk.2.1 hk0]; exact lgc_self _) hne)
    refine JP_goto o.1 1467 d_L_law_367 (by decide) ?_
    refine JP_sub [2, 3, 4, 5, 6] rfl ?_
    exact JP_wide ⟨(show cs.1 + 3 + 0 + 0 ≤ cs.1 + 4 by omega), (show cs.2 + 18 + 0 + 0 ≤ cs.2 + 24 by omega)⟩ (kn _ _ _ hk.2.2)
set_option maxHeartbeats 4000000 in
set_option maxRecDepth 20000 in
theorem l_fuel {x : Cx} {d : Lb} {Q : State → Prop} (o : OkL x d cL_law 7 RL (some .boolean) room_1) (hfl : (xL x).stackTraces = false) {b L : Nat} {xs : Nat → Int32} (hT : va_T .int b L (fun j => .int (xs j)) (frL d) (xS x) (xS x).heap) {R : Sg → Sg → Prop} (hob : obl_fuel R) {i : Int32} (hi : vp_in (i + 1) L ∧ vp_in (i + 2) L ∧ vp_in (i + 3) L ∧ vp_in (i + 4) L ∧ vp_in (i + 5) L) {σc σm : Sg} {v : Int64} (hr : R σc σm) {cs : Nat × Nat} (hro : cs.1 + 4 ≤ 601024 ∧ cs.2 + 24 ≤ 7293034)
    (kn : ∀ (σ' τ' : Sg) (v' : Int64), R σ' τ' → JP x (frL d) (LW d σ' τ' v') Q 1467 [(4, .int i), (3, .ref (dO d)), (2, .ref (wB (wM (dM d)) + 347)), (1, .ref (wB (wC (dC d)) + 0)), (0, .ref b)] [] (cs.1 + 4, cs.2 + 24)) : JP x (frL d) (LW d σc σm v) Q 370 [(4, .int i), (3, .ref (dO d)), (2, .ref (wB (wM (dM d)) + 347)), (1, .ref (wB (wC (dC d)) + 0)), (0, .ref b)] [] cs := by
  obtain ⟨hro1, hro2⟩ := hro
  refine JP_aload_n o.1 3 d_L_law_370 rfl ?_
  refine JP_aload_n o.1 4 d_L_law_371 rfl ?_
  refine JP_iload o.1 0 d_L_law_372 rfl ?_
  refine JP_iconst (v := 1) o.1 d_L_law_374 (by decide) ?_
  refine JP_iadd o.1 d_L_law_375 ?_
  refine JP_ald o.1 hT hi.1 d_L_law_376 ?_
  refine JP_aload_n o.1 4 d_L_law_377 rfl ?_
  refine JP_iload o.1 0 d_L_law_378 rfl ?_
  refine JP_iconst (v := 2) o.1 d_L_law_380 (by decide) ?_
  refine JP_iadd o.1 d_L_law_381 ?_
  refine JP_ald o.1 hT hi.2.1 d_L_law_382 ?_
  refine JP_aload_n o.1 1 d_L_law_383 rfl ?_
  refine JL_callW o [.ref (wB (wC (dC d)) + 0), .int (xs (i + 1).toNatClampNeg), .int (xs (i + 2).toNatClampNeg), .ref (dO d)] mw_L_fuel st_L_fuel ml_RL_97 ⟨Nat.le_of_ble_eq_true rfl, Nat.le_of_ble_eq_true rfl⟩ rfl rfl (Nat.le_of_ble_eq_true rfl) ⟨(show cs.1 + 2 ≤ 601024 by omega), (show cs.2 + 12 ≤ 7293034 by omega)⟩ d_L_law_384 (w_L_fuel (xL x) hfl d o.2.2 (hob _ _ _ _ _ hr)) (fun k s1 v1 hk => ?_)
  refine JP_istore (lv' := [(5, .int k), (4, .int i), (3, .ref (dO d)), (2, .ref (wB (wM (dM d)) + 347)), (1, .ref (wB (wC (dC d)) + 0)), (0, .ref b)]) o.1 d_L_law_387 (by decide) rfl ?_
  refine JP_aload_n o.1 3 d_L_law_389 rfl ?_
  refine JP_aload_n o.1 5 d_L_law_390 rfl ?_
  refine JP_iload o.1 1 d_L_law_391 rfl ?_
  refine JP_iconst (v := 1) o.1 d_L_law_393 (by decide) ?_
  refine JP_iadd o.1 d_L_law_394 ?_
  refine JP_ald o.1 hT hi.1 d_L_law_395 ?_
  refine JP_aload_n o.1 5 d_L_law_396 rfl ?_
  refine JP_iload o.1 1 d_L_law_397 rfl ?_
  refine JP_iconst (v := 2) o.1 d_L_law_399 (by decide) ?_
  refine JP_iadd o.1 d_L_law_400 ?_
  refine JP_ald o.1 hT hi.2.1 d_L_law_401 ?_
  refine JL_callM o [.int (xs (i + 1).toNatClampNeg), .int (xs (i + 2).toNatClampNeg)] mth_X5_fuel iv_X5_fuel ml_RL_100 ⟨Nat.le_of_ble_eq_true rfl, Nat.le_of_ble_eq_true rfl⟩ rfl rfl (Nat.le_of_ble_eq_true rfl) ⟨(show cs.1 + 2 + 0 ≤ 601024 by omega), (show cs.2 + 12 + 0 ≤ 7293034 by omega)⟩ d_L_law_402 (w_X5_fuel (xL x) (dM d) hk) (fun u t1 hu => ?_)
  obtain ⟨r1, hr1, hk⟩ := hu
  cases hr1
  refine JP_istore (lv' := [(6, .int r1), (5, .int k), (4, .int i), (3, .ref (dO d)), (2, .ref (wB (wM (dM d)) + 347)), (1, .ref (wB (wC (dC d)) + 0)), (0, .ref b)]) o.1 d_L_law_405 (by decide) rfl ?_
  refine JP_aload_n o.1 4 d_L_law_407 rfl ?_
  refine JL_callM o [] mth_X5_thrown iv_X5_thrown ml_RL_85 ⟨Nat.le_of_ble_eq_true rfl, Nat.le_of_ble_eq_true rfl⟩ rfl rfl (Nat.le_of_ble_eq_true rfl) ⟨(show cs.1 + 2 + 0 + 0 ≤ 601024 by omega), (show cs.2 + 12 + 0 + 0 ≤ 7293034 by omega)⟩ d_L_law_408 (w_X5_thrown (xL x) (dM d) hk) (fun u t2 hu => ?_)
  obtain ⟨r2, hr2, hk⟩ := hu
  cases hr2
  refine JP_iload o.1 1 d_L_law_411 rfl ?_
  refine JP_icmp_eq o.1 418 d_L_law_413 (by decide) (fun _ => ?_) (fun hne => absurd hk.1 hne)
  refine JP_iload o.1 1 d_L_law_418 rfl ?_
  refine JP_if_ne o.1 435 d_L_law_420 (by decide) (fun _ => ?_) (fun hk0 => ?_)
  · skip
    refine JP_goto o.1 1467 d_L_law_435 (by decide) ?_
    refine JP_sub [2, 3, 4, 5, 6] rfl ?_
    exact JP_wide ⟨(show cs.1 + 2 + 0 + 0 ≤ cs.1 + 4 by omega), (show cs.2 + 12 + 0 + 0 ≤ cs.2 + 24 by omega)⟩ (kn _ _ _ hk.2.2)
  · skip
    refine JP_aload_n o.1 3 d_L_law_423 rfl ?_
    refine JP_iconst (v := 0) o.1 d_L_law_424 (by decide) ?_
    refine JL_lald o d_L_law_425 ?_
    refine JP_iload o.1 0 d_L_law_426 rfl ?_
    refine JP_i2l o.1 d_L_law_428 ?_
    refine JP_lcmp o.1 d_L_law_429 ?_
    refine JP_if_eq o.1 435 d_L_law_430 (by decide) (fun _ => ?_) (fun hne => absurd (by rw [hk.2.1 hk0]; exact lgc_self _) hne)
    refine JP_goto o.1 1467 d_L_law_435 (by decide) ?_
    refine JP_sub [2, 3, 4, 5, 6] rfl ?_
    exact JP_wide ⟨(show cs.1 + 2 + 0 + 0 ≤ cs.1 + 4 by omega), (show cs.2 + 12 + 0 + 0 ≤ cs.2 + 24 by omega)⟩ (kn _ _ _ hk.2.2)
set_option maxHeartbeats 4000000 in
set_option maxRecDepth 20000 in
theorem l_wind {x : Cx} {d : Lb} {Q : State → Prop} (o : OkL x d cL_law 7 RL (some .boolean) room_1) (hfl : (xL x).stackTraces = false) {b L : Nat} {xs : Nat → Int32} (hT : va_T .int b L (fun j => .int (xs j)) (frL d) (xS x) (xS x).heap) {R : Sg → Sg → Prop} (hob : obl_wind R) {i : Int32} (hi : vp_in (i + 1) L ∧ vp_in (i + 2) L ∧ vp_in (i + 3) L ∧ vp_in (i + 4) L ∧ vp_in (i + 5) L) {σc σm : Sg} {v : Int64} (hr : R σc σm) {cs : Nat × Nat} (hro : cs.1 + 4 ≤ 601024 ∧ cs.2 + 24 ≤ 7293034)
    (kn : ∀ (σ' τ' : Sg) (v' : Int64), R σ' τ' → JP x (frL d) (LW d σ' τ' v') Q 1467 [(4, .int i), (3, .ref (dO d)), (2, .ref (wB (wM (dM d)) + 347)), (1, .ref (wB (wC (dC d)) + 0)), (0, .ref b)] [] (cs.1 + 4, cs.2 + 24)) : JP x (frL d) (LW d σc σm v) Q 438 [(4, .int i), (3, .ref (dO d)), (2, .ref (wB (wM (dM d)) + 347)), (1, .ref (wB (wC (dC d)) + 0)), (0, .ref b)] [] cs := by
  obtain ⟨hro1, hro2⟩ := hro
  refine JP_aload_n o.1 3 d_L_law_438 rfl ?_
  refine JP_aload_n o.1 4 d_L_law_439 rfl ?_
  refine JP_iload o.1 0 d_L_law_440 rfl ?_
  refine JP_iconst (v := 1) o.1 d_L_law_442 (by decide) ?_
  refine JP_iadd o.1 d_L_law_443 ?_
  refine JP_ald o.1 hT hi.1 d_L_law_444 ?_
  refine JP_aload_n o.1 4 d_L_law_445 rfl ?_
  refine JP_iload o.1 0 d_L_law_446 rfl ?_
  refine JP_iconst (v := 2) o.1 d_L_law_448 (by decide) ?_
  refine JP_iadd o.1 d_L_law_449 ?_
  refine JP_ald o.1 hT hi.2.1 d_L_law_450 ?_
  refine JP_aload_n o.1 1 d_L_law_451 rfl ?_
  refine JL_callW o [.ref (wB (wC (dC d)) + 0), .int (xs (i + 1).toNatClampNeg), .int (xs (i + 2).toNatClampNeg), .ref (dO d)] mw_L_wind st_L_wind ml_RL_101 ⟨Nat.le_of_ble_eq_true rfl, Nat.le_of_ble_eq_true rfl⟩ rfl rfl (Nat.le_of_ble_eq_true rfl) ⟨(show cs.1 + 1 ≤ 601024 by omega), (show cs.2 + 6 ≤ 7293034 by omega)⟩ d_L_law_452 (w_L_wind (xL x) hfl d o.2.2 (hob _ _ _ _ _ hr)) (fun k s1 v1 hk => ?_)
  refine JP_istore (lv' := [(5, .int k), (4, .int i), (3, .ref (dO d)), (2, .ref (wB (wM (dM d)) + 347)), (1, .ref (wB (wC (dC d)) + 0)), (0, .ref b)]) o.1 d_L_law_455 (by decide) rfl ?_
  refine JP_aload_n o.1 3 d_L_law_457 rfl ?_
  refine JP_aload_n o.1 5 d_L_law_458 rfl ?_
  refine JP_iload o.1 1 d_L_law_459 rfl ?_
  refine JP_iconst (v := 1) o.1 d_L_law_461 (by decide) ?_
  refine JP_iadd o.1 d_L_law_462 ?_
  refine JP_ald o.1 hT hi.1 d_L_law_463 ?_
  refine JP_aload_n o.1 5 d_L_law_464 rfl ?_
  refine JP_iload o.1 1 d_L_law_465 rfl ?_
  refine JP_iconst (v := 2) o.1 d_L_law_467 (by decide) ?_
  refine JP_iadd o.1 d_L_law_468 ?_
  refine JP_ald o.1 hT hi.2.1 d_L_law_469 ?_
  refine JL_callM o [.int (xs (i + 1).toNatClampNeg), .int (xs (i + 2).toNatClampNeg)] mth_X5_wind iv_X5_wind ml_RL_103 ⟨Nat.le_of_ble_eq_true rfl, Nat.le_of_ble_eq_true rfl⟩ rfl rfl (Nat.le_of_ble_eq_true rfl) ⟨(show cs.1 + 1 + 0 ≤ 601024 by omega), (show cs.2 + 6 + 0 ≤ 7293034 by omega)⟩ d_L_law_470 (w_X5_wind (xL x) (dM d) hk) (fun u t1 hu => ?_)
  obtain ⟨r1, hr1, hk⟩ := hu
  cases hr1
  refine JP_istore (lv' := [(6, .int r1), (5, .int k), (4, .int i), (3, .ref (dO d)), (2, .ref (wB (wM (dM d)) + 347)), (1, .ref (wB (wC (dC d)) + 0)), (0, .ref b)]) o.1 d_L_law_473 (by decide) rfl ?_
  refine JP_aload_n o.1 4 d_L_law_475 rfl ?_
  refine JL_callM o [] mth_X5_thrown iv_X5_thrown ml_RL_85 ⟨Nat.le_of_ble_eq_true rfl, Nat.le_of_ble_eq_true rfl⟩ rfl rfl (Nat.le_of_ble_eq_true rfl) ⟨(show cs.1 + 1 + 0 + 0 ≤ 601024 by omega), (show cs.2 + 6 + 0 + 0 ≤ 7293034 by omega)⟩ d_L_law_476 (w_X5_thrown (xL x) (dM d) hk) (fun u t2 hu => ?_)
  obtain ⟨r2, hr2, hk⟩ := hu
  cases hr2
  refine JP_iload o.1 1 d_L_law_479 rfl ?_
  refine JP_icmp_eq o.1 486 d_L_law_481 (by decide) (fun _ => ?_) (fun hne => absurd hk.1 hne)
  refine JP_iload o.1 1 d_L_law_486 rfl ?_
  refine JP_if_ne o.1 503 d_L_law_488 (by decide) (fun _ => ?_) (fun hk0 => ?_)
  · skip
    refine JP_goto o.1 1467 d_L_law_503 (by decide) ?_
    refine JP_sub [2, 3, 4, 5, 6] rfl ?_
    exact JP_wide ⟨(show cs.1 + 1 + 0 + 0 ≤ cs.1 + 4 by omega), (show cs.2 + 6 + 0 + 0 ≤ cs.2 + 24 by omega)⟩ (kn _ _ _ hk.2.2)
  · skip
    refine JP_aload_n o.1 3 d_L_law_491 rfl ?_
    refine JP_iconst (v := 0) o.1 d_L_law_492 (by decide) ?_
    refine JL_lald o d_L_law_493 ?_
    refine JP_iload o.1 0 d_L_law_494 rfl ?_
    refine JP_i2l o.1 d_L_law_496 ?_
    refine JP_lcmp o.1 d_L_law_497 ?_
    refine JP_if_eq o.1 503 d_L_law_498 (by decide) (fun _ => ?_) (fun hne => absurd (by rw [hk.2.1 hk0]; exact lgc_self _) hne)
    refine JP_goto o.1 1467 d_L_law_503 (by decide) ?_
    refine JP_sub [2, 3, 4, 5, 6] rfl ?_
    exact JP_wide ⟨(show cs.1 + 1 + 0 + 0 ≤ cs.1 + 4 by omega), (show cs.2 + 6 + 0 + 0 ≤ cs.2 + 24 by omega)⟩ (kn _ _ _ hk.2.2)
set_option maxHeartbeats 4000000 in
set_option maxRecDepth 20000 in
theorem l_undo {x : Cx} {d : Lb} {Q : State → Prop} (o : OkL x d cL_law 7 RL (some .boolean) room_1) (hfl : (xL x).stackTraces = false) {b L : Nat} {xs : Nat → Int32} (hT : va_T .int b L (fun j => .int (xs j)) (frL d) (xS x) (xS x).heap) {R : Sg → Sg → Prop} (hob : obl_undo R) {i : Int32} (hi : vp_in (i + 1) L ∧ vp_in (i + 2) L ∧ vp_in (i + 3) L ∧ vp_in (i + 4) L ∧ vp_in (i + 5) L) {σc σm : Sg} {v : Int64} (hr : R σc σm) {cs : Nat × Nat} (hro : cs.1 + 4 ≤ 601024 ∧ cs.2 + 24 ≤ 7293034)
    (kn : ∀ (σ' τ' : Sg) (v' : Int64), R σ' τ' → JP x (frL d) (LW d σ' τ' v') Q 1467 [(4, .int i), (3, .ref (dO d)), (2, .ref (wB (wM (dM d)) + 347)), (1, .ref (wB (wC (dC d)) + 0)), (0, .ref b)] [] (cs.1 + 4, cs.2 + 24)) : JP x (frL d) (LW d σc σm v) Q 506 [(4, .int i), (3, .ref (dO d)), (2, .ref (wB (wM (dM d)) + 347)), (1, .ref (wB (wC (dC d)) + 0)), (0, .ref b)] [] cs := by
  obtain ⟨hro1, hro2⟩ := hro
  refine JP_aload_n o.1 3 d_L_law_506 rfl ?_
  refine JL_callC o [] mth_X4_undo iv_X4_undo ml_RL_104 ⟨Nat.le_of_ble_eq_true rfl, Nat.le_of_ble_eq_true rfl⟩ rfl rfl (Nat.le_of_ble_eq_true rfl) ⟨(show cs.1 + 0 ≤ 601024 by omega), (show cs.2 + 0 ≤ 7293034 by omega)⟩ d_L_law_507 (w_X4_undo (xL x) (dC d) (hob _ _ hr)) (fun u t1 hu => ?_)
  obtain ⟨r1, hr1, hk⟩ := hu
  cases hr1
  refine JP_aload_n o.1 2 d_L_law_510 rfl ?_
  refine JL_callM o [] mth_X5_undo iv_X5_undo ml_RL_107 ⟨Nat.le_of_ble_eq_true rfl, Nat.le_of_ble_eq_true rfl⟩ rfl rfl (Nat.le_of_ble_eq_true rfl) ⟨(show cs.1 + 0 + 0 ≤ 601024 by omega), (show cs.2 + 0 + 0 ≤ 7293034 by omega)⟩ d_L_law_511 (w_X5_undo (xL x) (dM d) hk) (fun u t2 hu => ?_)
  obtain ⟨r2, hr2, hk⟩ := hu
  cases hr2
  refine JP_icmp_eq o.1 1467 d_L_law_514 (by decide) (fun _ => ?_) (fun hne => absurd hk.1 hne)
  exact JP_wide ⟨(show cs.1 + 0 + 0 ≤ cs.1 + 4 by omega), (show cs.2 + 0 + 0 ≤ cs.2 + 24 by omega)⟩ (kn _ _ _ hk.2)
set_option maxHeartbeats 4000000 in
set_option maxRecDepth 20000 in
theorem l_told {x : Cx} {d : Lb} {Q : State → Prop} (o : OkL x d cL_law 7 RL (some .boolean) room_1) (hfl : (xL x).stackTraces = false) {b L : Nat} {xs : Nat → Int32} (hT : va_T .int b L (fun j => .int (xs j)) (frL d) (xS x) (xS x).heap) {R : Sg → Sg → Prop} (hob : obl_told R) {i : Int32} (hi : vp_in (i + 1) L ∧ vp_in (i + 2) L ∧ vp_in (i + 3) L ∧ vp_in (i + 4) L ∧ vp_in (i + 5) L) {σc σm : Sg} {v : Int64} (hr : R σc σm) {cs : Nat × Nat} (hro : cs.1 + 4 ≤ 601024 ∧ cs.2 + 24 ≤ 7293034)
    (kn : ∀ (σ' τ' : Sg) (v' : Int64), R σ' τ' → JP x (frL d) (LW d σ' τ' v') Q 1467 [(4, .int i), (3, .ref (dO d)), (2, .ref (wB (wM (dM d)) + 347)), (1, .ref (wB (wC (dC d)) + 0)), (0, .ref b)] [] (cs.1 + 4, cs.2 + 24)) : JP x (frL d) (LW d σc σm v) Q 519 [(4, .int i), (3, .ref (dO d)), (2, .ref (wB (wM (dM d)) + 347)), (1, .ref (wB (wC (dC d)) + 0)), (0, .ref b)] [] cs := by
  obtain ⟨hro1, hro2⟩ := hro
  refine JP_aload_n o.1 3 d_L_law_519 rfl ?_
  refine JP_aload_n o.1 4 d_L_law_520 rfl ?_
  refine JP_iload o.1 0 d_L_law_521 rfl ?_
  refine JP_iconst (v := 1) o.1 d_L_law_523 (by decide) ?_
  refine JP_iadd o.1 d_L_law_524 ?_
  refine JP_ald o.1 hT hi.1 d_L_law_525 ?_
  refine JP_aload_n o.1 1 d_L_law_526 rfl ?_
  refine JL_callW o [.ref (wB (wC (dC d)) + 0), .int (xs (i + 1).toNatClampNeg), .ref (dO d)] mw_L_told st_L_told ml_RL_108 ⟨Nat.le_of_ble_eq_true rfl, Nat.le_of_ble_eq_true rfl⟩ rfl rfl (Nat.le_of_ble_eq_true rfl) ⟨(show cs.1 + 1 ≤ 601024 by omega), (show cs.2 + 6 ≤ 7293034 by omega)⟩ d_L_law_527 (w_L_told (xL x) hfl d o.2.2 (hob _ _ _ _ hr)) (fun k s1 v1 hk => ?_)
  refine JP_istore (lv' := [(5, .int k), (4, .int i), (3, .ref (dO d)), (2, .ref (wB (wM (dM d)) + 347)), (1, .ref (wB (wC (dC d)) + 0)), (0, .ref b)]) o.1 d_L_law_530 (by decide) rfl ?_
  refine JP_aload_n o.1 3 d_L_law_532 rfl ?_
  refine JP_aload_n o.1 5 d_L_law_533 rfl ?_
  refine JP_iload o.1 1 d_L_law_534 rfl ?_
  refine JP_iconst (v := 1) o.1 d_L_law_536 (by decide) ?_
  refine JP_iadd o.1 d_L_law_537 ?_
  refine JP_ald o.1 hT hi.1 d_L_law_538 ?_
  refine JL_callM o [.int (xs (i + 1).toNatClampNeg)] mth_X5_told iv_X5_told ml_RL_110 ⟨Nat.le_of_ble_eq_true rfl, Nat.le_of_ble_eq_true rfl⟩ rfl rfl (Nat.le_of_ble_eq_true rfl) ⟨(show cs.1 + 1 + 0 ≤ 601024 by omega), (show cs.2 + 6 + 0 ≤ 7293034 by omega)⟩ d_L_law_539 (w_X5_told (xL x) (dM d) hk) (fun u t1 hu => ?_)
  obtain ⟨r1, hr1, hk⟩ := hu
  cases hr1
  refine JP_istore (lv' := [(6, .int r1), (5, .int k), (4, .int i), (3, .ref (dO d)), (2, .ref (wB (wM (dM d)) + 347)), (1, .ref (wB (wC (dC d)) + 0)), (0, .ref b)]) o.1 d_L_law_542 (by decide) rfl ?_
  refine JP_aload_n o.1 4 d_L_law_544 rfl ?_
  refine JL_callM o [] mth_X5_thrown iv_X5_thrown ml_RL_85 ⟨Nat.le_of_ble_eq_true rfl, Nat.le_of_ble_eq_true rfl⟩ rfl rfl (Nat.le_of_ble_eq_true rfl) ⟨(show cs.1 + 1 + 0 + 0 ≤ 601024 by omega), (show cs.2 + 6 + 0 + 0 ≤ 7293034 by omega)⟩ d_L_law_545 (w_X5_thrown (xL x) (dM d) hk) (fun u t2 hu => ?_)
  obtain ⟨r2, hr2, hk⟩ := hu
  cases hr2
  refine JP_iload o.1 1 d_L_law_548 rfl ?_
  refine JP_icmp_eq o.1 555 d_L_law_550 (by decide) (fun _ => ?_) (fun hne => absurd hk.1 hne)
  refine JP_iload o.1 1 d_L_law_555 rfl ?_
  refine JP_if_ne o.1 572 d_L_law_557 (by decide) (fun _ => ?_) (fun hk0 => ?_)
  · skip
    refine JP_goto o.1 1467 d_L_law_572 (by decide) ?_
    refine JP_sub [2, 3, 4, 5, 6] rfl ?_
    exact JP_wide ⟨(show cs.1 + 1 + 0 + 0 ≤ cs.1 + 4 by omega), (show cs.2 + 6 + 0 + 0 ≤ cs.2 + 24 by omega)⟩ (kn _ _ _ hk.2.2)
  · skip
    refine JP_aload_n o.1 3 d_L_law_560 rfl ?_
    refine JP_iconst (v := 0) o.1 d_L_law_561 (by decide) ?_
    refine JL_lald o d_L_law_562 ?_
    refine JP_iload o.1 0 d_L_law_563 rfl ?_
    refine JP_i2l o.1 d_L_law_565 ?_
    refine JP_lcmp o.1 d_L_law_566 ?_
    refine JP_if_eq o.1 572 d_L_law_567 (by decide) (fun _ => ?_) (fun hne => absurd (by rw [hk.2.1 hk0]; exact lgc_self _) hne)
    refine JP_goto o.1 1467 d_L_law_572 (by decide) ?_
    refine JP_sub [2, 3, 4, 5, 6] rfl ?_
    exact JP_wide ⟨(show cs.1 + 1 + 0 + 0 ≤ cs.1 + 4 by omega), (show cs.2 + 6 + 0 + 0 ≤ cs.2 + 24 by omega)⟩ (kn _ _ _ hk.2.2)
set_option maxHeartbeats 4000000 in
set_option maxRecDepth 20000 in
theorem l_cell {x : Cx} {d : Lb} {Q : State → Prop} (o : OkL x d cL_law 7 RL (some .boolean) room_1) (hfl : (xL x).stackTraces = false) {b L : Nat} {xs : Nat → Int32} (hT : va_T .int b L (fun j => .int (xs j)) (frL d) (xS x) (xS x).heap) {R : Sg → Sg → Prop} (hob : obl_cell R) {i : Int32} (hi : vp_in (i + 1) L ∧ vp_in (i + 2) L ∧ vp_in (i + 3) L ∧ vp_in (i + 4) L ∧ vp_in (i + 5) L) {σc σm : Sg} {v : Int64} (hr : R σc σm) {cs : Nat × Nat} (hro : cs.1 + 4 ≤ 601024 ∧ cs.2 + 24 ≤ 7293034)
    (kn : ∀ (σ' τ' : Sg) (v' : Int64), R σ' τ' → JP x (frL d) (LW d σ' τ' v') Q 1467 [(4, .int i), (3, .ref (dO d)), (2, .ref (wB (wM (dM d)) + 347)), (1, .ref (wB (wC (dC d)) + 0)), (0, .ref b)] [] (cs.1 + 4, cs.2 + 24)) : JP x (frL d) (LW d σc σm v) Q 575 [(4, .int i), (3, .ref (dO d)), (2, .ref (wB (wM (dM d)) + 347)), (1, .ref (wB (wC (dC d)) + 0)), (0, .ref b)] [] cs := by
  obtain ⟨hro1, hro2⟩ := hro
  refine JP_aload_n o.1 3 d_L_law_575 rfl ?_
  refine JP_aload_n o.1 4 d_L_law_576 rfl ?_
  refine JP_iload o.1 0 d_L_law_577 rfl ?_
  refine JP_iconst (v := 1) o.1 d_L_law_579 (by decide) ?_
  refine JP_iadd o.1 d_L_law_580 ?_
  refine JP_ald o.1 hT hi.1 d_L_law_581 ?_
  refine JP_aload_n o.1 4 d_L_law_582 rfl ?_
  refine JP_iload o.1 0 d_L_law_583 rfl ?_
  refine JP_iconst (v := 2) o.1 d_L_law_585 (by decide) ?_
  refine JP_iadd o.1 d_L_law_586 ?_
  refine JP_ald o.1 hT hi.2.1 d_L_law_587 ?_
  refine JP_aload_n o.1 4 d_L_law_588 rfl ?_
  refine JP_iload o.1 0 d_L_law_589 rfl ?_
  refine JP_iconst (v := 3) o.1 d_L_law_591 (by decide) ?_
  refine JP_iadd o.1 d_L_law_592 ?_
  refine JP_ald o.1 hT hi.2.2.1 d_L_law_593 ?_
  refine JP_aload_n o.1 1 d_L_law_594 rfl ?_
  refine JL_callW o [.ref (wB (wC (dC d)) + 0), .int (xs (i + 1).toNatClampNeg), .int (xs (i + 2).toNatClampNeg), .int (xs (i + 3).toNatClampNeg), .ref (dO d)] mw_L_cell st_L_cell ml_RL_111 ⟨Nat.le_of_ble_eq_true rfl, Nat.le_of_ble_eq_true rfl⟩ rfl rfl (Nat.le_of_ble_eq_true rfl) ⟨(show cs.1 + 1 ≤ 601024 by omega), (show cs.2 + 6 ≤ 7293034 by omega)⟩ d_L_law_595 (w_L_cell (xL x) hfl d o.2.2 (hob _ _ _ _ _ _ hr)) (fun k s1 v1 hk => ?_)
  refine JP_istore (lv' := [(5, .int k), (4, .int i), (3, .ref (dO d)), (2, .ref (wB (wM (dM d)) + 347)), (1, .ref (wB (wC (dC d)) + 0)), (0, .ref b)]) o.1 d_L_law_598 (by decide) rfl ?_
  refine JP_aload_n o.1 3 d_L_law_600 rfl ?_
  refine JP_aload_n o.1 5 d_L_law_601 rfl ?_
  refine JP_iload o.1 1 d_L_law_602 rfl ?_
  refine JP_iconst (v := 1) o.1 d_L_law_604 (by decide) ?_
  refine JP_iadd o.1 d_L_law_605 ?_
  refine JP_ald o.1 hT hi.1 d_L_law_606 ?_
  refine JP_aload_n o.1 5 d_L_law_607 rfl ?_
  refine JP_iload o.1 1 d_L_law_608 rfl ?_
  refine JP_iconst (v := 2) o.1 d_L_law_610 (by decide) ?_
  refine JP_iadd o.1 d_L_law_611 ?_
  refine JP_ald o.1 hT hi.2.1 d_L_law_612 ?_
  refine JP_aload_n o.1 5 d_L_law_613 rfl ?_
  refine JP_iload o.1 1 d_L_law_614 rfl ?_
  refine JP_iconst (v := 3) o.1 d_L_law_616 (by decide) ?_
  refine JP_iadd o.1 d_L_law_617 ?_
  refine JP_ald o.1 hT hi.2.2.1 d_L_law_618 ?_
  refine JL_callM o [.int (xs (i + 1).toNatClampNeg), .int (xs (i + 2).toNatClampNeg), .int (xs (i + 3).toNatClampNeg)] mth_X5_cell iv_X5_cell ml_RL_113 ⟨Nat.le_of_ble_eq_true rfl, Nat.le_of_ble_eq_true rfl⟩ rfl rfl (Nat.le_of_ble_eq_true rfl) ⟨(show cs.1 + 1 + 0 ≤ 601024 by omega), (show cs.2 + 6 + 0 ≤ 7293034 by omega)⟩ d_L_law_619 (w_X5_cell (xL x) (dM d) hk) (fun u t1 hu => ?_)
  obtain ⟨r1, hr1, hk⟩ := hu
  cases hr1
  refine JP_istore (lv' := [(6, .int r1), (5, .int k), (4, .int i), (3, .ref (dO d)), (2, .ref (wB (wM (dM d)) + 347)), (1, .ref (wB (wC (dC d)) + 0)), (0, .ref b)]) o.1 d_L_law_622 (by decide) rfl ?_
  refine JP_aload_n o.1 4 d_L_law_624 rfl ?_
  refine JL_callM o [] mth_X5_thrown iv_X5_thrown ml_RL_85 ⟨Nat.le_of_ble_eq_true rfl, Nat.le_of_ble_eq_true rfl⟩ rfl rfl (Nat.le_of_ble_eq_true rfl) ⟨(show cs.1 + 1 + 0 + 0 ≤ 601024 by omega), (show cs.2 + 6 + 0 + 0 ≤ 7293034 by omega)⟩ d_L_law_625 (w_X5_thrown (xL x) (dM d) hk) (fun u t2 hu => ?_)
  obtain ⟨r2, hr2, hk⟩ := hu
  cases hr2
  refine JP_iload o.1 1 d_L_law_628 rfl ?_
  refine JP_icmp_eq o.1 635 d_L_law_630 (by decide) (fun _ => ?_) (fun hne => absurd hk.1 hne)
  refine JP_iload o.1 1 d_L_law_635 rfl ?_
  refine JP_if_ne o.1 652 d_L_law_637 (by decide) (fun _ => ?_) (fun hk0 => ?_)
  · skip
    refine JP_goto o.1 1467 d_L_law_652 (by decide) ?_
    refine JP_sub [2, 3, 4, 5, 6] rfl ?_
    exact JP_wide ⟨(show cs.1 + 1 + 0 + 0 ≤ cs.1 + 4 by omega), (show cs.2 + 6 + 0 + 0 ≤ cs.2 + 24 by omega)⟩ (kn _ _ _ hk.2.2)
  · skip
    refine JP_aload_n o.1 3 d_L_law_640 rfl ?_
    refine JP_iconst (v := 0) o.1 d_L_law_641 (by decide) ?_
    refine JL_lald o d_L_law_642 ?_
    refine JP_iload o.1 0 d_L_law_643 rfl ?_
    refine JP_i2l o.1 d_L_law_645 ?_
    refine JP_lcmp o.1 d_L_law_646 ?_
    refine JP_if_eq o.1 652 d_L_law_647 (by decide) (fun _ => ?_) (fun hne => absurd (by rw [hk.2.1 hk0]; exact lgc_self _) hne)
    refine JP_goto o.1 1467 d_L_law_652 (by decide) ?_
    refine JP_sub [2, 3, 4, 5, 6] rfl ?_
    exact JP_wide ⟨(show cs.1 + 1 + 0 + 0 ≤ cs.1 + 4 by omega), (show cs.2 + 6 + 0 + 0 ≤ cs.2 + 24 by omega)⟩ (kn _ _ _ hk.2.2)
set_option maxHeartbeats 4000000 in
set_option maxRecDepth 20000 in
theorem l_blows {x : Cx} {d : Lb} {Q : State → Prop} (o : OkL x d cL_law 7 RL (some .boolean) room_1) (hfl : (xL x).stackTraces = false) {b L : Nat} {xs : Nat → Int32} (hT : va_T .int b L (fun j => .int (xs j)) (frL d) (xS x) (xS x).heap) {R : Sg → Sg → Prop} (hob : obl_blows R) {i : Int32} (hi : vp_in (i + 1) L ∧ vp_in (i + 2) L ∧ vp_in (i + 3) L ∧ vp_in (i + 4) L ∧ vp_in (i + 5) L) {σc σm : Sg} {v : Int64} (hr : R σc σm) {cs : Nat × Nat} (hro : cs.1 + 4 ≤ 601024 ∧ cs.2 + 24 ≤ 7293034)
    (kn : ∀ (σ' τ' : Sg) (v' : Int64), R σ' τ' → JP x (frL d) (LW d σ' τ' v') Q 1467 [(4, .int i), (3, .ref (dO d)), (2, .ref (wB (wM (dM d)) + 347)), (1, .ref (wB (wC (dC d)) + 0)), (0, .ref b)] [] (cs.1 + 4, cs.2 + 24)) : JP x (frL d) (LW d σc σm v) Q 655 [(4, .int i), (3, .ref (dO d)), (2, .ref (wB (wM (dM d)) + 347)), (1, .ref (wB (wC (dC d)) + 0)), (0, .ref b)] [] cs := by
  obtain ⟨hro1, hro2⟩ := hro
  refine JP_aload_n o.1 3 d_L_law_655 rfl ?_
  refine JP_aload_n o.1 4 d_L_law_656 rfl ?_
  refine JP_iload o.1 0 d_L_law_657 rfl ?_
  refine JP_iconst (v := 1) o.1 d_L_law_659 (by decide) ?_
  refine JP_iadd o.1 d_L_law_660 ?_
  refine JP_ald o.1 hT hi.1 d_L_law_661 ?_
  refine JP_aload_n o.1 1 d_L_law_662 rfl ?_
  refine JL_callW o [.ref (wB (wC (dC d)) + 0), .int (xs (i + 1).toNatClampNeg), .ref (dO d)] mw_L_blows st_L_blows ml_RL_114 ⟨Nat.le_of_ble_eq_true rfl, Nat.le_of_ble_eq_true rfl⟩ rfl rfl (Nat.le_of_ble_eq_true rfl) ⟨(show cs.1 + 1 ≤ 601024 by omega), (show cs.2 + 6 ≤ 7293034 by omega)⟩ d_L_law_663 (w_L_blows (xL x) hfl d o.2.2 (hob _ _ _ _ hr)) (fun k s1 v1 hk => ?_)
  refine JP_istore (lv' := [(5, .int k), (4, .int i), (3, .ref (dO d)), (2, .ref (wB (wM (dM d)) + 347)), (1, .ref (wB (wC (dC d)) + 0)), (0, .ref b)]) o.1 d_L_law_666 (by decide) rfl ?_
  refine JP_aload_n o.1 3 d_L_law_668 rfl ?_
  refine JP_aload_n o.1 5 d_L_law_669 rfl ?_
  refine JP_iload o.1 1 d_L_law_670 rfl ?_
  refine JP_iconst (v := 1) o.1 d_L_law_672 (by decide) ?_
  refine JP_iadd o.1 d_L_law_673 ?_
  refine JP_ald o.1 hT hi.1 d_L_law_674 ?_
  refine JL_callM o [.int (xs (i + 1).toNatClampNeg)] mth_X5_blows iv_X5_blows ml_RL_116 ⟨Nat.le_of_ble_eq_true rfl, Nat.le_of_ble_eq_true rfl⟩ rfl rfl (Nat.le_of_ble_eq_true rfl) ⟨(show cs.1 + 1 + 0 ≤ 601024 by omega), (show cs.2 + 6 + 0 ≤ 7293034 by omega)⟩ d_L_law_675 (w_X5_blows (xL x) (dM d) hk) (fun u t1 hu => ?_)
  obtain ⟨r1, hr1, hk⟩ := hu
  cases hr1
  refine JP_istore (lv' := [(6, .int r1), (5, .int k), (4, .int i), (3, .ref (dO d)), (2, .ref (wB (wM (dM d)) + 347)), (1, .ref (wB (wC (dC d)) + 0)), (0, .ref b)]) o.1 d_L_law_678 (by decide) rfl ?_
  refine JP_aload_n o.1 4 d_L_law_680 rfl ?_
  refine JL_callM o [] mth_X5_thrown iv_X5_thrown ml_RL_85 ⟨Nat.le_of_ble_eq_true rfl, Nat.le_of_ble_eq_true rfl⟩ rfl rfl (Nat.le_of_ble_eq_true rfl) ⟨(show cs.1 + 1 + 0 + 0 ≤ 601024 by omega), (show cs.2 + 6 + 0 + 0 ≤ 7293034 by omega)⟩ d_L_law_681 (w_X5_thrown (xL x) (dM d) hk) (fun u t2 hu => ?_)
  obtain ⟨r2, hr2, hk⟩ := hu
  cases hr2
  refine JP_iload o.1 1 d_L_law_684 rfl ?_
  refine JP_icmp_eq o.1 691 d_L_law_686 (by decide) (fun _ => ?_) (fun hne => absurd hk.1 hne)
  refine JP_iload o.1 1 d_L_law_691 rfl ?_
  refine JP_if_ne o.1 708 d_L_law_693 (by decide) (fun _ => ?_) (fun hk0 => ?_)
  · skip
    refine JP_goto o.1 1467 d_L_law_708 (by decide) ?_
    refine JP_sub [2, 3, 4, 5, 6] rfl ?_
    exact JP_wide ⟨(show cs.1 + 1 + 0 + 0 ≤ cs.1 + 4 by omega), (show cs.2 + 6 + 0 + 0 ≤ cs.2 + 24 by omega)⟩ (kn _ _ _ hk.2.2)
  · skip
    refine JP_aload_n o.1 3 d_L_law_696 rfl ?_
    refine JP_iconst (v := 0) o.1 d_L_law_697 (by decide) ?_
    refine JL_lald o d_L_law_698 ?_
    refine JP_iload o.1 0 d_L_law_699 rfl ?_
    refine JP_i2l o.1 d_L_law_701 ?_
    refine JP_lcmp o.1 d_L_law_702 ?_
    refine JP_if_eq o.1 708 d_L_law_703 (by decide) (fun _ => ?_) (fun hne => absurd (by rw [hk.2.1 hk0]; exact lgc_self _) hne)
    refine JP_goto o.1 1467 d_L_law_708 (by decide) ?_
    refine JP_sub [2, 3, 4, 5, 6] rfl ?_
    exact JP_wide ⟨(show cs.1 + 1 + 0 + 0 ≤ cs.1 + 4 by omega), (show cs.2 + 6 + 0 + 0 ≤ cs.2 + 24 by omega)⟩ (kn _ _ _ hk.2.2)
set_option maxHeartbeats 4000000 in
set_option maxRecDepth 20000 in
theorem l_helper {x : Cx} {d : Lb} {Q : State → Prop} (o : OkL x d cL_law 7 RL (some .boolean) room_1) (hfl : (xL x).stackTraces = false) {b L : Nat} {xs : Nat → Int32} (hT : va_T .int b L (fun j => .int (xs j)) (frL d) (xS x) (xS x).heap) {R : Sg → Sg → Prop} (hob : obl_helper R) {i : Int32} (hi : vp_in (i + 1) L ∧ vp_in (i + 2) L ∧ vp_in (i + 3) L ∧ vp_in (i + 4) L ∧ vp_in (i + 5) L) {σc σm : Sg} {v : Int64} (hr : R σc σm) {cs : Nat × Nat} (hro : cs.1 + 4 ≤ 601024 ∧ cs.2 + 24 ≤ 7293034)
    (kn : ∀ (σ' τ' : Sg) (v' : Int64), R σ' τ' → JP x (frL d) (LW d σ' τ' v') Q 1467 [(4, .int i), (3, .ref (dO d)), (2, .ref (wB (wM (dM d)) + 347)), (1, .ref (wB (wC (dC d)) + 0)), (0, .ref b)] [] (cs.1 + 4, cs.2 + 24)) : JP x (frL d) (LW d σc σm v) Q 711 [(4, .int i), (3, .ref (dO d)), (2, .ref (wB (wM (dM d)) + 347)), (1, .ref (wB (wC (dC d)) + 0)), (0, .ref b)] [] cs := by
  obtain ⟨hro1, hro2⟩ := hro
  refine JP_aload_n o.1 3 d_L_law_711 rfl ?_
  refine JP_aload_n o.1 4 d_L_law_712 rfl ?_
  refine JP_iload o.1 0 d_L_law_713 rfl ?_
  refine JP_iconst (v := 1) o.1 d_L_law_715 (by decide) ?_
  refine JP_iadd o.1 d_L_law_716 ?_
  refine JP_ald o.1 hT hi.1 d_L_law_717 ?_
  refine JP_aload_n o.1 4 d_L_law_718 rfl ?_
  refine JP_iload o.1 0 d_L_law_719 rfl ?_
  refine JP_iconst (v := 2) o.1 d_L_law_721 (by decide) ?_
  refine JP_iadd o.1 d_L_law_722 ?_
  refine JP_ald o.1 hT hi.2.1 d_L_law_723 ?_
  refine JP_aload_n o.1 1 d_L_law_724 rfl ?_
  refine JL_callW o [.ref (wB (wC (dC d)) + 0), .int (xs (i + 1).toNatClampNeg), .int (xs (i + 2).toNatClampNeg), .ref (dO d)] mw_L_helper st_L_helper ml_RL_117 ⟨Nat.le_of_ble_eq_true rfl, Nat.le_of_ble_eq_true rfl⟩ rfl rfl (Nat.le_of_ble_eq_true rfl) ⟨(show cs.1 + 2 ≤ 601024 by omega), (show cs.2 + 12 ≤ 7293034 by omega)⟩ d_L_law_725 (w_L_helper (xL x) hfl d o.2.2 (hob _ _ _ _ _ hr)) (fun k s1 v1 hk => ?_)
  refine JP_istore (lv' := [(5, .int k), (4, .int i), (3, .ref (dO d)), (2, .ref (wB (wM (dM d)) + 347)), (1, .ref (wB (wC (dC d)) + 0)), (0, .ref b)]) o.1 d_L_law_728 (by decide) rfl ?_
  refine JP_aload_n o.1 3 d_L_law_730 rfl ?_
  refine JP_aload_n o.1 5 d_L_law_731 rfl ?_
  refine JP_iload o.1 1 d_L_law_732 rfl ?_
  refine JP_iconst (v := 1) o.1 d_L_law_734 (by decide) ?_
  refine JP_iadd o.1 d_L_law_735 ?_
  refine JP_ald o.1 hT hi.1 d_L_law_736 ?_
  refine JP_aload_n o.1 5 d_L_law_737 rfl ?_
  refine JP_iload o.1 1 d_L_law_738 rfl ?_
  refine JP_iconst (v := 2) o.1 d_L_law_740 (by decide) ?_
  refine JP_iadd o.1 d_L_law_741 ?_
  refine JP_ald o.1 hT hi.2.1 d_L_law_742 ?_
  refine JL_callM o [.int (xs (i + 1).toNatClampNeg), .int (xs (i + 2).toNatClampNeg)] mth_X5_helper iv_X5_helper ml_RL_119 ⟨Nat.le_of_ble_eq_true rfl, Nat.le_of_ble_eq_true rfl⟩ rfl rfl (Nat.le_of_ble_eq_true rfl) ⟨(show cs.1 + 2 + 0 ≤ 601024 by omega), (show cs.2 + 12 + 0 ≤ 7293034 by omega)⟩ d_L_law_743 (w_X5_helper (xL x) (dM d) hk) (fun u t1 hu => ?_)
  obtain ⟨r1, hr1, hk⟩ := hu
  cases hr1
  refine JP_istore (lv' := [(6, .int r1), (5, .int k), (4, .int i), (3, .ref (dO d)), (2, .ref (wB (wM (dM d)) + 347)), (1, .ref (wB (wC (dC d)) + 0)), (0, .ref b)]) o.1 d_L_law_746 (by decide) rfl ?_
  refine JP_aload_n o.1 4 d_L_law_748 rfl ?_
  refine JL_callM o [] mth_X5_thrown iv_X5_thrown ml_RL_85 ⟨Nat.le_of_ble_eq_true rfl, Nat.le_of_ble_eq_true rfl⟩ rfl rfl (Nat.le_of_ble_eq_true rfl) ⟨(show cs.1 + 2 + 0 + 0 ≤ 601024 by omega), (show cs.2 + 12 + 0 + 0 ≤ 7293034 by omega)⟩ d_L_law_749 (w_X5_thrown (xL x) (dM d) hk) (fun u t2 hu => ?_)
  obtain ⟨r2, hr2, hk⟩ := hu
  cases hr2
  refine JP_iload o.1 1 d_L_law_752 rfl ?_
  refine JP_icmp_eq o.1 759 d_L_law_754 (by decide) (fun _ => ?_) (fun hne => absurd hk.1 hne)
  refine JP_iload o.1 1 d_L_law_759 rfl ?_
  refine JP_if_ne o.1 776 d_L_law_761 (by decide) (fun _ => ?_) (fun hk0 => ?_)
  · skip
    refine JP_goto o.1 1467 d_L_law_776 (by decide) ?_
    refine JP_sub [2, 3, 4, 5, 6] rfl ?_
    exact JP_wide ⟨(show cs.1 + 2 + 0 + 0 ≤ cs.1 + 4 by omega), (show cs.2 + 12 + 0 + 0 ≤ cs.2 + 24 by omega)⟩ (kn _ _ _ hk.2.2)
  · skip
    refine JP_aload_n o.1 3 d_L_law_764 rfl ?_
    refine JP_iconst (v := 0) o.1 d_L_law_765 (by decide) ?_
    refine JL_lald o d_L_law_766 ?_
    refine JP_iload o.1 0 d_L_law_767 rfl ?_
    refine JP_i2l o.1 d_L_law_769 ?_
    refine JP_lcmp o.1 d_L_law_770 ?_
    refine JP_if_eq o.1 776 d_L_law_771 (by decide) (fun _ => ?_) (fun hne => absurd (by rw [hk.2.1 hk0]; exact lgc_self _) hne)
    refine JP_goto o.1 1467 d_L_law_776 (by decide) ?_
    refine JP_sub [2, 3, 4, 5, 6] rfl ?_
    exact JP_wide ⟨(show cs.1 + 2 + 0 + 0 ≤ cs.1 + 4 by omega), (show cs.2 + 12 + 0 + 0 ≤ cs.2 + 24 by omega)⟩ (kn _ _ _ hk.2.2)
set_option maxHeartbeats 4000000 in
set_option maxRecDepth 20000 in
theorem l_drift {x : Cx} {d : Lb} {Q : State → Prop} (o : OkL x d cL_law 7 RL (some .boolean) room_1) (hfl : (xL x).stackTraces = false) {b L : Nat} {xs : Nat → Int32} (hT : va_T .int b L (fun j => .int (xs j)) (frL d) (xS x) (xS x).heap) {R : Sg → Sg → Prop} (hob : obl_drift R) {i : Int32} (hi : vp_in (i + 1) L ∧ vp_in (i + 2) L ∧ vp_in (i + 3) L ∧ vp_in (i + 4) L ∧ vp_in (i + 5) L) {σc σm : Sg} {v : Int64} (hr : R σc σm) {cs : Nat × Nat} (hro : cs.1 + 4 ≤ 601024 ∧ cs.2 + 24 ≤ 7293034)
    (kn : ∀ (σ' τ' : Sg) (v' : Int64), R σ' τ' → JP x (frL d) (LW d σ' τ' v') Q 1467 [(4, .int i), (3, .ref (dO d)), (2, .ref (wB (wM (dM d)) + 347)), (1, .ref (wB (wC (dC d)) + 0)), (0, .ref b)] [] (cs.1 + 4, cs.2 + 24)) : JP x (frL d) (LW d σc σm v) Q 779 [(4, .int i), (3, .ref (dO d)), (2, .ref (wB (wM (dM d)) + 347)), (1, .ref (wB (wC (dC d)) + 0)), (0, .ref b)] [] cs := by
  obtain ⟨hro1, hro2⟩ := hro
  refine JP_aload_n o.1 3 d_L_law_779 rfl ?_
  refine JP_aload_n o.1 4 d_L_law_780 rfl ?_
  refine JP_iload o.1 0 d_L_law_781 rfl ?_
  refine JP_iconst (v := 1) o.1 d_L_law_783 (by decide) ?_
  refine JP_iadd o.1 d_L_law_784 ?_
  refine JP_ald o.1 hT hi.1 d_L_law_785 ?_
  refine JP_aload_n o.1 4 d_L_law_786 rfl ?_
  refine JP_iload o.1 0 d_L_law_787 rfl ?_
  refine JP_iconst (v := 2) o.1 d_L_law_789 (by decide) ?_
  refine JP_iadd o.1 d_L_law_790 ?_
  refine JP_ald o.1 hT hi.2.1 d_L_law_791 ?_
  refine JP_aload_n o.1 1 d_L_law_792 rfl ?_
  refine JL_callW o [.ref (wB (wC (dC d)) + 0), .int (xs (i + 1).toNatClampNeg), .int (xs (i + 2).toNatClampNeg), .ref (dO d)] mw_L_drift st_L_drift ml_RL_120 ⟨Nat.le_of_ble_eq_true rfl, Nat.le_of_ble_eq_true rfl⟩ rfl rfl (Nat.le_of_ble_eq_true rfl) ⟨(show cs.1 + 1 ≤ 601024 by omega), (show cs.2 + 6 ≤ 7293034 by omega)⟩ d_L_law_793 (w_L_drift (xL x) hfl d o.2.2 (hob _ _ _ _ _ hr)) (fun k s1 v1 hk => ?_)
  refine JP_istore (lv' := [(5, .int k), (4, .int i), (3, .ref (dO d)), (2, .ref (wB (wM (dM d)) + 347)), (1, .ref (wB (wC (dC d)) + 0)), (0, .ref b)]) o.1 d_L_law_796 (by decide) rfl ?_
  refine JP_aload_n o.1 3 d_L_law_798 rfl ?_
  refine JP_aload_n o.1 5 d_L_law_799 rfl ?_
  refine JP_iload o.1 1 d_L_law_800 rfl ?_
  refine JP_iconst (v := 1) o.1 d_L_law_802 (by decide) ?_
  refine JP_iadd o.1 d_L_law_803 ?_
  refine JP_ald o.1 hT hi.1 d_L_law_804 ?_
  refine JP_aload_n o.1 5 d_L_law_805 rfl ?_
  refine JP_iload o.1 1 d_L_law_806 rfl ?_
  refine JP_iconst (v := 2) o.1 d_L_law_808 (by decide) ?_
  refine JP_iadd o.1 d_L_law_809 ?_
  refine JP_ald o.1 hT hi.2.1 d_L_law_810 ?_
  refine JL_callM o [.int (xs (i + 1).toNatClampNeg), .int (xs (i + 2).toNatClampNeg)] mth_X5_drift iv_X5_drift ml_RL_122 ⟨Nat.le_of_ble_eq_true rfl, Nat.le_of_ble_eq_true rfl⟩ rfl rfl (Nat.le_of_ble_eq_true rfl) ⟨(show cs.1 + 1 + 0 ≤ 601024 by omega), (show cs.2 + 6 + 0 ≤ 7293034 by omega)⟩ d_L_law_811 (w_X5_drift (xL x) (dM d) hk) (fun u t1 hu => ?_)
  obtain ⟨r1, hr1, hk⟩ := hu
  cases hr1
  refine JP_istore (lv' := [(6, .int r1), (5, .int k), (4, .int i), (3, .ref (dO d)), (2, .ref (wB (wM (dM d)) + 347)), (1, .ref (wB (wC (dC d)) + 0)), (0, .ref b)]) o.1 d_L_law_814 (by decide) rfl ?_
  refine JP_aload_n o.1 4 d_L_law_816 rfl ?_
  refine JL_callM o [] mth_X5_thrown iv_X5_thrown ml_RL_85 ⟨Nat.le_of_ble_eq_true rfl, Nat.le_of_ble_eq_true rfl⟩ rfl rfl (Nat.le_of_ble_eq_true rfl) ⟨(show cs.1 + 1 + 0 + 0 ≤ 601024 by omega), (show cs.2 + 6 + 0 + 0 ≤ 7293034 by omega)⟩ d_L_law_817 (w_X5_thrown (xL x) (dM d) hk) (fun u t2 hu => ?_)
  obtain ⟨r2, hr2, hk⟩ := hu
  cases hr2
  refine JP_iload o.1 1 d_L_law_820 rfl ?_
  refine JP_icmp_eq o.1 827 d_L_law_822 (by decide) (fun _ => ?_) (fun hne => absurd hk.1 hne)
  refine JP_iload o.1 1 d_L_law_827 rfl ?_
  refine JP_if_ne o.1 844 d_L_law_829 (by decide) (fun _ => ?_) (fun hk0 => ?_)
  · skip
    refine JP_goto o.1 1467 d_L_law_844 (by decide) ?_
    refine JP_sub [2, 3, 4, 5, 6] rfl ?_
    exact JP_wide ⟨(show cs.1 + 1 + 0 + 0 ≤ cs.1 + 4 by omega), (show cs.2 + 6 + 0 + 0 ≤ cs.2 + 24 by omega)⟩ (kn _ _ _ hk.2.2)
  · skip
    refine JP_aload_n o.1 3 d_L_law_832 rfl ?_
    refine JP_iconst (v := 0) o.1 d_L_law_833 (by decide) ?_
    refine JL_lald o d_L_law_834 ?_
    refine JP_iload o.1 0 d_L_law_835 rfl ?_
    refine JP_i2l o.1 d_L_law_837 ?_
    refine JP_lcmp o.1 d_L_law_838 ?_
    refine JP_if_eq o.1 844 d_L_law_839 (by decide) (fun _ => ?_) (fun hne => absurd (by rw [hk.2.1 hk0]; exact lgc_self _) hne)
    refine JP_goto o.1 1467 d_L_law_844 (by decide) ?_
    refine JP_sub [2, 3, 4, 5, 6] rfl ?_
    exact JP_wide ⟨(show cs.1 + 1 + 0 + 0 ≤ cs.1 + 4 by omega), (show cs.2 + 6 + 0 + 0 ≤ cs.2 + 24 by omega)⟩ (kn _ _ _ hk.2.2)
set_option maxHeartbeats 4000000 in
set_option maxRecDepth 20000 in
theorem l_cost {x : Cx} {d : Lb} {Q : State → Prop} (o : OkL x d cL_law 7 RL (some .boolean) room_1) (hfl : (xL x).stackTraces = false) {b L : Nat} {xs : Nat → Int32} (hT : va_T .int b L (fun j => .int (xs j)) (frL d) (xS x) (xS x).heap) {R : Sg → Sg → Prop} (hob : obl_cost R) {i : Int32} (hi : vp_in (i + 1) L ∧ vp_in (i + 2) L ∧ vp_in (i + 3) L ∧ vp_in (i + 4) L ∧ vp_in (i + 5) L) {σc σm : Sg} {v : Int64} (hr : R σc σm) {cs : Nat × Nat} (hro : cs.1 + 4 ≤ 601024 ∧ cs.2 + 24 ≤ 7293034)
    (kn : ∀ (σ' τ' : Sg) (v' : Int64), R σ' τ' → JP x (frL d) (LW d σ' τ' v') Q 1467 [(4, .int i), (3, .ref (dO d)), (2, .ref (wB (wM (dM d)) + 347)), (1, .ref (wB (wC (dC d)) + 0)), (0, .ref b)] [] (cs.1 + 4, cs.2 + 24)) : JP x (frL d) (LW d σc σm v) Q 847 [(4, .int i), (3, .ref (dO d)), (2, .ref (wB (wM (dM d)) + 347)), (1, .ref (wB (wC (dC d)) + 0)), (0, .ref b)] [] cs := by
  obtain ⟨hro1, hro2⟩ := hro
  refine JP_aload_n o.1 3 d_L_law_847 rfl ?_
  refine JP_aload_n o.1 4 d_L_law_848 rfl ?_
  refine JP_iload o.1 0 d_L_law_849 rfl ?_
  refine JP_iconst (v := 1) o.1 d_L_law_851 (by decide) ?_
  refine JP_iadd o.1 d_L_law_852 ?_
  refine JP_ald o.1 hT hi.1 d_L_law_853 ?_
  refine JP_aload_n o.1 4 d_L_law_854 rfl ?_
  refine JP_iload o.1 0 d_L_law_855 rfl ?_
  refine JP_iconst (v := 2) o.1 d_L_law_857 (by decide) ?_
  refine JP_iadd o.1 d_L_law_858 ?_
  refine JP_ald o.1 hT hi.2.1 d_L_law_859 ?_
  refine JP_aload_n o.1 1 d_L_law_860 rfl ?_
  refine JL_callW o [.ref (wB (wC (dC d)) + 0), .int (xs (i + 1).toNatClampNeg), .int (xs (i + 2).toNatClampNeg), .ref (dO d)] mw_L_cost st_L_cost ml_RL_123 ⟨Nat.le_of_ble_eq_true rfl, Nat.le_of_ble_eq_true rfl⟩ rfl rfl (Nat.le_of_ble_eq_true rfl) ⟨(show cs.1 + 1 ≤ 601024 by omega), (show cs.2 + 6 ≤ 7293034 by omega)⟩ d_L_law_861 (w_L_cost (xL x) hfl d o.2.2 (hob _ _ _ _ _ hr)) (fun k s1 v1 hk => ?_)
  refine JP_istore (lv' := [(5, .int k), (4, .int i), (3, .ref (dO d)), (2, .ref (wB (wM (dM d)) + 347)), (1, .ref (wB (wC (dC d)) + 0)), (0, .ref b)]) o.1 d_L_law_864 (by decide) rfl ?_
  refine JP_aload_n o.1 3 d_L_law_866 rfl ?_
  refine JP_aload_n o.1 5 d_L_law_867 rfl ?_
  refine JP_iload o.1 1 d_L_law_868 rfl ?_
  refine JP_iconst (v := 1) o.1 d_L_law_870 (by decide) ?_
  refine JP_iadd o.1 d_L_law_871 ?_
  refine JP_ald o.1 hT hi.1 d_L_law_872 ?_
  refine JP_aload_n o.1 5 d_L_law_873 rfl ?_
  refine JP_iload o.1 1 d_L_law_874 rfl ?_
  refine JP_iconst (v := 2) o.1 d_L_law_876 (by decide) ?_
  refine JP_iadd o.1 d_L_law_877 ?_
  refine JP_ald o.1 hT hi.2.1 d_L_law_878 ?_
  refine JL_callM o [.int (xs (i + 1).toNatClampNeg), .int (xs (i + 2).toNatClampNeg)] mth_X5_cost iv_X5_cost ml_RL_125 ⟨Nat.le_of_ble_eq_true rfl, Nat.le_of_ble_eq_true rfl⟩ rfl rfl (Nat.le_of_ble_eq_true rfl) ⟨(show cs.1 + 1 + 0 ≤ 601024 by omega), (show cs.2 + 6 + 0 ≤ 7293034 by omega)⟩ d_L_law_879 (w_X5_cost (xL x) (dM d) hk) (fun u t1 hu => ?_)
  obtain ⟨r1, hr1, hk⟩ := hu
  cases hr1
  refine JP_istore (lv' := [(6, .int r1), (5, .int k), (4, .int i), (3, .ref (dO d)), (2, .ref (wB (wM (dM d)) + 347)), (1, .ref (wB (wC (dC d)) + 0)), (0, .ref b)]) o.1 d_L_law_882 (by decide) rfl ?_
  refine JP_aload_n o.1 4 d_L_law_884 rfl ?_
  refine JL_callM o [] mth_X5_thrown iv_X5_thrown ml_RL_85 ⟨Nat.le_of_ble_eq_true rfl, Nat.le_of_ble_eq_true rfl⟩ rfl rfl (Nat.le_of_ble_eq_true rfl) ⟨(show cs.1 + 1 + 0 + 0 ≤ 601024 by omega), (show cs.2 + 6 + 0 + 0 ≤ 7293034 by omega)⟩ d_L_law_885 (w_X5_thrown (xL x) (dM d) hk) (fun u t2 hu => ?_)
  obtain ⟨r2, hr2, hk⟩ := hu
  cases hr2
  refine JP_iload o.1 1 d_L_law_888 rfl ?_
  refine JP_icmp_eq o.1 895 d_L_law_890 (by decide) (fun _ => ?_) (fun hne => absurd hk.1 hne)
  refine JP_iload o.1 1 d_L_law_895 rfl ?_
  refine JP_if_ne o.1 912 d_L_law_897 (by decide) (fun _ => ?_) (fun hk0 => ?_)
  · skip
    refine JP_goto o.1 1467 d_L_law_912 (by decide) ?_
    refine JP_sub [2, 3, 4, 5, 6] rfl ?_
    exact JP_wide ⟨(show cs.1 + 1 + 0 + 0 ≤ cs.1 + 4 by omega), (show cs.2 + 6 + 0 + 0 ≤ cs.2 + 24 by omega)⟩ (kn _ _ _ hk.2.2)
  · skip
    refine JP_aload_n o.1 3 d_L_law_900 rfl ?_
    refine JP_iconst (v := 0) o.1 d_L_law_901 (by decide) ?_
    refine JL_lald o d_L_law_902 ?_
    refine JP_iload o.1 0 d_L_law_903 rfl ?_
    refine JP_i2l o.1 d_L_law_905 ?_
    refine JP_lcmp o.1 d_L_law_906 ?_
    refine JP_if_eq o.1 912 d_L_law_907 (by decide) (fun _ => ?_) (fun hne => absurd (by rw [hk.2.1 hk0]; exact lgc_self _) hne)
    refine JP_goto o.1 1467 d_L_law_912 (by decide) ?_
    refine JP_sub [2, 3, 4, 5, 6] rfl ?_
    exact JP_wide ⟨(show cs.1 + 1 + 0 + 0 ≤ cs.1 + 4 by omega), (show cs.2 + 6 + 0 + 0 ≤ cs.2 + 24 by omega)⟩ (kn _ _ _ hk.2.2)
set_option maxHeartbeats 4000000 in
set_option maxRecDepth 20000 in
theorem l_meet {x : Cx} {d : Lb} {Q : State → Prop} (o : OkL x d cL_law 7 RL (some .boolean) room_1) (hfl : (xL x).stackTraces = false) {b L : Nat} {xs : Nat → Int32} (hT : va_T .int b L (fun j => .int (xs j)) (frL d) (xS x) (xS x).heap) {R : Sg → Sg → Prop} (hob : obl_meet R) {i : Int32} (hi : vp_in (i + 1) L ∧ vp_in (i + 2) L ∧ vp_in (i + 3) L ∧ vp_in (i + 4) L ∧ vp_in (i + 5) L) {σc σm : Sg} {v : Int64} (hr : R σc σm) {cs : Nat × Nat} (hro : cs.1 + 4 ≤ 601024 ∧ cs.2 + 24 ≤ 7293034)
    (kn : ∀ (σ' τ' : Sg) (v' : Int64), R σ' τ' → JP x (frL d) (LW d σ' τ' v') Q 1467 [(4, .int i), (3, .ref (dO d)), (2, .ref (wB (wM (dM d)) + 347)), (1, .ref (wB (wC (dC d)) + 0)), (0, .ref b)] [] (cs.1 + 4, cs.2 + 24)) : JP x (frL d) (LW d σc σm v) Q 915 [(4, .int i), (3, .ref (dO d)), (2, .ref (wB (wM (dM d)) + 347)), (1, .ref (wB (wC (dC d)) + 0)), (0, .ref b)] [] cs := by
  obtain ⟨hro1, hro2⟩ := hro
  refine JP_aload_n o.1 3 d_L_law_915 rfl ?_
  refine JP_aload_n o.1 4 d_L_law_916 rfl ?_
  refine JP_iload o.1 0 d_L_law_917 rfl ?_
  refine JP_iconst (v := 1) o.1 d_L_law_919 (by decide) ?_
  refine JP_iadd o.1 d_L_law_920 ?_
  refine JP_ald o.1 hT hi.1 d_L_law_921 ?_
  refine JP_aload_n o.1 4 d_L_law_922 rfl ?_
  refine JP_iload o.1 0 d_L_law_923 rfl ?_
  refine JP_iconst (v := 2) o.1 d_L_law_925 (by decide) ?_
  refine JP_iadd o.1 d_L_law_926 ?_
  refine JP_ald o.1 hT hi.2.1 d_L_law_927 ?_
  refine JP_aload_n o.1 1 d_L_law_928 rfl ?_
  refine JL_callW o [.ref (wB (wC (dC d)) + 0), .int (xs (i + 1).toNatClampNeg), .int (xs (i + 2).toNatClampNeg), .ref (dO d)] mw_L_meet st_L_meet ml_RL_126 ⟨Nat.le_of_ble_eq_true rfl, Nat.le_of_ble_eq_true rfl⟩ rfl rfl (Nat.le_of_ble_eq_true rfl) ⟨(show cs.1 + 2 ≤ 601024 by omega), (show cs.2 + 12 ≤ 7293034 by omega)⟩ d_L_law_929 (w_L_meet (xL x) hfl d o.2.2 (hob _ _ _ _ _ hr)) (fun k s1 v1 hk => ?_)
  refine JP_istore (lv' := [(5, .int k), (4, .int i), (3, .ref (dO d)), (2, .ref (wB (wM (dM d)) + 347)), (1, .ref (wB (wC (dC d)) + 0)), (0, .ref b)]) o.1 d_L_law_932 (by decide) rfl ?_
  refine JP_aload_n o.1 3 d_L_law_934 rfl ?_
  refine JP_aload_n o.1 5 d_L_law_935 rfl ?_
  refine JP_iload o.1 1 d_L_law_936 rfl ?_
  refine JP_iconst (v := 1) o.1 d_L_law_938 (by decide) ?_
  refine JP_iadd o.1 d_L_law_939 ?_
  refine JP_ald o.1 hT hi.1 d_L_law_940 ?_
  refine JP_aload_n o.1 5 d_L_law_941 rfl ?_
  refine JP_iload o.1 1 d_L_law_942 rfl ?_
  refine JP_iconst (v := 2) o.1 d_L_law_944 (by decide) ?_
  refine JP_iadd o.1 d_L_law_945 ?_
  refine JP_ald o.1 hT hi.2.1 d_L_law_946 ?_
  refine JL_callM o [.int (xs (i + 1).toNatClampNeg), .int (xs (i + 2).toNatClampNeg)] mth_X5_meet iv_X5_meet ml_RL_128 ⟨Nat.le_of_ble_eq_true rfl, Nat.le_of_ble_eq_true rfl⟩ rfl rfl (Nat.le_of_ble_eq_true rfl) ⟨(show cs.1 + 2 + 0 ≤ 601024 by omega), (show cs.2 + 12 + 0 ≤ 7293034 by omega)⟩ d_L_law_947 (w_X5_meet (xL x) (dM d) hk) (fun u t1 hu => ?_)
  obtain ⟨r1, hr1, hk⟩ := hu
  cases hr1
  refine JP_istore (lv' := [(6, .int r1), (5, .int k), (4, .int i), (3, .ref (dO d)), (2, .ref (wB (wM (dM d)) + 347)), (1, .ref (wB (wC (dC d)) + 0)), (0, .ref b)]) o.1 d_L_law_950 (by decide) rfl ?_
  refine JP_aload_n o.1 4 d_L_law_952 rfl ?_
  refine JL_callM o [] mth_X5_thrown iv_X5_thrown ml_RL_85 ⟨Nat.le_of_ble_eq_true rfl, Nat.le_of_ble_eq_true rfl⟩ rfl rfl (Nat.le_of_ble_eq_true rfl) ⟨(show cs.1 + 2 + 0 + 0 ≤ 601024 by omega), (show cs.2 + 12 + 0 + 0 ≤ 7293034 by omega)⟩ d_L_law_953 (w_X5_thrown (xL x) (dM d) hk) (fun u t2 hu => ?_)
  obtain ⟨r2, hr2, hk⟩ := hu
  cases hr2
  refine JP_iload o.1 1 d_L_law_956 rfl ?_
  refine JP_icmp_eq o.1 963 d_L_law_958 (by decide) (fun _ => ?_) (fun hne => absurd hk.1 hne)
  refine JP_iload o.1 1 d_L_law_963 rfl ?_
  refine JP_if_ne o.1 980 d_L_law_965 (by decide) (fun _ => ?_) (fun hk0 => ?_)
  · skip
    refine JP_goto o.1 1467 d_L_law_980 (by decide) ?_
    refine JP_sub [2, 3, 4, 5, 6] rfl ?_
    exact JP_wide ⟨(show cs.1 + 2 + 0 + 0 ≤ cs.1 + 4 by omega), (show cs.2 + 12 + 0 + 0 ≤ cs.2 + 24 by omega)⟩ (kn _ _ _ hk.2.2)
  · skip
    refine JP_aload_n o.1 3 d_L_law_968 rfl ?_
    refine JP_iconst (v := 0) o.1 d_L_law_969 (by decide) ?_
    refine JL_lald o d_L_law_970 ?_
    refine JP_iload o.1 0 d_L_law_971 rfl ?_
    refine JP_i2l o.1 d_L_law_973 ?_
    refine JP_lcmp o.1 d_L_law_974 ?_
    refine JP_if_eq o.1 980 d_L_law_975 (by decide) (fun _ => ?_) (fun hne => absurd (by rw [hk.2.1 hk0]; exact lgc_self _) hne)
    refine JP_goto o.1 1467 d_L_law_980 (by decide) ?_
    refine JP_sub [2, 3, 4, 5, 6] rfl ?_
    exact JP_wide ⟨(show cs.1 + 2 + 0 + 0 ≤ cs.1 + 4 by omega), (show cs.2 + 12 + 0 + 0 ≤ cs.2 + 24 by omega)⟩ (kn _ _ _ hk.2.2)
set_option maxHeartbeats 4000000 in
set_option maxRecDepth 20000 in
theorem l_route {x : Cx} {d : Lb} {Q : State → Prop} (o : OkL x d cL_law 7 RL (some .boolean) room_1) (hfl : (xL x).stackTraces = false) {b L : Nat} {xs : Nat → Int32} (hT : va_T .int b L (fun j => .int (xs j)) (frL d) (xS x) (xS x).heap) {R : Sg → Sg → Prop} (hob : obl_route R) {i : Int32} (hi : vp_in (i + 1) L ∧ vp_in (i + 2) L ∧ vp_in (i + 3) L ∧ vp_in (i + 4) L ∧ vp_in (i + 5) L) {σc σm : Sg} {v : Int64} (hr : R σc σm) {cs : Nat × Nat} (hro : cs.1 + 4 ≤ 601024 ∧ cs.2 + 24 ≤ 7293034)
    (kn : ∀ (σ' τ' : Sg) (v' : Int64), R σ' τ' → JP x (frL d) (LW d σ' τ' v') Q 1467 [(4, .int i), (3, .ref (dO d)), (2, .ref (wB (wM (dM d)) + 347)), (1, .ref (wB (wC (dC d)) + 0)), (0, .ref b)] [] (cs.1 + 4, cs.2 + 24)) : JP x (frL d) (LW d σc σm v) Q 983 [(4, .int i), (3, .ref (dO d)), (2, .ref (wB (wM (dM d)) + 347)), (1, .ref (wB (wC (dC d)) + 0)), (0, .ref b)] [] cs := by
  obtain ⟨hro1, hro2⟩ := hro
  refine JP_aload_n o.1 3 d_L_law_983 rfl ?_
  refine JP_aload_n o.1 4 d_L_law_984 rfl ?_
  refine JP_iload o.1 0 d_L_law_985 rfl ?_
  refine JP_iconst (v := 1) o.1 d_L_law_987 (by decide) ?_
  refine JP_iadd o.1 d_L_law_988 ?_
  refine JP_ald o.1 hT hi.1 d_L_law_989 ?_
  refine JP_aload_n o.1 4 d_L_law_990 rfl ?_
  refine JP_iload o.1 0 d_L_law_991 rfl ?_
  refine JP_iconst (v := 2) o.1 d_L_law_993 (by decide) ?_
  refine JP_iadd o.1 d_L_law_994 ?_
  refine JP_ald o.1 hT hi.2.1 d_L_law_995 ?_
  refine JP_aload_n o.1 1 d_L_law_996 rfl ?_
  refine JL_callW o [.ref (wB (wC (dC d)) + 0), .int (xs (i + 1).toNatClampNeg), .int (xs (i + 2).toNatClampNeg), .ref (dO d)] mw_L_route st_L_route ml_RL_129 ⟨Nat.le_of_ble_eq_true rfl, Nat.le_of_ble_eq_true rfl⟩ rfl rfl (Nat.le_of_ble_eq_true rfl) ⟨(show cs.1 + 1 ≤ 601024 by omega), (show cs.2 + 6 ≤ 7293034 by omega)⟩ d_L_law_997 (w_L_route (xL x) hfl d o.2.2 (hob _ _ _ _ _ hr)) (fun k s1 v1 hk => ?_)
  refine JP_istore (lv' := [(5, .int k), (4, .int i), (3, .ref (dO d)), (2, .ref (wB (wM (dM d)) + 347)), (1, .ref (wB (wC (dC d)) + 0)), (0, .ref b)]) o.1 d_L_law_1000 (by decide) rfl ?_
  refine JP_aload_n o.1 3 d_L_law_1002 rfl ?_
  refine JP_aload_n o.1 5 d_L_law_1003 rfl ?_
  refine JP_iload o.1 1 d_L_law_1004 rfl ?_
  refine JP_iconst (v := 1) o.1 d_L_law_1006 (by decide) ?_
  refine JP_iadd o.1 d_L_law_1007 ?_
  refine JP_ald o.1 hT hi.1 d_L_law_1008 ?_
  refine JP_aload_n o.1 5 d_L_law_1009 rfl ?_
  refine JP_iload o.1 1 d_L_law_1010 rfl ?_
  refine JP_iconst (v := 2) o.1 d_L_law_1012 (by decide) ?_
  refine JP_iadd o.1 d_L_law_1013 ?_
  refine JP_ald o.1 hT hi.2.1 d_L_law_1014 ?_
  refine JL_callM o [.int (xs (i + 1).toNatClampNeg), .int (xs (i + 2).toNatClampNeg)] mth_X5_route iv_X5_route ml_RL_131 ⟨Nat.le_of_ble_eq_true rfl, Nat.le_of_ble_eq_true rfl⟩ rfl rfl (Nat.le_of_ble_eq_true rfl) ⟨(show cs.1 + 1 + 0 ≤ 601024 by omega), (show cs.2 + 6 + 0 ≤ 7293034 by omega)⟩ d_L_law_1015 (w_X5_route (xL x) (dM d) hk) (fun u t1 hu => ?_)
  obtain ⟨r1, hr1, hk⟩ := hu
  cases hr1
  refine JP_istore (lv' := [(6, .int r1), (5, .int k), (4, .int i), (3, .ref (dO d)), (2, .ref (wB (wM (dM d)) + 347)), (1, .ref (wB (wC (dC d)) + 0)), (0, .ref b)]) o.1 d_L_law_1018 (by decide) rfl ?_
  refine JP_aload_n o.1 4 d_L_law_1020 rfl ?_
  refine JL_callM o [] mth_X5_thrown iv_X5_thrown ml_RL_85 ⟨Nat.le_of_ble_eq_true rfl, Nat.le_of_ble_eq_true rfl⟩ rfl rfl (Nat.le_of_ble_eq_true rfl) ⟨(show cs.1 + 1 + 0 + 0 ≤ 601024 by omega), (show cs.2 + 6 + 0 + 0 ≤ 7293034 by omega)⟩ d_L_law_1021 (w_X5_thrown (xL x) (dM d) hk) (fun u t2 hu => ?_)
  obtain ⟨r2, hr2, hk⟩ := hu
  cases hr2
  refine JP_iload o.1 1 d_L_law_1024 rfl ?_
  refine JP_icmp_eq o.1 1031 d_L_law_1026 (by decide) (fun _ => ?_) (fun hne => absurd hk.1 hne)
  refine JP_iload o.1 1 d_L_law_1031 rfl ?_
  refine JP_if_ne o.1 1048 d_L_law_1033 (by decide) (fun _ => ?_) (fun hk0 => ?_)
  · skip
    refine JP_goto o.1 1467 d_L_law_1048 (by decide) ?_
    refine JP_sub [2, 3, 4, 5, 6] rfl ?_
    exact JP_wide ⟨(show cs.1 + 1 + 0 + 0 ≤ cs.1 + 4 by omega), (show cs.2 + 6 + 0 + 0 ≤ cs.2 + 24 by omega)⟩ (kn _ _ _ hk.2.2)
  · skip
    refine JP_aload_n o.1 3 d_L_law_1036 rfl ?_
    refine JP_iconst (v := 0) o.1 d_L_law_1037 (by decide) ?_
    refine JL_lald o d_L_law_1038 ?_
    refine JP_iload o.1 0 d_L_law_1039 rfl ?_
    refine JP_i2l o.1 d_L_law_1041 ?_
    refine JP_lcmp o.1 d_L_law_1042 ?_
    refine JP_if_eq o.1 1048 d_L_law_1043 (by decide) (fun _ => ?_) (fun hne => absurd (by rw [hk.2.1 hk0]; exact lgc_self _) hne)
    refine JP_goto o.1 1467 d_L_law_1048 (by decide) ?_
    refine JP_sub [2, 3, 4, 5, 6] rfl ?_
    exact JP_wide ⟨(show cs.1 + 1 + 0 + 0 ≤ cs.1 + 4 by omega), (show cs.2 + 6 + 0 + 0 ≤ cs.2 + 24 by omega)⟩ (kn _ _ _ hk.2.2)
set_option maxHeartbeats 4000000 in
set_option maxRecDepth 20000 in
theorem l_first {x : Cx} {d : Lb} {Q : State → Prop} (o : OkL x d cL_law 7 RL (some .boolean) room_1) (hfl : (xL x).stackTraces = false) {b L : Nat} {xs : Nat → Int32} (hT : va_T .int b L (fun j => .int (xs j)) (frL d) (xS x) (xS x).heap) {R : Sg → Sg → Prop} (hob : obl_first R) {i : Int32} (hi : vp_in (i + 1) L ∧ vp_in (i + 2) L ∧ vp_in (i + 3) L ∧ vp_in (i + 4) L ∧ vp_in (i + 5) L) {σc σm : Sg} {v : Int64} (hr : R σc σm) {cs : Nat × Nat} (hro : cs.1 + 4 ≤ 601024 ∧ cs.2 + 24 ≤ 7293034)
    (kn : ∀ (σ' τ' : Sg) (v' : Int64), R σ' τ' → JP x (frL d) (LW d σ' τ' v') Q 1467 [(4, .int i), (3, .ref (dO d)), (2, .ref (wB (wM (dM d)) + 347)), (1, .ref (wB (wC (dC d)) + 0)), (0, .ref b)] [] (cs.1 + 4, cs.2 + 24)) : JP x (frL d) (LW d σc σm v) Q 1051 [(4, .int i), (3, .ref (dO d)), (2, .ref (wB (wM (dM d)) + 347)), (1, .ref (wB (wC (dC d)) + 0)), (0, .ref b)] [] cs := by
  obtain ⟨hro1, hro2⟩ := hro
  refine JP_aload_n o.1 3 d_L_law_1051 rfl ?_
  refine JL_callC o [] mth_X4_first iv_X4_first ml_RL_132 ⟨Nat.le_of_ble_eq_true rfl, Nat.le_of_ble_eq_true rfl⟩ rfl rfl (Nat.le_of_ble_eq_true rfl) ⟨(show cs.1 + 0 ≤ 601024 by omega), (show cs.2 + 0 ≤ 7293034 by omega)⟩ d_L_law_1052 (w_X4_first (xL x) (dC d) (hob _ _ hr)) (fun u t1 hu => ?_)
  obtain ⟨r1, hr1, hk⟩ := hu
  cases hr1
  refine JP_aload_n o.1 2 d_L_law_1055 rfl ?_
  refine JL_callM o [] mth_X5_first iv_X5_first ml_RL_135 ⟨Nat.le_of_ble_eq_true rfl, Nat.le_of_ble_eq_true rfl⟩ rfl rfl (Nat.le_of_ble_eq_true rfl) ⟨(show cs.1 + 0 + 0 ≤ 601024 by omega), (show cs.2 + 0 + 0 ≤ 7293034 by omega)⟩ d_L_law_1056 (w_X5_first (xL x) (dM d) hk) (fun u t2 hu => ?_)
  obtain ⟨r2, hr2, hk⟩ := hu
  cases hr2
  refine JP_icmp_eq o.1 1467 d_L_law_1059 (by decide) (fun _ => ?_) (fun hne => absurd hk.1 hne)
  exact JP_wide ⟨(show cs.1 + 0 + 0 ≤ cs.1 + 4 by omega), (show cs.2 + 0 + 0 ≤ cs.2 + 24 by omega)⟩ (kn _ _ _ hk.2)
set_option maxHeartbeats 4000000 in
set_option maxRecDepth 20000 in
theorem l_least {x : Cx} {d : Lb} {Q : State → Prop} (o : OkL x d cL_law 7 RL (some .boolean) room_1) (hfl : (xL x).stackTraces = false) {b L : Nat} {xs : Nat → Int32} (hT : va_T .int b L (fun j => .int (xs j)) (frL d) (xS x) (xS x).heap) {R : Sg → Sg → Prop} (hob : obl_least R) {i : Int32} (hi : vp_in (i + 1) L ∧ vp_in (i + 2) L ∧ vp_in (i + 3) L ∧ vp_in (i + 4) L ∧ vp_in (i + 5) L) {σc σm : Sg} {v : Int64} (hr : R σc σm) {cs : Nat × Nat} (hro : cs.1 + 4 ≤ 601024 ∧ cs.2 + 24 ≤ 7293034)
    (kn : ∀ (σ' τ' : Sg) (v' : Int64), R σ' τ' → JP x (frL d) (LW d σ' τ' v') Q 1467 [(4, .int i), (3, .ref (dO d)), (2, .ref (wB (wM (dM d)) + 347)), (1, .ref (wB (wC (dC d)) + 0)), (0, .ref b)] [] (cs.1 + 4, cs.2 + 24)) : JP x (frL d) (LW d σc σm v) Q 1064 [(4, .int i), (3, .ref (dO d)), (2, .ref (wB (wM (dM d)) + 347)), (1, .ref (wB (wC (dC d)) + 0)), (0, .ref b)] [] cs := by
  obtain ⟨hro1, hro2⟩ := hro
  refine JP_aload_n o.1 3 d_L_law_1064 rfl ?_
  refine JP_aload_n o.1 4 d_L_law_1065 rfl ?_
  refine JP_iload o.1 0 d_L_law_1066 rfl ?_
  refine JP_iconst (v := 1) o.1 d_L_law_1068 (by decide) ?_
  refine JP_iadd o.1 d_L_law_1069 ?_
  refine JP_ald o.1 hT hi.1 d_L_law_1070 ?_
  refine JP_aload_n o.1 4 d_L_law_1071 rfl ?_
  refine JP_iload o.1 0 d_L_law_1072 rfl ?_
  refine JP_iconst (v := 2) o.1 d_L_law_1074 (by decide) ?_
  refine JP_iadd o.1 d_L_law_1075 ?_
  refine JP_ald o.1 hT hi.2.1 d_L_law_1076 ?_
  refine JP_aload_n o.1 1 d_L_law_1077 rfl ?_
  refine JL_callW o [.ref (wB (wC (dC d)) + 0), .int (xs (i + 1).toNatClampNeg), .int (xs (i + 2).toNatClampNeg), .ref (dO d)] mw_L_least st_L_least ml_RL_136 ⟨Nat.le_of_ble_eq_true rfl, Nat.le_of_ble_eq_true rfl⟩ rfl rfl (Nat.le_of_ble_eq_true rfl) ⟨(show cs.1 + 2 ≤ 601024 by omega), (show cs.2 + 12 ≤ 7293034 by omega)⟩ d_L_law_1078 (w_L_least (xL x) hfl d o.2.2 (hob _ _ _ _ _ hr)) (fun k s1 v1 hk => ?_)
  refine JP_istore (lv' := [(5, .int k), (4, .int i), (3, .ref (dO d)), (2, .ref (wB (wM (dM d)) + 347)), (1, .ref (wB (wC (dC d)) + 0)), (0, .ref b)]) o.1 d_L_law_1081 (by decide) rfl ?_
  refine JP_aload_n o.1 3 d_L_law_1083 rfl ?_
  refine JP_aload_n o.1 5 d_L_law_1084 rfl ?_
  refine JP_iload o.1 1 d_L_law_1085 rfl ?_
  refine JP_iconst (v := 1) o.1 d_L_law_1087 (by decide) ?_
  refine JP_iadd o.1 d_L_law_1088 ?_
  refine JP_ald o.1 hT hi.1 d_L_law_1089 ?_
  refine JP_aload_n o.1 5 d_L_law_1090 rfl ?_
  refine JP_iload o.1 1 d_L_law_1091 rfl ?_
  refine JP_iconst (v := 2) o.1 d_L_law_1093 (by decide) ?_
  refine JP_iadd o.1 d_L_law_1094 ?_
  refine JP_ald o.1 hT hi.2.1 d_L_law_1095 ?_
  refine JL_callM o [.int (xs (i + 1).toNatClampNeg), .int (xs (i + 2).toNatClampNeg)] mth_X5_least iv_X5_least ml_RL_138 ⟨Nat.le_of_ble_eq_true rfl, Nat.le_of_ble_eq_true rfl⟩ rfl rfl (Nat.le_of_ble_eq_true rfl) ⟨(show cs.1 + 2 + 0 ≤ 601024 by omega), (show cs.2 + 12 + 0 ≤ 7293034 by omega)⟩ d_L_law_1096 (w_X5_least (xL x) (dM d) hk) (fun u t1 hu => ?_)
  obtain ⟨r1, hr1, hk⟩ := hu
  cases hr1
  refine JP_istore (lv' := [(6, .int r1), (5, .int k), (4, .int i), (3, .ref (dO d)), (2, .ref (wB (wM (dM d)) + 347)), (1, .ref (wB (wC (dC d)) + 0)), (0, .ref b)]) o.1 d_L_law_1099 (by decide) rfl ?_
  refine JP_aload_n o.1 4 d_L_law_1101 rfl ?_
  refine JL_callM o [] mth_X5_thrown iv_X5_thrown ml_RL_85 ⟨Nat.le_of_ble_eq_true rfl, Nat.le_of_ble_eq_true rfl⟩ rfl rfl (Nat.le_of_ble_eq_true rfl) ⟨(show cs.1 + 2 + 0 + 0 ≤ 601024 by omega), (show cs.2 + 12 + 0 + 0 ≤ 7293034 by omega)⟩ d_L_law_1102 (w_X5_thrown (xL x) (dM d) hk) (fun u t2 hu => ?_)
  obtain ⟨r2, hr2, hk⟩ := hu
  cases hr2
  refine JP_iload o.1 1 d_L_law_1105 rfl ?_
  refine JP_icmp_eq o.1 1112 d_L_law_1107 (by decide) (fun _ => ?_) (fun hne => absurd hk.1 hne)
  refine JP_iload o.1 1 d_L_law_1112 rfl ?_
  refine JP_if_ne o.1 1129 d_L_law_1114 (by decide) (fun _ => ?_) (fun hk0 => ?_)
  · skip
    refine JP_goto o.1 1467 d_L_law_1129 (by decide) ?_
    refine JP_sub [2, 3, 4, 5, 6] rfl ?_
    exact JP_wide ⟨(show cs.1 + 2 + 0 + 0 ≤ cs.1 + 4 by omega), (show cs.2 + 12 + 0 + 0 ≤ cs.2 + 24 by omega)⟩ (kn _ _ _ hk.2.2)
  · skip
    refine JP_aload_n o.1 3 d_L_law_1117 rfl ?_
    refine JP_iconst (v := 0) o.1 d_L_law_1118 (by decide) ?_
    refine JL_lald o d_L_law_1119 ?_
    refine JP_iload o.1 0 d_L_law_1120 rfl ?_
    refine JP_i2l o.1 d_L_law_1122 ?_
    refine JP_lcmp o.1 d_L_law_1123 ?_
    refine JP_if_eq o.1 1129 d_L_law_1124 (by decide) (fun _ => ?_) (fun hne => absurd (by rw [hk.2.1 hk0]; exact lgc_self _) hne)
    refine JP_goto o.1 1467 d_L_law_1129 (by decide) ?_
    refine JP_sub [2, 3, 4, 5, 6] rfl ?_
    exact JP_wide ⟨(show cs.1 + 2 + 0 + 0 ≤ cs.1 + 4 by omega), (show cs.2 + 12 + 0 + 0 ≤ cs.2 + 24 by omega)⟩ (kn _ _ _ hk.2.2)
set_option maxHeartbeats 4000000 in
set_option maxRecDepth 20000 in
theorem l_reach {x : Cx} {d : Lb} {Q : State → Prop} (o : OkL x d cL_law 7 RL (some .boolean) room_1) (hfl : (xL x).stackTraces = false) {b L : Nat} {xs : Nat → Int32} (hT : va_T .int b L (fun j => .int (xs j)) (frL d) (xS x) (xS x).heap) {R : Sg → Sg → Prop} (hob : obl_reach R) {i : Int32} (hi : vp_in (i + 1) L ∧ vp_in (i + 2) L ∧ vp_in (i + 3) L ∧ vp_in (i + 4) L ∧ vp_in (i + 5) L) {σc σm : Sg} {v : Int64} (hr : R σc σm) {cs : Nat × Nat} (hro : cs.1 + 4 ≤ 601024 ∧ cs.2 + 24 ≤ 7293034)
    (kn : ∀ (σ' τ' : Sg) (v' : Int64), R σ' τ' → JP x (frL d) (LW d σ' τ' v') Q 1467 [(4, .int i), (3, .ref (dO d)), (2, .ref (wB (wM (dM d)) + 347)), (1, .ref (wB (wC (dC d)) + 0)), (0, .ref b)] [] (cs.1 + 4, cs.2 + 24)) : JP x (frL d) (LW d σc σm v) Q 1132 [(4, .int i), (3, .ref (dO d)), (2, .ref (wB (wM (dM d)) + 347)), (1, .ref (wB (wC (dC d)) + 0)), (0, .ref b)] [] cs := by
  obtain ⟨hro1, hro2⟩ := hro
  refine JP_aload_n o.1 3 d_L_law_1132 rfl ?_
  refine JP_aload_n o.1 4 d_L_law_1133 rfl ?_
  refine JP_iload o.1 0 d_L_law_1134 rfl ?_
  refine JP_iconst (v := 1) o.1 d_L_law_1136 (by decide) ?_
  refine JP_iadd o.1 d_L_law_1137 ?_
  refine JP_ald o.1 hT hi.1 d_L_law_1138 ?_
  refine JP_aload_n o.1 4 d_L_law_1139 rfl ?_
  refine JP_iload o.1 0 d_L_law_1140 rfl ?_
  refine JP_iconst (v := 2) o.1 d_L_law_1142 (by decide) ?_
  refine JP_iadd o.1 d_L_law_1143 ?_
  refine JP_ald o.1 hT hi.2.1 d_L_law_1144 ?_
  refine JP_aload_n o.1 1 d_L_law_1145 rfl ?_
  refine JL_callW o [.ref (wB (wC (dC d)) + 0), .int (xs (i + 1).toNatClampNeg), .int (xs (i + 2).toNatClampNeg), .ref (dO d)] mw_L_reach st_L_reach ml_RL_139 ⟨Nat.le_of_ble_eq_true rfl, Nat.le_of_ble_eq_true rfl⟩ rfl rfl (Nat.le_of_ble_eq_true rfl) ⟨(show cs.1 + 2 ≤ 601024 by omega), (show cs.2 + 12 ≤ 7293034 by omega)⟩ d_L_law_1146 (w_L_reach (xL x) hfl d o.2.2 (hob _ _ _ _ _ hr)) (fun k s1 v1 hk => ?_)
  refine JP_istore (lv' := [(5, .int k), (4, .int i), (3, .ref (dO d)), (2, .ref (wB (wM (dM d)) + 347)), (1, .ref (wB (wC (dC d)) + 0)), (0, .ref b)]) o.1 d_L_law_1149 (by decide) rfl ?_
  refine JP_aload_n o.1 3 d_L_law_1151 rfl ?_
  refine JP_aload_n o.1 5 d_L_law_1152 rfl ?_
  refine JP_iload o.1 1 d_L_law_1153 rfl ?_
  refine JP_iconst (v := 1) o.1 d_L_law_1155 (by decide) ?_
  refine JP_iadd o.1 d_L_law_1156 ?_
  refine JP_ald o.1 hT hi.1 d_L_law_1157 ?_
  refine JP_aload_n o.1 5 d_L_law_1158 rfl ?_
  refine JP_iload o.1 1 d_L_law_1159 rfl ?_
  refine JP_iconst (v := 2) o.1 d_L_law_1161 (by decide) ?_
  refine JP_iadd o.1 d_L_law_1162 ?_
  refine JP_ald o.1 hT hi.2.1 d_L_law_1163 ?_
  refine JL_callM o [.int (xs (i + 1).toNatClampNeg), .int (xs (i + 2).toNatClampNeg)] mth_X5_reach iv_X5_reach ml_RL_141 ⟨Nat.le_of_ble_eq_true rfl, Nat.le_of_ble_eq_true rfl⟩ rfl rfl (Nat.le_of_ble_eq_true rfl) ⟨(show cs.1 + 2 + 0 ≤ 601024 by omega), (show cs.2 + 12 + 0 ≤ 7293034 by omega)⟩ d_L_law_1164 (w_X5_reach (xL x) (dM d) hk) (fun u t1 hu => ?_)
  obtain ⟨r1, hr1, hk⟩ := hu
  cases hr1
  refine JP_istore (lv' := [(6, .int r1), (5, .int k), (4, .int i), (3, .ref (dO d)), (2, .ref (wB (wM (dM d)) + 347)), (1, .ref (wB (wC (dC d)) + 0)), (0, .ref b)]) o.1 d_L_law_1167 (by decide) rfl ?_
  refine JP_aload_n o.1 4 d_L_law_1169 rfl ?_
  refine JL_callM o [] mth_X5_thrown iv_X5_thrown ml_RL_85 ⟨Nat.le_of_ble_eq_true rfl, Nat.le_of_ble_eq_true rfl⟩ rfl rfl (Nat.le_of_ble_eq_true rfl) ⟨(show cs.1 + 2 + 0 + 0 ≤ 601024 by omega), (show cs.2 + 12 + 0 + 0 ≤ 7293034 by omega)⟩ d_L_law_1170 (w_X5_thrown (xL x) (dM d) hk) (fun u t2 hu => ?_)
  obtain ⟨r2, hr2, hk⟩ := hu
  cases hr2
  refine JP_iload o.1 1 d_L_law_1173 rfl ?_
  refine JP_icmp_eq o.1 1180 d_L_law_1175 (by decide) (fun _ => ?_) (fun hne => absurd hk.1 hne)
  refine JP_iload o.1 1 d_L_law_1180 rfl ?_
  refine JP_if_ne o.1 1197 d_L_law_1182 (by decide) (fun _ => ?_) (fun hk0 => ?_)
  · skip
    refine JP_goto o.1 1467 d_L_law_1197 (by decide) ?_
    refine JP_sub [2, 3, 4, 5, 6] rfl ?_
    exact JP_wide ⟨(show cs.1 + 2 + 0 + 0 ≤ cs.1 + 4 by omega), (show cs.2 + 12 + 0 + 0 ≤ cs.2 + 24 by omega)⟩ (kn _ _ _ hk.2.2)
  · skip
    refine JP_aload_n o.1 3 d_L_law_1185 rfl ?_
    refine JP_iconst (v := 0) o.1 d_L_law_1186 (by decide) ?_
    refine JL_lald o d_L_law_1187 ?_
    refine JP_iload o.1 0 d_L_law_1188 rfl ?_
    refine JP_i2l o.1 d_L_law_1190 ?_
    refine JP_lcmp o.1 d_L_law_1191 ?_
    refine JP_if_eq o.1 1197 d_L_law_1192 (by decide) (fun _ => ?_) (fun hne => absurd (by rw [hk.2.1 hk0]; exact lgc_self _) hne)
    refine JP_goto o.1 1467 d_L_law_1197 (by decide) ?_
    refine JP_sub [2, 3, 4, 5, 6] rfl ?_
    exact JP_wide ⟨(show cs.1 + 2 + 0 + 0 ≤ cs.1 + 4 by omega), (show cs.2 + 12 + 0 + 0 ≤ cs.2 + 24 by omega)⟩ (kn _ _ _ hk.2.2)
set_option maxHeartbeats 4000000 in
set_option maxRecDepth 20000 in
theorem l_most {x : Cx} {d : Lb} {Q : State → Prop} (o : OkL x d cL_law 7 RL (some .boolean) room_1) (hfl : (xL x).stackTraces = false) {b L : Nat} {xs : Nat → Int32} (hT : va_T .int b L (fun j => .int (xs j)) (frL d) (xS x) (xS x).heap) {R : Sg → Sg → Prop} (hob : obl_most R) {i : Int32} (hi : vp_in (i + 1) L ∧ vp_in (i + 2) L ∧ vp_in (i + 3) L ∧ vp_in (i + 4) L ∧ vp_in (i + 5) L) {σc σm : Sg} {v : Int64} (hr : R σc σm) {cs : Nat × Nat} (hro : cs.1 + 4 ≤ 601024 ∧ cs.2 + 24 ≤ 7293034)
    (kn : ∀ (σ' τ' : Sg) (v' : Int64), R σ' τ' → JP x (frL d) (LW d σ' τ' v') Q 1467 [(4, .int i), (3, .ref (dO d)), (2, .ref (wB (wM (dM d)) + 347)), (1, .ref (wB (wC (dC d)) + 0)), (0, .ref b)] [] (cs.1 + 4, cs.2 + 24)) : JP x (frL d) (LW d σc σm v) Q 1200 [(4, .int i), (3, .ref (dO d)), (2, .ref (wB (wM (dM d)) + 347)), (1, .ref (wB (wC (dC d)) + 0)), (0, .ref b)] [] cs := by
  obtain ⟨hro1, hro2⟩ := hro
  refine JP_aload_n o.1 3 d_L_law_1200 rfl ?_
  refine JP_aload_n o.1 4 d_L_law_1201 rfl ?_
  refine JP_iload o.1 0 d_L_law_1202 rfl ?_
  refine JP_iconst (v := 1) o.1 d_L_law_1204 (by decide) ?_
  refine JP_iadd o.1 d_L_law_1205 ?_
  refine JP_ald o.1 hT hi.1 d_L_law_1206 ?_
  refine JP_aload_n o.1 4 d_L_law_1207 rfl ?_
  refine JP_iload o.1 0 d_L_law_1208 rfl ?_
  refine JP_iconst (v := 2) o.1 d_L_law_1210 (by decide) ?_
  refine JP_iadd o.1 d_L_law_1211 ?_
  refine JP_ald o.1 hT hi.2.1 d_L_law_1212 ?_
  refine JP_aload_n o.1 4 d_L_law_1213 rfl ?_
  refine JP_iload o.1 0 d_L_law_1214 rfl ?_
  refine JP_iconst (v := 3) o.1 d_L_law_1216 (by decide) ?_
  refine JP_iadd o.1 d_L_law_1217 ?_
  refine JP_ald o.1 hT hi.2.2.1 d_L_law_1218 ?_
  refine JP_aload_n o.1 4 d_L_law_1219 rfl ?_
  refine JP_iload o.1 0 d_L_law_1220 rfl ?_
  refine JP_iconst (v := 4) o.1 d_L_law_1222 (by decide) ?_
  refine JP_iadd o.1 d_L_law_1223 ?_
  refine JP_ald o.1 hT hi.2.2.2.1 d_L_law_1224 ?_
  refine JP_aload_n o.1 1 d_L_law_1225 rfl ?_
  refine JL_callW o [.ref (wB (wC (dC d)) + 0), .int (xs (i + 1).toNatClampNeg), .int (xs (i + 2).toNatClampNeg), .int (xs (i + 3).toNatClampNeg), .int (xs (i + 4).toNatClampNeg), .ref (dO d)] mw_L_most st_L_most ml_RL_142 ⟨Nat.le_of_ble_eq_true rfl, Nat.le_of_ble_eq_true rfl⟩ rfl rfl (Nat.le_of_ble_eq_true rfl) ⟨(show cs.1 + 2 ≤ 601024 by omega), (show cs.2 + 12 ≤ 7293034 by omega)⟩ d_L_law_1226 (w_L_most (xL x) hfl d o.2.2 (hob _ _ _ _ _ _ _ hr)) (fun k s1 v1 hk => ?_)
  refine JP_istore (lv' := [(5, .int k), (4, .int i), (3, .ref (dO d)), (2, .ref (wB (wM (dM d)) + 347)), (1, .ref (wB (wC (dC d)) + 0)), (0, .ref b)]) o.1 d_L_law_1229 (by decide) rfl ?_
  refine JP_aload_n o.1 3 d_L_law_1231 rfl ?_
  refine JP_aload_n o.1 5 d_L_law_1232 rfl ?_
  refine JP_iload o.1 1 d_L_law_1233 rfl ?_
  refine JP_iconst (v := 1) o.1 d_L_law_1235 (by decide) ?_
  refine JP_iadd o.1 d_L_law_1236 ?_
  refine JP_ald o.1 hT hi.1 d_L_law_1237 ?_
  refine JP_aload_n o.1 5 d_L_law_1238 rfl ?_
  refine JP_iload o.1 1 d_L_law_1239 rfl ?_
  refine JP_iconst (v := 2) o.1 d_L_law_1241 (by decide) ?_
  refine JP_iadd o.1 d_L_law_1242 ?_
  refine JP_ald o.1 hT hi.2.1 d_L_law_1243 ?_
  refine JP_aload_n o.1 5 d_L_law_1244 rfl ?_
  refine JP_iload o.1 1 d_L_law_1245 rfl ?_
  refine JP_iconst (v := 3) o.1 d_L_law_1247 (by decide) ?_
  refine JP_iadd o.1 d_L_law_1248 ?_
  refine JP_ald o.1 hT hi.2.2.1 d_L_law_1249 ?_
  refine JP_aload_n o.1 5 d_L_law_1250 rfl ?_
  refine JP_iload o.1 1 d_L_law_1251 rfl ?_
  refine JP_iconst (v := 4) o.1 d_L_law_1253 (by decide) ?_
  refine JP_iadd o.1 d_L_law_1254 ?_
  refine JP_ald o.1 hT hi.2.2.2.1 d_L_law_1255 ?_
  refine JL_callM o [.int (xs (i + 1).toNatClampNeg), .int (xs (i + 2).toNatClampNeg), .int (xs (i + 3).toNatClampNeg), .int (xs (i + 4).toNatClampNeg)] mth_X5_most iv_X5_most ml_RL_145 ⟨Nat.le_of_ble_eq_true rfl, Nat.le_of_ble_eq_true rfl⟩ rfl rfl (Nat.le_of_ble_eq_true rfl) ⟨(show cs.1 + 2 + 0 ≤ 601024 by omega), (show cs.2 + 12 + 0 ≤ 7293034 by omega)⟩ d_L_law_1256 (w_X5_most (xL x) (dM d) hk) (fun u t1 hu => ?_)
  obtain ⟨r1, hr1, hk⟩ := hu
  cases hr1
  refine JP_istore (lv' := [(6, .int r1), (5, .int k), (4, .int i), (3, .ref (dO d)), (2, .ref (wB (wM (dM d)) + 347)), (1, .ref (wB (wC (dC d)) + 0)), (0, .ref b)]) o.1 d_L_law_1259 (by decide) rfl ?_
  refine JP_aload_n o.1 4 d_L_law_1261 rfl ?_
  refine JL_callM o [] mth_X5_thrown iv_X5_thrown ml_RL_85 ⟨Nat.le_of_ble_eq_true rfl, Nat.le_of_ble_eq_true rfl⟩ rfl rfl (Nat.le_of_ble_eq_true rfl) ⟨(show cs.1 + 2 + 0 + 0 ≤ 601024 by omega), (show cs.2 + 12 + 0 + 0 ≤ 7293034 by omega)⟩ d_L_law_1262 (w_X5_thrown (xL x) (dM d) hk) (fun u t2 hu => ?_)
  obtain ⟨r2, hr2, hk⟩ := hu
  cases hr2
  refine JP_iload o.1 1 d_L_law_1265 rfl ?_
  refine JP_icmp_eq o.1 1272 d_L_law_1267 (by decide) (fun _ => ?_) (fun hne => absurd hk.1 hne)
  refine JP_iload o.1 1 d_L_law_1272 rfl ?_
  refine JP_if_ne o.1 1289 d_L_law_1274 (by decide) (fun _ => ?_) (fun hk0 => ?_)
  · skip
    refine JP_goto o.1 1467 d_L_law_1289 (by decide) ?_
    refine JP_sub [2, 3, 4, 5, 6] rfl ?_
    exact JP_wide ⟨(show cs.1 + 2 + 0 + 0 ≤ cs.1 + 4 by omega), (show cs.2 + 12 + 0 + 0 ≤ cs.2 + 24 by omega)⟩ (kn _ _ _ hk.2.2)
  · skip
    refine JP_aload_n o.1 3 d_L_law_1277 rfl ?_
    refine JP_iconst (v := 0) o.1 d_L_law_1278 (by decide) ?_
    refine JL_lald o d_L_law_1279 ?_
    refine JP_iload o.1 0 d_L_law_1280 rfl ?_
    refine JP_i2l o.1 d_L_law_1282 ?_
    refine JP_lcmp o.1 d_L_law_1283 ?_
    refine JP_if_eq o.1 1289 d_L_law_1284 (by decide) (fun _ => ?_) (fun hne => absurd (by rw [hk.2.1 hk0]; exact lgc_self _) hne)
    refine JP_goto o.1 1467 d_L_law_1289 (by decide) ?_
    refine JP_sub [2, 3, 4, 5, 6] rfl ?_
    exact JP_wide ⟨(show cs.1 + 2 + 0 + 0 ≤ cs.1 + 4 by omega), (show cs.2 + 12 + 0 + 0 ≤ cs.2 + 24 by omega)⟩ (kn _ _ _ hk.2.2)
set_option maxHeartbeats 4000000 in
set_option maxRecDepth 20000 in
theorem l_relay {x : Cx} {d : Lb} {Q : State → Prop} (o : OkL x d cL_law 7 RL (some .boolean) room_1) (hfl : (xL x).stackTraces = false) {b L : Nat} {xs : Nat → Int32} (hT : va_T .int b L (fun j => .int (xs j)) (frL d) (xS x) (xS x).heap) {R : Sg → Sg → Prop} (hob : obl_relay R) {i : Int32} (hi : vp_in (i + 1) L ∧ vp_in (i + 2) L ∧ vp_in (i + 3) L ∧ vp_in (i + 4) L ∧ vp_in (i + 5) L) {σc σm : Sg} {v : Int64} (hr : R σc σm) {cs : Nat × Nat} (hro : cs.1 + 4 ≤ 601024 ∧ cs.2 + 24 ≤ 7293034)
    (kn : ∀ (σ' τ' : Sg) (v' : Int64), R σ' τ' → JP x (frL d) (LW d σ' τ' v') Q 1467 [(4, .int i), (3, .ref (dO d)), (2, .ref (wB (wM (dM d)) + 347)), (1, .ref (wB (wC (dC d)) + 0)), (0, .ref b)] [] (cs.1 + 4, cs.2 + 24)) : JP x (frL d) (LW d σc σm v) Q 1292 [(4, .int i), (3, .ref (dO d)), (2, .ref (wB (wM (dM d)) + 347)), (1, .ref (wB (wC (dC d)) + 0)), (0, .ref b)] [] cs := by
  obtain ⟨hro1, hro2⟩ := hro
  refine JP_aload_n o.1 3 d_L_law_1292 rfl ?_
  refine JP_aload_n o.1 4 d_L_law_1293 rfl ?_
  refine JP_iload o.1 0 d_L_law_1294 rfl ?_
  refine JP_iconst (v := 1) o.1 d_L_law_1296 (by decide) ?_
  refine JP_iadd o.1 d_L_law_1297 ?_
  refine JP_ald o.1 hT hi.1 d_L_law_1298 ?_
  refine JP_aload_n o.1 4 d_L_law_1299 rfl ?_
  refine JP_iload o.1 0 d_L_law_1300 rfl ?_
  refine JP_iconst (v := 2) o.1 d_L_law_1302 (by decide) ?_
  refine JP_iadd o.1 d_L_law_1303 ?_
  refine JP_ald o.1 hT hi.2.1 d_L_law_1304 ?_
  refine JP_aload_n o.1 1 d_L_law_1305 rfl ?_
  refine JL_callW o [.ref (wB (wC (dC d)) + 0), .int (xs (i + 1).toNatClampNeg), .int (xs (i + 2).toNatClampNeg), .ref (dO d)] mw_L_relay st_L_relay ml_RL_146 ⟨Nat.le_of_ble_eq_true rfl, Nat.le_of_ble_eq_true rfl⟩ rfl rfl (Nat.le_of_ble_eq_true rfl) ⟨(show cs.1 + 3 ≤ 601024 by omega), (show cs.2 + 18 ≤ 7293034 by omega)⟩ d_L_law_1306 (w_L_relay (xL x) hfl d o.2.2 (hob _ _ _ _ _ hr)) (fun k s1 v1 hk => ?_)
  refine JP_istore (lv' := [(5, .int k), (4, .int i), (3, .ref (dO d)), (2, .ref (wB (wM (dM d)) + 347)), (1, .ref (wB (wC (dC d)) + 0)), (0, .ref b)]) o.1 d_L_law_1309 (by decide) rfl ?_
  refine JP_aload_n o.1 3 d_L_law_1311 rfl ?_
  refine JP_aload_n o.1 5 d_L_law_1312 rfl ?_
  refine JP_iload o.1 1 d_L_law_1313 rfl ?_
  refine JP_iconst (v := 1) o.1 d_L_law_1315 (by decide) ?_
  refine JP_iadd o.1 d_L_law_1316 ?_
  refine JP_ald o.1 hT hi.1 d_L_law_1317 ?_
  refine JP_aload_n o.1 5 d_L_law_1318 rfl ?_
  refine JP_iload o.1 1 d_L_law_1319 rfl ?_
  refine JP_iconst (v := 2) o.1 d_L_law_1321 (by decide) ?_
  refine JP_iadd o.1 d_L_law_1322 ?_
  refine JP_ald o.1 hT hi.2.1 d_L_law_1323 ?_
  refine JL_callM o [.int (xs (i + 1).toNatClampNeg), .int (xs (i + 2).toNatClampNeg)] mth_X5_relay iv_X5_relay ml_RL_148 ⟨Nat.le_of_ble_eq_true rfl, Nat.le_of_ble_eq_true rfl⟩ rfl rfl (Nat.le_of_ble_eq_true rfl) ⟨(show cs.1 + 3 + 0 ≤ 601024 by omega), (show cs.2 + 18 + 0 ≤ 7293034 by omega)⟩ d_L_law_1324 (w_X5_relay (xL x) (dM d) hk) (fun u t1 hu => ?_)
  obtain ⟨r1, hr1, hk⟩ := hu
  cases hr1
  refine JP_istore (lv' := [(6, .int r1), (5, .int k), (4, .int i), (3, .ref (dO d)), (2, .ref (wB (wM (dM d)) + 347)), (1, .ref (wB (wC (dC d)) + 0)), (0, .ref b)]) o.1 d_L_law_1327 (by decide) rfl ?_
  refine JP_aload_n o.1 4 d_L_law_1329 rfl ?_
  refine JL_callM o [] mth_X5_thrown iv_X5_thrown ml_RL_85 ⟨Nat.le_of_ble_eq_true rfl, Nat.le_of_ble_eq_true rfl⟩ rfl rfl (Nat.le_of_ble_eq_true rfl) ⟨(show cs.1 + 3 + 0 + 0 ≤ 601024 by omega), (show cs.2 + 18 + 0 + 0 ≤ 7293034 by omega)⟩ d_L_law_1330 (w_X5_thrown (xL x) (dM d) hk) (fun u t2 hu => ?_)
  obtain ⟨r2, hr2, hk⟩ := hu
  cases hr2
  refine JP_iload o.1 1 d_L_law_1333 rfl ?_
  refine JP_icmp_eq o.1 1340 d_L_law_1335 (by decide) (fun _ => ?_) (fun hne => absurd hk.1 hne)
  refine JP_iload o.1 1 d_L_law_1340 rfl ?_
  refine JP_if_ne o.1 1357 d_L_law_1342 (by decide) (fun _ => ?_) (fun hk0 => ?_)
  · skip
    refine JP_goto o.1 1467 d_L_law_1357 (by decide) ?_
    refine JP_sub [2, 3, 4, 5, 6] rfl ?_
    exact JP_wide ⟨(show cs.1 + 3 + 0 + 0 ≤ cs.1 + 4 by omega), (show cs.2 + 18 + 0 + 0 ≤ cs.2 + 24 by omega)⟩ (kn _ _ _ hk.2.2)
  · skip
    refine JP_aload_n o.1 3 d_L_law_1345 rfl ?_
    refine JP_iconst (v := 0) o.1 d_L_law_1346 (by decide) ?_
    refine JL_lald o d_L_law_1347 ?_
    refine JP_iload o.1 0 d_L_law_1348 rfl ?_
    refine JP_i2l o.1 d_L_law_1350 ?_
    refine JP_lcmp o.1 d_L_law_1351 ?_
    refine JP_if_eq o.1 1357 d_L_law_1352 (by decide) (fun _ => ?_) (fun hne => absurd (by rw [hk.2.1 hk0]; exact lgc_self _) hne)
    refine JP_goto o.1 1467 d_L_law_1357 (by decide) ?_
    refine JP_sub [2, 3, 4, 5, 6] rfl ?_
    exact JP_wide ⟨(show cs.1 + 3 + 0 + 0 ≤ cs.1 + 4 by omega), (show cs.2 + 18 + 0 + 0 ≤ cs.2 + 24 by omega)⟩ (kn _ _ _ hk.2.2)
set_option maxHeartbeats 4000000 in
set_option maxRecDepth 20000 in
theorem l_home {x : Cx} {d : Lb} {Q : State → Prop} (o : OkL x d cL_law 7 RL (some .boolean) room_1) (hfl : (xL x).stackTraces = false) {b L : Nat} {xs : Nat → Int32} (hT : va_T .int b L (fun j => .int (xs j)) (frL d) (xS x) (xS x).heap) {R : Sg → Sg → Prop} (hob : obl_home R) {i : Int32} (hi : vp_in (i + 1) L ∧ vp_in (i + 2) L ∧ vp_in (i + 3) L ∧ vp_in (i + 4) L ∧ vp_in (i + 5) L) {σc σm : Sg} {v : Int64} (hr : R σc σm) {cs : Nat × Nat} (hro : cs.1 + 4 ≤ 601024 ∧ cs.2 + 24 ≤ 7293034)
    (kn : ∀ (σ' τ' : Sg) (v' : Int64), R σ' τ' → JP x (frL d) (LW d σ' τ' v') Q 1467 [(4, .int i), (3, .ref (dO d)), (2, .ref (wB (wM (dM d)) + 347)), (1, .ref (wB (wC (dC d)) + 0)), (0, .ref b)] [] (cs.1 + 4, cs.2 + 24)) : JP x (frL d) (LW d σc σm v) Q 1360 [(4, .int i), (3, .ref (dO d)), (2, .ref (wB (wM (dM d)) + 347)), (1, .ref (wB (wC (dC d)) + 0)), (0, .ref b)] [] cs := by
  obtain ⟨hro1, hro2⟩ := hro
  refine JP_aload_n o.1 3 d_L_law_1360 rfl ?_
  refine JP_aload_n o.1 4 d_L_law_1361 rfl ?_
  refine JP_iload o.1 0 d_L_law_1362 rfl ?_
  refine JP_iconst (v := 1) o.1 d_L_law_1364 (by decide) ?_
  refine JP_iadd o.1 d_L_law_1365 ?_
  refine JP_ald o.1 hT hi.1 d_L_law_1366 ?_
  refine JP_aload_n o.1 4 d_L_law_1367 rfl ?_
  refine JP_iload o.1 0 d_L_law_1368 rfl ?_
  refine JP_iconst (v := 2) o.1 d_L_law_1370 (by decide) ?_
  refine JP_iadd o.1 d_L_law_1371 ?_
  refine JP_ald o.1 hT hi.2.1 d_L_law_1372 ?_
  refine JP_aload_n o.1 1 d_L_law_1373 rfl ?_
  refine JL_callW o [.ref (wB (wC (dC d)) + 0), .int (xs (i + 1).toNatClampNeg), .int (xs (i + 2).toNatClampNeg), .ref (dO d)] mw_L_home st_L_home ml_RL_149 ⟨Nat.le_of_ble_eq_true rfl, Nat.le_of_ble_eq_true rfl⟩ rfl rfl (Nat.le_of_ble_eq_true rfl) ⟨(show cs.1 + 2 ≤ 601024 by omega), (show cs.2 + 12 ≤ 7293034 by omega)⟩ d_L_law_1374 (w_L_home (xL x) hfl d o.2.2 (hob _ _ _ _ _ hr)) (fun k s1 v1 hk => ?_)
  refine JP_istore (lv' := [(5, .int k), (4, .int i), (3, .ref (dO d)), (2, .ref (wB (wM (dM d)) + 347)), (1, .ref (wB (wC (dC d)) + 0)), (0, .ref b)]) o.1 d_L_law_1377 (by decide) rfl ?_
  refine JP_aload_n o.1 3 d_L_law_1379 rfl ?_
  refine JP_aload_n o.1 5 d_L_law_1380 rfl ?_
  refine JP_iload o.1 1 d_L_law_1381 rfl ?_
  refine JP_iconst (v := 1) o.1 d_L_law_1383 (by decide) ?_
  refine JP_iadd o.1 d_L_law_1384 ?_
  refine JP_ald o.1 hT hi.1 d_L_law_1385 ?_
  refine JP_aload_n o.1 5 d_L_law_1386 rfl ?_
  refine JP_iload o.1 1 d_L_law_1387 rfl ?_
  refine JP_iconst (v := 2) o.1 d_L_law_1389 (by decide) ?_
  refine JP_iadd o.1 d_L_law_1390 ?_
  refine JP_ald o.1 hT hi.2.1 d_L_law_1391 ?_
  refine JL_callM o [.int (xs (i + 1).toNatClampNeg), .int (xs (i + 2).toNatClampNeg)] mth_X5_home iv_X5_home ml_RL_151 ⟨Nat.le_of_ble_eq_true rfl, Nat.le_of_ble_eq_true rfl⟩ rfl rfl (Nat.le_of_ble_eq_true rfl) ⟨(show cs.1 + 2 + 0 ≤ 601024 by omega), (show cs.2 + 12 + 0 ≤ 7293034 by omega)⟩ d_L_law_1392 (w_X5_home (xL x) (dM d) hk) (fun u t1 hu => ?_)
  obtain ⟨r1, hr1, hk⟩ := hu
  cases hr1
  refine JP_istore (lv' := [(6, .int r1), (5, .int k), (4, .int i), (3, .ref (dO d)), (2, .ref (wB (wM (dM d)) + 347)), (1, .ref (wB (wC (dC d)) + 0)), (0, .ref b)]) o.1 d_L_law_1395 (by decide) rfl ?_
  refine JP_aload_n o.1 4 d_L_law_1397 rfl ?_
  refine JL_callM o [] mth_X5_thrown iv_X5_thrown ml_RL_85 ⟨Nat.le_of_ble_eq_true rfl, Nat.le_of_ble_eq_true rfl⟩ rfl rfl (Nat.le_of_ble_eq_true rfl) ⟨(show cs.1 + 2 + 0 + 0 ≤ 601024 by omega), (show cs.2 + 12 + 0 + 0 ≤ 7293034 by omega)⟩ d_L_law_1398 (w_X5_thrown (xL x) (dM d) hk) (fun u t2 hu => ?_)
  obtain ⟨r2, hr2, hk⟩ := hu
  cases hr2
  refine JP_iload o.1 1 d_L_law_1401 rfl ?_
  refine JP_icmp_eq o.1 1408 d_L_law_1403 (by decide) (fun _ => ?_) (fun hne => absurd hk.1 hne)
  refine JP_iload o.1 1 d_L_law_1408 rfl ?_
  refine JP_if_ne o.1 1425 d_L_law_1410 (by decide) (fun _ => ?_) (fun hk0 => ?_)
  · skip
    refine JP_goto o.1 1467 d_L_law_1425 (by decide) ?_
    refine JP_sub [2, 3, 4, 5, 6] rfl ?_
    exact JP_wide ⟨(show cs.1 + 2 + 0 + 0 ≤ cs.1 + 4 by omega), (show cs.2 + 12 + 0 + 0 ≤ cs.2 + 24 by omega)⟩ (kn _ _ _ hk.2.2)
  · skip
    refine JP_aload_n o.1 3 d_L_law_1413 rfl ?_
    refine JP_iconst (v := 0) o.1 d_L_law_1414 (by decide) ?_
    refine JL_lald o d_L_law_1415 ?_
    refine JP_iload o.1 0 d_L_law_1416 rfl ?_
    refine JP_i2l o.1 d_L_law_1418 ?_
    refine JP_lcmp o.1 d_L_law_1419 ?_
    refine JP_if_eq o.1 1425 d_L_law_1420 (by decide) (fun _ => ?_) (fun hne => absurd (by rw [hk.2.1 hk0]; exact lgc_self _) hne)
    refine JP_goto o.1 1467 d_L_law_1425 (by decide) ?_
    refine JP_sub [2, 3, 4, 5, 6] rfl ?_
    exact JP_wide ⟨(show cs.1 + 2 + 0 + 0 ≤ cs.1 + 4 by omega), (show cs.2 + 12 + 0 + 0 ≤ cs.2 + 24 by omega)⟩ (kn _ _ _ hk.2.2)
set_option maxHeartbeats 4000000 in
set_option maxRecDepth 20000 in
theorem l_print {x : Cx} {d : Lb} {Q : State → Prop} (o : OkL x d cL_law 7 RL (some .boolean) room_1) (hfl : (xL x).stackTraces = false) {b L : Nat} {xs : Nat → Int32} (hT : va_T .int b L (fun j => .int (xs j)) (frL d) (xS x) (xS x).heap) {R : Sg → Sg → Prop} (hob : obl_print R) {i : Int32} (hi : vp_in (i + 1) L ∧ vp_in (i + 2) L ∧ vp_in (i + 3) L ∧ vp_in (i + 4) L ∧ vp_in (i + 5) L) {σc σm : Sg} {v : Int64} (hr : R σc σm) {cs : Nat × Nat} (hro : cs.1 + 4 ≤ 601024 ∧ cs.2 + 24 ≤ 7293034)
    (kn : ∀ (σ' τ' : Sg) (v' : Int64), R σ' τ' → JP x (frL d) (LW d σ' τ' v') Q 1467 [(4, .int i), (3, .ref (dO d)), (2, .ref (wB (wM (dM d)) + 347)), (1, .ref (wB (wC (dC d)) + 0)), (0, .ref b)] [] (cs.1 + 4, cs.2 + 24)) : JP x (frL d) (LW d σc σm v) Q 1428 [(4, .int i), (3, .ref (dO d)), (2, .ref (wB (wM (dM d)) + 347)), (1, .ref (wB (wC (dC d)) + 0)), (0, .ref b)] [] cs := by
  obtain ⟨hro1, hro2⟩ := hro
  refine JP_aload_n o.1 3 d_L_law_1428 rfl ?_
  refine JL_callC o [] mth_X4_print iv_X4_print ml_RL_152 ⟨Nat.le_of_ble_eq_true rfl, Nat.le_of_ble_eq_true rfl⟩ rfl rfl (Nat.le_of_ble_eq_true rfl) ⟨(show cs.1 + 0 ≤ 601024 by omega), (show cs.2 + 0 ≤ 7293034 by omega)⟩ d_L_law_1429 (w_X4_print (xL x) (dC d) (hob _ _ hr)) (fun u t1 hu => ?_)
  obtain ⟨r1, hr1, hk⟩ := hu
  cases hr1
  refine JP_aload_n o.1 2 d_L_law_1432 rfl ?_
  refine JL_callM o [] mth_X5_print iv_X5_print ml_RL_156 ⟨Nat.le_of_ble_eq_true rfl, Nat.le_of_ble_eq_true rfl⟩ rfl rfl (Nat.le_of_ble_eq_true rfl) ⟨(show cs.1 + 0 + 0 ≤ 601024 by omega), (show cs.2 + 0 + 0 ≤ 7293034 by omega)⟩ d_L_law_1433 (w_X5_print (xL x) (dM d) hk) (fun u t2 hu => ?_)
  obtain ⟨r2, hr2, hk⟩ := hu
  cases hr2
  refine JP_lcmp o.1 d_L_law_1436 ?_
  refine JP_if_eq o.1 1467 d_L_law_1437 (by decide) (fun _ => ?_) (fun hne => absurd (by rw [hk.1]; exact lgc_self _) hne)
  exact JP_wide ⟨(show cs.1 + 0 + 0 ≤ cs.1 + 4 by omega), (show cs.2 + 0 + 0 ≤ cs.2 + 24 by omega)⟩ (kn _ _ _ hk.2)
set_option maxHeartbeats 4000000 in
set_option maxRecDepth 20000 in
theorem l_status {x : Cx} {d : Lb} {Q : State → Prop} (o : OkL x d cL_law 7 RL (some .boolean) room_1) (hfl : (xL x).stackTraces = false) {b L : Nat} {xs : Nat → Int32} (hT : va_T .int b L (fun j => .int (xs j)) (frL d) (xS x) (xS x).heap) {R : Sg → Sg → Prop} (hob : obl_status R) {i : Int32} (hi : vp_in (i + 1) L ∧ vp_in (i + 2) L ∧ vp_in (i + 3) L ∧ vp_in (i + 4) L ∧ vp_in (i + 5) L) {σc σm : Sg} {v : Int64} (hr : R σc σm) {cs : Nat × Nat} (hro : cs.1 + 4 ≤ 601024 ∧ cs.2 + 24 ≤ 7293034)
    (kn : ∀ (σ' τ' : Sg) (v' : Int64), R σ' τ' → JP x (frL d) (LW d σ' τ' v') Q 1467 [(4, .int i), (3, .ref (dO d)), (2, .ref (wB (wM (dM d)) + 347)), (1, .ref (wB (wC (dC d)) + 0)), (0, .ref b)] [] (cs.1 + 4, cs.2 + 24)) : JP x (frL d) (LW d σc σm v) Q 1442 [(4, .int i), (3, .ref (dO d)), (2, .ref (wB (wM (dM d)) + 347)), (1, .ref (wB (wC (dC d)) + 0)), (0, .ref b)] [] cs := by
  obtain ⟨hro1, hro2⟩ := hro
  refine JP_aload_n o.1 3 d_L_law_1442 rfl ?_
  refine JP_aload_n o.1 4 d_L_law_1443 rfl ?_
  refine JP_iload o.1 0 d_L_law_1444 rfl ?_
  refine JP_iconst (v := 1) o.1 d_L_law_1446 (by decide) ?_
  refine JP_iadd o.1 d_L_law_1447 ?_
  refine JP_ald o.1 hT hi.1 d_L_law_1448 ?_
  refine JL_callC o [.int (xs (i + 1).toNatClampNeg)] mth_X4_status iv_X4_status ml_RL_157 ⟨Nat.le_of_ble_eq_true rfl, Nat.le_of_ble_eq_true rfl⟩ rfl rfl (Nat.le_of_ble_eq_true rfl) ⟨(show cs.1 + 0 ≤ 601024 by omega), (show cs.2 + 0 ≤ 7293034 by omega)⟩ d_L_law_1449 (w_X4_status (xL x) (dC d) (hob _ _ _ hr)) (fun u t1 hu => ?_)
  obtain ⟨r1, hr1, hk⟩ := hu
  cases hr1
  refine JP_aload_n o.1 2 d_L_law_1452 rfl ?_
  refine JP_aload_n o.1 4 d_L_law_1453 rfl ?_
  refine JP_iload o.1 0 d_L_law_1454 rfl ?_
  refine JP_iconst (v := 1) o.1 d_L_law_1456 (by decide) ?_
  refine JP_iadd o.1 d_L_law_1457 ?_
  refine JP_ald o.1 hT hi.1 d_L_law_1458 ?_
  refine JL_callM o [.int (xs (i + 1).toNatClampNeg)] mth_X5_status iv_X5_status ml_RL_160 ⟨Nat.le_of_ble_eq_true rfl, Nat.le_of_ble_eq_true rfl⟩ rfl rfl (Nat.le_of_ble_eq_true rfl) ⟨(show cs.1 + 0 + 0 ≤ 601024 by omega), (show cs.2 + 0 + 0 ≤ 7293034 by omega)⟩ d_L_law_1459 (w_X5_status (xL x) (dM d) hk) (fun u t2 hu => ?_)
  obtain ⟨r2, hr2, hk⟩ := hu
  cases hr2
  refine JP_icmp_eq o.1 1467 d_L_law_1462 (by decide) (fun _ => ?_) (fun hne => absurd hk.1 hne)
  exact JP_wide ⟨(show cs.1 + 0 + 0 ≤ cs.1 + 4 by omega), (show cs.2 + 0 + 0 ≤ cs.2 + 24 by omega)⟩ (kn _ _ _ hk.2)
