/-! the walks, printed by program -/
theorem d_X4_needNumber_0 : decode cX4_needNumber 0 = .ok (.iload_n 1, 1) := by decide +kernel
theorem d_X4_needNumber_1 : decode cX4_needNumber 1 = .ok (.ifCond .ne 23, 3) := by decide +kernel
theorem d_X4_needNumber_4 : decode cX4_needNumber 4 = .ok (.aload_n 0, 1) := by decide +kernel
theorem d_X4_needNumber_5 : decode cX4_needNumber 5 = .ok (.dup, 1) := by decide +kernel
theorem d_X4_needNumber_6 : decode cX4_needNumber 6 = .ok (.getfield 61, 3) := by decide +kernel
theorem d_X4_needNumber_9 : decode cX4_needNumber 9 = .ok (.iconst 1, 1) := by decide +kernel
theorem d_X4_needNumber_10 : decode cX4_needNumber 10 = .ok (.iadd, 1) := by decide +kernel
theorem d_X4_needNumber_11 : decode cX4_needNumber 11 = .ok (.putfield 61, 3) := by decide +kernel
theorem d_X4_needNumber_14 : decode cX4_needNumber 14 = .ok (.new 236, 3) := by decide +kernel
theorem d_X4_needNumber_17 : decode cX4_needNumber 17 = .ok (.dup, 1) := by decide +kernel
theorem d_X4_needNumber_18 : decode cX4_needNumber 18 = .ok (.ldc 238, 2) := by decide +kernel
theorem d_X4_needNumber_20 : decode cX4_needNumber 20 = .ok (.invokespecial 240, 3) := by decide +kernel
theorem d_X4_needNumber_23 : decode cX4_needNumber 23 = .ok (.athrow, 1) := by decide +kernel
theorem d_X4_needNumber_24 : decode cX4_needNumber 24 = .ok (.return_, 1) := by decide +kernel
abbrev rm_X4_needNumber : Room := { frames := 6, cells := 1, slots := 6, locals := 90 }
set_option maxHeartbeats 4000000 in
set_option maxRecDepth 20000 in
theorem w_X4_needNumber (l : Launch) (b : Wy) (hfl : l.stackTraces = false) {v1 : Int32} {σ : Sg} {K : Sg → Prop} {X : String → Sg → Prop}  (h : m_X4_needNumber v1 σ K X) : CtX l (wC b) yX4_needNumber cX4_needNumber 2 none rm_X4_needNumber [.ref (wB (wC b) + 0), .int v1] σ (PV K) X := by
  unfold m_X4_needNumber at h
  refine CtX.of hfl (own := RX4) (by decide +kernel) rfl (Nat.le_of_ble_eq_true rfl) (fun x hx nh o => ?_)
  subst hx
  show J x (wC b) (FinX x (wC b) (PV K) X (1, 6)) 0 [(0, .ref (wB (wC b) + 0)), (1, .int v1)] [] (0, 0) σ
  refine J_iload_n o 1 d_X4_needNumber_0 rfl ?_
  refine J_if_ne o 24 d_X4_needNumber_1 rfl (fun c1 => ?_) (fun c1 => ?_)
  · replace h := h.1 c1
    exact JX_ret ⟨Nat.le_of_ble_eq_true rfl, Nat.le_of_ble_eq_true rfl⟩ (J_vret o d_X4_needNumber_24 ⟨rfl, h⟩)
  · replace h := h.2 c1
    refine J_aload_n o 0 d_X4_needNumber_4 rfl ?_
    refine J_dup o d_X4_needNumber_5 rfl ?_
    refine J_getI o fl_RX4_61 rfl (Nat.le_of_ble_eq_true rfl) (Nat.le_of_ble_eq_true rfl) rfl d_X4_needNumber_6 ?_
    refine J_iconst (v := 1) o d_X4_needNumber_9 iconst_1 ?_
    refine J_iadd o d_X4_needNumber_10 ?_
    refine J_put o fl_RX4_61 la_4 rfl (Nat.le_of_ble_eq_true rfl) (Nat.le_of_ble_eq_true rfl) rfl rfl rfl rfl d_X4_needNumber_11 ?_
    refine J_nS (fun s11 es11 => ?_)
    replace h := h s11 es11
    exact J_throw (tx := "another number") o nh at_IAE ak_IAE (by decide +kernel) (List.mem_of_getElem? (i := 0) rfl) d_X4_needNumber_14 d_X4_needNumber_17 d_X4_needNumber_18 d_X4_needNumber_20 d_X4_needNumber_23 ⟨Nat.le_of_ble_eq_true rfl, Nat.le_of_ble_eq_true rfl, Nat.le_of_ble_eq_true rfl, Nat.le_of_ble_eq_true rfl⟩ ⟨Nat.le_of_ble_eq_true rfl, Nat.le_of_ble_eq_true rfl⟩ h
theorem d_X4_text_0 : decode cX4_text 0 = .ok (.aload_n 0, 1) := by decide +kernel
theorem d_X4_text_1 : decode cX4_text 1 = .ok (.iload_n 1, 1) := by decide +kernel
theorem d_X4_text_2 : decode cX4_text 2 = .ok (.iconst 0, 1) := by decide +kernel
theorem d_X4_text_3 : decode cX4_text 3 = .ok (.aload_n 0, 1) := by decide +kernel
theorem d_X4_text_4 : decode cX4_text 4 = .ok (.getfield 45, 3) := by decide +kernel
theorem d_X4_text_7 : decode cX4_text 7 = .ok (.invokestatic 74, 3) := by decide +kernel
theorem d_X4_text_10 : decode cX4_text 10 = .ok (.invokevirtual 78, 3) := by decide +kernel
theorem d_X4_text_13 : decode cX4_text 13 = .ok (.aload_n 0, 1) := by decide +kernel
theorem d_X4_text_14 : decode cX4_text 14 = .ok (.iconst 0, 1) := by decide +kernel
theorem d_X4_text_15 : decode cX4_text 15 = .ok (.putfield 45, 3) := by decide +kernel
theorem d_X4_text_18 : decode cX4_text 18 = .ok (.aload_n 0, 1) := by decide +kernel
theorem d_X4_text_19 : decode cX4_text 19 = .ok (.getfield 28, 3) := by decide +kernel
theorem d_X4_text_22 : decode cX4_text 22 = .ok (.iload_n 1, 1) := by decide +kernel
theorem d_X4_text_23 : decode cX4_text 23 = .ok (.invokevirtual 82, 3) := by decide +kernel
theorem d_X4_text_26 : decode cX4_text 26 = .ok (.istore_n 2, 1) := by decide +kernel
theorem d_X4_text_27 : decode cX4_text 27 = .ok (.aload_n 0, 1) := by decide +kernel
theorem d_X4_text_28 : decode cX4_text 28 = .ok (.aload_n 0, 1) := by decide +kernel
theorem d_X4_text_29 : decode cX4_text 29 = .ok (.getfield 28, 3) := by decide +kernel
theorem d_X4_text_32 : decode cX4_text 32 = .ok (.getfield 86, 3) := by decide +kernel
theorem d_X4_text_35 : decode cX4_text 35 = .ok (.putfield 49, 3) := by decide +kernel
theorem d_X4_text_38 : decode cX4_text 38 = .ok (.iload_n 2, 1) := by decide +kernel
theorem d_X4_text_39 : decode cX4_text 39 = .ok (.ifCond .eq 8, 3) := by decide +kernel
theorem d_X4_text_42 : decode cX4_text 42 = .ok (.iload_n 2, 1) := by decide +kernel
theorem d_X4_text_43 : decode cX4_text 43 = .ok (.bipush 10, 2) := by decide +kernel
theorem d_X4_text_45 : decode cX4_text 45 = .ok (.isub, 1) := by decide +kernel
theorem d_X4_text_46 : decode cX4_text 46 = .ok (.ireturn, 1) := by decide +kernel
theorem d_X4_text_47 : decode cX4_text 47 = .ok (.aload_n 0, 1) := by decide +kernel
theorem d_X4_text_48 : decode cX4_text 48 = .ok (.invokevirtual 87, 3) := by decide +kernel
theorem d_X4_text_51 : decode cX4_text 51 = .ok (.aload_n 0, 1) := by decide +kernel
theorem d_X4_text_52 : decode cX4_text 52 = .ok (.getfield 16, 3) := by decide +kernel
theorem d_X4_text_55 : decode cX4_text 55 = .ok (.aload_n 0, 1) := by decide +kernel
theorem d_X4_text_56 : decode cX4_text 56 = .ok (.getfield 20, 3) := by decide +kernel
theorem d_X4_text_59 : decode cX4_text 59 = .ok (.invokevirtual 90, 3) := by decide +kernel
theorem d_X4_text_62 : decode cX4_text 62 = .ok (.aload_n 0, 1) := by decide +kernel
theorem d_X4_text_63 : decode cX4_text 63 = .ok (.getfield 16, 3) := by decide +kernel
theorem d_X4_text_66 : decode cX4_text 66 = .ok (.getfield 93, 3) := by decide +kernel
theorem d_X4_text_69 : decode cX4_text 69 = .ok (.ireturn, 1) := by decide +kernel
abbrev rm_X4_text : Room := { frames := 10, cells := 1, slots := 6, locals := 215 }
set_option maxHeartbeats 4000000 in
set_option maxRecDepth 20000 in
theorem w_X4_text (l : Launch) (b : Wy) (hfl : l.stackTraces = false) {v1 : Int32} {σ : Sg} {K : Int32 → Sg → Prop} {X : String → Sg → Prop}  (h : m_X4_text v1 σ K X) : CtX l (wC b) yX4_text cX4_text 3 (some .int) rm_X4_text [.ref (wB (wC b) + 0), .int v1] σ (PI K) X := by
  unfold m_X4_text at h
  refine CtX.of hfl (own := RX4) (by decide +kernel) rfl (Nat.le_of_ble_eq_true rfl) (fun x hx nh o => ?_)
  subst hx
  show J x (wC b) (FinX x (wC b) (PI K) X (1, 6)) 0 [(0, .ref (wB (wC b) + 0)), (1, .int v1)] [] (0, 0) σ
  refine J_aload_n o 0 d_X4_text_0 rfl ?_
  refine J_iload_n o 1 d_X4_text_1 rfl ?_
  refine J_iconst (v := 0) o d_X4_text_2 iconst_0 ?_
  refine J_aload_n o 0 d_X4_text_3 rfl ?_
  refine J_getI o fl_RX4_45 rfl (Nat.le_of_ble_eq_true rfl) (Nat.le_of_ble_eq_true rfl) rfl d_X4_text_4 ?_
  refine J_callS o [.int v1, .int 0, .int (σ 0 6)] mth_X4_isIn st_X4_isIn ml_RX4_74 ⟨Nat.le_of_ble_eq_true rfl, Nat.le_of_ble_eq_true rfl⟩ rfl rfl (Nat.le_of_ble_eq_true rfl) ⟨Nat.le_of_ble_eq_true rfl, Nat.le_of_ble_eq_true rfl⟩ d_X4_text_7 (w_X4_isIn (xL x) b  h) (aZ (fun r7 s7 hzr7 h => ?_))
  refine J_callXV (k := 0) (c := 4) o [.int r7] rfl (by decide) (Nat.le_of_ble_eq_true rfl) (Nat.le_of_ble_eq_true rfl) mth_X4_needNumber iv_X4_needNumber ml_RX4_78 ⟨Nat.le_of_ble_eq_true rfl, Nat.le_of_ble_eq_true rfl⟩ rfl rfl (Nat.le_of_ble_eq_true rfl) ⟨Nat.le_of_ble_eq_true rfl, Nat.le_of_ble_eq_true rfl⟩ d_X4_text_10 (w_X4_needNumber (xL x) b nh.2  h) (fun E s9 hx => JT_out o nh ⟨Nat.le_of_ble_eq_true rfl, Nat.le_of_ble_eq_true rfl⟩ hx) (aV (fun s10 h => ?_))
  refine J_aload_n o 0 d_X4_text_13 rfl ?_
  refine J_iconst (v := 0) o d_X4_text_14 iconst_0 ?_
  refine J_put o fl_RX4_45 la_4 rfl (Nat.le_of_ble_eq_true rfl) (Nat.le_of_ble_eq_true rfl) rfl rfl rfl rfl d_X4_text_15 ?_
  refine J_nS (fun s15 es15 => ?_)
  replace h := h s15 es15
  refine J_aload_n o 0 d_X4_text_18 rfl ?_
  refine J_getR (t := 18) o fl_RX4_28 rfl (Nat.le_of_ble_eq_true rfl) (Nat.le_of_ble_eq_true rfl) rfl rfl d_X4_text_19 ?_
  refine J_iload_n o 1 d_X4_text_22 rfl ?_
  refine J_callV (k := 18) (c := 2) o [.int v1] rfl (by decide) (Nat.le_of_ble_eq_true rfl) (Nat.le_of_ble_eq_true rfl) mth_X2_readText iv_X2_readText ml_RX4_82 ⟨Nat.le_of_ble_eq_true rfl, Nat.le_of_ble_eq_true rfl⟩ rfl rfl (Nat.le_of_ble_eq_true rfl) ⟨Nat.le_of_ble_eq_true rfl, Nat.le_of_ble_eq_true rfl⟩ d_X4_text_23 (w_X2_readText (xL x) b  h) (aI (fun r23 s23 h => ?_))
  refine J_istore_n (lv' := [(2, .int r23), (0, .ref (wB (wC b) + 0)), (1, .int v1)]) o d_X4_text_26 (by decide) rfl ?_
  refine J_aload_n o 1 d_X4_text_27 rfl ?_
  refine J_aload_n o 1 d_X4_text_28 rfl ?_
  refine J_getR (t := 18) o fl_RX4_28 rfl (Nat.le_of_ble_eq_true rfl) (Nat.le_of_ble_eq_true rfl) rfl rfl d_X4_text_29 ?_
  refine J_getIN o fn_RX4_86 rfl (Nat.le_of_ble_eq_true rfl) (Nat.le_of_ble_eq_true rfl) rfl d_X4_text_32 ?_
  refine J_put o fl_RX4_49 la_4 rfl (Nat.le_of_ble_eq_true rfl) (Nat.le_of_ble_eq_true rfl) rfl rfl rfl rfl d_X4_text_35 ?_
  refine J_nS (fun s35 es35 => ?_)
  replace h := h s35 es35
  refine J_iload_n o 0 d_X4_text_38 rfl ?_
  refine J_if_eq o 47 d_X4_text_39 rfl (fun c39 => ?_) (fun c39 => ?_)
  · replace h := h.1 c39
    refine J_aload_n o 1 d_X4_text_47 rfl ?_
    refine J_callV (k := 0) (c := 4) o [] rfl (by decide) (Nat.le_of_ble_eq_true rfl) (Nat.le_of_ble_eq_true rfl) mth_X4_keepWorld iv_X4_keepWorld ml_RX4_87 ⟨Nat.le_of_ble_eq_true rfl, Nat.le_of_ble_eq_true rfl⟩ rfl rfl (Nat.le_of_ble_eq_true rfl) ⟨Nat.le_of_ble_eq_true rfl, Nat.le_of_ble_eq_true rfl⟩ d_X4_text_48 (w_X4_keepWorld (xL x) b  h) (aV (fun s48 h => ?_))
    refine J_aload_n o 1 d_X4_text_51 rfl ?_
    refine J_getR (t := 2) o fl_RX4_16 rfl (Nat.le_of_ble_eq_true rfl) (Nat.le_of_ble_eq_true rfl) rfl rfl d_X4_text_52 ?_
    refine J_aload_n o 1 d_X4_text_55 rfl ?_
    refine J_getR (t := 10) o fl_RX4_20 rfl (Nat.le_of_ble_eq_true rfl) (Nat.le_of_ble_eq_true rfl) rfl rfl d_X4_text_56 ?_
    refine J_callV (k := 2) (c := 3) o [.ref (wB (wC b) + 10)] (W_kd W_2) (by decide) (Nat.zero_le _) (W_hi W_2) mth_X3_become iv_X3_become ml_RX4_90 ⟨Nat.le_of_ble_eq_true rfl, Nat.le_of_ble_eq_true rfl⟩ rfl rfl (Nat.le_of_ble_eq_true rfl) ⟨Nat.le_of_ble_eq_true rfl, Nat.le_of_ble_eq_true rfl⟩ d_X4_text_59 (w_X3_become (xL x) b W_2 W_10 h) (aV (fun s59 h => ?_))
    refine J_aload_n o 1 d_X4_text_62 rfl ?_
    refine J_getR (t := 2) o fl_RX4_16 rfl (Nat.le_of_ble_eq_true rfl) (Nat.le_of_ble_eq_true rfl) rfl rfl d_X4_text_63 ?_
    refine J_getI o fl_RX4_93 (W_kd W_2) (Nat.zero_le _) (W_hi W_2) rfl d_X4_text_66 ?_
    exact JX_ret ⟨Nat.le_of_ble_eq_true rfl, Nat.le_of_ble_eq_true rfl⟩ (J_iret o d_X4_text_69 ⟨_, rfl, h⟩)
  · replace h := h.2 c39
    refine J_iload_n o 0 d_X4_text_42 rfl ?_
    refine J_bipush (v := 10) o d_X4_text_43 bipush_10 ?_
    refine J_isub o d_X4_text_45 ?_
    exact JX_ret ⟨Nat.le_of_ble_eq_true rfl, Nat.le_of_ble_eq_true rfl⟩ (J_iret o d_X4_text_46 ⟨_, rfl, h⟩)
theorem d_X4_needState_0 : decode cX4_needState 0 = .ok (.iload_n 1, 1) := by decide +kernel
theorem d_X4_needState_1 : decode cX4_needState 1 = .ok (.ifCond .ne 23, 3) := by decide +kernel
theorem d_X4_needState_4 : decode cX4_needState 4 = .ok (.aload_n 0, 1) := by decide +kernel
theorem d_X4_needState_5 : decode cX4_needState 5 = .ok (.dup, 1) := by decide +kernel
theorem d_X4_needState_6 : decode cX4_needState 6 = .ok (.getfield 64, 3) := by decide +kernel
theorem d_X4_needState_9 : decode cX4_needState 9 = .ok (.iconst 1, 1) := by decide +kernel
theorem d_X4_needState_10 : decode cX4_needState 10 = .ok (.iadd, 1) := by decide +kernel
theorem d_X4_needState_11 : decode cX4_needState 11 = .ok (.putfield 64, 3) := by decide +kernel
theorem d_X4_needState_14 : decode cX4_needState 14 = .ok (.new 241, 3) := by decide +kernel
theorem d_X4_needState_17 : decode cX4_needState 17 = .ok (.dup, 1) := by decide +kernel
theorem d_X4_needState_18 : decode cX4_needState 18 = .ok (.ldc 243, 2) := by decide +kernel
theorem d_X4_needState_20 : decode cX4_needState 20 = .ok (.invokespecial 245, 3) := by decide +kernel
theorem d_X4_needState_23 : decode cX4_needState 23 = .ok (.athrow, 1) := by decide +kernel
theorem d_X4_needState_24 : decode cX4_needState 24 = .ok (.return_, 1) := by decide +kernel
abbrev rm_X4_needState : Room := { frames := 6, cells := 1, slots := 6, locals := 90 }
set_option maxHeartbeats 4000000 in
set_option maxRecDepth 20000 in
theorem w_X4_needState (l : Launch) (b : Wy) (hfl : l.stackTraces = false) {v1 : Int32} {σ : Sg} {K : Sg → Prop} {X : String → Sg → Prop}  (h : m_X4_needState v1 σ K X) : CtX l (wC b) yX4_needState cX4_needState 2 none rm_X4_needState [.ref (wB (wC b) + 0), .int v1] σ (PV K) X := by
  unfold m_X4_needState at h
  refine CtX.of hfl (own := RX4) (by decide +kernel) rfl (Nat.le_of_ble_eq_true rfl) (fun x hx nh o => ?_)
  subst hx
  show J x (wC b) (FinX x (wC b) (PV K) X (1, 6)) 0 [(0, .ref (wB (wC b) + 0)), (1, .int v1)] [] (0, 0) σ
  refine J_iload_n o 1 d_X4_needState_0 rfl ?_
  refine J_if_ne o 24 d_X4_needState_1 rfl (fun c1 => ?_) (fun c1 => ?_)
  · replace h := h.1 c1
    exact JX_ret ⟨Nat.le_of_ble_eq_true rfl, Nat.le_of_ble_eq_true rfl⟩ (J_vret o d_X4_needState_24 ⟨rfl, h⟩)
  · replace h := h.2 c1
    refine J_aload_n o 0 d_X4_needState_4 rfl ?_
    refine J_dup o d_X4_needState_5 rfl ?_
    refine J_getI o fl_RX4_64 rfl (Nat.le_of_ble_eq_true rfl) (Nat.le_of_ble_eq_true rfl) rfl d_X4_needState_6 ?_
    refine J_iconst (v := 1) o d_X4_needState_9 iconst_1 ?_
    refine J_iadd o d_X4_needState_10 ?_
    refine J_put o fl_RX4_64 la_4 rfl (Nat.le_of_ble_eq_true rfl) (Nat.le_of_ble_eq_true rfl) rfl rfl rfl rfl d_X4_needState_11 ?_
    refine J_nS (fun s11 es11 => ?_)
    replace h := h s11 es11
    exact J_throw (tx := "this hour can't go by so") o nh at_ISE ak_ISE (by decide +kernel) (List.mem_of_getElem? (i := 18) rfl) d_X4_needState_14 d_X4_needState_17 d_X4_needState_18 d_X4_needState_20 d_X4_needState_23 ⟨Nat.le_of_ble_eq_true rfl, Nat.le_of_ble_eq_true rfl, Nat.le_of_ble_eq_true rfl, Nat.le_of_ble_eq_true rfl⟩ ⟨Nat.le_of_ble_eq_true rfl, Nat.le_of_ble_eq_true rfl⟩ h
theorem d_X4_hour_0 : decode cX4_hour 0 = .ok (.aload_n 0, 1) := by decide +kernel
theorem d_X4_hour_1 : decode cX4_hour 1 = .ok (.aload_n 0, 1) := by decide +kernel
theorem d_X4_hour_2 : decode cX4_hour 2 = .ok (.iconst 0, 1) := by decide +kernel
theorem d_X4_hour_3 : decode cX4_hour 3 = .ok (.iload_n 1, 1) := by decide +kernel
theorem d_X4_hour_4 : decode cX4_hour 4 = .ok (.invokevirtual 96, 3) := by decide +kernel
theorem d_X4_hour_7 : decode cX4_hour 7 = .ok (.ifCond .eq 25, 3) := by decide +kernel
theorem d_X4_hour_10 : decode cX4_hour 10 = .ok (.aload_n 0, 1) := by decide +kernel
theorem d_X4_hour_11 : decode cX4_hour 11 = .ok (.iconst 1, 1) := by decide +kernel
theorem d_X4_hour_12 : decode cX4_hour 12 = .ok (.iload_n 2, 1) := by decide +kernel
theorem d_X4_hour_13 : decode cX4_hour 13 = .ok (.invokevirtual 96, 3) := by decide +kernel
theorem d_X4_hour_16 : decode cX4_hour 16 = .ok (.ifCond .eq 16, 3) := by decide +kernel
theorem d_X4_hour_19 : decode cX4_hour 19 = .ok (.aload_n 0, 1) := by decide +kernel
theorem d_X4_hour_20 : decode cX4_hour 20 = .ok (.iconst 2, 1) := by decide +kernel
theorem d_X4_hour_21 : decode cX4_hour 21 = .ok (.iload_n 3, 1) := by decide +kernel
theorem d_X4_hour_22 : decode cX4_hour 22 = .ok (.invokevirtual 96, 3) := by decide +kernel
theorem d_X4_hour_25 : decode cX4_hour 25 = .ok (.ifCond .eq 7, 3) := by decide +kernel
theorem d_X4_hour_28 : decode cX4_hour 28 = .ok (.iconst 1, 1) := by decide +kernel
theorem d_X4_hour_29 : decode cX4_hour 29 = .ok (.goto 4, 3) := by decide +kernel
theorem d_X4_hour_32 : decode cX4_hour 32 = .ok (.iconst 0, 1) := by decide +kernel
theorem d_X4_hour_33 : decode cX4_hour 33 = .ok (.invokevirtual 78, 3) := by decide +kernel
theorem d_X4_hour_36 : decode cX4_hour 36 = .ok (.aload_n 0, 1) := by decide +kernel
theorem d_X4_hour_37 : decode cX4_hour 37 = .ok (.aload_n 0, 1) := by decide +kernel
theorem d_X4_hour_38 : decode cX4_hour 38 = .ok (.getfield 16, 3) := by decide +kernel
theorem d_X4_hour_41 : decode cX4_hour 41 = .ok (.iconst 0, 1) := by decide +kernel
theorem d_X4_hour_42 : decode cX4_hour 42 = .ok (.iload_n 1, 1) := by decide +kernel
theorem d_X4_hour_43 : decode cX4_hour 43 = .ok (.invokevirtual 100, 3) := by decide +kernel
theorem d_X4_hour_46 : decode cX4_hour 46 = .ok (.ifCond .eq 31, 3) := by decide +kernel
theorem d_X4_hour_49 : decode cX4_hour 49 = .ok (.aload_n 0, 1) := by decide +kernel
theorem d_X4_hour_50 : decode cX4_hour 50 = .ok (.getfield 16, 3) := by decide +kernel
theorem d_X4_hour_53 : decode cX4_hour 53 = .ok (.iconst 1, 1) := by decide +kernel
theorem d_X4_hour_54 : decode cX4_hour 54 = .ok (.iload_n 2, 1) := by decide +kernel
theorem d_X4_hour_55 : decode cX4_hour 55 = .ok (.invokevirtual 100, 3) := by decide +kernel
theorem d_X4_hour_58 : decode cX4_hour 58 = .ok (.ifCond .eq 19, 3) := by decide +kernel
theorem d_X4_hour_61 : decode cX4_hour 61 = .ok (.aload_n 0, 1) := by decide +kernel
theorem d_X4_hour_62 : decode cX4_hour 62 = .ok (.getfield 16, 3) := by decide +kernel
theorem d_X4_hour_65 : decode cX4_hour 65 = .ok (.iconst 2, 1) := by decide +kernel
theorem d_X4_hour_66 : decode cX4_hour 66 = .ok (.iload_n 3, 1) := by decide +kernel
theorem d_X4_hour_67 : decode cX4_hour 67 = .ok (.invokevirtual 100, 3) := by decide +kernel
theorem d_X4_hour_70 : decode cX4_hour 70 = .ok (.ifCond .eq 7, 3) := by decide +kernel
theorem d_X4_hour_73 : decode cX4_hour 73 = .ok (.iconst 1, 1) := by decide +kernel
theorem d_X4_hour_74 : decode cX4_hour 74 = .ok (.goto 4, 3) := by decide +kernel
theorem d_X4_hour_77 : decode cX4_hour 77 = .ok (.iconst 0, 1) := by decide +kernel
theorem d_X4_hour_78 : decode cX4_hour 78 = .ok (.invokevirtual 103, 3) := by decide +kernel
theorem d_X4_hour_81 : decode cX4_hour 81 = .ok (.aload_n 0, 1) := by decide +kernel
theorem d_X4_hour_82 : decode cX4_hour 82 = .ok (.aload_n 0, 1) := by decide +kernel
theorem d_X4_hour_83 : decode cX4_hour 83 = .ok (.getfield 16, 3) := by decide +kernel
theorem d_X4_hour_86 : decode cX4_hour 86 = .ok (.getfield 106, 3) := by decide +kernel
theorem d_X4_hour_89 : decode cX4_hour 89 = .ok (.sipush 500, 3) := by decide +kernel
theorem d_X4_hour_92 : decode cX4_hour 92 = .ok (.if_icmp .ge 7, 3) := by decide +kernel
theorem d_X4_hour_95 : decode cX4_hour 95 = .ok (.iconst 1, 1) := by decide +kernel
theorem d_X4_hour_96 : decode cX4_hour 96 = .ok (.goto 4, 3) := by decide +kernel
theorem d_X4_hour_99 : decode cX4_hour 99 = .ok (.iconst 0, 1) := by decide +kernel
theorem d_X4_hour_100 : decode cX4_hour 100 = .ok (.invokevirtual 103, 3) := by decide +kernel
theorem d_X4_hour_103 : decode cX4_hour 103 = .ok (.aload_n 0, 1) := by decide +kernel
theorem d_X4_hour_104 : decode cX4_hour 104 = .ok (.invokevirtual 87, 3) := by decide +kernel
theorem d_X4_hour_107 : decode cX4_hour 107 = .ok (.aload_n 0, 1) := by decide +kernel
theorem d_X4_hour_108 : decode cX4_hour 108 = .ok (.getfield 16, 3) := by decide +kernel
theorem d_X4_hour_111 : decode cX4_hour 111 = .ok (.iconst 0, 1) := by decide +kernel
theorem d_X4_hour_112 : decode cX4_hour 112 = .ok (.iload_n 1, 1) := by decide +kernel
theorem d_X4_hour_113 : decode cX4_hour 113 = .ok (.invokevirtual 109, 3) := by decide +kernel
theorem d_X4_hour_116 : decode cX4_hour 116 = .ok (.aload_n 0, 1) := by decide +kernel
theorem d_X4_hour_117 : decode cX4_hour 117 = .ok (.getfield 16, 3) := by decide +kernel
theorem d_X4_hour_120 : decode cX4_hour 120 = .ok (.iconst 1, 1) := by decide +kernel
theorem d_X4_hour_121 : decode cX4_hour 121 = .ok (.iload_n 2, 1) := by decide +kernel
theorem d_X4_hour_122 : decode cX4_hour 122 = .ok (.invokevirtual 109, 3) := by decide +kernel
theorem d_X4_hour_125 : decode cX4_hour 125 = .ok (.aload_n 0, 1) := by decide +kernel
theorem d_X4_hour_126 : decode cX4_hour 126 = .ok (.getfield 16, 3) := by decide +kernel
theorem d_X4_hour_129 : decode cX4_hour 129 = .ok (.iconst 2, 1) := by decide +kernel
theorem d_X4_hour_130 : decode cX4_hour 130 = .ok (.iload_n 3, 1) := by decide +kernel
theorem d_X4_hour_131 : decode cX4_hour 131 = .ok (.invokevirtual 109, 3) := by decide +kernel
theorem d_X4_hour_134 : decode cX4_hour 134 = .ok (.aload_n 0, 1) := by decide +kernel
theorem d_X4_hour_135 : decode cX4_hour 135 = .ok (.getfield 16, 3) := by decide +kernel
theorem d_X4_hour_138 : decode cX4_hour 138 = .ok (.invokevirtual 113, 3) := by decide +kernel
theorem d_X4_hour_141 : decode cX4_hour 141 = .ok (.aload_n 0, 1) := by decide +kernel
theorem d_X4_hour_142 : decode cX4_hour 142 = .ok (.getfield 16, 3) := by decide +kernel
theorem d_X4_hour_145 : decode cX4_hour 145 = .ok (.invokevirtual 116, 3) := by decide +kernel
theorem d_X4_hour_148 : decode cX4_hour 148 = .ok (.ireturn, 1) := by decide +kernel
abbrev rm_X4_hour : Room := { frames := 7, cells := 3, slots := 18, locals := 116 }
set_option maxHeartbeats 4000000 in
set_option maxRecDepth 20000 in
theorem c_X4_hour_100 {x : Cx} {b : Wy} (o : Ok x (wC b) cX4_hour 4 RX4 (some .int) rm_X4_hour) (nh : NoH x) {v1 : Int32} {v2 : Int32} {v3 : Int32} {K : Int32 → Sg → Prop} {X : String → Sg → Prop}   : ∀ (k1 : Int32) (σ : Sg), m_X4_hour_j100 v1 v2 v3 K X  k1 σ → J x (wC b) (FinX x (wC b) (PI K) X (3, 18)) 100 [(0, .ref (wB (wC b) + 0)), (1, .int v1), (2, .int v2), (3, .int v3)] [.int k1, .ref (wB (wC b) + 0)] (2, 12) σ := by
  intro k1 σ  h
  unfold m_X4_hour_j100 at h
  refine J_callXV (k := 0) (c := 4) o [.int k1] rfl (by decide) (Nat.le_of_ble_eq_true rfl) (Nat.le_of_ble_eq_true rfl) mth_X4_needState iv_X4_needState ml_RX4_103 ⟨Nat.le_of_ble_eq_true rfl, Nat.le_of_ble_eq_true rfl⟩ rfl rfl (Nat.le_of_ble_eq_true rfl) ⟨Nat.le_of_ble_eq_true rfl, Nat.le_of_ble_eq_true rfl⟩ d_X4_hour_100 (w_X4_needState (xL x) b nh.2  h) (fun E s9 hx => JT_out o nh ⟨Nat.le_of_ble_eq_true rfl, Nat.le_of_ble_eq_true rfl⟩ hx) (aV (fun s100 h => ?_))
  refine J_aload_n o 0 d_X4_hour_103 rfl ?_
  refine J_callV (k := 0) (c := 4) o [] rfl (by decide) (Nat.le_of_ble_eq_true rfl) (Nat.le_of_ble_eq_true rfl) mth_X4_keepWorld iv_X4_keepWorld ml_RX4_87 ⟨Nat.le_of_ble_eq_true rfl, Nat.le_of_ble_eq_true rfl⟩ rfl rfl (Nat.le_of_ble_eq_true rfl) ⟨Nat.le_of_ble_eq_true rfl, Nat.le_of_ble_eq_true rfl⟩ d_X4_hour_104 (w_X4_keepWorld (xL x) b  h) (aV (fun s104 h => ?_))
  refine J_aload_n o 0 d_X4_hour_107 rfl ?_
  refine J_getR (t := 2) o fl_RX4_16 rfl (Nat.le_of_ble_eq_true rfl) (Nat.le_of_ble_eq_true rfl) rfl rfl d_X4_hour_108 ?_
  refine J_iconst (v := 0) o d_X4_hour_111 iconst_0 ?_
  refine J_iload_n o 1 d_X4_hour_112 rfl ?_
  refine J_callV (k := 2) (c := 3) o [.int 0, .int v1] (W_kd W_2) (by decide) (Nat.zero_le _) (W_hi W_2) mth_X3_sail iv_X3_sail ml_RX4_109 ⟨Nat.le_of_ble_eq_true rfl, Nat.le_of_ble_eq_true rfl⟩ rfl rfl (Nat.le_of_ble_eq_true rfl) ⟨Nat.le_of_ble_eq_true rfl, Nat.le_of_ble_eq_true rfl⟩ d_X4_hour_113 (w_X3_sail (xL x) b W_2 h) (aV (fun s113 h => ?_))
  refine J_aload_n o 0 d_X4_hour_116 rfl ?_
  refine J_getR (t := 2) o fl_RX4_16 rfl (Nat.le_of_ble_eq_true rfl) (Nat.le_of_ble_eq_true rfl) rfl rfl d_X4_hour_117 ?_
  refine J_iconst (v := 1) o d_X4_hour_120 iconst_1 ?_
  refine J_iload_n o 2 d_X4_hour_121 rfl ?_
  refine J_callV (k := 2) (c := 3) o [.int 1, .int v2] (W_kd W_2) (by decide) (Nat.zero_le _) (W_hi W_2) mth_X3_sail iv_X3_sail ml_RX4_109 ⟨Nat.le_of_ble_eq_true rfl, Nat.le_of_ble_eq_true rfl⟩ rfl rfl (Nat.le_of_ble_eq_true rfl) ⟨Nat.le_of_ble_eq_true rfl, Nat.le_of_ble_eq_true rfl⟩ d_X4_hour_122 (w_X3_sail (xL x) b W_2 h) (aV (fun s122 h => ?_))
  refine J_aload_n o 0 d_X4_hour_125 rfl ?_
  refine J_getR (t := 2) o fl_RX4_16 rfl (Nat.le_of_ble_eq_true rfl) (Nat.le_of_ble_eq_true rfl) rfl rfl d_X4_hour_126 ?_
  refine J_iconst (v := 2) o d_X4_hour_129 iconst_2 ?_
  refine J_iload_n o 3 d_X4_hour_130 rfl ?_
  refine J_callV (k := 2) (c := 3) o [.int 2, .int v3] (W_kd W_2) (by decide) (Nat.zero_le _) (W_hi W_2) mth_X3_sail iv_X3_sail ml_RX4_109 ⟨Nat.le_of_ble_eq_true rfl, Nat.le_of_ble_eq_true rfl⟩ rfl rfl (Nat.le_of_ble_eq_true rfl) ⟨Nat.le_of_ble_eq_true rfl, Nat.le_of_ble_eq_true rfl⟩ d_X4_hour_131 (w_X3_sail (xL x) b W_2 h) (aV (fun s131 h => ?_))
  refine J_aload_n o 0 d_X4_hour_134 rfl ?_
  refine J_getR (t := 2) o fl_RX4_16 rfl (Nat.le_of_ble_eq_true rfl) (Nat.le_of_ble_eq_true rfl) rfl rfl d_X4_hour_135 ?_
  refine J_callV (k := 2) (c := 3) o [] (W_kd W_2) (by decide) (Nat.zero_le _) (W_hi W_2) mth_X3_passHour iv_X3_passHour ml_RX4_113 ⟨Nat.le_of_ble_eq_true rfl, Nat.le_of_ble_eq_true rfl⟩ rfl rfl (Nat.le_of_ble_eq_true rfl) ⟨Nat.le_of_ble_eq_true rfl, Nat.le_of_ble_eq_true rfl⟩ d_X4_hour_138 (w_X3_passHour (xL x) b W_2 h) (aV (fun s138 h => ?_))
  refine J_aload_n o 0 d_X4_hour_141 rfl ?_
  refine J_getR (t := 2) o fl_RX4_16 rfl (Nat.le_of_ble_eq_true rfl) (Nat.le_of_ble_eq_true rfl) rfl rfl d_X4_hour_142 ?_
  refine J_callV (k := 2) (c := 3) o [] (W_kd W_2) (by decide) (Nat.zero_le _) (W_hi W_2) mth_X3_meetingBits iv_X3_meetingBits ml_RX4_116 ⟨Nat.le_of_ble_eq_true rfl, Nat.le_of_ble_eq_true rfl⟩ rfl rfl (Nat.le_of_ble_eq_true rfl) ⟨Nat.le_of_ble_eq_true rfl, Nat.le_of_ble_eq_true rfl⟩ d_X4_hour_145 (w_X3_meetingBits (xL x) b W_2 h) (aI (fun r145 s145 h => ?_))
  exact JX_ret ⟨Nat.le_of_ble_eq_true rfl, Nat.le_of_ble_eq_true rfl⟩ (J_iret o d_X4_hour_148 ⟨_, rfl, h⟩)
set_option maxHeartbeats 4000000 in
set_option maxRecDepth 20000 in
theorem c_X4_hour_78 {x : Cx} {b : Wy} (o : Ok x (wC b) cX4_hour 4 RX4 (some .int) rm_X4_hour) (nh : NoH x) {v1 : Int32} {v2 : Int32} {v3 : Int32} {K : Int32 → Sg → Prop} {X : String → Sg → Prop}   : ∀ (k1 : Int32) (σ : Sg), m_X4_hour_j78 v1 v2 v3 K X  k1 σ → J x (wC b) (FinX x (wC b) (PI K) X (3, 18)) 78 [(0, .ref (wB (wC b) + 0)), (1, .int v1), (2, .int v2), (3, .int v3)] [.int k1, .ref (wB (wC b) + 0)] (1, 6) σ := by
  intro k1 σ  h
  unfold m_X4_hour_j78 at h
  refine J_callXV (k := 0) (c := 4) o [.int k1] rfl (by decide) (Nat.le_of_ble_eq_true rfl) (Nat.le_of_ble_eq_true rfl) mth_X4_needState iv_X4_needState ml_RX4_103 ⟨Nat.le_of_ble_eq_true rfl, Nat.le_of_ble_eq_true rfl⟩ rfl rfl (Nat.le_of_ble_eq_true rfl) ⟨Nat.le_of_ble_eq_true rfl, Nat.le_of_ble_eq_true rfl⟩ d_X4_hour_78 (w_X4_needState (xL x) b nh.2  h) (fun E s9 hx => JT_out o nh ⟨Nat.le_of_ble_eq_true rfl, Nat.le_of_ble_eq_true rfl⟩ hx) (aV (fun s78 h => ?_))
  refine J_aload_n o 0 d_X4_hour_81 rfl ?_
  refine J_aload_n o 0 d_X4_hour_82 rfl ?_
  refine J_getR (t := 2) o fl_RX4_16 rfl (Nat.le_of_ble_eq_true rfl) (Nat.le_of_ble_eq_true rfl) rfl rfl d_X4_hour_83 ?_
  refine J_getI o fl_RX4_106 (W_kd W_2) (Nat.zero_le _) (W_hi W_2) rfl d_X4_hour_86 ?_
  refine J_sipush (v := 500) o d_X4_hour_89 sipush_500 ?_
  refine J_icmp_ge o 99 d_X4_hour_92 rfl (fun c92 => ?_) (fun c92 => ?_)
  · replace h := h.1 c92
    refine J_iconst (v := 0) o d_X4_hour_99 iconst_0 ?_
    exact c_X4_hour_100 o nh   0 s78  h
  · replace h := h.2 c92
    refine J_iconst (v := 1) o d_X4_hour_95 iconst_1 ?_
    refine J_goto o 100 d_X4_hour_96 rfl ?_
    exact c_X4_hour_100 o nh   1 s78  h
set_option maxHeartbeats 4000000 in
set_option maxRecDepth 20000 in
theorem c_X4_hour_33 {x : Cx} {b : Wy} (o : Ok x (wC b) cX4_hour 4 RX4 (some .int) rm_X4_hour) (nh : NoH x) {v1 : Int32} {v2 : Int32} {v3 : Int32} {K : Int32 → Sg → Prop} {X : String → Sg → Prop}   : ∀ (k1 : Int32) (σ : Sg), m_X4_hour_j33 v1 v2 v3 K X  k1 σ → J x (wC b) (FinX x (wC b) (PI K) X (3, 18)) 33 [(0, .ref (wB (wC b) + 0)), (1, .int v1), (2, .int v2), (3, .int v3)] [.int k1, .ref (wB (wC b) + 0)] (0, 0) σ := by
  intro k1 σ  h
  unfold m_X4_hour_j33 at h
  refine J_callXV (k := 0) (c := 4) o [.int k1] rfl (by decide) (Nat.le_of_ble_eq_true rfl) (Nat.le_of_ble_eq_true rfl) mth_X4_needNumber iv_X4_needNumber ml_RX4_78 ⟨Nat.le_of_ble_eq_true rfl, Nat.le_of_ble_eq_true rfl⟩ rfl rfl (Nat.le_of_ble_eq_true rfl) ⟨Nat.le_of_ble_eq_true rfl, Nat.le_of_ble_eq_true rfl⟩ d_X4_hour_33 (w_X4_needNumber (xL x) b nh.2  h) (fun E s9 hx => JT_out o nh ⟨Nat.le_of_ble_eq_true rfl, Nat.le_of_ble_eq_true rfl⟩ hx) (aV (fun s33 h => ?_))
  refine J_aload_n o 0 d_X4_hour_36 rfl ?_
  refine J_aload_n o 0 d_X4_hour_37 rfl ?_
  refine J_getR (t := 2) o fl_RX4_16 rfl (Nat.le_of_ble_eq_true rfl) (Nat.le_of_ble_eq_true rfl) rfl rfl d_X4_hour_38 ?_
  refine J_iconst (v := 0) o d_X4_hour_41 iconst_0 ?_
  refine J_iload_n o 1 d_X4_hour_42 rfl ?_
  refine J_callV (k := 2) (c := 3) o [.int 0, .int v1] (W_kd W_2) (by decide) (Nat.zero_le _) (W_hi W_2) mth_X3_canSail iv_X3_canSail ml_RX4_100 ⟨Nat.le_of_ble_eq_true rfl, Nat.le_of_ble_eq_true rfl⟩ rfl rfl (Nat.le_of_ble_eq_true rfl) ⟨Nat.le_of_ble_eq_true rfl, Nat.le_of_ble_eq_true rfl⟩ d_X4_hour_43 (w_X3_canSail (xL x) b W_2 h) (aZ (fun r43 s43 hzr43 h => ?_))
  refine J_if_eq o 77 d_X4_hour_46 rfl (fun c46 => ?_) (fun c46 => ?_)
  · replace h := h.1 c46
    refine J_iconst (v := 0) o d_X4_hour_77 iconst_0 ?_
    exact c_X4_hour_78 o nh   0 s43  h
  · replace h := h.2 c46
    refine J_aload_n o 0 d_X4_hour_49 rfl ?_
    refine J_getR (t := 2) o fl_RX4_16 rfl (Nat.le_of_ble_eq_true rfl) (Nat.le_of_ble_eq_true rfl) rfl rfl d_X4_hour_50 ?_
    refine J_iconst (v := 1) o d_X4_hour_53 iconst_1 ?_
    refine J_iload_n o 2 d_X4_hour_54 rfl ?_
    refine J_callV (k := 2) (c := 3) o [.int 1, .int v2] (W_kd W_2) (by decide) (Nat.zero_le _) (W_hi W_2) mth_X3_canSail iv_X3_canSail ml_RX4_100 ⟨Nat.le_of_ble_eq_true rfl, Nat.le_of_ble_eq_true rfl⟩ rfl rfl (Nat.le_of_ble_eq_true rfl) ⟨Nat.le_of_ble_eq_true rfl, Nat.le_of_ble_eq_true rfl⟩ d_X4_hour_55 (w_X3_canSail (xL x) b W_2 h) (aZ (fun r55 s55 hzr55 h => ?_))
    refine J_if_eq o 77 d_X4_hour_58 rfl (fun c58 => ?_) (fun c58 => ?_)
    · replace h := h.1 c58
      refine J_iconst (v := 0) o d_X4_hour_77 iconst_0 ?_
      exact c_X4_hour_78 o nh   0 s55  h
    · replace h := h.2 c58
      refine J_aload_n o 0 d_X4_hour_61 rfl ?_
      refine J_getR (t := 2) o fl_RX4_16 rfl (Nat.le_of_ble_eq_true rfl) (Nat.le_of_ble_eq_true rfl) rfl rfl d_X4_hour_62 ?_
      refine J_iconst (v := 2) o d_X4_hour_65 iconst_2 ?_
      refine J_iload_n o 3 d_X4_hour_66 rfl ?_
      refine J_callV (k := 2) (c := 3) o [.int 2, .int v3] (W_kd W_2) (by decide) (Nat.zero_le _) (W_hi W_2) mth_X3_canSail iv_X3_canSail ml_RX4_100 ⟨Nat.le_of_ble_eq_true rfl, Nat.le_of_ble_eq_true rfl⟩ rfl rfl (Nat.le_of_ble_eq_true rfl) ⟨Nat.le_of_ble_eq_true rfl, Nat.le_of_ble_eq_true rfl⟩ d_X4_hour_67 (w_X3_canSail (xL x) b W_2 h) (aZ (fun r67 s67 hzr67 h => ?_))
      refine J_if_eq o 77 d_X4_hour_70 rfl (fun c70 => ?_) (fun c70 => ?_)
      · replace h := h.1 c70
        refine J_iconst (v := 0) o d_X4_hour_77 iconst_0 ?_
        exact c_X4_hour_78 o nh   0 s67  h
      · replace h := h.2 c70
        refine J_iconst (v := 1) o d_X4_hour_73 iconst_1 ?_
        refine J_goto o 78 d_X4_hour_74 rfl ?_
        exact c_X4_hour_78 o nh   1 s67  h
set_option maxHeartbeats 4000000 in
set_option maxRecDepth 20000 in
theorem w_X4_hour (l : Launch) (b : Wy) (hfl : l.stackTraces = false) {v1 : Int32} {v2 : Int32} {v3 : Int32} {σ : Sg} {K : Int32 → Sg → Prop} {X : String → Sg → Prop}  (h : m_X4_hour v1 v2 v3 σ K X) : CtX l (wC b) yX4_hour cX4_hour 4 (some .int) rm_X4_hour [.ref (wB (wC b) + 0), .int v1, .int v2, .int v3] σ (PI K) X := by
  unfold m_X4_hour at h
  refine CtX.of hfl (own := RX4) (by decide +kernel) rfl (Nat.le_of_ble_eq_true rfl) (fun x hx nh o => ?_)
  subst hx
  show J x (wC b) (FinX x (wC b) (PI K) X (3, 18)) 0 [(0, .ref (wB (wC b) + 0)), (1, .int v1), (2, .int v2), (3, .int v3)] [] (0, 0) σ
  refine J_aload_n o 0 d_X4_hour_0 rfl ?_
  refine J_aload_n o 0 d_X4_hour_1 rfl ?_
  refine J_iconst (v := 0) o d_X4_hour_2 iconst_0 ?_
  refine J_iload_n o 1 d_X4_hour_3 rfl ?_
  refine J_callV (k := 0) (c := 4) o [.int 0, .int v1] rfl (by decide) (Nat.le_of_ble_eq_true rfl) (Nat.le_of_ble_eq_true rfl) mth_X4_isCourseOf iv_X4_isCourseOf ml_RX4_96 ⟨Nat.le_of_ble_eq_true rfl, Nat.le_of_ble_eq_true rfl⟩ rfl rfl (Nat.le_of_ble_eq_true rfl) ⟨Nat.le_of_ble_eq_true rfl, Nat.le_of_ble_eq_true rfl⟩ d_X4_hour_4 (w_X4_isCourseOf (xL x) b  h) (aZ (fun r4 s4 hzr4 h => ?_))
  refine J_if_eq o 32 d_X4_hour_7 rfl (fun c7 => ?_) (fun c7 => ?_)
  · replace h := h.1 c7
    refine J_iconst (v := 0) o d_X4_hour_32 iconst_0 ?_
    exact c_X4_hour_33 o nh   0 s4  h
  · replace h := h.2 c7
    refine J_aload_n o 0 d_X4_hour_10 rfl ?_
    refine J_iconst (v := 1) o d_X4_hour_11 iconst_1 ?_
    refine J_iload_n o 2 d_X4_hour_12 rfl ?_
    refine J_callV (k := 0) (c := 4) o [.int 1, .int v2] rfl (by decide) (Nat.le_of_ble_eq_true rfl) (Nat.le_of_ble_eq_true rfl) mth_X4_isCourseOf iv_X4_isCourseOf ml_RX4_96 ⟨Nat.le_of_ble_eq_true rfl, Nat.le_of_ble_eq_true rfl⟩ rfl rfl (Nat.le_of_ble_eq_true rfl) ⟨Nat.le_of_ble_eq_true rfl, Nat.le_of_ble_eq_true rfl⟩ d_X4_hour_13 (w_X4_isCourseOf (xL x) b  h) (aZ (fun r13 s13 hzr13 h => ?_))
    refine J_if_eq o 32 d_X4_hour_16 rfl (fun c16 => ?_) (fun c16 => ?_)
    · replace h := h.1 c16
      refine J_iconst (v := 0) o d_X4_hour_32 iconst_0 ?_
      exact c_X4_hour_33 o nh   0 s13  h
    · replace h := h.2 c16
      refine J_aload_n o 0 d_X4_hour_19 rfl ?_
      refine J_iconst (v := 2) o d_X4_hour_20 iconst_2 ?_
      refine J_iload_n o 3 d_X4_hour_21 rfl ?_
      refine J_callV (k := 0) (c := 4) o [.int 2, .int v3] rfl (by decide) (Nat.le_of_ble_eq_true rfl) (Nat.le_of_ble_eq_true rfl) mth_X4_isCourseOf iv_X4_isCourseOf ml_RX4_96 ⟨Nat.le_of_ble_eq_true rfl, Nat.le_of_ble_eq_true rfl⟩ rfl rfl (Nat.le_of_ble_eq_true rfl) ⟨Nat.le_of_ble_eq_true rfl, Nat.le_of_ble_eq_true rfl⟩ d_X4_hour_22 (w_X4_isCourseOf (xL x) b  h) (aZ (fun r22 s22 hzr22 h => ?_))
      refine J_if_eq o 32 d_X4_hour_25 rfl (fun c25 => ?_) (fun c25 => ?_)
      · replace h := h.1 c25
        refine J_iconst (v := 0) o d_X4_hour_32 iconst_0 ?_
        exact c_X4_hour_33 o nh   0 s22  h
      · replace h := h.2 c25
        refine J_iconst (v := 1) o d_X4_hour_28 iconst_1 ?_
        refine J_goto o 33 d_X4_hour_29 rfl ?_
        exact c_X4_hour_33 o nh   1 s22  h
theorem d_X4_needHelper_0 : decode cX4_needHelper 0 = .ok (.iload_n 1, 1) := by decide +kernel
theorem d_X4_needHelper_1 : decode cX4_needHelper 1 = .ok (.ifCond .lt 14, 3) := by decide +kernel
theorem d_X4_needHelper_4 : decode cX4_needHelper 4 = .ok (.iload_n 1, 1) := by decide +kernel
theorem d_X4_needHelper_5 : decode cX4_needHelper 5 = .ok (.aload_n 0, 1) := by decide +kernel
theorem d_X4_needHelper_6 : decode cX4_needHelper 6 = .ok (.getfield 16, 3) := by decide +kernel
theorem d_X4_needHelper_9 : decode cX4_needHelper 9 = .ok (.getfield 93, 3) := by decide +kernel
theorem d_X4_needHelper_12 : decode cX4_needHelper 12 = .ok (.if_icmp .lt 23, 3) := by decide +kernel
theorem d_X4_needHelper_15 : decode cX4_needHelper 15 = .ok (.aload_n 0, 1) := by decide +kernel
theorem d_X4_needHelper_16 : decode cX4_needHelper 16 = .ok (.dup, 1) := by decide +kernel
theorem d_X4_needHelper_17 : decode cX4_needHelper 17 = .ok (.getfield 58, 3) := by decide +kernel
theorem d_X4_needHelper_20 : decode cX4_needHelper 20 = .ok (.iconst 1, 1) := by decide +kernel
theorem d_X4_needHelper_21 : decode cX4_needHelper 21 = .ok (.iadd, 1) := by decide +kernel
theorem d_X4_needHelper_22 : decode cX4_needHelper 22 = .ok (.putfield 58, 3) := by decide +kernel
theorem d_X4_needHelper_25 : decode cX4_needHelper 25 = .ok (.new 229, 3) := by decide +kernel
theorem d_X4_needHelper_28 : decode cX4_needHelper 28 = .ok (.dup, 1) := by decide +kernel
theorem d_X4_needHelper_29 : decode cX4_needHelper 29 = .ok (.ldc 231, 2) := by decide +kernel
theorem d_X4_needHelper_31 : decode cX4_needHelper 31 = .ok (.invokespecial 233, 3) := by decide +kernel
theorem d_X4_needHelper_34 : decode cX4_needHelper 34 = .ok (.athrow, 1) := by decide +kernel
theorem d_X4_needHelper_35 : decode cX4_needHelper 35 = .ok (.return_, 1) := by decide +kernel
abbrev rm_X4_needHelper : Room := { frames := 6, cells := 1, slots := 6, locals := 90 }
set_option maxHeartbeats 4000000 in
set_option maxRecDepth 20000 in
theorem c_X4_needHelper_15 {x : Cx} {b : Wy} (o : Ok x (wC b) cX4_needHelper 2 RX4 none rm_X4_needHelper) (nh : NoH x) {v1 : Int32} {K : Sg → Prop} {X : String → Sg → Prop}   : ∀  (σ : Sg), m_X4_needHelper_j15 v1 K X   σ → J x (wC b) (FinX x (wC b) (PV K) X (1, 6)) 15 [(0, .ref (wB (wC b) + 0))] [] (0, 0) σ := by
  intro  σ  h
  unfold m_X4_needHelper_j15 at h
  refine J_aload_n o 0 d_X4_needHelper_15 rfl ?_
  refine J_dup o d_X4_needHelper_16 rfl ?_
  refine J_getI o fl_RX4_58 rfl (Nat.le_of_ble_eq_true rfl) (Nat.le_of_ble_eq_true rfl) rfl d_X4_needHelper_17 ?_
  refine J_iconst (v := 1) o d_X4_needHelper_20 iconst_1 ?_
  refine J_iadd o d_X4_needHelper_21 ?_
  refine J_put o fl_RX4_58 la_4 rfl (Nat.le_of_ble_eq_true rfl) (Nat.le_of_ble_eq_true rfl) rfl rfl rfl rfl d_X4_needHelper_22 ?_
  refine J_nS (fun s22 es22 => ?_)
  replace h := h s22 es22
  exact J_throwN (tx := "no such helper") o nh ak_NSE (List.mem_of_getElem? (i := 19) rfl) d_X4_needHelper_25 d_X4_needHelper_28 d_X4_needHelper_29 d_X4_needHelper_31 d_X4_needHelper_34 ⟨Nat.le_of_ble_eq_true rfl, Nat.le_of_ble_eq_true rfl, Nat.le_of_ble_eq_true rfl, Nat.le_of_ble_eq_true rfl⟩ ⟨Nat.le_of_ble_eq_true rfl, Nat.le_of_ble_eq_true rfl⟩ h
set_option maxHeartbeats 4000000 in
set_option maxRecDepth 20000 in
theorem w_X4_needHelper (l : Launch) (b : Wy) (hfl : l.stackTraces = false) {v1 : Int32} {σ : Sg} {K : Sg → Prop} {X : String → Sg → Prop}  (h : m_X4_needHelper v1 σ K X) : CtX l (wC b) yX4_needHelper cX4_needHelper 2 none rm_X4_needHelper [.ref (wB (wC b) + 0), .int v1] σ (PV K) X := by
  unfold m_X4_needHelper at h
  refine CtX.of hfl (own := RX4) (by decide +kernel) rfl (Nat.le_of_ble_eq_true rfl) (fun x hx nh o => ?_)
  subst hx
  show J x (wC b) (FinX x (wC b) (PV K) X (1, 6)) 0 [(0, .ref (wB (wC b) + 0)), (1, .int v1)] [] (0, 0) σ
  refine J_iload_n o 1 d_X4_needHelper_0 rfl ?_
  refine J_if_lt o 15 d_X4_needHelper_1 rfl (fun c1 => ?_) (fun c1 => ?_)
  · replace h := h.1 c1
    refine J_sub [0] rfl ?_
    exact c_X4_needHelper_15 o nh   σ  h
  · replace h := h.2 c1
    refine J_iload_n o 1 d_X4_needHelper_4 rfl ?_
    refine J_aload_n o 0 d_X4_needHelper_5 rfl ?_
    refine J_getR (t := 2) o fl_RX4_16 rfl (Nat.le_of_ble_eq_true rfl) (Nat.le_of_ble_eq_true rfl) rfl rfl d_X4_needHelper_6 ?_
    refine J_getI o fl_RX4_93 (W_kd W_2) (Nat.zero_le _) (W_hi W_2) rfl d_X4_needHelper_9 ?_
    refine J_icmp_lt o 35 d_X4_needHelper_12 rfl (fun c12 => ?_) (fun c12 => ?_)
    · replace h := h.1 c12
      exact JX_ret ⟨Nat.le_of_ble_eq_true rfl, Nat.le_of_ble_eq_true rfl⟩ (J_vret o d_X4_needHelper_35 ⟨rfl, h⟩)
    · replace h := h.2 c12
      refine J_sub [0] rfl ?_
      exact c_X4_needHelper_15 o nh   σ  h
theorem d_X4_fuel_0 : decode cX4_fuel 0 = .ok (.aload_n 0, 1) := by decide +kernel
theorem d_X4_fuel_1 : decode cX4_fuel 1 = .ok (.iload_n 1, 1) := by decide +kernel
theorem d_X4_fuel_2 : decode cX4_fuel 2 = .ok (.invokevirtual 120, 3) := by decide +kernel
theorem d_X4_fuel_5 : decode cX4_fuel 5 = .ok (.aload_n 0, 1) := by decide +kernel
theorem d_X4_fuel_6 : decode cX4_fuel 6 = .ok (.iload_n 2, 1) := by decide +kernel
theorem d_X4_fuel_7 : decode cX4_fuel 7 = .ok (.iconst 0, 1) := by decide +kernel
theorem d_X4_fuel_8 : decode cX4_fuel 8 = .ok (.aload_n 0, 1) := by decide +kernel
theorem d_X4_fuel_9 : decode cX4_fuel 9 = .ok (.getfield 16, 3) := by decide +kernel
theorem d_X4_fuel_12 : decode cX4_fuel 12 = .ok (.getfield 123, 3) := by decide +kernel
theorem d_X4_fuel_15 : decode cX4_fuel 15 = .ok (.invokestatic 74, 3) := by decide +kernel
theorem d_X4_fuel_18 : decode cX4_fuel 18 = .ok (.invokevirtual 78, 3) := by decide +kernel
theorem d_X4_fuel_21 : decode cX4_fuel 21 = .ok (.aload_n 0, 1) := by decide +kernel
theorem d_X4_fuel_22 : decode cX4_fuel 22 = .ok (.getfield 16, 3) := by decide +kernel
theorem d_X4_fuel_25 : decode cX4_fuel 25 = .ok (.getfield 126, 3) := by decide +kernel
theorem d_X4_fuel_28 : decode cX4_fuel 28 = .ok (.iload_n 1, 1) := by decide +kernel
theorem d_X4_fuel_29 : decode cX4_fuel 29 = .ok (.invokestatic 129, 3) := by decide +kernel
theorem d_X4_fuel_32 : decode cX4_fuel 32 = .ok (.istore_n 3, 1) := by decide +kernel
theorem d_X4_fuel_33 : decode cX4_fuel 33 = .ok (.aload_n 0, 1) := by decide +kernel
theorem d_X4_fuel_34 : decode cX4_fuel 34 = .ok (.invokevirtual 87, 3) := by decide +kernel
theorem d_X4_fuel_37 : decode cX4_fuel 37 = .ok (.aload_n 0, 1) := by decide +kernel
theorem d_X4_fuel_38 : decode cX4_fuel 38 = .ok (.getfield 16, 3) := by decide +kernel
theorem d_X4_fuel_41 : decode cX4_fuel 41 = .ok (.getfield 126, 3) := by decide +kernel
theorem d_X4_fuel_44 : decode cX4_fuel 44 = .ok (.iload_n 1, 1) := by decide +kernel
theorem d_X4_fuel_45 : decode cX4_fuel 45 = .ok (.iload_n 2, 1) := by decide +kernel
theorem d_X4_fuel_46 : decode cX4_fuel 46 = .ok (.invokestatic 133, 3) := by decide +kernel
theorem d_X4_fuel_49 : decode cX4_fuel 49 = .ok (.iload_n 3, 1) := by decide +kernel
theorem d_X4_fuel_50 : decode cX4_fuel 50 = .ok (.ireturn, 1) := by decide +kernel
abbrev rm_X4_fuel : Room := { frames := 7, cells := 2, slots := 12, locals := 111 }
set_option maxHeartbeats 4000000 in
set_option maxRecDepth 20000 in
theorem w_X4_fuel (l : Launch) (b : Wy) (hfl : l.stackTraces = false) {v1 : Int32} {v2 : Int32} {σ : Sg} {K : Int32 → Sg → Prop} {X : String → Sg → Prop}  (h : m_X4_fuel v1 v2 σ K X) : CtX l (wC b) yX4_fuel cX4_fuel 4 (some .int) rm_X4_fuel [.ref (wB (wC b) + 0), .int v1, .int v2] σ (PI K) X := by
  unfold m_X4_fuel at h
  refine CtX.of hfl (own := RX4) (by decide +kernel) rfl (Nat.le_of_ble_eq_true rfl) (fun x hx nh o => ?_)
  subst hx
  show J x (wC b) (FinX x (wC b) (PI K) X (2, 12)) 0 [(0, .ref (wB (wC b) + 0)), (1, .int v1), (2, .int v2)] [] (0, 0) σ
  refine J_aload_n o 0 d_X4_fuel_0 rfl ?_
  refine J_iload_n o 1 d_X4_fuel_1 rfl ?_
  refine J_callXV (k := 0) (c := 4) o [.int v1] rfl (by decide) (Nat.le_of_ble_eq_true rfl) (Nat.le_of_ble_eq_true rfl) mth_X4_needHelper iv_X4_needHelper ml_RX4_120 ⟨Nat.le_of_ble_eq_true rfl, Nat.le_of_ble_eq_true rfl⟩ rfl rfl (Nat.le_of_ble_eq_true rfl) ⟨Nat.le_of_ble_eq_true rfl, Nat.le_of_ble_eq_true rfl⟩ d_X4_fuel_2 (w_X4_needHelper (xL x) b nh.2  h) (fun E s9 hx => JT_out o nh ⟨Nat.le_of_ble_eq_true rfl, Nat.le_of_ble_eq_true rfl⟩ hx) (aV (fun s2 h => ?_))
  refine J_aload_n o 0 d_X4_fuel_5 rfl ?_
  refine J_iload_n o 2 d_X4_fuel_6 rfl ?_
  refine J_iconst (v := 0) o d_X4_fuel_7 iconst_0 ?_
  refine J_aload_n o 0 d_X4_fuel_8 rfl ?_
  refine J_getR (t := 2) o fl_RX4_16 rfl (Nat.le_of_ble_eq_true rfl) (Nat.le_of_ble_eq_true rfl) rfl rfl d_X4_fuel_9 ?_
  refine J_getI o fl_RX4_123 (W_kd W_2) (Nat.zero_le _) (W_hi W_2) rfl d_X4_fuel_12 ?_
  refine J_callS o [.int v2, .int 0, .int (s2 2 3)] mth_X4_isIn st_X4_isIn ml_RX4_74 ⟨Nat.le_of_ble_eq_true rfl, Nat.le_of_ble_eq_true rfl⟩ rfl rfl (Nat.le_of_ble_eq_true rfl) ⟨Nat.le_of_ble_eq_true rfl, Nat.le_of_ble_eq_true rfl⟩ d_X4_fuel_15 (w_X4_isIn (xL x) b  h) (aZ (fun r15 s15 hzr15 h => ?_))
  refine J_callXV (k := 0) (c := 4) o [.int r15] rfl (by decide) (Nat.le_of_ble_eq_true rfl) (Nat.le_of_ble_eq_true rfl) mth_X4_needNumber iv_X4_needNumber ml_RX4_78 ⟨Nat.le_of_ble_eq_true rfl, Nat.le_of_ble_eq_true rfl⟩ rfl rfl (Nat.le_of_ble_eq_true rfl) ⟨Nat.le_of_ble_eq_true rfl, Nat.le_of_ble_eq_true rfl⟩ d_X4_fuel_18 (w_X4_needNumber (xL x) b nh.2  h) (fun E s9 hx => JT_out o nh ⟨Nat.le_of_ble_eq_true rfl, Nat.le_of_ble_eq_true rfl⟩ hx) (aV (fun s18 h => ?_))
  refine J_aload_n o 0 d_X4_fuel_21 rfl ?_
  refine J_getR (t := 2) o fl_RX4_16 rfl (Nat.le_of_ble_eq_true rfl) (Nat.le_of_ble_eq_true rfl) rfl rfl d_X4_fuel_22 ?_
  refine J_getR (t := (2 + 2)) o fl_RX4_126 (W_kd W_2) (Nat.zero_le _) (W_hi W_2) rfl (W_t W_2 11 (by decide)) d_X4_fuel_25 ?_
  refine J_iload_n o 1 d_X4_fuel_28 rfl ?_
  refine J_callS o [.ref (wB (wC b) + (2 + 2)), .int v1] mth_X4_read st_X4_read ml_RX4_129 ⟨Nat.le_of_ble_eq_true rfl, Nat.le_of_ble_eq_true rfl⟩ rfl rfl (Nat.le_of_ble_eq_true rfl) ⟨Nat.le_of_ble_eq_true rfl, Nat.le_of_ble_eq_true rfl⟩ d_X4_fuel_29 (w_X4_read (xL x) b (W_A2 W_2) h) (aI (fun r29 s29 h => ?_))
  refine J_istore_n (lv' := [(3, .int r29), (0, .ref (wB (wC b) + 0)), (1, .int v1), (2, .int v2)]) o d_X4_fuel_32 (by decide) rfl ?_
  refine J_aload_n o 1 d_X4_fuel_33 rfl ?_
  refine J_callV (k := 0) (c := 4) o [] rfl (by decide) (Nat.le_of_ble_eq_true rfl) (Nat.le_of_ble_eq_true rfl) mth_X4_keepWorld iv_X4_keepWorld ml_RX4_87 ⟨Nat.le_of_ble_eq_true rfl, Nat.le_of_ble_eq_true rfl⟩ rfl rfl (Nat.le_of_ble_eq_true rfl) ⟨Nat.le_of_ble_eq_true rfl, Nat.le_of_ble_eq_true rfl⟩ d_X4_fuel_34 (w_X4_keepWorld (xL x) b  h) (aV (fun s34 h => ?_))
  refine J_aload_n o 1 d_X4_fuel_37 rfl ?_
  refine J_getR (t := 2) o fl_RX4_16 rfl (Nat.le_of_ble_eq_true rfl) (Nat.le_of_ble_eq_true rfl) rfl rfl d_X4_fuel_38 ?_
  refine J_getR (t := (2 + 2)) o fl_RX4_126 (W_kd W_2) (Nat.zero_le _) (W_hi W_2) rfl (W_t W_2 11 (by decide)) d_X4_fuel_41 ?_
  refine J_iload_n o 2 d_X4_fuel_44 rfl ?_
  refine J_iload_n o 3 d_X4_fuel_45 rfl ?_
  refine J_callS o [.ref (wB (wC b) + (2 + 2)), .int v1, .int v2] mth_X4_write st_X4_write ml_RX4_133 ⟨Nat.le_of_ble_eq_true rfl, Nat.le_of_ble_eq_true rfl⟩ rfl rfl (Nat.le_of_ble_eq_true rfl) ⟨Nat.le_of_ble_eq_true rfl, Nat.le_of_ble_eq_true rfl⟩ d_X4_fuel_46 (w_X4_write (xL x) b (W_A2 W_2) h) (aV (fun s46 h => ?_))
  refine J_iload_n o 0 d_X4_fuel_49 rfl ?_
  exact JX_ret ⟨Nat.le_of_ble_eq_true rfl, Nat.le_of_ble_eq_true rfl⟩ (J_iret o d_X4_fuel_50 ⟨_, rfl, h⟩)
theorem d_X4_wind_0 : decode cX4_wind 0 = .ok (.aload_n 0, 1) := by decide +kernel
theorem d_X4_wind_1 : decode cX4_wind 1 = .ok (.iload_n 1, 1) := by decide +kernel
theorem d_X4_wind_2 : decode cX4_wind 2 = .ok (.aload_n 0, 1) := by decide +kernel
theorem d_X4_wind_3 : decode cX4_wind 3 = .ok (.getfield 16, 3) := by decide +kernel
theorem d_X4_wind_6 : decode cX4_wind 6 = .ok (.getfield 106, 3) := by decide +kernel
theorem d_X4_wind_9 : decode cX4_wind 9 = .ok (.sipush 560, 3) := by decide +kernel
theorem d_X4_wind_12 : decode cX4_wind 12 = .ok (.invokestatic 74, 3) := by decide +kernel
theorem d_X4_wind_15 : decode cX4_wind 15 = .ok (.ifCond .eq 17, 3) := by decide +kernel
theorem d_X4_wind_18 : decode cX4_wind 18 = .ok (.iload_n 2, 1) := by decide +kernel
theorem d_X4_wind_19 : decode cX4_wind 19 = .ok (.iconst 0, 1) := by decide +kernel
theorem d_X4_wind_20 : decode cX4_wind 20 = .ok (.bipush 8, 2) := by decide +kernel
theorem d_X4_wind_22 : decode cX4_wind 22 = .ok (.invokestatic 74, 3) := by decide +kernel
theorem d_X4_wind_25 : decode cX4_wind 25 = .ok (.ifCond .eq 7, 3) := by decide +kernel
theorem d_X4_wind_28 : decode cX4_wind 28 = .ok (.iconst 1, 1) := by decide +kernel
theorem d_X4_wind_29 : decode cX4_wind 29 = .ok (.goto 4, 3) := by decide +kernel
theorem d_X4_wind_32 : decode cX4_wind 32 = .ok (.iconst 0, 1) := by decide +kernel
theorem d_X4_wind_33 : decode cX4_wind 33 = .ok (.invokevirtual 78, 3) := by decide +kernel
theorem d_X4_wind_36 : decode cX4_wind 36 = .ok (.aload_n 0, 1) := by decide +kernel
theorem d_X4_wind_37 : decode cX4_wind 37 = .ok (.getfield 16, 3) := by decide +kernel
theorem d_X4_wind_40 : decode cX4_wind 40 = .ok (.iload_n 1, 1) := by decide +kernel
theorem d_X4_wind_41 : decode cX4_wind 41 = .ok (.invokevirtual 137, 3) := by decide +kernel
theorem d_X4_wind_44 : decode cX4_wind 44 = .ok (.istore_n 3, 1) := by decide +kernel
theorem d_X4_wind_45 : decode cX4_wind 45 = .ok (.aload_n 0, 1) := by decide +kernel
theorem d_X4_wind_46 : decode cX4_wind 46 = .ok (.invokevirtual 87, 3) := by decide +kernel
theorem d_X4_wind_49 : decode cX4_wind 49 = .ok (.aload_n 0, 1) := by decide +kernel
theorem d_X4_wind_50 : decode cX4_wind 50 = .ok (.getfield 16, 3) := by decide +kernel
theorem d_X4_wind_53 : decode cX4_wind 53 = .ok (.getfield 140, 3) := by decide +kernel
theorem d_X4_wind_56 : decode cX4_wind 56 = .ok (.iload_n 1, 1) := by decide +kernel
theorem d_X4_wind_57 : decode cX4_wind 57 = .ok (.iload_n 2, 1) := by decide +kernel
theorem d_X4_wind_58 : decode cX4_wind 58 = .ok (.invokestatic 133, 3) := by decide +kernel
theorem d_X4_wind_61 : decode cX4_wind 61 = .ok (.iload_n 3, 1) := by decide +kernel
theorem d_X4_wind_62 : decode cX4_wind 62 = .ok (.ireturn, 1) := by decide +kernel
abbrev rm_X4_wind : Room := { frames := 7, cells := 1, slots := 6, locals := 111 }
set_option maxHeartbeats 4000000 in
set_option maxRecDepth 20000 in
theorem c_X4_wind_33 {x : Cx} {b : Wy} (o : Ok x (wC b) cX4_wind 4 RX4 (some .int) rm_X4_wind) (nh : NoH x) {v1 : Int32} {v2 : Int32} {K : Int32 → Sg → Prop} {X : String → Sg → Prop}   : ∀ (k1 : Int32) (σ : Sg), m_X4_wind_j33 v1 v2 K X  k1 σ → J x (wC b) (FinX x (wC b) (PI K) X (1, 6)) 33 [(0, .ref (wB (wC b) + 0)), (1, .int v1), (2, .int v2)] [.int k1, .ref (wB (wC b) + 0)] (0, 0) σ := by
  intro k1 σ  h
  unfold m_X4_wind_j33 at h
  refine J_callXV (k := 0) (c := 4) o [.int k1] rfl (by decide) (Nat.le_of_ble_eq_true rfl) (Nat.le_of_ble_eq_true rfl) mth_X4_needNumber iv_X4_needNumber ml_RX4_78 ⟨Nat.le_of_ble_eq_true rfl, Nat.le_of_ble_eq_true rfl⟩ rfl rfl (Nat.le_of_ble_eq_true rfl) ⟨Nat.le_of_ble_eq_true rfl, Nat.le_of_ble_eq_true rfl⟩ d_X4_wind_33 (w_X4_needNumber (xL x) b nh.2  h) (fun E s9 hx => JT_out o nh ⟨Nat.le_of_ble_eq_true rfl, Nat.le_of_ble_eq_true rfl⟩ hx) (aV (fun s33 h => ?_))
  refine J_aload_n o 0 d_X4_wind_36 rfl ?_
  refine J_getR (t := 2) o fl_RX4_16 rfl (Nat.le_of_ble_eq_true rfl) (Nat.le_of_ble_eq_true rfl) rfl rfl d_X4_wind_37 ?_
  refine J_iload_n o 1 d_X4_wind_40 rfl ?_
  refine J_callV (k := 2) (c := 3) o [.int v1] (W_kd W_2) (by decide) (Nat.zero_le _) (W_hi W_2) mth_X3_windOf iv_X3_windOf ml_RX4_137 ⟨Nat.le_of_ble_eq_true rfl, Nat.le_of_ble_eq_true rfl⟩ rfl rfl (Nat.le_of_ble_eq_true rfl) ⟨Nat.le_of_ble_eq_true rfl, Nat.le_of_ble_eq_true rfl⟩ d_X4_wind_41 (w_X3_windOf (xL x) b W_2 h) (aI (fun r41 s41 h => ?_))
  refine J_istore_n (lv' := [(3, .int r41), (0, .ref (wB (wC b) + 0)), (1, .int v1), (2, .int v2)]) o d_X4_wind_44 (by decide) rfl ?_
  refine J_aload_n o 1 d_X4_wind_45 rfl ?_
  refine J_callV (k := 0) (c := 4) o [] rfl (by decide) (Nat.le_of_ble_eq_true rfl) (Nat.le_of_ble_eq_true rfl) mth_X4_keepWorld iv_X4_keepWorld ml_RX4_87 ⟨Nat.le_of_ble_eq_true rfl, Nat.le_of_ble_eq_true rfl⟩ rfl rfl (Nat.le_of_ble_eq_true rfl) ⟨Nat.le_of_ble_eq_true rfl, Nat.le_of_ble_eq_true rfl⟩ d_X4_wind_46 (w_X4_keepWorld (xL x) b  h) (aV (fun s46 h => ?_))
  refine J_aload_n o 1 d_X4_wind_49 rfl ?_
  refine J_getR (t := 2) o fl_RX4_16 rfl (Nat.le_of_ble_eq_true rfl) (Nat.le_of_ble_eq_true rfl) rfl rfl d_X4_wind_50 ?_
  refine J_getR (t := (2 + 7)) o fl_RX4_140 (W_kd W_2) (Nat.zero_le _) (W_hi W_2) rfl (W_t W_2 16 (by decide)) d_X4_wind_53 ?_
  refine J_iload_n o 2 d_X4_wind_56 rfl ?_
  refine J_iload_n o 3 d_X4_wind_57 rfl ?_
  refine J_callS o [.ref (wB (wC b) + (2 + 7)), .int v1, .int v2] mth_X4_write st_X4_write ml_RX4_133 ⟨Nat.le_of_ble_eq_true rfl, Nat.le_of_ble_eq_true rfl⟩ rfl rfl (Nat.le_of_ble_eq_true rfl) ⟨Nat.le_of_ble_eq_true rfl, Nat.le_of_ble_eq_true rfl⟩ d_X4_wind_58 (w_X4_write (xL x) b (W_A7 W_2) h) (aV (fun s58 h => ?_))
  refine J_iload_n o 0 d_X4_wind_61 rfl ?_
  exact JX_ret ⟨Nat.le_of_ble_eq_true rfl, Nat.le_of_ble_eq_true rfl⟩ (J_iret o d_X4_wind_62 ⟨_, rfl, h⟩)
set_option maxHeartbeats 4000000 in
set_option maxRecDepth 20000 in
theorem w_X4_wind (l : Launch) (b : Wy) (hfl : l.stackTraces = false) {v1 : Int32} {v2 : Int32} {σ : Sg} {K : Int32 → Sg → Prop} {X : String → Sg → Prop}  (h : m_X4_wind v1 v2 σ K X) : CtX l (wC b) yX4_wind cX4_wind 4 (some .int) rm_X4_wind [.ref (wB (wC b) + 0), .int v1, .int v2] σ (PI K) X := by
  unfold m_X4_wind at h
  refine CtX.of hfl (own := RX4) (by decide +kernel) rfl (Nat.le_of_ble_eq_true rfl) (fun x hx nh o => ?_)
  subst hx
  show J x (wC b) (FinX x (wC b) (PI K) X (1, 6)) 0 [(0, .ref (wB (wC b) + 0)), (1, .int v1), (2, .int v2)] [] (0, 0) σ
  refine J_aload_n o 0 d_X4_wind_0 rfl ?_
  refine J_iload_n o 1 d_X4_wind_1 rfl ?_
  refine J_aload_n o 0 d_X4_wind_2 rfl ?_
  refine J_getR (t := 2) o fl_RX4_16 rfl (Nat.le_of_ble_eq_true rfl) (Nat.le_of_ble_eq_true rfl) rfl rfl d_X4_wind_3 ?_
  refine J_getI o fl_RX4_106 (W_kd W_2) (Nat.zero_le _) (W_hi W_2) rfl d_X4_wind_6 ?_
  refine J_sipush (v := 560) o d_X4_wind_9 sipush_560 ?_
  refine J_callS o [.int v1, .int (σ 2 2), .int 560] mth_X4_isIn st_X4_isIn ml_RX4_74 ⟨Nat.le_of_ble_eq_true rfl, Nat.le_of_ble_eq_true rfl⟩ rfl rfl (Nat.le_of_ble_eq_true rfl) ⟨Nat.le_of_ble_eq_true rfl, Nat.le_of_ble_eq_true rfl⟩ d_X4_wind_12 (w_X4_isIn (xL x) b  h) (aZ (fun r12 s12 hzr12 h => ?_))
  refine J_if_eq o 32 d_X4_wind_15 rfl (fun c15 => ?_) (fun c15 => ?_)
  · replace h := h.1 c15
    refine J_iconst (v := 0) o d_X4_wind_32 iconst_0 ?_
    exact c_X4_wind_33 o nh   0 s12  h
  · replace h := h.2 c15
    refine J_iload_n o 2 d_X4_wind_18 rfl ?_
    refine J_iconst (v := 0) o d_X4_wind_19 iconst_0 ?_
    refine J_bipush (v := 8) o d_X4_wind_20 bipush_8 ?_
    refine J_callS o [.int v2, .int 0, .int 8] mth_X4_isIn st_X4_isIn ml_RX4_74 ⟨Nat.le_of_ble_eq_true rfl, Nat.le_of_ble_eq_true rfl⟩ rfl rfl (Nat.le_of_ble_eq_true rfl) ⟨Nat.le_of_ble_eq_true rfl, Nat.le_of_ble_eq_true rfl⟩ d_X4_wind_22 (w_X4_isIn (xL x) b  h) (aZ (fun r22 s22 hzr22 h => ?_))
    refine J_if_eq o 32 d_X4_wind_25 rfl (fun c25 => ?_) (fun c25 => ?_)
    · replace h := h.1 c25
      refine J_iconst (v := 0) o d_X4_wind_32 iconst_0 ?_
      exact c_X4_wind_33 o nh   0 s22  h
    · replace h := h.2 c25
      refine J_iconst (v := 1) o d_X4_wind_28 iconst_1 ?_
      refine J_goto o 33 d_X4_wind_29 rfl ?_
      exact c_X4_wind_33 o nh   1 s22  h
theorem d_X4_told_0 : decode cX4_told 0 = .ok (.aload_n 0, 1) := by decide +kernel
theorem d_X4_told_1 : decode cX4_told 1 = .ok (.iload_n 1, 1) := by decide +kernel
theorem d_X4_told_2 : decode cX4_told 2 = .ok (.iconst 0, 1) := by decide +kernel
theorem d_X4_told_3 : decode cX4_told 3 = .ok (.bipush 12, 2) := by decide +kernel
theorem d_X4_told_5 : decode cX4_told 5 = .ok (.invokestatic 74, 3) := by decide +kernel
theorem d_X4_told_8 : decode cX4_told 8 = .ok (.invokevirtual 78, 3) := by decide +kernel
theorem d_X4_told_11 : decode cX4_told 11 = .ok (.iload_n 1, 1) := by decide +kernel
theorem d_X4_told_12 : decode cX4_told 12 = .ok (.tableswitch 185 0 11 #[64, 72, 80, 88, 96, 104, 112, 120, 135, 150, 165, 180], 64) := by decide +kernel
theorem d_X4_told_76 : decode cX4_told 76 = .ok (.aload_n 0, 1) := by decide +kernel
theorem d_X4_told_77 : decode cX4_told 77 = .ok (.getfield 16, 3) := by decide +kernel
theorem d_X4_told_80 : decode cX4_told 80 = .ok (.getfield 150, 3) := by decide +kernel
theorem d_X4_told_83 : decode cX4_told 83 = .ok (.ireturn, 1) := by decide +kernel
theorem d_X4_told_84 : decode cX4_told 84 = .ok (.aload_n 0, 1) := by decide +kernel
theorem d_X4_told_85 : decode cX4_told 85 = .ok (.getfield 16, 3) := by decide +kernel
theorem d_X4_told_88 : decode cX4_told 88 = .ok (.getfield 153, 3) := by decide +kernel
theorem d_X4_told_91 : decode cX4_told 91 = .ok (.ireturn, 1) := by decide +kernel
theorem d_X4_told_92 : decode cX4_told 92 = .ok (.aload_n 0, 1) := by decide +kernel
theorem d_X4_told_93 : decode cX4_told 93 = .ok (.getfield 16, 3) := by decide +kernel
theorem d_X4_told_96 : decode cX4_told 96 = .ok (.getfield 106, 3) := by decide +kernel
theorem d_X4_told_99 : decode cX4_told 99 = .ok (.ireturn, 1) := by decide +kernel
theorem d_X4_told_100 : decode cX4_told 100 = .ok (.aload_n 0, 1) := by decide +kernel
theorem d_X4_told_101 : decode cX4_told 101 = .ok (.getfield 16, 3) := by decide +kernel
theorem d_X4_told_104 : decode cX4_told 104 = .ok (.getfield 93, 3) := by decide +kernel
theorem d_X4_told_107 : decode cX4_told 107 = .ok (.ireturn, 1) := by decide +kernel
theorem d_X4_told_108 : decode cX4_told 108 = .ok (.aload_n 0, 1) := by decide +kernel
theorem d_X4_told_109 : decode cX4_told 109 = .ok (.getfield 16, 3) := by decide +kernel
theorem d_X4_told_112 : decode cX4_told 112 = .ok (.getfield 123, 3) := by decide +kernel
theorem d_X4_told_115 : decode cX4_told 115 = .ok (.ireturn, 1) := by decide +kernel
theorem d_X4_told_116 : decode cX4_told 116 = .ok (.aload_n 0, 1) := by decide +kernel
theorem d_X4_told_117 : decode cX4_told 117 = .ok (.getfield 16, 3) := by decide +kernel
theorem d_X4_told_120 : decode cX4_told 120 = .ok (.getfield 156, 3) := by decide +kernel
theorem d_X4_told_123 : decode cX4_told 123 = .ok (.ireturn, 1) := by decide +kernel
theorem d_X4_told_124 : decode cX4_told 124 = .ok (.aload_n 0, 1) := by decide +kernel
theorem d_X4_told_125 : decode cX4_told 125 = .ok (.getfield 16, 3) := by decide +kernel
theorem d_X4_told_128 : decode cX4_told 128 = .ok (.invokevirtual 159, 3) := by decide +kernel
theorem d_X4_told_131 : decode cX4_told 131 = .ok (.ireturn, 1) := by decide +kernel
theorem d_X4_told_132 : decode cX4_told 132 = .ok (.aload_n 0, 1) := by decide +kernel
theorem d_X4_told_133 : decode cX4_told 133 = .ok (.getfield 16, 3) := by decide +kernel
theorem d_X4_told_136 : decode cX4_told 136 = .ok (.aload_n 0, 1) := by decide +kernel
theorem d_X4_told_137 : decode cX4_told 137 = .ok (.getfield 16, 3) := by decide +kernel
theorem d_X4_told_140 : decode cX4_told 140 = .ok (.getfield 162, 3) := by decide +kernel
theorem d_X4_told_143 : decode cX4_told 143 = .ok (.invokevirtual 165, 3) := by decide +kernel
theorem d_X4_told_146 : decode cX4_told 146 = .ok (.ireturn, 1) := by decide +kernel
theorem d_X4_told_147 : decode cX4_told 147 = .ok (.aload_n 0, 1) := by decide +kernel
theorem d_X4_told_148 : decode cX4_told 148 = .ok (.getfield 16, 3) := by decide +kernel
theorem d_X4_told_151 : decode cX4_told 151 = .ok (.aload_n 0, 1) := by decide +kernel
theorem d_X4_told_152 : decode cX4_told 152 = .ok (.getfield 16, 3) := by decide +kernel
theorem d_X4_told_155 : decode cX4_told 155 = .ok (.getfield 162, 3) := by decide +kernel
theorem d_X4_told_158 : decode cX4_told 158 = .ok (.invokevirtual 168, 3) := by decide +kernel
theorem d_X4_told_161 : decode cX4_told 161 = .ok (.ireturn, 1) := by decide +kernel
theorem d_X4_told_162 : decode cX4_told 162 = .ok (.aload_n 0, 1) := by decide +kernel
theorem d_X4_told_163 : decode cX4_told 163 = .ok (.getfield 16, 3) := by decide +kernel
theorem d_X4_told_166 : decode cX4_told 166 = .ok (.aload_n 0, 1) := by decide +kernel
theorem d_X4_told_167 : decode cX4_told 167 = .ok (.getfield 16, 3) := by decide +kernel
theorem d_X4_told_170 : decode cX4_told 170 = .ok (.getfield 171, 3) := by decide +kernel
theorem d_X4_told_173 : decode cX4_told 173 = .ok (.invokevirtual 165, 3) := by decide +kernel
theorem d_X4_told_176 : decode cX4_told 176 = .ok (.ireturn, 1) := by decide +kernel
theorem d_X4_told_177 : decode cX4_told 177 = .ok (.aload_n 0, 1) := by decide +kernel
theorem d_X4_told_178 : decode cX4_told 178 = .ok (.getfield 16, 3) := by decide +kernel
theorem d_X4_told_181 : decode cX4_told 181 = .ok (.aload_n 0, 1) := by decide +kernel
theorem d_X4_told_182 : decode cX4_told 182 = .ok (.getfield 16, 3) := by decide +kernel
theorem d_X4_told_185 : decode cX4_told 185 = .ok (.getfield 171, 3) := by decide +kernel
theorem d_X4_told_188 : decode cX4_told 188 = .ok (.invokevirtual 168, 3) := by decide +kernel
theorem d_X4_told_191 : decode cX4_told 191 = .ok (.ireturn, 1) := by decide +kernel
theorem d_X4_told_192 : decode cX4_told 192 = .ok (.aload_n 0, 1) := by decide +kernel
theorem d_X4_told_193 : decode cX4_told 193 = .ok (.getfield 45, 3) := by decide +kernel
theorem d_X4_told_196 : decode cX4_told 196 = .ok (.ireturn, 1) := by decide +kernel
theorem d_X4_told_197 : decode cX4_told 197 = .ok (.aload_n 0, 1) := by decide +kernel
theorem d_X4_told_198 : decode cX4_told 198 = .ok (.getfield 55, 3) := by decide +kernel
theorem d_X4_told_201 : decode cX4_told 201 = .ok (.ireturn, 1) := by decide +kernel
abbrev rm_X4_told : Room := { frames := 7, cells := 1, slots := 6, locals := 111 }
set_option maxHeartbeats 4000000 in
set_option maxRecDepth 20000 in
theorem w_X4_told (l : Launch) (b : Wy) (hfl : l.stackTraces = false) {v1 : Int32} {σ : Sg} {K : Int32 → Sg → Prop} {X : String → Sg → Prop}  (h : m_X4_told v1 σ K X) : CtX l (wC b) yX4_told cX4_told 2 (some .int) rm_X4_told [.ref (wB (wC b) + 0), .int v1] σ (PI K) X := by
  unfold m_X4_told at h
  refine CtX.of hfl (own := RX4) (by decide +kernel) rfl (Nat.le_of_ble_eq_true rfl) (fun x hx nh o => ?_)
  subst hx
  show J x (wC b) (FinX x (wC b) (PI K) X (1, 6)) 0 [(0, .ref (wB (wC b) + 0)), (1, .int v1)] [] (0, 0) σ
  refine J_aload_n o 0 d_X4_told_0 rfl ?_
  refine J_iload_n o 1 d_X4_told_1 rfl ?_
  refine J_iconst (v := 0) o d_X4_told_2 iconst_0 ?_
  refine J_bipush (v := 12) o d_X4_told_3 bipush_12 ?_
  refine J_callS o [.int v1, .int 0, .int 12] mth_X4_isIn st_X4_isIn ml_RX4_74 ⟨Nat.le_of_ble_eq_true rfl, Nat.le_of_ble_eq_true rfl⟩ rfl rfl (Nat.le_of_ble_eq_true rfl) ⟨Nat.le_of_ble_eq_true rfl, Nat.le_of_ble_eq_true rfl⟩ d_X4_told_5 (w_X4_isIn (xL x) b  h) (aZ (fun r5 s5 hzr5 h => ?_))
  refine J_callXV (k := 0) (c := 4) o [.int r5] rfl (by decide) (Nat.le_of_ble_eq_true rfl) (Nat.le_of_ble_eq_true rfl) mth_X4_needNumber iv_X4_needNumber ml_RX4_78 ⟨Nat.le_of_ble_eq_true rfl, Nat.le_of_ble_eq_true rfl⟩ rfl rfl (Nat.le_of_ble_eq_true rfl) ⟨Nat.le_of_ble_eq_true rfl, Nat.le_of_ble_eq_true rfl⟩ d_X4_told_8 (w_X4_needNumber (xL x) b nh.2  h) (fun E s9 hx => JT_out o nh ⟨Nat.le_of_ble_eq_true rfl, Nat.le_of_ble_eq_true rfl⟩ hx) (aV (fun s8 h => ?_))
  refine J_iload_n o 1 d_X4_told_11 rfl ?_
  rcases tsw0_12 v1 with c12 | c12 | c12 | c12 | c12 | c12 | c12 | c12 | c12 | c12 | c12 | c12 | c12
  · replace h := h.1 c12
    refine J_tswOut o 197 d_X4_told_12 (tswO0_12 c12) rfl ?_
    refine J_aload_n o 0 d_X4_told_197 rfl ?_
    refine J_getI o fl_RX4_55 rfl (Nat.le_of_ble_eq_true rfl) (Nat.le_of_ble_eq_true rfl) rfl d_X4_told_198 ?_
    exact JX_ret ⟨Nat.le_of_ble_eq_true rfl, Nat.le_of_ble_eq_true rfl⟩ (J_iret o d_X4_told_201 ⟨_, rfl, h⟩)
  · replace h := h.2.1 c12
    refine J_tswIn o 0 c12 76 d_X4_told_12 (by decide) (by decide) rfl rfl ?_
    refine J_aload_n o 0 d_X4_told_76 rfl ?_
    refine J_getR (t := 2) o fl_RX4_16 rfl (Nat.le_of_ble_eq_true rfl) (Nat.le_of_ble_eq_true rfl) rfl rfl d_X4_told_77 ?_
    refine J_getI o fl_RX4_150 (W_kd W_2) (Nat.zero_le _) (W_hi W_2) rfl d_X4_told_80 ?_
    exact JX_ret ⟨Nat.le_of_ble_eq_true rfl, Nat.le_of_ble_eq_true rfl⟩ (J_iret o d_X4_told_83 ⟨_, rfl, h⟩)
  · replace h := h.2.2.1 c12
    refine J_tswIn o 1 c12 84 d_X4_told_12 (by decide) (by decide) rfl rfl ?_
    refine J_aload_n o 0 d_X4_told_84 rfl ?_
    refine J_getR (t := 2) o fl_RX4_16 rfl (Nat.le_of_ble_eq_true rfl) (Nat.le_of_ble_eq_true rfl) rfl rfl d_X4_told_85 ?_
    refine J_getI o fl_RX4_153 (W_kd W_2) (Nat.zero_le _) (W_hi W_2) rfl d_X4_told_88 ?_
    exact JX_ret ⟨Nat.le_of_ble_eq_true rfl, Nat.le_of_ble_eq_true rfl⟩ (J_iret o d_X4_told_91 ⟨_, rfl, h⟩)
  · replace h := h.2.2.2.1 c12
    refine J_tswIn o 2 c12 92 d_X4_told_12 (by decide) (by decide) rfl rfl ?_
    refine J_aload_n o 0 d_X4_told_92 rfl ?_
    refine J_getR (t := 2) o fl_RX4_16 rfl (Nat.le_of_ble_eq_true rfl) (Nat.le_of_ble_eq_true rfl) rfl rfl d_X4_told_93 ?_
    refine J_getI o fl_RX4_106 (W_kd W_2) (Nat.zero_le _) (W_hi W_2) rfl d_X4_told_96 ?_
    exact JX_ret ⟨Nat.le_of_ble_eq_true rfl, Nat.le_of_ble_eq_true rfl⟩ (J_iret o d_X4_told_99 ⟨_, rfl, h⟩)
  · replace h := h.2.2.2.2.1 c12
    refine J_tswIn o 3 c12 100 d_X4_told_12 (by decide) (by decide) rfl rfl ?_
    refine J_aload_n o 0 d_X4_told_100 rfl ?_
    refine J_getR (t := 2) o fl_RX4_16 rfl (Nat.le_of_ble_eq_true rfl) (Nat.le_of_ble_eq_true rfl) rfl rfl d_X4_told_101 ?_
    refine J_getI o fl_RX4_93 (W_kd W_2) (Nat.zero_le _) (W_hi W_2) rfl d_X4_told_104 ?_
    exact JX_ret ⟨Nat.le_of_ble_eq_true rfl, Nat.le_of_ble_eq_true rfl⟩ (J_iret o d_X4_told_107 ⟨_, rfl, h⟩)
  · replace h := h.2.2.2.2.2.1 c12
    refine J_tswIn o 4 c12 108 d_X4_told_12 (by decide) (by decide) rfl rfl ?_
    refine J_aload_n o 0 d_X4_told_108 rfl ?_
    refine J_getR (t := 2) o fl_RX4_16 rfl (Nat.le_of_ble_eq_true rfl) (Nat.le_of_ble_eq_true rfl) rfl rfl d_X4_told_109 ?_
    refine J_getI o fl_RX4_123 (W_kd W_2) (Nat.zero_le _) (W_hi W_2) rfl d_X4_told_112 ?_
    exact JX_ret ⟨Nat.le_of_ble_eq_true rfl, Nat.le_of_ble_eq_true rfl⟩ (J_iret o d_X4_told_115 ⟨_, rfl, h⟩)
  · replace h := h.2.2.2.2.2.2.1 c12
    refine J_tswIn o 5 c12 116 d_X4_told_12 (by decide) (by decide) rfl rfl ?_
    refine J_aload_n o 0 d_X4_told_116 rfl ?_
    refine J_getR (t := 2) o fl_RX4_16 rfl (Nat.le_of_ble_eq_true rfl) (Nat.le_of_ble_eq_true rfl) rfl rfl d_X4_told_117 ?_
    refine J_getI o fl_RX4_156 (W_kd W_2) (Nat.zero_le _) (W_hi W_2) rfl d_X4_told_120 ?_
    exact JX_ret ⟨Nat.le_of_ble_eq_true rfl, Nat.le_of_ble_eq_true rfl⟩ (J_iret o d_X4_told_123 ⟨_, rfl, h⟩)
  · replace h := h.2.2.2.2.2.2.2.1 c12
    refine J_tswIn o 6 c12 124 d_X4_told_12 (by decide) (by decide) rfl rfl ?_
    refine J_aload_n o 0 d_X4_told_124 rfl ?_
    refine J_getR (t := 2) o fl_RX4_16 rfl (Nat.le_of_ble_eq_true rfl) (Nat.le_of_ble_eq_true rfl) rfl rfl d_X4_told_125 ?_
    refine J_callV (k := 2) (c := 3) o [] (W_kd W_2) (by decide) (Nat.zero_le _) (W_hi W_2) mth_X3_countLand iv_X3_countLand ml_RX4_159 ⟨Nat.le_of_ble_eq_true rfl, Nat.le_of_ble_eq_true rfl⟩ rfl rfl (Nat.le_of_ble_eq_true rfl) ⟨Nat.le_of_ble_eq_true rfl, Nat.le_of_ble_eq_true rfl⟩ d_X4_told_128 (w_X3_countLand (xL x) b W_2 h) (aI (fun r128 s128 h => ?_))
    exact JX_ret ⟨Nat.le_of_ble_eq_true rfl, Nat.le_of_ble_eq_true rfl⟩ (J_iret o d_X4_told_131 ⟨_, rfl, h⟩)
  · replace h := h.2.2.2.2.2.2.2.2.1 c12
    refine J_tswIn o 7 c12 132 d_X4_told_12 (by decide) (by decide) rfl rfl ?_
    refine J_aload_n o 0 d_X4_told_132 rfl ?_
    refine J_getR (t := 2) o fl_RX4_16 rfl (Nat.le_of_ble_eq_true rfl) (Nat.le_of_ble_eq_true rfl) rfl rfl d_X4_told_133 ?_
    refine J_aload_n o 0 d_X4_told_136 rfl ?_
    refine J_getR (t := 2) o fl_RX4_16 rfl (Nat.le_of_ble_eq_true rfl) (Nat.le_of_ble_eq_true rfl) rfl rfl d_X4_told_137 ?_
    refine J_getI o fl_RX4_162 (W_kd W_2) (Nat.zero_le _) (W_hi W_2) rfl d_X4_told_140 ?_
    refine J_callV (k := 2) (c := 3) o [.int (s8 2 5)] (W_kd W_2) (by decide) (Nat.zero_le _) (W_hi W_2) mth_X3_xOf iv_X3_xOf ml_RX4_165 ⟨Nat.le_of_ble_eq_true rfl, Nat.le_of_ble_eq_true rfl⟩ rfl rfl (Nat.le_of_ble_eq_true rfl) ⟨Nat.le_of_ble_eq_true rfl, Nat.le_of_ble_eq_true rfl⟩ d_X4_told_143 (w_X3_xOf (xL x) b W_2 h) (aI (fun r143 s143 h => ?_))
    exact JX_ret ⟨Nat.le_of_ble_eq_true rfl, Nat.le_of_ble_eq_true rfl⟩ (J_iret o d_X4_told_146 ⟨_, rfl, h⟩)
  · replace h := h.2.2.2.2.2.2.2.2.2.1 c12
    refine J_tswIn o 8 c12 147 d_X4_told_12 (by decide) (by decide) rfl rfl ?_
    refine J_aload_n o 0 d_X4_told_147 rfl ?_
    refine J_getR (t := 2) o fl_RX4_16 rfl (Nat.le_of_ble_eq_true rfl) (Nat.le_of_ble_eq_true rfl) rfl rfl d_X4_told_148 ?_
    refine J_aload_n o 0 d_X4_told_151 rfl ?_
    refine J_getR (t := 2) o fl_RX4_16 rfl (Nat.le_of_ble_eq_true rfl) (Nat.le_of_ble_eq_true rfl) rfl rfl d_X4_told_152 ?_
    refine J_getI o fl_RX4_162 (W_kd W_2) (Nat.zero_le _) (W_hi W_2) rfl d_X4_told_155 ?_
    refine J_callV (k := 2) (c := 3) o [.int (s8 2 5)] (W_kd W_2) (by decide) (Nat.zero_le _) (W_hi W_2) mth_X3_yOf iv_X3_yOf ml_RX4_168 ⟨Nat.le_of_ble_eq_true rfl, Nat.le_of_ble_eq_true rfl⟩ rfl rfl (Nat.le_of_ble_eq_true rfl) ⟨Nat.le_of_ble_eq_true rfl, Nat.le_of_ble_eq_true rfl⟩ d_X4_told_158 (w_X3_yOf (xL x) b W_2 h) (aI (fun r158 s158 h => ?_))
    exact JX_ret ⟨Nat.le_of_ble_eq_true rfl, Nat.le_of_ble_eq_true rfl⟩ (J_iret o d_X4_told_161 ⟨_, rfl, h⟩)
  · replace h := h.2.2.2.2.2.2.2.2.2.2.1 c12
    refine J_tswIn o 9 c12 162 d_X4_told_12 (by decide) (by decide) rfl rfl ?_
    refine J_aload_n o 0 d_X4_told_162 rfl ?_
    refine J_getR (t := 2) o fl_RX4_16 rfl (Nat.le_of_ble_eq_true rfl) (Nat.le_of_ble_eq_true rfl) rfl rfl d_X4_told_163 ?_
    refine J_aload_n o 0 d_X4_told_166 rfl ?_
    refine J_getR (t := 2) o fl_RX4_16 rfl (Nat.le_of_ble_eq_true rfl) (Nat.le_of_ble_eq_true rfl) rfl rfl d_X4_told_167 ?_
    refine J_getI o fl_RX4_171 (W_kd W_2) (Nat.zero_le _) (W_hi W_2) rfl d_X4_told_170 ?_
    refine J_callV (k := 2) (c := 3) o [.int (s8 2 6)] (W_kd W_2) (by decide) (Nat.zero_le _) (W_hi W_2) mth_X3_xOf iv_X3_xOf ml_RX4_165 ⟨Nat.le_of_ble_eq_true rfl, Nat.le_of_ble_eq_true rfl⟩ rfl rfl (Nat.le_of_ble_eq_true rfl) ⟨Nat.le_of_ble_eq_true rfl, Nat.le_of_ble_eq_true rfl⟩ d_X4_told_173 (w_X3_xOf (xL x) b W_2 h) (aI (fun r173 s173 h => ?_))
    exact JX_ret ⟨Nat.le_of_ble_eq_true rfl, Nat.le_of_ble_eq_true rfl⟩ (J_iret o d_X4_told_176 ⟨_, rfl, h⟩)
  · replace h := h.2.2.2.2.2.2.2.2.2.2.2.1 c12
    refine J_tswIn o 10 c12 177 d_X4_told_12 (by decide) (by decide) rfl rfl ?_
    refine J_aload_n o 0 d_X4_told_177 rfl ?_
    refine J_getR (t := 2) o fl_RX4_16 rfl (Nat.le_of_ble_eq_true rfl) (Nat.le_of_ble_eq_true rfl) rfl rfl d_X4_told_178 ?_
    refine J_aload_n o 0 d_X4_told_181 rfl ?_
    refine J_getR (t := 2) o fl_RX4_16 rfl (Nat.le_of_ble_eq_true rfl) (Nat.le_of_ble_eq_true rfl) rfl rfl d_X4_told_182 ?_
    refine J_getI o fl_RX4_171 (W_kd W_2) (Nat.zero_le _) (W_hi W_2) rfl d_X4_told_185 ?_
    refine J_callV (k := 2) (c := 3) o [.int (s8 2 6)] (W_kd W_2) (by decide) (Nat.zero_le _) (W_hi W_2) mth_X3_yOf iv_X3_yOf ml_RX4_168 ⟨Nat.le_of_ble_eq_true rfl, Nat.le_of_ble_eq_true rfl⟩ rfl rfl (Nat.le_of_ble_eq_true rfl) ⟨Nat.le_of_ble_eq_true rfl, Nat.le_of_ble_eq_true rfl⟩ d_X4_told_188 (w_X3_yOf (xL x) b W_2 h) (aI (fun r188 s188 h => ?_))
    exact JX_ret ⟨Nat.le_of_ble_eq_true rfl, Nat.le_of_ble_eq_true rfl⟩ (J_iret o d_X4_told_191 ⟨_, rfl, h⟩)
  · replace h := h.2.2.2.2.2.2.2.2.2.2.2.2 c12
    refine J_tswIn o 11 c12 192 d_X4_told_12 (by decide) (by decide) rfl rfl ?_
    refine J_aload_n o 0 d_X4_told_192 rfl ?_
    refine J_getI o fl_RX4_45 rfl (Nat.le_of_ble_eq_true rfl) (Nat.le_of_ble_eq_true rfl) rfl d_X4_told_193 ?_
    exact JX_ret ⟨Nat.le_of_ble_eq_true rfl, Nat.le_of_ble_eq_true rfl⟩ (J_iret o d_X4_told_196 ⟨_, rfl, h⟩)
theorem d_X4_cell_0 : decode cX4_cell 0 = .ok (.aload_n 0, 1) := by decide +kernel
theorem d_X4_cell_1 : decode cX4_cell 1 = .ok (.aload_n 0, 1) := by decide +kernel
theorem d_X4_cell_2 : decode cX4_cell 2 = .ok (.getfield 16, 3) := by decide +kernel
theorem d_X4_cell_5 : decode cX4_cell 5 = .ok (.iload_n 1, 1) := by decide +kernel
theorem d_X4_cell_6 : decode cX4_cell 6 = .ok (.iload_n 2, 1) := by decide +kernel
theorem d_X4_cell_7 : decode cX4_cell 7 = .ok (.invokevirtual 174, 3) := by decide +kernel
theorem d_X4_cell_10 : decode cX4_cell 10 = .ok (.ifCond .eq 16, 3) := by decide +kernel
theorem d_X4_cell_13 : decode cX4_cell 13 = .ok (.iload_n 3, 1) := by decide +kernel
theorem d_X4_cell_14 : decode cX4_cell 14 = .ok (.iconst 0, 1) := by decide +kernel
theorem d_X4_cell_15 : decode cX4_cell 15 = .ok (.iconst 1, 1) := by decide +kernel
theorem d_X4_cell_16 : decode cX4_cell 16 = .ok (.invokestatic 74, 3) := by decide +kernel
theorem d_X4_cell_19 : decode cX4_cell 19 = .ok (.ifCond .eq 7, 3) := by decide +kernel
theorem d_X4_cell_22 : decode cX4_cell 22 = .ok (.iconst 1, 1) := by decide +kernel
theorem d_X4_cell_23 : decode cX4_cell 23 = .ok (.goto 4, 3) := by decide +kernel
theorem d_X4_cell_26 : decode cX4_cell 26 = .ok (.iconst 0, 1) := by decide +kernel
theorem d_X4_cell_27 : decode cX4_cell 27 = .ok (.invokevirtual 78, 3) := by decide +kernel
theorem d_X4_cell_30 : decode cX4_cell 30 = .ok (.aload_n 0, 1) := by decide +kernel
theorem d_X4_cell_31 : decode cX4_cell 31 = .ok (.getfield 16, 3) := by decide +kernel
theorem d_X4_cell_34 : decode cX4_cell 34 = .ok (.iload_n 1, 1) := by decide +kernel
theorem d_X4_cell_35 : decode cX4_cell 35 = .ok (.iload_n 2, 1) := by decide +kernel
theorem d_X4_cell_36 : decode cX4_cell 36 = .ok (.invokevirtual 177, 3) := by decide +kernel
theorem d_X4_cell_39 : decode cX4_cell 39 = .ok (.istore 4, 2) := by decide +kernel
theorem d_X4_cell_41 : decode cX4_cell 41 = .ok (.iload_n 3, 1) := by decide +kernel
theorem d_X4_cell_42 : decode cX4_cell 42 = .ok (.ifCond .ne 18, 3) := by decide +kernel
theorem d_X4_cell_45 : decode cX4_cell 45 = .ok (.aload_n 0, 1) := by decide +kernel
theorem d_X4_cell_46 : decode cX4_cell 46 = .ok (.getfield 16, 3) := by decide +kernel
theorem d_X4_cell_49 : decode cX4_cell 49 = .ok (.getfield 181, 3) := by decide +kernel
theorem d_X4_cell_52 : decode cX4_cell 52 = .ok (.iload 4, 2) := by decide +kernel
theorem d_X4_cell_54 : decode cX4_cell 54 = .ok (.invokestatic 129, 3) := by decide +kernel
theorem d_X4_cell_57 : decode cX4_cell 57 = .ok (.goto 15, 3) := by decide +kernel
theorem d_X4_cell_60 : decode cX4_cell 60 = .ok (.aload_n 0, 1) := by decide +kernel
theorem d_X4_cell_61 : decode cX4_cell 61 = .ok (.getfield 16, 3) := by decide +kernel
theorem d_X4_cell_64 : decode cX4_cell 64 = .ok (.getfield 184, 3) := by decide +kernel
theorem d_X4_cell_67 : decode cX4_cell 67 = .ok (.iload 4, 2) := by decide +kernel
theorem d_X4_cell_69 : decode cX4_cell 69 = .ok (.invokestatic 129, 3) := by decide +kernel
theorem d_X4_cell_72 : decode cX4_cell 72 = .ok (.ireturn, 1) := by decide +kernel
abbrev rm_X4_cell : Room := { frames := 7, cells := 1, slots := 6, locals := 111 }
set_option maxHeartbeats 4000000 in
set_option maxRecDepth 20000 in
theorem c_X4_cell_27 {x : Cx} {b : Wy} (o : Ok x (wC b) cX4_cell 5 RX4 (some .int) rm_X4_cell) (nh : NoH x) {v1 : Int32} {v2 : Int32} {v3 : Int32} {K : Int32 → Sg → Prop} {X : String → Sg → Prop}   : ∀ (k1 : Int32) (σ : Sg), m_X4_cell_j27 v1 v2 v3 K X  k1 σ → J x (wC b) (FinX x (wC b) (PI K) X (1, 6)) 27 [(0, .ref (wB (wC b) + 0)), (1, .int v1), (2, .int v2), (3, .int v3)] [.int k1, .ref (wB (wC b) + 0)] (0, 0) σ := by
  intro k1 σ  h
  unfold m_X4_cell_j27 at h
  refine J_callXV (k := 0) (c := 4) o [.int k1] rfl (by decide) (Nat.le_of_ble_eq_true rfl) (Nat.le_of_ble_eq_true rfl) mth_X4_needNumber iv_X4_needNumber ml_RX4_78 ⟨Nat.le_of_ble_eq_true rfl, Nat.le_of_ble_eq_true rfl⟩ rfl rfl (Nat.le_of_ble_eq_true rfl) ⟨Nat.le_of_ble_eq_true rfl, Nat.le_of_ble_eq_true rfl⟩ d_X4_cell_27 (w_X4_needNumber (xL x) b nh.2  h) (fun E s9 hx => JT_out o nh ⟨Nat.le_of_ble_eq_true rfl, Nat.le_of_ble_eq_true rfl⟩ hx) (aV (fun s27 h => ?_))
  refine J_aload_n o 0 d_X4_cell_30 rfl ?_
  refine J_getR (t := 2) o fl_RX4_16 rfl (Nat.le_of_ble_eq_true rfl) (Nat.le_of_ble_eq_true rfl) rfl rfl d_X4_cell_31 ?_
  refine J_iload_n o 1 d_X4_cell_34 rfl ?_
  refine J_iload_n o 2 d_X4_cell_35 rfl ?_
  refine J_callV (k := 2) (c := 3) o [.int v1, .int v2] (W_kd W_2) (by decide) (Nat.zero_le _) (W_hi W_2) mth_X3_cellAt iv_X3_cellAt ml_RX4_177 ⟨Nat.le_of_ble_eq_true rfl, Nat.le_of_ble_eq_true rfl⟩ rfl rfl (Nat.le_of_ble_eq_true rfl) ⟨Nat.le_of_ble_eq_true rfl, Nat.le_of_ble_eq_true rfl⟩ d_X4_cell_36 (w_X3_cellAt (xL x) b W_2 h) (aI (fun r36 s36 h => ?_))
  refine J_istore (lv' := [(4, .int r36), (0, .ref (wB (wC b) + 0)), (1, .int v1), (2, .int v2), (3, .int v3)]) o d_X4_cell_39 (by decide) rfl ?_
  refine J_iload_n o 4 d_X4_cell_41 rfl ?_
  refine J_if_ne o 60 d_X4_cell_42 rfl (fun c42 => ?_) (fun c42 => ?_)
  · replace h := h.1 c42
    refine J_aload_n o 1 d_X4_cell_60 rfl ?_
    refine J_getR (t := 2) o fl_RX4_16 rfl (Nat.le_of_ble_eq_true rfl) (Nat.le_of_ble_eq_true rfl) rfl rfl d_X4_cell_61 ?_
    refine J_getR (t := (2 + 4)) o fl_RX4_184 (W_kd W_2) (Nat.zero_le _) (W_hi W_2) rfl (W_t W_2 13 (by decide)) d_X4_cell_64 ?_
    refine J_iload o 0 d_X4_cell_67 rfl ?_
    refine J_callS o [.ref (wB (wC b) + (2 + 4)), .int r36] mth_X4_read st_X4_read ml_RX4_129 ⟨Nat.le_of_ble_eq_true rfl, Nat.le_of_ble_eq_true rfl⟩ rfl rfl (Nat.le_of_ble_eq_true rfl) ⟨Nat.le_of_ble_eq_true rfl, Nat.le_of_ble_eq_true rfl⟩ d_X4_cell_69 (w_X4_read (xL x) b (W_A4 W_2) h) (aI (fun r69 s69 h => ?_))
    exact JX_ret ⟨Nat.le_of_ble_eq_true rfl, Nat.le_of_ble_eq_true rfl⟩ (J_iret o d_X4_cell_72 ⟨_, rfl, h⟩)
  · replace h := h.2 c42
    refine J_aload_n o 1 d_X4_cell_45 rfl ?_
    refine J_getR (t := 2) o fl_RX4_16 rfl (Nat.le_of_ble_eq_true rfl) (Nat.le_of_ble_eq_true rfl) rfl rfl d_X4_cell_46 ?_
    refine J_getR (t := (2 + 3)) o fl_RX4_181 (W_kd W_2) (Nat.zero_le _) (W_hi W_2) rfl (W_t W_2 12 (by decide)) d_X4_cell_49 ?_
    refine J_iload o 0 d_X4_cell_52 rfl ?_
    refine J_callS o [.ref (wB (wC b) + (2 + 3)), .int r36] mth_X4_read st_X4_read ml_RX4_129 ⟨Nat.le_of_ble_eq_true rfl, Nat.le_of_ble_eq_true rfl⟩ rfl rfl (Nat.le_of_ble_eq_true rfl) ⟨Nat.le_of_ble_eq_true rfl, Nat.le_of_ble_eq_true rfl⟩ d_X4_cell_54 (w_X4_read (xL x) b (W_A3 W_2) h) (aI (fun r54 s54 h => ?_))
    refine J_goto o 72 d_X4_cell_57 rfl ?_
    exact JX_ret ⟨Nat.le_of_ble_eq_true rfl, Nat.le_of_ble_eq_true rfl⟩ (J_iret o d_X4_cell_72 ⟨_, rfl, h⟩)
set_option maxHeartbeats 4000000 in
set_option maxRecDepth 20000 in
theorem w_X4_cell (l : Launch) (b : Wy) (hfl : l.stackTraces = false) {v1 : Int32} {v2 : Int32} {v3 : Int32} {σ : Sg} {K : Int32 → Sg → Prop} {X : String → Sg → Prop}  (h : m_X4_cell v1 v2 v3 σ K X) : CtX l (wC b) yX4_cell cX4_cell 5 (some .int) rm_X4_cell [.ref (wB (wC b) + 0), .int v1, .int v2, .int v3] σ (PI K) X := by
  unfold m_X4_cell at h
  refine CtX.of hfl (own := RX4) (by decide +kernel) rfl (Nat.le_of_ble_eq_true rfl) (fun x hx nh o => ?_)
  subst hx
  show J x (wC b) (FinX x (wC b) (PI K) X (1, 6)) 0 [(0, .ref (wB (wC b) + 0)), (1, .int v1), (2, .int v2), (3, .int v3)] [] (0, 0) σ
  refine J_aload_n o 0 d_X4_cell_0 rfl ?_
  refine J_aload_n o 0 d_X4_cell_1 rfl ?_
  refine J_getR (t := 2) o fl_RX4_16 rfl (Nat.le_of_ble_eq_true rfl) (Nat.le_of_ble_eq_true rfl) rfl rfl d_X4_cell_2 ?_
  refine J_iload_n o 1 d_X4_cell_5 rfl ?_
  refine J_iload_n o 2 d_X4_cell_6 rfl ?_
  refine J_callV (k := 2) (c := 3) o [.int v1, .int v2] (W_kd W_2) (by decide) (Nat.zero_le _) (W_hi W_2) mth_X3_isOnSea iv_X3_isOnSea ml_RX4_174 ⟨Nat.le_of_ble_eq_true rfl, Nat.le_of_ble_eq_true rfl⟩ rfl rfl (Nat.le_of_ble_eq_true rfl) ⟨Nat.le_of_ble_eq_true rfl, Nat.le_of_ble_eq_true rfl⟩ d_X4_cell_7 (w_X3_isOnSea (xL x) b W_2 h) (aZ (fun r7 s7 hzr7 h => ?_))
  refine J_if_eq o 26 d_X4_cell_10 rfl (fun c10 => ?_) (fun c10 => ?_)
  · replace h := h.1 c10
    refine J_iconst (v := 0) o d_X4_cell_26 iconst_0 ?_
    exact c_X4_cell_27 o nh   0 s7  h
  · replace h := h.2 c10
    refine J_iload_n o 3 d_X4_cell_13 rfl ?_
    refine J_iconst (v := 0) o d_X4_cell_14 iconst_0 ?_
    refine J_iconst (v := 1) o d_X4_cell_15 iconst_1 ?_
    refine J_callS o [.int v3, .int 0, .int 1] mth_X4_isIn st_X4_isIn ml_RX4_74 ⟨Nat.le_of_ble_eq_true rfl, Nat.le_of_ble_eq_true rfl⟩ rfl rfl (Nat.le_of_ble_eq_true rfl) ⟨Nat.le_of_ble_eq_true rfl, Nat.le_of_ble_eq_true rfl⟩ d_X4_cell_16 (w_X4_isIn (xL x) b  h) (aZ (fun r16 s16 hzr16 h => ?_))
    refine J_if_eq o 26 d_X4_cell_19 rfl (fun c19 => ?_) (fun c19 => ?_)
    · replace h := h.1 c19
      refine J_iconst (v := 0) o d_X4_cell_26 iconst_0 ?_
      exact c_X4_cell_27 o nh   0 s16  h
    · replace h := h.2 c19
      refine J_iconst (v := 1) o d_X4_cell_22 iconst_1 ?_
      refine J_goto o 27 d_X4_cell_23 rfl ?_
      exact c_X4_cell_27 o nh   1 s16  h
theorem d_X4_blows_0 : decode cX4_blows 0 = .ok (.aload_n 0, 1) := by decide +kernel
theorem d_X4_blows_1 : decode cX4_blows 1 = .ok (.iload_n 1, 1) := by decide +kernel
theorem d_X4_blows_2 : decode cX4_blows 2 = .ok (.iconst 0, 1) := by decide +kernel
theorem d_X4_blows_3 : decode cX4_blows 3 = .ok (.sipush 560, 3) := by decide +kernel
theorem d_X4_blows_6 : decode cX4_blows 6 = .ok (.invokestatic 74, 3) := by decide +kernel
theorem d_X4_blows_9 : decode cX4_blows 9 = .ok (.invokevirtual 78, 3) := by decide +kernel
theorem d_X4_blows_12 : decode cX4_blows 12 = .ok (.aload_n 0, 1) := by decide +kernel
theorem d_X4_blows_13 : decode cX4_blows 13 = .ok (.getfield 16, 3) := by decide +kernel
theorem d_X4_blows_16 : decode cX4_blows 16 = .ok (.iload_n 1, 1) := by decide +kernel
theorem d_X4_blows_17 : decode cX4_blows 17 = .ok (.invokevirtual 137, 3) := by decide +kernel
theorem d_X4_blows_20 : decode cX4_blows 20 = .ok (.ireturn, 1) := by decide +kernel
abbrev rm_X4_blows : Room := { frames := 7, cells := 1, slots := 6, locals := 111 }
set_option maxHeartbeats 4000000 in
set_option maxRecDepth 20000 in
theorem w_X4_blows (l : Launch) (b : Wy) (hfl : l.stackTraces = false) {v1 : Int32} {σ : Sg} {K : Int32 → Sg → Prop} {X : String → Sg → Prop}  (h : m_X4_blows v1 σ K X) : CtX l (wC b) yX4_blows cX4_blows 2 (some .int) rm_X4_blows [.ref (wB (wC b) + 0), .int v1] σ (PI K) X := by
  unfold m_X4_blows at h
  refine CtX.of hfl (own := RX4) (by decide +kernel) rfl (Nat.le_of_ble_eq_true rfl) (fun x hx nh o => ?_)
  subst hx
  show J x (wC b) (FinX x (wC b) (PI K) X (1, 6)) 0 [(0, .ref (wB (wC b) + 0)), (1, .int v1)] [] (0, 0) σ
  refine J_aload_n o 0 d_X4_blows_0 rfl ?_
  refine J_iload_n o 1 d_X4_blows_1 rfl ?_
  refine J_iconst (v := 0) o d_X4_blows_2 iconst_0 ?_
  refine J_sipush (v := 560) o d_X4_blows_3 sipush_560 ?_
  refine J_callS o [.int v1, .int 0, .int 560] mth_X4_isIn st_X4_isIn ml_RX4_74 ⟨Nat.le_of_ble_eq_true rfl, Nat.le_of_ble_eq_true rfl⟩ rfl rfl (Nat.le_of_ble_eq_true rfl) ⟨Nat.le_of_ble_eq_true rfl, Nat.le_of_ble_eq_true rfl⟩ d_X4_blows_6 (w_X4_isIn (xL x) b  h) (aZ (fun r6 s6 hzr6 h => ?_))
  refine J_callXV (k := 0) (c := 4) o [.int r6] rfl (by decide) (Nat.le_of_ble_eq_true rfl) (Nat.le_of_ble_eq_true rfl) mth_X4_needNumber iv_X4_needNumber ml_RX4_78 ⟨Nat.le_of_ble_eq_true rfl, Nat.le_of_ble_eq_true rfl⟩ rfl rfl (Nat.le_of_ble_eq_true rfl) ⟨Nat.le_of_ble_eq_true rfl, Nat.le_of_ble_eq_true rfl⟩ d_X4_blows_9 (w_X4_needNumber (xL x) b nh.2  h) (fun E s9 hx => JT_out o nh ⟨Nat.le_of_ble_eq_true rfl, Nat.le_of_ble_eq_true rfl⟩ hx) (aV (fun s9 h => ?_))
  refine J_aload_n o 0 d_X4_blows_12 rfl ?_
  refine J_getR (t := 2) o fl_RX4_16 rfl (Nat.le_of_ble_eq_true rfl) (Nat.le_of_ble_eq_true rfl) rfl rfl d_X4_blows_13 ?_
  refine J_iload_n o 1 d_X4_blows_16 rfl ?_
  refine J_callV (k := 2) (c := 3) o [.int v1] (W_kd W_2) (by decide) (Nat.zero_le _) (W_hi W_2) mth_X3_windOf iv_X3_windOf ml_RX4_137 ⟨Nat.le_of_ble_eq_true rfl, Nat.le_of_ble_eq_true rfl⟩ rfl rfl (Nat.le_of_ble_eq_true rfl) ⟨Nat.le_of_ble_eq_true rfl, Nat.le_of_ble_eq_true rfl⟩ d_X4_blows_17 (w_X3_windOf (xL x) b W_2 h) (aI (fun r17 s17 h => ?_))
  exact JX_ret ⟨Nat.le_of_ble_eq_true rfl, Nat.le_of_ble_eq_true rfl⟩ (J_iret o d_X4_blows_20 ⟨_, rfl, h⟩)
theorem d_X4_helper_0 : decode cX4_helper 0 = .ok (.aload_n 0, 1) := by decide +kernel
theorem d_X4_helper_1 : decode cX4_helper 1 = .ok (.iload_n 1, 1) := by decide +kernel
theorem d_X4_helper_2 : decode cX4_helper 2 = .ok (.invokevirtual 120, 3) := by decide +kernel
theorem d_X4_helper_5 : decode cX4_helper 5 = .ok (.aload_n 0, 1) := by decide +kernel
theorem d_X4_helper_6 : decode cX4_helper 6 = .ok (.iload_n 2, 1) := by decide +kernel
theorem d_X4_helper_7 : decode cX4_helper 7 = .ok (.iconst 0, 1) := by decide +kernel
theorem d_X4_helper_8 : decode cX4_helper 8 = .ok (.iconst 3, 1) := by decide +kernel
theorem d_X4_helper_9 : decode cX4_helper 9 = .ok (.invokestatic 74, 3) := by decide +kernel
theorem d_X4_helper_12 : decode cX4_helper 12 = .ok (.invokevirtual 78, 3) := by decide +kernel
theorem d_X4_helper_15 : decode cX4_helper 15 = .ok (.aload_n 0, 1) := by decide +kernel
theorem d_X4_helper_16 : decode cX4_helper 16 = .ok (.getfield 16, 3) := by decide +kernel
theorem d_X4_helper_19 : decode cX4_helper 19 = .ok (.getfield 187, 3) := by decide +kernel
theorem d_X4_helper_22 : decode cX4_helper 22 = .ok (.iload_n 1, 1) := by decide +kernel
theorem d_X4_helper_23 : decode cX4_helper 23 = .ok (.invokestatic 129, 3) := by decide +kernel
theorem d_X4_helper_26 : decode cX4_helper 26 = .ok (.istore_n 3, 1) := by decide +kernel
theorem d_X4_helper_27 : decode cX4_helper 27 = .ok (.iload_n 2, 1) := by decide +kernel
theorem d_X4_helper_28 : decode cX4_helper 28 = .ok (.tableswitch 58 0 2 #[28, 37, 46], 28) := by decide +kernel
theorem d_X4_helper_56 : decode cX4_helper 56 = .ok (.aload_n 0, 1) := by decide +kernel
theorem d_X4_helper_57 : decode cX4_helper 57 = .ok (.getfield 16, 3) := by decide +kernel
theorem d_X4_helper_60 : decode cX4_helper 60 = .ok (.iload_n 3, 1) := by decide +kernel
theorem d_X4_helper_61 : decode cX4_helper 61 = .ok (.invokevirtual 165, 3) := by decide +kernel
theorem d_X4_helper_64 : decode cX4_helper 64 = .ok (.ireturn, 1) := by decide +kernel
theorem d_X4_helper_65 : decode cX4_helper 65 = .ok (.aload_n 0, 1) := by decide +kernel
theorem d_X4_helper_66 : decode cX4_helper 66 = .ok (.getfield 16, 3) := by decide +kernel
theorem d_X4_helper_69 : decode cX4_helper 69 = .ok (.iload_n 3, 1) := by decide +kernel
theorem d_X4_helper_70 : decode cX4_helper 70 = .ok (.invokevirtual 168, 3) := by decide +kernel
theorem d_X4_helper_73 : decode cX4_helper 73 = .ok (.ireturn, 1) := by decide +kernel
theorem d_X4_helper_74 : decode cX4_helper 74 = .ok (.aload_n 0, 1) := by decide +kernel
theorem d_X4_helper_75 : decode cX4_helper 75 = .ok (.getfield 16, 3) := by decide +kernel
theorem d_X4_helper_78 : decode cX4_helper 78 = .ok (.getfield 126, 3) := by decide +kernel
theorem d_X4_helper_81 : decode cX4_helper 81 = .ok (.iload_n 1, 1) := by decide +kernel
theorem d_X4_helper_82 : decode cX4_helper 82 = .ok (.invokestatic 129, 3) := by decide +kernel
theorem d_X4_helper_85 : decode cX4_helper 85 = .ok (.ireturn, 1) := by decide +kernel
theorem d_X4_helper_86 : decode cX4_helper 86 = .ok (.iload_n 3, 1) := by decide +kernel
theorem d_X4_helper_87 : decode cX4_helper 87 = .ok (.aload_n 0, 1) := by decide +kernel
theorem d_X4_helper_88 : decode cX4_helper 88 = .ok (.getfield 16, 3) := by decide +kernel
theorem d_X4_helper_91 : decode cX4_helper 91 = .ok (.getfield 162, 3) := by decide +kernel
theorem d_X4_helper_94 : decode cX4_helper 94 = .ok (.if_icmp .ne 7, 3) := by decide +kernel
theorem d_X4_helper_97 : decode cX4_helper 97 = .ok (.iconst 1, 1) := by decide +kernel
theorem d_X4_helper_98 : decode cX4_helper 98 = .ok (.goto 4, 3) := by decide +kernel
theorem d_X4_helper_101 : decode cX4_helper 101 = .ok (.iconst 0, 1) := by decide +kernel
theorem d_X4_helper_102 : decode cX4_helper 102 = .ok (.ireturn, 1) := by decide +kernel
abbrev rm_X4_helper : Room := { frames := 7, cells := 2, slots := 12, locals := 111 }
set_option maxHeartbeats 4000000 in
set_option maxRecDepth 20000 in
theorem w_X4_helper (l : Launch) (b : Wy) (hfl : l.stackTraces = false) {v1 : Int32} {v2 : Int32} {σ : Sg} {K : Int32 → Sg → Prop} {X : String → Sg → Prop}  (h : m_X4_helper v1 v2 σ K X) : CtX l (wC b) yX4_helper cX4_helper 4 (some .int) rm_X4_helper [.ref (wB (wC b) + 0), .int v1, .int v2] σ (PI K) X := by
  unfold m_X4_helper at h
  refine CtX.of hfl (own := RX4) (by decide +kernel) rfl (Nat.le_of_ble_eq_true rfl) (fun x hx nh o => ?_)
  subst hx
  show J x (wC b) (FinX x (wC b) (PI K) X (2, 12)) 0 [(0, .ref (wB (wC b) + 0)), (1, .int v1), (2, .int v2)] [] (0, 0) σ
  refine J_aload_n o 0 d_X4_helper_0 rfl ?_
  refine J_iload_n o 1 d_X4_helper_1 rfl ?_
  refine J_callXV (k := 0) (c := 4) o [.int v1] rfl (by decide) (Nat.le_of_ble_eq_true rfl) (Nat.le_of_ble_eq_true rfl) mth_X4_needHelper iv_X4_needHelper ml_RX4_120 ⟨Nat.le_of_ble_eq_true rfl, Nat.le_of_ble_eq_true rfl⟩ rfl rfl (Nat.le_of_ble_eq_true rfl) ⟨Nat.le_of_ble_eq_true rfl, Nat.le_of_ble_eq_true rfl⟩ d_X4_helper_2 (w_X4_needHelper (xL x) b nh.2  h) (fun E s9 hx => JT_out o nh ⟨Nat.le_of_ble_eq_true rfl, Nat.le_of_ble_eq_true rfl⟩ hx) (aV (fun s2 h => ?_))
  refine J_aload_n o 0 d_X4_helper_5 rfl ?_
  refine J_iload_n o 2 d_X4_helper_6 rfl ?_
  refine J_iconst (v := 0) o d_X4_helper_7 iconst_0 ?_
  refine J_iconst (v := 3) o d_X4_helper_8 iconst_3 ?_
  refine J_callS o [.int v2, .int 0, .int 3] mth_X4_isIn st_X4_isIn ml_RX4_74 ⟨Nat.le_of_ble_eq_true rfl, Nat.le_of_ble_eq_true rfl⟩ rfl rfl (Nat.le_of_ble_eq_true rfl) ⟨Nat.le_of_ble_eq_true rfl, Nat.le_of_ble_eq_true rfl⟩ d_X4_helper_9 (w_X4_isIn (xL x) b  h) (aZ (fun r9 s9 hzr9 h => ?_))
  refine J_callXV (k := 0) (c := 4) o [.int r9] rfl (by decide) (Nat.le_of_ble_eq_true rfl) (Nat.le_of_ble_eq_true rfl) mth_X4_needNumber iv_X4_needNumber ml_RX4_78 ⟨Nat.le_of_ble_eq_true rfl, Nat.le_of_ble_eq_true rfl⟩ rfl rfl (Nat.le_of_ble_eq_true rfl) ⟨Nat.le_of_ble_eq_true rfl, Nat.le_of_ble_eq_true rfl⟩ d_X4_helper_12 (w_X4_needNumber (xL x) b nh.2  h) (fun E s9 hx => JT_out o nh ⟨Nat.le_of_ble_eq_true rfl, Nat.le_of_ble_eq_true rfl⟩ hx) (aV (fun s12 h => ?_))
  refine J_aload_n o 0 d_X4_helper_15 rfl ?_
  refine J_getR (t := 2) o fl_RX4_16 rfl (Nat.le_of_ble_eq_true rfl) (Nat.le_of_ble_eq_true rfl) rfl rfl d_X4_helper_16 ?_
  refine J_getR (t := (2 + 1)) o fl_RX4_187 (W_kd W_2) (Nat.zero_le _) (W_hi W_2) rfl (W_t W_2 10 (by decide)) d_X4_helper_19 ?_
  refine J_iload_n o 1 d_X4_helper_22 rfl ?_
  refine J_callS o [.ref (wB (wC b) + (2 + 1)), .int v1] mth_X4_read st_X4_read ml_RX4_129 ⟨Nat.le_of_ble_eq_true rfl, Nat.le_of_ble_eq_true rfl⟩ rfl rfl (Nat.le_of_ble_eq_true rfl) ⟨Nat.le_of_ble_eq_true rfl, Nat.le_of_ble_eq_true rfl⟩ d_X4_helper_23 (w_X4_read (xL x) b (W_A1 W_2) h) (aI (fun r23 s23 h => ?_))
  refine J_istore_n (lv' := [(3, .int r23), (0, .ref (wB (wC b) + 0)), (1, .int v1), (2, .int v2)]) o d_X4_helper_26 (by decide) rfl ?_
  refine J_iload_n o 3 d_X4_helper_27 rfl ?_
  rcases tsw0_3 v2 with c28 | c28 | c28 | c28
  · replace h := h.1 c28
    refine J_tswOut o 86 d_X4_helper_28 (tswO0_3 c28) rfl ?_
    refine J_iload_n o 0 d_X4_helper_86 rfl ?_
    refine J_aload_n o 1 d_X4_helper_87 rfl ?_
    refine J_getR (t := 2) o fl_RX4_16 rfl (Nat.le_of_ble_eq_true rfl) (Nat.le_of_ble_eq_true rfl) rfl rfl d_X4_helper_88 ?_
    refine J_getI o fl_RX4_162 (W_kd W_2) (Nat.zero_le _) (W_hi W_2) rfl d_X4_helper_91 ?_
    refine J_icmp_ne o 101 d_X4_helper_94 rfl (fun c94 => ?_) (fun c94 => ?_)
    · replace h := h.1 c94
      refine J_iconst (v := 0) o d_X4_helper_101 iconst_0 ?_
      exact JX_ret ⟨Nat.le_of_ble_eq_true rfl, Nat.le_of_ble_eq_true rfl⟩ (J_iret o d_X4_helper_102 ⟨_, rfl, h⟩)
    · replace h := h.2 c94
      refine J_iconst (v := 1) o d_X4_helper_97 iconst_1 ?_
      refine J_goto o 102 d_X4_helper_98 rfl ?_
      exact JX_ret ⟨Nat.le_of_ble_eq_true rfl, Nat.le_of_ble_eq_true rfl⟩ (J_iret o d_X4_helper_102 ⟨_, rfl, h⟩)
  · replace h := h.2.1 c28
    refine J_tswIn o 0 c28 56 d_X4_helper_28 (by decide) (by decide) rfl rfl ?_
    refine J_aload_n o 1 d_X4_helper_56 rfl ?_
    refine J_getR (t := 2) o fl_RX4_16 rfl (Nat.le_of_ble_eq_true rfl) (Nat.le_of_ble_eq_true rfl) rfl rfl d_X4_helper_57 ?_
    refine J_iload_n o 0 d_X4_helper_60 rfl ?_
    refine J_callV (k := 2) (c := 3) o [.int r23] (W_kd W_2) (by decide) (Nat.zero_le _) (W_hi W_2) mth_X3_xOf iv_X3_xOf ml_RX4_165 ⟨Nat.le_of_ble_eq_true rfl, Nat.le_of_ble_eq_true rfl⟩ rfl rfl (Nat.le_of_ble_eq_true rfl) ⟨Nat.le_of_ble_eq_true rfl, Nat.le_of_ble_eq_true rfl⟩ d_X4_helper_61 (w_X3_xOf (xL x) b W_2 h) (aI (fun r61 s61 h => ?_))
    exact JX_ret ⟨Nat.le_of_ble_eq_true rfl, Nat.le_of_ble_eq_true rfl⟩ (J_iret o d_X4_helper_64 ⟨_, rfl, h⟩)
  · replace h := h.2.2.1 c28
    refine J_tswIn o 1 c28 65 d_X4_helper_28 (by decide) (by decide) rfl rfl ?_
    refine J_aload_n o 1 d_X4_helper_65 rfl ?_
    refine J_getR (t := 2) o fl_RX4_16 rfl (Nat.le_of_ble_eq_true rfl) (Nat.le_of_ble_eq_true rfl) rfl rfl d_X4_helper_66 ?_
    refine J_iload_n o 0 d_X4_helper_69 rfl ?_
    refine J_callV (k := 2) (c := 3) o [.int r23] (W_kd W_2) (by decide) (Nat.zero_le _) (W_hi W_2) mth_X3_yOf iv_X3_yOf ml_RX4_168 ⟨Nat.le_of_ble_eq_true rfl, Nat.le_of_ble_eq_true rfl⟩ rfl rfl (Nat.le_of_ble_eq_true rfl) ⟨Nat.le_of_ble_eq_true rfl, Nat.le_of_ble_eq_true rfl⟩ d_X4_helper_70 (w_X3_yOf (xL x) b W_2 h) (aI (fun r70 s70 h => ?_))
    exact JX_ret ⟨Nat.le_of_ble_eq_true rfl, Nat.le_of_ble_eq_true rfl⟩ (J_iret o d_X4_helper_73 ⟨_, rfl, h⟩)
  · replace h := h.2.2.2 c28
    refine J_tswIn o 2 c28 74 d_X4_helper_28 (by decide) (by decide) rfl rfl ?_
    refine J_aload_n o 1 d_X4_helper_74 rfl ?_
    refine J_getR (t := 2) o fl_RX4_16 rfl (Nat.le_of_ble_eq_true rfl) (Nat.le_of_ble_eq_true rfl) rfl rfl d_X4_helper_75 ?_
    refine J_getR (t := (2 + 2)) o fl_RX4_126 (W_kd W_2) (Nat.zero_le _) (W_hi W_2) rfl (W_t W_2 11 (by decide)) d_X4_helper_78 ?_
    refine J_iload_n o 2 d_X4_helper_81 rfl ?_
    refine J_callS o [.ref (wB (wC b) + (2 + 2)), .int v1] mth_X4_read st_X4_read ml_RX4_129 ⟨Nat.le_of_ble_eq_true rfl, Nat.le_of_ble_eq_true rfl⟩ rfl rfl (Nat.le_of_ble_eq_true rfl) ⟨Nat.le_of_ble_eq_true rfl, Nat.le_of_ble_eq_true rfl⟩ d_X4_helper_82 (w_X4_read (xL x) b (W_A2 W_2) h) (aI (fun r82 s82 h => ?_))
    exact JX_ret ⟨Nat.le_of_ble_eq_true rfl, Nat.le_of_ble_eq_true rfl⟩ (J_iret o d_X4_helper_85 ⟨_, rfl, h⟩)
theorem d_X4_drift_0 : decode cX4_drift 0 = .ok (.aload_n 0, 1) := by decide +kernel
theorem d_X4_drift_1 : decode cX4_drift 1 = .ok (.iload_n 1, 1) := by decide +kernel
theorem d_X4_drift_2 : decode cX4_drift 2 = .ok (.iconst 0, 1) := by decide +kernel
theorem d_X4_drift_3 : decode cX4_drift 3 = .ok (.bipush 60, 2) := by decide +kernel
theorem d_X4_drift_5 : decode cX4_drift 5 = .ok (.invokestatic 74, 3) := by decide +kernel
theorem d_X4_drift_8 : decode cX4_drift 8 = .ok (.ifCond .eq 16, 3) := by decide +kernel
theorem d_X4_drift_11 : decode cX4_drift 11 = .ok (.iload_n 2, 1) := by decide +kernel
theorem d_X4_drift_12 : decode cX4_drift 12 = .ok (.iconst 0, 1) := by decide +kernel
theorem d_X4_drift_13 : decode cX4_drift 13 = .ok (.iconst 3, 1) := by decide +kernel
theorem d_X4_drift_14 : decode cX4_drift 14 = .ok (.invokestatic 74, 3) := by decide +kernel
theorem d_X4_drift_17 : decode cX4_drift 17 = .ok (.ifCond .eq 7, 3) := by decide +kernel
theorem d_X4_drift_20 : decode cX4_drift 20 = .ok (.iconst 1, 1) := by decide +kernel
theorem d_X4_drift_21 : decode cX4_drift 21 = .ok (.goto 4, 3) := by decide +kernel
theorem d_X4_drift_24 : decode cX4_drift 24 = .ok (.iconst 0, 1) := by decide +kernel
theorem d_X4_drift_25 : decode cX4_drift 25 = .ok (.invokevirtual 78, 3) := by decide +kernel
theorem d_X4_drift_28 : decode cX4_drift 28 = .ok (.aload_n 0, 1) := by decide +kernel
theorem d_X4_drift_29 : decode cX4_drift 29 = .ok (.getfield 37, 3) := by decide +kernel
theorem d_X4_drift_32 : decode cX4_drift 32 = .ok (.invokevirtual 190, 3) := by decide +kernel
theorem d_X4_drift_35 : decode cX4_drift 35 = .ok (.iload_n 2, 1) := by decide +kernel
theorem d_X4_drift_36 : decode cX4_drift 36 = .ok (.iconst 2, 1) := by decide +kernel
theorem d_X4_drift_37 : decode cX4_drift 37 = .ok (.if_icmp .ge 14, 3) := by decide +kernel
theorem d_X4_drift_40 : decode cX4_drift 40 = .ok (.aload_n 0, 1) := by decide +kernel
theorem d_X4_drift_41 : decode cX4_drift 41 = .ok (.getfield 37, 3) := by decide +kernel
theorem d_X4_drift_44 : decode cX4_drift 44 = .ok (.iload_n 1, 1) := by decide +kernel
theorem d_X4_drift_45 : decode cX4_drift 45 = .ok (.invokevirtual 193, 3) := by decide +kernel
theorem d_X4_drift_48 : decode cX4_drift 48 = .ok (.goto 11, 3) := by decide +kernel
theorem d_X4_drift_51 : decode cX4_drift 51 = .ok (.aload_n 0, 1) := by decide +kernel
theorem d_X4_drift_52 : decode cX4_drift 52 = .ok (.getfield 37, 3) := by decide +kernel
theorem d_X4_drift_55 : decode cX4_drift 55 = .ok (.iload_n 1, 1) := by decide +kernel
theorem d_X4_drift_56 : decode cX4_drift 56 = .ok (.invokevirtual 196, 3) := by decide +kernel
theorem d_X4_drift_59 : decode cX4_drift 59 = .ok (.istore_n 3, 1) := by decide +kernel
theorem d_X4_drift_60 : decode cX4_drift 60 = .ok (.iload_n 2, 1) := by decide +kernel
theorem d_X4_drift_61 : decode cX4_drift 61 = .ok (.iconst 2, 1) := by decide +kernel
theorem d_X4_drift_62 : decode cX4_drift 62 = .ok (.irem, 1) := by decide +kernel
theorem d_X4_drift_63 : decode cX4_drift 63 = .ok (.ifCond .ne 14, 3) := by decide +kernel
theorem d_X4_drift_66 : decode cX4_drift 66 = .ok (.aload_n 0, 1) := by decide +kernel
theorem d_X4_drift_67 : decode cX4_drift 67 = .ok (.getfield 16, 3) := by decide +kernel
theorem d_X4_drift_70 : decode cX4_drift 70 = .ok (.iload_n 3, 1) := by decide +kernel
theorem d_X4_drift_71 : decode cX4_drift 71 = .ok (.invokevirtual 165, 3) := by decide +kernel
theorem d_X4_drift_74 : decode cX4_drift 74 = .ok (.goto 11, 3) := by decide +kernel
theorem d_X4_drift_77 : decode cX4_drift 77 = .ok (.aload_n 0, 1) := by decide +kernel
theorem d_X4_drift_78 : decode cX4_drift 78 = .ok (.getfield 16, 3) := by decide +kernel
theorem d_X4_drift_81 : decode cX4_drift 81 = .ok (.iload_n 3, 1) := by decide +kernel
theorem d_X4_drift_82 : decode cX4_drift 82 = .ok (.invokevirtual 168, 3) := by decide +kernel
theorem d_X4_drift_85 : decode cX4_drift 85 = .ok (.ireturn, 1) := by decide +kernel
abbrev rm_X4_drift : Room := { frames := 7, cells := 1, slots := 6, locals := 138 }
set_option maxHeartbeats 4000000 in
set_option maxRecDepth 20000 in
theorem c_X4_drift_59 {x : Cx} {b : Wy} (o : Ok x (wC b) cX4_drift 4 RX4 (some .int) rm_X4_drift) (nh : NoH x) {v1 : Int32} {v2 : Int32} {K : Int32 → Sg → Prop} {X : String → Sg → Prop}   : ∀ (k0 : Int32) (σ : Sg), m_X4_drift_j59 v1 v2 K X  k0 σ → J x (wC b) (FinX x (wC b) (PI K) X (1, 6)) 59 [(0, .ref (wB (wC b) + 0)), (2, .int v2)] [.int k0] (1, 6) σ := by
  intro k0 σ  h
  unfold m_X4_drift_j59 at h
  refine J_istore_n (lv' := [(3, .int k0), (0, .ref (wB (wC b) + 0)), (2, .int v2)]) o d_X4_drift_59 (by decide) rfl ?_
  refine J_iload_n o 2 d_X4_drift_60 rfl ?_
  refine J_iconst (v := 2) o d_X4_drift_61 iconst_2 ?_
  refine J_irem o d_X4_drift_62 (by decide) ?_
  refine J_if_ne o 77 d_X4_drift_63 rfl (fun c63 => ?_) (fun c63 => ?_)
  · replace h := h.1 c63
    refine J_aload_n o 1 d_X4_drift_77 rfl ?_
    refine J_getR (t := 2) o fl_RX4_16 rfl (Nat.le_of_ble_eq_true rfl) (Nat.le_of_ble_eq_true rfl) rfl rfl d_X4_drift_78 ?_
    refine J_iload_n o 0 d_X4_drift_81 rfl ?_
    refine J_callV (k := 2) (c := 3) o [.int k0] (W_kd W_2) (by decide) (Nat.zero_le _) (W_hi W_2) mth_X3_yOf iv_X3_yOf ml_RX4_168 ⟨Nat.le_of_ble_eq_true rfl, Nat.le_of_ble_eq_true rfl⟩ rfl rfl (Nat.le_of_ble_eq_true rfl) ⟨Nat.le_of_ble_eq_true rfl, Nat.le_of_ble_eq_true rfl⟩ d_X4_drift_82 (w_X3_yOf (xL x) b W_2 h) (aI (fun r82 s82 h => ?_))
    exact JX_ret ⟨Nat.le_of_ble_eq_true rfl, Nat.le_of_ble_eq_true rfl⟩ (J_iret o d_X4_drift_85 ⟨_, rfl, h⟩)
  · replace h := h.2 c63
    refine J_aload_n o 1 d_X4_drift_66 rfl ?_
    refine J_getR (t := 2) o fl_RX4_16 rfl (Nat.le_of_ble_eq_true rfl) (Nat.le_of_ble_eq_true rfl) rfl rfl d_X4_drift_67 ?_
    refine J_iload_n o 0 d_X4_drift_70 rfl ?_
    refine J_callV (k := 2) (c := 3) o [.int k0] (W_kd W_2) (by decide) (Nat.zero_le _) (W_hi W_2) mth_X3_xOf iv_X3_xOf ml_RX4_165 ⟨Nat.le_of_ble_eq_true rfl, Nat.le_of_ble_eq_true rfl⟩ rfl rfl (Nat.le_of_ble_eq_true rfl) ⟨Nat.le_of_ble_eq_true rfl, Nat.le_of_ble_eq_true rfl⟩ d_X4_drift_71 (w_X3_xOf (xL x) b W_2 h) (aI (fun r71 s71 h => ?_))
    refine J_goto o 85 d_X4_drift_74 rfl ?_
    exact JX_ret ⟨Nat.le_of_ble_eq_true rfl, Nat.le_of_ble_eq_true rfl⟩ (J_iret o d_X4_drift_85 ⟨_, rfl, h⟩)
set_option maxHeartbeats 4000000 in
set_option maxRecDepth 20000 in
theorem c_X4_drift_25 {x : Cx} {b : Wy} (o : Ok x (wC b) cX4_drift 4 RX4 (some .int) rm_X4_drift) (nh : NoH x) {v1 : Int32} {v2 : Int32} {K : Int32 → Sg → Prop} {X : String → Sg → Prop}   : ∀ (k1 : Int32) (σ : Sg), m_X4_drift_j25 v1 v2 K X  k1 σ → J x (wC b) (FinX x (wC b) (PI K) X (1, 6)) 25 [(0, .ref (wB (wC b) + 0)), (1, .int v1), (2, .int v2)] [.int k1, .ref (wB (wC b) + 0)] (0, 0) σ := by
  intro k1 σ  h
  unfold m_X4_drift_j25 at h
  refine J_callXV (k := 0) (c := 4) o [.int k1] rfl (by decide) (Nat.le_of_ble_eq_true rfl) (Nat.le_of_ble_eq_true rfl) mth_X4_needNumber iv_X4_needNumber ml_RX4_78 ⟨Nat.le_of_ble_eq_true rfl, Nat.le_of_ble_eq_true rfl⟩ rfl rfl (Nat.le_of_ble_eq_true rfl) ⟨Nat.le_of_ble_eq_true rfl, Nat.le_of_ble_eq_true rfl⟩ d_X4_drift_25 (w_X4_needNumber (xL x) b nh.2  h) (fun E s9 hx => JT_out o nh ⟨Nat.le_of_ble_eq_true rfl, Nat.le_of_ble_eq_true rfl⟩ hx) (aV (fun s25 h => ?_))
  refine J_aload_n o 0 d_X4_drift_28 rfl ?_
  refine J_getR (t := 19) o fl_RX4_37 rfl (Nat.le_of_ble_eq_true rfl) (Nat.le_of_ble_eq_true rfl) rfl rfl d_X4_drift_29 ?_
  refine J_callV (k := 19) (c := 0) o [] rfl (by decide) (Nat.le_of_ble_eq_true rfl) (Nat.le_of_ble_eq_true rfl) mth_X0_refresh iv_X0_refresh ml_RX4_190 ⟨Nat.le_of_ble_eq_true rfl, Nat.le_of_ble_eq_true rfl⟩ rfl rfl (Nat.le_of_ble_eq_true rfl) ⟨Nat.le_of_ble_eq_true rfl, Nat.le_of_ble_eq_true rfl⟩ d_X4_drift_32 (w_X0_refresh (xL x) b  h) (aV (fun s32 h => ?_))
  refine J_iload_n o 2 d_X4_drift_35 rfl ?_
  refine J_iconst (v := 2) o d_X4_drift_36 iconst_2 ?_
  refine J_icmp_ge o 51 d_X4_drift_37 rfl (fun c37 => ?_) (fun c37 => ?_)
  · replace h := h.1 c37
    refine J_aload_n o 0 d_X4_drift_51 rfl ?_
    refine J_getR (t := 19) o fl_RX4_37 rfl (Nat.le_of_ble_eq_true rfl) (Nat.le_of_ble_eq_true rfl) rfl rfl d_X4_drift_52 ?_
    refine J_iload_n o 1 d_X4_drift_55 rfl ?_
    refine J_callV (k := 19) (c := 0) o [.int v1] rfl (by decide) (Nat.le_of_ble_eq_true rfl) (Nat.le_of_ble_eq_true rfl) mth_X0_portIn iv_X0_portIn ml_RX4_196 ⟨Nat.le_of_ble_eq_true rfl, Nat.le_of_ble_eq_true rfl⟩ rfl rfl (Nat.le_of_ble_eq_true rfl) ⟨Nat.le_of_ble_eq_true rfl, Nat.le_of_ble_eq_true rfl⟩ d_X4_drift_56 (w_X0_portIn (xL x) b  h) (aI (fun r56 s56 h => ?_))
    refine J_sub [0, 2] rfl ?_
    exact c_X4_drift_59 o nh   r56 s56  h
  · replace h := h.2 c37
    refine J_aload_n o 0 d_X4_drift_40 rfl ?_
    refine J_getR (t := 19) o fl_RX4_37 rfl (Nat.le_of_ble_eq_true rfl) (Nat.le_of_ble_eq_true rfl) rfl rfl d_X4_drift_41 ?_
    refine J_iload_n o 1 d_X4_drift_44 rfl ?_
    refine J_callV (k := 19) (c := 0) o [.int v1] rfl (by decide) (Nat.le_of_ble_eq_true rfl) (Nat.le_of_ble_eq_true rfl) mth_X0_drifterIn iv_X0_drifterIn ml_RX4_193 ⟨Nat.le_of_ble_eq_true rfl, Nat.le_of_ble_eq_true rfl⟩ rfl rfl (Nat.le_of_ble_eq_true rfl) ⟨Nat.le_of_ble_eq_true rfl, Nat.le_of_ble_eq_true rfl⟩ d_X4_drift_45 (w_X0_drifterIn (xL x) b  h) (aI (fun r45 s45 h => ?_))
    refine J_goto o 59 d_X4_drift_48 rfl ?_
    refine J_sub [0, 2] rfl ?_
    exact c_X4_drift_59 o nh   r45 s45  h
set_option maxHeartbeats 4000000 in
set_option maxRecDepth 20000 in
theorem w_X4_drift (l : Launch) (b : Wy) (hfl : l.stackTraces = false) {v1 : Int32} {v2 : Int32} {σ : Sg} {K : Int32 → Sg → Prop} {X : String → Sg → Prop}  (h : m_X4_drift v1 v2 σ K X) : CtX l (wC b) yX4_drift cX4_drift 4 (some .int) rm_X4_drift [.ref (wB (wC b) + 0), .int v1, .int v2] σ (PI K) X := by
  unfold m_X4_drift at h
  refine CtX.of hfl (own := RX4) (by decide +kernel) rfl (Nat.le_of_ble_eq_true rfl) (fun x hx nh o => ?_)
  subst hx
  show J x (wC b) (FinX x (wC b) (PI K) X (1, 6)) 0 [(0, .ref (wB (wC b) + 0)), (1, .int v1), (2, .int v2)] [] (0, 0) σ
  refine J_aload_n o 0 d_X4_drift_0 rfl ?_
  refine J_iload_n o 1 d_X4_drift_1 rfl ?_
  refine J_iconst (v := 0) o d_X4_drift_2 iconst_0 ?_
  refine J_bipush (v := 60) o d_X4_drift_3 bipush_60 ?_
  refine J_callS o [.int v1, .int 0, .int 60] mth_X4_isIn st_X4_isIn ml_RX4_74 ⟨Nat.le_of_ble_eq_true rfl, Nat.le_of_ble_eq_true rfl⟩ rfl rfl (Nat.le_of_ble_eq_true rfl) ⟨Nat.le_of_ble_eq_true rfl, Nat.le_of_ble_eq_true rfl⟩ d_X4_drift_5 (w_X4_isIn (xL x) b  h) (aZ (fun r5 s5 hzr5 h => ?_))
  refine J_if_eq o 24 d_X4_drift_8 rfl (fun c8 => ?_) (fun c8 => ?_)
  · replace h := h.1 c8
    refine J_iconst (v := 0) o d_X4_drift_24 iconst_0 ?_
    exact c_X4_drift_25 o nh   0 s5  h
  · replace h := h.2 c8
    refine J_iload_n o 2 d_X4_drift_11 rfl ?_
    refine J_iconst (v := 0) o d_X4_drift_12 iconst_0 ?_
    refine J_iconst (v := 3) o d_X4_drift_13 iconst_3 ?_
    refine J_callS o [.int v2, .int 0, .int 3] mth_X4_isIn st_X4_isIn ml_RX4_74 ⟨Nat.le_of_ble_eq_true rfl, Nat.le_of_ble_eq_true rfl⟩ rfl rfl (Nat.le_of_ble_eq_true rfl) ⟨Nat.le_of_ble_eq_true rfl, Nat.le_of_ble_eq_true rfl⟩ d_X4_drift_14 (w_X4_isIn (xL x) b  h) (aZ (fun r14 s14 hzr14 h => ?_))
    refine J_if_eq o 24 d_X4_drift_17 rfl (fun c17 => ?_) (fun c17 => ?_)
    · replace h := h.1 c17
      refine J_iconst (v := 0) o d_X4_drift_24 iconst_0 ?_
      exact c_X4_drift_25 o nh   0 s14  h
    · replace h := h.2 c17
      refine J_iconst (v := 1) o d_X4_drift_20 iconst_1 ?_
      refine J_goto o 25 d_X4_drift_21 rfl ?_
      exact c_X4_drift_25 o nh   1 s14  h
theorem d_X4_cost_0 : decode cX4_cost 0 = .ok (.aload_n 0, 1) := by decide +kernel
theorem d_X4_cost_1 : decode cX4_cost 1 = .ok (.iload_n 1, 1) := by decide +kernel
theorem d_X4_cost_2 : decode cX4_cost 2 = .ok (.iconst 1, 1) := by decide +kernel
theorem d_X4_cost_3 : decode cX4_cost 3 = .ok (.bipush 8, 2) := by decide +kernel
theorem d_X4_cost_5 : decode cX4_cost 5 = .ok (.invokestatic 74, 3) := by decide +kernel
theorem d_X4_cost_8 : decode cX4_cost 8 = .ok (.ifCond .eq 17, 3) := by decide +kernel
theorem d_X4_cost_11 : decode cX4_cost 11 = .ok (.iload_n 2, 1) := by decide +kernel
theorem d_X4_cost_12 : decode cX4_cost 12 = .ok (.iconst 0, 1) := by decide +kernel
theorem d_X4_cost_13 : decode cX4_cost 13 = .ok (.bipush 59, 2) := by decide +kernel
theorem d_X4_cost_15 : decode cX4_cost 15 = .ok (.invokestatic 74, 3) := by decide +kernel
theorem d_X4_cost_18 : decode cX4_cost 18 = .ok (.ifCond .eq 7, 3) := by decide +kernel
theorem d_X4_cost_21 : decode cX4_cost 21 = .ok (.iconst 1, 1) := by decide +kernel
theorem d_X4_cost_22 : decode cX4_cost 22 = .ok (.goto 4, 3) := by decide +kernel
theorem d_X4_cost_25 : decode cX4_cost 25 = .ok (.iconst 0, 1) := by decide +kernel
theorem d_X4_cost_26 : decode cX4_cost 26 = .ok (.invokevirtual 78, 3) := by decide +kernel
theorem d_X4_cost_29 : decode cX4_cost 29 = .ok (.aload_n 0, 1) := by decide +kernel
theorem d_X4_cost_30 : decode cX4_cost 30 = .ok (.getfield 16, 3) := by decide +kernel
theorem d_X4_cost_33 : decode cX4_cost 33 = .ok (.iload_n 1, 1) := by decide +kernel
theorem d_X4_cost_34 : decode cX4_cost 34 = .ok (.aload_n 0, 1) := by decide +kernel
theorem d_X4_cost_35 : decode cX4_cost 35 = .ok (.getfield 16, 3) := by decide +kernel
theorem d_X4_cost_38 : decode cX4_cost 38 = .ok (.getfield 106, 3) := by decide +kernel
theorem d_X4_cost_41 : decode cX4_cost 41 = .ok (.iload_n 2, 1) := by decide +kernel
theorem d_X4_cost_42 : decode cX4_cost 42 = .ok (.iadd, 1) := by decide +kernel
theorem d_X4_cost_43 : decode cX4_cost 43 = .ok (.invokevirtual 199, 3) := by decide +kernel
theorem d_X4_cost_46 : decode cX4_cost 46 = .ok (.ireturn, 1) := by decide +kernel
abbrev rm_X4_cost : Room := { frames := 7, cells := 1, slots := 6, locals := 111 }
set_option maxHeartbeats 4000000 in
set_option maxRecDepth 20000 in
theorem c_X4_cost_26 {x : Cx} {b : Wy} (o : Ok x (wC b) cX4_cost 3 RX4 (some .int) rm_X4_cost) (nh : NoH x) {v1 : Int32} {v2 : Int32} {K : Int32 → Sg → Prop} {X : String → Sg → Prop}   : ∀ (k1 : Int32) (σ : Sg), m_X4_cost_j26 v1 v2 K X  k1 σ → J x (wC b) (FinX x (wC b) (PI K) X (1, 6)) 26 [(0, .ref (wB (wC b) + 0)), (1, .int v1), (2, .int v2)] [.int k1, .ref (wB (wC b) + 0)] (0, 0) σ := by
  intro k1 σ  h
  unfold m_X4_cost_j26 at h
  refine J_callXV (k := 0) (c := 4) o [.int k1] rfl (by decide) (Nat.le_of_ble_eq_true rfl) (Nat.le_of_ble_eq_true rfl) mth_X4_needNumber iv_X4_needNumber ml_RX4_78 ⟨Nat.le_of_ble_eq_true rfl, Nat.le_of_ble_eq_true rfl⟩ rfl rfl (Nat.le_of_ble_eq_true rfl) ⟨Nat.le_of_ble_eq_true rfl, Nat.le_of_ble_eq_true rfl⟩ d_X4_cost_26 (w_X4_needNumber (xL x) b nh.2  h) (fun E s9 hx => JT_out o nh ⟨Nat.le_of_ble_eq_true rfl, Nat.le_of_ble_eq_true rfl⟩ hx) (aV (fun s26 h => ?_))
  refine J_aload_n o 0 d_X4_cost_29 rfl ?_
  refine J_getR (t := 2) o fl_RX4_16 rfl (Nat.le_of_ble_eq_true rfl) (Nat.le_of_ble_eq_true rfl) rfl rfl d_X4_cost_30 ?_
  refine J_iload_n o 1 d_X4_cost_33 rfl ?_
  refine J_aload_n o 0 d_X4_cost_34 rfl ?_
  refine J_getR (t := 2) o fl_RX4_16 rfl (Nat.le_of_ble_eq_true rfl) (Nat.le_of_ble_eq_true rfl) rfl rfl d_X4_cost_35 ?_
  refine J_getI o fl_RX4_106 (W_kd W_2) (Nat.zero_le _) (W_hi W_2) rfl d_X4_cost_38 ?_
  refine J_iload_n o 2 d_X4_cost_41 rfl ?_
  refine J_iadd o d_X4_cost_42 ?_
  refine J_callV (k := 2) (c := 3) o [.int v1, .int ((s26 2 2) + v2)] (W_kd W_2) (by decide) (Nat.zero_le _) (W_hi W_2) mth_X3_priceOf iv_X3_priceOf ml_RX4_199 ⟨Nat.le_of_ble_eq_true rfl, Nat.le_of_ble_eq_true rfl⟩ rfl rfl (Nat.le_of_ble_eq_true rfl) ⟨Nat.le_of_ble_eq_true rfl, Nat.le_of_ble_eq_true rfl⟩ d_X4_cost_43 (w_X3_priceOf (xL x) b W_2 h) (aI (fun r43 s43 h => ?_))
  exact JX_ret ⟨Nat.le_of_ble_eq_true rfl, Nat.le_of_ble_eq_true rfl⟩ (J_iret o d_X4_cost_46 ⟨_, rfl, h⟩)
set_option maxHeartbeats 4000000 in
set_option maxRecDepth 20000 in
theorem w_X4_cost (l : Launch) (b : Wy) (hfl : l.stackTraces = false) {v1 : Int32} {v2 : Int32} {σ : Sg} {K : Int32 → Sg → Prop} {X : String → Sg → Prop}  (h : m_X4_cost v1 v2 σ K X) : CtX l (wC b) yX4_cost cX4_cost 3 (some .int) rm_X4_cost [.ref (wB (wC b) + 0), .int v1, .int v2] σ (PI K) X := by
  unfold m_X4_cost at h
  refine CtX.of hfl (own := RX4) (by decide +kernel) rfl (Nat.le_of_ble_eq_true rfl) (fun x hx nh o => ?_)
  subst hx
  show J x (wC b) (FinX x (wC b) (PI K) X (1, 6)) 0 [(0, .ref (wB (wC b) + 0)), (1, .int v1), (2, .int v2)] [] (0, 0) σ
  refine J_aload_n o 0 d_X4_cost_0 rfl ?_
  refine J_iload_n o 1 d_X4_cost_1 rfl ?_
  refine J_iconst (v := 1) o d_X4_cost_2 iconst_1 ?_
  refine J_bipush (v := 8) o d_X4_cost_3 bipush_8 ?_
  refine J_callS o [.int v1, .int 1, .int 8] mth_X4_isIn st_X4_isIn ml_RX4_74 ⟨Nat.le_of_ble_eq_true rfl, Nat.le_of_ble_eq_true rfl⟩ rfl rfl (Nat.le_of_ble_eq_true rfl) ⟨Nat.le_of_ble_eq_true rfl, Nat.le_of_ble_eq_true rfl⟩ d_X4_cost_5 (w_X4_isIn (xL x) b  h) (aZ (fun r5 s5 hzr5 h => ?_))
  refine J_if_eq o 25 d_X4_cost_8 rfl (fun c8 => ?_) (fun c8 => ?_)
  · replace h := h.1 c8
    refine J_iconst (v := 0) o d_X4_cost_25 iconst_0 ?_
    exact c_X4_cost_26 o nh   0 s5  h
  · replace h := h.2 c8
    refine J_iload_n o 2 d_X4_cost_11 rfl ?_
    refine J_iconst (v := 0) o d_X4_cost_12 iconst_0 ?_
    refine J_bipush (v := 59) o d_X4_cost_13 bipush_59 ?_
    refine J_callS o [.int v2, .int 0, .int 59] mth_X4_isIn st_X4_isIn ml_RX4_74 ⟨Nat.le_of_ble_eq_true rfl, Nat.le_of_ble_eq_true rfl⟩ rfl rfl (Nat.le_of_ble_eq_true rfl) ⟨Nat.le_of_ble_eq_true rfl, Nat.le_of_ble_eq_true rfl⟩ d_X4_cost_15 (w_X4_isIn (xL x) b  h) (aZ (fun r15 s15 hzr15 h => ?_))
    refine J_if_eq o 25 d_X4_cost_18 rfl (fun c18 => ?_) (fun c18 => ?_)
    · replace h := h.1 c18
      refine J_iconst (v := 0) o d_X4_cost_25 iconst_0 ?_
      exact c_X4_cost_26 o nh   0 s15  h
    · replace h := h.2 c18
      refine J_iconst (v := 1) o d_X4_cost_21 iconst_1 ?_
      refine J_goto o 26 d_X4_cost_22 rfl ?_
      exact c_X4_cost_26 o nh   1 s15  h
theorem d_X4_meet_0 : decode cX4_meet 0 = .ok (.aload_n 0, 1) := by decide +kernel
theorem d_X4_meet_1 : decode cX4_meet 1 = .ok (.iload_n 1, 1) := by decide +kernel
theorem d_X4_meet_2 : decode cX4_meet 2 = .ok (.invokevirtual 120, 3) := by decide +kernel
theorem d_X4_meet_5 : decode cX4_meet 5 = .ok (.aload_n 0, 1) := by decide +kernel
theorem d_X4_meet_6 : decode cX4_meet 6 = .ok (.iload_n 2, 1) := by decide +kernel
theorem d_X4_meet_7 : decode cX4_meet 7 = .ok (.iconst 0, 1) := by decide +kernel
theorem d_X4_meet_8 : decode cX4_meet 8 = .ok (.iconst 1, 1) := by decide +kernel
theorem d_X4_meet_9 : decode cX4_meet 9 = .ok (.invokestatic 74, 3) := by decide +kernel
theorem d_X4_meet_12 : decode cX4_meet 12 = .ok (.invokevirtual 78, 3) := by decide +kernel
theorem d_X4_meet_15 : decode cX4_meet 15 = .ok (.aload_n 0, 1) := by decide +kernel
theorem d_X4_meet_16 : decode cX4_meet 16 = .ok (.getfield 37, 3) := by decide +kernel
theorem d_X4_meet_19 : decode cX4_meet 19 = .ok (.invokevirtual 190, 3) := by decide +kernel
theorem d_X4_meet_22 : decode cX4_meet 22 = .ok (.aload_n 0, 1) := by decide +kernel
theorem d_X4_meet_23 : decode cX4_meet 23 = .ok (.getfield 37, 3) := by decide +kernel
theorem d_X4_meet_26 : decode cX4_meet 26 = .ok (.iload_n 1, 1) := by decide +kernel
theorem d_X4_meet_27 : decode cX4_meet 27 = .ok (.invokevirtual 202, 3) := by decide +kernel
theorem d_X4_meet_30 : decode cX4_meet 30 = .ok (.istore_n 3, 1) := by decide +kernel
theorem d_X4_meet_31 : decode cX4_meet 31 = .ok (.iload_n 2, 1) := by decide +kernel
theorem d_X4_meet_32 : decode cX4_meet 32 = .ok (.ifCond .ne 7, 3) := by decide +kernel
theorem d_X4_meet_35 : decode cX4_meet 35 = .ok (.iload_n 3, 1) := by decide +kernel
theorem d_X4_meet_36 : decode cX4_meet 36 = .ok (.goto 12, 3) := by decide +kernel
theorem d_X4_meet_39 : decode cX4_meet 39 = .ok (.aload_n 0, 1) := by decide +kernel
theorem d_X4_meet_40 : decode cX4_meet 40 = .ok (.getfield 37, 3) := by decide +kernel
theorem d_X4_meet_43 : decode cX4_meet 43 = .ok (.iload_n 1, 1) := by decide +kernel
theorem d_X4_meet_44 : decode cX4_meet 44 = .ok (.iload_n 3, 1) := by decide +kernel
theorem d_X4_meet_45 : decode cX4_meet 45 = .ok (.invokevirtual 205, 3) := by decide +kernel
theorem d_X4_meet_48 : decode cX4_meet 48 = .ok (.ireturn, 1) := by decide +kernel
abbrev rm_X4_meet : Room := { frames := 7, cells := 2, slots := 12, locals := 138 }
set_option maxHeartbeats 4000000 in
set_option maxRecDepth 20000 in
theorem w_X4_meet (l : Launch) (b : Wy) (hfl : l.stackTraces = false) {v1 : Int32} {v2 : Int32} {σ : Sg} {K : Int32 → Sg → Prop} {X : String → Sg → Prop}  (h : m_X4_meet v1 v2 σ K X) : CtX l (wC b) yX4_meet cX4_meet 4 (some .int) rm_X4_meet [.ref (wB (wC b) + 0), .int v1, .int v2] σ (PI K) X := by
  unfold m_X4_meet at h
  refine CtX.of hfl (own := RX4) (by decide +kernel) rfl (Nat.le_of_ble_eq_true rfl) (fun x hx nh o => ?_)
  subst hx
  show J x (wC b) (FinX x (wC b) (PI K) X (2, 12)) 0 [(0, .ref (wB (wC b) + 0)), (1, .int v1), (2, .int v2)] [] (0, 0) σ
  refine J_aload_n o 0 d_X4_meet_0 rfl ?_
  refine J_iload_n o 1 d_X4_meet_1 rfl ?_
  refine J_callXV (k := 0) (c := 4) o [.int v1] rfl (by decide) (Nat.le_of_ble_eq_true rfl) (Nat.le_of_ble_eq_true rfl) mth_X4_needHelper iv_X4_needHelper ml_RX4_120 ⟨Nat.le_of_ble_eq_true rfl, Nat.le_of_ble_eq_true rfl⟩ rfl rfl (Nat.le_of_ble_eq_true rfl) ⟨Nat.le_of_ble_eq_true rfl, Nat.le_of_ble_eq_true rfl⟩ d_X4_meet_2 (w_X4_needHelper (xL x) b nh.2  h) (fun E s9 hx => JT_out o nh ⟨Nat.le_of_ble_eq_true rfl, Nat.le_of_ble_eq_true rfl⟩ hx) (aV (fun s2 h => ?_))
  refine J_aload_n o 0 d_X4_meet_5 rfl ?_
  refine J_iload_n o 2 d_X4_meet_6 rfl ?_
  refine J_iconst (v := 0) o d_X4_meet_7 iconst_0 ?_
  refine J_iconst (v := 1) o d_X4_meet_8 iconst_1 ?_
  refine J_callS o [.int v2, .int 0, .int 1] mth_X4_isIn st_X4_isIn ml_RX4_74 ⟨Nat.le_of_ble_eq_true rfl, Nat.le_of_ble_eq_true rfl⟩ rfl rfl (Nat.le_of_ble_eq_true rfl) ⟨Nat.le_of_ble_eq_true rfl, Nat.le_of_ble_eq_true rfl⟩ d_X4_meet_9 (w_X4_isIn (xL x) b  h) (aZ (fun r9 s9 hzr9 h => ?_))
  refine J_callXV (k := 0) (c := 4) o [.int r9] rfl (by decide) (Nat.le_of_ble_eq_true rfl) (Nat.le_of_ble_eq_true rfl) mth_X4_needNumber iv_X4_needNumber ml_RX4_78 ⟨Nat.le_of_ble_eq_true rfl, Nat.le_of_ble_eq_true rfl⟩ rfl rfl (Nat.le_of_ble_eq_true rfl) ⟨Nat.le_of_ble_eq_true rfl, Nat.le_of_ble_eq_true rfl⟩ d_X4_meet_12 (w_X4_needNumber (xL x) b nh.2  h) (fun E s9 hx => JT_out o nh ⟨Nat.le_of_ble_eq_true rfl, Nat.le_of_ble_eq_true rfl⟩ hx) (aV (fun s12 h => ?_))
  refine J_aload_n o 0 d_X4_meet_15 rfl ?_
  refine J_getR (t := 19) o fl_RX4_37 rfl (Nat.le_of_ble_eq_true rfl) (Nat.le_of_ble_eq_true rfl) rfl rfl d_X4_meet_16 ?_
  refine J_callV (k := 19) (c := 0) o [] rfl (by decide) (Nat.le_of_ble_eq_true rfl) (Nat.le_of_ble_eq_true rfl) mth_X0_refresh iv_X0_refresh ml_RX4_190 ⟨Nat.le_of_ble_eq_true rfl, Nat.le_of_ble_eq_true rfl⟩ rfl rfl (Nat.le_of_ble_eq_true rfl) ⟨Nat.le_of_ble_eq_true rfl, Nat.le_of_ble_eq_true rfl⟩ d_X4_meet_19 (w_X0_refresh (xL x) b  h) (aV (fun s19 h => ?_))
  refine J_aload_n o 0 d_X4_meet_22 rfl ?_
  refine J_getR (t := 19) o fl_RX4_37 rfl (Nat.le_of_ble_eq_true rfl) (Nat.le_of_ble_eq_true rfl) rfl rfl d_X4_meet_23 ?_
  refine J_iload_n o 1 d_X4_meet_26 rfl ?_
  refine J_callV (k := 19) (c := 0) o [.int v1] rfl (by decide) (Nat.le_of_ble_eq_true rfl) (Nat.le_of_ble_eq_true rfl) mth_X0_earliestOf iv_X0_earliestOf ml_RX4_202 ⟨Nat.le_of_ble_eq_true rfl, Nat.le_of_ble_eq_true rfl⟩ rfl rfl (Nat.le_of_ble_eq_true rfl) ⟨Nat.le_of_ble_eq_true rfl, Nat.le_of_ble_eq_true rfl⟩ d_X4_meet_27 (w_X0_earliestOf (xL x) b  h) (aI (fun r27 s27 h => ?_))
  refine J_istore_n (lv' := [(3, .int r27), (0, .ref (wB (wC b) + 0)), (1, .int v1), (2, .int v2)]) o d_X4_meet_30 (by decide) rfl ?_
  refine J_iload_n o 3 d_X4_meet_31 rfl ?_
  refine J_if_ne o 39 d_X4_meet_32 rfl (fun c32 => ?_) (fun c32 => ?_)
  · replace h := h.1 c32
    refine J_aload_n o 1 d_X4_meet_39 rfl ?_
    refine J_getR (t := 19) o fl_RX4_37 rfl (Nat.le_of_ble_eq_true rfl) (Nat.le_of_ble_eq_true rfl) rfl rfl d_X4_meet_40 ?_
    refine J_iload_n o 2 d_X4_meet_43 rfl ?_
    refine J_iload_n o 0 d_X4_meet_44 rfl ?_
    refine J_callV (k := 19) (c := 0) o [.int v1, .int r27] rfl (by decide) (Nat.le_of_ble_eq_true rfl) (Nat.le_of_ble_eq_true rfl) mth_X0_mostMeeting iv_X0_mostMeeting ml_RX4_205 ⟨Nat.le_of_ble_eq_true rfl, Nat.le_of_ble_eq_true rfl⟩ rfl rfl (Nat.le_of_ble_eq_true rfl) ⟨Nat.le_of_ble_eq_true rfl, Nat.le_of_ble_eq_true rfl⟩ d_X4_meet_45 (w_X0_mostMeeting (xL x) b  h) (aI (fun r45 s45 h => ?_))
    exact JX_ret ⟨Nat.le_of_ble_eq_true rfl, Nat.le_of_ble_eq_true rfl⟩ (J_iret o d_X4_meet_48 ⟨_, rfl, h⟩)
  · replace h := h.2 c32
    refine J_iload_n o 0 d_X4_meet_35 rfl ?_
    refine J_goto o 48 d_X4_meet_36 rfl ?_
    exact JX_ret ⟨Nat.le_of_ble_eq_true rfl, Nat.le_of_ble_eq_true rfl⟩ (J_iret o d_X4_meet_48 ⟨_, rfl, h⟩)
theorem d_X4_route_0 : decode cX4_route 0 = .ok (.aload_n 0, 1) := by decide +kernel
theorem d_X4_route_1 : decode cX4_route 1 = .ok (.iload_n 1, 1) := by decide +kernel
theorem d_X4_route_2 : decode cX4_route 2 = .ok (.invokevirtual 120, 3) := by decide +kernel
theorem d_X4_route_5 : decode cX4_route 5 = .ok (.aload_n 0, 1) := by decide +kernel
theorem d_X4_route_6 : decode cX4_route 6 = .ok (.getfield 37, 3) := by decide +kernel
theorem d_X4_route_9 : decode cX4_route 9 = .ok (.invokevirtual 190, 3) := by decide +kernel
theorem d_X4_route_12 : decode cX4_route 12 = .ok (.aload_n 0, 1) := by decide +kernel
theorem d_X4_route_13 : decode cX4_route 13 = .ok (.getfield 37, 3) := by decide +kernel
theorem d_X4_route_16 : decode cX4_route 16 = .ok (.iload_n 1, 1) := by decide +kernel
theorem d_X4_route_17 : decode cX4_route 17 = .ok (.iload_n 2, 1) := by decide +kernel
theorem d_X4_route_18 : decode cX4_route 18 = .ok (.invokevirtual 208, 3) := by decide +kernel
theorem d_X4_route_21 : decode cX4_route 21 = .ok (.ireturn, 1) := by decide +kernel
abbrev rm_X4_route : Room := { frames := 7, cells := 1, slots := 6, locals := 138 }
set_option maxHeartbeats 4000000 in
set_option maxRecDepth 20000 in
theorem w_X4_route (l : Launch) (b : Wy) (hfl : l.stackTraces = false) {v1 : Int32} {v2 : Int32} {σ : Sg} {K : Int32 → Sg → Prop} {X : String → Sg → Prop}  (h : m_X4_route v1 v2 σ K X) : CtX l (wC b) yX4_route cX4_route 3 (some .int) rm_X4_route [.ref (wB (wC b) + 0), .int v1, .int v2] σ (PI K) X := by
  unfold m_X4_route at h
  refine CtX.of hfl (own := RX4) (by decide +kernel) rfl (Nat.le_of_ble_eq_true rfl) (fun x hx nh o => ?_)
  subst hx
  show J x (wC b) (FinX x (wC b) (PI K) X (1, 6)) 0 [(0, .ref (wB (wC b) + 0)), (1, .int v1), (2, .int v2)] [] (0, 0) σ
  refine J_aload_n o 0 d_X4_route_0 rfl ?_
  refine J_iload_n o 1 d_X4_route_1 rfl ?_
  refine J_callXV (k := 0) (c := 4) o [.int v1] rfl (by decide) (Nat.le_of_ble_eq_true rfl) (Nat.le_of_ble_eq_true rfl) mth_X4_needHelper iv_X4_needHelper ml_RX4_120 ⟨Nat.le_of_ble_eq_true rfl, Nat.le_of_ble_eq_true rfl⟩ rfl rfl (Nat.le_of_ble_eq_true rfl) ⟨Nat.le_of_ble_eq_true rfl, Nat.le_of_ble_eq_true rfl⟩ d_X4_route_2 (w_X4_needHelper (xL x) b nh.2  h) (fun E s9 hx => JT_out o nh ⟨Nat.le_of_ble_eq_true rfl, Nat.le_of_ble_eq_true rfl⟩ hx) (aV (fun s2 h => ?_))
  refine J_aload_n o 0 d_X4_route_5 rfl ?_
  refine J_getR (t := 19) o fl_RX4_37 rfl (Nat.le_of_ble_eq_true rfl) (Nat.le_of_ble_eq_true rfl) rfl rfl d_X4_route_6 ?_
  refine J_callV (k := 19) (c := 0) o [] rfl (by decide) (Nat.le_of_ble_eq_true rfl) (Nat.le_of_ble_eq_true rfl) mth_X0_refresh iv_X0_refresh ml_RX4_190 ⟨Nat.le_of_ble_eq_true rfl, Nat.le_of_ble_eq_true rfl⟩ rfl rfl (Nat.le_of_ble_eq_true rfl) ⟨Nat.le_of_ble_eq_true rfl, Nat.le_of_ble_eq_true rfl⟩ d_X4_route_9 (w_X0_refresh (xL x) b  h) (aV (fun s9 h => ?_))
  refine J_aload_n o 0 d_X4_route_12 rfl ?_
  refine J_getR (t := 19) o fl_RX4_37 rfl (Nat.le_of_ble_eq_true rfl) (Nat.le_of_ble_eq_true rfl) rfl rfl d_X4_route_13 ?_
  refine J_iload_n o 1 d_X4_route_16 rfl ?_
  refine J_iload_n o 2 d_X4_route_17 rfl ?_
  refine J_callV (k := 19) (c := 0) o [.int v1, .int v2] rfl (by decide) (Nat.le_of_ble_eq_true rfl) (Nat.le_of_ble_eq_true rfl) mth_X0_courseOf iv_X0_courseOf ml_RX4_208 ⟨Nat.le_of_ble_eq_true rfl, Nat.le_of_ble_eq_true rfl⟩ rfl rfl (Nat.le_of_ble_eq_true rfl) ⟨Nat.le_of_ble_eq_true rfl, Nat.le_of_ble_eq_true rfl⟩ d_X4_route_18 (w_X0_courseOf (xL x) b  h) (aI (fun r18 s18 h => ?_))
  exact JX_ret ⟨Nat.le_of_ble_eq_true rfl, Nat.le_of_ble_eq_true rfl⟩ (J_iret o d_X4_route_21 ⟨_, rfl, h⟩)
theorem d_X4_least_0 : decode cX4_least 0 = .ok (.aload_n 0, 1) := by decide +kernel
theorem d_X4_least_1 : decode cX4_least 1 = .ok (.iload_n 1, 1) := by decide +kernel
theorem d_X4_least_2 : decode cX4_least 2 = .ok (.invokevirtual 120, 3) := by decide +kernel
theorem d_X4_least_5 : decode cX4_least 5 = .ok (.aload_n 0, 1) := by decide +kernel
theorem d_X4_least_6 : decode cX4_least 6 = .ok (.iload_n 2, 1) := by decide +kernel
theorem d_X4_least_7 : decode cX4_least 7 = .ok (.iconst 0, 1) := by decide +kernel
theorem d_X4_least_8 : decode cX4_least 8 = .ok (.bipush 60, 2) := by decide +kernel
theorem d_X4_least_10 : decode cX4_least 10 = .ok (.invokestatic 74, 3) := by decide +kernel
theorem d_X4_least_13 : decode cX4_least 13 = .ok (.invokevirtual 78, 3) := by decide +kernel
theorem d_X4_least_16 : decode cX4_least 16 = .ok (.aload_n 0, 1) := by decide +kernel
theorem d_X4_least_17 : decode cX4_least 17 = .ok (.getfield 37, 3) := by decide +kernel
theorem d_X4_least_20 : decode cX4_least 20 = .ok (.invokevirtual 190, 3) := by decide +kernel
theorem d_X4_least_23 : decode cX4_least 23 = .ok (.aload_n 0, 1) := by decide +kernel
theorem d_X4_least_24 : decode cX4_least 24 = .ok (.getfield 37, 3) := by decide +kernel
theorem d_X4_least_27 : decode cX4_least 27 = .ok (.iload_n 1, 1) := by decide +kernel
theorem d_X4_least_28 : decode cX4_least 28 = .ok (.iload_n 2, 1) := by decide +kernel
theorem d_X4_least_29 : decode cX4_least 29 = .ok (.invokevirtual 211, 3) := by decide +kernel
theorem d_X4_least_32 : decode cX4_least 32 = .ok (.ireturn, 1) := by decide +kernel
abbrev rm_X4_least : Room := { frames := 7, cells := 2, slots := 12, locals := 138 }
set_option maxHeartbeats 4000000 in
set_option maxRecDepth 20000 in
theorem w_X4_least (l : Launch) (b : Wy) (hfl : l.stackTraces = false) {v1 : Int32} {v2 : Int32} {σ : Sg} {K : Int32 → Sg → Prop} {X : String → Sg → Prop}  (h : m_X4_least v1 v2 σ K X) : CtX l (wC b) yX4_least cX4_least 3 (some .int) rm_X4_least [.ref (wB (wC b) + 0), .int v1, .int v2] σ (PI K) X := by
  unfold m_X4_least at h
  refine CtX.of hfl (own := RX4) (by decide +kernel) rfl (Nat.le_of_ble_eq_true rfl) (fun x hx nh o => ?_)
  subst hx
  show J x (wC b) (FinX x (wC b) (PI K) X (2, 12)) 0 [(0, .ref (wB (wC b) + 0)), (1, .int v1), (2, .int v2)] [] (0, 0) σ
  refine J_aload_n o 0 d_X4_least_0 rfl ?_
  refine J_iload_n o 1 d_X4_least_1 rfl ?_
  refine J_callXV (k := 0) (c := 4) o [.int v1] rfl (by decide) (Nat.le_of_ble_eq_true rfl) (Nat.le_of_ble_eq_true rfl) mth_X4_needHelper iv_X4_needHelper ml_RX4_120 ⟨Nat.le_of_ble_eq_true rfl, Nat.le_of_ble_eq_true rfl⟩ rfl rfl (Nat.le_of_ble_eq_true rfl) ⟨Nat.le_of_ble_eq_true rfl, Nat.le_of_ble_eq_true rfl⟩ d_X4_least_2 (w_X4_needHelper (xL x) b nh.2  h) (fun E s9 hx => JT_out o nh ⟨Nat.le_of_ble_eq_true rfl, Nat.le_of_ble_eq_true rfl⟩ hx) (aV (fun s2 h => ?_))
  refine J_aload_n o 0 d_X4_least_5 rfl ?_
  refine J_iload_n o 2 d_X4_least_6 rfl ?_
  refine J_iconst (v := 0) o d_X4_least_7 iconst_0 ?_
  refine J_bipush (v := 60) o d_X4_least_8 bipush_60 ?_
  refine J_callS o [.int v2, .int 0, .int 60] mth_X4_isIn st_X4_isIn ml_RX4_74 ⟨Nat.le_of_ble_eq_true rfl, Nat.le_of_ble_eq_true rfl⟩ rfl rfl (Nat.le_of_ble_eq_true rfl) ⟨Nat.le_of_ble_eq_true rfl, Nat.le_of_ble_eq_true rfl⟩ d_X4_least_10 (w_X4_isIn (xL x) b  h) (aZ (fun r10 s10 hzr10 h => ?_))
  refine J_callXV (k := 0) (c := 4) o [.int r10] rfl (by decide) (Nat.le_of_ble_eq_true rfl) (Nat.le_of_ble_eq_true rfl) mth_X4_needNumber iv_X4_needNumber ml_RX4_78 ⟨Nat.le_of_ble_eq_true rfl, Nat.le_of_ble_eq_true rfl⟩ rfl rfl (Nat.le_of_ble_eq_true rfl) ⟨Nat.le_of_ble_eq_true rfl, Nat.le_of_ble_eq_true rfl⟩ d_X4_least_13 (w_X4_needNumber (xL x) b nh.2  h) (fun E s9 hx => JT_out o nh ⟨Nat.le_of_ble_eq_true rfl, Nat.le_of_ble_eq_true rfl⟩ hx) (aV (fun s13 h => ?_))
  refine J_aload_n o 0 d_X4_least_16 rfl ?_
  refine J_getR (t := 19) o fl_RX4_37 rfl (Nat.le_of_ble_eq_true rfl) (Nat.le_of_ble_eq_true rfl) rfl rfl d_X4_least_17 ?_
  refine J_callV (k := 19) (c := 0) o [] rfl (by decide) (Nat.le_of_ble_eq_true rfl) (Nat.le_of_ble_eq_true rfl) mth_X0_refresh iv_X0_refresh ml_RX4_190 ⟨Nat.le_of_ble_eq_true rfl, Nat.le_of_ble_eq_true rfl⟩ rfl rfl (Nat.le_of_ble_eq_true rfl) ⟨Nat.le_of_ble_eq_true rfl, Nat.le_of_ble_eq_true rfl⟩ d_X4_least_20 (w_X0_refresh (xL x) b  h) (aV (fun s20 h => ?_))
  refine J_aload_n o 0 d_X4_least_23 rfl ?_
  refine J_getR (t := 19) o fl_RX4_37 rfl (Nat.le_of_ble_eq_true rfl) (Nat.le_of_ble_eq_true rfl) rfl rfl d_X4_least_24 ?_
  refine J_iload_n o 1 d_X4_least_27 rfl ?_
  refine J_iload_n o 2 d_X4_least_28 rfl ?_
  refine J_callV (k := 19) (c := 0) o [.int v1, .int v2] rfl (by decide) (Nat.le_of_ble_eq_true rfl) (Nat.le_of_ble_eq_true rfl) mth_X0_leastOf iv_X0_leastOf ml_RX4_211 ⟨Nat.le_of_ble_eq_true rfl, Nat.le_of_ble_eq_true rfl⟩ rfl rfl (Nat.le_of_ble_eq_true rfl) ⟨Nat.le_of_ble_eq_true rfl, Nat.le_of_ble_eq_true rfl⟩ d_X4_least_29 (w_X0_leastOf (xL x) b  h) (aI (fun r29 s29 h => ?_))
  exact JX_ret ⟨Nat.le_of_ble_eq_true rfl, Nat.le_of_ble_eq_true rfl⟩ (J_iret o d_X4_least_32 ⟨_, rfl, h⟩)
theorem d_X4_reach_0 : decode cX4_reach 0 = .ok (.aload_n 0, 1) := by decide +kernel
theorem d_X4_reach_1 : decode cX4_reach 1 = .ok (.iload_n 1, 1) := by decide +kernel
theorem d_X4_reach_2 : decode cX4_reach 2 = .ok (.invokevirtual 120, 3) := by decide +kernel
theorem d_X4_reach_5 : decode cX4_reach 5 = .ok (.aload_n 0, 1) := by decide +kernel
theorem d_X4_reach_6 : decode cX4_reach 6 = .ok (.iload_n 2, 1) := by decide +kernel
theorem d_X4_reach_7 : decode cX4_reach 7 = .ok (.iconst 0, 1) := by decide +kernel
theorem d_X4_reach_8 : decode cX4_reach 8 = .ok (.bipush 60, 2) := by decide +kernel
theorem d_X4_reach_10 : decode cX4_reach 10 = .ok (.invokestatic 74, 3) := by decide +kernel
theorem d_X4_reach_13 : decode cX4_reach 13 = .ok (.invokevirtual 78, 3) := by decide +kernel
theorem d_X4_reach_16 : decode cX4_reach 16 = .ok (.aload_n 0, 1) := by decide +kernel
theorem d_X4_reach_17 : decode cX4_reach 17 = .ok (.getfield 37, 3) := by decide +kernel
theorem d_X4_reach_20 : decode cX4_reach 20 = .ok (.invokevirtual 190, 3) := by decide +kernel
theorem d_X4_reach_23 : decode cX4_reach 23 = .ok (.aload_n 0, 1) := by decide +kernel
theorem d_X4_reach_24 : decode cX4_reach 24 = .ok (.getfield 37, 3) := by decide +kernel
theorem d_X4_reach_27 : decode cX4_reach 27 = .ok (.iload_n 1, 1) := by decide +kernel
theorem d_X4_reach_28 : decode cX4_reach 28 = .ok (.iload_n 2, 1) := by decide +kernel
theorem d_X4_reach_29 : decode cX4_reach 29 = .ok (.invokevirtual 214, 3) := by decide +kernel
theorem d_X4_reach_32 : decode cX4_reach 32 = .ok (.ireturn, 1) := by decide +kernel
abbrev rm_X4_reach : Room := { frames := 7, cells := 2, slots := 12, locals := 138 }
set_option maxHeartbeats 4000000 in
set_option maxRecDepth 20000 in
theorem w_X4_reach (l : Launch) (b : Wy) (hfl : l.stackTraces = false) {v1 : Int32} {v2 : Int32} {σ : Sg} {K : Int32 → Sg → Prop} {X : String → Sg → Prop}  (h : m_X4_reach v1 v2 σ K X) : CtX l (wC b) yX4_reach cX4_reach 3 (some .int) rm_X4_reach [.ref (wB (wC b) + 0), .int v1, .int v2] σ (PI K) X := by
  unfold m_X4_reach at h
  refine CtX.of hfl (own := RX4) (by decide +kernel) rfl (Nat.le_of_ble_eq_true rfl) (fun x hx nh o => ?_)
  subst hx
  show J x (wC b) (FinX x (wC b) (PI K) X (2, 12)) 0 [(0, .ref (wB (wC b) + 0)), (1, .int v1), (2, .int v2)] [] (0, 0) σ
  refine J_aload_n o 0 d_X4_reach_0 rfl ?_
  refine J_iload_n o 1 d_X4_reach_1 rfl ?_
  refine J_callXV (k := 0) (c := 4) o [.int v1] rfl (by decide) (Nat.le_of_ble_eq_true rfl) (Nat.le_of_ble_eq_true rfl) mth_X4_needHelper iv_X4_needHelper ml_RX4_120 ⟨Nat.le_of_ble_eq_true rfl, Nat.le_of_ble_eq_true rfl⟩ rfl rfl (Nat.le_of_ble_eq_true rfl) ⟨Nat.le_of_ble_eq_true rfl, Nat.le_of_ble_eq_true rfl⟩ d_X4_reach_2 (w_X4_needHelper (xL x) b nh.2  h) (fun E s9 hx => JT_out o nh ⟨Nat.le_of_ble_eq_true rfl, Nat.le_of_ble_eq_true rfl⟩ hx) (aV (fun s2 h => ?_))
  refine J_aload_n o 0 d_X4_reach_5 rfl ?_
  refine J_iload_n o 2 d_X4_reach_6 rfl ?_
  refine J_iconst (v := 0) o d_X4_reach_7 iconst_0 ?_
  refine J_bipush (v := 60) o d_X4_reach_8 bipush_60 ?_
  refine J_callS o [.int v2, .int 0, .int 60] mth_X4_isIn st_X4_isIn ml_RX4_74 ⟨Nat.le_of_ble_eq_true rfl, Nat.le_of_ble_eq_true rfl⟩ rfl rfl (Nat.le_of_ble_eq_true rfl) ⟨Nat.le_of_ble_eq_true rfl, Nat.le_of_ble_eq_true rfl⟩ d_X4_reach_10 (w_X4_isIn (xL x) b  h) (aZ (fun r10 s10 hzr10 h => ?_))
  refine J_callXV (k := 0) (c := 4) o [.int r10] rfl (by decide) (Nat.le_of_ble_eq_true rfl) (Nat.le_of_ble_eq_true rfl) mth_X4_needNumber iv_X4_needNumber ml_RX4_78 ⟨Nat.le_of_ble_eq_true rfl, Nat.le_of_ble_eq_true rfl⟩ rfl rfl (Nat.le_of_ble_eq_true rfl) ⟨Nat.le_of_ble_eq_true rfl, Nat.le_of_ble_eq_true rfl⟩ d_X4_reach_13 (w_X4_needNumber (xL x) b nh.2  h) (fun E s9 hx => JT_out o nh ⟨Nat.le_of_ble_eq_true rfl, Nat.le_of_ble_eq_true rfl⟩ hx) (aV (fun s13 h => ?_))
  refine J_aload_n o 0 d_X4_reach_16 rfl ?_
  refine J_getR (t := 19) o fl_RX4_37 rfl (Nat.le_of_ble_eq_true rfl) (Nat.le_of_ble_eq_true rfl) rfl rfl d_X4_reach_17 ?_
  refine J_callV (k := 19) (c := 0) o [] rfl (by decide) (Nat.le_of_ble_eq_true rfl) (Nat.le_of_ble_eq_true rfl) mth_X0_refresh iv_X0_refresh ml_RX4_190 ⟨Nat.le_of_ble_eq_true rfl, Nat.le_of_ble_eq_true rfl⟩ rfl rfl (Nat.le_of_ble_eq_true rfl) ⟨Nat.le_of_ble_eq_true rfl, Nat.le_of_ble_eq_true rfl⟩ d_X4_reach_20 (w_X0_refresh (xL x) b  h) (aV (fun s20 h => ?_))
  refine J_aload_n o 0 d_X4_reach_23 rfl ?_
  refine J_getR (t := 19) o fl_RX4_37 rfl (Nat.le_of_ble_eq_true rfl) (Nat.le_of_ble_eq_true rfl) rfl rfl d_X4_reach_24 ?_
  refine J_iload_n o 1 d_X4_reach_27 rfl ?_
  refine J_iload_n o 2 d_X4_reach_28 rfl ?_
  refine J_callV (k := 19) (c := 0) o [.int v1, .int v2] rfl (by decide) (Nat.le_of_ble_eq_true rfl) (Nat.le_of_ble_eq_true rfl) mth_X0_reachOf iv_X0_reachOf ml_RX4_214 ⟨Nat.le_of_ble_eq_true rfl, Nat.le_of_ble_eq_true rfl⟩ rfl rfl (Nat.le_of_ble_eq_true rfl) ⟨Nat.le_of_ble_eq_true rfl, Nat.le_of_ble_eq_true rfl⟩ d_X4_reach_29 (w_X0_reachOf (xL x) b  h) (aI (fun r29 s29 h => ?_))
  exact JX_ret ⟨Nat.le_of_ble_eq_true rfl, Nat.le_of_ble_eq_true rfl⟩ (J_iret o d_X4_reach_32 ⟨_, rfl, h⟩)
theorem d_X4_most_0 : decode cX4_most 0 = .ok (.aload_n 0, 1) := by decide +kernel
theorem d_X4_most_1 : decode cX4_most 1 = .ok (.iload_n 1, 1) := by decide +kernel
theorem d_X4_most_2 : decode cX4_most 2 = .ok (.invokevirtual 120, 3) := by decide +kernel
theorem d_X4_most_5 : decode cX4_most 5 = .ok (.aload_n 0, 1) := by decide +kernel
theorem d_X4_most_6 : decode cX4_most 6 = .ok (.iload_n 2, 1) := by decide +kernel
theorem d_X4_most_7 : decode cX4_most 7 = .ok (.iconst 0, 1) := by decide +kernel
theorem d_X4_most_8 : decode cX4_most 8 = .ok (.bipush 60, 2) := by decide +kernel
theorem d_X4_most_10 : decode cX4_most 10 = .ok (.invokestatic 74, 3) := by decide +kernel
theorem d_X4_most_13 : decode cX4_most 13 = .ok (.ifCond .eq 20, 3) := by decide +kernel
theorem d_X4_most_16 : decode cX4_most 16 = .ok (.aload_n 0, 1) := by decide +kernel
theorem d_X4_most_17 : decode cX4_most 17 = .ok (.getfield 16, 3) := by decide +kernel
theorem d_X4_most_20 : decode cX4_most 20 = .ok (.iload_n 3, 1) := by decide +kernel
theorem d_X4_most_21 : decode cX4_most 21 = .ok (.iload 4, 2) := by decide +kernel
theorem d_X4_most_23 : decode cX4_most 23 = .ok (.invokevirtual 174, 3) := by decide +kernel
theorem d_X4_most_26 : decode cX4_most 26 = .ok (.ifCond .eq 7, 3) := by decide +kernel
theorem d_X4_most_29 : decode cX4_most 29 = .ok (.iconst 1, 1) := by decide +kernel
theorem d_X4_most_30 : decode cX4_most 30 = .ok (.goto 4, 3) := by decide +kernel
theorem d_X4_most_33 : decode cX4_most 33 = .ok (.iconst 0, 1) := by decide +kernel
theorem d_X4_most_34 : decode cX4_most 34 = .ok (.invokevirtual 78, 3) := by decide +kernel
theorem d_X4_most_37 : decode cX4_most 37 = .ok (.aload_n 0, 1) := by decide +kernel
theorem d_X4_most_38 : decode cX4_most 38 = .ok (.getfield 37, 3) := by decide +kernel
theorem d_X4_most_41 : decode cX4_most 41 = .ok (.invokevirtual 190, 3) := by decide +kernel
theorem d_X4_most_44 : decode cX4_most 44 = .ok (.aload_n 0, 1) := by decide +kernel
theorem d_X4_most_45 : decode cX4_most 45 = .ok (.getfield 37, 3) := by decide +kernel
theorem d_X4_most_48 : decode cX4_most 48 = .ok (.iload_n 1, 1) := by decide +kernel
theorem d_X4_most_49 : decode cX4_most 49 = .ok (.iload_n 2, 1) := by decide +kernel
theorem d_X4_most_50 : decode cX4_most 50 = .ok (.aload_n 0, 1) := by decide +kernel
theorem d_X4_most_51 : decode cX4_most 51 = .ok (.getfield 16, 3) := by decide +kernel
theorem d_X4_most_54 : decode cX4_most 54 = .ok (.iload_n 3, 1) := by decide +kernel
theorem d_X4_most_55 : decode cX4_most 55 = .ok (.iload 4, 2) := by decide +kernel
theorem d_X4_most_57 : decode cX4_most 57 = .ok (.invokevirtual 177, 3) := by decide +kernel
theorem d_X4_most_60 : decode cX4_most 60 = .ok (.invokevirtual 217, 3) := by decide +kernel
theorem d_X4_most_63 : decode cX4_most 63 = .ok (.ireturn, 1) := by decide +kernel
abbrev rm_X4_most : Room := { frames := 7, cells := 2, slots := 12, locals := 138 }
set_option maxHeartbeats 4000000 in
set_option maxRecDepth 20000 in
theorem c_X4_most_34 {x : Cx} {b : Wy} (o : Ok x (wC b) cX4_most 5 RX4 (some .int) rm_X4_most) (nh : NoH x) {v1 : Int32} {v2 : Int32} {v3 : Int32} {v4 : Int32} {K : Int32 → Sg → Prop} {X : String → Sg → Prop}   : ∀ (k1 : Int32) (σ : Sg), m_X4_most_j34 v1 v2 v3 v4 K X  k1 σ → J x (wC b) (FinX x (wC b) (PI K) X (2, 12)) 34 [(0, .ref (wB (wC b) + 0)), (1, .int v1), (2, .int v2), (3, .int v3), (4, .int v4)] [.int k1, .ref (wB (wC b) + 0)] (1, 6) σ := by
  intro k1 σ  h
  unfold m_X4_most_j34 at h
  refine J_callXV (k := 0) (c := 4) o [.int k1] rfl (by decide) (Nat.le_of_ble_eq_true rfl) (Nat.le_of_ble_eq_true rfl) mth_X4_needNumber iv_X4_needNumber ml_RX4_78 ⟨Nat.le_of_ble_eq_true rfl, Nat.le_of_ble_eq_true rfl⟩ rfl rfl (Nat.le_of_ble_eq_true rfl) ⟨Nat.le_of_ble_eq_true rfl, Nat.le_of_ble_eq_true rfl⟩ d_X4_most_34 (w_X4_needNumber (xL x) b nh.2  h) (fun E s9 hx => JT_out o nh ⟨Nat.le_of_ble_eq_true rfl, Nat.le_of_ble_eq_true rfl⟩ hx) (aV (fun s34 h => ?_))
  refine J_aload_n o 0 d_X4_most_37 rfl ?_
  refine J_getR (t := 19) o fl_RX4_37 rfl (Nat.le_of_ble_eq_true rfl) (Nat.le_of_ble_eq_true rfl) rfl rfl d_X4_most_38 ?_
  refine J_callV (k := 19) (c := 0) o [] rfl (by decide) (Nat.le_of_ble_eq_true rfl) (Nat.le_of_ble_eq_true rfl) mth_X0_refresh iv_X0_refresh ml_RX4_190 ⟨Nat.le_of_ble_eq_true rfl, Nat.le_of_ble_eq_true rfl⟩ rfl rfl (Nat.le_of_ble_eq_true rfl) ⟨Nat.le_of_ble_eq_true rfl, Nat.le_of_ble_eq_true rfl⟩ d_X4_most_41 (w_X0_refresh (xL x) b  h) (aV (fun s41 h => ?_))
  refine J_aload_n o 0 d_X4_most_44 rfl ?_
  refine J_getR (t := 19) o fl_RX4_37 rfl (Nat.le_of_ble_eq_true rfl) (Nat.le_of_ble_eq_true rfl) rfl rfl d_X4_most_45 ?_
  refine J_iload_n o 1 d_X4_most_48 rfl ?_
  refine J_iload_n o 2 d_X4_most_49 rfl ?_
  refine J_aload_n o 0 d_X4_most_50 rfl ?_
  refine J_getR (t := 2) o fl_RX4_16 rfl (Nat.le_of_ble_eq_true rfl) (Nat.le_of_ble_eq_true rfl) rfl rfl d_X4_most_51 ?_
  refine J_iload_n o 3 d_X4_most_54 rfl ?_
  refine J_iload o 4 d_X4_most_55 rfl ?_
  refine J_callV (k := 2) (c := 3) o [.int v3, .int v4] (W_kd W_2) (by decide) (Nat.zero_le _) (W_hi W_2) mth_X3_cellAt iv_X3_cellAt ml_RX4_177 ⟨Nat.le_of_ble_eq_true rfl, Nat.le_of_ble_eq_true rfl⟩ rfl rfl (Nat.le_of_ble_eq_true rfl) ⟨Nat.le_of_ble_eq_true rfl, Nat.le_of_ble_eq_true rfl⟩ d_X4_most_57 (w_X3_cellAt (xL x) b W_2 h) (aI (fun r57 s57 h => ?_))
  refine J_callV (k := 19) (c := 0) o [.int v1, .int v2, .int r57] rfl (by decide) (Nat.le_of_ble_eq_true rfl) (Nat.le_of_ble_eq_true rfl) mth_X0_mostOf iv_X0_mostOf ml_RX4_217 ⟨Nat.le_of_ble_eq_true rfl, Nat.le_of_ble_eq_true rfl⟩ rfl rfl (Nat.le_of_ble_eq_true rfl) ⟨Nat.le_of_ble_eq_true rfl, Nat.le_of_ble_eq_true rfl⟩ d_X4_most_60 (w_X0_mostOf (xL x) b  h) (aI (fun r60 s60 h => ?_))
  exact JX_ret ⟨Nat.le_of_ble_eq_true rfl, Nat.le_of_ble_eq_true rfl⟩ (J_iret o d_X4_most_63 ⟨_, rfl, h⟩)
set_option maxHeartbeats 4000000 in
set_option maxRecDepth 20000 in
theorem w_X4_most (l : Launch) (b : Wy) (hfl : l.stackTraces = false) {v1 : Int32} {v2 : Int32} {v3 : Int32} {v4 : Int32} {σ : Sg} {K : Int32 → Sg → Prop} {X : String → Sg → Prop}  (h : m_X4_most v1 v2 v3 v4 σ K X) : CtX l (wC b) yX4_most cX4_most 5 (some .int) rm_X4_most [.ref (wB (wC b) + 0), .int v1, .int v2, .int v3, .int v4] σ (PI K) X := by
  unfold m_X4_most at h
  refine CtX.of hfl (own := RX4) (by decide +kernel) rfl (Nat.le_of_ble_eq_true rfl) (fun x hx nh o => ?_)
  subst hx
  show J x (wC b) (FinX x (wC b) (PI K) X (2, 12)) 0 [(0, .ref (wB (wC b) + 0)), (1, .int v1), (2, .int v2), (3, .int v3), (4, .int v4)] [] (0, 0) σ
  refine J_aload_n o 0 d_X4_most_0 rfl ?_
  refine J_iload_n o 1 d_X4_most_1 rfl ?_
  refine J_callXV (k := 0) (c := 4) o [.int v1] rfl (by decide) (Nat.le_of_ble_eq_true rfl) (Nat.le_of_ble_eq_true rfl) mth_X4_needHelper iv_X4_needHelper ml_RX4_120 ⟨Nat.le_of_ble_eq_true rfl, Nat.le_of_ble_eq_true rfl⟩ rfl rfl (Nat.le_of_ble_eq_true rfl) ⟨Nat.le_of_ble_eq_true rfl, Nat.le_of_ble_eq_true rfl⟩ d_X4_most_2 (w_X4_needHelper (xL x) b nh.2  h) (fun E s9 hx => JT_out o nh ⟨Nat.le_of_ble_eq_true rfl, Nat.le_of_ble_eq_true rfl⟩ hx) (aV (fun s2 h => ?_))
  refine J_aload_n o 0 d_X4_most_5 rfl ?_
  refine J_iload_n o 2 d_X4_most_6 rfl ?_
  refine J_iconst (v := 0) o d_X4_most_7 iconst_0 ?_
  refine J_bipush (v := 60) o d_X4_most_8 bipush_60 ?_
  refine J_callS o [.int v2, .int 0, .int 60] mth_X4_isIn st_X4_isIn ml_RX4_74 ⟨Nat.le_of_ble_eq_true rfl, Nat.le_of_ble_eq_true rfl⟩ rfl rfl (Nat.le_of_ble_eq_true rfl) ⟨Nat.le_of_ble_eq_true rfl, Nat.le_of_ble_eq_true rfl⟩ d_X4_most_10 (w_X4_isIn (xL x) b  h) (aZ (fun r10 s10 hzr10 h => ?_))
  refine J_if_eq o 33 d_X4_most_13 rfl (fun c13 => ?_) (fun c13 => ?_)
  · replace h := h.1 c13
    refine J_iconst (v := 0) o d_X4_most_33 iconst_0 ?_
    exact c_X4_most_34 o nh   0 s10  h
  · replace h := h.2 c13
    refine J_aload_n o 0 d_X4_most_16 rfl ?_
    refine J_getR (t := 2) o fl_RX4_16 rfl (Nat.le_of_ble_eq_true rfl) (Nat.le_of_ble_eq_true rfl) rfl rfl d_X4_most_17 ?_
    refine J_iload_n o 3 d_X4_most_20 rfl ?_
    refine J_iload o 4 d_X4_most_21 rfl ?_
    refine J_callV (k := 2) (c := 3) o [.int v3, .int v4] (W_kd W_2) (by decide) (Nat.zero_le _) (W_hi W_2) mth_X3_isOnSea iv_X3_isOnSea ml_RX4_174 ⟨Nat.le_of_ble_eq_true rfl, Nat.le_of_ble_eq_true rfl⟩ rfl rfl (Nat.le_of_ble_eq_true rfl) ⟨Nat.le_of_ble_eq_true rfl, Nat.le_of_ble_eq_true rfl⟩ d_X4_most_23 (w_X3_isOnSea (xL x) b W_2 h) (aZ (fun r23 s23 hzr23 h => ?_))
    refine J_if_eq o 33 d_X4_most_26 rfl (fun c26 => ?_) (fun c26 => ?_)
    · replace h := h.1 c26
      refine J_iconst (v := 0) o d_X4_most_33 iconst_0 ?_
      exact c_X4_most_34 o nh   0 s23  h
    · replace h := h.2 c26
      refine J_iconst (v := 1) o d_X4_most_29 iconst_1 ?_
      refine J_goto o 34 d_X4_most_30 rfl ?_
      exact c_X4_most_34 o nh   1 s23  h
theorem d_X4_relay_0 : decode cX4_relay 0 = .ok (.aload_n 0, 1) := by decide +kernel
theorem d_X4_relay_1 : decode cX4_relay 1 = .ok (.iload_n 1, 1) := by decide +kernel
theorem d_X4_relay_2 : decode cX4_relay 2 = .ok (.invokevirtual 120, 3) := by decide +kernel
theorem d_X4_relay_5 : decode cX4_relay 5 = .ok (.aload_n 0, 1) := by decide +kernel
theorem d_X4_relay_6 : decode cX4_relay 6 = .ok (.iload_n 2, 1) := by decide +kernel
theorem d_X4_relay_7 : decode cX4_relay 7 = .ok (.invokevirtual 120, 3) := by decide +kernel
theorem d_X4_relay_10 : decode cX4_relay 10 = .ok (.aload_n 0, 1) := by decide +kernel
theorem d_X4_relay_11 : decode cX4_relay 11 = .ok (.iload_n 1, 1) := by decide +kernel
theorem d_X4_relay_12 : decode cX4_relay 12 = .ok (.iload_n 2, 1) := by decide +kernel
theorem d_X4_relay_13 : decode cX4_relay 13 = .ok (.if_icmp .eq 7, 3) := by decide +kernel
theorem d_X4_relay_16 : decode cX4_relay 16 = .ok (.iconst 1, 1) := by decide +kernel
theorem d_X4_relay_17 : decode cX4_relay 17 = .ok (.goto 4, 3) := by decide +kernel
theorem d_X4_relay_20 : decode cX4_relay 20 = .ok (.iconst 0, 1) := by decide +kernel
theorem d_X4_relay_21 : decode cX4_relay 21 = .ok (.invokevirtual 78, 3) := by decide +kernel
theorem d_X4_relay_24 : decode cX4_relay 24 = .ok (.aload_n 0, 1) := by decide +kernel
theorem d_X4_relay_25 : decode cX4_relay 25 = .ok (.getfield 37, 3) := by decide +kernel
theorem d_X4_relay_28 : decode cX4_relay 28 = .ok (.invokevirtual 190, 3) := by decide +kernel
theorem d_X4_relay_31 : decode cX4_relay 31 = .ok (.aload_n 0, 1) := by decide +kernel
theorem d_X4_relay_32 : decode cX4_relay 32 = .ok (.getfield 37, 3) := by decide +kernel
theorem d_X4_relay_35 : decode cX4_relay 35 = .ok (.iload_n 1, 1) := by decide +kernel
theorem d_X4_relay_36 : decode cX4_relay 36 = .ok (.iload_n 2, 1) := by decide +kernel
theorem d_X4_relay_37 : decode cX4_relay 37 = .ok (.invokevirtual 221, 3) := by decide +kernel
theorem d_X4_relay_40 : decode cX4_relay 40 = .ok (.ireturn, 1) := by decide +kernel
abbrev rm_X4_relay : Room := { frames := 7, cells := 3, slots := 18, locals := 138 }
set_option maxHeartbeats 4000000 in
set_option maxRecDepth 20000 in
theorem c_X4_relay_21 {x : Cx} {b : Wy} (o : Ok x (wC b) cX4_relay 3 RX4 (some .int) rm_X4_relay) (nh : NoH x) {v1 : Int32} {v2 : Int32} {K : Int32 → Sg → Prop} {X : String → Sg → Prop}   : ∀ (k1 : Int32) (σ : Sg), m_X4_relay_j21 v1 v2 K X  k1 σ → J x (wC b) (FinX x (wC b) (PI K) X (3, 18)) 21 [(0, .ref (wB (wC b) + 0)), (1, .int v1), (2, .int v2)] [.int k1, .ref (wB (wC b) + 0)] (2, 12) σ := by
  intro k1 σ  h
  unfold m_X4_relay_j21 at h
  refine J_callXV (k := 0) (c := 4) o [.int k1] rfl (by decide) (Nat.le_of_ble_eq_true rfl) (Nat.le_of_ble_eq_true rfl) mth_X4_needNumber iv_X4_needNumber ml_RX4_78 ⟨Nat.le_of_ble_eq_true rfl, Nat.le_of_ble_eq_true rfl⟩ rfl rfl (Nat.le_of_ble_eq_true rfl) ⟨Nat.le_of_ble_eq_true rfl, Nat.le_of_ble_eq_true rfl⟩ d_X4_relay_21 (w_X4_needNumber (xL x) b nh.2  h) (fun E s9 hx => JT_out o nh ⟨Nat.le_of_ble_eq_true rfl, Nat.le_of_ble_eq_true rfl⟩ hx) (aV (fun s21 h => ?_))
  refine J_aload_n o 0 d_X4_relay_24 rfl ?_
  refine J_getR (t := 19) o fl_RX4_37 rfl (Nat.le_of_ble_eq_true rfl) (Nat.le_of_ble_eq_true rfl) rfl rfl d_X4_relay_25 ?_
  refine J_callV (k := 19) (c := 0) o [] rfl (by decide) (Nat.le_of_ble_eq_true rfl) (Nat.le_of_ble_eq_true rfl) mth_X0_refresh iv_X0_refresh ml_RX4_190 ⟨Nat.le_of_ble_eq_true rfl, Nat.le_of_ble_eq_true rfl⟩ rfl rfl (Nat.le_of_ble_eq_true rfl) ⟨Nat.le_of_ble_eq_true rfl, Nat.le_of_ble_eq_true rfl⟩ d_X4_relay_28 (w_X0_refresh (xL x) b  h) (aV (fun s28 h => ?_))
  refine J_aload_n o 0 d_X4_relay_31 rfl ?_
  refine J_getR (t := 19) o fl_RX4_37 rfl (Nat.le_of_ble_eq_true rfl) (Nat.le_of_ble_eq_true rfl) rfl rfl d_X4_relay_32 ?_
  refine J_iload_n o 1 d_X4_relay_35 rfl ?_
  refine J_iload_n o 2 d_X4_relay_36 rfl ?_
  refine J_callV (k := 19) (c := 0) o [.int v1, .int v2] rfl (by decide) (Nat.le_of_ble_eq_true rfl) (Nat.le_of_ble_eq_true rfl) mth_X0_relayOf iv_X0_relayOf ml_RX4_221 ⟨Nat.le_of_ble_eq_true rfl, Nat.le_of_ble_eq_true rfl⟩ rfl rfl (Nat.le_of_ble_eq_true rfl) ⟨Nat.le_of_ble_eq_true rfl, Nat.le_of_ble_eq_true rfl⟩ d_X4_relay_37 (w_X0_relayOf (xL x) b  h) (aI (fun r37 s37 h => ?_))
  exact JX_ret ⟨Nat.le_of_ble_eq_true rfl, Nat.le_of_ble_eq_true rfl⟩ (J_iret o d_X4_relay_40 ⟨_, rfl, h⟩)
set_option maxHeartbeats 4000000 in
set_option maxRecDepth 20000 in
theorem w_X4_relay (l : Launch) (b : Wy) (hfl : l.stackTraces = false) {v1 : Int32} {v2 : Int32} {σ : Sg} {K : Int32 → Sg → Prop} {X : String → Sg → Prop}  (h : m_X4_relay v1 v2 σ K X) : CtX l (wC b) yX4_relay cX4_relay 3 (some .int) rm_X4_relay [.ref (wB (wC b) + 0), .int v1, .int v2] σ (PI K) X := by
  unfold m_X4_relay at h
  refine CtX.of hfl (own := RX4) (by decide +kernel) rfl (Nat.le_of_ble_eq_true rfl) (fun x hx nh o => ?_)
  subst hx
  show J x (wC b) (FinX x (wC b) (PI K) X (3, 18)) 0 [(0, .ref (wB (wC b) + 0)), (1, .int v1), (2, .int v2)] [] (0, 0) σ
  refine J_aload_n o 0 d_X4_relay_0 rfl ?_
  refine J_iload_n o 1 d_X4_relay_1 rfl ?_
  refine J_callXV (k := 0) (c := 4) o [.int v1] rfl (by decide) (Nat.le_of_ble_eq_true rfl) (Nat.le_of_ble_eq_true rfl) mth_X4_needHelper iv_X4_needHelper ml_RX4_120 ⟨Nat.le_of_ble_eq_true rfl, Nat.le_of_ble_eq_true rfl⟩ rfl rfl (Nat.le_of_ble_eq_true rfl) ⟨Nat.le_of_ble_eq_true rfl, Nat.le_of_ble_eq_true rfl⟩ d_X4_relay_2 (w_X4_needHelper (xL x) b nh.2  h) (fun E s9 hx => JT_out o nh ⟨Nat.le_of_ble_eq_true rfl, Nat.le_of_ble_eq_true rfl⟩ hx) (aV (fun s2 h => ?_))
  refine J_aload_n o 0 d_X4_relay_5 rfl ?_
  refine J_iload_n o 2 d_X4_relay_6 rfl ?_
  refine J_callXV (k := 0) (c := 4) o [.int v2] rfl (by decide) (Nat.le_of_ble_eq_true rfl) (Nat.le_of_ble_eq_true rfl) mth_X4_needHelper iv_X4_needHelper ml_RX4_120 ⟨Nat.le_of_ble_eq_true rfl, Nat.le_of_ble_eq_true rfl⟩ rfl rfl (Nat.le_of_ble_eq_true rfl) ⟨Nat.le_of_ble_eq_true rfl, Nat.le_of_ble_eq_true rfl⟩ d_X4_relay_7 (w_X4_needHelper (xL x) b nh.2  h) (fun E s9 hx => JT_out o nh ⟨Nat.le_of_ble_eq_true rfl, Nat.le_of_ble_eq_true rfl⟩ hx) (aV (fun s7 h => ?_))
  refine J_aload_n o 0 d_X4_relay_10 rfl ?_
  refine J_iload_n o 1 d_X4_relay_11 rfl ?_
  refine J_iload_n o 2 d_X4_relay_12 rfl ?_
  refine J_icmp_eq o 20 d_X4_relay_13 rfl (fun c13 => ?_) (fun c13 => ?_)
  · replace h := h.1 c13
    refine J_iconst (v := 0) o d_X4_relay_20 iconst_0 ?_
    exact c_X4_relay_21 o nh   0 s7  h
  · replace h := h.2 c13
    refine J_iconst (v := 1) o d_X4_relay_16 iconst_1 ?_
    refine J_goto o 21 d_X4_relay_17 rfl ?_
    exact c_X4_relay_21 o nh   1 s7  h
theorem d_X4_home_0 : decode cX4_home 0 = .ok (.aload_n 0, 1) := by decide +kernel
theorem d_X4_home_1 : decode cX4_home 1 = .ok (.iload_n 1, 1) := by decide +kernel
theorem d_X4_home_2 : decode cX4_home 2 = .ok (.invokevirtual 120, 3) := by decide +kernel
theorem d_X4_home_5 : decode cX4_home 5 = .ok (.aload_n 0, 1) := by decide +kernel
theorem d_X4_home_6 : decode cX4_home 6 = .ok (.iload_n 2, 1) := by decide +kernel
theorem d_X4_home_7 : decode cX4_home 7 = .ok (.iconst 0, 1) := by decide +kernel
theorem d_X4_home_8 : decode cX4_home 8 = .ok (.iconst 1, 1) := by decide +kernel
theorem d_X4_home_9 : decode cX4_home 9 = .ok (.invokestatic 74, 3) := by decide +kernel
theorem d_X4_home_12 : decode cX4_home 12 = .ok (.invokevirtual 78, 3) := by decide +kernel
theorem d_X4_home_15 : decode cX4_home 15 = .ok (.aload_n 0, 1) := by decide +kernel
theorem d_X4_home_16 : decode cX4_home 16 = .ok (.getfield 37, 3) := by decide +kernel
theorem d_X4_home_19 : decode cX4_home 19 = .ok (.invokevirtual 190, 3) := by decide +kernel
theorem d_X4_home_22 : decode cX4_home 22 = .ok (.aload_n 0, 1) := by decide +kernel
theorem d_X4_home_23 : decode cX4_home 23 = .ok (.getfield 37, 3) := by decide +kernel
theorem d_X4_home_26 : decode cX4_home 26 = .ok (.iload_n 1, 1) := by decide +kernel
theorem d_X4_home_27 : decode cX4_home 27 = .ok (.iload_n 2, 1) := by decide +kernel
theorem d_X4_home_28 : decode cX4_home 28 = .ok (.invokevirtual 224, 3) := by decide +kernel
theorem d_X4_home_31 : decode cX4_home 31 = .ok (.ireturn, 1) := by decide +kernel
abbrev rm_X4_home : Room := { frames := 7, cells := 2, slots := 12, locals := 138 }
set_option maxHeartbeats 4000000 in
set_option maxRecDepth 20000 in
theorem w_X4_home (l : Launch) (b : Wy) (hfl : l.stackTraces = false) {v1 : Int32} {v2 : Int32} {σ : Sg} {K : Int32 → Sg → Prop} {X : String → Sg → Prop}  (h : m_X4_home v1 v2 σ K X) : CtX l (wC b) yX4_home cX4_home 3 (some .int) rm_X4_home [.ref (wB (wC b) + 0), .int v1, .int v2] σ (PI K) X := by
  unfold m_X4_home at h
  refine CtX.of hfl (own := RX4) (by decide +kernel) rfl (Nat.le_of_ble_eq_true rfl) (fun x hx nh o => ?_)
  subst hx
  show J x (wC b) (FinX x (wC b) (PI K) X (2, 12)) 0 [(0, .ref (wB (wC b) + 0)), (1, .int v1), (2, .int v2)] [] (0, 0) σ
  refine J_aload_n o 0 d_X4_home_0 rfl ?_
  refine J_iload_n o 1 d_X4_home_1 rfl ?_
  refine J_callXV (k := 0) (c := 4) o [.int v1] rfl (by decide) (Nat.le_of_ble_eq_true rfl) (Nat.le_of_ble_eq_true rfl) mth_X4_needHelper iv_X4_needHelper ml_RX4_120 ⟨Nat.le_of_ble_eq_true rfl, Nat.le_of_ble_eq_true rfl⟩ rfl rfl (Nat.le_of_ble_eq_true rfl) ⟨Nat.le_of_ble_eq_true rfl, Nat.le_of_ble_eq_true rfl⟩ d_X4_home_2 (w_X4_needHelper (xL x) b nh.2  h) (fun E s9 hx => JT_out o nh ⟨Nat.le_of_ble_eq_true rfl, Nat.le_of_ble_eq_true rfl⟩ hx) (aV (fun s2 h => ?_))
  refine J_aload_n o 0 d_X4_home_5 rfl ?_
  refine J_iload_n o 2 d_X4_home_6 rfl ?_
  refine J_iconst (v := 0) o d_X4_home_7 iconst_0 ?_
  refine J_iconst (v := 1) o d_X4_home_8 iconst_1 ?_
  refine J_callS o [.int v2, .int 0, .int 1] mth_X4_isIn st_X4_isIn ml_RX4_74 ⟨Nat.le_of_ble_eq_true rfl, Nat.le_of_ble_eq_true rfl⟩ rfl rfl (Nat.le_of_ble_eq_true rfl) ⟨Nat.le_of_ble_eq_true rfl, Nat.le_of_ble_eq_true rfl⟩ d_X4_home_9 (w_X4_isIn (xL x) b  h) (aZ (fun r9 s9 hzr9 h => ?_))
  refine J_callXV (k := 0) (c := 4) o [.int r9] rfl (by decide) (Nat.le_of_ble_eq_true rfl) (Nat.le_of_ble_eq_true rfl) mth_X4_needNumber iv_X4_needNumber ml_RX4_78 ⟨Nat.le_of_ble_eq_true rfl, Nat.le_of_ble_eq_true rfl⟩ rfl rfl (Nat.le_of_ble_eq_true rfl) ⟨Nat.le_of_ble_eq_true rfl, Nat.le_of_ble_eq_true rfl⟩ d_X4_home_12 (w_X4_needNumber (xL x) b nh.2  h) (fun E s9 hx => JT_out o nh ⟨Nat.le_of_ble_eq_true rfl, Nat.le_of_ble_eq_true rfl⟩ hx) (aV (fun s12 h => ?_))
  refine J_aload_n o 0 d_X4_home_15 rfl ?_
  refine J_getR (t := 19) o fl_RX4_37 rfl (Nat.le_of_ble_eq_true rfl) (Nat.le_of_ble_eq_true rfl) rfl rfl d_X4_home_16 ?_
  refine J_callV (k := 19) (c := 0) o [] rfl (by decide) (Nat.le_of_ble_eq_true rfl) (Nat.le_of_ble_eq_true rfl) mth_X0_refresh iv_X0_refresh ml_RX4_190 ⟨Nat.le_of_ble_eq_true rfl, Nat.le_of_ble_eq_true rfl⟩ rfl rfl (Nat.le_of_ble_eq_true rfl) ⟨Nat.le_of_ble_eq_true rfl, Nat.le_of_ble_eq_true rfl⟩ d_X4_home_19 (w_X0_refresh (xL x) b  h) (aV (fun s19 h => ?_))
  refine J_aload_n o 0 d_X4_home_22 rfl ?_
  refine J_getR (t := 19) o fl_RX4_37 rfl (Nat.le_of_ble_eq_true rfl) (Nat.le_of_ble_eq_true rfl) rfl rfl d_X4_home_23 ?_
  refine J_iload_n o 1 d_X4_home_26 rfl ?_
  refine J_iload_n o 2 d_X4_home_27 rfl ?_
  refine J_callV (k := 19) (c := 0) o [.int v1, .int v2] rfl (by decide) (Nat.le_of_ble_eq_true rfl) (Nat.le_of_ble_eq_true rfl) mth_X0_homeOf iv_X0_homeOf ml_RX4_224 ⟨Nat.le_of_ble_eq_true rfl, Nat.le_of_ble_eq_true rfl⟩ rfl rfl (Nat.le_of_ble_eq_true rfl) ⟨Nat.le_of_ble_eq_true rfl, Nat.le_of_ble_eq_true rfl⟩ d_X4_home_28 (w_X0_homeOf (xL x) b  h) (aI (fun r28 s28 h => ?_))
  exact JX_ret ⟨Nat.le_of_ble_eq_true rfl, Nat.le_of_ble_eq_true rfl⟩ (J_iret o d_X4_home_31 ⟨_, rfl, h⟩)
