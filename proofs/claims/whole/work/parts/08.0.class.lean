/-! the walks, printed by program -/
theorem d_J7_fill_53178_0 : decode cJ7_fill_53178 0 = .ok (.iconst 0, 1) := by decide +kernel
theorem d_J7_fill_53178_1 : decode cJ7_fill_53178 1 = .ok (.istore_n 2, 1) := by decide +kernel
theorem d_J7_fill_53178_2 : decode cJ7_fill_53178 2 = .ok (.aload_n 0, 1) := by decide +kernel
theorem d_J7_fill_53178_3 : decode cJ7_fill_53178 3 = .ok (.arraylength, 1) := by decide +kernel
theorem d_J7_fill_53178_4 : decode cJ7_fill_53178 4 = .ok (.istore_n 3, 1) := by decide +kernel
theorem d_J7_fill_53178_5 : decode cJ7_fill_53178 5 = .ok (.iload_n 2, 1) := by decide +kernel
theorem d_J7_fill_53178_6 : decode cJ7_fill_53178 6 = .ok (.iload_n 3, 1) := by decide +kernel
theorem d_J7_fill_53178_7 : decode cJ7_fill_53178 7 = .ok (.if_icmp .ge 13, 3) := by decide +kernel
theorem d_J7_fill_53178_10 : decode cJ7_fill_53178 10 = .ok (.aload_n 0, 1) := by decide +kernel
theorem d_J7_fill_53178_11 : decode cJ7_fill_53178 11 = .ok (.iload_n 2, 1) := by decide +kernel
theorem d_J7_fill_53178_12 : decode cJ7_fill_53178 12 = .ok (.iload_n 1, 1) := by decide +kernel
theorem d_J7_fill_53178_13 : decode cJ7_fill_53178 13 = .ok (.iastore, 1) := by decide +kernel
theorem d_J7_fill_53178_14 : decode cJ7_fill_53178 14 = .ok (.iinc 2 1, 3) := by decide +kernel
theorem d_J7_fill_53178_17 : decode cJ7_fill_53178 17 = .ok (.goto (-12), 3) := by decide +kernel
theorem d_J7_fill_53178_20 : decode cJ7_fill_53178 20 = .ok (.return_, 1) := by decide +kernel
abbrev rm_J7_fill_53178 : Room := { frames := 0, cells := 0, slots := 0, locals := 0 }
set_option maxHeartbeats 4000000 in
set_option maxRecDepth 20000 in
theorem c_J7_fill_53178_5 {x : Cx} {b : Wy} (o : Ok x (wC b) cJ7_fill_53178 4 RJ7 none rm_J7_fill_53178) {v0 : Nat} {v1 : Int32} {K : Sg → Prop}  (hv0 : IsA (wC b) v0) : ∀ (n : Nat) (l2 : Int32) (l3 : Int32) (σ : Sg), m_J7_fill_53178_l5 v0 v1 K  n l2 l3 σ → J x (wC b) (FinC x (wC b) (PV K) (0, 0)) 5 [(0, .ref (wB (wC b) + v0)), (1, .int v1), (2, .int l2), (3, .int l3)] [] (0, 0) σ := by
  intro n
  induction n with
  | zero =>
    intro l2 l3 σ  h
    exact False.elim h
  | succ n ih =>
    intro l2 l3 σ  h
    unfold m_J7_fill_53178_l5 at h
    refine J_iload_n o 2 d_J7_fill_53178_5 rfl ?_
    refine J_iload_n o 3 d_J7_fill_53178_6 rfl ?_
    refine J_icmp_ge o 20 d_J7_fill_53178_7 rfl (fun c7 => ?_) (fun c7 => ?_)
    · replace h := h.1 c7
      exact J_vret o d_J7_fill_53178_20 ⟨rfl, h⟩
    · replace h := h.2 c7
      refine J_aload_n o 0 d_J7_fill_53178_10 rfl ?_
      refine J_iload_n o 2 d_J7_fill_53178_11 rfl ?_
      refine J_iload_n o 1 d_J7_fill_53178_12 rfl ?_
      have b13 := h.1
      replace h := h.2
      refine J_iast o hv0 (vpc rfl b13) d_J7_fill_53178_13 ?_
      refine J_nS (fun s13 es13 => ?_)
      replace h := h s13 es13
      refine J_iinc (lv' := [(2, .int (l2 + 1)), (0, .ref (wB (wC b) + v0)), (1, .int v1), (3, .int l3)]) o 2 d_J7_fill_53178_14 (by decide) rfl iconst_1 rfl ?_
      refine J_goto o 5 d_J7_fill_53178_17 rfl ?_
      refine J_sub [1, 2, 0, 3] rfl ?_
      exact ih (l2 + 1) l3 s13  h
set_option maxHeartbeats 4000000 in
set_option maxRecDepth 20000 in
theorem w_J7_fill_53178 (l : Launch) (b : Wy) {v0 : Nat} {v1 : Int32} {σ : Sg} {K : Sg → Prop} (hv0 : IsA (wC b) v0) (h : m_J7_fill_53178 v0 v1 σ K) : Ct l (wC b) yJ7_fill_53178 cJ7_fill_53178 4 none rm_J7_fill_53178 [.ref (wB (wC b) + v0), .int v1] σ (PV K) := by
  unfold m_J7_fill_53178 at h
  refine Ct.of (own := RJ7) (by decide +kernel) rfl (Nat.le_of_ble_eq_true rfl) (fun x hx o => ?_)
  subst hx
  show J x (wC b) (FinC x (wC b) (PV K) (0, 0)) 0 [(0, .ref (wB (wC b) + v0)), (1, .int v1)] [] (0, 0) σ
  refine J_iconst (v := 0) o d_J7_fill_53178_0 iconst_0 ?_
  refine J_istore_n (lv' := [(2, .int 0), (0, .ref (wB (wC b) + v0)), (1, .int v1)]) o d_J7_fill_53178_1 (by decide) rfl ?_
  refine J_aload_n o 1 d_J7_fill_53178_2 rfl ?_
  refine J_alenL o hv0 rfl d_J7_fill_53178_3 ?_
  refine J_top (fun l3_4 el3_4 => ?_)
  replace h := h l3_4 el3_4
  refine J_istore_n (lv' := [(3, .int l3_4), (2, .int 0), (0, .ref (wB (wC b) + v0)), (1, .int v1)]) o d_J7_fill_53178_4 (by decide) rfl ?_
  refine J_sub [2, 3, 1, 0] rfl ?_
  obtain ⟨n9, h⟩ := h
  exact c_J7_fill_53178_5 o hv0  n9 0 l3_4 σ  h
theorem d_X3_beginEmpty_0 : decode cX3_beginEmpty 0 = .ok (.aload_n 0, 1) := by decide +kernel
theorem d_X3_beginEmpty_1 : decode cX3_beginEmpty 1 = .ok (.iconst 3, 1) := by decide +kernel
theorem d_X3_beginEmpty_2 : decode cX3_beginEmpty 2 = .ok (.putfield 9, 3) := by decide +kernel
theorem d_X3_beginEmpty_5 : decode cX3_beginEmpty 5 = .ok (.aload_n 0, 1) := by decide +kernel
theorem d_X3_beginEmpty_6 : decode cX3_beginEmpty 6 = .ok (.iconst 3, 1) := by decide +kernel
theorem d_X3_beginEmpty_7 : decode cX3_beginEmpty 7 = .ok (.putfield 15, 3) := by decide +kernel
theorem d_X3_beginEmpty_10 : decode cX3_beginEmpty 10 = .ok (.aload_n 0, 1) := by decide +kernel
theorem d_X3_beginEmpty_11 : decode cX3_beginEmpty 11 = .ok (.iconst 0, 1) := by decide +kernel
theorem d_X3_beginEmpty_12 : decode cX3_beginEmpty 12 = .ok (.putfield 18, 3) := by decide +kernel
theorem d_X3_beginEmpty_15 : decode cX3_beginEmpty 15 = .ok (.aload_n 0, 1) := by decide +kernel
theorem d_X3_beginEmpty_16 : decode cX3_beginEmpty 16 = .ok (.sipush 999, 3) := by decide +kernel
theorem d_X3_beginEmpty_19 : decode cX3_beginEmpty 19 = .ok (.putfield 21, 3) := by decide +kernel
theorem d_X3_beginEmpty_22 : decode cX3_beginEmpty 22 = .ok (.aload_n 0, 1) := by decide +kernel
theorem d_X3_beginEmpty_23 : decode cX3_beginEmpty 23 = .ok (.iconst 0, 1) := by decide +kernel
theorem d_X3_beginEmpty_24 : decode cX3_beginEmpty 24 = .ok (.putfield 24, 3) := by decide +kernel
theorem d_X3_beginEmpty_27 : decode cX3_beginEmpty 27 = .ok (.aload_n 0, 1) := by decide +kernel
theorem d_X3_beginEmpty_28 : decode cX3_beginEmpty 28 = .ok (.iconst 0, 1) := by decide +kernel
theorem d_X3_beginEmpty_29 : decode cX3_beginEmpty 29 = .ok (.putfield 27, 3) := by decide +kernel
theorem d_X3_beginEmpty_32 : decode cX3_beginEmpty 32 = .ok (.aload_n 0, 1) := by decide +kernel
theorem d_X3_beginEmpty_33 : decode cX3_beginEmpty 33 = .ok (.iconst 0, 1) := by decide +kernel
theorem d_X3_beginEmpty_34 : decode cX3_beginEmpty 34 = .ok (.putfield 30, 3) := by decide +kernel
theorem d_X3_beginEmpty_37 : decode cX3_beginEmpty 37 = .ok (.aload_n 0, 1) := by decide +kernel
theorem d_X3_beginEmpty_38 : decode cX3_beginEmpty 38 = .ok (.iconst 0, 1) := by decide +kernel
theorem d_X3_beginEmpty_39 : decode cX3_beginEmpty 39 = .ok (.putfield 33, 3) := by decide +kernel
theorem d_X3_beginEmpty_42 : decode cX3_beginEmpty 42 = .ok (.aload_n 0, 1) := by decide +kernel
theorem d_X3_beginEmpty_43 : decode cX3_beginEmpty 43 = .ok (.iconst 0, 1) := by decide +kernel
theorem d_X3_beginEmpty_44 : decode cX3_beginEmpty 44 = .ok (.putfield 36, 3) := by decide +kernel
theorem d_X3_beginEmpty_47 : decode cX3_beginEmpty 47 = .ok (.aload_n 0, 1) := by decide +kernel
theorem d_X3_beginEmpty_48 : decode cX3_beginEmpty 48 = .ok (.iconst 0, 1) := by decide +kernel
theorem d_X3_beginEmpty_49 : decode cX3_beginEmpty 49 = .ok (.putfield 39, 3) := by decide +kernel
theorem d_X3_beginEmpty_52 : decode cX3_beginEmpty 52 = .ok (.aload_n 0, 1) := by decide +kernel
theorem d_X3_beginEmpty_53 : decode cX3_beginEmpty 53 = .ok (.getfield 49, 3) := by decide +kernel
theorem d_X3_beginEmpty_56 : decode cX3_beginEmpty 56 = .ok (.iconst 0, 1) := by decide +kernel
theorem d_X3_beginEmpty_57 : decode cX3_beginEmpty 57 = .ok (.invokestatic 64, 3) := by decide +kernel
theorem d_X3_beginEmpty_60 : decode cX3_beginEmpty 60 = .ok (.aload_n 0, 1) := by decide +kernel
theorem d_X3_beginEmpty_61 : decode cX3_beginEmpty 61 = .ok (.getfield 52, 3) := by decide +kernel
theorem d_X3_beginEmpty_64 : decode cX3_beginEmpty 64 = .ok (.iconst 0, 1) := by decide +kernel
theorem d_X3_beginEmpty_65 : decode cX3_beginEmpty 65 = .ok (.invokestatic 64, 3) := by decide +kernel
theorem d_X3_beginEmpty_68 : decode cX3_beginEmpty 68 = .ok (.aload_n 0, 1) := by decide +kernel
theorem d_X3_beginEmpty_69 : decode cX3_beginEmpty 69 = .ok (.getfield 61, 3) := by decide +kernel
theorem d_X3_beginEmpty_72 : decode cX3_beginEmpty 72 = .ok (.iconst (-1), 1) := by decide +kernel
theorem d_X3_beginEmpty_73 : decode cX3_beginEmpty 73 = .ok (.invokestatic 64, 3) := by decide +kernel
theorem d_X3_beginEmpty_76 : decode cX3_beginEmpty 76 = .ok (.return_, 1) := by decide +kernel
abbrev rm_X3_beginEmpty : Room := { frames := 1, cells := 0, slots := 0, locals := 23 }
set_option maxHeartbeats 4000000 in
set_option maxRecDepth 20000 in
theorem w_X3_beginEmpty (l : Launch) (b : Wy) {v0 : Nat} {σ : Sg} {K : Sg → Prop} (hv0 : IsW v0) (h : m_X3_beginEmpty v0 σ K) : Ct l (wC b) yX3_beginEmpty cX3_beginEmpty 1 none rm_X3_beginEmpty [.ref (wB (wC b) + v0)] σ (PV K) := by
  unfold m_X3_beginEmpty at h
  refine Ct.of (own := RX3) (by decide +kernel) rfl (Nat.le_of_ble_eq_true rfl) (fun x hx o => ?_)
  subst hx
  show J x (wC b) (FinC x (wC b) (PV K) (0, 0)) 0 [(0, .ref (wB (wC b) + v0))] [] (0, 0) σ
  refine J_aload_n o 0 d_X3_beginEmpty_0 rfl ?_
  refine J_iconst (v := 3) o d_X3_beginEmpty_1 iconst_3 ?_
  refine J_put o fl_RX3_9 la_3 (W_kd hv0) (Nat.zero_le _) (W_hi hv0) rfl rfl rfl rfl d_X3_beginEmpty_2 ?_
  refine J_nS (fun s2 es2 => ?_)
  replace h := h s2 es2
  refine J_aload_n o 0 d_X3_beginEmpty_5 rfl ?_
  refine J_iconst (v := 3) o d_X3_beginEmpty_6 iconst_3 ?_
  refine J_put o fl_RX3_15 la_3 (W_kd hv0) (Nat.zero_le _) (W_hi hv0) rfl rfl rfl rfl d_X3_beginEmpty_7 ?_
  refine J_nS (fun s7 es7 => ?_)
  replace h := h s7 es7
  refine J_aload_n o 0 d_X3_beginEmpty_10 rfl ?_
  refine J_iconst (v := 0) o d_X3_beginEmpty_11 iconst_0 ?_
  refine J_put o fl_RX3_18 la_3 (W_kd hv0) (Nat.zero_le _) (W_hi hv0) rfl rfl rfl rfl d_X3_beginEmpty_12 ?_
  refine J_nS (fun s12 es12 => ?_)
  replace h := h s12 es12
  refine J_aload_n o 0 d_X3_beginEmpty_15 rfl ?_
  refine J_sipush (v := 999) o d_X3_beginEmpty_16 sipush_999 ?_
  refine J_put o fl_RX3_21 la_3 (W_kd hv0) (Nat.zero_le _) (W_hi hv0) rfl rfl rfl rfl d_X3_beginEmpty_19 ?_
  refine J_nS (fun s19 es19 => ?_)
  replace h := h s19 es19
  refine J_aload_n o 0 d_X3_beginEmpty_22 rfl ?_
  refine J_iconst (v := 0) o d_X3_beginEmpty_23 iconst_0 ?_
  refine J_put o fl_RX3_24 la_3 (W_kd hv0) (Nat.zero_le _) (W_hi hv0) rfl rfl rfl rfl d_X3_beginEmpty_24 ?_
  refine J_nS (fun s24 es24 => ?_)
  replace h := h s24 es24
  refine J_aload_n o 0 d_X3_beginEmpty_27 rfl ?_
  refine J_iconst (v := 0) o d_X3_beginEmpty_28 iconst_0 ?_
  refine J_put o fl_RX3_27 la_3 (W_kd hv0) (Nat.zero_le _) (W_hi hv0) rfl rfl rfl rfl d_X3_beginEmpty_29 ?_
  refine J_nS (fun s29 es29 => ?_)
  replace h := h s29 es29
  refine J_aload_n o 0 d_X3_beginEmpty_32 rfl ?_
  refine J_iconst (v := 0) o d_X3_beginEmpty_33 iconst_0 ?_
  refine J_put o fl_RX3_30 la_3 (W_kd hv0) (Nat.zero_le _) (W_hi hv0) rfl rfl rfl rfl d_X3_beginEmpty_34 ?_
  refine J_nS (fun s34 es34 => ?_)
  replace h := h s34 es34
  refine J_aload_n o 0 d_X3_beginEmpty_37 rfl ?_
  refine J_iconst (v := 0) o d_X3_beginEmpty_38 iconst_0 ?_
  refine J_put o fl_RX3_33 la_3 (W_kd hv0) (Nat.zero_le _) (W_hi hv0) rfl rfl rfl rfl d_X3_beginEmpty_39 ?_
  refine J_nS (fun s39 es39 => ?_)
  replace h := h s39 es39
  refine J_aload_n o 0 d_X3_beginEmpty_42 rfl ?_
  refine J_iconst (v := 0) o d_X3_beginEmpty_43 iconst_0 ?_
  refine J_put o fl_RX3_36 la_3 (W_kd hv0) (Nat.zero_le _) (W_hi hv0) rfl rfl rfl rfl d_X3_beginEmpty_44 ?_
  refine J_nS (fun s44 es44 => ?_)
  replace h := h s44 es44
  refine J_aload_n o 0 d_X3_beginEmpty_47 rfl ?_
  refine J_iconst (v := 0) o d_X3_beginEmpty_48 iconst_0 ?_
  refine J_put o fl_RX3_39 la_3 (W_kd hv0) (Nat.zero_le _) (W_hi hv0) rfl rfl rfl rfl d_X3_beginEmpty_49 ?_
  refine J_nS (fun s49 es49 => ?_)
  replace h := h s49 es49
  refine J_aload_n o 0 d_X3_beginEmpty_52 rfl ?_
  refine J_getR (t := (v0 + 3)) o fl_RX3_49 (W_kd hv0) (Nat.zero_le _) (W_hi hv0) rfl (W_t hv0 12 (by decide)) d_X3_beginEmpty_53 ?_
  refine J_iconst (v := 0) o d_X3_beginEmpty_56 iconst_0 ?_
  refine J_callS o [.ref (wB (wC b) + (v0 + 3)), .int 0] mth_J7_fill_53178 st_J7_fill_53178 ml_RX3_64 ⟨Nat.le_of_ble_eq_true rfl, Nat.le_of_ble_eq_true rfl⟩ rfl rfl (Nat.le_of_ble_eq_true rfl) ⟨Nat.le_refl _, Nat.le_refl _⟩ d_X3_beginEmpty_57 (w_J7_fill_53178 (xL x) b (W_A3 hv0) h) (aV (fun s57 h => ?_))
  refine J_aload_n o 0 d_X3_beginEmpty_60 rfl ?_
  refine J_getR (t := (v0 + 4)) o fl_RX3_52 (W_kd hv0) (Nat.zero_le _) (W_hi hv0) rfl (W_t hv0 13 (by decide)) d_X3_beginEmpty_61 ?_
  refine J_iconst (v := 0) o d_X3_beginEmpty_64 iconst_0 ?_
  refine J_callS o [.ref (wB (wC b) + (v0 + 4)), .int 0] mth_J7_fill_53178 st_J7_fill_53178 ml_RX3_64 ⟨Nat.le_of_ble_eq_true rfl, Nat.le_of_ble_eq_true rfl⟩ rfl rfl (Nat.le_of_ble_eq_true rfl) ⟨Nat.le_refl _, Nat.le_refl _⟩ d_X3_beginEmpty_65 (w_J7_fill_53178 (xL x) b (W_A4 hv0) h) (aV (fun s65 h => ?_))
  refine J_aload_n o 0 d_X3_beginEmpty_68 rfl ?_
  refine J_getR (t := (v0 + 7)) o fl_RX3_61 (W_kd hv0) (Nat.zero_le _) (W_hi hv0) rfl (W_t hv0 16 (by decide)) d_X3_beginEmpty_69 ?_
  refine J_iconst (v := (-1)) o d_X3_beginEmpty_72 iconst_m1 ?_
  refine J_callS o [.ref (wB (wC b) + (v0 + 7)), .int (-1)] mth_J7_fill_53178 st_J7_fill_53178 ml_RX3_64 ⟨Nat.le_of_ble_eq_true rfl, Nat.le_of_ble_eq_true rfl⟩ rfl rfl (Nat.le_of_ble_eq_true rfl) ⟨Nat.le_refl _, Nat.le_refl _⟩ d_X3_beginEmpty_73 (w_J7_fill_53178 (xL x) b (W_A7 hv0) h) (aV (fun s73 h => ?_))
  exact J_vret o d_X3_beginEmpty_76 ⟨rfl, h⟩
theorem d_X3_cellAt_0 : decode cX3_cellAt 0 = .ok (.aload_n 0, 1) := by decide +kernel
theorem d_X3_cellAt_1 : decode cX3_cellAt 1 = .ok (.getfield 9, 3) := by decide +kernel
theorem d_X3_cellAt_4 : decode cX3_cellAt 4 = .ok (.iload_n 2, 1) := by decide +kernel
theorem d_X3_cellAt_5 : decode cX3_cellAt 5 = .ok (.imul, 1) := by decide +kernel
theorem d_X3_cellAt_6 : decode cX3_cellAt 6 = .ok (.iload_n 1, 1) := by decide +kernel
theorem d_X3_cellAt_7 : decode cX3_cellAt 7 = .ok (.iadd, 1) := by decide +kernel
theorem d_X3_cellAt_8 : decode cX3_cellAt 8 = .ok (.ireturn, 1) := by decide +kernel
abbrev rm_X3_cellAt : Room := { frames := 0, cells := 0, slots := 0, locals := 0 }
set_option maxHeartbeats 4000000 in
set_option maxRecDepth 20000 in
theorem w_X3_cellAt (l : Launch) (b : Wy) {v0 : Nat} {v1 : Int32} {v2 : Int32} {σ : Sg} {K : Int32 → Sg → Prop} (hv0 : IsW v0) (h : m_X3_cellAt v0 v1 v2 σ K) : Ct l (wC b) yX3_cellAt cX3_cellAt 3 (some .int) rm_X3_cellAt [.ref (wB (wC b) + v0), .int v1, .int v2] σ (PI K) := by
  unfold m_X3_cellAt at h
  refine Ct.of (own := RX3) (by decide +kernel) rfl (Nat.le_of_ble_eq_true rfl) (fun x hx o => ?_)
  subst hx
  show J x (wC b) (FinC x (wC b) (PI K) (0, 0)) 0 [(0, .ref (wB (wC b) + v0)), (1, .int v1), (2, .int v2)] [] (0, 0) σ
  refine J_aload_n o 0 d_X3_cellAt_0 rfl ?_
  refine J_getI o fl_RX3_9 (W_kd hv0) (Nat.zero_le _) (W_hi hv0) rfl d_X3_cellAt_1 ?_
  refine J_iload_n o 2 d_X3_cellAt_4 rfl ?_
  refine J_imul o d_X3_cellAt_5 ?_
  refine J_iload_n o 1 d_X3_cellAt_6 rfl ?_
  refine J_iadd o d_X3_cellAt_7 ?_
  exact J_iret o d_X3_cellAt_8 ⟨_, rfl, h⟩
theorem d_X4_write_0 : decode cX4_write 0 = .ok (.iload_n 1, 1) := by decide +kernel
theorem d_X4_write_1 : decode cX4_write 1 = .ok (.ifCond .lt 13, 3) := by decide +kernel
theorem d_X4_write_4 : decode cX4_write 4 = .ok (.iload_n 1, 1) := by decide +kernel
theorem d_X4_write_5 : decode cX4_write 5 = .ok (.aload_n 0, 1) := by decide +kernel
theorem d_X4_write_6 : decode cX4_write 6 = .ok (.arraylength, 1) := by decide +kernel
theorem d_X4_write_7 : decode cX4_write 7 = .ok (.if_icmp .ge 7, 3) := by decide +kernel
theorem d_X4_write_10 : decode cX4_write 10 = .ok (.aload_n 0, 1) := by decide +kernel
theorem d_X4_write_11 : decode cX4_write 11 = .ok (.iload_n 1, 1) := by decide +kernel
theorem d_X4_write_12 : decode cX4_write 12 = .ok (.iload_n 2, 1) := by decide +kernel
theorem d_X4_write_13 : decode cX4_write 13 = .ok (.iastore, 1) := by decide +kernel
theorem d_X4_write_14 : decode cX4_write 14 = .ok (.return_, 1) := by decide +kernel
abbrev rm_X4_write : Room := { frames := 0, cells := 0, slots := 0, locals := 0 }
set_option maxHeartbeats 4000000 in
set_option maxRecDepth 20000 in
theorem w_X4_write (l : Launch) (b : Wy) {v0 : Nat} {v1 : Int32} {v2 : Int32} {σ : Sg} {K : Sg → Prop} (hv0 : IsA (wC b) v0) (h : m_X4_write v0 v1 v2 σ K) : Ct l (wC b) yX4_write cX4_write 3 none rm_X4_write [.ref (wB (wC b) + v0), .int v1, .int v2] σ (PV K) := by
  unfold m_X4_write at h
  refine Ct.of (own := RX4) (by decide +kernel) rfl (Nat.le_of_ble_eq_true rfl) (fun x hx o => ?_)
  subst hx
  show J x (wC b) (FinC x (wC b) (PV K) (0, 0)) 0 [(0, .ref (wB (wC b) + v0)), (1, .int v1), (2, .int v2)] [] (0, 0) σ
  refine J_iload_n o 1 d_X4_write_0 rfl ?_
  refine J_if_lt o 14 d_X4_write_1 rfl (fun c1 => ?_) (fun c1 => ?_)
  · replace h := h.1 c1
    exact J_vret o d_X4_write_14 ⟨rfl, h⟩
  · replace h := h.2 c1
    refine J_iload_n o 1 d_X4_write_4 rfl ?_
    refine J_aload_n o 0 d_X4_write_5 rfl ?_
    refine J_alenL o hv0 rfl d_X4_write_6 ?_
    refine J_icmp_ge o 14 d_X4_write_7 rfl (fun c7 => ?_) (fun c7 => ?_)
    · replace h := h.1 c7
      exact J_vret o d_X4_write_14 ⟨rfl, h⟩
    · replace h := h.2 c7
      refine J_aload_n o 0 d_X4_write_10 rfl ?_
      refine J_iload_n o 1 d_X4_write_11 rfl ?_
      refine J_iload_n o 2 d_X4_write_12 rfl ?_
      have b13 := h.1
      replace h := h.2
      refine J_iast o hv0 (vpc rfl b13) d_X4_write_13 ?_
      refine J_nS (fun s13 es13 => ?_)
      replace h := h s13 es13
      exact J_vret o d_X4_write_14 ⟨rfl, h⟩
theorem d_X3_addHelper_0 : decode cX3_addHelper 0 = .ok (.aload_n 0, 1) := by decide +kernel
theorem d_X3_addHelper_1 : decode cX3_addHelper 1 = .ok (.getfield 42, 3) := by decide +kernel
theorem d_X3_addHelper_4 : decode cX3_addHelper 4 = .ok (.aload_n 0, 1) := by decide +kernel
theorem d_X3_addHelper_5 : decode cX3_addHelper 5 = .ok (.getfield 33, 3) := by decide +kernel
theorem d_X3_addHelper_8 : decode cX3_addHelper 8 = .ok (.iload_n 1, 1) := by decide +kernel
theorem d_X3_addHelper_9 : decode cX3_addHelper 9 = .ok (.invokestatic 96, 3) := by decide +kernel
theorem d_X3_addHelper_12 : decode cX3_addHelper 12 = .ok (.aload_n 0, 1) := by decide +kernel
theorem d_X3_addHelper_13 : decode cX3_addHelper 13 = .ok (.getfield 46, 3) := by decide +kernel
theorem d_X3_addHelper_16 : decode cX3_addHelper 16 = .ok (.aload_n 0, 1) := by decide +kernel
theorem d_X3_addHelper_17 : decode cX3_addHelper 17 = .ok (.getfield 33, 3) := by decide +kernel
theorem d_X3_addHelper_20 : decode cX3_addHelper 20 = .ok (.iload_n 2, 1) := by decide +kernel
theorem d_X3_addHelper_21 : decode cX3_addHelper 21 = .ok (.invokestatic 96, 3) := by decide +kernel
theorem d_X3_addHelper_24 : decode cX3_addHelper 24 = .ok (.aload_n 0, 1) := by decide +kernel
theorem d_X3_addHelper_25 : decode cX3_addHelper 25 = .ok (.dup, 1) := by decide +kernel
theorem d_X3_addHelper_26 : decode cX3_addHelper 26 = .ok (.getfield 33, 3) := by decide +kernel
theorem d_X3_addHelper_29 : decode cX3_addHelper 29 = .ok (.iconst 1, 1) := by decide +kernel
theorem d_X3_addHelper_30 : decode cX3_addHelper 30 = .ok (.iadd, 1) := by decide +kernel
theorem d_X3_addHelper_31 : decode cX3_addHelper 31 = .ok (.putfield 33, 3) := by decide +kernel
theorem d_X3_addHelper_34 : decode cX3_addHelper 34 = .ok (.return_, 1) := by decide +kernel
abbrev rm_X3_addHelper : Room := { frames := 1, cells := 0, slots := 0, locals := 22 }
set_option maxHeartbeats 4000000 in
set_option maxRecDepth 20000 in
theorem w_X3_addHelper (l : Launch) (b : Wy) {v0 : Nat} {v1 : Int32} {v2 : Int32} {σ : Sg} {K : Sg → Prop} (hv0 : IsW v0) (h : m_X3_addHelper v0 v1 v2 σ K) : Ct l (wC b) yX3_addHelper cX3_addHelper 3 none rm_X3_addHelper [.ref (wB (wC b) + v0), .int v1, .int v2] σ (PV K) := by
  unfold m_X3_addHelper at h
  refine Ct.of (own := RX3) (by decide +kernel) rfl (Nat.le_of_ble_eq_true rfl) (fun x hx o => ?_)
  subst hx
  show J x (wC b) (FinC x (wC b) (PV K) (0, 0)) 0 [(0, .ref (wB (wC b) + v0)), (1, .int v1), (2, .int v2)] [] (0, 0) σ
  refine J_aload_n o 0 d_X3_addHelper_0 rfl ?_
  refine J_getR (t := (v0 + 1)) o fl_RX3_42 (W_kd hv0) (Nat.zero_le _) (W_hi hv0) rfl (W_t hv0 10 (by decide)) d_X3_addHelper_1 ?_
  refine J_aload_n o 0 d_X3_addHelper_4 rfl ?_
  refine J_getI o fl_RX3_33 (W_kd hv0) (Nat.zero_le _) (W_hi hv0) rfl d_X3_addHelper_5 ?_
  refine J_iload_n o 1 d_X3_addHelper_8 rfl ?_
  refine J_callSN o [.ref (wB (wC b) + (v0 + 1)), .int (σ v0 7), .int v1] mth_X4_write st_X4_write mn_RX3_96 ⟨Nat.le_of_ble_eq_true rfl, Nat.le_of_ble_eq_true rfl⟩ rfl rfl (Nat.le_of_ble_eq_true rfl) ⟨Nat.le_refl _, Nat.le_refl _⟩ d_X3_addHelper_9 (w_X4_write (xL x) b (W_A1 hv0) h) (aV (fun s9 h => ?_))
  refine J_aload_n o 0 d_X3_addHelper_12 rfl ?_
  refine J_getR (t := (v0 + 2)) o fl_RX3_46 (W_kd hv0) (Nat.zero_le _) (W_hi hv0) rfl (W_t hv0 11 (by decide)) d_X3_addHelper_13 ?_
  refine J_aload_n o 0 d_X3_addHelper_16 rfl ?_
  refine J_getI o fl_RX3_33 (W_kd hv0) (Nat.zero_le _) (W_hi hv0) rfl d_X3_addHelper_17 ?_
  refine J_iload_n o 2 d_X3_addHelper_20 rfl ?_
  refine J_callSN o [.ref (wB (wC b) + (v0 + 2)), .int (s9 v0 7), .int v2] mth_X4_write st_X4_write mn_RX3_96 ⟨Nat.le_of_ble_eq_true rfl, Nat.le_of_ble_eq_true rfl⟩ rfl rfl (Nat.le_of_ble_eq_true rfl) ⟨Nat.le_refl _, Nat.le_refl _⟩ d_X3_addHelper_21 (w_X4_write (xL x) b (W_A2 hv0) h) (aV (fun s21 h => ?_))
  refine J_aload_n o 0 d_X3_addHelper_24 rfl ?_
  refine J_dup o d_X3_addHelper_25 rfl ?_
  refine J_getI o fl_RX3_33 (W_kd hv0) (Nat.zero_le _) (W_hi hv0) rfl d_X3_addHelper_26 ?_
  refine J_iconst (v := 1) o d_X3_addHelper_29 iconst_1 ?_
  refine J_iadd o d_X3_addHelper_30 ?_
  refine J_put o fl_RX3_33 la_3 (W_kd hv0) (Nat.zero_le _) (W_hi hv0) rfl rfl rfl rfl d_X3_addHelper_31 ?_
  refine J_nS (fun s31 es31 => ?_)
  replace h := h s31 es31
  exact J_vret o d_X3_addHelper_34 ⟨rfl, h⟩
theorem d_X3_beginSmall_0 : decode cX3_beginSmall 0 = .ok (.aload_n 0, 1) := by decide +kernel
theorem d_X3_beginSmall_1 : decode cX3_beginSmall 1 = .ok (.invokevirtual 70, 3) := by decide +kernel
theorem d_X3_beginSmall_4 : decode cX3_beginSmall 4 = .ok (.aload_n 0, 1) := by decide +kernel
theorem d_X3_beginSmall_5 : decode cX3_beginSmall 5 = .ok (.aload_n 0, 1) := by decide +kernel
theorem d_X3_beginSmall_6 : decode cX3_beginSmall 6 = .ok (.iconst 1, 1) := by decide +kernel
theorem d_X3_beginSmall_7 : decode cX3_beginSmall 7 = .ok (.iconst 1, 1) := by decide +kernel
theorem d_X3_beginSmall_8 : decode cX3_beginSmall 8 = .ok (.invokevirtual 73, 3) := by decide +kernel
theorem d_X3_beginSmall_11 : decode cX3_beginSmall 11 = .ok (.putfield 30, 3) := by decide +kernel
theorem d_X3_beginSmall_14 : decode cX3_beginSmall 14 = .ok (.aload_n 0, 1) := by decide +kernel
theorem d_X3_beginSmall_15 : decode cX3_beginSmall 15 = .ok (.aload_n 0, 1) := by decide +kernel
theorem d_X3_beginSmall_16 : decode cX3_beginSmall 16 = .ok (.iconst 2, 1) := by decide +kernel
theorem d_X3_beginSmall_17 : decode cX3_beginSmall 17 = .ok (.iconst 2, 1) := by decide +kernel
theorem d_X3_beginSmall_18 : decode cX3_beginSmall 18 = .ok (.invokevirtual 73, 3) := by decide +kernel
theorem d_X3_beginSmall_21 : decode cX3_beginSmall 21 = .ok (.bipush 10, 2) := by decide +kernel
theorem d_X3_beginSmall_23 : decode cX3_beginSmall 23 = .ok (.invokevirtual 77, 3) := by decide +kernel
theorem d_X3_beginSmall_26 : decode cX3_beginSmall 26 = .ok (.return_, 1) := by decide +kernel
abbrev rm_X3_beginSmall : Room := { frames := 2, cells := 0, slots := 0, locals := 44 }
set_option maxHeartbeats 4000000 in
set_option maxRecDepth 20000 in
theorem w_X3_beginSmall (l : Launch) (b : Wy) {v0 : Nat} {σ : Sg} {K : Sg → Prop} (hv0 : IsW v0) (h : m_X3_beginSmall v0 σ K) : Ct l (wC b) yX3_beginSmall cX3_beginSmall 1 none rm_X3_beginSmall [.ref (wB (wC b) + v0)] σ (PV K) := by
  unfold m_X3_beginSmall at h
  refine Ct.of (own := RX3) (by decide +kernel) rfl (Nat.le_of_ble_eq_true rfl) (fun x hx o => ?_)
  subst hx
  show J x (wC b) (FinC x (wC b) (PV K) (0, 0)) 0 [(0, .ref (wB (wC b) + v0))] [] (0, 0) σ
  refine J_aload_n o 0 d_X3_beginSmall_0 rfl ?_
  refine J_callV (k := v0) (c := 3) o [] (W_kd hv0) (by decide) (Nat.zero_le _) (W_hi hv0) mth_X3_beginEmpty iv_X3_beginEmpty ml_RX3_70 ⟨Nat.le_of_ble_eq_true rfl, Nat.le_of_ble_eq_true rfl⟩ rfl rfl (Nat.le_of_ble_eq_true rfl) ⟨Nat.le_refl _, Nat.le_refl _⟩ d_X3_beginSmall_1 (w_X3_beginEmpty (xL x) b hv0 h) (aV (fun s1 h => ?_))
  refine J_aload_n o 0 d_X3_beginSmall_4 rfl ?_
  refine J_aload_n o 0 d_X3_beginSmall_5 rfl ?_
  refine J_iconst (v := 1) o d_X3_beginSmall_6 iconst_1 ?_
  refine J_iconst (v := 1) o d_X3_beginSmall_7 iconst_1 ?_
  refine J_callV (k := v0) (c := 3) o [.int 1, .int 1] (W_kd hv0) (by decide) (Nat.zero_le _) (W_hi hv0) mth_X3_cellAt iv_X3_cellAt ml_RX3_73 ⟨Nat.le_of_ble_eq_true rfl, Nat.le_of_ble_eq_true rfl⟩ rfl rfl (Nat.le_of_ble_eq_true rfl) ⟨Nat.le_refl _, Nat.le_refl _⟩ d_X3_beginSmall_8 (w_X3_cellAt (xL x) b hv0 h) (aI (fun r8 s8 h => ?_))
  refine J_put o fl_RX3_30 la_3 (W_kd hv0) (Nat.zero_le _) (W_hi hv0) rfl rfl rfl rfl d_X3_beginSmall_11 ?_
  refine J_nS (fun s11 es11 => ?_)
  replace h := h s11 es11
  refine J_aload_n o 0 d_X3_beginSmall_14 rfl ?_
  refine J_aload_n o 0 d_X3_beginSmall_15 rfl ?_
  refine J_iconst (v := 2) o d_X3_beginSmall_16 iconst_2 ?_
  refine J_iconst (v := 2) o d_X3_beginSmall_17 iconst_2 ?_
  refine J_callV (k := v0) (c := 3) o [.int 2, .int 2] (W_kd hv0) (by decide) (Nat.zero_le _) (W_hi hv0) mth_X3_cellAt iv_X3_cellAt ml_RX3_73 ⟨Nat.le_of_ble_eq_true rfl, Nat.le_of_ble_eq_true rfl⟩ rfl rfl (Nat.le_of_ble_eq_true rfl) ⟨Nat.le_refl _, Nat.le_refl _⟩ d_X3_beginSmall_18 (w_X3_cellAt (xL x) b hv0 h) (aI (fun r18 s18 h => ?_))
  refine J_bipush (v := 10) o d_X3_beginSmall_21 bipush_10 ?_
  refine J_callV (k := v0) (c := 3) o [.int r18, .int 10] (W_kd hv0) (by decide) (Nat.zero_le _) (W_hi hv0) mth_X3_addHelper iv_X3_addHelper ml_RX3_77 ⟨Nat.le_of_ble_eq_true rfl, Nat.le_of_ble_eq_true rfl⟩ rfl rfl (Nat.le_of_ble_eq_true rfl) ⟨Nat.le_refl _, Nat.le_refl _⟩ d_X3_beginSmall_23 (w_X3_addHelper (xL x) b hv0 h) (aV (fun s23 h => ?_))
  exact J_vret o d_X3_beginSmall_26 ⟨rfl, h⟩
theorem d_X4_putBytes_0 : decode cX4_putBytes 0 = .ok (.bipush 24, 2) := by decide +kernel
theorem d_X4_putBytes_2 : decode cX4_putBytes 2 = .ok (.istore_n 2, 1) := by decide +kernel
theorem d_X4_putBytes_3 : decode cX4_putBytes 3 = .ok (.iload_n 2, 1) := by decide +kernel
theorem d_X4_putBytes_4 : decode cX4_putBytes 4 = .ok (.ifCond .lt 37, 3) := by decide +kernel
theorem d_X4_putBytes_7 : decode cX4_putBytes 7 = .ok (.aload_n 0, 1) := by decide +kernel
theorem d_X4_putBytes_8 : decode cX4_putBytes 8 = .ok (.getfield 9, 3) := by decide +kernel
theorem d_X4_putBytes_11 : decode cX4_putBytes 11 = .ok (.aload_n 0, 1) := by decide +kernel
theorem d_X4_putBytes_12 : decode cX4_putBytes 12 = .ok (.getfield 45, 3) := by decide +kernel
theorem d_X4_putBytes_15 : decode cX4_putBytes 15 = .ok (.iload_n 1, 1) := by decide +kernel
theorem d_X4_putBytes_16 : decode cX4_putBytes 16 = .ok (.iload_n 2, 1) := by decide +kernel
theorem d_X4_putBytes_17 : decode cX4_putBytes 17 = .ok (.iushr, 1) := by decide +kernel
theorem d_X4_putBytes_18 : decode cX4_putBytes 18 = .ok (.sipush 255, 3) := by decide +kernel
theorem d_X4_putBytes_21 : decode cX4_putBytes 21 = .ok (.iand, 1) := by decide +kernel
theorem d_X4_putBytes_22 : decode cX4_putBytes 22 = .ok (.invokestatic 133, 3) := by decide +kernel
theorem d_X4_putBytes_25 : decode cX4_putBytes 25 = .ok (.aload_n 0, 1) := by decide +kernel
theorem d_X4_putBytes_26 : decode cX4_putBytes 26 = .ok (.dup, 1) := by decide +kernel
theorem d_X4_putBytes_27 : decode cX4_putBytes 27 = .ok (.getfield 45, 3) := by decide +kernel
theorem d_X4_putBytes_30 : decode cX4_putBytes 30 = .ok (.iconst 1, 1) := by decide +kernel
theorem d_X4_putBytes_31 : decode cX4_putBytes 31 = .ok (.iadd, 1) := by decide +kernel
theorem d_X4_putBytes_32 : decode cX4_putBytes 32 = .ok (.putfield 45, 3) := by decide +kernel
theorem d_X4_putBytes_35 : decode cX4_putBytes 35 = .ok (.iinc 2 (-8), 3) := by decide +kernel
theorem d_X4_putBytes_38 : decode cX4_putBytes 38 = .ok (.goto (-35), 3) := by decide +kernel
theorem d_X4_putBytes_41 : decode cX4_putBytes 41 = .ok (.return_, 1) := by decide +kernel
abbrev rm_X4_putBytes : Room := { frames := 1, cells := 0, slots := 0, locals := 22 }
set_option maxHeartbeats 4000000 in
set_option maxRecDepth 20000 in
theorem c_X4_putBytes_3 {x : Cx} {b : Wy} (o : Ok x (wC b) cX4_putBytes 3 RX4 none rm_X4_putBytes) {v1 : Int32} {K : Sg → Prop}   : ∀ (n : Nat) (l2 : Int32) (σ : Sg), m_X4_putBytes_l3 v1 K  n l2 σ → J x (wC b) (FinC x (wC b) (PV K) (0, 0)) 3 [(0, .ref (wB (wC b) + 0)), (1, .int v1), (2, .int l2)] [] (0, 0) σ := by
  intro n
  induction n with
  | zero =>
    intro l2 σ  h
    exact False.elim h
  | succ n ih =>
    intro l2 σ  h
    unfold m_X4_putBytes_l3 at h
    refine J_iload_n o 2 d_X4_putBytes_3 rfl ?_
    refine J_if_lt o 41 d_X4_putBytes_4 rfl (fun c4 => ?_) (fun c4 => ?_)
    · replace h := h.1 c4
      exact J_vret o d_X4_putBytes_41 ⟨rfl, h⟩
    · replace h := h.2 c4
      refine J_aload_n o 0 d_X4_putBytes_7 rfl ?_
      refine J_getR (t := 1) o fl_RX4_9 rfl (Nat.le_of_ble_eq_true rfl) (Nat.le_of_ble_eq_true rfl) rfl rfl d_X4_putBytes_8 ?_
      refine J_aload_n o 0 d_X4_putBytes_11 rfl ?_
      refine J_getI o fl_RX4_45 rfl (Nat.le_of_ble_eq_true rfl) (Nat.le_of_ble_eq_true rfl) rfl d_X4_putBytes_12 ?_
      refine J_iload_n o 1 d_X4_putBytes_15 rfl ?_
      refine J_iload_n o 2 d_X4_putBytes_16 rfl ?_
      refine J_iushr o d_X4_putBytes_17 ?_
      refine J_sipush (v := 255) o d_X4_putBytes_18 sipush_255 ?_
      refine J_iand o d_X4_putBytes_21 ?_
      refine J_callS o [.ref (wB (wC b) + 1), .int (σ 0 6), .int (((v1.toUInt32 >>> ((l2 : Int32).toUInt32 &&& Int32.toUInt32 31)).toInt32) &&& 255)] mth_X4_write st_X4_write ml_RX4_133 ⟨Nat.le_of_ble_eq_true rfl, Nat.le_of_ble_eq_true rfl⟩ rfl rfl (Nat.le_of_ble_eq_true rfl) ⟨Nat.le_refl _, Nat.le_refl _⟩ d_X4_putBytes_22 (w_X4_write (xL x) b A_1 h) (aV (fun s22 h => ?_))
      refine J_aload_n o 0 d_X4_putBytes_25 rfl ?_
      refine J_dup o d_X4_putBytes_26 rfl ?_
      refine J_getI o fl_RX4_45 rfl (Nat.le_of_ble_eq_true rfl) (Nat.le_of_ble_eq_true rfl) rfl d_X4_putBytes_27 ?_
      refine J_iconst (v := 1) o d_X4_putBytes_30 iconst_1 ?_
      refine J_iadd o d_X4_putBytes_31 ?_
      refine J_put o fl_RX4_45 la_4 rfl (Nat.le_of_ble_eq_true rfl) (Nat.le_of_ble_eq_true rfl) rfl rfl rfl rfl d_X4_putBytes_32 ?_
      refine J_nS (fun s32 es32 => ?_)
      replace h := h s32 es32
      refine J_iinc (lv' := [(2, .int (l2 + (-8))), (0, .ref (wB (wC b) + 0)), (1, .int v1)]) o 2 d_X4_putBytes_35 (by decide) rfl iconst_m8 rfl ?_
      refine J_goto o 3 d_X4_putBytes_38 rfl ?_
      refine J_sub [1, 2, 0] rfl ?_
      exact ih (l2 + (-8)) s32  h
set_option maxHeartbeats 4000000 in
set_option maxRecDepth 20000 in
theorem w_X4_putBytes (l : Launch) (b : Wy) {v1 : Int32} {σ : Sg} {K : Sg → Prop}  (h : m_X4_putBytes v1 σ K) : Ct l (wC b) yX4_putBytes cX4_putBytes 3 none rm_X4_putBytes [.ref (wB (wC b) + 0), .int v1] σ (PV K) := by
  unfold m_X4_putBytes at h
  refine Ct.of (own := RX4) (by decide +kernel) rfl (Nat.le_of_ble_eq_true rfl) (fun x hx o => ?_)
  subst hx
  show J x (wC b) (FinC x (wC b) (PV K) (0, 0)) 0 [(0, .ref (wB (wC b) + 0)), (1, .int v1)] [] (0, 0) σ
  refine J_bipush (v := 24) o d_X4_putBytes_0 bipush_24 ?_
  refine J_istore_n (lv' := [(2, .int 24), (0, .ref (wB (wC b) + 0)), (1, .int v1)]) o d_X4_putBytes_2 (by decide) rfl ?_
  refine J_sub [1, 2, 0] rfl ?_
  obtain ⟨n9, h⟩ := h
  exact c_X4_putBytes_3 o   n9 24 σ  h
theorem d_X4_feed_0 : decode cX4_feed 0 = .ok (.aload_n 0, 1) := by decide +kernel
theorem d_X4_feed_1 : decode cX4_feed 1 = .ok (.getfield 45, 3) := by decide +kernel
theorem d_X4_feed_4 : decode cX4_feed 4 = .ok (.bipush 20, 2) := by decide +kernel
theorem d_X4_feed_6 : decode cX4_feed 6 = .ok (.iadd, 1) := by decide +kernel
theorem d_X4_feed_7 : decode cX4_feed 7 = .ok (.sipush 400, 3) := by decide +kernel
theorem d_X4_feed_10 : decode cX4_feed 10 = .ok (.if_icmp .le 5, 3) := by decide +kernel
theorem d_X4_feed_13 : decode cX4_feed 13 = .ok (.iconst (-1), 1) := by decide +kernel
theorem d_X4_feed_14 : decode cX4_feed 14 = .ok (.ireturn, 1) := by decide +kernel
theorem d_X4_feed_15 : decode cX4_feed 15 = .ok (.aload_n 0, 1) := by decide +kernel
theorem d_X4_feed_16 : decode cX4_feed 16 = .ok (.iload_n 1, 1) := by decide +kernel
theorem d_X4_feed_17 : decode cX4_feed 17 = .ok (.invokevirtual 70, 3) := by decide +kernel
theorem d_X4_feed_20 : decode cX4_feed 20 = .ok (.aload_n 0, 1) := by decide +kernel
theorem d_X4_feed_21 : decode cX4_feed 21 = .ok (.iload_n 2, 1) := by decide +kernel
theorem d_X4_feed_22 : decode cX4_feed 22 = .ok (.invokevirtual 70, 3) := by decide +kernel
theorem d_X4_feed_25 : decode cX4_feed 25 = .ok (.aload_n 0, 1) := by decide +kernel
theorem d_X4_feed_26 : decode cX4_feed 26 = .ok (.iload_n 3, 1) := by decide +kernel
theorem d_X4_feed_27 : decode cX4_feed 27 = .ok (.invokevirtual 70, 3) := by decide +kernel
theorem d_X4_feed_30 : decode cX4_feed 30 = .ok (.aload_n 0, 1) := by decide +kernel
theorem d_X4_feed_31 : decode cX4_feed 31 = .ok (.iload 4, 2) := by decide +kernel
theorem d_X4_feed_33 : decode cX4_feed 33 = .ok (.invokevirtual 70, 3) := by decide +kernel
theorem d_X4_feed_36 : decode cX4_feed 36 = .ok (.aload_n 0, 1) := by decide +kernel
theorem d_X4_feed_37 : decode cX4_feed 37 = .ok (.iload 5, 2) := by decide +kernel
theorem d_X4_feed_39 : decode cX4_feed 39 = .ok (.invokevirtual 70, 3) := by decide +kernel
theorem d_X4_feed_42 : decode cX4_feed 42 = .ok (.aload_n 0, 1) := by decide +kernel
theorem d_X4_feed_43 : decode cX4_feed 43 = .ok (.getfield 45, 3) := by decide +kernel
theorem d_X4_feed_46 : decode cX4_feed 46 = .ok (.ireturn, 1) := by decide +kernel
abbrev rm_X4_feed : Room := { frames := 2, cells := 0, slots := 0, locals := 44 }
set_option maxHeartbeats 4000000 in
set_option maxRecDepth 20000 in
theorem w_X4_feed (l : Launch) (b : Wy) {v1 : Int32} {v2 : Int32} {v3 : Int32} {v4 : Int32} {v5 : Int32} {σ : Sg} {K : Int32 → Sg → Prop}  (h : m_X4_feed v1 v2 v3 v4 v5 σ K) : Ct l (wC b) yX4_feed cX4_feed 6 (some .int) rm_X4_feed [.ref (wB (wC b) + 0), .int v1, .int v2, .int v3, .int v4, .int v5] σ (PI K) := by
  unfold m_X4_feed at h
  refine Ct.of (own := RX4) (by decide +kernel) rfl (Nat.le_of_ble_eq_true rfl) (fun x hx o => ?_)
  subst hx
  show J x (wC b) (FinC x (wC b) (PI K) (0, 0)) 0 [(0, .ref (wB (wC b) + 0)), (1, .int v1), (2, .int v2), (3, .int v3), (4, .int v4), (5, .int v5)] [] (0, 0) σ
  refine J_aload_n o 0 d_X4_feed_0 rfl ?_
  refine J_getI o fl_RX4_45 rfl (Nat.le_of_ble_eq_true rfl) (Nat.le_of_ble_eq_true rfl) rfl d_X4_feed_1 ?_
  refine J_bipush (v := 20) o d_X4_feed_4 bipush_20 ?_
  refine J_iadd o d_X4_feed_6 ?_
  refine J_sipush (v := 400) o d_X4_feed_7 sipush_400 ?_
  refine J_icmp_le o 15 d_X4_feed_10 rfl (fun c10 => ?_) (fun c10 => ?_)
  · replace h := h.1 c10
    refine J_aload_n o 0 d_X4_feed_15 rfl ?_
    refine J_iload_n o 1 d_X4_feed_16 rfl ?_
    refine J_callV (k := 0) (c := 4) o [.int v1] rfl (by decide) (Nat.le_of_ble_eq_true rfl) (Nat.le_of_ble_eq_true rfl) mth_X4_putBytes iv_X4_putBytes ml_RX4_70 ⟨Nat.le_of_ble_eq_true rfl, Nat.le_of_ble_eq_true rfl⟩ rfl rfl (Nat.le_of_ble_eq_true rfl) ⟨Nat.le_refl _, Nat.le_refl _⟩ d_X4_feed_17 (w_X4_putBytes (xL x) b  h) (aV (fun s17 h => ?_))
    refine J_aload_n o 0 d_X4_feed_20 rfl ?_
    refine J_iload_n o 2 d_X4_feed_21 rfl ?_
    refine J_callV (k := 0) (c := 4) o [.int v2] rfl (by decide) (Nat.le_of_ble_eq_true rfl) (Nat.le_of_ble_eq_true rfl) mth_X4_putBytes iv_X4_putBytes ml_RX4_70 ⟨Nat.le_of_ble_eq_true rfl, Nat.le_of_ble_eq_true rfl⟩ rfl rfl (Nat.le_of_ble_eq_true rfl) ⟨Nat.le_refl _, Nat.le_refl _⟩ d_X4_feed_22 (w_X4_putBytes (xL x) b  h) (aV (fun s22 h => ?_))
    refine J_aload_n o 0 d_X4_feed_25 rfl ?_
    refine J_iload_n o 3 d_X4_feed_26 rfl ?_
    refine J_callV (k := 0) (c := 4) o [.int v3] rfl (by decide) (Nat.le_of_ble_eq_true rfl) (Nat.le_of_ble_eq_true rfl) mth_X4_putBytes iv_X4_putBytes ml_RX4_70 ⟨Nat.le_of_ble_eq_true rfl, Nat.le_of_ble_eq_true rfl⟩ rfl rfl (Nat.le_of_ble_eq_true rfl) ⟨Nat.le_refl _, Nat.le_refl _⟩ d_X4_feed_27 (w_X4_putBytes (xL x) b  h) (aV (fun s27 h => ?_))
    refine J_aload_n o 0 d_X4_feed_30 rfl ?_
    refine J_iload o 4 d_X4_feed_31 rfl ?_
    refine J_callV (k := 0) (c := 4) o [.int v4] rfl (by decide) (Nat.le_of_ble_eq_true rfl) (Nat.le_of_ble_eq_true rfl) mth_X4_putBytes iv_X4_putBytes ml_RX4_70 ⟨Nat.le_of_ble_eq_true rfl, Nat.le_of_ble_eq_true rfl⟩ rfl rfl (Nat.le_of_ble_eq_true rfl) ⟨Nat.le_refl _, Nat.le_refl _⟩ d_X4_feed_33 (w_X4_putBytes (xL x) b  h) (aV (fun s33 h => ?_))
    refine J_aload_n o 0 d_X4_feed_36 rfl ?_
    refine J_iload o 5 d_X4_feed_37 rfl ?_
    refine J_callV (k := 0) (c := 4) o [.int v5] rfl (by decide) (Nat.le_of_ble_eq_true rfl) (Nat.le_of_ble_eq_true rfl) mth_X4_putBytes iv_X4_putBytes ml_RX4_70 ⟨Nat.le_of_ble_eq_true rfl, Nat.le_of_ble_eq_true rfl⟩ rfl rfl (Nat.le_of_ble_eq_true rfl) ⟨Nat.le_refl _, Nat.le_refl _⟩ d_X4_feed_39 (w_X4_putBytes (xL x) b  h) (aV (fun s39 h => ?_))
    refine J_aload_n o 0 d_X4_feed_42 rfl ?_
    refine J_getI o fl_RX4_45 rfl (Nat.le_of_ble_eq_true rfl) (Nat.le_of_ble_eq_true rfl) rfl d_X4_feed_43 ?_
    exact J_iret o d_X4_feed_46 ⟨_, rfl, h⟩
  · replace h := h.2 c10
    refine J_iconst (v := (-1)) o d_X4_feed_13 iconst_m1 ?_
    exact J_iret o d_X4_feed_14 ⟨_, rfl, h⟩
theorem d_X4_fault_0 : decode cX4_fault 0 = .ok (.aload_n 0, 1) := by decide +kernel
theorem d_X4_fault_1 : decode cX4_fault 1 = .ok (.getfield 49, 3) := by decide +kernel
theorem d_X4_fault_4 : decode cX4_fault 4 = .ok (.ireturn, 1) := by decide +kernel
abbrev rm_X4_fault : Room := { frames := 0, cells := 0, slots := 0, locals := 0 }
set_option maxHeartbeats 4000000 in
set_option maxRecDepth 20000 in
theorem w_X4_fault (l : Launch) (b : Wy)  {σ : Sg} {K : Int32 → Sg → Prop}  (h : m_X4_fault  σ K) : Ct l (wC b) yX4_fault cX4_fault 1 (some .int) rm_X4_fault [.ref (wB (wC b) + 0)] σ (PI K) := by
  unfold m_X4_fault at h
  refine Ct.of (own := RX4) (by decide +kernel) rfl (Nat.le_of_ble_eq_true rfl) (fun x hx o => ?_)
  subst hx
  show J x (wC b) (FinC x (wC b) (PI K) (0, 0)) 0 [(0, .ref (wB (wC b) + 0))] [] (0, 0) σ
  refine J_aload_n o 0 d_X4_fault_0 rfl ?_
  refine J_getI o fl_RX4_49 rfl (Nat.le_of_ble_eq_true rfl) (Nat.le_of_ble_eq_true rfl) rfl d_X4_fault_1 ?_
  exact J_iret o d_X4_fault_4 ⟨_, rfl, h⟩
theorem d_X4_keptAt_0 : decode cX4_keptAt 0 = .ok (.aload_n 0, 1) := by decide +kernel
theorem d_X4_keptAt_1 : decode cX4_keptAt 1 = .ok (.getfield 41, 3) := by decide +kernel
theorem d_X4_keptAt_4 : decode cX4_keptAt 4 = .ok (.iconst 0, 1) := by decide +kernel
theorem d_X4_keptAt_5 : decode cX4_keptAt 5 = .ok (.iload_n 1, 1) := by decide +kernel
theorem d_X4_keptAt_6 : decode cX4_keptAt 6 = .ok (.aload_n 0, 1) := by decide +kernel
theorem d_X4_keptAt_7 : decode cX4_keptAt 7 = .ok (.getfield 41, 3) := by decide +kernel
theorem d_X4_keptAt_10 : decode cX4_keptAt 10 = .ok (.arraylength, 1) := by decide +kernel
theorem d_X4_keptAt_11 : decode cX4_keptAt 11 = .ok (.iconst 1, 1) := by decide +kernel
theorem d_X4_keptAt_12 : decode cX4_keptAt 12 = .ok (.isub, 1) := by decide +kernel
theorem d_X4_keptAt_13 : decode cX4_keptAt 13 = .ok (.invokestatic 246, 3) := by decide +kernel
theorem d_X4_keptAt_16 : decode cX4_keptAt 16 = .ok (.invokestatic 251, 3) := by decide +kernel
theorem d_X4_keptAt_19 : decode cX4_keptAt 19 = .ok (.aaload, 1) := by decide +kernel
theorem d_X4_keptAt_20 : decode cX4_keptAt 20 = .ok (.areturn, 1) := by decide +kernel
abbrev rm_X4_keptAt : Room := { frames := 1, cells := 0, slots := 0, locals := 21 }
set_option maxHeartbeats 4000000 in
set_option maxRecDepth 20000 in
theorem w_X4_keptAt (l : Launch) (b : Wy) {v1 : Int32} {σ : Sg} {K : Nat → Sg → Prop}  (h : m_X4_keptAt v1 σ K) : Ct l (wC b) yX4_keptAt cX4_keptAt 2 (some (.object "SeaMeeting$World")) rm_X4_keptAt [.ref (wB (wC b) + 0), .int v1] σ (PA (wC b) IsW K) := by
  unfold m_X4_keptAt at h
  refine Ct.of (own := RX4) (by decide +kernel) rfl (Nat.le_of_ble_eq_true rfl) (fun x hx o => ?_)
  subst hx
  show J x (wC b) (FinC x (wC b) (PA (wC b) IsW K) (0, 0)) 0 [(0, .ref (wB (wC b) + 0)), (1, .int v1)] [] (0, 0) σ
  refine J_aload_n o 0 d_X4_keptAt_0 rfl ?_
  refine J_getR (t := 282) o fl_RX4_41 rfl (Nat.le_of_ble_eq_true rfl) (Nat.le_of_ble_eq_true rfl) rfl rfl d_X4_keptAt_1 ?_
  refine J_iconst (v := 0) o d_X4_keptAt_4 iconst_0 ?_
  refine J_iload_n o 1 d_X4_keptAt_5 rfl ?_
  refine J_aload_n o 0 d_X4_keptAt_6 rfl ?_
  refine J_getR (t := 282) o fl_RX4_41 rfl (Nat.le_of_ble_eq_true rfl) (Nat.le_of_ble_eq_true rfl) rfl rfl d_X4_keptAt_7 ?_
  refine J_alenR o 1 (by decide) rfl (Nat.le_of_ble_eq_true rfl) (Nat.le_of_ble_eq_true rfl) d_X4_keptAt_10 ?_
  refine J_iconst (v := 1) o d_X4_keptAt_11 iconst_1 ?_
  refine J_isub o d_X4_keptAt_12 ?_
  refine J_min o mm_RX4_246 ms_min mi_math mc_min ⟨Nat.le_of_ble_eq_true rfl, Nat.le_of_ble_eq_true rfl, Nat.le_of_ble_eq_true rfl, Nat.le_of_ble_eq_true rfl⟩ d_X4_keptAt_13 ?_
  refine J_max o mm_RX4_251 ms_max mi_math mc_max ⟨Nat.le_of_ble_eq_true rfl, Nat.le_of_ble_eq_true rfl, Nat.le_of_ble_eq_true rfl, Nat.le_of_ble_eq_true rfl⟩ d_X4_keptAt_16 ?_
  have b19 := h.1
  replace h := h.2
  refine J_aald (t := (283 + 8 * (if 0 < (if ((Int32.ofNat 8) - 1) < v1 then ((Int32.ofNat 8) - 1) else v1) then (if ((Int32.ofNat 8) - 1) < v1 then ((Int32.ofNat 8) - 1) else v1) else 0).toNatClampNeg)) o 1 (by decide) rfl (Nat.le_of_ble_eq_true rfl) (Nat.le_of_ble_eq_true rfl) (vpc rfl b19) rfl d_X4_keptAt_19 ?_
  exact J_aret o (Or.inl ⟨_, rfl⟩) d_X4_keptAt_20 ⟨_, rfl, (W_at b19), h⟩
theorem d_X3_copyRow_0 : decode cX3_copyRow 0 = .ok (.aload_n 0, 1) := by decide +kernel
theorem d_X3_copyRow_1 : decode cX3_copyRow 1 = .ok (.iconst 0, 1) := by decide +kernel
theorem d_X3_copyRow_2 : decode cX3_copyRow 2 = .ok (.aload_n 1, 1) := by decide +kernel
theorem d_X3_copyRow_3 : decode cX3_copyRow 3 = .ok (.iconst 0, 1) := by decide +kernel
theorem d_X3_copyRow_4 : decode cX3_copyRow 4 = .ok (.aload_n 0, 1) := by decide +kernel
theorem d_X3_copyRow_5 : decode cX3_copyRow 5 = .ok (.arraylength, 1) := by decide +kernel
theorem d_X3_copyRow_6 : decode cX3_copyRow 6 = .ok (.aload_n 1, 1) := by decide +kernel
theorem d_X3_copyRow_7 : decode cX3_copyRow 7 = .ok (.arraylength, 1) := by decide +kernel
theorem d_X3_copyRow_8 : decode cX3_copyRow 8 = .ok (.invokestatic 85, 3) := by decide +kernel
theorem d_X3_copyRow_11 : decode cX3_copyRow 11 = .ok (.invokestatic 90, 3) := by decide +kernel
theorem d_X3_copyRow_14 : decode cX3_copyRow 14 = .ok (.return_, 1) := by decide +kernel
abbrev rm_X3_copyRow : Room := { frames := 1, cells := 0, slots := 0, locals := 40 }
set_option maxHeartbeats 4000000 in
set_option maxRecDepth 20000 in
theorem w_X3_copyRow (l : Launch) (b : Wy) {v0 : Nat} {v1 : Nat} {σ : Sg} {K : Sg → Prop} (hv0 : IsA (wC b) v0) (hv1 : IsA (wC b) v1) (h : m_X3_copyRow v0 v1 σ K) : Ct l (wC b) yX3_copyRow cX3_copyRow 2 none rm_X3_copyRow [.ref (wB (wC b) + v0), .ref (wB (wC b) + v1)] σ (PV K) := by
  unfold m_X3_copyRow at h
  refine Ct.of (own := RX3) (by decide +kernel) rfl (Nat.le_of_ble_eq_true rfl) (fun x hx o => ?_)
  subst hx
  show J x (wC b) (FinC x (wC b) (PV K) (0, 0)) 0 [(0, .ref (wB (wC b) + v0)), (1, .ref (wB (wC b) + v1))] [] (0, 0) σ
  refine J_aload_n o 0 d_X3_copyRow_0 rfl ?_
  refine J_iconst (v := 0) o d_X3_copyRow_1 iconst_0 ?_
  refine J_aload_n o 1 d_X3_copyRow_2 rfl ?_
  refine J_iconst (v := 0) o d_X3_copyRow_3 iconst_0 ?_
  refine J_aload_n o 0 d_X3_copyRow_4 rfl ?_
  refine J_alenL o hv0 rfl d_X3_copyRow_5 ?_
  refine J_aload_n o 1 d_X3_copyRow_6 rfl ?_
  refine J_alenL o hv1 rfl d_X3_copyRow_7 ?_
  refine J_min o mm_RX3_85 ms_min mi_math mc_min ⟨Nat.le_of_ble_eq_true rfl, Nat.le_of_ble_eq_true rfl, Nat.le_of_ble_eq_true rfl, Nat.le_of_ble_eq_true rfl⟩ d_X3_copyRow_8 ?_
  have z11 := h.1
  replace h := h.2
  refine J_copy o ac_RX3_90 an_copy as_copy ai_copy hv0 hv1 z11.1 z11.2.1 z11.2.2.1 z11.2.2.2.1 z11.2.2.2.2 ⟨Nat.le_of_ble_eq_true rfl, Nat.le_of_ble_eq_true rfl⟩ d_X3_copyRow_11 ?_
  refine J_nS (fun s11 es11 => ?_)
  replace h := h s11 es11
  exact J_vret o d_X3_copyRow_14 ⟨rfl, h⟩
theorem d_X3_become_0 : decode cX3_become 0 = .ok (.aload_n 0, 1) := by decide +kernel
theorem d_X3_become_1 : decode cX3_become 1 = .ok (.aload_n 1, 1) := by decide +kernel
theorem d_X3_become_2 : decode cX3_become 2 = .ok (.getfield 9, 3) := by decide +kernel
theorem d_X3_become_5 : decode cX3_become 5 = .ok (.putfield 9, 3) := by decide +kernel
theorem d_X3_become_8 : decode cX3_become 8 = .ok (.aload_n 0, 1) := by decide +kernel
theorem d_X3_become_9 : decode cX3_become 9 = .ok (.aload_n 1, 1) := by decide +kernel
theorem d_X3_become_10 : decode cX3_become 10 = .ok (.getfield 15, 3) := by decide +kernel
theorem d_X3_become_13 : decode cX3_become 13 = .ok (.putfield 15, 3) := by decide +kernel
theorem d_X3_become_16 : decode cX3_become 16 = .ok (.aload_n 0, 1) := by decide +kernel
theorem d_X3_become_17 : decode cX3_become 17 = .ok (.aload_n 1, 1) := by decide +kernel
theorem d_X3_become_18 : decode cX3_become 18 = .ok (.getfield 18, 3) := by decide +kernel
theorem d_X3_become_21 : decode cX3_become 21 = .ok (.putfield 18, 3) := by decide +kernel
theorem d_X3_become_24 : decode cX3_become 24 = .ok (.aload_n 0, 1) := by decide +kernel
theorem d_X3_become_25 : decode cX3_become 25 = .ok (.aload_n 1, 1) := by decide +kernel
theorem d_X3_become_26 : decode cX3_become 26 = .ok (.getfield 21, 3) := by decide +kernel
theorem d_X3_become_29 : decode cX3_become 29 = .ok (.putfield 21, 3) := by decide +kernel
theorem d_X3_become_32 : decode cX3_become 32 = .ok (.aload_n 0, 1) := by decide +kernel
theorem d_X3_become_33 : decode cX3_become 33 = .ok (.aload_n 1, 1) := by decide +kernel
theorem d_X3_become_34 : decode cX3_become 34 = .ok (.getfield 24, 3) := by decide +kernel
theorem d_X3_become_37 : decode cX3_become 37 = .ok (.putfield 24, 3) := by decide +kernel
theorem d_X3_become_40 : decode cX3_become 40 = .ok (.aload_n 0, 1) := by decide +kernel
theorem d_X3_become_41 : decode cX3_become 41 = .ok (.aload_n 1, 1) := by decide +kernel
theorem d_X3_become_42 : decode cX3_become 42 = .ok (.getfield 27, 3) := by decide +kernel
theorem d_X3_become_45 : decode cX3_become 45 = .ok (.putfield 27, 3) := by decide +kernel
theorem d_X3_become_48 : decode cX3_become 48 = .ok (.aload_n 0, 1) := by decide +kernel
theorem d_X3_become_49 : decode cX3_become 49 = .ok (.aload_n 1, 1) := by decide +kernel
theorem d_X3_become_50 : decode cX3_become 50 = .ok (.getfield 30, 3) := by decide +kernel
theorem d_X3_become_53 : decode cX3_become 53 = .ok (.putfield 30, 3) := by decide +kernel
theorem d_X3_become_56 : decode cX3_become 56 = .ok (.aload_n 0, 1) := by decide +kernel
theorem d_X3_become_57 : decode cX3_become 57 = .ok (.aload_n 1, 1) := by decide +kernel
theorem d_X3_become_58 : decode cX3_become 58 = .ok (.getfield 33, 3) := by decide +kernel
theorem d_X3_become_61 : decode cX3_become 61 = .ok (.putfield 33, 3) := by decide +kernel
theorem d_X3_become_64 : decode cX3_become 64 = .ok (.aload_n 0, 1) := by decide +kernel
theorem d_X3_become_65 : decode cX3_become 65 = .ok (.aload_n 1, 1) := by decide +kernel
theorem d_X3_become_66 : decode cX3_become 66 = .ok (.getfield 36, 3) := by decide +kernel
theorem d_X3_become_69 : decode cX3_become 69 = .ok (.putfield 36, 3) := by decide +kernel
theorem d_X3_become_72 : decode cX3_become 72 = .ok (.aload_n 0, 1) := by decide +kernel
theorem d_X3_become_73 : decode cX3_become 73 = .ok (.aload_n 1, 1) := by decide +kernel
theorem d_X3_become_74 : decode cX3_become 74 = .ok (.getfield 39, 3) := by decide +kernel
theorem d_X3_become_77 : decode cX3_become 77 = .ok (.putfield 39, 3) := by decide +kernel
theorem d_X3_become_80 : decode cX3_become 80 = .ok (.aload_n 1, 1) := by decide +kernel
theorem d_X3_become_81 : decode cX3_become 81 = .ok (.getfield 42, 3) := by decide +kernel
theorem d_X3_become_84 : decode cX3_become 84 = .ok (.aload_n 0, 1) := by decide +kernel
theorem d_X3_become_85 : decode cX3_become 85 = .ok (.getfield 42, 3) := by decide +kernel
theorem d_X3_become_88 : decode cX3_become 88 = .ok (.invokestatic 81, 3) := by decide +kernel
theorem d_X3_become_91 : decode cX3_become 91 = .ok (.aload_n 1, 1) := by decide +kernel
theorem d_X3_become_92 : decode cX3_become 92 = .ok (.getfield 46, 3) := by decide +kernel
theorem d_X3_become_95 : decode cX3_become 95 = .ok (.aload_n 0, 1) := by decide +kernel
theorem d_X3_become_96 : decode cX3_become 96 = .ok (.getfield 46, 3) := by decide +kernel
theorem d_X3_become_99 : decode cX3_become 99 = .ok (.invokestatic 81, 3) := by decide +kernel
theorem d_X3_become_102 : decode cX3_become 102 = .ok (.aload_n 1, 1) := by decide +kernel
theorem d_X3_become_103 : decode cX3_become 103 = .ok (.getfield 49, 3) := by decide +kernel
theorem d_X3_become_106 : decode cX3_become 106 = .ok (.aload_n 0, 1) := by decide +kernel
theorem d_X3_become_107 : decode cX3_become 107 = .ok (.getfield 49, 3) := by decide +kernel
theorem d_X3_become_110 : decode cX3_become 110 = .ok (.invokestatic 81, 3) := by decide +kernel
theorem d_X3_become_113 : decode cX3_become 113 = .ok (.aload_n 1, 1) := by decide +kernel
theorem d_X3_become_114 : decode cX3_become 114 = .ok (.getfield 52, 3) := by decide +kernel
theorem d_X3_become_117 : decode cX3_become 117 = .ok (.aload_n 0, 1) := by decide +kernel
theorem d_X3_become_118 : decode cX3_become 118 = .ok (.getfield 52, 3) := by decide +kernel
theorem d_X3_become_121 : decode cX3_become 121 = .ok (.invokestatic 81, 3) := by decide +kernel
theorem d_X3_become_124 : decode cX3_become 124 = .ok (.aload_n 1, 1) := by decide +kernel
theorem d_X3_become_125 : decode cX3_become 125 = .ok (.getfield 55, 3) := by decide +kernel
theorem d_X3_become_128 : decode cX3_become 128 = .ok (.aload_n 0, 1) := by decide +kernel
theorem d_X3_become_129 : decode cX3_become 129 = .ok (.getfield 55, 3) := by decide +kernel
theorem d_X3_become_132 : decode cX3_become 132 = .ok (.invokestatic 81, 3) := by decide +kernel
theorem d_X3_become_135 : decode cX3_become 135 = .ok (.aload_n 1, 1) := by decide +kernel
theorem d_X3_become_136 : decode cX3_become 136 = .ok (.getfield 58, 3) := by decide +kernel
theorem d_X3_become_139 : decode cX3_become 139 = .ok (.aload_n 0, 1) := by decide +kernel
theorem d_X3_become_140 : decode cX3_become 140 = .ok (.getfield 58, 3) := by decide +kernel
theorem d_X3_become_143 : decode cX3_become 143 = .ok (.invokestatic 81, 3) := by decide +kernel
theorem d_X3_become_146 : decode cX3_become 146 = .ok (.aload_n 1, 1) := by decide +kernel
theorem d_X3_become_147 : decode cX3_become 147 = .ok (.getfield 61, 3) := by decide +kernel
theorem d_X3_become_150 : decode cX3_become 150 = .ok (.aload_n 0, 1) := by decide +kernel
theorem d_X3_become_151 : decode cX3_become 151 = .ok (.getfield 61, 3) := by decide +kernel
theorem d_X3_become_154 : decode cX3_become 154 = .ok (.invokestatic 81, 3) := by decide +kernel
theorem d_X3_become_157 : decode cX3_become 157 = .ok (.return_, 1) := by decide +kernel
abbrev rm_X3_become : Room := { frames := 2, cells := 0, slots := 0, locals := 61 }
set_option maxHeartbeats 4000000 in
set_option maxRecDepth 20000 in
theorem w_X3_become (l : Launch) (b : Wy) {v0 : Nat} {v1 : Nat} {σ : Sg} {K : Sg → Prop} (hv0 : IsW v0) (hv1 : IsW v1) (h : m_X3_become v0 v1 σ K) : Ct l (wC b) yX3_become cX3_become 2 none rm_X3_become [.ref (wB (wC b) + v0), .ref (wB (wC b) + v1)] σ (PV K) := by
  unfold m_X3_become at h
  refine Ct.of (own := RX3) (by decide +kernel) rfl (Nat.le_of_ble_eq_true rfl) (fun x hx o => ?_)
  subst hx
  show J x (wC b) (FinC x (wC b) (PV K) (0, 0)) 0 [(0, .ref (wB (wC b) + v0)), (1, .ref (wB (wC b) + v1))] [] (0, 0) σ
  refine J_aload_n o 0 d_X3_become_0 rfl ?_
  refine J_aload_n o 1 d_X3_become_1 rfl ?_
  refine J_getI o fl_RX3_9 (W_kd hv1) (Nat.zero_le _) (W_hi hv1) rfl d_X3_become_2 ?_
  refine J_put o fl_RX3_9 la_3 (W_kd hv0) (Nat.zero_le _) (W_hi hv0) rfl rfl rfl rfl d_X3_become_5 ?_
  refine J_nS (fun s5 es5 => ?_)
  replace h := h s5 es5
  refine J_aload_n o 0 d_X3_become_8 rfl ?_
  refine J_aload_n o 1 d_X3_become_9 rfl ?_
  refine J_getI o fl_RX3_15 (W_kd hv1) (Nat.zero_le _) (W_hi hv1) rfl d_X3_become_10 ?_
  refine J_put o fl_RX3_15 la_3 (W_kd hv0) (Nat.zero_le _) (W_hi hv0) rfl rfl rfl rfl d_X3_become_13 ?_
  refine J_nS (fun s13 es13 => ?_)
  replace h := h s13 es13
  refine J_aload_n o 0 d_X3_become_16 rfl ?_
  refine J_aload_n o 1 d_X3_become_17 rfl ?_
  refine J_getI o fl_RX3_18 (W_kd hv1) (Nat.zero_le _) (W_hi hv1) rfl d_X3_become_18 ?_
  refine J_put o fl_RX3_18 la_3 (W_kd hv0) (Nat.zero_le _) (W_hi hv0) rfl rfl rfl rfl d_X3_become_21 ?_
  refine J_nS (fun s21 es21 => ?_)
  replace h := h s21 es21
  refine J_aload_n o 0 d_X3_become_24 rfl ?_
  refine J_aload_n o 1 d_X3_become_25 rfl ?_
  refine J_getI o fl_RX3_21 (W_kd hv1) (Nat.zero_le _) (W_hi hv1) rfl d_X3_become_26 ?_
  refine J_put o fl_RX3_21 la_3 (W_kd hv0) (Nat.zero_le _) (W_hi hv0) rfl rfl rfl rfl d_X3_become_29 ?_
  refine J_nS (fun s29 es29 => ?_)
  replace h := h s29 es29
  refine J_aload_n o 0 d_X3_become_32 rfl ?_
  refine J_aload_n o 1 d_X3_become_33 rfl ?_
  refine J_getI o fl_RX3_24 (W_kd hv1) (Nat.zero_le _) (W_hi hv1) rfl d_X3_become_34 ?_
  refine J_put o fl_RX3_24 la_3 (W_kd hv0) (Nat.zero_le _) (W_hi hv0) rfl rfl rfl rfl d_X3_become_37 ?_
  refine J_nS (fun s37 es37 => ?_)
  replace h := h s37 es37
  refine J_aload_n o 0 d_X3_become_40 rfl ?_
  refine J_aload_n o 1 d_X3_become_41 rfl ?_
  refine J_getI o fl_RX3_27 (W_kd hv1) (Nat.zero_le _) (W_hi hv1) rfl d_X3_become_42 ?_
  refine J_put o fl_RX3_27 la_3 (W_kd hv0) (Nat.zero_le _) (W_hi hv0) rfl rfl rfl rfl d_X3_become_45 ?_
  refine J_nS (fun s45 es45 => ?_)
  replace h := h s45 es45
  refine J_aload_n o 0 d_X3_become_48 rfl ?_
  refine J_aload_n o 1 d_X3_become_49 rfl ?_
  refine J_getI o fl_RX3_30 (W_kd hv1) (Nat.zero_le _) (W_hi hv1) rfl d_X3_become_50 ?_
  refine J_put o fl_RX3_30 la_3 (W_kd hv0) (Nat.zero_le _) (W_hi hv0) rfl rfl rfl rfl d_X3_become_53 ?_
  refine J_nS (fun s53 es53 => ?_)
  replace h := h s53 es53
  refine J_aload_n o 0 d_X3_become_56 rfl ?_
  refine J_aload_n o 1 d_X3_become_57 rfl ?_
  refine J_getI o fl_RX3_33 (W_kd hv1) (Nat.zero_le _) (W_hi hv1) rfl d_X3_become_58 ?_
  refine J_put o fl_RX3_33 la_3 (W_kd hv0) (Nat.zero_le _) (W_hi hv0) rfl rfl rfl rfl d_X3_become_61 ?_
  refine J_nS (fun s61 es61 => ?_)
  replace h := h s61 es61
  refine J_aload_n o 0 d_X3_become_64 rfl ?_
  refine J_aload_n o 1 d_X3_become_65 rfl ?_
  refine J_getI o fl_RX3_36 (W_kd hv1) (Nat.zero_le _) (W_hi hv1) rfl d_X3_become_66 ?_
  refine J_put o fl_RX3_36 la_3 (W_kd hv0) (Nat.zero_le _) (W_hi hv0) rfl rfl rfl rfl d_X3_become_69 ?_
  refine J_nS (fun s69 es69 => ?_)
  replace h := h s69 es69
  refine J_aload_n o 0 d_X3_become_72 rfl ?_
  refine J_aload_n o 1 d_X3_become_73 rfl ?_
  refine J_getI o fl_RX3_39 (W_kd hv1) (Nat.zero_le _) (W_hi hv1) rfl d_X3_become_74 ?_
  refine J_put o fl_RX3_39 la_3 (W_kd hv0) (Nat.zero_le _) (W_hi hv0) rfl rfl rfl rfl d_X3_become_77 ?_
  refine J_nS (fun s77 es77 => ?_)
  replace h := h s77 es77
  refine J_aload_n o 1 d_X3_become_80 rfl ?_
  refine J_getR (t := (v1 + 1)) o fl_RX3_42 (W_kd hv1) (Nat.zero_le _) (W_hi hv1) rfl (W_t hv1 10 (by decide)) d_X3_become_81 ?_
  refine J_aload_n o 0 d_X3_become_84 rfl ?_
  refine J_getR (t := (v0 + 1)) o fl_RX3_42 (W_kd hv0) (Nat.zero_le _) (W_hi hv0) rfl (W_t hv0 10 (by decide)) d_X3_become_85 ?_
  refine J_callS o [.ref (wB (wC b) + (v1 + 1)), .ref (wB (wC b) + (v0 + 1))] mth_X3_copyRow st_X3_copyRow ml_RX3_81 ⟨Nat.le_of_ble_eq_true rfl, Nat.le_of_ble_eq_true rfl⟩ rfl rfl (Nat.le_of_ble_eq_true rfl) ⟨Nat.le_refl _, Nat.le_refl _⟩ d_X3_become_88 (w_X3_copyRow (xL x) b (W_A1 hv1) (W_A1 hv0) h) (aV (fun s88 h => ?_))
  refine J_aload_n o 1 d_X3_become_91 rfl ?_
  refine J_getR (t := (v1 + 2)) o fl_RX3_46 (W_kd hv1) (Nat.zero_le _) (W_hi hv1) rfl (W_t hv1 11 (by decide)) d_X3_become_92 ?_
  refine J_aload_n o 0 d_X3_become_95 rfl ?_
  refine J_getR (t := (v0 + 2)) o fl_RX3_46 (W_kd hv0) (Nat.zero_le _) (W_hi hv0) rfl (W_t hv0 11 (by decide)) d_X3_become_96 ?_
  refine J_callS o [.ref (wB (wC b) + (v1 + 2)), .ref (wB (wC b) + (v0 + 2))] mth_X3_copyRow st_X3_copyRow ml_RX3_81 ⟨Nat.le_of_ble_eq_true rfl, Nat.le_of_ble_eq_true rfl⟩ rfl rfl (Nat.le_of_ble_eq_true rfl) ⟨Nat.le_refl _, Nat.le_refl _⟩ d_X3_become_99 (w_X3_copyRow (xL x) b (W_A2 hv1) (W_A2 hv0) h) (aV (fun s99 h => ?_))
  refine J_aload_n o 1 d_X3_become_102 rfl ?_
  refine J_getR (t := (v1 + 3)) o fl_RX3_49 (W_kd hv1) (Nat.zero_le _) (W_hi hv1) rfl (W_t hv1 12 (by decide)) d_X3_become_103 ?_
  refine J_aload_n o 0 d_X3_become_106 rfl ?_
  refine J_getR (t := (v0 + 3)) o fl_RX3_49 (W_kd hv0) (Nat.zero_le _) (W_hi hv0) rfl (W_t hv0 12 (by decide)) d_X3_become_107 ?_
  refine J_callS o [.ref (wB (wC b) + (v1 + 3)), .ref (wB (wC b) + (v0 + 3))] mth_X3_copyRow st_X3_copyRow ml_RX3_81 ⟨Nat.le_of_ble_eq_true rfl, Nat.le_of_ble_eq_true rfl⟩ rfl rfl (Nat.le_of_ble_eq_true rfl) ⟨Nat.le_refl _, Nat.le_refl _⟩ d_X3_become_110 (w_X3_copyRow (xL x) b (W_A3 hv1) (W_A3 hv0) h) (aV (fun s110 h => ?_))
  refine J_aload_n o 1 d_X3_become_113 rfl ?_
  refine J_getR (t := (v1 + 4)) o fl_RX3_52 (W_kd hv1) (Nat.zero_le _) (W_hi hv1) rfl (W_t hv1 13 (by decide)) d_X3_become_114 ?_
  refine J_aload_n o 0 d_X3_become_117 rfl ?_
  refine J_getR (t := (v0 + 4)) o fl_RX3_52 (W_kd hv0) (Nat.zero_le _) (W_hi hv0) rfl (W_t hv0 13 (by decide)) d_X3_become_118 ?_
  refine J_callS o [.ref (wB (wC b) + (v1 + 4)), .ref (wB (wC b) + (v0 + 4))] mth_X3_copyRow st_X3_copyRow ml_RX3_81 ⟨Nat.le_of_ble_eq_true rfl, Nat.le_of_ble_eq_true rfl⟩ rfl rfl (Nat.le_of_ble_eq_true rfl) ⟨Nat.le_refl _, Nat.le_refl _⟩ d_X3_become_121 (w_X3_copyRow (xL x) b (W_A4 hv1) (W_A4 hv0) h) (aV (fun s121 h => ?_))
  refine J_aload_n o 1 d_X3_become_124 rfl ?_
  refine J_getR (t := (v1 + 5)) o fl_RX3_55 (W_kd hv1) (Nat.zero_le _) (W_hi hv1) rfl (W_t hv1 14 (by decide)) d_X3_become_125 ?_
  refine J_aload_n o 0 d_X3_become_128 rfl ?_
  refine J_getR (t := (v0 + 5)) o fl_RX3_55 (W_kd hv0) (Nat.zero_le _) (W_hi hv0) rfl (W_t hv0 14 (by decide)) d_X3_become_129 ?_
  refine J_callS o [.ref (wB (wC b) + (v1 + 5)), .ref (wB (wC b) + (v0 + 5))] mth_X3_copyRow st_X3_copyRow ml_RX3_81 ⟨Nat.le_of_ble_eq_true rfl, Nat.le_of_ble_eq_true rfl⟩ rfl rfl (Nat.le_of_ble_eq_true rfl) ⟨Nat.le_refl _, Nat.le_refl _⟩ d_X3_become_132 (w_X3_copyRow (xL x) b (W_A5 hv1) (W_A5 hv0) h) (aV (fun s132 h => ?_))
  refine J_aload_n o 1 d_X3_become_135 rfl ?_
  refine J_getR (t := (v1 + 6)) o fl_RX3_58 (W_kd hv1) (Nat.zero_le _) (W_hi hv1) rfl (W_t hv1 15 (by decide)) d_X3_become_136 ?_
  refine J_aload_n o 0 d_X3_become_139 rfl ?_
  refine J_getR (t := (v0 + 6)) o fl_RX3_58 (W_kd hv0) (Nat.zero_le _) (W_hi hv0) rfl (W_t hv0 15 (by decide)) d_X3_become_140 ?_
  refine J_callS o [.ref (wB (wC b) + (v1 + 6)), .ref (wB (wC b) + (v0 + 6))] mth_X3_copyRow st_X3_copyRow ml_RX3_81 ⟨Nat.le_of_ble_eq_true rfl, Nat.le_of_ble_eq_true rfl⟩ rfl rfl (Nat.le_of_ble_eq_true rfl) ⟨Nat.le_refl _, Nat.le_refl _⟩ d_X3_become_143 (w_X3_copyRow (xL x) b (W_A6 hv1) (W_A6 hv0) h) (aV (fun s143 h => ?_))
  refine J_aload_n o 1 d_X3_become_146 rfl ?_
  refine J_getR (t := (v1 + 7)) o fl_RX3_61 (W_kd hv1) (Nat.zero_le _) (W_hi hv1) rfl (W_t hv1 16 (by decide)) d_X3_become_147 ?_
  refine J_aload_n o 0 d_X3_become_150 rfl ?_
  refine J_getR (t := (v0 + 7)) o fl_RX3_61 (W_kd hv0) (Nat.zero_le _) (W_hi hv0) rfl (W_t hv0 16 (by decide)) d_X3_become_151 ?_
  refine J_callS o [.ref (wB (wC b) + (v1 + 7)), .ref (wB (wC b) + (v0 + 7))] mth_X3_copyRow st_X3_copyRow ml_RX3_81 ⟨Nat.le_of_ble_eq_true rfl, Nat.le_of_ble_eq_true rfl⟩ rfl rfl (Nat.le_of_ble_eq_true rfl) ⟨Nat.le_refl _, Nat.le_refl _⟩ d_X3_become_154 (w_X3_copyRow (xL x) b (W_A7 hv1) (W_A7 hv0) h) (aV (fun s154 h => ?_))
  exact J_vret o d_X3_become_157 ⟨rfl, h⟩
theorem d_X0_forget_0 : decode cX0_forget 0 = .ok (.aload_n 0, 1) := by decide +kernel
theorem d_X0_forget_1 : decode cX0_forget 1 = .ok (.iconst 0, 1) := by decide +kernel
theorem d_X0_forget_2 : decode cX0_forget 2 = .ok (.putfield 42, 3) := by decide +kernel
theorem d_X0_forget_5 : decode cX0_forget 5 = .ok (.return_, 1) := by decide +kernel
abbrev rm_X0_forget : Room := { frames := 0, cells := 0, slots := 0, locals := 0 }
set_option maxHeartbeats 4000000 in
set_option maxRecDepth 20000 in
theorem w_X0_forget (l : Launch) (b : Wy)  {σ : Sg} {K : Sg → Prop}  (h : m_X0_forget  σ K) : Ct l (wC b) yX0_forget cX0_forget 1 none rm_X0_forget [.ref (wB (wC b) + 19)] σ (PV K) := by
  unfold m_X0_forget at h
  refine Ct.of (own := RX0) (by decide +kernel) rfl (Nat.le_of_ble_eq_true rfl) (fun x hx o => ?_)
  subst hx
  show J x (wC b) (FinC x (wC b) (PV K) (0, 0)) 0 [(0, .ref (wB (wC b) + 19))] [] (0, 0) σ
  refine J_aload_n o 0 d_X0_forget_0 rfl ?_
  refine J_iconst (v := 0) o d_X0_forget_1 iconst_0 ?_
  refine J_put o fl_RX0_42 la_0 rfl (Nat.le_of_ble_eq_true rfl) (Nat.le_of_ble_eq_true rfl) rfl rfl rfl rfl d_X0_forget_2 ?_
  refine J_nS (fun s2 es2 => ?_)
  replace h := h s2 es2
  exact J_vret o d_X0_forget_5 ⟨rfl, h⟩
theorem d_X4_undo_0 : decode cX4_undo 0 = .ok (.aload_n 0, 1) := by decide +kernel
theorem d_X4_undo_1 : decode cX4_undo 1 = .ok (.getfield 55, 3) := by decide +kernel
theorem d_X4_undo_4 : decode cX4_undo 4 = .ok (.ifCond .ne 5, 3) := by decide +kernel
theorem d_X4_undo_7 : decode cX4_undo 7 = .ok (.iconst (-1), 1) := by decide +kernel
theorem d_X4_undo_8 : decode cX4_undo 8 = .ok (.ireturn, 1) := by decide +kernel
theorem d_X4_undo_9 : decode cX4_undo 9 = .ok (.aload_n 0, 1) := by decide +kernel
theorem d_X4_undo_10 : decode cX4_undo 10 = .ok (.dup, 1) := by decide +kernel
theorem d_X4_undo_11 : decode cX4_undo 11 = .ok (.getfield 55, 3) := by decide +kernel
theorem d_X4_undo_14 : decode cX4_undo 14 = .ok (.iconst 1, 1) := by decide +kernel
theorem d_X4_undo_15 : decode cX4_undo 15 = .ok (.isub, 1) := by decide +kernel
theorem d_X4_undo_16 : decode cX4_undo 16 = .ok (.putfield 55, 3) := by decide +kernel
theorem d_X4_undo_19 : decode cX4_undo 19 = .ok (.aload_n 0, 1) := by decide +kernel
theorem d_X4_undo_20 : decode cX4_undo 20 = .ok (.aload_n 0, 1) := by decide +kernel
theorem d_X4_undo_21 : decode cX4_undo 21 = .ok (.getfield 52, 3) := by decide +kernel
theorem d_X4_undo_24 : decode cX4_undo 24 = .ok (.bipush 8, 2) := by decide +kernel
theorem d_X4_undo_26 : decode cX4_undo 26 = .ok (.iadd, 1) := by decide +kernel
theorem d_X4_undo_27 : decode cX4_undo 27 = .ok (.iconst 1, 1) := by decide +kernel
theorem d_X4_undo_28 : decode cX4_undo 28 = .ok (.isub, 1) := by decide +kernel
theorem d_X4_undo_29 : decode cX4_undo 29 = .ok (.bipush 8, 2) := by decide +kernel
theorem d_X4_undo_31 : decode cX4_undo 31 = .ok (.irem, 1) := by decide +kernel
theorem d_X4_undo_32 : decode cX4_undo 32 = .ok (.putfield 52, 3) := by decide +kernel
theorem d_X4_undo_35 : decode cX4_undo 35 = .ok (.aload_n 0, 1) := by decide +kernel
theorem d_X4_undo_36 : decode cX4_undo 36 = .ok (.getfield 16, 3) := by decide +kernel
theorem d_X4_undo_39 : decode cX4_undo 39 = .ok (.aload_n 0, 1) := by decide +kernel
theorem d_X4_undo_40 : decode cX4_undo 40 = .ok (.aload_n 0, 1) := by decide +kernel
theorem d_X4_undo_41 : decode cX4_undo 41 = .ok (.getfield 52, 3) := by decide +kernel
theorem d_X4_undo_44 : decode cX4_undo 44 = .ok (.invokevirtual 143, 3) := by decide +kernel
theorem d_X4_undo_47 : decode cX4_undo 47 = .ok (.invokevirtual 90, 3) := by decide +kernel
theorem d_X4_undo_50 : decode cX4_undo 50 = .ok (.aload_n 0, 1) := by decide +kernel
theorem d_X4_undo_51 : decode cX4_undo 51 = .ok (.getfield 37, 3) := by decide +kernel
theorem d_X4_undo_54 : decode cX4_undo 54 = .ok (.invokevirtual 147, 3) := by decide +kernel
theorem d_X4_undo_57 : decode cX4_undo 57 = .ok (.aload_n 0, 1) := by decide +kernel
theorem d_X4_undo_58 : decode cX4_undo 58 = .ok (.getfield 55, 3) := by decide +kernel
theorem d_X4_undo_61 : decode cX4_undo 61 = .ok (.ireturn, 1) := by decide +kernel
abbrev rm_X4_undo : Room := { frames := 3, cells := 0, slots := 0, locals := 82 }
set_option maxHeartbeats 4000000 in
set_option maxRecDepth 20000 in
theorem w_X4_undo (l : Launch) (b : Wy)  {σ : Sg} {K : Int32 → Sg → Prop}  (h : m_X4_undo  σ K) : Ct l (wC b) yX4_undo cX4_undo 1 (some .int) rm_X4_undo [.ref (wB (wC b) + 0)] σ (PI K) := by
  unfold m_X4_undo at h
  refine Ct.of (own := RX4) (by decide +kernel) rfl (Nat.le_of_ble_eq_true rfl) (fun x hx o => ?_)
  subst hx
  show J x (wC b) (FinC x (wC b) (PI K) (0, 0)) 0 [(0, .ref (wB (wC b) + 0))] [] (0, 0) σ
  refine J_aload_n o 0 d_X4_undo_0 rfl ?_
  refine J_getI o fl_RX4_55 rfl (Nat.le_of_ble_eq_true rfl) (Nat.le_of_ble_eq_true rfl) rfl d_X4_undo_1 ?_
  refine J_if_ne o 9 d_X4_undo_4 rfl (fun c4 => ?_) (fun c4 => ?_)
  · replace h := h.1 c4
    refine J_aload_n o 0 d_X4_undo_9 rfl ?_
    refine J_dup o d_X4_undo_10 rfl ?_
    refine J_getI o fl_RX4_55 rfl (Nat.le_of_ble_eq_true rfl) (Nat.le_of_ble_eq_true rfl) rfl d_X4_undo_11 ?_
    refine J_iconst (v := 1) o d_X4_undo_14 iconst_1 ?_
    refine J_isub o d_X4_undo_15 ?_
    refine J_put o fl_RX4_55 la_4 rfl (Nat.le_of_ble_eq_true rfl) (Nat.le_of_ble_eq_true rfl) rfl rfl rfl rfl d_X4_undo_16 ?_
    refine J_nS (fun s16 es16 => ?_)
    replace h := h s16 es16
    refine J_aload_n o 0 d_X4_undo_19 rfl ?_
    refine J_aload_n o 0 d_X4_undo_20 rfl ?_
    refine J_getI o fl_RX4_52 rfl (Nat.le_of_ble_eq_true rfl) (Nat.le_of_ble_eq_true rfl) rfl d_X4_undo_21 ?_
    refine J_bipush (v := 8) o d_X4_undo_24 bipush_8 ?_
    refine J_iadd o d_X4_undo_26 ?_
    refine J_iconst (v := 1) o d_X4_undo_27 iconst_1 ?_
    refine J_isub o d_X4_undo_28 ?_
    refine J_bipush (v := 8) o d_X4_undo_29 bipush_8 ?_
    refine J_irem o d_X4_undo_31 (by decide) ?_
    refine J_put o fl_RX4_52 la_4 rfl (Nat.le_of_ble_eq_true rfl) (Nat.le_of_ble_eq_true rfl) rfl rfl rfl rfl d_X4_undo_32 ?_
    refine J_nS (fun s32 es32 => ?_)
    replace h := h s32 es32
    refine J_aload_n o 0 d_X4_undo_35 rfl ?_
    refine J_getR (t := 2) o fl_RX4_16 rfl (Nat.le_of_ble_eq_true rfl) (Nat.le_of_ble_eq_true rfl) rfl rfl d_X4_undo_36 ?_
    refine J_aload_n o 0 d_X4_undo_39 rfl ?_
    refine J_aload_n o 0 d_X4_undo_40 rfl ?_
    refine J_getI o fl_RX4_52 rfl (Nat.le_of_ble_eq_true rfl) (Nat.le_of_ble_eq_true rfl) rfl d_X4_undo_41 ?_
    refine J_callV (k := 0) (c := 4) o [.int (s32 0 8)] rfl (by decide) (Nat.le_of_ble_eq_true rfl) (Nat.le_of_ble_eq_true rfl) mth_X4_keptAt iv_X4_keptAt ml_RX4_143 ⟨Nat.le_of_ble_eq_true rfl, Nat.le_of_ble_eq_true rfl⟩ rfl rfl (Nat.le_of_ble_eq_true rfl) ⟨Nat.le_refl _, Nat.le_refl _⟩ d_X4_undo_44 (w_X4_keptAt (xL x) b  h) (aA (fun r44 s44 hr44 h => ?_))
    refine J_callV (k := 2) (c := 3) o [.ref (wB (wC b) + r44)] (W_kd W_2) (by decide) (Nat.zero_le _) (W_hi W_2) mth_X3_become iv_X3_become ml_RX4_90 ⟨Nat.le_of_ble_eq_true rfl, Nat.le_of_ble_eq_true rfl⟩ rfl rfl (Nat.le_of_ble_eq_true rfl) ⟨Nat.le_refl _, Nat.le_refl _⟩ d_X4_undo_47 (w_X3_become (xL x) b W_2 hr44 h) (aV (fun s47 h => ?_))
    refine J_aload_n o 0 d_X4_undo_50 rfl ?_
    refine J_getR (t := 19) o fl_RX4_37 rfl (Nat.le_of_ble_eq_true rfl) (Nat.le_of_ble_eq_true rfl) rfl rfl d_X4_undo_51 ?_
    refine J_callV (k := 19) (c := 0) o [] rfl (by decide) (Nat.le_of_ble_eq_true rfl) (Nat.le_of_ble_eq_true rfl) mth_X0_forget iv_X0_forget ml_RX4_147 ⟨Nat.le_of_ble_eq_true rfl, Nat.le_of_ble_eq_true rfl⟩ rfl rfl (Nat.le_of_ble_eq_true rfl) ⟨Nat.le_refl _, Nat.le_refl _⟩ d_X4_undo_54 (w_X0_forget (xL x) b  h) (aV (fun s54 h => ?_))
    refine J_aload_n o 0 d_X4_undo_57 rfl ?_
    refine J_getI o fl_RX4_55 rfl (Nat.le_of_ble_eq_true rfl) (Nat.le_of_ble_eq_true rfl) rfl d_X4_undo_58 ?_
    exact J_iret o d_X4_undo_61 ⟨_, rfl, h⟩
  · replace h := h.2 c4
    refine J_iconst (v := (-1)) o d_X4_undo_7 iconst_m1 ?_
    exact J_iret o d_X4_undo_8 ⟨_, rfl, h⟩
theorem d_X1_forget_0 : decode cX1_forget 0 = .ok (.aload_n 0, 1) := by decide +kernel
theorem d_X1_forget_1 : decode cX1_forget 1 = .ok (.iconst 0, 1) := by decide +kernel
theorem d_X1_forget_2 : decode cX1_forget 2 = .ok (.putfield 20, 3) := by decide +kernel
theorem d_X1_forget_5 : decode cX1_forget 5 = .ok (.aload_n 0, 1) := by decide +kernel
theorem d_X1_forget_6 : decode cX1_forget 6 = .ok (.iconst 0, 1) := by decide +kernel
theorem d_X1_forget_7 : decode cX1_forget 7 = .ok (.putfield 24, 3) := by decide +kernel
theorem d_X1_forget_10 : decode cX1_forget 10 = .ok (.return_, 1) := by decide +kernel
abbrev rm_X1_forget : Room := { frames := 0, cells := 0, slots := 0, locals := 0 }
set_option maxHeartbeats 4000000 in
set_option maxRecDepth 20000 in
theorem w_X1_forget (l : Launch) (b : Wy) {v0 : Nat} {σ : Sg} {K : Sg → Prop} (hv0 : IsS v0) (h : m_X1_forget v0 σ K) : Ct l (wC b) yX1_forget cX1_forget 1 none rm_X1_forget [.ref (wB (wC b) + v0)] σ (PV K) := by
  unfold m_X1_forget at h
  refine Ct.of (own := RX1) (by decide +kernel) rfl (Nat.le_of_ble_eq_true rfl) (fun x hx o => ?_)
  subst hx
  show J x (wC b) (FinC x (wC b) (PV K) (0, 0)) 0 [(0, .ref (wB (wC b) + v0))] [] (0, 0) σ
  refine J_aload_n o 0 d_X1_forget_0 rfl ?_
  refine J_iconst (v := 0) o d_X1_forget_1 iconst_0 ?_
  refine J_put o fl_RX1_20 la_1 (S_kd hv0) (Nat.zero_le _) (S_hi hv0) rfl rfl rfl rfl d_X1_forget_2 ?_
  refine J_nS (fun s2 es2 => ?_)
  replace h := h s2 es2
  refine J_aload_n o 0 d_X1_forget_5 rfl ?_
  refine J_iconst (v := 0) o d_X1_forget_6 iconst_0 ?_
  refine J_put o fl_RX1_24 la_1 (S_kd hv0) (Nat.zero_le _) (S_hi hv0) rfl rfl rfl rfl d_X1_forget_7 ?_
  refine J_nS (fun s7 es7 => ?_)
  replace h := h s7 es7
  exact J_vret o d_X1_forget_10 ⟨rfl, h⟩
theorem d_X4_read_0 : decode cX4_read 0 = .ok (.iload_n 1, 1) := by decide +kernel
theorem d_X4_read_1 : decode cX4_read 1 = .ok (.ifCond .lt 15, 3) := by decide +kernel
theorem d_X4_read_4 : decode cX4_read 4 = .ok (.iload_n 1, 1) := by decide +kernel
theorem d_X4_read_5 : decode cX4_read 5 = .ok (.aload_n 0, 1) := by decide +kernel
theorem d_X4_read_6 : decode cX4_read 6 = .ok (.arraylength, 1) := by decide +kernel
theorem d_X4_read_7 : decode cX4_read 7 = .ok (.if_icmp .ge 9, 3) := by decide +kernel
theorem d_X4_read_10 : decode cX4_read 10 = .ok (.aload_n 0, 1) := by decide +kernel
theorem d_X4_read_11 : decode cX4_read 11 = .ok (.iload_n 1, 1) := by decide +kernel
theorem d_X4_read_12 : decode cX4_read 12 = .ok (.iaload, 1) := by decide +kernel
theorem d_X4_read_13 : decode cX4_read 13 = .ok (.goto 4, 3) := by decide +kernel
theorem d_X4_read_16 : decode cX4_read 16 = .ok (.iconst (-1), 1) := by decide +kernel
theorem d_X4_read_17 : decode cX4_read 17 = .ok (.ireturn, 1) := by decide +kernel
abbrev rm_X4_read : Room := { frames := 0, cells := 0, slots := 0, locals := 0 }
set_option maxHeartbeats 4000000 in
set_option maxRecDepth 20000 in
theorem w_X4_read (l : Launch) (b : Wy) {v0 : Nat} {v1 : Int32} {σ : Sg} {K : Int32 → Sg → Prop} (hv0 : IsA (wC b) v0) (h : m_X4_read v0 v1 σ K) : Ct l (wC b) yX4_read cX4_read 2 (some .int) rm_X4_read [.ref (wB (wC b) + v0), .int v1] σ (PI K) := by
  unfold m_X4_read at h
  refine Ct.of (own := RX4) (by decide +kernel) rfl (Nat.le_of_ble_eq_true rfl) (fun x hx o => ?_)
  subst hx
  show J x (wC b) (FinC x (wC b) (PI K) (0, 0)) 0 [(0, .ref (wB (wC b) + v0)), (1, .int v1)] [] (0, 0) σ
  refine J_iload_n o 1 d_X4_read_0 rfl ?_
  refine J_if_lt o 16 d_X4_read_1 rfl (fun c1 => ?_) (fun c1 => ?_)
  · replace h := h.1 c1
    refine J_iconst (v := (-1)) o d_X4_read_16 iconst_m1 ?_
    exact J_iret o d_X4_read_17 ⟨_, rfl, h⟩
  · replace h := h.2 c1
    refine J_iload_n o 1 d_X4_read_4 rfl ?_
    refine J_aload_n o 0 d_X4_read_5 rfl ?_
    refine J_alenL o hv0 rfl d_X4_read_6 ?_
    refine J_icmp_ge o 16 d_X4_read_7 rfl (fun c7 => ?_) (fun c7 => ?_)
    · replace h := h.1 c7
      refine J_iconst (v := (-1)) o d_X4_read_16 iconst_m1 ?_
      exact J_iret o d_X4_read_17 ⟨_, rfl, h⟩
    · replace h := h.2 c7
      refine J_aload_n o 0 d_X4_read_10 rfl ?_
      refine J_iload_n o 1 d_X4_read_11 rfl ?_
      have b12 := h.1
      replace h := h.2
      refine J_iald o hv0 (vpc rfl b12) d_X4_read_12 ?_
      refine J_goto o 17 d_X4_read_13 rfl ?_
      exact J_iret o d_X4_read_17 ⟨_, rfl, h⟩
theorem d_X3_xOf_0 : decode cX3_xOf 0 = .ok (.aload_n 0, 1) := by decide +kernel
theorem d_X3_xOf_1 : decode cX3_xOf 1 = .ok (.getfield 9, 3) := by decide +kernel
theorem d_X3_xOf_4 : decode cX3_xOf 4 = .ok (.ifCond .le 12, 3) := by decide +kernel
theorem d_X3_xOf_7 : decode cX3_xOf 7 = .ok (.iload_n 1, 1) := by decide +kernel
theorem d_X3_xOf_8 : decode cX3_xOf 8 = .ok (.aload_n 0, 1) := by decide +kernel
theorem d_X3_xOf_9 : decode cX3_xOf 9 = .ok (.getfield 9, 3) := by decide +kernel
theorem d_X3_xOf_12 : decode cX3_xOf 12 = .ok (.irem, 1) := by decide +kernel
theorem d_X3_xOf_13 : decode cX3_xOf 13 = .ok (.goto 4, 3) := by decide +kernel
theorem d_X3_xOf_16 : decode cX3_xOf 16 = .ok (.iconst 0, 1) := by decide +kernel
theorem d_X3_xOf_17 : decode cX3_xOf 17 = .ok (.ireturn, 1) := by decide +kernel
abbrev rm_X3_xOf : Room := { frames := 0, cells := 0, slots := 0, locals := 0 }
set_option maxHeartbeats 4000000 in
set_option maxRecDepth 20000 in
theorem w_X3_xOf (l : Launch) (b : Wy) {v0 : Nat} {v1 : Int32} {σ : Sg} {K : Int32 → Sg → Prop} (hv0 : IsW v0) (h : m_X3_xOf v0 v1 σ K) : Ct l (wC b) yX3_xOf cX3_xOf 2 (some .int) rm_X3_xOf [.ref (wB (wC b) + v0), .int v1] σ (PI K) := by
  unfold m_X3_xOf at h
  refine Ct.of (own := RX3) (by decide +kernel) rfl (Nat.le_of_ble_eq_true rfl) (fun x hx o => ?_)
  subst hx
  show J x (wC b) (FinC x (wC b) (PI K) (0, 0)) 0 [(0, .ref (wB (wC b) + v0)), (1, .int v1)] [] (0, 0) σ
  refine J_aload_n o 0 d_X3_xOf_0 rfl ?_
  refine J_getI o fl_RX3_9 (W_kd hv0) (Nat.zero_le _) (W_hi hv0) rfl d_X3_xOf_1 ?_
  refine J_if_le o 16 d_X3_xOf_4 rfl (fun c4 => ?_) (fun c4 => ?_)
  · replace h := h.1 c4
    refine J_iconst (v := 0) o d_X3_xOf_16 iconst_0 ?_
    exact J_iret o d_X3_xOf_17 ⟨_, rfl, h⟩
  · replace h := h.2 c4
    refine J_iload_n o 1 d_X3_xOf_7 rfl ?_
    refine J_aload_n o 0 d_X3_xOf_8 rfl ?_
    refine J_getI o fl_RX3_9 (W_kd hv0) (Nat.zero_le _) (W_hi hv0) rfl d_X3_xOf_9 ?_
    have z12 := h.1
    replace h := h.2
    refine J_irem o d_X3_xOf_12 z12 ?_
    refine J_goto o 17 d_X3_xOf_13 rfl ?_
    exact J_iret o d_X3_xOf_17 ⟨_, rfl, h⟩
theorem d_X3_yOf_0 : decode cX3_yOf 0 = .ok (.aload_n 0, 1) := by decide +kernel
theorem d_X3_yOf_1 : decode cX3_yOf 1 = .ok (.getfield 9, 3) := by decide +kernel
theorem d_X3_yOf_4 : decode cX3_yOf 4 = .ok (.ifCond .le 12, 3) := by decide +kernel
theorem d_X3_yOf_7 : decode cX3_yOf 7 = .ok (.iload_n 1, 1) := by decide +kernel
theorem d_X3_yOf_8 : decode cX3_yOf 8 = .ok (.aload_n 0, 1) := by decide +kernel
theorem d_X3_yOf_9 : decode cX3_yOf 9 = .ok (.getfield 9, 3) := by decide +kernel
theorem d_X3_yOf_12 : decode cX3_yOf 12 = .ok (.idiv, 1) := by decide +kernel
theorem d_X3_yOf_13 : decode cX3_yOf 13 = .ok (.goto 4, 3) := by decide +kernel
theorem d_X3_yOf_16 : decode cX3_yOf 16 = .ok (.iconst 0, 1) := by decide +kernel
theorem d_X3_yOf_17 : decode cX3_yOf 17 = .ok (.ireturn, 1) := by decide +kernel
abbrev rm_X3_yOf : Room := { frames := 0, cells := 0, slots := 0, locals := 0 }
set_option maxHeartbeats 4000000 in
set_option maxRecDepth 20000 in
theorem w_X3_yOf (l : Launch) (b : Wy) {v0 : Nat} {v1 : Int32} {σ : Sg} {K : Int32 → Sg → Prop} (hv0 : IsW v0) (h : m_X3_yOf v0 v1 σ K) : Ct l (wC b) yX3_yOf cX3_yOf 2 (some .int) rm_X3_yOf [.ref (wB (wC b) + v0), .int v1] σ (PI K) := by
  unfold m_X3_yOf at h
  refine Ct.of (own := RX3) (by decide +kernel) rfl (Nat.le_of_ble_eq_true rfl) (fun x hx o => ?_)
  subst hx
  show J x (wC b) (FinC x (wC b) (PI K) (0, 0)) 0 [(0, .ref (wB (wC b) + v0)), (1, .int v1)] [] (0, 0) σ
  refine J_aload_n o 0 d_X3_yOf_0 rfl ?_
  refine J_getI o fl_RX3_9 (W_kd hv0) (Nat.zero_le _) (W_hi hv0) rfl d_X3_yOf_1 ?_
  refine J_if_le o 16 d_X3_yOf_4 rfl (fun c4 => ?_) (fun c4 => ?_)
  · replace h := h.1 c4
    refine J_iconst (v := 0) o d_X3_yOf_16 iconst_0 ?_
    exact J_iret o d_X3_yOf_17 ⟨_, rfl, h⟩
  · replace h := h.2 c4
    refine J_iload_n o 1 d_X3_yOf_7 rfl ?_
    refine J_aload_n o 0 d_X3_yOf_8 rfl ?_
    refine J_getI o fl_RX3_9 (W_kd hv0) (Nat.zero_le _) (W_hi hv0) rfl d_X3_yOf_9 ?_
    have z12 := h.1
    replace h := h.2
    refine J_idiv o d_X3_yOf_12 z12 ?_
    refine J_goto o 17 d_X3_yOf_13 rfl ?_
    exact J_iret o d_X3_yOf_17 ⟨_, rfl, h⟩
theorem d_X3_isOnSea_0 : decode cX3_isOnSea 0 = .ok (.iload_n 1, 1) := by decide +kernel
theorem d_X3_isOnSea_1 : decode cX3_isOnSea 1 = .ok (.ifCond .lt 27, 3) := by decide +kernel
theorem d_X3_isOnSea_4 : decode cX3_isOnSea 4 = .ok (.iload_n 1, 1) := by decide +kernel
theorem d_X3_isOnSea_5 : decode cX3_isOnSea 5 = .ok (.aload_n 0, 1) := by decide +kernel
theorem d_X3_isOnSea_6 : decode cX3_isOnSea 6 = .ok (.getfield 9, 3) := by decide +kernel
theorem d_X3_isOnSea_9 : decode cX3_isOnSea 9 = .ok (.if_icmp .ge 19, 3) := by decide +kernel
theorem d_X3_isOnSea_12 : decode cX3_isOnSea 12 = .ok (.iload_n 2, 1) := by decide +kernel
theorem d_X3_isOnSea_13 : decode cX3_isOnSea 13 = .ok (.ifCond .lt 15, 3) := by decide +kernel
theorem d_X3_isOnSea_16 : decode cX3_isOnSea 16 = .ok (.iload_n 2, 1) := by decide +kernel
theorem d_X3_isOnSea_17 : decode cX3_isOnSea 17 = .ok (.aload_n 0, 1) := by decide +kernel
theorem d_X3_isOnSea_18 : decode cX3_isOnSea 18 = .ok (.getfield 15, 3) := by decide +kernel
theorem d_X3_isOnSea_21 : decode cX3_isOnSea 21 = .ok (.if_icmp .ge 7, 3) := by decide +kernel
theorem d_X3_isOnSea_24 : decode cX3_isOnSea 24 = .ok (.iconst 1, 1) := by decide +kernel
theorem d_X3_isOnSea_25 : decode cX3_isOnSea 25 = .ok (.goto 4, 3) := by decide +kernel
theorem d_X3_isOnSea_28 : decode cX3_isOnSea 28 = .ok (.iconst 0, 1) := by decide +kernel
theorem d_X3_isOnSea_29 : decode cX3_isOnSea 29 = .ok (.ireturn, 1) := by decide +kernel
abbrev rm_X3_isOnSea : Room := { frames := 0, cells := 0, slots := 0, locals := 0 }
set_option maxHeartbeats 4000000 in
set_option maxRecDepth 20000 in
theorem w_X3_isOnSea (l : Launch) (b : Wy) {v0 : Nat} {v1 : Int32} {v2 : Int32} {σ : Sg} {K : Int32 → Sg → Prop} (hv0 : IsW v0) (h : m_X3_isOnSea v0 v1 v2 σ K) : Ct l (wC b) yX3_isOnSea cX3_isOnSea 3 (some .boolean) rm_X3_isOnSea [.ref (wB (wC b) + v0), .int v1, .int v2] σ (PZ K) := by
  unfold m_X3_isOnSea at h
  refine Ct.of (own := RX3) (by decide +kernel) rfl (Nat.le_of_ble_eq_true rfl) (fun x hx o => ?_)
  subst hx
  show J x (wC b) (FinC x (wC b) (PZ K) (0, 0)) 0 [(0, .ref (wB (wC b) + v0)), (1, .int v1), (2, .int v2)] [] (0, 0) σ
  refine J_iload_n o 1 d_X3_isOnSea_0 rfl ?_
  refine J_if_lt o 28 d_X3_isOnSea_1 rfl (fun c1 => ?_) (fun c1 => ?_)
  · replace h := h.1 c1
    refine J_iconst (v := 0) o d_X3_isOnSea_28 iconst_0 ?_
    exact J_zret o (Or.inl rfl) d_X3_isOnSea_29 ⟨_, rfl, (Or.inl rfl), h⟩
  · replace h := h.2 c1
    refine J_iload_n o 1 d_X3_isOnSea_4 rfl ?_
    refine J_aload_n o 0 d_X3_isOnSea_5 rfl ?_
    refine J_getI o fl_RX3_9 (W_kd hv0) (Nat.zero_le _) (W_hi hv0) rfl d_X3_isOnSea_6 ?_
    refine J_icmp_ge o 28 d_X3_isOnSea_9 rfl (fun c9 => ?_) (fun c9 => ?_)
    · replace h := h.1 c9
      refine J_iconst (v := 0) o d_X3_isOnSea_28 iconst_0 ?_
      exact J_zret o (Or.inl rfl) d_X3_isOnSea_29 ⟨_, rfl, (Or.inl rfl), h⟩
    · replace h := h.2 c9
      refine J_iload_n o 2 d_X3_isOnSea_12 rfl ?_
      refine J_if_lt o 28 d_X3_isOnSea_13 rfl (fun c13 => ?_) (fun c13 => ?_)
      · replace h := h.1 c13
        refine J_iconst (v := 0) o d_X3_isOnSea_28 iconst_0 ?_
        exact J_zret o (Or.inl rfl) d_X3_isOnSea_29 ⟨_, rfl, (Or.inl rfl), h⟩
      · replace h := h.2 c13
        refine J_iload_n o 2 d_X3_isOnSea_16 rfl ?_
        refine J_aload_n o 0 d_X3_isOnSea_17 rfl ?_
        refine J_getI o fl_RX3_15 (W_kd hv0) (Nat.zero_le _) (W_hi hv0) rfl d_X3_isOnSea_18 ?_
        refine J_icmp_ge o 28 d_X3_isOnSea_21 rfl (fun c21 => ?_) (fun c21 => ?_)
        · replace h := h.1 c21
          refine J_iconst (v := 0) o d_X3_isOnSea_28 iconst_0 ?_
          exact J_zret o (Or.inl rfl) d_X3_isOnSea_29 ⟨_, rfl, (Or.inl rfl), h⟩
        · replace h := h.2 c21
          refine J_iconst (v := 1) o d_X3_isOnSea_24 iconst_1 ?_
          refine J_goto o 29 d_X3_isOnSea_25 rfl ?_
          exact J_zret o (Or.inr rfl) d_X3_isOnSea_29 ⟨_, rfl, (Or.inr rfl), h⟩
theorem d_X3_stepFrom_0 : decode cX3_stepFrom 0 = .ok (.iload_n 2, 1) := by decide +kernel
theorem d_X3_stepFrom_1 : decode cX3_stepFrom 1 = .ok (.iconst 1, 1) := by decide +kernel
theorem d_X3_stepFrom_2 : decode cX3_stepFrom 2 = .ok (.if_icmp .lt 9, 3) := by decide +kernel
theorem d_X3_stepFrom_5 : decode cX3_stepFrom 5 = .ok (.iload_n 2, 1) := by decide +kernel
theorem d_X3_stepFrom_6 : decode cX3_stepFrom 6 = .ok (.bipush 9, 2) := by decide +kernel
theorem d_X3_stepFrom_8 : decode cX3_stepFrom 8 = .ok (.if_icmp .lt 5, 3) := by decide +kernel
theorem d_X3_stepFrom_11 : decode cX3_stepFrom 11 = .ok (.iconst (-1), 1) := by decide +kernel
theorem d_X3_stepFrom_12 : decode cX3_stepFrom 12 = .ok (.ireturn, 1) := by decide +kernel
theorem d_X3_stepFrom_13 : decode cX3_stepFrom 13 = .ok (.aload_n 0, 1) := by decide +kernel
theorem d_X3_stepFrom_14 : decode cX3_stepFrom 14 = .ok (.iload_n 1, 1) := by decide +kernel
theorem d_X3_stepFrom_15 : decode cX3_stepFrom 15 = .ok (.invokevirtual 100, 3) := by decide +kernel
theorem d_X3_stepFrom_18 : decode cX3_stepFrom 18 = .ok (.getstatic 104, 3) := by decide +kernel
theorem d_X3_stepFrom_21 : decode cX3_stepFrom 21 = .ok (.iload_n 2, 1) := by decide +kernel
theorem d_X3_stepFrom_22 : decode cX3_stepFrom 22 = .ok (.iaload, 1) := by decide +kernel
theorem d_X3_stepFrom_23 : decode cX3_stepFrom 23 = .ok (.iadd, 1) := by decide +kernel
theorem d_X3_stepFrom_24 : decode cX3_stepFrom 24 = .ok (.istore_n 3, 1) := by decide +kernel
theorem d_X3_stepFrom_25 : decode cX3_stepFrom 25 = .ok (.aload_n 0, 1) := by decide +kernel
theorem d_X3_stepFrom_26 : decode cX3_stepFrom 26 = .ok (.iload_n 1, 1) := by decide +kernel
theorem d_X3_stepFrom_27 : decode cX3_stepFrom 27 = .ok (.invokevirtual 107, 3) := by decide +kernel
theorem d_X3_stepFrom_30 : decode cX3_stepFrom 30 = .ok (.getstatic 110, 3) := by decide +kernel
theorem d_X3_stepFrom_33 : decode cX3_stepFrom 33 = .ok (.iload_n 2, 1) := by decide +kernel
theorem d_X3_stepFrom_34 : decode cX3_stepFrom 34 = .ok (.iaload, 1) := by decide +kernel
theorem d_X3_stepFrom_35 : decode cX3_stepFrom 35 = .ok (.iadd, 1) := by decide +kernel
theorem d_X3_stepFrom_36 : decode cX3_stepFrom 36 = .ok (.istore 4, 2) := by decide +kernel
theorem d_X3_stepFrom_38 : decode cX3_stepFrom 38 = .ok (.aload_n 0, 1) := by decide +kernel
theorem d_X3_stepFrom_39 : decode cX3_stepFrom 39 = .ok (.iload_n 3, 1) := by decide +kernel
theorem d_X3_stepFrom_40 : decode cX3_stepFrom 40 = .ok (.iload 4, 2) := by decide +kernel
theorem d_X3_stepFrom_42 : decode cX3_stepFrom 42 = .ok (.invokevirtual 73, 3) := by decide +kernel
theorem d_X3_stepFrom_45 : decode cX3_stepFrom 45 = .ok (.istore 5, 2) := by decide +kernel
theorem d_X3_stepFrom_47 : decode cX3_stepFrom 47 = .ok (.aload_n 0, 1) := by decide +kernel
theorem d_X3_stepFrom_48 : decode cX3_stepFrom 48 = .ok (.iload_n 3, 1) := by decide +kernel
theorem d_X3_stepFrom_49 : decode cX3_stepFrom 49 = .ok (.iload 4, 2) := by decide +kernel
theorem d_X3_stepFrom_51 : decode cX3_stepFrom 51 = .ok (.invokevirtual 113, 3) := by decide +kernel
theorem d_X3_stepFrom_54 : decode cX3_stepFrom 54 = .ok (.ifCond .eq 20, 3) := by decide +kernel
theorem d_X3_stepFrom_57 : decode cX3_stepFrom 57 = .ok (.aload_n 0, 1) := by decide +kernel
theorem d_X3_stepFrom_58 : decode cX3_stepFrom 58 = .ok (.getfield 49, 3) := by decide +kernel
theorem d_X3_stepFrom_61 : decode cX3_stepFrom 61 = .ok (.iload 5, 2) := by decide +kernel
theorem d_X3_stepFrom_63 : decode cX3_stepFrom 63 = .ok (.invokestatic 117, 3) := by decide +kernel
theorem d_X3_stepFrom_66 : decode cX3_stepFrom 66 = .ok (.ifCond .ne 8, 3) := by decide +kernel
theorem d_X3_stepFrom_69 : decode cX3_stepFrom 69 = .ok (.iload 5, 2) := by decide +kernel
theorem d_X3_stepFrom_71 : decode cX3_stepFrom 71 = .ok (.goto 4, 3) := by decide +kernel
theorem d_X3_stepFrom_74 : decode cX3_stepFrom 74 = .ok (.iconst (-1), 1) := by decide +kernel
theorem d_X3_stepFrom_75 : decode cX3_stepFrom 75 = .ok (.ireturn, 1) := by decide +kernel
abbrev rm_X3_stepFrom : Room := { frames := 1, cells := 0, slots := 0, locals := 22 }
set_option maxHeartbeats 4000000 in
set_option maxRecDepth 20000 in
theorem w_X3_stepFrom (l : Launch) (b : Wy) {v0 : Nat} {v1 : Int32} {v2 : Int32} {σ : Sg} {K : Int32 → Sg → Prop} (hv0 : IsW v0) (h : m_X3_stepFrom v0 v1 v2 σ K) : Ct l (wC b) yX3_stepFrom cX3_stepFrom 6 (some .int) rm_X3_stepFrom [.ref (wB (wC b) + v0), .int v1, .int v2] σ (PI K) := by
  unfold m_X3_stepFrom at h
  refine Ct.of (own := RX3) (by decide +kernel) rfl (Nat.le_of_ble_eq_true rfl) (fun x hx o => ?_)
  subst hx
  show J x (wC b) (FinC x (wC b) (PI K) (0, 0)) 0 [(0, .ref (wB (wC b) + v0)), (1, .int v1), (2, .int v2)] [] (0, 0) σ
  refine J_iload_n o 2 d_X3_stepFrom_0 rfl ?_
  refine J_iconst (v := 1) o d_X3_stepFrom_1 iconst_1 ?_
  refine J_icmp_lt o 11 d_X3_stepFrom_2 rfl (fun c2 => ?_) (fun c2 => ?_)
  · replace h := h.1 c2
    refine J_iconst (v := (-1)) o d_X3_stepFrom_11 iconst_m1 ?_
    exact J_iret o d_X3_stepFrom_12 ⟨_, rfl, h⟩
  · replace h := h.2 c2
    refine J_iload_n o 2 d_X3_stepFrom_5 rfl ?_
    refine J_bipush (v := 9) o d_X3_stepFrom_6 bipush_9 ?_
    refine J_icmp_lt o 13 d_X3_stepFrom_8 rfl (fun c8 => ?_) (fun c8 => ?_)
    · replace h := h.1 c8
      refine J_aload_n o 0 d_X3_stepFrom_13 rfl ?_
      refine J_iload_n o 1 d_X3_stepFrom_14 rfl ?_
      refine J_callV (k := v0) (c := 3) o [.int v1] (W_kd hv0) (by decide) (Nat.zero_le _) (W_hi hv0) mth_X3_xOf iv_X3_xOf ml_RX3_100 ⟨Nat.le_of_ble_eq_true rfl, Nat.le_of_ble_eq_true rfl⟩ rfl rfl (Nat.le_of_ble_eq_true rfl) ⟨Nat.le_refl _, Nat.le_refl _⟩ d_X3_stepFrom_15 (w_X3_xOf (xL x) b hv0 h) (aI (fun r15 s15 h => ?_))
      refine J_east o (List.mem_of_getElem? (i := 1) rfl) d_X3_stepFrom_18 (fun t18 hT18 => ?_)
      refine J_iload_n o 2 d_X3_stepFrom_21 rfl ?_
      have b22 := h.1
      replace h := h.2
      refine J_tab o hT18 b22 d_X3_stepFrom_22 ?_
      refine J_iadd o d_X3_stepFrom_23 ?_
      refine J_top (fun l3_24 el3_24 => ?_)
      replace h := h l3_24 el3_24
      refine J_istore_n (lv' := [(3, .int l3_24), (0, .ref (wB (wC b) + v0)), (1, .int v1), (2, .int v2)]) o d_X3_stepFrom_24 (by decide) rfl ?_
      refine J_aload_n o 1 d_X3_stepFrom_25 rfl ?_
      refine J_iload_n o 2 d_X3_stepFrom_26 rfl ?_
      refine J_callV (k := v0) (c := 3) o [.int v1] (W_kd hv0) (by decide) (Nat.zero_le _) (W_hi hv0) mth_X3_yOf iv_X3_yOf ml_RX3_107 ⟨Nat.le_of_ble_eq_true rfl, Nat.le_of_ble_eq_true rfl⟩ rfl rfl (Nat.le_of_ble_eq_true rfl) ⟨Nat.le_refl _, Nat.le_refl _⟩ d_X3_stepFrom_27 (w_X3_yOf (xL x) b hv0 h) (aI (fun r27 s27 h => ?_))
      refine J_north o (List.mem_of_getElem? (i := 2) rfl) d_X3_stepFrom_30 (fun t30 hT30 => ?_)
      refine J_iload_n o 3 d_X3_stepFrom_33 rfl ?_
      have b34 := h.1
      replace h := h.2
      refine J_tab o hT30 b34 d_X3_stepFrom_34 ?_
      refine J_iadd o d_X3_stepFrom_35 ?_
      refine J_top (fun l4_36 el4_36 => ?_)
      replace h := h l4_36 el4_36
      refine J_istore (lv' := [(4, .int l4_36), (3, .int l3_24), (0, .ref (wB (wC b) + v0)), (1, .int v1), (2, .int v2)]) o d_X3_stepFrom_36 (by decide) rfl ?_
      refine J_aload_n o 2 d_X3_stepFrom_38 rfl ?_
      refine J_iload_n o 1 d_X3_stepFrom_39 rfl ?_
      refine J_iload o 0 d_X3_stepFrom_40 rfl ?_
      refine J_callV (k := v0) (c := 3) o [.int l3_24, .int l4_36] (W_kd hv0) (by decide) (Nat.zero_le _) (W_hi hv0) mth_X3_cellAt iv_X3_cellAt ml_RX3_73 ⟨Nat.le_of_ble_eq_true rfl, Nat.le_of_ble_eq_true rfl⟩ rfl rfl (Nat.le_of_ble_eq_true rfl) ⟨Nat.le_refl _, Nat.le_refl _⟩ d_X3_stepFrom_42 (w_X3_cellAt (xL x) b hv0 h) (aI (fun r42 s42 h => ?_))
      refine J_istore (lv' := [(5, .int r42), (4, .int l4_36), (3, .int l3_24), (0, .ref (wB (wC b) + v0)), (1, .int v1), (2, .int v2)]) o d_X3_stepFrom_45 (by decide) rfl ?_
      refine J_aload_n o 3 d_X3_stepFrom_47 rfl ?_
      refine J_iload_n o 2 d_X3_stepFrom_48 rfl ?_
      refine J_iload o 1 d_X3_stepFrom_49 rfl ?_
      refine J_callV (k := v0) (c := 3) o [.int l3_24, .int l4_36] (W_kd hv0) (by decide) (Nat.zero_le _) (W_hi hv0) mth_X3_isOnSea iv_X3_isOnSea ml_RX3_113 ⟨Nat.le_of_ble_eq_true rfl, Nat.le_of_ble_eq_true rfl⟩ rfl rfl (Nat.le_of_ble_eq_true rfl) ⟨Nat.le_refl _, Nat.le_refl _⟩ d_X3_stepFrom_51 (w_X3_isOnSea (xL x) b hv0 h) (aZ (fun r51 s51 hzr51 h => ?_))
      refine J_if_eq o 74 d_X3_stepFrom_54 rfl (fun c54 => ?_) (fun c54 => ?_)
      · replace h := h.1 c54
        refine J_iconst (v := (-1)) o d_X3_stepFrom_74 iconst_m1 ?_
        exact J_iret o d_X3_stepFrom_75 ⟨_, rfl, h⟩
      · replace h := h.2 c54
        refine J_aload_n o 3 d_X3_stepFrom_57 rfl ?_
        refine J_getR (t := (v0 + 3)) o fl_RX3_49 (W_kd hv0) (Nat.zero_le _) (W_hi hv0) rfl (W_t hv0 12 (by decide)) d_X3_stepFrom_58 ?_
        refine J_iload o 0 d_X3_stepFrom_61 rfl ?_
        refine J_callSN o [.ref (wB (wC b) + (v0 + 3)), .int r42] mth_X4_read st_X4_read mn_RX3_117 ⟨Nat.le_of_ble_eq_true rfl, Nat.le_of_ble_eq_true rfl⟩ rfl rfl (Nat.le_of_ble_eq_true rfl) ⟨Nat.le_refl _, Nat.le_refl _⟩ d_X3_stepFrom_63 (w_X4_read (xL x) b (W_A3 hv0) h) (aI (fun r63 s63 h => ?_))
        refine J_if_ne o 74 d_X3_stepFrom_66 rfl (fun c66 => ?_) (fun c66 => ?_)
        · replace h := h.1 c66
          refine J_iconst (v := (-1)) o d_X3_stepFrom_74 iconst_m1 ?_
          exact J_iret o d_X3_stepFrom_75 ⟨_, rfl, h⟩
        · replace h := h.2 c66
          refine J_iload o 0 d_X3_stepFrom_69 rfl ?_
          refine J_goto o 75 d_X3_stepFrom_71 rfl ?_
          exact J_iret o d_X3_stepFrom_75 ⟨_, rfl, h⟩
    · replace h := h.2 c8
      refine J_iconst (v := (-1)) o d_X3_stepFrom_11 iconst_m1 ?_
      exact J_iret o d_X3_stepFrom_12 ⟨_, rfl, h⟩
theorem d_X3_carriedFrom_0 : decode cX3_carriedFrom 0 = .ok (.aload_n 0, 1) := by decide +kernel
theorem d_X3_carriedFrom_1 : decode cX3_carriedFrom 1 = .ok (.iload_n 1, 1) := by decide +kernel
theorem d_X3_carriedFrom_2 : decode cX3_carriedFrom 2 = .ok (.iload_n 2, 1) := by decide +kernel
theorem d_X3_carriedFrom_3 : decode cX3_carriedFrom 3 = .ok (.invokevirtual 121, 3) := by decide +kernel
theorem d_X3_carriedFrom_6 : decode cX3_carriedFrom 6 = .ok (.istore_n 3, 1) := by decide +kernel
theorem d_X3_carriedFrom_7 : decode cX3_carriedFrom 7 = .ok (.iload_n 3, 1) := by decide +kernel
theorem d_X3_carriedFrom_8 : decode cX3_carriedFrom 8 = .ok (.iconst (-1), 1) := by decide +kernel
theorem d_X3_carriedFrom_9 : decode cX3_carriedFrom 9 = .ok (.if_icmp .ne 7, 3) := by decide +kernel
theorem d_X3_carriedFrom_12 : decode cX3_carriedFrom 12 = .ok (.iload_n 1, 1) := by decide +kernel
theorem d_X3_carriedFrom_13 : decode cX3_carriedFrom 13 = .ok (.goto 4, 3) := by decide +kernel
theorem d_X3_carriedFrom_16 : decode cX3_carriedFrom 16 = .ok (.iload_n 3, 1) := by decide +kernel
theorem d_X3_carriedFrom_17 : decode cX3_carriedFrom 17 = .ok (.ireturn, 1) := by decide +kernel
abbrev rm_X3_carriedFrom : Room := { frames := 2, cells := 0, slots := 0, locals := 47 }
set_option maxHeartbeats 4000000 in
set_option maxRecDepth 20000 in
theorem w_X3_carriedFrom (l : Launch) (b : Wy) {v0 : Nat} {v1 : Int32} {v2 : Int32} {σ : Sg} {K : Int32 → Sg → Prop} (hv0 : IsW v0) (h : m_X3_carriedFrom v0 v1 v2 σ K) : Ct l (wC b) yX3_carriedFrom cX3_carriedFrom 4 (some .int) rm_X3_carriedFrom [.ref (wB (wC b) + v0), .int v1, .int v2] σ (PI K) := by
  unfold m_X3_carriedFrom at h
  refine Ct.of (own := RX3) (by decide +kernel) rfl (Nat.le_of_ble_eq_true rfl) (fun x hx o => ?_)
  subst hx
  show J x (wC b) (FinC x (wC b) (PI K) (0, 0)) 0 [(0, .ref (wB (wC b) + v0)), (1, .int v1), (2, .int v2)] [] (0, 0) σ
  refine J_aload_n o 0 d_X3_carriedFrom_0 rfl ?_
  refine J_iload_n o 1 d_X3_carriedFrom_1 rfl ?_
  refine J_iload_n o 2 d_X3_carriedFrom_2 rfl ?_
  refine J_callV (k := v0) (c := 3) o [.int v1, .int v2] (W_kd hv0) (by decide) (Nat.zero_le _) (W_hi hv0) mth_X3_stepFrom iv_X3_stepFrom ml_RX3_121 ⟨Nat.le_of_ble_eq_true rfl, Nat.le_of_ble_eq_true rfl⟩ rfl rfl (Nat.le_of_ble_eq_true rfl) ⟨Nat.le_refl _, Nat.le_refl _⟩ d_X3_carriedFrom_3 (w_X3_stepFrom (xL x) b hv0 h) (aI (fun r3 s3 h => ?_))
  refine J_istore_n (lv' := [(3, .int r3), (0, .ref (wB (wC b) + v0)), (1, .int v1), (2, .int v2)]) o d_X3_carriedFrom_6 (by decide) rfl ?_
  refine J_iload_n o 0 d_X3_carriedFrom_7 rfl ?_
  refine J_iconst (v := (-1)) o d_X3_carriedFrom_8 iconst_m1 ?_
  refine J_icmp_ne o 16 d_X3_carriedFrom_9 rfl (fun c9 => ?_) (fun c9 => ?_)
  · replace h := h.1 c9
    refine J_iload_n o 0 d_X3_carriedFrom_16 rfl ?_
    exact J_iret o d_X3_carriedFrom_17 ⟨_, rfl, h⟩
  · replace h := h.2 c9
    refine J_iload_n o 2 d_X3_carriedFrom_12 rfl ?_
    refine J_goto o 17 d_X3_carriedFrom_13 rfl ?_
    exact J_iret o d_X3_carriedFrom_17 ⟨_, rfl, h⟩
theorem d_X3_windOf_0 : decode cX3_windOf 0 = .ok (.aload_n 0, 1) := by decide +kernel
theorem d_X3_windOf_1 : decode cX3_windOf 1 = .ok (.getfield 61, 3) := by decide +kernel
theorem d_X3_windOf_4 : decode cX3_windOf 4 = .ok (.iload_n 1, 1) := by decide +kernel
theorem d_X3_windOf_5 : decode cX3_windOf 5 = .ok (.invokestatic 117, 3) := by decide +kernel
theorem d_X3_windOf_8 : decode cX3_windOf 8 = .ok (.istore_n 2, 1) := by decide +kernel
theorem d_X3_windOf_9 : decode cX3_windOf 9 = .ok (.iload_n 2, 1) := by decide +kernel
theorem d_X3_windOf_10 : decode cX3_windOf 10 = .ok (.iconst (-1), 1) := by decide +kernel
theorem d_X3_windOf_11 : decode cX3_windOf 11 = .ok (.if_icmp .eq 5, 3) := by decide +kernel
theorem d_X3_windOf_14 : decode cX3_windOf 14 = .ok (.iload_n 2, 1) := by decide +kernel
theorem d_X3_windOf_15 : decode cX3_windOf 15 = .ok (.ireturn, 1) := by decide +kernel
theorem d_X3_windOf_16 : decode cX3_windOf 16 = .ok (.aload_n 0, 1) := by decide +kernel
theorem d_X3_windOf_17 : decode cX3_windOf 17 = .ok (.getfield 36, 3) := by decide +kernel
theorem d_X3_windOf_20 : decode cX3_windOf 20 = .ok (.ifCond .le 19, 3) := by decide +kernel
theorem d_X3_windOf_23 : decode cX3_windOf 23 = .ok (.aload_n 0, 1) := by decide +kernel
theorem d_X3_windOf_24 : decode cX3_windOf 24 = .ok (.getfield 55, 3) := by decide +kernel
theorem d_X3_windOf_27 : decode cX3_windOf 27 = .ok (.iload_n 1, 1) := by decide +kernel
theorem d_X3_windOf_28 : decode cX3_windOf 28 = .ok (.aload_n 0, 1) := by decide +kernel
theorem d_X3_windOf_29 : decode cX3_windOf 29 = .ok (.getfield 36, 3) := by decide +kernel
theorem d_X3_windOf_32 : decode cX3_windOf 32 = .ok (.irem, 1) := by decide +kernel
theorem d_X3_windOf_33 : decode cX3_windOf 33 = .ok (.invokestatic 117, 3) := by decide +kernel
theorem d_X3_windOf_36 : decode cX3_windOf 36 = .ok (.goto 4, 3) := by decide +kernel
theorem d_X3_windOf_39 : decode cX3_windOf 39 = .ok (.iconst 0, 1) := by decide +kernel
theorem d_X3_windOf_40 : decode cX3_windOf 40 = .ok (.ireturn, 1) := by decide +kernel
abbrev rm_X3_windOf : Room := { frames := 1, cells := 0, slots := 0, locals := 21 }
set_option maxHeartbeats 4000000 in
set_option maxRecDepth 20000 in
theorem w_X3_windOf (l : Launch) (b : Wy) {v0 : Nat} {v1 : Int32} {σ : Sg} {K : Int32 → Sg → Prop} (hv0 : IsW v0) (h : m_X3_windOf v0 v1 σ K) : Ct l (wC b) yX3_windOf cX3_windOf 3 (some .int) rm_X3_windOf [.ref (wB (wC b) + v0), .int v1] σ (PI K) := by
  unfold m_X3_windOf at h
  refine Ct.of (own := RX3) (by decide +kernel) rfl (Nat.le_of_ble_eq_true rfl) (fun x hx o => ?_)
  subst hx
  show J x (wC b) (FinC x (wC b) (PI K) (0, 0)) 0 [(0, .ref (wB (wC b) + v0)), (1, .int v1)] [] (0, 0) σ
  refine J_aload_n o 0 d_X3_windOf_0 rfl ?_
  refine J_getR (t := (v0 + 7)) o fl_RX3_61 (W_kd hv0) (Nat.zero_le _) (W_hi hv0) rfl (W_t hv0 16 (by decide)) d_X3_windOf_1 ?_
  refine J_iload_n o 1 d_X3_windOf_4 rfl ?_
  refine J_callSN o [.ref (wB (wC b) + (v0 + 7)), .int v1] mth_X4_read st_X4_read mn_RX3_117 ⟨Nat.le_of_ble_eq_true rfl, Nat.le_of_ble_eq_true rfl⟩ rfl rfl (Nat.le_of_ble_eq_true rfl) ⟨Nat.le_refl _, Nat.le_refl _⟩ d_X3_windOf_5 (w_X4_read (xL x) b (W_A7 hv0) h) (aI (fun r5 s5 h => ?_))
  refine J_istore_n (lv' := [(2, .int r5), (0, .ref (wB (wC b) + v0)), (1, .int v1)]) o d_X3_windOf_8 (by decide) rfl ?_
  refine J_iload_n o 0 d_X3_windOf_9 rfl ?_
  refine J_iconst (v := (-1)) o d_X3_windOf_10 iconst_m1 ?_
  refine J_icmp_eq o 16 d_X3_windOf_11 rfl (fun c11 => ?_) (fun c11 => ?_)
  · replace h := h.1 c11
    refine J_aload_n o 1 d_X3_windOf_16 rfl ?_
    refine J_getI o fl_RX3_36 (W_kd hv0) (Nat.zero_le _) (W_hi hv0) rfl d_X3_windOf_17 ?_
    refine J_if_le o 39 d_X3_windOf_20 rfl (fun c20 => ?_) (fun c20 => ?_)
    · replace h := h.1 c20
      refine J_iconst (v := 0) o d_X3_windOf_39 iconst_0 ?_
      exact J_iret o d_X3_windOf_40 ⟨_, rfl, h⟩
    · replace h := h.2 c20
      refine J_aload_n o 1 d_X3_windOf_23 rfl ?_
      refine J_getR (t := (v0 + 5)) o fl_RX3_55 (W_kd hv0) (Nat.zero_le _) (W_hi hv0) rfl (W_t hv0 14 (by decide)) d_X3_windOf_24 ?_
      refine J_iload_n o 2 d_X3_windOf_27 rfl ?_
      refine J_aload_n o 1 d_X3_windOf_28 rfl ?_
      refine J_getI o fl_RX3_36 (W_kd hv0) (Nat.zero_le _) (W_hi hv0) rfl d_X3_windOf_29 ?_
      have z32 := h.1
      replace h := h.2
      refine J_irem o d_X3_windOf_32 z32 ?_
      refine J_callSN o [.ref (wB (wC b) + (v0 + 5)), .int (v1 - v1 / (s5 v0 8) * (s5 v0 8))] mth_X4_read st_X4_read mn_RX3_117 ⟨Nat.le_of_ble_eq_true rfl, Nat.le_of_ble_eq_true rfl⟩ rfl rfl (Nat.le_of_ble_eq_true rfl) ⟨Nat.le_refl _, Nat.le_refl _⟩ d_X3_windOf_33 (w_X4_read (xL x) b (W_A5 hv0) h) (aI (fun r33 s33 h => ?_))
      refine J_goto o 40 d_X3_windOf_36 rfl ?_
      exact J_iret o d_X3_windOf_40 ⟨_, rfl, h⟩
  · replace h := h.2 c11
    refine J_iload_n o 0 d_X3_windOf_14 rfl ?_
    exact J_iret o d_X3_windOf_15 ⟨_, rfl, h⟩
theorem d_X3_drifterBehind_0 : decode cX3_drifterBehind 0 = .ok (.aload_n 0, 1) := by decide +kernel
theorem d_X3_drifterBehind_1 : decode cX3_drifterBehind 1 = .ok (.iload_n 1, 1) := by decide +kernel
theorem d_X3_drifterBehind_2 : decode cX3_drifterBehind 2 = .ok (.aload_n 0, 1) := by decide +kernel
theorem d_X3_drifterBehind_3 : decode cX3_drifterBehind 3 = .ok (.getfield 52, 3) := by decide +kernel
theorem d_X3_drifterBehind_6 : decode cX3_drifterBehind 6 = .ok (.iload_n 1, 1) := by decide +kernel
theorem d_X3_drifterBehind_7 : decode cX3_drifterBehind 7 = .ok (.invokestatic 117, 3) := by decide +kernel
theorem d_X3_drifterBehind_10 : decode cX3_drifterBehind 10 = .ok (.invokevirtual 124, 3) := by decide +kernel
theorem d_X3_drifterBehind_13 : decode cX3_drifterBehind 13 = .ok (.istore_n 3, 1) := by decide +kernel
theorem d_X3_drifterBehind_14 : decode cX3_drifterBehind 14 = .ok (.aload_n 0, 1) := by decide +kernel
theorem d_X3_drifterBehind_15 : decode cX3_drifterBehind 15 = .ok (.getfield 24, 3) := by decide +kernel
theorem d_X3_drifterBehind_18 : decode cX3_drifterBehind 18 = .ok (.ifCond .le 18, 3) := by decide +kernel
theorem d_X3_drifterBehind_21 : decode cX3_drifterBehind 21 = .ok (.iload_n 2, 1) := by decide +kernel
theorem d_X3_drifterBehind_22 : decode cX3_drifterBehind 22 = .ok (.iconst 1, 1) := by decide +kernel
theorem d_X3_drifterBehind_23 : decode cX3_drifterBehind 23 = .ok (.iadd, 1) := by decide +kernel
theorem d_X3_drifterBehind_24 : decode cX3_drifterBehind 24 = .ok (.aload_n 0, 1) := by decide +kernel
theorem d_X3_drifterBehind_25 : decode cX3_drifterBehind 25 = .ok (.getfield 24, 3) := by decide +kernel
theorem d_X3_drifterBehind_28 : decode cX3_drifterBehind 28 = .ok (.irem, 1) := by decide +kernel
theorem d_X3_drifterBehind_29 : decode cX3_drifterBehind 29 = .ok (.ifCond .ne 7, 3) := by decide +kernel
theorem d_X3_drifterBehind_32 : decode cX3_drifterBehind 32 = .ok (.iconst 1, 1) := by decide +kernel
theorem d_X3_drifterBehind_33 : decode cX3_drifterBehind 33 = .ok (.goto 4, 3) := by decide +kernel
theorem d_X3_drifterBehind_36 : decode cX3_drifterBehind 36 = .ok (.iconst 0, 1) := by decide +kernel
theorem d_X3_drifterBehind_37 : decode cX3_drifterBehind 37 = .ok (.istore 4, 2) := by decide +kernel
theorem d_X3_drifterBehind_39 : decode cX3_drifterBehind 39 = .ok (.iload 4, 2) := by decide +kernel
theorem d_X3_drifterBehind_41 : decode cX3_drifterBehind 41 = .ok (.ifCond .eq 16, 3) := by decide +kernel
theorem d_X3_drifterBehind_44 : decode cX3_drifterBehind 44 = .ok (.aload_n 0, 1) := by decide +kernel
theorem d_X3_drifterBehind_45 : decode cX3_drifterBehind 45 = .ok (.iload_n 3, 1) := by decide +kernel
theorem d_X3_drifterBehind_46 : decode cX3_drifterBehind 46 = .ok (.aload_n 0, 1) := by decide +kernel
theorem d_X3_drifterBehind_47 : decode cX3_drifterBehind 47 = .ok (.iload_n 2, 1) := by decide +kernel
theorem d_X3_drifterBehind_48 : decode cX3_drifterBehind 48 = .ok (.invokevirtual 127, 3) := by decide +kernel
theorem d_X3_drifterBehind_51 : decode cX3_drifterBehind 51 = .ok (.invokevirtual 124, 3) := by decide +kernel
theorem d_X3_drifterBehind_54 : decode cX3_drifterBehind 54 = .ok (.goto 4, 3) := by decide +kernel
theorem d_X3_drifterBehind_57 : decode cX3_drifterBehind 57 = .ok (.iload_n 3, 1) := by decide +kernel
theorem d_X3_drifterBehind_58 : decode cX3_drifterBehind 58 = .ok (.ireturn, 1) := by decide +kernel
abbrev rm_X3_drifterBehind : Room := { frames := 3, cells := 0, slots := 0, locals := 70 }
set_option maxHeartbeats 4000000 in
set_option maxRecDepth 20000 in
theorem c_X3_drifterBehind_37 {x : Cx} {b : Wy} (o : Ok x (wC b) cX3_drifterBehind 5 RX3 (some .int) rm_X3_drifterBehind) {v0 : Nat} {v1 : Int32} {v2 : Int32} {K : Int32 → Sg → Prop}  (hv0 : IsW v0) : ∀ (l3 : Int32) (k0 : Int32) (σ : Sg), m_X3_drifterBehind_j37 v0 v1 v2 K  l3 k0 σ → J x (wC b) (FinC x (wC b) (PI K) (0, 0)) 37 [(0, .ref (wB (wC b) + v0)), (2, .int v2), (3, .int l3)] [.int k0] (0, 0) σ := by
  intro l3 k0 σ  h
  unfold m_X3_drifterBehind_j37 at h
  refine J_istore (lv' := [(4, .int k0), (0, .ref (wB (wC b) + v0)), (2, .int v2), (3, .int l3)]) o d_X3_drifterBehind_37 (by decide) rfl ?_
  refine J_iload o 0 d_X3_drifterBehind_39 rfl ?_
  refine J_if_eq o 57 d_X3_drifterBehind_41 rfl (fun c41 => ?_) (fun c41 => ?_)
  · replace h := h.1 c41
    refine J_iload_n o 3 d_X3_drifterBehind_57 rfl ?_
    exact J_iret o d_X3_drifterBehind_58 ⟨_, rfl, h⟩
  · replace h := h.2 c41
    refine J_aload_n o 1 d_X3_drifterBehind_44 rfl ?_
    refine J_iload_n o 3 d_X3_drifterBehind_45 rfl ?_
    refine J_aload_n o 1 d_X3_drifterBehind_46 rfl ?_
    refine J_iload_n o 2 d_X3_drifterBehind_47 rfl ?_
    refine J_callV (k := v0) (c := 3) o [.int v2] (W_kd hv0) (by decide) (Nat.zero_le _) (W_hi hv0) mth_X3_windOf iv_X3_windOf ml_RX3_127 ⟨Nat.le_of_ble_eq_true rfl, Nat.le_of_ble_eq_true rfl⟩ rfl rfl (Nat.le_of_ble_eq_true rfl) ⟨Nat.le_refl _, Nat.le_refl _⟩ d_X3_drifterBehind_48 (w_X3_windOf (xL x) b hv0 h) (aI (fun r48 s48 h => ?_))
    refine J_callV (k := v0) (c := 3) o [.int l3, .int r48] (W_kd hv0) (by decide) (Nat.zero_le _) (W_hi hv0) mth_X3_carriedFrom iv_X3_carriedFrom ml_RX3_124 ⟨Nat.le_of_ble_eq_true rfl, Nat.le_of_ble_eq_true rfl⟩ rfl rfl (Nat.le_of_ble_eq_true rfl) ⟨Nat.le_refl _, Nat.le_refl _⟩ d_X3_drifterBehind_51 (w_X3_carriedFrom (xL x) b hv0 h) (aI (fun r51 s51 h => ?_))
    refine J_goto o 58 d_X3_drifterBehind_54 rfl ?_
    exact J_iret o d_X3_drifterBehind_58 ⟨_, rfl, h⟩
set_option maxHeartbeats 4000000 in
set_option maxRecDepth 20000 in
theorem w_X3_drifterBehind (l : Launch) (b : Wy) {v0 : Nat} {v1 : Int32} {v2 : Int32} {σ : Sg} {K : Int32 → Sg → Prop} (hv0 : IsW v0) (h : m_X3_drifterBehind v0 v1 v2 σ K) : Ct l (wC b) yX3_drifterBehind cX3_drifterBehind 5 (some .int) rm_X3_drifterBehind [.ref (wB (wC b) + v0), .int v1, .int v2] σ (PI K) := by
  unfold m_X3_drifterBehind at h
  refine Ct.of (own := RX3) (by decide +kernel) rfl (Nat.le_of_ble_eq_true rfl) (fun x hx o => ?_)
  subst hx
  show J x (wC b) (FinC x (wC b) (PI K) (0, 0)) 0 [(0, .ref (wB (wC b) + v0)), (1, .int v1), (2, .int v2)] [] (0, 0) σ
  refine J_aload_n o 0 d_X3_drifterBehind_0 rfl ?_
  refine J_iload_n o 1 d_X3_drifterBehind_1 rfl ?_
  refine J_aload_n o 0 d_X3_drifterBehind_2 rfl ?_
  refine J_getR (t := (v0 + 4)) o fl_RX3_52 (W_kd hv0) (Nat.zero_le _) (W_hi hv0) rfl (W_t hv0 13 (by decide)) d_X3_drifterBehind_3 ?_
  refine J_iload_n o 1 d_X3_drifterBehind_6 rfl ?_
  refine J_callSN o [.ref (wB (wC b) + (v0 + 4)), .int v1] mth_X4_read st_X4_read mn_RX3_117 ⟨Nat.le_of_ble_eq_true rfl, Nat.le_of_ble_eq_true rfl⟩ rfl rfl (Nat.le_of_ble_eq_true rfl) ⟨Nat.le_refl _, Nat.le_refl _⟩ d_X3_drifterBehind_7 (w_X4_read (xL x) b (W_A4 hv0) h) (aI (fun r7 s7 h => ?_))
  refine J_callV (k := v0) (c := 3) o [.int v1, .int r7] (W_kd hv0) (by decide) (Nat.zero_le _) (W_hi hv0) mth_X3_carriedFrom iv_X3_carriedFrom ml_RX3_124 ⟨Nat.le_of_ble_eq_true rfl, Nat.le_of_ble_eq_true rfl⟩ rfl rfl (Nat.le_of_ble_eq_true rfl) ⟨Nat.le_refl _, Nat.le_refl _⟩ d_X3_drifterBehind_10 (w_X3_carriedFrom (xL x) b hv0 h) (aI (fun r10 s10 h => ?_))
  refine J_istore_n (lv' := [(3, .int r10), (0, .ref (wB (wC b) + v0)), (1, .int v1), (2, .int v2)]) o d_X3_drifterBehind_13 (by decide) rfl ?_
  refine J_aload_n o 1 d_X3_drifterBehind_14 rfl ?_
  refine J_getI o fl_RX3_24 (W_kd hv0) (Nat.zero_le _) (W_hi hv0) rfl d_X3_drifterBehind_15 ?_
  refine J_if_le o 36 d_X3_drifterBehind_18 rfl (fun c18 => ?_) (fun c18 => ?_)
  · replace h := h.1 c18
    refine J_iconst (v := 0) o d_X3_drifterBehind_36 iconst_0 ?_
    refine J_sub [1, 3, 0] rfl ?_
    exact c_X3_drifterBehind_37 o hv0  r10 0 s10  h
  · replace h := h.2 c18
    refine J_iload_n o 3 d_X3_drifterBehind_21 rfl ?_
    refine J_iconst (v := 1) o d_X3_drifterBehind_22 iconst_1 ?_
    refine J_iadd o d_X3_drifterBehind_23 ?_
    refine J_aload_n o 1 d_X3_drifterBehind_24 rfl ?_
    refine J_getI o fl_RX3_24 (W_kd hv0) (Nat.zero_le _) (W_hi hv0) rfl d_X3_drifterBehind_25 ?_
    have z28 := h.1
    replace h := h.2
    refine J_irem o d_X3_drifterBehind_28 z28 ?_
    refine J_if_ne o 36 d_X3_drifterBehind_29 rfl (fun c29 => ?_) (fun c29 => ?_)
    · replace h := h.1 c29
      refine J_iconst (v := 0) o d_X3_drifterBehind_36 iconst_0 ?_
      refine J_sub [1, 3, 0] rfl ?_
      exact c_X3_drifterBehind_37 o hv0  r10 0 s10  h
    · replace h := h.2 c29
      refine J_iconst (v := 1) o d_X3_drifterBehind_32 iconst_1 ?_
      refine J_goto o 37 d_X3_drifterBehind_33 rfl ?_
      refine J_sub [1, 3, 0] rfl ?_
      exact c_X3_drifterBehind_37 o hv0  r10 1 s10  h
theorem d_X3_portBehind_0 : decode cX3_portBehind 0 = .ok (.aload_n 0, 1) := by decide +kernel
theorem d_X3_portBehind_1 : decode cX3_portBehind 1 = .ok (.getfield 39, 3) := by decide +kernel
theorem d_X3_portBehind_4 : decode cX3_portBehind 4 = .ok (.ifCond .le 24, 3) := by decide +kernel
theorem d_X3_portBehind_7 : decode cX3_portBehind 7 = .ok (.aload_n 0, 1) := by decide +kernel
theorem d_X3_portBehind_8 : decode cX3_portBehind 8 = .ok (.iload_n 1, 1) := by decide +kernel
theorem d_X3_portBehind_9 : decode cX3_portBehind 9 = .ok (.aload_n 0, 1) := by decide +kernel
theorem d_X3_portBehind_10 : decode cX3_portBehind 10 = .ok (.getfield 58, 3) := by decide +kernel
theorem d_X3_portBehind_13 : decode cX3_portBehind 13 = .ok (.iload_n 2, 1) := by decide +kernel
theorem d_X3_portBehind_14 : decode cX3_portBehind 14 = .ok (.aload_n 0, 1) := by decide +kernel
theorem d_X3_portBehind_15 : decode cX3_portBehind 15 = .ok (.getfield 39, 3) := by decide +kernel
theorem d_X3_portBehind_18 : decode cX3_portBehind 18 = .ok (.irem, 1) := by decide +kernel
theorem d_X3_portBehind_19 : decode cX3_portBehind 19 = .ok (.invokestatic 117, 3) := by decide +kernel
theorem d_X3_portBehind_22 : decode cX3_portBehind 22 = .ok (.invokevirtual 124, 3) := by decide +kernel
theorem d_X3_portBehind_25 : decode cX3_portBehind 25 = .ok (.goto 4, 3) := by decide +kernel
theorem d_X3_portBehind_28 : decode cX3_portBehind 28 = .ok (.iload_n 1, 1) := by decide +kernel
theorem d_X3_portBehind_29 : decode cX3_portBehind 29 = .ok (.ireturn, 1) := by decide +kernel
abbrev rm_X3_portBehind : Room := { frames := 3, cells := 0, slots := 0, locals := 70 }
set_option maxHeartbeats 4000000 in
set_option maxRecDepth 20000 in
theorem w_X3_portBehind (l : Launch) (b : Wy) {v0 : Nat} {v1 : Int32} {v2 : Int32} {σ : Sg} {K : Int32 → Sg → Prop} (hv0 : IsW v0) (h : m_X3_portBehind v0 v1 v2 σ K) : Ct l (wC b) yX3_portBehind cX3_portBehind 3 (some .int) rm_X3_portBehind [.ref (wB (wC b) + v0), .int v1, .int v2] σ (PI K) := by
  unfold m_X3_portBehind at h
  refine Ct.of (own := RX3) (by decide +kernel) rfl (Nat.le_of_ble_eq_true rfl) (fun x hx o => ?_)
  subst hx
  show J x (wC b) (FinC x (wC b) (PI K) (0, 0)) 0 [(0, .ref (wB (wC b) + v0)), (1, .int v1), (2, .int v2)] [] (0, 0) σ
  refine J_aload_n o 0 d_X3_portBehind_0 rfl ?_
  refine J_getI o fl_RX3_39 (W_kd hv0) (Nat.zero_le _) (W_hi hv0) rfl d_X3_portBehind_1 ?_
  refine J_if_le o 28 d_X3_portBehind_4 rfl (fun c4 => ?_) (fun c4 => ?_)
  · replace h := h.1 c4
    refine J_iload_n o 1 d_X3_portBehind_28 rfl ?_
    exact J_iret o d_X3_portBehind_29 ⟨_, rfl, h⟩
  · replace h := h.2 c4
    refine J_aload_n o 0 d_X3_portBehind_7 rfl ?_
    refine J_iload_n o 1 d_X3_portBehind_8 rfl ?_
    refine J_aload_n o 0 d_X3_portBehind_9 rfl ?_
    refine J_getR (t := (v0 + 6)) o fl_RX3_58 (W_kd hv0) (Nat.zero_le _) (W_hi hv0) rfl (W_t hv0 15 (by decide)) d_X3_portBehind_10 ?_
    refine J_iload_n o 2 d_X3_portBehind_13 rfl ?_
    refine J_aload_n o 0 d_X3_portBehind_14 rfl ?_
    refine J_getI o fl_RX3_39 (W_kd hv0) (Nat.zero_le _) (W_hi hv0) rfl d_X3_portBehind_15 ?_
    have z18 := h.1
    replace h := h.2
    refine J_irem o d_X3_portBehind_18 z18 ?_
    refine J_callSN o [.ref (wB (wC b) + (v0 + 6)), .int (v2 - v2 / (σ v0 9) * (σ v0 9))] mth_X4_read st_X4_read mn_RX3_117 ⟨Nat.le_of_ble_eq_true rfl, Nat.le_of_ble_eq_true rfl⟩ rfl rfl (Nat.le_of_ble_eq_true rfl) ⟨Nat.le_refl _, Nat.le_refl _⟩ d_X3_portBehind_19 (w_X4_read (xL x) b (W_A6 hv0) h) (aI (fun r19 s19 h => ?_))
    refine J_callV (k := v0) (c := 3) o [.int v1, .int r19] (W_kd hv0) (by decide) (Nat.zero_le _) (W_hi hv0) mth_X3_carriedFrom iv_X3_carriedFrom ml_RX3_124 ⟨Nat.le_of_ble_eq_true rfl, Nat.le_of_ble_eq_true rfl⟩ rfl rfl (Nat.le_of_ble_eq_true rfl) ⟨Nat.le_refl _, Nat.le_refl _⟩ d_X3_portBehind_22 (w_X3_carriedFrom (xL x) b hv0 h) (aI (fun r22 s22 h => ?_))
    refine J_goto o 29 d_X3_portBehind_25 rfl ?_
    exact J_iret o d_X3_portBehind_29 ⟨_, rfl, h⟩
theorem d_X0_lookAtPaths_0 : decode cX0_lookAtPaths 0 = .ok (.aload_n 0, 1) := by decide +kernel
theorem d_X0_lookAtPaths_1 : decode cX0_lookAtPaths 1 = .ok (.getfield 46, 3) := by decide +kernel
theorem d_X0_lookAtPaths_4 : decode cX0_lookAtPaths 4 = .ok (.getfield 77, 3) := by decide +kernel
theorem d_X0_lookAtPaths_7 : decode cX0_lookAtPaths 7 = .ok (.istore_n 1, 1) := by decide +kernel
theorem d_X0_lookAtPaths_8 : decode cX0_lookAtPaths 8 = .ok (.aload_n 0, 1) := by decide +kernel
theorem d_X0_lookAtPaths_9 : decode cX0_lookAtPaths 9 = .ok (.getfield 46, 3) := by decide +kernel
theorem d_X0_lookAtPaths_12 : decode cX0_lookAtPaths 12 = .ok (.getfield 80, 3) := by decide +kernel
theorem d_X0_lookAtPaths_15 : decode cX0_lookAtPaths 15 = .ok (.istore_n 2, 1) := by decide +kernel
theorem d_X0_lookAtPaths_16 : decode cX0_lookAtPaths 16 = .ok (.iconst 0, 1) := by decide +kernel
theorem d_X0_lookAtPaths_17 : decode cX0_lookAtPaths 17 = .ok (.istore_n 3, 1) := by decide +kernel
theorem d_X0_lookAtPaths_18 : decode cX0_lookAtPaths 18 = .ok (.iload_n 3, 1) := by decide +kernel
theorem d_X0_lookAtPaths_19 : decode cX0_lookAtPaths 19 = .ok (.bipush 60, 2) := by decide +kernel
theorem d_X0_lookAtPaths_21 : decode cX0_lookAtPaths 21 = .ok (.if_icmp .gt 59, 3) := by decide +kernel
theorem d_X0_lookAtPaths_24 : decode cX0_lookAtPaths 24 = .ok (.aload_n 0, 1) := by decide +kernel
theorem d_X0_lookAtPaths_25 : decode cX0_lookAtPaths 25 = .ok (.getfield 9, 3) := by decide +kernel
theorem d_X0_lookAtPaths_28 : decode cX0_lookAtPaths 28 = .ok (.iload_n 3, 1) := by decide +kernel
theorem d_X0_lookAtPaths_29 : decode cX0_lookAtPaths 29 = .ok (.iload_n 1, 1) := by decide +kernel
theorem d_X0_lookAtPaths_30 : decode cX0_lookAtPaths 30 = .ok (.iastore, 1) := by decide +kernel
theorem d_X0_lookAtPaths_31 : decode cX0_lookAtPaths 31 = .ok (.aload_n 0, 1) := by decide +kernel
theorem d_X0_lookAtPaths_32 : decode cX0_lookAtPaths 32 = .ok (.getfield 15, 3) := by decide +kernel
theorem d_X0_lookAtPaths_35 : decode cX0_lookAtPaths 35 = .ok (.iload_n 3, 1) := by decide +kernel
theorem d_X0_lookAtPaths_36 : decode cX0_lookAtPaths 36 = .ok (.iload_n 2, 1) := by decide +kernel
theorem d_X0_lookAtPaths_37 : decode cX0_lookAtPaths 37 = .ok (.iastore, 1) := by decide +kernel
theorem d_X0_lookAtPaths_38 : decode cX0_lookAtPaths 38 = .ok (.aload_n 0, 1) := by decide +kernel
theorem d_X0_lookAtPaths_39 : decode cX0_lookAtPaths 39 = .ok (.getfield 46, 3) := by decide +kernel
theorem d_X0_lookAtPaths_42 : decode cX0_lookAtPaths 42 = .ok (.iload_n 1, 1) := by decide +kernel
theorem d_X0_lookAtPaths_43 : decode cX0_lookAtPaths 43 = .ok (.aload_n 0, 1) := by decide +kernel
theorem d_X0_lookAtPaths_44 : decode cX0_lookAtPaths 44 = .ok (.getfield 46, 3) := by decide +kernel
theorem d_X0_lookAtPaths_47 : decode cX0_lookAtPaths 47 = .ok (.getfield 83, 3) := by decide +kernel
theorem d_X0_lookAtPaths_50 : decode cX0_lookAtPaths 50 = .ok (.iload_n 3, 1) := by decide +kernel
theorem d_X0_lookAtPaths_51 : decode cX0_lookAtPaths 51 = .ok (.iadd, 1) := by decide +kernel
theorem d_X0_lookAtPaths_52 : decode cX0_lookAtPaths 52 = .ok (.invokevirtual 86, 3) := by decide +kernel
theorem d_X0_lookAtPaths_55 : decode cX0_lookAtPaths 55 = .ok (.istore_n 1, 1) := by decide +kernel
theorem d_X0_lookAtPaths_56 : decode cX0_lookAtPaths 56 = .ok (.aload_n 0, 1) := by decide +kernel
theorem d_X0_lookAtPaths_57 : decode cX0_lookAtPaths 57 = .ok (.getfield 46, 3) := by decide +kernel
theorem d_X0_lookAtPaths_60 : decode cX0_lookAtPaths 60 = .ok (.iload_n 2, 1) := by decide +kernel
theorem d_X0_lookAtPaths_61 : decode cX0_lookAtPaths 61 = .ok (.aload_n 0, 1) := by decide +kernel
theorem d_X0_lookAtPaths_62 : decode cX0_lookAtPaths 62 = .ok (.getfield 46, 3) := by decide +kernel
theorem d_X0_lookAtPaths_65 : decode cX0_lookAtPaths 65 = .ok (.getfield 83, 3) := by decide +kernel
theorem d_X0_lookAtPaths_68 : decode cX0_lookAtPaths 68 = .ok (.iload_n 3, 1) := by decide +kernel
theorem d_X0_lookAtPaths_69 : decode cX0_lookAtPaths 69 = .ok (.iadd, 1) := by decide +kernel
theorem d_X0_lookAtPaths_70 : decode cX0_lookAtPaths 70 = .ok (.invokevirtual 89, 3) := by decide +kernel
theorem d_X0_lookAtPaths_73 : decode cX0_lookAtPaths 73 = .ok (.istore_n 2, 1) := by decide +kernel
theorem d_X0_lookAtPaths_74 : decode cX0_lookAtPaths 74 = .ok (.iinc 3 1, 3) := by decide +kernel
theorem d_X0_lookAtPaths_77 : decode cX0_lookAtPaths 77 = .ok (.goto (-59), 3) := by decide +kernel
theorem d_X0_lookAtPaths_80 : decode cX0_lookAtPaths 80 = .ok (.return_, 1) := by decide +kernel
abbrev rm_X0_lookAtPaths : Room := { frames := 4, cells := 0, slots := 0, locals := 94 }
set_option maxHeartbeats 4000000 in
set_option maxRecDepth 20000 in
theorem c_X0_lookAtPaths_18 {x : Cx} {b : Wy} (o : Ok x (wC b) cX0_lookAtPaths 4 RX0 none rm_X0_lookAtPaths)  {K : Sg → Prop}   : ∀ (n : Nat) (l1 : Int32) (l2 : Int32) (l3 : Int32) (σ : Sg), m_X0_lookAtPaths_l18  K  n l1 l2 l3 σ → J x (wC b) (FinC x (wC b) (PV K) (0, 0)) 18 [(0, .ref (wB (wC b) + 19)), (1, .int l1), (2, .int l2), (3, .int l3)] [] (0, 0) σ := by
  intro n
  induction n with
  | zero =>
    intro l1 l2 l3 σ  h
    exact False.elim h
  | succ n ih =>
    intro l1 l2 l3 σ  h
    unfold m_X0_lookAtPaths_l18 at h
    refine J_iload_n o 3 d_X0_lookAtPaths_18 rfl ?_
    refine J_bipush (v := 60) o d_X0_lookAtPaths_19 bipush_60 ?_
    refine J_icmp_gt o 80 d_X0_lookAtPaths_21 rfl (fun c21 => ?_) (fun c21 => ?_)
    · replace h := h.1 c21
      exact J_vret o d_X0_lookAtPaths_80 ⟨rfl, h⟩
    · replace h := h.2 c21
      refine J_aload_n o 0 d_X0_lookAtPaths_24 rfl ?_
      refine J_getR (t := 20) o fl_RX0_9 rfl (Nat.le_of_ble_eq_true rfl) (Nat.le_of_ble_eq_true rfl) rfl rfl d_X0_lookAtPaths_25 ?_
      refine J_iload_n o 3 d_X0_lookAtPaths_28 rfl ?_
      refine J_iload_n o 1 d_X0_lookAtPaths_29 rfl ?_
      have b30 := h.1
      replace h := h.2
      refine J_iast o A_20 (vpc (rfl : ln 20 = 61) b30) d_X0_lookAtPaths_30 ?_
      refine J_nS (fun s30 es30 => ?_)
      replace h := h s30 es30
      refine J_aload_n o 0 d_X0_lookAtPaths_31 rfl ?_
      refine J_getR (t := 21) o fl_RX0_15 rfl (Nat.le_of_ble_eq_true rfl) (Nat.le_of_ble_eq_true rfl) rfl rfl d_X0_lookAtPaths_32 ?_
      refine J_iload_n o 3 d_X0_lookAtPaths_35 rfl ?_
      refine J_iload_n o 2 d_X0_lookAtPaths_36 rfl ?_
      have b37 := h.1
      replace h := h.2
      refine J_iast o A_21 (vpc (rfl : ln 21 = 61) b37) d_X0_lookAtPaths_37 ?_
      refine J_nS (fun s37 es37 => ?_)
      replace h := h s37 es37
      refine J_aload_n o 0 d_X0_lookAtPaths_38 rfl ?_
      refine J_getR (t := 2) o fl_RX0_46 rfl (Nat.le_of_ble_eq_true rfl) (Nat.le_of_ble_eq_true rfl) rfl rfl d_X0_lookAtPaths_39 ?_
      refine J_iload_n o 1 d_X0_lookAtPaths_42 rfl ?_
      refine J_aload_n o 0 d_X0_lookAtPaths_43 rfl ?_
      refine J_getR (t := 2) o fl_RX0_46 rfl (Nat.le_of_ble_eq_true rfl) (Nat.le_of_ble_eq_true rfl) rfl rfl d_X0_lookAtPaths_44 ?_
      refine J_getI o fl_RX0_83 (W_kd W_2) (Nat.zero_le _) (W_hi W_2) rfl d_X0_lookAtPaths_47 ?_
      refine J_iload_n o 3 d_X0_lookAtPaths_50 rfl ?_
      refine J_iadd o d_X0_lookAtPaths_51 ?_
      refine J_callV (k := 2) (c := 3) o [.int l1, .int ((s37 2 2) + l3)] (W_kd W_2) (by decide) (Nat.zero_le _) (W_hi W_2) mth_X3_drifterBehind iv_X3_drifterBehind ml_RX0_86 ⟨Nat.le_of_ble_eq_true rfl, Nat.le_of_ble_eq_true rfl⟩ rfl rfl (Nat.le_of_ble_eq_true rfl) ⟨Nat.le_refl _, Nat.le_refl _⟩ d_X0_lookAtPaths_52 (w_X3_drifterBehind (xL x) b W_2 h) (aI (fun r52 s52 h => ?_))
      refine J_istore_n (lv' := [(1, .int r52), (0, .ref (wB (wC b) + 19)), (2, .int l2), (3, .int l3)]) o d_X0_lookAtPaths_55 (by decide) rfl ?_
      refine J_aload_n o 1 d_X0_lookAtPaths_56 rfl ?_
      refine J_getR (t := 2) o fl_RX0_46 rfl (Nat.le_of_ble_eq_true rfl) (Nat.le_of_ble_eq_true rfl) rfl rfl d_X0_lookAtPaths_57 ?_
      refine J_iload_n o 2 d_X0_lookAtPaths_60 rfl ?_
      refine J_aload_n o 1 d_X0_lookAtPaths_61 rfl ?_
      refine J_getR (t := 2) o fl_RX0_46 rfl (Nat.le_of_ble_eq_true rfl) (Nat.le_of_ble_eq_true rfl) rfl rfl d_X0_lookAtPaths_62 ?_
      refine J_getI o fl_RX0_83 (W_kd W_2) (Nat.zero_le _) (W_hi W_2) rfl d_X0_lookAtPaths_65 ?_
      refine J_iload_n o 3 d_X0_lookAtPaths_68 rfl ?_
      refine J_iadd o d_X0_lookAtPaths_69 ?_
      refine J_callV (k := 2) (c := 3) o [.int l2, .int ((s52 2 2) + l3)] (W_kd W_2) (by decide) (Nat.zero_le _) (W_hi W_2) mth_X3_portBehind iv_X3_portBehind ml_RX0_89 ⟨Nat.le_of_ble_eq_true rfl, Nat.le_of_ble_eq_true rfl⟩ rfl rfl (Nat.le_of_ble_eq_true rfl) ⟨Nat.le_refl _, Nat.le_refl _⟩ d_X0_lookAtPaths_70 (w_X3_portBehind (xL x) b W_2 h) (aI (fun r70 s70 h => ?_))
      refine J_istore_n (lv' := [(2, .int r70), (1, .int r52), (0, .ref (wB (wC b) + 19)), (3, .int l3)]) o d_X0_lookAtPaths_73 (by decide) rfl ?_
      refine J_iinc (lv' := [(3, .int (l3 + 1)), (2, .int r70), (1, .int r52), (0, .ref (wB (wC b) + 19))]) o 3 d_X0_lookAtPaths_74 (by decide) rfl iconst_1 rfl ?_
      refine J_goto o 18 d_X0_lookAtPaths_77 rfl ?_
      refine J_sub [3, 2, 1, 0] rfl ?_
      exact ih r52 r70 (l3 + 1) s70  h
set_option maxHeartbeats 4000000 in
set_option maxRecDepth 20000 in
theorem w_X0_lookAtPaths (l : Launch) (b : Wy)  {σ : Sg} {K : Sg → Prop}  (h : m_X0_lookAtPaths  σ K) : Ct l (wC b) yX0_lookAtPaths cX0_lookAtPaths 4 none rm_X0_lookAtPaths [.ref (wB (wC b) + 19)] σ (PV K) := by
  unfold m_X0_lookAtPaths at h
  refine Ct.of (own := RX0) (by decide +kernel) rfl (Nat.le_of_ble_eq_true rfl) (fun x hx o => ?_)
  subst hx
  show J x (wC b) (FinC x (wC b) (PV K) (0, 0)) 0 [(0, .ref (wB (wC b) + 19))] [] (0, 0) σ
  refine J_aload_n o 0 d_X0_lookAtPaths_0 rfl ?_
  refine J_getR (t := 2) o fl_RX0_46 rfl (Nat.le_of_ble_eq_true rfl) (Nat.le_of_ble_eq_true rfl) rfl rfl d_X0_lookAtPaths_1 ?_
  refine J_getI o fl_RX0_77 (W_kd W_2) (Nat.zero_le _) (W_hi W_2) rfl d_X0_lookAtPaths_4 ?_
  refine J_top (fun l1_7 el1_7 => ?_)
  replace h := h l1_7 el1_7
  refine J_istore_n (lv' := [(1, .int l1_7), (0, .ref (wB (wC b) + 19))]) o d_X0_lookAtPaths_7 (by decide) rfl ?_
  refine J_aload_n o 1 d_X0_lookAtPaths_8 rfl ?_
  refine J_getR (t := 2) o fl_RX0_46 rfl (Nat.le_of_ble_eq_true rfl) (Nat.le_of_ble_eq_true rfl) rfl rfl d_X0_lookAtPaths_9 ?_
  refine J_getI o fl_RX0_80 (W_kd W_2) (Nat.zero_le _) (W_hi W_2) rfl d_X0_lookAtPaths_12 ?_
  refine J_top (fun l2_15 el2_15 => ?_)
  replace h := h l2_15 el2_15
  refine J_istore_n (lv' := [(2, .int l2_15), (1, .int l1_7), (0, .ref (wB (wC b) + 19))]) o d_X0_lookAtPaths_15 (by decide) rfl ?_
  refine J_iconst (v := 0) o d_X0_lookAtPaths_16 iconst_0 ?_
  refine J_istore_n (lv' := [(3, .int 0), (2, .int l2_15), (1, .int l1_7), (0, .ref (wB (wC b) + 19))]) o d_X0_lookAtPaths_17 (by decide) rfl ?_
  refine J_sub [3, 2, 1, 0] rfl ?_
  obtain ⟨n9, h⟩ := h
  exact c_X0_lookAtPaths_18 o   n9 l1_7 l2_15 0 σ  h
theorem d_X3_helperBehind_0 : decode cX3_helperBehind 0 = .ok (.iload_n 2, 1) := by decide +kernel
theorem d_X3_helperBehind_1 : decode cX3_helperBehind 1 = .ok (.ifCond .ne 7, 3) := by decide +kernel
theorem d_X3_helperBehind_4 : decode cX3_helperBehind 4 = .ok (.iload_n 1, 1) := by decide +kernel
theorem d_X3_helperBehind_5 : decode cX3_helperBehind 5 = .ok (.goto 9, 3) := by decide +kernel
theorem d_X3_helperBehind_8 : decode cX3_helperBehind 8 = .ok (.aload_n 0, 1) := by decide +kernel
theorem d_X3_helperBehind_9 : decode cX3_helperBehind 9 = .ok (.iload_n 1, 1) := by decide +kernel
theorem d_X3_helperBehind_10 : decode cX3_helperBehind 10 = .ok (.iload_n 2, 1) := by decide +kernel
theorem d_X3_helperBehind_11 : decode cX3_helperBehind 11 = .ok (.invokevirtual 121, 3) := by decide +kernel
theorem d_X3_helperBehind_14 : decode cX3_helperBehind 14 = .ok (.istore_n 3, 1) := by decide +kernel
theorem d_X3_helperBehind_15 : decode cX3_helperBehind 15 = .ok (.iload_n 3, 1) := by decide +kernel
theorem d_X3_helperBehind_16 : decode cX3_helperBehind 16 = .ok (.iconst (-1), 1) := by decide +kernel
theorem d_X3_helperBehind_17 : decode cX3_helperBehind 17 = .ok (.if_icmp .ne 7, 3) := by decide +kernel
theorem d_X3_helperBehind_20 : decode cX3_helperBehind 20 = .ok (.iconst (-1), 1) := by decide +kernel
theorem d_X3_helperBehind_21 : decode cX3_helperBehind 21 = .ok (.goto 16, 3) := by decide +kernel
theorem d_X3_helperBehind_24 : decode cX3_helperBehind 24 = .ok (.aload_n 0, 1) := by decide +kernel
theorem d_X3_helperBehind_25 : decode cX3_helperBehind 25 = .ok (.iload_n 3, 1) := by decide +kernel
theorem d_X3_helperBehind_26 : decode cX3_helperBehind 26 = .ok (.aload_n 0, 1) := by decide +kernel
theorem d_X3_helperBehind_27 : decode cX3_helperBehind 27 = .ok (.getfield 52, 3) := by decide +kernel
theorem d_X3_helperBehind_30 : decode cX3_helperBehind 30 = .ok (.iload_n 3, 1) := by decide +kernel
theorem d_X3_helperBehind_31 : decode cX3_helperBehind 31 = .ok (.invokestatic 117, 3) := by decide +kernel
theorem d_X3_helperBehind_34 : decode cX3_helperBehind 34 = .ok (.invokevirtual 124, 3) := by decide +kernel
theorem d_X3_helperBehind_37 : decode cX3_helperBehind 37 = .ok (.ireturn, 1) := by decide +kernel
abbrev rm_X3_helperBehind : Room := { frames := 3, cells := 0, slots := 0, locals := 70 }
set_option maxHeartbeats 4000000 in
set_option maxRecDepth 20000 in
theorem c_X3_helperBehind_14 {x : Cx} {b : Wy} (o : Ok x (wC b) cX3_helperBehind 4 RX3 (some .int) rm_X3_helperBehind) {v0 : Nat} {v1 : Int32} {v2 : Int32} {K : Int32 → Sg → Prop}  (hv0 : IsW v0) : ∀ (k0 : Int32) (σ : Sg), m_X3_helperBehind_j14 v0 v1 v2 K  k0 σ → J x (wC b) (FinC x (wC b) (PI K) (0, 0)) 14 [(0, .ref (wB (wC b) + v0))] [.int k0] (0, 0) σ := by
  intro k0 σ  h
  unfold m_X3_helperBehind_j14 at h
  refine J_istore_n (lv' := [(3, .int k0), (0, .ref (wB (wC b) + v0))]) o d_X3_helperBehind_14 (by decide) rfl ?_
  refine J_iload_n o 0 d_X3_helperBehind_15 rfl ?_
  refine J_iconst (v := (-1)) o d_X3_helperBehind_16 iconst_m1 ?_
  refine J_icmp_ne o 24 d_X3_helperBehind_17 rfl (fun c17 => ?_) (fun c17 => ?_)
  · replace h := h.1 c17
    refine J_aload_n o 1 d_X3_helperBehind_24 rfl ?_
    refine J_iload_n o 0 d_X3_helperBehind_25 rfl ?_
    refine J_aload_n o 1 d_X3_helperBehind_26 rfl ?_
    refine J_getR (t := (v0 + 4)) o fl_RX3_52 (W_kd hv0) (Nat.zero_le _) (W_hi hv0) rfl (W_t hv0 13 (by decide)) d_X3_helperBehind_27 ?_
    refine J_iload_n o 0 d_X3_helperBehind_30 rfl ?_
    refine J_callSN o [.ref (wB (wC b) + (v0 + 4)), .int k0] mth_X4_read st_X4_read mn_RX3_117 ⟨Nat.le_of_ble_eq_true rfl, Nat.le_of_ble_eq_true rfl⟩ rfl rfl (Nat.le_of_ble_eq_true rfl) ⟨Nat.le_refl _, Nat.le_refl _⟩ d_X3_helperBehind_31 (w_X4_read (xL x) b (W_A4 hv0) h) (aI (fun r31 s31 h => ?_))
    refine J_callV (k := v0) (c := 3) o [.int k0, .int r31] (W_kd hv0) (by decide) (Nat.zero_le _) (W_hi hv0) mth_X3_carriedFrom iv_X3_carriedFrom ml_RX3_124 ⟨Nat.le_of_ble_eq_true rfl, Nat.le_of_ble_eq_true rfl⟩ rfl rfl (Nat.le_of_ble_eq_true rfl) ⟨Nat.le_refl _, Nat.le_refl _⟩ d_X3_helperBehind_34 (w_X3_carriedFrom (xL x) b hv0 h) (aI (fun r34 s34 h => ?_))
    exact J_iret o d_X3_helperBehind_37 ⟨_, rfl, h⟩
  · replace h := h.2 c17
    refine J_iconst (v := (-1)) o d_X3_helperBehind_20 iconst_m1 ?_
    refine J_goto o 37 d_X3_helperBehind_21 rfl ?_
    exact J_iret o d_X3_helperBehind_37 ⟨_, rfl, h⟩
set_option maxHeartbeats 4000000 in
set_option maxRecDepth 20000 in
theorem w_X3_helperBehind (l : Launch) (b : Wy) {v0 : Nat} {v1 : Int32} {v2 : Int32} {σ : Sg} {K : Int32 → Sg → Prop} (hv0 : IsW v0) (h : m_X3_helperBehind v0 v1 v2 σ K) : Ct l (wC b) yX3_helperBehind cX3_helperBehind 4 (some .int) rm_X3_helperBehind [.ref (wB (wC b) + v0), .int v1, .int v2] σ (PI K) := by
  unfold m_X3_helperBehind at h
  refine Ct.of (own := RX3) (by decide +kernel) rfl (Nat.le_of_ble_eq_true rfl) (fun x hx o => ?_)
  subst hx
  show J x (wC b) (FinC x (wC b) (PI K) (0, 0)) 0 [(0, .ref (wB (wC b) + v0)), (1, .int v1), (2, .int v2)] [] (0, 0) σ
  refine J_iload_n o 2 d_X3_helperBehind_0 rfl ?_
  refine J_if_ne o 8 d_X3_helperBehind_1 rfl (fun c1 => ?_) (fun c1 => ?_)
  · replace h := h.1 c1
    refine J_aload_n o 0 d_X3_helperBehind_8 rfl ?_
    refine J_iload_n o 1 d_X3_helperBehind_9 rfl ?_
    refine J_iload_n o 2 d_X3_helperBehind_10 rfl ?_
    refine J_callV (k := v0) (c := 3) o [.int v1, .int v2] (W_kd hv0) (by decide) (Nat.zero_le _) (W_hi hv0) mth_X3_stepFrom iv_X3_stepFrom ml_RX3_121 ⟨Nat.le_of_ble_eq_true rfl, Nat.le_of_ble_eq_true rfl⟩ rfl rfl (Nat.le_of_ble_eq_true rfl) ⟨Nat.le_refl _, Nat.le_refl _⟩ d_X3_helperBehind_11 (w_X3_stepFrom (xL x) b hv0 h) (aI (fun r11 s11 h => ?_))
    refine J_sub [0] rfl ?_
    exact c_X3_helperBehind_14 o hv0  r11 s11  h
  · replace h := h.2 c1
    refine J_iload_n o 1 d_X3_helperBehind_4 rfl ?_
    refine J_goto o 14 d_X3_helperBehind_5 rfl ?_
    refine J_sub [0] rfl ?_
    exact c_X3_helperBehind_14 o hv0  v1 σ  h
theorem d_X0_lookAtCourses_0 : decode cX0_lookAtCourses 0 = .ok (.iconst 0, 1) := by decide +kernel
theorem d_X0_lookAtCourses_1 : decode cX0_lookAtCourses 1 = .ok (.istore_n 1, 1) := by decide +kernel
theorem d_X0_lookAtCourses_2 : decode cX0_lookAtCourses 2 = .ok (.iload_n 1, 1) := by decide +kernel
theorem d_X0_lookAtCourses_3 : decode cX0_lookAtCourses 3 = .ok (.aload_n 0, 1) := by decide +kernel
theorem d_X0_lookAtCourses_4 : decode cX0_lookAtCourses 4 = .ok (.getfield 38, 3) := by decide +kernel
theorem d_X0_lookAtCourses_7 : decode cX0_lookAtCourses 7 = .ok (.if_icmp .ge 50, 3) := by decide +kernel
theorem d_X0_lookAtCourses_10 : decode cX0_lookAtCourses 10 = .ok (.iload_n 1, 1) := by decide +kernel
theorem d_X0_lookAtCourses_11 : decode cX0_lookAtCourses 11 = .ok (.sipush 240, 3) := by decide +kernel
theorem d_X0_lookAtCourses_14 : decode cX0_lookAtCourses 14 = .ok (.if_icmp .ge 43, 3) := by decide +kernel
theorem d_X0_lookAtCourses_17 : decode cX0_lookAtCourses 17 = .ok (.iconst 0, 1) := by decide +kernel
theorem d_X0_lookAtCourses_18 : decode cX0_lookAtCourses 18 = .ok (.istore_n 2, 1) := by decide +kernel
theorem d_X0_lookAtCourses_19 : decode cX0_lookAtCourses 19 = .ok (.iload_n 2, 1) := by decide +kernel
theorem d_X0_lookAtCourses_20 : decode cX0_lookAtCourses 20 = .ok (.bipush 9, 2) := by decide +kernel
theorem d_X0_lookAtCourses_22 : decode cX0_lookAtCourses 22 = .ok (.if_icmp .ge 29, 3) := by decide +kernel
theorem d_X0_lookAtCourses_25 : decode cX0_lookAtCourses 25 = .ok (.aload_n 0, 1) := by decide +kernel
theorem d_X0_lookAtCourses_26 : decode cX0_lookAtCourses 26 = .ok (.getfield 18, 3) := by decide +kernel
theorem d_X0_lookAtCourses_29 : decode cX0_lookAtCourses 29 = .ok (.iload_n 1, 1) := by decide +kernel
theorem d_X0_lookAtCourses_30 : decode cX0_lookAtCourses 30 = .ok (.bipush 9, 2) := by decide +kernel
theorem d_X0_lookAtCourses_32 : decode cX0_lookAtCourses 32 = .ok (.imul, 1) := by decide +kernel
theorem d_X0_lookAtCourses_33 : decode cX0_lookAtCourses 33 = .ok (.iload_n 2, 1) := by decide +kernel
theorem d_X0_lookAtCourses_34 : decode cX0_lookAtCourses 34 = .ok (.iadd, 1) := by decide +kernel
theorem d_X0_lookAtCourses_35 : decode cX0_lookAtCourses 35 = .ok (.aload_n 0, 1) := by decide +kernel
theorem d_X0_lookAtCourses_36 : decode cX0_lookAtCourses 36 = .ok (.getfield 46, 3) := by decide +kernel
theorem d_X0_lookAtCourses_39 : decode cX0_lookAtCourses 39 = .ok (.iload_n 1, 1) := by decide +kernel
theorem d_X0_lookAtCourses_40 : decode cX0_lookAtCourses 40 = .ok (.iload_n 2, 1) := by decide +kernel
theorem d_X0_lookAtCourses_41 : decode cX0_lookAtCourses 41 = .ok (.invokevirtual 92, 3) := by decide +kernel
theorem d_X0_lookAtCourses_44 : decode cX0_lookAtCourses 44 = .ok (.iastore, 1) := by decide +kernel
theorem d_X0_lookAtCourses_45 : decode cX0_lookAtCourses 45 = .ok (.iinc 2 1, 3) := by decide +kernel
theorem d_X0_lookAtCourses_48 : decode cX0_lookAtCourses 48 = .ok (.goto (-29), 3) := by decide +kernel
theorem d_X0_lookAtCourses_51 : decode cX0_lookAtCourses 51 = .ok (.iinc 1 1, 3) := by decide +kernel
theorem d_X0_lookAtCourses_54 : decode cX0_lookAtCourses 54 = .ok (.goto (-52), 3) := by decide +kernel
theorem d_X0_lookAtCourses_57 : decode cX0_lookAtCourses 57 = .ok (.return_, 1) := by decide +kernel
abbrev rm_X0_lookAtCourses : Room := { frames := 4, cells := 0, slots := 0, locals := 93 }
set_option maxHeartbeats 4000000 in
set_option maxRecDepth 20000 in
theorem c_X0_lookAtCourses_19 {x : Cx} {b : Wy} (o : Ok x (wC b) cX0_lookAtCourses 3 RX0 none rm_X0_lookAtCourses)  {K : Sg → Prop}  {KO2 : Int32 → Sg → Prop}  (hKO2 : ∀ (l1 : Int32) (σ : Sg), KO2 l1 σ → J x (wC b) (FinC x (wC b) (PV K) (0, 0)) 2 [(0, .ref (wB (wC b) + 19)), (1, .int l1)] [] (0, 0) σ) : ∀ (n : Nat) (l1 : Int32) (l2 : Int32) (σ : Sg), m_X0_lookAtCourses_l19  K KO2 n l1 l2 σ → J x (wC b) (FinC x (wC b) (PV K) (0, 0)) 19 [(0, .ref (wB (wC b) + 19)), (1, .int l1), (2, .int l2)] [] (0, 0) σ := by
  intro n
  induction n with
  | zero =>
    intro l1 l2 σ  h
    exact False.elim h
  | succ n ih =>
    intro l1 l2 σ  h
    unfold m_X0_lookAtCourses_l19 at h
    refine J_iload_n o 2 d_X0_lookAtCourses_19 rfl ?_
    refine J_bipush (v := 9) o d_X0_lookAtCourses_20 bipush_9 ?_
    refine J_icmp_ge o 51 d_X0_lookAtCourses_22 rfl (fun c22 => ?_) (fun c22 => ?_)
    · replace h := h.1 c22
      refine J_iinc (lv' := [(1, .int (l1 + 1)), (0, .ref (wB (wC b) + 19)), (2, .int l2)]) o 1 d_X0_lookAtCourses_51 (by decide) rfl iconst_1 rfl ?_
      refine J_goto o 2 d_X0_lookAtCourses_54 rfl ?_
      refine J_sub [1, 0] rfl ?_
      exact hKO2 (l1 + 1) σ  h
    · replace h := h.2 c22
      refine J_aload_n o 0 d_X0_lookAtCourses_25 rfl ?_
      refine J_getR (t := 22) o fl_RX0_18 rfl (Nat.le_of_ble_eq_true rfl) (Nat.le_of_ble_eq_true rfl) rfl rfl d_X0_lookAtCourses_26 ?_
      refine J_iload_n o 1 d_X0_lookAtCourses_29 rfl ?_
      refine J_bipush (v := 9) o d_X0_lookAtCourses_30 bipush_9 ?_
      refine J_imul o d_X0_lookAtCourses_32 ?_
      refine J_iload_n o 2 d_X0_lookAtCourses_33 rfl ?_
      refine J_iadd o d_X0_lookAtCourses_34 ?_
      refine J_aload_n o 0 d_X0_lookAtCourses_35 rfl ?_
      refine J_getR (t := 2) o fl_RX0_46 rfl (Nat.le_of_ble_eq_true rfl) (Nat.le_of_ble_eq_true rfl) rfl rfl d_X0_lookAtCourses_36 ?_
      refine J_iload_n o 1 d_X0_lookAtCourses_39 rfl ?_
      refine J_iload_n o 2 d_X0_lookAtCourses_40 rfl ?_
      refine J_callV (k := 2) (c := 3) o [.int l1, .int l2] (W_kd W_2) (by decide) (Nat.zero_le _) (W_hi W_2) mth_X3_helperBehind iv_X3_helperBehind ml_RX0_92 ⟨Nat.le_of_ble_eq_true rfl, Nat.le_of_ble_eq_true rfl⟩ rfl rfl (Nat.le_of_ble_eq_true rfl) ⟨Nat.le_refl _, Nat.le_refl _⟩ d_X0_lookAtCourses_41 (w_X3_helperBehind (xL x) b W_2 h) (aI (fun r41 s41 h => ?_))
      have b44 := h.1
      replace h := h.2
      refine J_iast o A_22 (vpc (rfl : ln 22 = 2160) b44) d_X0_lookAtCourses_44 ?_
      refine J_nS (fun s44 es44 => ?_)
      replace h := h s44 es44
      refine J_iinc (lv' := [(2, .int (l2 + 1)), (0, .ref (wB (wC b) + 19)), (1, .int l1)]) o 2 d_X0_lookAtCourses_45 (by decide) rfl iconst_1 rfl ?_
      refine J_goto o 19 d_X0_lookAtCourses_48 rfl ?_
      refine J_sub [1, 2, 0] rfl ?_
      exact ih l1 (l2 + 1) s44  h
set_option maxHeartbeats 4000000 in
set_option maxRecDepth 20000 in
theorem c_X0_lookAtCourses_2 {x : Cx} {b : Wy} (o : Ok x (wC b) cX0_lookAtCourses 3 RX0 none rm_X0_lookAtCourses)  {K : Sg → Prop}   : ∀ (n : Nat) (l1 : Int32) (σ : Sg), m_X0_lookAtCourses_l2  K  n l1 σ → J x (wC b) (FinC x (wC b) (PV K) (0, 0)) 2 [(0, .ref (wB (wC b) + 19)), (1, .int l1)] [] (0, 0) σ := by
  intro n
  induction n with
  | zero =>
    intro l1 σ  h
    exact False.elim h
  | succ n ih =>
    intro l1 σ  h
    unfold m_X0_lookAtCourses_l2 at h
    refine J_iload_n o 1 d_X0_lookAtCourses_2 rfl ?_
    refine J_aload_n o 0 d_X0_lookAtCourses_3 rfl ?_
    refine J_getI o fl_RX0_38 rfl (Nat.le_of_ble_eq_true rfl) (Nat.le_of_ble_eq_true rfl) rfl d_X0_lookAtCourses_4 ?_
    refine J_icmp_ge o 57 d_X0_lookAtCourses_7 rfl (fun c7 => ?_) (fun c7 => ?_)
    · replace h := h.1 c7
      exact J_vret o d_X0_lookAtCourses_57 ⟨rfl, h⟩
    · replace h := h.2 c7
      refine J_iload_n o 1 d_X0_lookAtCourses_10 rfl ?_
      refine J_sipush (v := 240) o d_X0_lookAtCourses_11 sipush_240 ?_
      refine J_icmp_ge o 57 d_X0_lookAtCourses_14 rfl (fun c14 => ?_) (fun c14 => ?_)
      · replace h := h.1 c14
        exact J_vret o d_X0_lookAtCourses_57 ⟨rfl, h⟩
      · replace h := h.2 c14
        refine J_iconst (v := 0) o d_X0_lookAtCourses_17 iconst_0 ?_
        refine J_istore_n (lv' := [(2, .int 0), (0, .ref (wB (wC b) + 19)), (1, .int l1)]) o d_X0_lookAtCourses_18 (by decide) rfl ?_
        refine J_sub [1, 2, 0] rfl ?_
        obtain ⟨n9, h⟩ := h
        exact c_X0_lookAtCourses_19 o  ih n9 l1 0 σ  h
set_option maxHeartbeats 4000000 in
set_option maxRecDepth 20000 in
theorem w_X0_lookAtCourses (l : Launch) (b : Wy)  {σ : Sg} {K : Sg → Prop}  (h : m_X0_lookAtCourses  σ K) : Ct l (wC b) yX0_lookAtCourses cX0_lookAtCourses 3 none rm_X0_lookAtCourses [.ref (wB (wC b) + 19)] σ (PV K) := by
  unfold m_X0_lookAtCourses at h
  refine Ct.of (own := RX0) (by decide +kernel) rfl (Nat.le_of_ble_eq_true rfl) (fun x hx o => ?_)
  subst hx
  show J x (wC b) (FinC x (wC b) (PV K) (0, 0)) 0 [(0, .ref (wB (wC b) + 19))] [] (0, 0) σ
  refine J_iconst (v := 0) o d_X0_lookAtCourses_0 iconst_0 ?_
  refine J_istore_n (lv' := [(1, .int 0), (0, .ref (wB (wC b) + 19))]) o d_X0_lookAtCourses_1 (by decide) rfl ?_
  refine J_sub [1, 0] rfl ?_
  obtain ⟨n9, h⟩ := h
  exact c_X0_lookAtCourses_2 o   n9 0 σ  h
theorem d_X3_priceOf_0 : decode cX3_priceOf 0 = .ok (.iload_n 1, 1) := by decide +kernel
theorem d_X3_priceOf_1 : decode cX3_priceOf 1 = .ok (.ifCond .ne 5, 3) := by decide +kernel
theorem d_X3_priceOf_4 : decode cX3_priceOf 4 = .ok (.iconst 0, 1) := by decide +kernel
theorem d_X3_priceOf_5 : decode cX3_priceOf 5 = .ok (.ireturn, 1) := by decide +kernel
theorem d_X3_priceOf_6 : decode cX3_priceOf 6 = .ok (.aload_n 0, 1) := by decide +kernel
theorem d_X3_priceOf_7 : decode cX3_priceOf 7 = .ok (.iload_n 2, 1) := by decide +kernel
theorem d_X3_priceOf_8 : decode cX3_priceOf 8 = .ok (.invokevirtual 127, 3) := by decide +kernel
theorem d_X3_priceOf_11 : decode cX3_priceOf 11 = .ok (.istore_n 3, 1) := by decide +kernel
theorem d_X3_priceOf_12 : decode cX3_priceOf 12 = .ok (.iload_n 3, 1) := by decide +kernel
theorem d_X3_priceOf_13 : decode cX3_priceOf 13 = .ok (.ifCond .ne 5, 3) := by decide +kernel
theorem d_X3_priceOf_16 : decode cX3_priceOf 16 = .ok (.iconst 3, 1) := by decide +kernel
theorem d_X3_priceOf_17 : decode cX3_priceOf 17 = .ok (.ireturn, 1) := by decide +kernel
theorem d_X3_priceOf_18 : decode cX3_priceOf 18 = .ok (.iload_n 1, 1) := by decide +kernel
theorem d_X3_priceOf_19 : decode cX3_priceOf 19 = .ok (.iload_n 3, 1) := by decide +kernel
theorem d_X3_priceOf_20 : decode cX3_priceOf 20 = .ok (.isub, 1) := by decide +kernel
theorem d_X3_priceOf_21 : decode cX3_priceOf 21 = .ok (.invokestatic 130, 3) := by decide +kernel
theorem d_X3_priceOf_24 : decode cX3_priceOf 24 = .ok (.istore 4, 2) := by decide +kernel
theorem d_X3_priceOf_26 : decode cX3_priceOf 26 = .ok (.iconst 1, 1) := by decide +kernel
theorem d_X3_priceOf_27 : decode cX3_priceOf 27 = .ok (.iload 4, 2) := by decide +kernel
theorem d_X3_priceOf_29 : decode cX3_priceOf 29 = .ok (.bipush 8, 2) := by decide +kernel
theorem d_X3_priceOf_31 : decode cX3_priceOf 31 = .ok (.iload 4, 2) := by decide +kernel
theorem d_X3_priceOf_33 : decode cX3_priceOf 33 = .ok (.isub, 1) := by decide +kernel
theorem d_X3_priceOf_34 : decode cX3_priceOf 34 = .ok (.invokestatic 85, 3) := by decide +kernel
theorem d_X3_priceOf_37 : decode cX3_priceOf 37 = .ok (.iadd, 1) := by decide +kernel
theorem d_X3_priceOf_38 : decode cX3_priceOf 38 = .ok (.ireturn, 1) := by decide +kernel
abbrev rm_X3_priceOf : Room := { frames := 2, cells := 0, slots := 0, locals := 43 }
set_option maxHeartbeats 4000000 in
set_option maxRecDepth 20000 in
theorem w_X3_priceOf (l : Launch) (b : Wy) {v0 : Nat} {v1 : Int32} {v2 : Int32} {σ : Sg} {K : Int32 → Sg → Prop} (hv0 : IsW v0) (h : m_X3_priceOf v0 v1 v2 σ K) : Ct l (wC b) yX3_priceOf cX3_priceOf 5 (some .int) rm_X3_priceOf [.ref (wB (wC b) + v0), .int v1, .int v2] σ (PI K) := by
  unfold m_X3_priceOf at h
  refine Ct.of (own := RX3) (by decide +kernel) rfl (Nat.le_of_ble_eq_true rfl) (fun x hx o => ?_)
  subst hx
  show J x (wC b) (FinC x (wC b) (PI K) (0, 0)) 0 [(0, .ref (wB (wC b) + v0)), (1, .int v1), (2, .int v2)] [] (0, 0) σ
  refine J_iload_n o 1 d_X3_priceOf_0 rfl ?_
  refine J_if_ne o 6 d_X3_priceOf_1 rfl (fun c1 => ?_) (fun c1 => ?_)
  · replace h := h.1 c1
    refine J_aload_n o 0 d_X3_priceOf_6 rfl ?_
    refine J_iload_n o 2 d_X3_priceOf_7 rfl ?_
    refine J_callV (k := v0) (c := 3) o [.int v2] (W_kd hv0) (by decide) (Nat.zero_le _) (W_hi hv0) mth_X3_windOf iv_X3_windOf ml_RX3_127 ⟨Nat.le_of_ble_eq_true rfl, Nat.le_of_ble_eq_true rfl⟩ rfl rfl (Nat.le_of_ble_eq_true rfl) ⟨Nat.le_refl _, Nat.le_refl _⟩ d_X3_priceOf_8 (w_X3_windOf (xL x) b hv0 h) (aI (fun r8 s8 h => ?_))
    refine J_istore_n (lv' := [(3, .int r8), (0, .ref (wB (wC b) + v0)), (1, .int v1), (2, .int v2)]) o d_X3_priceOf_11 (by decide) rfl ?_
    refine J_iload_n o 0 d_X3_priceOf_12 rfl ?_
    refine J_if_ne o 18 d_X3_priceOf_13 rfl (fun c13 => ?_) (fun c13 => ?_)
    · replace h := h.1 c13
      refine J_iload_n o 2 d_X3_priceOf_18 rfl ?_
      refine J_iload_n o 0 d_X3_priceOf_19 rfl ?_
      refine J_isub o d_X3_priceOf_20 ?_
      refine J_abs o mm_RX3_130 ms_abs mi_math mc_abs ⟨Nat.le_of_ble_eq_true rfl, Nat.le_of_ble_eq_true rfl, Nat.le_of_ble_eq_true rfl, Nat.le_of_ble_eq_true rfl⟩ d_X3_priceOf_21 ?_
      refine J_top (fun l4_24 el4_24 => ?_)
      replace h := h l4_24 el4_24
      refine J_istore (lv' := [(4, .int l4_24), (3, .int r8), (0, .ref (wB (wC b) + v0)), (1, .int v1), (2, .int v2)]) o d_X3_priceOf_24 (by decide) rfl ?_
      refine J_iconst (v := 1) o d_X3_priceOf_26 iconst_1 ?_
      refine J_iload o 0 d_X3_priceOf_27 rfl ?_
      refine J_bipush (v := 8) o d_X3_priceOf_29 bipush_8 ?_
      refine J_iload o 0 d_X3_priceOf_31 rfl ?_
      refine J_isub o d_X3_priceOf_33 ?_
      refine J_min o mm_RX3_85 ms_min mi_math mc_min ⟨Nat.le_of_ble_eq_true rfl, Nat.le_of_ble_eq_true rfl, Nat.le_of_ble_eq_true rfl, Nat.le_of_ble_eq_true rfl⟩ d_X3_priceOf_34 ?_
      refine J_iadd o d_X3_priceOf_37 ?_
      exact J_iret o d_X3_priceOf_38 ⟨_, rfl, h⟩
    · replace h := h.2 c13
      refine J_iconst (v := 3) o d_X3_priceOf_16 iconst_3 ?_
      exact J_iret o d_X3_priceOf_17 ⟨_, rfl, h⟩
  · replace h := h.2 c1
    refine J_iconst (v := 0) o d_X3_priceOf_4 iconst_0 ?_
    exact J_iret o d_X3_priceOf_5 ⟨_, rfl, h⟩
theorem d_X0_lookAtPrices_0 : decode cX0_lookAtPrices 0 = .ok (.iconst 0, 1) := by decide +kernel
theorem d_X0_lookAtPrices_1 : decode cX0_lookAtPrices 1 = .ok (.istore_n 1, 1) := by decide +kernel
theorem d_X0_lookAtPrices_2 : decode cX0_lookAtPrices 2 = .ok (.iload_n 1, 1) := by decide +kernel
theorem d_X0_lookAtPrices_3 : decode cX0_lookAtPrices 3 = .ok (.bipush 60, 2) := by decide +kernel
theorem d_X0_lookAtPrices_5 : decode cX0_lookAtPrices 5 = .ok (.if_icmp .ge 51, 3) := by decide +kernel
theorem d_X0_lookAtPrices_8 : decode cX0_lookAtPrices 8 = .ok (.iconst 0, 1) := by decide +kernel
theorem d_X0_lookAtPrices_9 : decode cX0_lookAtPrices 9 = .ok (.istore_n 2, 1) := by decide +kernel
theorem d_X0_lookAtPrices_10 : decode cX0_lookAtPrices 10 = .ok (.iload_n 2, 1) := by decide +kernel
theorem d_X0_lookAtPrices_11 : decode cX0_lookAtPrices 11 = .ok (.bipush 9, 2) := by decide +kernel
theorem d_X0_lookAtPrices_13 : decode cX0_lookAtPrices 13 = .ok (.if_icmp .ge 37, 3) := by decide +kernel
theorem d_X0_lookAtPrices_16 : decode cX0_lookAtPrices 16 = .ok (.aload_n 0, 1) := by decide +kernel
theorem d_X0_lookAtPrices_17 : decode cX0_lookAtPrices 17 = .ok (.getfield 21, 3) := by decide +kernel
theorem d_X0_lookAtPrices_20 : decode cX0_lookAtPrices 20 = .ok (.iload_n 1, 1) := by decide +kernel
theorem d_X0_lookAtPrices_21 : decode cX0_lookAtPrices 21 = .ok (.bipush 9, 2) := by decide +kernel
theorem d_X0_lookAtPrices_23 : decode cX0_lookAtPrices 23 = .ok (.imul, 1) := by decide +kernel
theorem d_X0_lookAtPrices_24 : decode cX0_lookAtPrices 24 = .ok (.iload_n 2, 1) := by decide +kernel
theorem d_X0_lookAtPrices_25 : decode cX0_lookAtPrices 25 = .ok (.iadd, 1) := by decide +kernel
theorem d_X0_lookAtPrices_26 : decode cX0_lookAtPrices 26 = .ok (.aload_n 0, 1) := by decide +kernel
theorem d_X0_lookAtPrices_27 : decode cX0_lookAtPrices 27 = .ok (.getfield 46, 3) := by decide +kernel
theorem d_X0_lookAtPrices_30 : decode cX0_lookAtPrices 30 = .ok (.iload_n 2, 1) := by decide +kernel
theorem d_X0_lookAtPrices_31 : decode cX0_lookAtPrices 31 = .ok (.aload_n 0, 1) := by decide +kernel
theorem d_X0_lookAtPrices_32 : decode cX0_lookAtPrices 32 = .ok (.getfield 46, 3) := by decide +kernel
theorem d_X0_lookAtPrices_35 : decode cX0_lookAtPrices 35 = .ok (.getfield 83, 3) := by decide +kernel
theorem d_X0_lookAtPrices_38 : decode cX0_lookAtPrices 38 = .ok (.iload_n 1, 1) := by decide +kernel
theorem d_X0_lookAtPrices_39 : decode cX0_lookAtPrices 39 = .ok (.iadd, 1) := by decide +kernel
theorem d_X0_lookAtPrices_40 : decode cX0_lookAtPrices 40 = .ok (.invokevirtual 95, 3) := by decide +kernel
theorem d_X0_lookAtPrices_43 : decode cX0_lookAtPrices 43 = .ok (.iastore, 1) := by decide +kernel
theorem d_X0_lookAtPrices_44 : decode cX0_lookAtPrices 44 = .ok (.iinc 2 1, 3) := by decide +kernel
theorem d_X0_lookAtPrices_47 : decode cX0_lookAtPrices 47 = .ok (.goto (-37), 3) := by decide +kernel
theorem d_X0_lookAtPrices_50 : decode cX0_lookAtPrices 50 = .ok (.iinc 1 1, 3) := by decide +kernel
theorem d_X0_lookAtPrices_53 : decode cX0_lookAtPrices 53 = .ok (.goto (-51), 3) := by decide +kernel
theorem d_X0_lookAtPrices_56 : decode cX0_lookAtPrices 56 = .ok (.return_, 1) := by decide +kernel
abbrev rm_X0_lookAtPrices : Room := { frames := 3, cells := 0, slots := 0, locals := 67 }
set_option maxHeartbeats 4000000 in
set_option maxRecDepth 20000 in
theorem c_X0_lookAtPrices_10 {x : Cx} {b : Wy} (o : Ok x (wC b) cX0_lookAtPrices 3 RX0 none rm_X0_lookAtPrices)  {K : Sg → Prop}  {KO2 : Int32 → Sg → Prop}  (hKO2 : ∀ (l1 : Int32) (σ : Sg), KO2 l1 σ → J x (wC b) (FinC x (wC b) (PV K) (0, 0)) 2 [(0, .ref (wB (wC b) + 19)), (1, .int l1)] [] (0, 0) σ) : ∀ (n : Nat) (l1 : Int32) (l2 : Int32) (σ : Sg), m_X0_lookAtPrices_l10  K KO2 n l1 l2 σ → J x (wC b) (FinC x (wC b) (PV K) (0, 0)) 10 [(0, .ref (wB (wC b) + 19)), (1, .int l1), (2, .int l2)] [] (0, 0) σ := by
  intro n
  induction n with
  | zero =>
    intro l1 l2 σ  h
    exact False.elim h
  | succ n ih =>
    intro l1 l2 σ  h
    unfold m_X0_lookAtPrices_l10 at h
    refine J_iload_n o 2 d_X0_lookAtPrices_10 rfl ?_
    refine J_bipush (v := 9) o d_X0_lookAtPrices_11 bipush_9 ?_
    refine J_icmp_ge o 50 d_X0_lookAtPrices_13 rfl (fun c13 => ?_) (fun c13 => ?_)
    · replace h := h.1 c13
      refine J_iinc (lv' := [(1, .int (l1 + 1)), (0, .ref (wB (wC b) + 19)), (2, .int l2)]) o 1 d_X0_lookAtPrices_50 (by decide) rfl iconst_1 rfl ?_
      refine J_goto o 2 d_X0_lookAtPrices_53 rfl ?_
      refine J_sub [1, 0] rfl ?_
      exact hKO2 (l1 + 1) σ  h
    · replace h := h.2 c13
      refine J_aload_n o 0 d_X0_lookAtPrices_16 rfl ?_
      refine J_getR (t := 23) o fl_RX0_21 rfl (Nat.le_of_ble_eq_true rfl) (Nat.le_of_ble_eq_true rfl) rfl rfl d_X0_lookAtPrices_17 ?_
      refine J_iload_n o 1 d_X0_lookAtPrices_20 rfl ?_
      refine J_bipush (v := 9) o d_X0_lookAtPrices_21 bipush_9 ?_
      refine J_imul o d_X0_lookAtPrices_23 ?_
      refine J_iload_n o 2 d_X0_lookAtPrices_24 rfl ?_
      refine J_iadd o d_X0_lookAtPrices_25 ?_
      refine J_aload_n o 0 d_X0_lookAtPrices_26 rfl ?_
      refine J_getR (t := 2) o fl_RX0_46 rfl (Nat.le_of_ble_eq_true rfl) (Nat.le_of_ble_eq_true rfl) rfl rfl d_X0_lookAtPrices_27 ?_
      refine J_iload_n o 2 d_X0_lookAtPrices_30 rfl ?_
      refine J_aload_n o 0 d_X0_lookAtPrices_31 rfl ?_
      refine J_getR (t := 2) o fl_RX0_46 rfl (Nat.le_of_ble_eq_true rfl) (Nat.le_of_ble_eq_true rfl) rfl rfl d_X0_lookAtPrices_32 ?_
      refine J_getI o fl_RX0_83 (W_kd W_2) (Nat.zero_le _) (W_hi W_2) rfl d_X0_lookAtPrices_35 ?_
      refine J_iload_n o 1 d_X0_lookAtPrices_38 rfl ?_
      refine J_iadd o d_X0_lookAtPrices_39 ?_
      refine J_callV (k := 2) (c := 3) o [.int l2, .int ((σ 2 2) + l1)] (W_kd W_2) (by decide) (Nat.zero_le _) (W_hi W_2) mth_X3_priceOf iv_X3_priceOf ml_RX0_95 ⟨Nat.le_of_ble_eq_true rfl, Nat.le_of_ble_eq_true rfl⟩ rfl rfl (Nat.le_of_ble_eq_true rfl) ⟨Nat.le_refl _, Nat.le_refl _⟩ d_X0_lookAtPrices_40 (w_X3_priceOf (xL x) b W_2 h) (aI (fun r40 s40 h => ?_))
      have b43 := h.1
      replace h := h.2
      refine J_iast o A_23 (vpc (rfl : ln 23 = 540) b43) d_X0_lookAtPrices_43 ?_
      refine J_nS (fun s43 es43 => ?_)
      replace h := h s43 es43
      refine J_iinc (lv' := [(2, .int (l2 + 1)), (0, .ref (wB (wC b) + 19)), (1, .int l1)]) o 2 d_X0_lookAtPrices_44 (by decide) rfl iconst_1 rfl ?_
      refine J_goto o 10 d_X0_lookAtPrices_47 rfl ?_
      refine J_sub [1, 2, 0] rfl ?_
      exact ih l1 (l2 + 1) s43  h
set_option maxHeartbeats 4000000 in
set_option maxRecDepth 20000 in
theorem c_X0_lookAtPrices_2 {x : Cx} {b : Wy} (o : Ok x (wC b) cX0_lookAtPrices 3 RX0 none rm_X0_lookAtPrices)  {K : Sg → Prop}   : ∀ (n : Nat) (l1 : Int32) (σ : Sg), m_X0_lookAtPrices_l2  K  n l1 σ → J x (wC b) (FinC x (wC b) (PV K) (0, 0)) 2 [(0, .ref (wB (wC b) + 19)), (1, .int l1)] [] (0, 0) σ := by
  intro n
  induction n with
  | zero =>
    intro l1 σ  h
    exact False.elim h
  | succ n ih =>
    intro l1 σ  h
    unfold m_X0_lookAtPrices_l2 at h
    refine J_iload_n o 1 d_X0_lookAtPrices_2 rfl ?_
    refine J_bipush (v := 60) o d_X0_lookAtPrices_3 bipush_60 ?_
    refine J_icmp_ge o 56 d_X0_lookAtPrices_5 rfl (fun c5 => ?_) (fun c5 => ?_)
    · replace h := h.1 c5
      exact J_vret o d_X0_lookAtPrices_56 ⟨rfl, h⟩
    · replace h := h.2 c5
      refine J_iconst (v := 0) o d_X0_lookAtPrices_8 iconst_0 ?_
      refine J_istore_n (lv' := [(2, .int 0), (0, .ref (wB (wC b) + 19)), (1, .int l1)]) o d_X0_lookAtPrices_9 (by decide) rfl ?_
      refine J_sub [1, 2, 0] rfl ?_
      obtain ⟨n9, h⟩ := h
      exact c_X0_lookAtPrices_10 o  ih n9 l1 0 σ  h
set_option maxHeartbeats 4000000 in
set_option maxRecDepth 20000 in
theorem w_X0_lookAtPrices (l : Launch) (b : Wy)  {σ : Sg} {K : Sg → Prop}  (h : m_X0_lookAtPrices  σ K) : Ct l (wC b) yX0_lookAtPrices cX0_lookAtPrices 3 none rm_X0_lookAtPrices [.ref (wB (wC b) + 19)] σ (PV K) := by
  unfold m_X0_lookAtPrices at h
  refine Ct.of (own := RX0) (by decide +kernel) rfl (Nat.le_of_ble_eq_true rfl) (fun x hx o => ?_)
  subst hx
  show J x (wC b) (FinC x (wC b) (PV K) (0, 0)) 0 [(0, .ref (wB (wC b) + 19))] [] (0, 0) σ
  refine J_iconst (v := 0) o d_X0_lookAtPrices_0 iconst_0 ?_
  refine J_istore_n (lv' := [(1, .int 0), (0, .ref (wB (wC b) + 19))]) o d_X0_lookAtPrices_1 (by decide) rfl ?_
  refine J_sub [1, 0] rfl ?_
  obtain ⟨n9, h⟩ := h
  exact c_X0_lookAtPrices_2 o   n9 0 σ  h
theorem d_X0_refresh_0 : decode cX0_refresh 0 = .ok (.aload_n 0, 1) := by decide +kernel
theorem d_X0_refresh_1 : decode cX0_refresh 1 = .ok (.getfield 42, 3) := by decide +kernel
theorem d_X0_refresh_4 : decode cX0_refresh 4 = .ok (.ifCond .eq 4, 3) := by decide +kernel
theorem d_X0_refresh_7 : decode cX0_refresh 7 = .ok (.return_, 1) := by decide +kernel
theorem d_X0_refresh_8 : decode cX0_refresh 8 = .ok (.aload_n 0, 1) := by decide +kernel
theorem d_X0_refresh_9 : decode cX0_refresh 9 = .ok (.iconst 1, 1) := by decide +kernel
theorem d_X0_refresh_10 : decode cX0_refresh 10 = .ok (.putfield 42, 3) := by decide +kernel
theorem d_X0_refresh_13 : decode cX0_refresh 13 = .ok (.aload_n 0, 1) := by decide +kernel
theorem d_X0_refresh_14 : decode cX0_refresh 14 = .ok (.aload_n 0, 1) := by decide +kernel
theorem d_X0_refresh_15 : decode cX0_refresh 15 = .ok (.getfield 46, 3) := by decide +kernel
theorem d_X0_refresh_18 : decode cX0_refresh 18 = .ok (.getfield 51, 3) := by decide +kernel
theorem d_X0_refresh_21 : decode cX0_refresh 21 = .ok (.aload_n 0, 1) := by decide +kernel
theorem d_X0_refresh_22 : decode cX0_refresh 22 = .ok (.getfield 46, 3) := by decide +kernel
theorem d_X0_refresh_25 : decode cX0_refresh 25 = .ok (.getfield 56, 3) := by decide +kernel
theorem d_X0_refresh_28 : decode cX0_refresh 28 = .ok (.imul, 1) := by decide +kernel
theorem d_X0_refresh_29 : decode cX0_refresh 29 = .ok (.sipush 240, 3) := by decide +kernel
theorem d_X0_refresh_32 : decode cX0_refresh 32 = .ok (.invokestatic 59, 3) := by decide +kernel
theorem d_X0_refresh_35 : decode cX0_refresh 35 = .ok (.putfield 38, 3) := by decide +kernel
theorem d_X0_refresh_38 : decode cX0_refresh 38 = .ok (.iconst 0, 1) := by decide +kernel
theorem d_X0_refresh_39 : decode cX0_refresh 39 = .ok (.istore_n 1, 1) := by decide +kernel
theorem d_X0_refresh_40 : decode cX0_refresh 40 = .ok (.iload_n 1, 1) := by decide +kernel
theorem d_X0_refresh_41 : decode cX0_refresh 41 = .ok (.aload_n 0, 1) := by decide +kernel
theorem d_X0_refresh_42 : decode cX0_refresh 42 = .ok (.getfield 26, 3) := by decide +kernel
theorem d_X0_refresh_45 : decode cX0_refresh 45 = .ok (.arraylength, 1) := by decide +kernel
theorem d_X0_refresh_46 : decode cX0_refresh 46 = .ok (.if_icmp .ge 18, 3) := by decide +kernel
theorem d_X0_refresh_49 : decode cX0_refresh 49 = .ok (.aload_n 0, 1) := by decide +kernel
theorem d_X0_refresh_50 : decode cX0_refresh 50 = .ok (.getfield 26, 3) := by decide +kernel
theorem d_X0_refresh_53 : decode cX0_refresh 53 = .ok (.iload_n 1, 1) := by decide +kernel
theorem d_X0_refresh_54 : decode cX0_refresh 54 = .ok (.aaload, 1) := by decide +kernel
theorem d_X0_refresh_55 : decode cX0_refresh 55 = .ok (.invokevirtual 65, 3) := by decide +kernel
theorem d_X0_refresh_58 : decode cX0_refresh 58 = .ok (.iinc 1 1, 3) := by decide +kernel
theorem d_X0_refresh_61 : decode cX0_refresh 61 = .ok (.goto (-21), 3) := by decide +kernel
theorem d_X0_refresh_64 : decode cX0_refresh 64 = .ok (.aload_n 0, 1) := by decide +kernel
theorem d_X0_refresh_65 : decode cX0_refresh 65 = .ok (.invokevirtual 68, 3) := by decide +kernel
theorem d_X0_refresh_68 : decode cX0_refresh 68 = .ok (.aload_n 0, 1) := by decide +kernel
theorem d_X0_refresh_69 : decode cX0_refresh 69 = .ok (.invokevirtual 71, 3) := by decide +kernel
theorem d_X0_refresh_72 : decode cX0_refresh 72 = .ok (.aload_n 0, 1) := by decide +kernel
theorem d_X0_refresh_73 : decode cX0_refresh 73 = .ok (.invokevirtual 74, 3) := by decide +kernel
theorem d_X0_refresh_76 : decode cX0_refresh 76 = .ok (.return_, 1) := by decide +kernel
abbrev rm_X0_refresh : Room := { frames := 5, cells := 0, slots := 0, locals := 117 }
set_option maxHeartbeats 4000000 in
set_option maxRecDepth 20000 in
theorem c_X0_refresh_40 {x : Cx} {b : Wy} (o : Ok x (wC b) cX0_refresh 2 RX0 none rm_X0_refresh)  {K : Sg → Prop}   : ∀ (n : Nat) (l1 : Int32) (σ : Sg), m_X0_refresh_l40  K  n l1 σ → J x (wC b) (FinC x (wC b) (PV K) (0, 0)) 40 [(0, .ref (wB (wC b) + 19)), (1, .int l1)] [] (0, 0) σ := by
  intro n
  induction n with
  | zero =>
    intro l1 σ  h
    exact False.elim h
  | succ n ih =>
    intro l1 σ  h
    unfold m_X0_refresh_l40 at h
    refine J_iload_n o 1 d_X0_refresh_40 rfl ?_
    refine J_aload_n o 0 d_X0_refresh_41 rfl ?_
    refine J_getR (t := 24) o fl_RX0_26 rfl (Nat.le_of_ble_eq_true rfl) (Nat.le_of_ble_eq_true rfl) rfl rfl d_X0_refresh_42 ?_
    refine J_alenR o 0 (by decide) rfl (Nat.le_of_ble_eq_true rfl) (Nat.le_of_ble_eq_true rfl) d_X0_refresh_45 ?_
    refine J_icmp_ge o 64 d_X0_refresh_46 rfl (fun c46 => ?_) (fun c46 => ?_)
    · replace h := h.1 c46
      refine J_aload_n o 0 d_X0_refresh_64 rfl ?_
      refine J_callV (k := 19) (c := 0) o [] rfl (by decide) (Nat.le_of_ble_eq_true rfl) (Nat.le_of_ble_eq_true rfl) mth_X0_lookAtPaths iv_X0_lookAtPaths ml_RX0_68 ⟨Nat.le_of_ble_eq_true rfl, Nat.le_of_ble_eq_true rfl⟩ rfl rfl (Nat.le_of_ble_eq_true rfl) ⟨Nat.le_refl _, Nat.le_refl _⟩ d_X0_refresh_65 (w_X0_lookAtPaths (xL x) b  h) (aV (fun s65 h => ?_))
      refine J_aload_n o 0 d_X0_refresh_68 rfl ?_
      refine J_callV (k := 19) (c := 0) o [] rfl (by decide) (Nat.le_of_ble_eq_true rfl) (Nat.le_of_ble_eq_true rfl) mth_X0_lookAtCourses iv_X0_lookAtCourses ml_RX0_71 ⟨Nat.le_of_ble_eq_true rfl, Nat.le_of_ble_eq_true rfl⟩ rfl rfl (Nat.le_of_ble_eq_true rfl) ⟨Nat.le_refl _, Nat.le_refl _⟩ d_X0_refresh_69 (w_X0_lookAtCourses (xL x) b  h) (aV (fun s69 h => ?_))
      refine J_aload_n o 0 d_X0_refresh_72 rfl ?_
      refine J_callV (k := 19) (c := 0) o [] rfl (by decide) (Nat.le_of_ble_eq_true rfl) (Nat.le_of_ble_eq_true rfl) mth_X0_lookAtPrices iv_X0_lookAtPrices ml_RX0_74 ⟨Nat.le_of_ble_eq_true rfl, Nat.le_of_ble_eq_true rfl⟩ rfl rfl (Nat.le_of_ble_eq_true rfl) ⟨Nat.le_refl _, Nat.le_refl _⟩ d_X0_refresh_73 (w_X0_lookAtPrices (xL x) b  h) (aV (fun s73 h => ?_))
      exact J_vret o d_X0_refresh_76 ⟨rfl, h⟩
    · replace h := h.2 c46
      refine J_aload_n o 0 d_X0_refresh_49 rfl ?_
      refine J_getR (t := 24) o fl_RX0_26 rfl (Nat.le_of_ble_eq_true rfl) (Nat.le_of_ble_eq_true rfl) rfl rfl d_X0_refresh_50 ?_
      refine J_iload_n o 1 d_X0_refresh_53 rfl ?_
      have b54 := h.1
      replace h := h.2
      refine J_aald (t := (90 + 64 * l1.toNatClampNeg)) o 0 (by decide) rfl (Nat.le_of_ble_eq_true rfl) (Nat.le_of_ble_eq_true rfl) (vpc rfl b54) rfl d_X0_refresh_54 ?_
      refine J_callV (k := (90 + 64 * l1.toNatClampNeg)) (c := 1) o [] (S_kd (S_at b54)) (by decide) (Nat.zero_le _) (S_hi (S_at b54)) mth_X1_forget iv_X1_forget ml_RX0_65 ⟨Nat.le_of_ble_eq_true rfl, Nat.le_of_ble_eq_true rfl⟩ rfl rfl (Nat.le_of_ble_eq_true rfl) ⟨Nat.le_refl _, Nat.le_refl _⟩ d_X0_refresh_55 (w_X1_forget (xL x) b (S_at b54) h) (aV (fun s55 h => ?_))
      refine J_iinc (lv' := [(1, .int (l1 + 1)), (0, .ref (wB (wC b) + 19))]) o 1 d_X0_refresh_58 (by decide) rfl iconst_1 rfl ?_
      refine J_goto o 40 d_X0_refresh_61 rfl ?_
      refine J_sub [1, 0] rfl ?_
      exact ih (l1 + 1) s55  h
set_option maxHeartbeats 4000000 in
set_option maxRecDepth 20000 in
theorem w_X0_refresh (l : Launch) (b : Wy)  {σ : Sg} {K : Sg → Prop}  (h : m_X0_refresh  σ K) : Ct l (wC b) yX0_refresh cX0_refresh 2 none rm_X0_refresh [.ref (wB (wC b) + 19)] σ (PV K) := by
  unfold m_X0_refresh at h
  refine Ct.of (own := RX0) (by decide +kernel) rfl (Nat.le_of_ble_eq_true rfl) (fun x hx o => ?_)
  subst hx
  show J x (wC b) (FinC x (wC b) (PV K) (0, 0)) 0 [(0, .ref (wB (wC b) + 19))] [] (0, 0) σ
  refine J_aload_n o 0 d_X0_refresh_0 rfl ?_
  refine J_getI o fl_RX0_42 rfl (Nat.le_of_ble_eq_true rfl) (Nat.le_of_ble_eq_true rfl) rfl d_X0_refresh_1 ?_
  refine J_if_eq o 8 d_X0_refresh_4 rfl (fun c4 => ?_) (fun c4 => ?_)
  · replace h := h.1 c4
    refine J_aload_n o 0 d_X0_refresh_8 rfl ?_
    refine J_iconst (v := 1) o d_X0_refresh_9 iconst_1 ?_
    refine J_put o fl_RX0_42 la_0 rfl (Nat.le_of_ble_eq_true rfl) (Nat.le_of_ble_eq_true rfl) rfl rfl rfl rfl d_X0_refresh_10 ?_
    refine J_nS (fun s10 es10 => ?_)
    replace h := h s10 es10
    refine J_aload_n o 0 d_X0_refresh_13 rfl ?_
    refine J_aload_n o 0 d_X0_refresh_14 rfl ?_
    refine J_getR (t := 2) o fl_RX0_46 rfl (Nat.le_of_ble_eq_true rfl) (Nat.le_of_ble_eq_true rfl) rfl rfl d_X0_refresh_15 ?_
    refine J_getI o fl_RX0_51 (W_kd W_2) (Nat.zero_le _) (W_hi W_2) rfl d_X0_refresh_18 ?_
    refine J_aload_n o 0 d_X0_refresh_21 rfl ?_
    refine J_getR (t := 2) o fl_RX0_46 rfl (Nat.le_of_ble_eq_true rfl) (Nat.le_of_ble_eq_true rfl) rfl rfl d_X0_refresh_22 ?_
    refine J_getI o fl_RX0_56 (W_kd W_2) (Nat.zero_le _) (W_hi W_2) rfl d_X0_refresh_25 ?_
    refine J_imul o d_X0_refresh_28 ?_
    refine J_sipush (v := 240) o d_X0_refresh_29 sipush_240 ?_
    refine J_min o mm_RX0_59 ms_min mi_math mc_min ⟨Nat.le_of_ble_eq_true rfl, Nat.le_of_ble_eq_true rfl, Nat.le_of_ble_eq_true rfl, Nat.le_of_ble_eq_true rfl⟩ d_X0_refresh_32 ?_
    refine J_put o fl_RX0_38 la_0 rfl (Nat.le_of_ble_eq_true rfl) (Nat.le_of_ble_eq_true rfl) rfl rfl rfl rfl d_X0_refresh_35 ?_
    refine J_nS (fun s35 es35 => ?_)
    replace h := h s35 es35
    refine J_iconst (v := 0) o d_X0_refresh_38 iconst_0 ?_
    refine J_istore_n (lv' := [(1, .int 0), (0, .ref (wB (wC b) + 19))]) o d_X0_refresh_39 (by decide) rfl ?_
    refine J_sub [1, 0] rfl ?_
    obtain ⟨n9, h⟩ := h
    exact c_X0_refresh_40 o   n9 0 s35  h
  · replace h := h.2 c4
    exact J_vret o d_X0_refresh_7 ⟨rfl, h⟩
theorem d_X0_sailingOf_0 : decode cX0_sailingOf 0 = .ok (.aload_n 0, 1) := by decide +kernel
theorem d_X0_sailingOf_1 : decode cX0_sailingOf 1 = .ok (.getfield 26, 3) := by decide +kernel
theorem d_X0_sailingOf_4 : decode cX0_sailingOf 4 = .ok (.iconst 0, 1) := by decide +kernel
theorem d_X0_sailingOf_5 : decode cX0_sailingOf 5 = .ok (.iload_n 1, 1) := by decide +kernel
theorem d_X0_sailingOf_6 : decode cX0_sailingOf 6 = .ok (.aload_n 0, 1) := by decide +kernel
theorem d_X0_sailingOf_7 : decode cX0_sailingOf 7 = .ok (.getfield 26, 3) := by decide +kernel
theorem d_X0_sailingOf_10 : decode cX0_sailingOf 10 = .ok (.arraylength, 1) := by decide +kernel
theorem d_X0_sailingOf_11 : decode cX0_sailingOf 11 = .ok (.iconst 1, 1) := by decide +kernel
theorem d_X0_sailingOf_12 : decode cX0_sailingOf 12 = .ok (.isub, 1) := by decide +kernel
theorem d_X0_sailingOf_13 : decode cX0_sailingOf 13 = .ok (.invokestatic 59, 3) := by decide +kernel
theorem d_X0_sailingOf_16 : decode cX0_sailingOf 16 = .ok (.invokestatic 117, 3) := by decide +kernel
theorem d_X0_sailingOf_19 : decode cX0_sailingOf 19 = .ok (.aaload, 1) := by decide +kernel
theorem d_X0_sailingOf_20 : decode cX0_sailingOf 20 = .ok (.areturn, 1) := by decide +kernel
abbrev rm_X0_sailingOf : Room := { frames := 1, cells := 0, slots := 0, locals := 21 }
set_option maxHeartbeats 4000000 in
set_option maxRecDepth 20000 in
theorem w_X0_sailingOf (l : Launch) (b : Wy) {v1 : Int32} {σ : Sg} {K : Nat → Sg → Prop}  (h : m_X0_sailingOf v1 σ K) : Ct l (wC b) yX0_sailingOf cX0_sailingOf 2 (some (.object "SeaMeeting$Sailing")) rm_X0_sailingOf [.ref (wB (wC b) + 19), .int v1] σ (PA (wC b) IsS K) := by
  unfold m_X0_sailingOf at h
  refine Ct.of (own := RX0) (by decide +kernel) rfl (Nat.le_of_ble_eq_true rfl) (fun x hx o => ?_)
  subst hx
  show J x (wC b) (FinC x (wC b) (PA (wC b) IsS K) (0, 0)) 0 [(0, .ref (wB (wC b) + 19)), (1, .int v1)] [] (0, 0) σ
  refine J_aload_n o 0 d_X0_sailingOf_0 rfl ?_
  refine J_getR (t := 24) o fl_RX0_26 rfl (Nat.le_of_ble_eq_true rfl) (Nat.le_of_ble_eq_true rfl) rfl rfl d_X0_sailingOf_1 ?_
  refine J_iconst (v := 0) o d_X0_sailingOf_4 iconst_0 ?_
  refine J_iload_n o 1 d_X0_sailingOf_5 rfl ?_
  refine J_aload_n o 0 d_X0_sailingOf_6 rfl ?_
  refine J_getR (t := 24) o fl_RX0_26 rfl (Nat.le_of_ble_eq_true rfl) (Nat.le_of_ble_eq_true rfl) rfl rfl d_X0_sailingOf_7 ?_
  refine J_alenR o 0 (by decide) rfl (Nat.le_of_ble_eq_true rfl) (Nat.le_of_ble_eq_true rfl) d_X0_sailingOf_10 ?_
  refine J_iconst (v := 1) o d_X0_sailingOf_11 iconst_1 ?_
  refine J_isub o d_X0_sailingOf_12 ?_
  refine J_min o mm_RX0_59 ms_min mi_math mc_min ⟨Nat.le_of_ble_eq_true rfl, Nat.le_of_ble_eq_true rfl, Nat.le_of_ble_eq_true rfl, Nat.le_of_ble_eq_true rfl⟩ d_X0_sailingOf_13 ?_
  refine J_max o mm_RX0_117 ms_max mi_math mc_max ⟨Nat.le_of_ble_eq_true rfl, Nat.le_of_ble_eq_true rfl, Nat.le_of_ble_eq_true rfl, Nat.le_of_ble_eq_true rfl⟩ d_X0_sailingOf_16 ?_
  have b19 := h.1
  replace h := h.2
  refine J_aald (t := (90 + 64 * (if 0 < (if ((Int32.ofNat 3) - 1) < v1 then ((Int32.ofNat 3) - 1) else v1) then (if ((Int32.ofNat 3) - 1) < v1 then ((Int32.ofNat 3) - 1) else v1) else 0).toNatClampNeg)) o 0 (by decide) rfl (Nat.le_of_ble_eq_true rfl) (Nat.le_of_ble_eq_true rfl) (vpc rfl b19) rfl d_X0_sailingOf_19 ?_
  exact J_aret o (Or.inl ⟨_, rfl⟩) d_X0_sailingOf_20 ⟨_, rfl, (S_at b19), h⟩
theorem d_X0_begin_0 : decode cX0_begin 0 = .ok (.aload_n 0, 1) := by decide +kernel
theorem d_X0_begin_1 : decode cX0_begin 1 = .ok (.iconst (-1), 1) := by decide +kernel
theorem d_X0_begin_2 : decode cX0_begin 2 = .ok (.invokestatic 137, 3) := by decide +kernel
theorem d_X0_begin_5 : decode cX0_begin 5 = .ok (.aload_n 0, 1) := by decide +kernel
theorem d_X0_begin_6 : decode cX0_begin 6 = .ok (.iload_n 1, 1) := by decide +kernel
theorem d_X0_begin_7 : decode cX0_begin 7 = .ok (.iload_n 2, 1) := by decide +kernel
theorem d_X0_begin_8 : decode cX0_begin 8 = .ok (.invokestatic 143, 3) := by decide +kernel
theorem d_X0_begin_11 : decode cX0_begin 11 = .ok (.return_, 1) := by decide +kernel
abbrev rm_X0_begin : Room := { frames := 1, cells := 0, slots := 0, locals := 23 }
set_option maxHeartbeats 4000000 in
set_option maxRecDepth 20000 in
theorem w_X0_begin (l : Launch) (b : Wy) {v0 : Nat} {v1 : Int32} {v2 : Int32} {σ : Sg} {K : Sg → Prop} (hv0 : IsA (wC b) v0) (h : m_X0_begin v0 v1 v2 σ K) : Ct l (wC b) yX0_begin cX0_begin 3 none rm_X0_begin [.ref (wB (wC b) + v0), .int v1, .int v2] σ (PV K) := by
  unfold m_X0_begin at h
  refine Ct.of (own := RX0) (by decide +kernel) rfl (Nat.le_of_ble_eq_true rfl) (fun x hx o => ?_)
  subst hx
  show J x (wC b) (FinC x (wC b) (PV K) (0, 0)) 0 [(0, .ref (wB (wC b) + v0)), (1, .int v1), (2, .int v2)] [] (0, 0) σ
  refine J_aload_n o 0 d_X0_begin_0 rfl ?_
  refine J_iconst (v := (-1)) o d_X0_begin_1 iconst_m1 ?_
  refine J_callS o [.ref (wB (wC b) + v0), .int (-1)] mth_J7_fill_53178 st_J7_fill_53178 ml_RX0_137 ⟨Nat.le_of_ble_eq_true rfl, Nat.le_of_ble_eq_true rfl⟩ rfl rfl (Nat.le_of_ble_eq_true rfl) ⟨Nat.le_refl _, Nat.le_refl _⟩ d_X0_begin_2 (w_J7_fill_53178 (xL x) b hv0 h) (aV (fun s2 h => ?_))
  refine J_aload_n o 0 d_X0_begin_5 rfl ?_
  refine J_iload_n o 1 d_X0_begin_6 rfl ?_
  refine J_iload_n o 2 d_X0_begin_7 rfl ?_
  refine J_callSN o [.ref (wB (wC b) + v0), .int v1, .int v2] mth_X4_write st_X4_write mn_RX0_143 ⟨Nat.le_of_ble_eq_true rfl, Nat.le_of_ble_eq_true rfl⟩ rfl rfl (Nat.le_of_ble_eq_true rfl) ⟨Nat.le_refl _, Nat.le_refl _⟩ d_X0_begin_8 (w_X4_write (xL x) b hv0 h) (aV (fun s8 h => ?_))
  exact J_vret o d_X0_begin_11 ⟨rfl, h⟩
theorem d_X0_sailFrom_0 : decode cX0_sailFrom 0 = .ok (.iload_n 1, 1) := by decide +kernel
theorem d_X0_sailFrom_1 : decode cX0_sailFrom 1 = .ok (.bipush 9, 2) := by decide +kernel
theorem d_X0_sailFrom_3 : decode cX0_sailFrom 3 = .ok (.imul, 1) := by decide +kernel
theorem d_X0_sailFrom_4 : decode cX0_sailFrom 4 = .ok (.istore 6, 2) := by decide +kernel
theorem d_X0_sailFrom_6 : decode cX0_sailFrom 6 = .ok (.iload 4, 2) := by decide +kernel
theorem d_X0_sailFrom_8 : decode cX0_sailFrom 8 = .ok (.bipush 9, 2) := by decide +kernel
theorem d_X0_sailFrom_10 : decode cX0_sailFrom 10 = .ok (.imul, 1) := by decide +kernel
theorem d_X0_sailFrom_11 : decode cX0_sailFrom 11 = .ok (.istore 7, 2) := by decide +kernel
theorem d_X0_sailFrom_13 : decode cX0_sailFrom 13 = .ok (.iload 6, 2) := by decide +kernel
theorem d_X0_sailFrom_15 : decode cX0_sailFrom 15 = .ok (.ifCond .lt 34, 3) := by decide +kernel
theorem d_X0_sailFrom_18 : decode cX0_sailFrom 18 = .ok (.iload 6, 2) := by decide +kernel
theorem d_X0_sailFrom_20 : decode cX0_sailFrom 20 = .ok (.bipush 9, 2) := by decide +kernel
theorem d_X0_sailFrom_22 : decode cX0_sailFrom 22 = .ok (.iadd, 1) := by decide +kernel
theorem d_X0_sailFrom_23 : decode cX0_sailFrom 23 = .ok (.aload_n 0, 1) := by decide +kernel
theorem d_X0_sailFrom_24 : decode cX0_sailFrom 24 = .ok (.getfield 18, 3) := by decide +kernel
theorem d_X0_sailFrom_27 : decode cX0_sailFrom 27 = .ok (.arraylength, 1) := by decide +kernel
theorem d_X0_sailFrom_28 : decode cX0_sailFrom 28 = .ok (.if_icmp .gt 21, 3) := by decide +kernel
theorem d_X0_sailFrom_31 : decode cX0_sailFrom 31 = .ok (.iload 7, 2) := by decide +kernel
theorem d_X0_sailFrom_33 : decode cX0_sailFrom 33 = .ok (.ifCond .lt 16, 3) := by decide +kernel
theorem d_X0_sailFrom_36 : decode cX0_sailFrom 36 = .ok (.iload 7, 2) := by decide +kernel
theorem d_X0_sailFrom_38 : decode cX0_sailFrom 38 = .ok (.bipush 9, 2) := by decide +kernel
theorem d_X0_sailFrom_40 : decode cX0_sailFrom 40 = .ok (.iadd, 1) := by decide +kernel
theorem d_X0_sailFrom_41 : decode cX0_sailFrom 41 = .ok (.aload_n 0, 1) := by decide +kernel
theorem d_X0_sailFrom_42 : decode cX0_sailFrom 42 = .ok (.getfield 21, 3) := by decide +kernel
theorem d_X0_sailFrom_45 : decode cX0_sailFrom 45 = .ok (.arraylength, 1) := by decide +kernel
theorem d_X0_sailFrom_46 : decode cX0_sailFrom 46 = .ok (.if_icmp .le 4, 3) := by decide +kernel
theorem d_X0_sailFrom_49 : decode cX0_sailFrom 49 = .ok (.return_, 1) := by decide +kernel
theorem d_X0_sailFrom_50 : decode cX0_sailFrom 50 = .ok (.iconst 0, 1) := by decide +kernel
theorem d_X0_sailFrom_51 : decode cX0_sailFrom 51 = .ok (.istore 8, 2) := by decide +kernel
theorem d_X0_sailFrom_53 : decode cX0_sailFrom 53 = .ok (.iload 8, 2) := by decide +kernel
theorem d_X0_sailFrom_55 : decode cX0_sailFrom 55 = .ok (.bipush 9, 2) := by decide +kernel
theorem d_X0_sailFrom_57 : decode cX0_sailFrom 57 = .ok (.if_icmp .ge 65, 3) := by decide +kernel
theorem d_X0_sailFrom_60 : decode cX0_sailFrom 60 = .ok (.aload_n 0, 1) := by decide +kernel
theorem d_X0_sailFrom_61 : decode cX0_sailFrom 61 = .ok (.getfield 18, 3) := by decide +kernel
theorem d_X0_sailFrom_64 : decode cX0_sailFrom 64 = .ok (.iload 6, 2) := by decide +kernel
theorem d_X0_sailFrom_66 : decode cX0_sailFrom 66 = .ok (.iload 8, 2) := by decide +kernel
theorem d_X0_sailFrom_68 : decode cX0_sailFrom 68 = .ok (.iadd, 1) := by decide +kernel
theorem d_X0_sailFrom_69 : decode cX0_sailFrom 69 = .ok (.iaload, 1) := by decide +kernel
theorem d_X0_sailFrom_70 : decode cX0_sailFrom 70 = .ok (.istore 9, 2) := by decide +kernel
theorem d_X0_sailFrom_72 : decode cX0_sailFrom 72 = .ok (.iload_n 2, 1) := by decide +kernel
theorem d_X0_sailFrom_73 : decode cX0_sailFrom 73 = .ok (.iload 5, 2) := by decide +kernel
theorem d_X0_sailFrom_75 : decode cX0_sailFrom 75 = .ok (.aload_n 0, 1) := by decide +kernel
theorem d_X0_sailFrom_76 : decode cX0_sailFrom 76 = .ok (.getfield 21, 3) := by decide +kernel
theorem d_X0_sailFrom_79 : decode cX0_sailFrom 79 = .ok (.iload 7, 2) := by decide +kernel
theorem d_X0_sailFrom_81 : decode cX0_sailFrom 81 = .ok (.iload 8, 2) := by decide +kernel
theorem d_X0_sailFrom_83 : decode cX0_sailFrom 83 = .ok (.iadd, 1) := by decide +kernel
theorem d_X0_sailFrom_84 : decode cX0_sailFrom 84 = .ok (.iaload, 1) := by decide +kernel
theorem d_X0_sailFrom_85 : decode cX0_sailFrom 85 = .ok (.imul, 1) := by decide +kernel
theorem d_X0_sailFrom_86 : decode cX0_sailFrom 86 = .ok (.isub, 1) := by decide +kernel
theorem d_X0_sailFrom_87 : decode cX0_sailFrom 87 = .ok (.istore 10, 2) := by decide +kernel
theorem d_X0_sailFrom_89 : decode cX0_sailFrom 89 = .ok (.iload 9, 2) := by decide +kernel
theorem d_X0_sailFrom_91 : decode cX0_sailFrom 91 = .ok (.ifCond .lt 25, 3) := by decide +kernel
theorem d_X0_sailFrom_94 : decode cX0_sailFrom 94 = .ok (.iload 9, 2) := by decide +kernel
theorem d_X0_sailFrom_96 : decode cX0_sailFrom 96 = .ok (.aload_n 3, 1) := by decide +kernel
theorem d_X0_sailFrom_97 : decode cX0_sailFrom 97 = .ok (.arraylength, 1) := by decide +kernel
theorem d_X0_sailFrom_98 : decode cX0_sailFrom 98 = .ok (.if_icmp .ge 18, 3) := by decide +kernel
theorem d_X0_sailFrom_101 : decode cX0_sailFrom 101 = .ok (.iload 10, 2) := by decide +kernel
theorem d_X0_sailFrom_103 : decode cX0_sailFrom 103 = .ok (.aload_n 3, 1) := by decide +kernel
theorem d_X0_sailFrom_104 : decode cX0_sailFrom 104 = .ok (.iload 9, 2) := by decide +kernel
theorem d_X0_sailFrom_106 : decode cX0_sailFrom 106 = .ok (.iaload, 1) := by decide +kernel
theorem d_X0_sailFrom_107 : decode cX0_sailFrom 107 = .ok (.if_icmp .le 9, 3) := by decide +kernel
theorem d_X0_sailFrom_110 : decode cX0_sailFrom 110 = .ok (.aload_n 3, 1) := by decide +kernel
theorem d_X0_sailFrom_111 : decode cX0_sailFrom 111 = .ok (.iload 9, 2) := by decide +kernel
theorem d_X0_sailFrom_113 : decode cX0_sailFrom 113 = .ok (.iload 10, 2) := by decide +kernel
theorem d_X0_sailFrom_115 : decode cX0_sailFrom 115 = .ok (.iastore, 1) := by decide +kernel
theorem d_X0_sailFrom_116 : decode cX0_sailFrom 116 = .ok (.iinc 8 1, 3) := by decide +kernel
theorem d_X0_sailFrom_119 : decode cX0_sailFrom 119 = .ok (.goto (-66), 3) := by decide +kernel
theorem d_X0_sailFrom_122 : decode cX0_sailFrom 122 = .ok (.return_, 1) := by decide +kernel
abbrev rm_X0_sailFrom : Room := { frames := 0, cells := 0, slots := 0, locals := 0 }
set_option maxHeartbeats 4000000 in
set_option maxRecDepth 20000 in
theorem c_X0_sailFrom_53 {x : Cx} {b : Wy} (o : Ok x (wC b) cX0_sailFrom 11 RX0 none rm_X0_sailFrom) {v1 : Int32} {v2 : Int32} {v3 : Nat} {v4 : Int32} {v5 : Int32} {K : Sg → Prop}  (hv3 : IsA (wC b) v3) : ∀ (n : Nat) (l6 : Int32) (l7 : Int32) (l8 : Int32) (σ : Sg), m_X0_sailFrom_l53 v1 v2 v3 v4 v5 K  n l6 l7 l8 σ → J x (wC b) (FinC x (wC b) (PV K) (0, 0)) 53 [(0, .ref (wB (wC b) + 19)), (2, .int v2), (3, .ref (wB (wC b) + v3)), (5, .int v5), (6, .int l6), (7, .int l7), (8, .int l8)] [] (0, 0) σ := by
  intro n
  induction n with
  | zero =>
    intro l6 l7 l8 σ  h
    exact False.elim h
  | succ n ih =>
    intro l6 l7 l8 σ  h
    unfold m_X0_sailFrom_l53 at h
    refine J_iload o 6 d_X0_sailFrom_53 rfl ?_
    refine J_bipush (v := 9) o d_X0_sailFrom_55 bipush_9 ?_
    refine J_icmp_ge o 122 d_X0_sailFrom_57 rfl (fun c57 => ?_) (fun c57 => ?_)
    · replace h := h.1 c57
      exact J_vret o d_X0_sailFrom_122 ⟨rfl, h⟩
    · replace h := h.2 c57
      refine J_aload_n o 0 d_X0_sailFrom_60 rfl ?_
      refine J_getR (t := 22) o fl_RX0_18 rfl (Nat.le_of_ble_eq_true rfl) (Nat.le_of_ble_eq_true rfl) rfl rfl d_X0_sailFrom_61 ?_
      refine J_iload o 4 d_X0_sailFrom_64 rfl ?_
      refine J_iload o 6 d_X0_sailFrom_66 rfl ?_
      refine J_iadd o d_X0_sailFrom_68 ?_
      have b69 := h.1
      replace h := h.2
      refine J_iald o A_22 (vpc (rfl : ln 22 = 2160) b69) d_X0_sailFrom_69 ?_
      refine J_top (fun l9_70 el9_70 => ?_)
      replace h := h l9_70 el9_70
      refine J_istore (lv' := [(9, .int l9_70), (0, .ref (wB (wC b) + 19)), (2, .int v2), (3, .ref (wB (wC b) + v3)), (5, .int v5), (6, .int l6), (7, .int l7), (8, .int l8)]) o d_X0_sailFrom_70 (by decide) rfl ?_
      refine J_iload_n o 2 d_X0_sailFrom_72 rfl ?_
      refine J_iload o 4 d_X0_sailFrom_73 rfl ?_
      refine J_aload_n o 1 d_X0_sailFrom_75 rfl ?_
      refine J_getR (t := 23) o fl_RX0_21 rfl (Nat.le_of_ble_eq_true rfl) (Nat.le_of_ble_eq_true rfl) rfl rfl d_X0_sailFrom_76 ?_
      refine J_iload o 6 d_X0_sailFrom_79 rfl ?_
      refine J_iload o 7 d_X0_sailFrom_81 rfl ?_
      refine J_iadd o d_X0_sailFrom_83 ?_
      have b84 := h.1
      replace h := h.2
      refine J_iald o A_23 (vpc (rfl : ln 23 = 540) b84) d_X0_sailFrom_84 ?_
      refine J_imul o d_X0_sailFrom_85 ?_
      refine J_isub o d_X0_sailFrom_86 ?_
      refine J_top (fun l10_87 el10_87 => ?_)
      replace h := h l10_87 el10_87
      refine J_istore (lv' := [(10, .int l10_87), (9, .int l9_70), (0, .ref (wB (wC b) + 19)), (2, .int v2), (3, .ref (wB (wC b) + v3)), (5, .int v5), (6, .int l6), (7, .int l7), (8, .int l8)]) o d_X0_sailFrom_87 (by decide) rfl ?_
      refine J_iload o 1 d_X0_sailFrom_89 rfl ?_
      refine J_if_lt o 116 d_X0_sailFrom_91 rfl (fun c91 => ?_) (fun c91 => ?_)
      · replace h := h.1 c91
        refine J_iinc (lv' := [(8, .int (l8 + 1)), (10, .int l10_87), (9, .int l9_70), (0, .ref (wB (wC b) + 19)), (2, .int v2), (3, .ref (wB (wC b) + v3)), (5, .int v5), (6, .int l6), (7, .int l7)]) o 8 d_X0_sailFrom_116 (by decide) rfl iconst_1 rfl ?_
        refine J_goto o 53 d_X0_sailFrom_119 rfl ?_
        refine J_sub [3, 4, 5, 6, 7, 8, 0] rfl ?_
        exact ih l6 l7 (l8 + 1) σ  h
      · replace h := h.2 c91
        refine J_iload o 1 d_X0_sailFrom_94 rfl ?_
        refine J_aload_n o 4 d_X0_sailFrom_96 rfl ?_
        refine J_alenL o hv3 rfl d_X0_sailFrom_97 ?_
        refine J_icmp_ge o 116 d_X0_sailFrom_98 rfl (fun c98 => ?_) (fun c98 => ?_)
        · replace h := h.1 c98
          refine J_iinc (lv' := [(8, .int (l8 + 1)), (10, .int l10_87), (9, .int l9_70), (0, .ref (wB (wC b) + 19)), (2, .int v2), (3, .ref (wB (wC b) + v3)), (5, .int v5), (6, .int l6), (7, .int l7)]) o 8 d_X0_sailFrom_116 (by decide) rfl iconst_1 rfl ?_
          refine J_goto o 53 d_X0_sailFrom_119 rfl ?_
          refine J_sub [3, 4, 5, 6, 7, 8, 0] rfl ?_
          exact ih l6 l7 (l8 + 1) σ  h
        · replace h := h.2 c98
          refine J_iload o 0 d_X0_sailFrom_101 rfl ?_
          refine J_aload_n o 4 d_X0_sailFrom_103 rfl ?_
          refine J_iload o 1 d_X0_sailFrom_104 rfl ?_
          have b106 := h.1
          replace h := h.2
          refine J_iald o hv3 (vpc rfl b106) d_X0_sailFrom_106 ?_
          refine J_icmp_le o 116 d_X0_sailFrom_107 rfl (fun c107 => ?_) (fun c107 => ?_)
          · replace h := h.1 c107
            refine J_iinc (lv' := [(8, .int (l8 + 1)), (10, .int l10_87), (9, .int l9_70), (0, .ref (wB (wC b) + 19)), (2, .int v2), (3, .ref (wB (wC b) + v3)), (5, .int v5), (6, .int l6), (7, .int l7)]) o 8 d_X0_sailFrom_116 (by decide) rfl iconst_1 rfl ?_
            refine J_goto o 53 d_X0_sailFrom_119 rfl ?_
            refine J_sub [3, 4, 5, 6, 7, 8, 0] rfl ?_
            exact ih l6 l7 (l8 + 1) σ  h
          · replace h := h.2 c107
            refine J_aload_n o 4 d_X0_sailFrom_110 rfl ?_
            refine J_iload o 1 d_X0_sailFrom_111 rfl ?_
            refine J_iload o 0 d_X0_sailFrom_113 rfl ?_
            have b115 := h.1
            replace h := h.2
            refine J_iast o hv3 (vpc rfl b115) d_X0_sailFrom_115 ?_
            refine J_nS (fun s115 es115 => ?_)
            replace h := h s115 es115
            refine J_iinc (lv' := [(8, .int (l8 + 1)), (10, .int l10_87), (9, .int l9_70), (0, .ref (wB (wC b) + 19)), (2, .int v2), (3, .ref (wB (wC b) + v3)), (5, .int v5), (6, .int l6), (7, .int l7)]) o 8 d_X0_sailFrom_116 (by decide) rfl iconst_1 rfl ?_
            refine J_goto o 53 d_X0_sailFrom_119 rfl ?_
            refine J_sub [3, 4, 5, 6, 7, 8, 0] rfl ?_
            exact ih l6 l7 (l8 + 1) s115  h
set_option maxHeartbeats 4000000 in
set_option maxRecDepth 20000 in
theorem w_X0_sailFrom (l : Launch) (b : Wy) {v1 : Int32} {v2 : Int32} {v3 : Nat} {v4 : Int32} {v5 : Int32} {σ : Sg} {K : Sg → Prop} (hv3 : IsA (wC b) v3) (h : m_X0_sailFrom v1 v2 v3 v4 v5 σ K) : Ct l (wC b) yX0_sailFrom cX0_sailFrom 11 none rm_X0_sailFrom [.ref (wB (wC b) + 19), .int v1, .int v2, .ref (wB (wC b) + v3), .int v4, .int v5] σ (PV K) := by
  unfold m_X0_sailFrom at h
  refine Ct.of (own := RX0) (by decide +kernel) rfl (Nat.le_of_ble_eq_true rfl) (fun x hx o => ?_)
  subst hx
  show J x (wC b) (FinC x (wC b) (PV K) (0, 0)) 0 [(0, .ref (wB (wC b) + 19)), (1, .int v1), (2, .int v2), (3, .ref (wB (wC b) + v3)), (4, .int v4), (5, .int v5)] [] (0, 0) σ
  refine J_iload_n o 1 d_X0_sailFrom_0 rfl ?_
  refine J_bipush (v := 9) o d_X0_sailFrom_1 bipush_9 ?_
  refine J_imul o d_X0_sailFrom_3 ?_
  refine J_top (fun l6_4 el6_4 => ?_)
  replace h := h l6_4 el6_4
  refine J_istore (lv' := [(6, .int l6_4), (0, .ref (wB (wC b) + 19)), (1, .int v1), (2, .int v2), (3, .ref (wB (wC b) + v3)), (4, .int v4), (5, .int v5)]) o d_X0_sailFrom_4 (by decide) rfl ?_
  refine J_iload o 5 d_X0_sailFrom_6 rfl ?_
  refine J_bipush (v := 9) o d_X0_sailFrom_8 bipush_9 ?_
  refine J_imul o d_X0_sailFrom_10 ?_
  refine J_top (fun l7_11 el7_11 => ?_)
  replace h := h l7_11 el7_11
  refine J_istore (lv' := [(7, .int l7_11), (6, .int l6_4), (0, .ref (wB (wC b) + 19)), (1, .int v1), (2, .int v2), (3, .ref (wB (wC b) + v3)), (4, .int v4), (5, .int v5)]) o d_X0_sailFrom_11 (by decide) rfl ?_
  refine J_iload o 1 d_X0_sailFrom_13 rfl ?_
  refine J_if_lt o 49 d_X0_sailFrom_15 rfl (fun c15 => ?_) (fun c15 => ?_)
  · replace h := h.1 c15
    exact J_vret o d_X0_sailFrom_49 ⟨rfl, h⟩
  · replace h := h.2 c15
    refine J_iload o 1 d_X0_sailFrom_18 rfl ?_
    refine J_bipush (v := 9) o d_X0_sailFrom_20 bipush_9 ?_
    refine J_iadd o d_X0_sailFrom_22 ?_
    refine J_aload_n o 2 d_X0_sailFrom_23 rfl ?_
    refine J_getR (t := 22) o fl_RX0_18 rfl (Nat.le_of_ble_eq_true rfl) (Nat.le_of_ble_eq_true rfl) rfl rfl d_X0_sailFrom_24 ?_
    refine J_alenL o A_22 (rfl : ln 22 = 2160) d_X0_sailFrom_27 ?_
    refine J_icmp_gt o 49 d_X0_sailFrom_28 rfl (fun c28 => ?_) (fun c28 => ?_)
    · replace h := h.1 c28
      exact J_vret o d_X0_sailFrom_49 ⟨rfl, h⟩
    · replace h := h.2 c28
      refine J_iload o 0 d_X0_sailFrom_31 rfl ?_
      refine J_if_lt o 49 d_X0_sailFrom_33 rfl (fun c33 => ?_) (fun c33 => ?_)
      · replace h := h.1 c33
        exact J_vret o d_X0_sailFrom_49 ⟨rfl, h⟩
      · replace h := h.2 c33
        refine J_iload o 0 d_X0_sailFrom_36 rfl ?_
        refine J_bipush (v := 9) o d_X0_sailFrom_38 bipush_9 ?_
        refine J_iadd o d_X0_sailFrom_40 ?_
        refine J_aload_n o 2 d_X0_sailFrom_41 rfl ?_
        refine J_getR (t := 23) o fl_RX0_21 rfl (Nat.le_of_ble_eq_true rfl) (Nat.le_of_ble_eq_true rfl) rfl rfl d_X0_sailFrom_42 ?_
        refine J_alenL o A_23 (rfl : ln 23 = 540) d_X0_sailFrom_45 ?_
        refine J_icmp_le o 50 d_X0_sailFrom_46 rfl (fun c46 => ?_) (fun c46 => ?_)
        · replace h := h.1 c46
          refine J_iconst (v := 0) o d_X0_sailFrom_50 iconst_0 ?_
          refine J_istore (lv' := [(8, .int 0), (7, .int l7_11), (6, .int l6_4), (0, .ref (wB (wC b) + 19)), (1, .int v1), (2, .int v2), (3, .ref (wB (wC b) + v3)), (4, .int v4), (5, .int v5)]) o d_X0_sailFrom_51 (by decide) rfl ?_
          refine J_sub [3, 5, 6, 8, 2, 1, 0] rfl ?_
          obtain ⟨n9, h⟩ := h
          exact c_X0_sailFrom_53 o hv3  n9 l6_4 l7_11 0 σ  h
        · replace h := h.2 c46
          exact J_vret o d_X0_sailFrom_49 ⟨rfl, h⟩
theorem d_X0_sailHour_0 : decode cX0_sailHour 0 = .ok (.aload_n 2, 1) := by decide +kernel
theorem d_X0_sailHour_1 : decode cX0_sailHour 1 = .ok (.iconst (-1), 1) := by decide +kernel
theorem d_X0_sailHour_2 : decode cX0_sailHour 2 = .ok (.invokestatic 137, 3) := by decide +kernel
theorem d_X0_sailHour_5 : decode cX0_sailHour 5 = .ok (.iconst 0, 1) := by decide +kernel
theorem d_X0_sailHour_6 : decode cX0_sailHour 6 = .ok (.istore 5, 2) := by decide +kernel
theorem d_X0_sailHour_8 : decode cX0_sailHour 8 = .ok (.iload 5, 2) := by decide +kernel
theorem d_X0_sailHour_10 : decode cX0_sailHour 10 = .ok (.aload_n 0, 1) := by decide +kernel
theorem d_X0_sailHour_11 : decode cX0_sailHour 11 = .ok (.getfield 38, 3) := by decide +kernel
theorem d_X0_sailHour_14 : decode cX0_sailHour 14 = .ok (.if_icmp .ge 38, 3) := by decide +kernel
theorem d_X0_sailHour_17 : decode cX0_sailHour 17 = .ok (.iload 5, 2) := by decide +kernel
theorem d_X0_sailHour_19 : decode cX0_sailHour 19 = .ok (.aload_n 1, 1) := by decide +kernel
theorem d_X0_sailHour_20 : decode cX0_sailHour 20 = .ok (.arraylength, 1) := by decide +kernel
theorem d_X0_sailHour_21 : decode cX0_sailHour 21 = .ok (.if_icmp .ge 31, 3) := by decide +kernel
theorem d_X0_sailHour_24 : decode cX0_sailHour 24 = .ok (.aload_n 1, 1) := by decide +kernel
theorem d_X0_sailHour_25 : decode cX0_sailHour 25 = .ok (.iload 5, 2) := by decide +kernel
theorem d_X0_sailHour_27 : decode cX0_sailHour 27 = .ok (.iaload, 1) := by decide +kernel
theorem d_X0_sailHour_28 : decode cX0_sailHour 28 = .ok (.iconst (-1), 1) := by decide +kernel
theorem d_X0_sailHour_29 : decode cX0_sailHour 29 = .ok (.if_icmp .eq 17, 3) := by decide +kernel
theorem d_X0_sailHour_32 : decode cX0_sailHour 32 = .ok (.aload_n 0, 1) := by decide +kernel
theorem d_X0_sailHour_33 : decode cX0_sailHour 33 = .ok (.iload 5, 2) := by decide +kernel
theorem d_X0_sailHour_35 : decode cX0_sailHour 35 = .ok (.aload_n 1, 1) := by decide +kernel
theorem d_X0_sailHour_36 : decode cX0_sailHour 36 = .ok (.iload 5, 2) := by decide +kernel
theorem d_X0_sailHour_38 : decode cX0_sailHour 38 = .ok (.iaload, 1) := by decide +kernel
theorem d_X0_sailHour_39 : decode cX0_sailHour 39 = .ok (.aload_n 2, 1) := by decide +kernel
theorem d_X0_sailHour_40 : decode cX0_sailHour 40 = .ok (.iload_n 3, 1) := by decide +kernel
theorem d_X0_sailHour_41 : decode cX0_sailHour 41 = .ok (.iload 4, 2) := by decide +kernel
theorem d_X0_sailHour_43 : decode cX0_sailHour 43 = .ok (.invokevirtual 146, 3) := by decide +kernel
theorem d_X0_sailHour_46 : decode cX0_sailHour 46 = .ok (.iinc 5 1, 3) := by decide +kernel
theorem d_X0_sailHour_49 : decode cX0_sailHour 49 = .ok (.goto (-41), 3) := by decide +kernel
theorem d_X0_sailHour_52 : decode cX0_sailHour 52 = .ok (.return_, 1) := by decide +kernel
abbrev rm_X0_sailHour : Room := { frames := 1, cells := 0, slots := 0, locals := 30 }
set_option maxHeartbeats 4000000 in
set_option maxRecDepth 20000 in
theorem c_X0_sailHour_8 {x : Cx} {b : Wy} (o : Ok x (wC b) cX0_sailHour 6 RX0 none rm_X0_sailHour) {v1 : Nat} {v2 : Nat} {v3 : Int32} {v4 : Int32} {K : Sg → Prop}  (hv1 : IsA (wC b) v1) (hv2 : IsA (wC b) v2) : ∀ (n : Nat) (l5 : Int32) (σ : Sg), m_X0_sailHour_l8 v1 v2 v3 v4 K  n l5 σ → J x (wC b) (FinC x (wC b) (PV K) (0, 0)) 8 [(0, .ref (wB (wC b) + 19)), (1, .ref (wB (wC b) + v1)), (2, .ref (wB (wC b) + v2)), (3, .int v3), (4, .int v4), (5, .int l5)] [] (0, 0) σ := by
  intro n
  induction n with
  | zero =>
    intro l5 σ  h
    exact False.elim h
  | succ n ih =>
    intro l5 σ  h
    unfold m_X0_sailHour_l8 at h
    refine J_iload o 5 d_X0_sailHour_8 rfl ?_
    refine J_aload_n o 0 d_X0_sailHour_10 rfl ?_
    refine J_getI o fl_RX0_38 rfl (Nat.le_of_ble_eq_true rfl) (Nat.le_of_ble_eq_true rfl) rfl d_X0_sailHour_11 ?_
    refine J_icmp_ge o 52 d_X0_sailHour_14 rfl (fun c14 => ?_) (fun c14 => ?_)
    · replace h := h.1 c14
      exact J_vret o d_X0_sailHour_52 ⟨rfl, h⟩
    · replace h := h.2 c14
      refine J_iload o 5 d_X0_sailHour_17 rfl ?_
      refine J_aload_n o 1 d_X0_sailHour_19 rfl ?_
      refine J_alenL o hv1 rfl d_X0_sailHour_20 ?_
      refine J_icmp_ge o 52 d_X0_sailHour_21 rfl (fun c21 => ?_) (fun c21 => ?_)
      · replace h := h.1 c21
        exact J_vret o d_X0_sailHour_52 ⟨rfl, h⟩
      · replace h := h.2 c21
        refine J_aload_n o 1 d_X0_sailHour_24 rfl ?_
        refine J_iload o 5 d_X0_sailHour_25 rfl ?_
        have b27 := h.1
        replace h := h.2
        refine J_iald o hv1 (vpc rfl b27) d_X0_sailHour_27 ?_
        refine J_iconst (v := (-1)) o d_X0_sailHour_28 iconst_m1 ?_
        refine J_icmp_eq o 46 d_X0_sailHour_29 rfl (fun c29 => ?_) (fun c29 => ?_)
        · replace h := h.1 c29
          refine J_iinc (lv' := [(5, .int (l5 + 1)), (0, .ref (wB (wC b) + 19)), (1, .ref (wB (wC b) + v1)), (2, .ref (wB (wC b) + v2)), (3, .int v3), (4, .int v4)]) o 5 d_X0_sailHour_46 (by decide) rfl iconst_1 rfl ?_
          refine J_goto o 8 d_X0_sailHour_49 rfl ?_
          refine J_sub [1, 2, 3, 4, 5, 0] rfl ?_
          exact ih (l5 + 1) σ  h
        · replace h := h.2 c29
          refine J_aload_n o 0 d_X0_sailHour_32 rfl ?_
          refine J_iload o 5 d_X0_sailHour_33 rfl ?_
          refine J_aload_n o 1 d_X0_sailHour_35 rfl ?_
          refine J_iload o 5 d_X0_sailHour_36 rfl ?_
          have b38 := h.1
          replace h := h.2
          refine J_iald o hv1 (vpc rfl b38) d_X0_sailHour_38 ?_
          refine J_aload_n o 2 d_X0_sailHour_39 rfl ?_
          refine J_iload_n o 3 d_X0_sailHour_40 rfl ?_
          refine J_iload o 4 d_X0_sailHour_41 rfl ?_
          refine J_callV (k := 19) (c := 0) o [.int l5, .int (σ v1 l5.toNatClampNeg), .ref (wB (wC b) + v2), .int v3, .int v4] rfl (by decide) (Nat.le_of_ble_eq_true rfl) (Nat.le_of_ble_eq_true rfl) mth_X0_sailFrom iv_X0_sailFrom ml_RX0_146 ⟨Nat.le_of_ble_eq_true rfl, Nat.le_of_ble_eq_true rfl⟩ rfl rfl (Nat.le_of_ble_eq_true rfl) ⟨Nat.le_refl _, Nat.le_refl _⟩ d_X0_sailHour_43 (w_X0_sailFrom (xL x) b hv2 h) (aV (fun s43 h => ?_))
          refine J_iinc (lv' := [(5, .int (l5 + 1)), (0, .ref (wB (wC b) + 19)), (1, .ref (wB (wC b) + v1)), (2, .ref (wB (wC b) + v2)), (3, .int v3), (4, .int v4)]) o 5 d_X0_sailHour_46 (by decide) rfl iconst_1 rfl ?_
          refine J_goto o 8 d_X0_sailHour_49 rfl ?_
          refine J_sub [1, 2, 3, 4, 5, 0] rfl ?_
          exact ih (l5 + 1) s43  h
set_option maxHeartbeats 4000000 in
set_option maxRecDepth 20000 in
theorem w_X0_sailHour (l : Launch) (b : Wy) {v1 : Nat} {v2 : Nat} {v3 : Int32} {v4 : Int32} {σ : Sg} {K : Sg → Prop} (hv1 : IsA (wC b) v1) (hv2 : IsA (wC b) v2) (h : m_X0_sailHour v1 v2 v3 v4 σ K) : Ct l (wC b) yX0_sailHour cX0_sailHour 6 none rm_X0_sailHour [.ref (wB (wC b) + 19), .ref (wB (wC b) + v1), .ref (wB (wC b) + v2), .int v3, .int v4] σ (PV K) := by
  unfold m_X0_sailHour at h
  refine Ct.of (own := RX0) (by decide +kernel) rfl (Nat.le_of_ble_eq_true rfl) (fun x hx o => ?_)
  subst hx
  show J x (wC b) (FinC x (wC b) (PV K) (0, 0)) 0 [(0, .ref (wB (wC b) + 19)), (1, .ref (wB (wC b) + v1)), (2, .ref (wB (wC b) + v2)), (3, .int v3), (4, .int v4)] [] (0, 0) σ
  refine J_aload_n o 2 d_X0_sailHour_0 rfl ?_
  refine J_iconst (v := (-1)) o d_X0_sailHour_1 iconst_m1 ?_
  refine J_callS o [.ref (wB (wC b) + v2), .int (-1)] mth_J7_fill_53178 st_J7_fill_53178 ml_RX0_137 ⟨Nat.le_of_ble_eq_true rfl, Nat.le_of_ble_eq_true rfl⟩ rfl rfl (Nat.le_of_ble_eq_true rfl) ⟨Nat.le_refl _, Nat.le_refl _⟩ d_X0_sailHour_2 (w_J7_fill_53178 (xL x) b hv2 h) (aV (fun s2 h => ?_))
  refine J_iconst (v := 0) o d_X0_sailHour_5 iconst_0 ?_
  refine J_istore (lv' := [(5, .int 0), (0, .ref (wB (wC b) + 19)), (1, .ref (wB (wC b) + v1)), (2, .ref (wB (wC b) + v2)), (3, .int v3), (4, .int v4)]) o d_X0_sailHour_6 (by decide) rfl ?_
  refine J_sub [1, 2, 3, 4, 5, 0] rfl ?_
  obtain ⟨n9, h⟩ := h
  exact c_X0_sailHour_8 o hv1 hv2  n9 0 s2  h
theorem d_X0_mostsOf_0 : decode cX0_mostsOf 0 = .ok (.aload_n 0, 1) := by decide +kernel
theorem d_X0_mostsOf_1 : decode cX0_mostsOf 1 = .ok (.iload_n 1, 1) := by decide +kernel
theorem d_X0_mostsOf_2 : decode cX0_mostsOf 2 = .ok (.invokevirtual 110, 3) := by decide +kernel
theorem d_X0_mostsOf_5 : decode cX0_mostsOf 5 = .ok (.astore_n 3, 1) := by decide +kernel
theorem d_X0_mostsOf_6 : decode cX0_mostsOf 6 = .ok (.iconst 0, 1) := by decide +kernel
theorem d_X0_mostsOf_7 : decode cX0_mostsOf 7 = .ok (.aload_n 3, 1) := by decide +kernel
theorem d_X0_mostsOf_8 : decode cX0_mostsOf 8 = .ok (.getfield 114, 3) := by decide +kernel
theorem d_X0_mostsOf_11 : decode cX0_mostsOf 11 = .ok (.invokestatic 117, 3) := by decide +kernel
theorem d_X0_mostsOf_14 : decode cX0_mostsOf 14 = .ok (.istore 4, 2) := by decide +kernel
theorem d_X0_mostsOf_16 : decode cX0_mostsOf 16 = .ok (.iload 4, 2) := by decide +kernel
theorem d_X0_mostsOf_18 : decode cX0_mostsOf 18 = .ok (.iload_n 2, 1) := by decide +kernel
theorem d_X0_mostsOf_19 : decode cX0_mostsOf 19 = .ok (.if_icmp .gt 88, 3) := by decide +kernel
theorem d_X0_mostsOf_22 : decode cX0_mostsOf 22 = .ok (.iload 4, 2) := by decide +kernel
theorem d_X0_mostsOf_24 : decode cX0_mostsOf 24 = .ok (.bipush 60, 2) := by decide +kernel
theorem d_X0_mostsOf_26 : decode cX0_mostsOf 26 = .ok (.if_icmp .gt 81, 3) := by decide +kernel
theorem d_X0_mostsOf_29 : decode cX0_mostsOf 29 = .ok (.iload 4, 2) := by decide +kernel
theorem d_X0_mostsOf_31 : decode cX0_mostsOf 31 = .ok (.ifCond .ne 37, 3) := by decide +kernel
theorem d_X0_mostsOf_34 : decode cX0_mostsOf 34 = .ok (.aload_n 3, 1) := by decide +kernel
theorem d_X0_mostsOf_35 : decode cX0_mostsOf 35 = .ok (.getfield 120, 3) := by decide +kernel
theorem d_X0_mostsOf_38 : decode cX0_mostsOf 38 = .ok (.iconst 0, 1) := by decide +kernel
theorem d_X0_mostsOf_39 : decode cX0_mostsOf 39 = .ok (.aaload, 1) := by decide +kernel
theorem d_X0_mostsOf_40 : decode cX0_mostsOf 40 = .ok (.aload_n 0, 1) := by decide +kernel
theorem d_X0_mostsOf_41 : decode cX0_mostsOf 41 = .ok (.getfield 46, 3) := by decide +kernel
theorem d_X0_mostsOf_44 : decode cX0_mostsOf 44 = .ok (.getfield 123, 3) := by decide +kernel
theorem d_X0_mostsOf_47 : decode cX0_mostsOf 47 = .ok (.iload_n 1, 1) := by decide +kernel
theorem d_X0_mostsOf_48 : decode cX0_mostsOf 48 = .ok (.invokestatic 98, 3) := by decide +kernel
theorem d_X0_mostsOf_51 : decode cX0_mostsOf 51 = .ok (.aload_n 0, 1) := by decide +kernel
theorem d_X0_mostsOf_52 : decode cX0_mostsOf 52 = .ok (.getfield 46, 3) := by decide +kernel
theorem d_X0_mostsOf_55 : decode cX0_mostsOf 55 = .ok (.getfield 126, 3) := by decide +kernel
theorem d_X0_mostsOf_58 : decode cX0_mostsOf 58 = .ok (.iload_n 1, 1) := by decide +kernel
theorem d_X0_mostsOf_59 : decode cX0_mostsOf 59 = .ok (.invokestatic 98, 3) := by decide +kernel
theorem d_X0_mostsOf_62 : decode cX0_mostsOf 62 = .ok (.invokestatic 129, 3) := by decide +kernel
theorem d_X0_mostsOf_65 : decode cX0_mostsOf 65 = .ok (.goto 28, 3) := by decide +kernel
theorem d_X0_mostsOf_68 : decode cX0_mostsOf 68 = .ok (.aload_n 0, 1) := by decide +kernel
theorem d_X0_mostsOf_69 : decode cX0_mostsOf 69 = .ok (.aload_n 3, 1) := by decide +kernel
theorem d_X0_mostsOf_70 : decode cX0_mostsOf 70 = .ok (.getfield 120, 3) := by decide +kernel
theorem d_X0_mostsOf_73 : decode cX0_mostsOf 73 = .ok (.iload 4, 2) := by decide +kernel
theorem d_X0_mostsOf_75 : decode cX0_mostsOf 75 = .ok (.iconst 1, 1) := by decide +kernel
theorem d_X0_mostsOf_76 : decode cX0_mostsOf 76 = .ok (.isub, 1) := by decide +kernel
theorem d_X0_mostsOf_77 : decode cX0_mostsOf 77 = .ok (.aaload, 1) := by decide +kernel
theorem d_X0_mostsOf_78 : decode cX0_mostsOf 78 = .ok (.aload_n 3, 1) := by decide +kernel
theorem d_X0_mostsOf_79 : decode cX0_mostsOf 79 = .ok (.getfield 120, 3) := by decide +kernel
theorem d_X0_mostsOf_82 : decode cX0_mostsOf 82 = .ok (.iload 4, 2) := by decide +kernel
theorem d_X0_mostsOf_84 : decode cX0_mostsOf 84 = .ok (.aaload, 1) := by decide +kernel
theorem d_X0_mostsOf_85 : decode cX0_mostsOf 85 = .ok (.iload 4, 2) := by decide +kernel
theorem d_X0_mostsOf_87 : decode cX0_mostsOf 87 = .ok (.iconst 1, 1) := by decide +kernel
theorem d_X0_mostsOf_88 : decode cX0_mostsOf 88 = .ok (.isub, 1) := by decide +kernel
theorem d_X0_mostsOf_89 : decode cX0_mostsOf 89 = .ok (.iconst 1, 1) := by decide +kernel
theorem d_X0_mostsOf_90 : decode cX0_mostsOf 90 = .ok (.invokevirtual 133, 3) := by decide +kernel
theorem d_X0_mostsOf_93 : decode cX0_mostsOf 93 = .ok (.aload_n 3, 1) := by decide +kernel
theorem d_X0_mostsOf_94 : decode cX0_mostsOf 94 = .ok (.iload 4, 2) := by decide +kernel
theorem d_X0_mostsOf_96 : decode cX0_mostsOf 96 = .ok (.iconst 1, 1) := by decide +kernel
theorem d_X0_mostsOf_97 : decode cX0_mostsOf 97 = .ok (.iadd, 1) := by decide +kernel
theorem d_X0_mostsOf_98 : decode cX0_mostsOf 98 = .ok (.putfield 114, 3) := by decide +kernel
theorem d_X0_mostsOf_101 : decode cX0_mostsOf 101 = .ok (.iinc 4 1, 3) := by decide +kernel
theorem d_X0_mostsOf_104 : decode cX0_mostsOf 104 = .ok (.goto (-88), 3) := by decide +kernel
theorem d_X0_mostsOf_107 : decode cX0_mostsOf 107 = .ok (.aload_n 3, 1) := by decide +kernel
theorem d_X0_mostsOf_108 : decode cX0_mostsOf 108 = .ok (.getfield 120, 3) := by decide +kernel
theorem d_X0_mostsOf_111 : decode cX0_mostsOf 111 = .ok (.iconst 0, 1) := by decide +kernel
theorem d_X0_mostsOf_112 : decode cX0_mostsOf 112 = .ok (.iload_n 2, 1) := by decide +kernel
theorem d_X0_mostsOf_113 : decode cX0_mostsOf 113 = .ok (.bipush 60, 2) := by decide +kernel
theorem d_X0_mostsOf_115 : decode cX0_mostsOf 115 = .ok (.invokestatic 59, 3) := by decide +kernel
theorem d_X0_mostsOf_118 : decode cX0_mostsOf 118 = .ok (.invokestatic 117, 3) := by decide +kernel
theorem d_X0_mostsOf_121 : decode cX0_mostsOf 121 = .ok (.aaload, 1) := by decide +kernel
theorem d_X0_mostsOf_122 : decode cX0_mostsOf 122 = .ok (.areturn, 1) := by decide +kernel
abbrev rm_X0_mostsOf : Room := { frames := 2, cells := 0, slots := 0, locals := 55 }
set_option maxHeartbeats 4000000 in
set_option maxRecDepth 20000 in
theorem c_X0_mostsOf_93 {x : Cx} {b : Wy} (o : Ok x (wC b) cX0_mostsOf 5 RX0 (some (.array .int)) rm_X0_mostsOf) {v1 : Int32} {v2 : Int32} {K : Nat → Sg → Prop}  {KO16 : Nat → Int32 → Sg → Prop}  (hKO16 : ∀ (l3 : Nat) (l4 : Int32) (σ : Sg), IsS l3 → KO16 l3 l4 σ → J x (wC b) (FinC x (wC b) (PA (wC b) (IsA (wC b)) K) (0, 0)) 16 [(0, .ref (wB (wC b) + 19)), (1, .int v1), (2, .int v2), (3, .ref (wB (wC b) + l3)), (4, .int l4)] [] (0, 0) σ) : ∀ (l3 : Nat) (l4 : Int32) (σ : Sg), IsS l3 → m_X0_mostsOf_j93 v1 v2 K KO16 l3 l4 σ → J x (wC b) (FinC x (wC b) (PA (wC b) (IsA (wC b)) K) (0, 0)) 93 [(0, .ref (wB (wC b) + 19)), (1, .int v1), (2, .int v2), (3, .ref (wB (wC b) + l3)), (4, .int l4)] [] (0, 0) σ := by
  intro l3 l4 σ hl3 h
  unfold m_X0_mostsOf_j93 at h
  refine J_aload_n o 3 d_X0_mostsOf_93 rfl ?_
  refine J_iload o 4 d_X0_mostsOf_94 rfl ?_
  refine J_iconst (v := 1) o d_X0_mostsOf_96 iconst_1 ?_
  refine J_iadd o d_X0_mostsOf_97 ?_
  refine J_put o fl_RX0_114 la_1 (S_kd hl3) (Nat.zero_le _) (S_hi hl3) rfl rfl rfl rfl d_X0_mostsOf_98 ?_
  refine J_nS (fun s98 es98 => ?_)
  replace h := h s98 es98
  refine J_iinc (lv' := [(4, .int (l4 + 1)), (0, .ref (wB (wC b) + 19)), (1, .int v1), (2, .int v2), (3, .ref (wB (wC b) + l3))]) o 4 d_X0_mostsOf_101 (by decide) rfl iconst_1 rfl ?_
  refine J_goto o 16 d_X0_mostsOf_104 rfl ?_
  refine J_sub [1, 2, 3, 4, 0] rfl ?_
  exact hKO16 l3 (l4 + 1) s98 hl3 h
set_option maxHeartbeats 4000000 in
set_option maxRecDepth 20000 in
theorem c_X0_mostsOf_16 {x : Cx} {b : Wy} (o : Ok x (wC b) cX0_mostsOf 5 RX0 (some (.array .int)) rm_X0_mostsOf) {v1 : Int32} {v2 : Int32} {K : Nat → Sg → Prop}   : ∀ (n : Nat) (l3 : Nat) (l4 : Int32) (σ : Sg), IsS l3 → m_X0_mostsOf_l16 v1 v2 K  n l3 l4 σ → J x (wC b) (FinC x (wC b) (PA (wC b) (IsA (wC b)) K) (0, 0)) 16 [(0, .ref (wB (wC b) + 19)), (1, .int v1), (2, .int v2), (3, .ref (wB (wC b) + l3)), (4, .int l4)] [] (0, 0) σ := by
  intro n
  induction n with
  | zero =>
    intro l3 l4 σ hl3 h
    exact False.elim h
  | succ n ih =>
    intro l3 l4 σ hl3 h
    unfold m_X0_mostsOf_l16 at h
    refine J_iload o 4 d_X0_mostsOf_16 rfl ?_
    refine J_iload_n o 2 d_X0_mostsOf_18 rfl ?_
    refine J_icmp_gt o 107 d_X0_mostsOf_19 rfl (fun c19 => ?_) (fun c19 => ?_)
    · replace h := h.1 c19
      refine J_aload_n o 3 d_X0_mostsOf_107 rfl ?_
      refine J_getR (t := (l3 + 1)) o fl_RX0_120 (S_kd hl3) (Nat.zero_le _) (S_hi hl3) rfl (S_t0 hl3) d_X0_mostsOf_108 ?_
      refine J_iconst (v := 0) o d_X0_mostsOf_111 iconst_0 ?_
      refine J_iload_n o 2 d_X0_mostsOf_112 rfl ?_
      refine J_bipush (v := 60) o d_X0_mostsOf_113 bipush_60 ?_
      refine J_min o mm_RX0_59 ms_min mi_math mc_min ⟨Nat.le_of_ble_eq_true rfl, Nat.le_of_ble_eq_true rfl, Nat.le_of_ble_eq_true rfl, Nat.le_of_ble_eq_true rfl⟩ d_X0_mostsOf_115 ?_
      refine J_max o mm_RX0_117 ms_max mi_math mc_max ⟨Nat.le_of_ble_eq_true rfl, Nat.le_of_ble_eq_true rfl, Nat.le_of_ble_eq_true rfl, Nat.le_of_ble_eq_true rfl⟩ d_X0_mostsOf_118 ?_
      have b121 := h.1
      replace h := h.2
      refine J_aald (t := (l3 + 2 + (if 0 < (if 60 < v2 then 60 else v2) then (if 60 < v2 then 60 else v2) else 0).toNatClampNeg)) o 2 (by decide) (S_mk hl3) (Nat.zero_le _) (S_mh hl3) (vpc (S_ml hl3) b121) (S_mt hl3 _) d_X0_mostsOf_121 ?_
      exact J_aret o (Or.inr ⟨_, rfl⟩) d_X0_mostsOf_122 ⟨_, rfl, (S_mA hl3 b121), h⟩
    · replace h := h.2 c19
      refine J_iload o 4 d_X0_mostsOf_22 rfl ?_
      refine J_bipush (v := 60) o d_X0_mostsOf_24 bipush_60 ?_
      refine J_icmp_gt o 107 d_X0_mostsOf_26 rfl (fun c26 => ?_) (fun c26 => ?_)
      · replace h := h.1 c26
        refine J_aload_n o 3 d_X0_mostsOf_107 rfl ?_
        refine J_getR (t := (l3 + 1)) o fl_RX0_120 (S_kd hl3) (Nat.zero_le _) (S_hi hl3) rfl (S_t0 hl3) d_X0_mostsOf_108 ?_
        refine J_iconst (v := 0) o d_X0_mostsOf_111 iconst_0 ?_
        refine J_iload_n o 2 d_X0_mostsOf_112 rfl ?_
        refine J_bipush (v := 60) o d_X0_mostsOf_113 bipush_60 ?_
        refine J_min o mm_RX0_59 ms_min mi_math mc_min ⟨Nat.le_of_ble_eq_true rfl, Nat.le_of_ble_eq_true rfl, Nat.le_of_ble_eq_true rfl, Nat.le_of_ble_eq_true rfl⟩ d_X0_mostsOf_115 ?_
        refine J_max o mm_RX0_117 ms_max mi_math mc_max ⟨Nat.le_of_ble_eq_true rfl, Nat.le_of_ble_eq_true rfl, Nat.le_of_ble_eq_true rfl, Nat.le_of_ble_eq_true rfl⟩ d_X0_mostsOf_118 ?_
        have b121 := h.1
        replace h := h.2
        refine J_aald (t := (l3 + 2 + (if 0 < (if 60 < v2 then 60 else v2) then (if 60 < v2 then 60 else v2) else 0).toNatClampNeg)) o 2 (by decide) (S_mk hl3) (Nat.zero_le _) (S_mh hl3) (vpc (S_ml hl3) b121) (S_mt hl3 _) d_X0_mostsOf_121 ?_
        exact J_aret o (Or.inr ⟨_, rfl⟩) d_X0_mostsOf_122 ⟨_, rfl, (S_mA hl3 b121), h⟩
      · replace h := h.2 c26
        refine J_iload o 4 d_X0_mostsOf_29 rfl ?_
        refine J_if_ne o 68 d_X0_mostsOf_31 rfl (fun c31 => ?_) (fun c31 => ?_)
        · replace h := h.1 c31
          refine J_aload_n o 0 d_X0_mostsOf_68 rfl ?_
          refine J_aload_n o 3 d_X0_mostsOf_69 rfl ?_
          refine J_getR (t := (l3 + 1)) o fl_RX0_120 (S_kd hl3) (Nat.zero_le _) (S_hi hl3) rfl (S_t0 hl3) d_X0_mostsOf_70 ?_
          refine J_iload o 4 d_X0_mostsOf_73 rfl ?_
          refine J_iconst (v := 1) o d_X0_mostsOf_75 iconst_1 ?_
          refine J_isub o d_X0_mostsOf_76 ?_
          have b77 := h.1
          replace h := h.2
          refine J_aald (t := (l3 + 2 + (l4 - 1).toNatClampNeg)) o 2 (by decide) (S_mk hl3) (Nat.zero_le _) (S_mh hl3) (vpc (S_ml hl3) b77) (S_mt hl3 _) d_X0_mostsOf_77 ?_
          refine J_aload_n o 3 d_X0_mostsOf_78 rfl ?_
          refine J_getR (t := (l3 + 1)) o fl_RX0_120 (S_kd hl3) (Nat.zero_le _) (S_hi hl3) rfl (S_t0 hl3) d_X0_mostsOf_79 ?_
          refine J_iload o 4 d_X0_mostsOf_82 rfl ?_
          have b84 := h.1
          replace h := h.2
          refine J_aald (t := (l3 + 2 + l4.toNatClampNeg)) o 2 (by decide) (S_mk hl3) (Nat.zero_le _) (S_mh hl3) (vpc (S_ml hl3) b84) (S_mt hl3 _) d_X0_mostsOf_84 ?_
          refine J_iload o 4 d_X0_mostsOf_85 rfl ?_
          refine J_iconst (v := 1) o d_X0_mostsOf_87 iconst_1 ?_
          refine J_isub o d_X0_mostsOf_88 ?_
          refine J_iconst (v := 1) o d_X0_mostsOf_89 iconst_1 ?_
          refine J_callV (k := 19) (c := 0) o [.ref (wB (wC b) + (l3 + 2 + (l4 - 1).toNatClampNeg)), .ref (wB (wC b) + (l3 + 2 + l4.toNatClampNeg)), .int (l4 - 1), .int 1] rfl (by decide) (Nat.le_of_ble_eq_true rfl) (Nat.le_of_ble_eq_true rfl) mth_X0_sailHour iv_X0_sailHour ml_RX0_133 ⟨Nat.le_of_ble_eq_true rfl, Nat.le_of_ble_eq_true rfl⟩ rfl rfl (Nat.le_of_ble_eq_true rfl) ⟨Nat.le_refl _, Nat.le_refl _⟩ d_X0_mostsOf_90 (w_X0_sailHour (xL x) b (S_mA hl3 b77) (S_mA hl3 b84) h) (aV (fun s90 h => ?_))
          exact c_X0_mostsOf_93 o  ih l3 l4 s90 hl3 h
        · replace h := h.2 c31
          refine J_aload_n o 3 d_X0_mostsOf_34 rfl ?_
          refine J_getR (t := (l3 + 1)) o fl_RX0_120 (S_kd hl3) (Nat.zero_le _) (S_hi hl3) rfl (S_t0 hl3) d_X0_mostsOf_35 ?_
          refine J_iconst (v := 0) o d_X0_mostsOf_38 iconst_0 ?_
          have b39 := h.1
          replace h := h.2
          refine J_aald (t := (l3 + 2 + (0 : Int32).toNatClampNeg)) o 2 (by decide) (S_mk hl3) (Nat.zero_le _) (S_mh hl3) (vpc (S_ml hl3) b39) (S_mt hl3 _) d_X0_mostsOf_39 ?_
          refine J_aload_n o 0 d_X0_mostsOf_40 rfl ?_
          refine J_getR (t := 2) o fl_RX0_46 rfl (Nat.le_of_ble_eq_true rfl) (Nat.le_of_ble_eq_true rfl) rfl rfl d_X0_mostsOf_41 ?_
          refine J_getR (t := (2 + 1)) o fl_RX0_123 (W_kd W_2) (Nat.zero_le _) (W_hi W_2) rfl (W_t W_2 10 (by decide)) d_X0_mostsOf_44 ?_
          refine J_iload_n o 1 d_X0_mostsOf_47 rfl ?_
          refine J_callSN o [.ref (wB (wC b) + (2 + 1)), .int v1] mth_X4_read st_X4_read mn_RX0_98 ⟨Nat.le_of_ble_eq_true rfl, Nat.le_of_ble_eq_true rfl⟩ rfl rfl (Nat.le_of_ble_eq_true rfl) ⟨Nat.le_refl _, Nat.le_refl _⟩ d_X0_mostsOf_48 (w_X4_read (xL x) b (W_A1 W_2) h) (aI (fun r48 s48 h => ?_))
          refine J_aload_n o 0 d_X0_mostsOf_51 rfl ?_
          refine J_getR (t := 2) o fl_RX0_46 rfl (Nat.le_of_ble_eq_true rfl) (Nat.le_of_ble_eq_true rfl) rfl rfl d_X0_mostsOf_52 ?_
          refine J_getR (t := (2 + 2)) o fl_RX0_126 (W_kd W_2) (Nat.zero_le _) (W_hi W_2) rfl (W_t W_2 11 (by decide)) d_X0_mostsOf_55 ?_
          refine J_iload_n o 1 d_X0_mostsOf_58 rfl ?_
          refine J_callSN o [.ref (wB (wC b) + (2 + 2)), .int v1] mth_X4_read st_X4_read mn_RX0_98 ⟨Nat.le_of_ble_eq_true rfl, Nat.le_of_ble_eq_true rfl⟩ rfl rfl (Nat.le_of_ble_eq_true rfl) ⟨Nat.le_refl _, Nat.le_refl _⟩ d_X0_mostsOf_59 (w_X4_read (xL x) b (W_A2 W_2) h) (aI (fun r59 s59 h => ?_))
          refine J_callS o [.ref (wB (wC b) + (l3 + 2 + (0 : Int32).toNatClampNeg)), .int r48, .int r59] mth_X0_begin st_X0_begin ml_RX0_129 ⟨Nat.le_of_ble_eq_true rfl, Nat.le_of_ble_eq_true rfl⟩ rfl rfl (Nat.le_of_ble_eq_true rfl) ⟨Nat.le_refl _, Nat.le_refl _⟩ d_X0_mostsOf_62 (w_X0_begin (xL x) b (S_mA hl3 b39) h) (aV (fun s62 h => ?_))
          refine J_goto o 93 d_X0_mostsOf_65 rfl ?_
          exact c_X0_mostsOf_93 o  ih l3 l4 s62 hl3 h
set_option maxHeartbeats 4000000 in
set_option maxRecDepth 20000 in
theorem w_X0_mostsOf (l : Launch) (b : Wy) {v1 : Int32} {v2 : Int32} {σ : Sg} {K : Nat → Sg → Prop}  (h : m_X0_mostsOf v1 v2 σ K) : Ct l (wC b) yX0_mostsOf cX0_mostsOf 5 (some (.array .int)) rm_X0_mostsOf [.ref (wB (wC b) + 19), .int v1, .int v2] σ (PA (wC b) (IsA (wC b)) K) := by
  unfold m_X0_mostsOf at h
  refine Ct.of (own := RX0) (by decide +kernel) rfl (Nat.le_of_ble_eq_true rfl) (fun x hx o => ?_)
  subst hx
  show J x (wC b) (FinC x (wC b) (PA (wC b) (IsA (wC b)) K) (0, 0)) 0 [(0, .ref (wB (wC b) + 19)), (1, .int v1), (2, .int v2)] [] (0, 0) σ
  refine J_aload_n o 0 d_X0_mostsOf_0 rfl ?_
  refine J_iload_n o 1 d_X0_mostsOf_1 rfl ?_
  refine J_callV (k := 19) (c := 0) o [.int v1] rfl (by decide) (Nat.le_of_ble_eq_true rfl) (Nat.le_of_ble_eq_true rfl) mth_X0_sailingOf iv_X0_sailingOf ml_RX0_110 ⟨Nat.le_of_ble_eq_true rfl, Nat.le_of_ble_eq_true rfl⟩ rfl rfl (Nat.le_of_ble_eq_true rfl) ⟨Nat.le_refl _, Nat.le_refl _⟩ d_X0_mostsOf_2 (w_X0_sailingOf (xL x) b  h) (aA (fun r2 s2 hr2 h => ?_))
  refine J_astore_n (lv' := [(3, .ref (wB (wC b) + r2)), (0, .ref (wB (wC b) + 19)), (1, .int v1), (2, .int v2)]) o d_X0_mostsOf_5 (by decide) rfl ?_
  refine J_iconst (v := 0) o d_X0_mostsOf_6 iconst_0 ?_
  refine J_aload_n o 0 d_X0_mostsOf_7 rfl ?_
  refine J_getI o fl_RX0_114 (S_kd hr2) (Nat.zero_le _) (S_hi hr2) rfl d_X0_mostsOf_8 ?_
  refine J_max o mm_RX0_117 ms_max mi_math mc_max ⟨Nat.le_of_ble_eq_true rfl, Nat.le_of_ble_eq_true rfl, Nat.le_of_ble_eq_true rfl, Nat.le_of_ble_eq_true rfl⟩ d_X0_mostsOf_11 ?_
  refine J_top (fun l4_14 el4_14 => ?_)
  replace h := h l4_14 el4_14
  refine J_istore (lv' := [(4, .int l4_14), (3, .ref (wB (wC b) + r2)), (0, .ref (wB (wC b) + 19)), (1, .int v1), (2, .int v2)]) o d_X0_mostsOf_14 (by decide) rfl ?_
  refine J_sub [2, 3, 4, 1, 0] rfl ?_
  obtain ⟨n9, h⟩ := h
  exact c_X0_mostsOf_16 o   n9 r2 l4_14 s2 hr2 h
theorem d_X0_earliestOf_0 : decode cX0_earliestOf 0 = .ok (.iconst 0, 1) := by decide +kernel
theorem d_X0_earliestOf_1 : decode cX0_earliestOf 1 = .ok (.istore_n 2, 1) := by decide +kernel
theorem d_X0_earliestOf_2 : decode cX0_earliestOf 2 = .ok (.iload_n 2, 1) := by decide +kernel
theorem d_X0_earliestOf_3 : decode cX0_earliestOf 3 = .ok (.bipush 60, 2) := by decide +kernel
theorem d_X0_earliestOf_5 : decode cX0_earliestOf 5 = .ok (.if_icmp .gt 30, 3) := by decide +kernel
theorem d_X0_earliestOf_8 : decode cX0_earliestOf 8 = .ok (.aload_n 0, 1) := by decide +kernel
theorem d_X0_earliestOf_9 : decode cX0_earliestOf 9 = .ok (.iload_n 1, 1) := by decide +kernel
theorem d_X0_earliestOf_10 : decode cX0_earliestOf 10 = .ok (.iload_n 2, 1) := by decide +kernel
theorem d_X0_earliestOf_11 : decode cX0_earliestOf 11 = .ok (.invokevirtual 102, 3) := by decide +kernel
theorem d_X0_earliestOf_14 : decode cX0_earliestOf 14 = .ok (.aload_n 0, 1) := by decide +kernel
theorem d_X0_earliestOf_15 : decode cX0_earliestOf 15 = .ok (.getfield 9, 3) := by decide +kernel
theorem d_X0_earliestOf_18 : decode cX0_earliestOf 18 = .ok (.iload_n 2, 1) := by decide +kernel
theorem d_X0_earliestOf_19 : decode cX0_earliestOf 19 = .ok (.iaload, 1) := by decide +kernel
theorem d_X0_earliestOf_20 : decode cX0_earliestOf 20 = .ok (.invokestatic 98, 3) := by decide +kernel
theorem d_X0_earliestOf_23 : decode cX0_earliestOf 23 = .ok (.iconst (-1), 1) := by decide +kernel
theorem d_X0_earliestOf_24 : decode cX0_earliestOf 24 = .ok (.if_icmp .eq 5, 3) := by decide +kernel
theorem d_X0_earliestOf_27 : decode cX0_earliestOf 27 = .ok (.iload_n 2, 1) := by decide +kernel
theorem d_X0_earliestOf_28 : decode cX0_earliestOf 28 = .ok (.ireturn, 1) := by decide +kernel
theorem d_X0_earliestOf_29 : decode cX0_earliestOf 29 = .ok (.iinc 2 1, 3) := by decide +kernel
theorem d_X0_earliestOf_32 : decode cX0_earliestOf 32 = .ok (.goto (-30), 3) := by decide +kernel
theorem d_X0_earliestOf_35 : decode cX0_earliestOf 35 = .ok (.iconst (-1), 1) := by decide +kernel
theorem d_X0_earliestOf_36 : decode cX0_earliestOf 36 = .ok (.ireturn, 1) := by decide +kernel
abbrev rm_X0_earliestOf : Room := { frames := 3, cells := 0, slots := 0, locals := 79 }
set_option maxHeartbeats 4000000 in
set_option maxRecDepth 20000 in
theorem c_X0_earliestOf_2 {x : Cx} {b : Wy} (o : Ok x (wC b) cX0_earliestOf 3 RX0 (some .int) rm_X0_earliestOf) {v1 : Int32} {K : Int32 → Sg → Prop}   : ∀ (n : Nat) (l2 : Int32) (σ : Sg), m_X0_earliestOf_l2 v1 K  n l2 σ → J x (wC b) (FinC x (wC b) (PI K) (0, 0)) 2 [(0, .ref (wB (wC b) + 19)), (1, .int v1), (2, .int l2)] [] (0, 0) σ := by
  intro n
  induction n with
  | zero =>
    intro l2 σ  h
    exact False.elim h
  | succ n ih =>
    intro l2 σ  h
    unfold m_X0_earliestOf_l2 at h
    refine J_iload_n o 2 d_X0_earliestOf_2 rfl ?_
    refine J_bipush (v := 60) o d_X0_earliestOf_3 bipush_60 ?_
    refine J_icmp_gt o 35 d_X0_earliestOf_5 rfl (fun c5 => ?_) (fun c5 => ?_)
    · replace h := h.1 c5
      refine J_iconst (v := (-1)) o d_X0_earliestOf_35 iconst_m1 ?_
      exact J_iret o d_X0_earliestOf_36 ⟨_, rfl, h⟩
    · replace h := h.2 c5
      refine J_aload_n o 0 d_X0_earliestOf_8 rfl ?_
      refine J_iload_n o 1 d_X0_earliestOf_9 rfl ?_
      refine J_iload_n o 2 d_X0_earliestOf_10 rfl ?_
      refine J_callV (k := 19) (c := 0) o [.int v1, .int l2] rfl (by decide) (Nat.le_of_ble_eq_true rfl) (Nat.le_of_ble_eq_true rfl) mth_X0_mostsOf iv_X0_mostsOf ml_RX0_102 ⟨Nat.le_of_ble_eq_true rfl, Nat.le_of_ble_eq_true rfl⟩ rfl rfl (Nat.le_of_ble_eq_true rfl) ⟨Nat.le_refl _, Nat.le_refl _⟩ d_X0_earliestOf_11 (w_X0_mostsOf (xL x) b  h) (aA (fun r11 s11 hr11 h => ?_))
      refine J_aload_n o 0 d_X0_earliestOf_14 rfl ?_
      refine J_getR (t := 20) o fl_RX0_9 rfl (Nat.le_of_ble_eq_true rfl) (Nat.le_of_ble_eq_true rfl) rfl rfl d_X0_earliestOf_15 ?_
      refine J_iload_n o 2 d_X0_earliestOf_18 rfl ?_
      have b19 := h.1
      replace h := h.2
      refine J_iald o A_20 (vpc (rfl : ln 20 = 61) b19) d_X0_earliestOf_19 ?_
      refine J_callSN o [.ref (wB (wC b) + r11), .int (s11 20 l2.toNatClampNeg)] mth_X4_read st_X4_read mn_RX0_98 ⟨Nat.le_of_ble_eq_true rfl, Nat.le_of_ble_eq_true rfl⟩ rfl rfl (Nat.le_of_ble_eq_true rfl) ⟨Nat.le_refl _, Nat.le_refl _⟩ d_X0_earliestOf_20 (w_X4_read (xL x) b hr11 h) (aI (fun r20 s20 h => ?_))
      refine J_iconst (v := (-1)) o d_X0_earliestOf_23 iconst_m1 ?_
      refine J_icmp_eq o 29 d_X0_earliestOf_24 rfl (fun c24 => ?_) (fun c24 => ?_)
      · replace h := h.1 c24
        refine J_iinc (lv' := [(2, .int (l2 + 1)), (0, .ref (wB (wC b) + 19)), (1, .int v1)]) o 2 d_X0_earliestOf_29 (by decide) rfl iconst_1 rfl ?_
        refine J_goto o 2 d_X0_earliestOf_32 rfl ?_
        refine J_sub [1, 2, 0] rfl ?_
        exact ih (l2 + 1) s20  h
      · replace h := h.2 c24
        refine J_iload_n o 2 d_X0_earliestOf_27 rfl ?_
        exact J_iret o d_X0_earliestOf_28 ⟨_, rfl, h⟩
set_option maxHeartbeats 4000000 in
set_option maxRecDepth 20000 in
theorem w_X0_earliestOf (l : Launch) (b : Wy) {v1 : Int32} {σ : Sg} {K : Int32 → Sg → Prop}  (h : m_X0_earliestOf v1 σ K) : Ct l (wC b) yX0_earliestOf cX0_earliestOf 3 (some .int) rm_X0_earliestOf [.ref (wB (wC b) + 19), .int v1] σ (PI K) := by
  unfold m_X0_earliestOf at h
  refine Ct.of (own := RX0) (by decide +kernel) rfl (Nat.le_of_ble_eq_true rfl) (fun x hx o => ?_)
  subst hx
  show J x (wC b) (FinC x (wC b) (PI K) (0, 0)) 0 [(0, .ref (wB (wC b) + 19)), (1, .int v1)] [] (0, 0) σ
  refine J_iconst (v := 0) o d_X0_earliestOf_0 iconst_0 ?_
  refine J_istore_n (lv' := [(2, .int 0), (0, .ref (wB (wC b) + 19)), (1, .int v1)]) o d_X0_earliestOf_1 (by decide) rfl ?_
  refine J_sub [1, 2, 0] rfl ?_
  obtain ⟨n9, h⟩ := h
  exact c_X0_earliestOf_2 o   n9 0 σ  h
