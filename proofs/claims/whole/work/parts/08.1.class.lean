/-! the walks, printed by program -/
theorem d_X4_first_0 : decode cX4_first 0 = .ok (.aload_n 0, 1) := by decide +kernel
theorem d_X4_first_1 : decode cX4_first 1 = .ok (.getfield 37, 3) := by decide +kernel
theorem d_X4_first_4 : decode cX4_first 4 = .ok (.invokevirtual 190, 3) := by decide +kernel
theorem d_X4_first_7 : decode cX4_first 7 = .ok (.iconst (-1), 1) := by decide +kernel
theorem d_X4_first_8 : decode cX4_first 8 = .ok (.istore_n 1, 1) := by decide +kernel
theorem d_X4_first_9 : decode cX4_first 9 = .ok (.bipush 61, 2) := by decide +kernel
theorem d_X4_first_11 : decode cX4_first 11 = .ok (.istore_n 2, 1) := by decide +kernel
theorem d_X4_first_12 : decode cX4_first 12 = .ok (.iconst 0, 1) := by decide +kernel
theorem d_X4_first_13 : decode cX4_first 13 = .ok (.istore_n 3, 1) := by decide +kernel
theorem d_X4_first_14 : decode cX4_first 14 = .ok (.iload_n 3, 1) := by decide +kernel
theorem d_X4_first_15 : decode cX4_first 15 = .ok (.aload_n 0, 1) := by decide +kernel
theorem d_X4_first_16 : decode cX4_first 16 = .ok (.getfield 16, 3) := by decide +kernel
theorem d_X4_first_19 : decode cX4_first 19 = .ok (.getfield 93, 3) := by decide +kernel
theorem d_X4_first_22 : decode cX4_first 22 = .ok (.if_icmp .ge 35, 3) := by decide +kernel
theorem d_X4_first_25 : decode cX4_first 25 = .ok (.aload_n 0, 1) := by decide +kernel
theorem d_X4_first_26 : decode cX4_first 26 = .ok (.getfield 37, 3) := by decide +kernel
theorem d_X4_first_29 : decode cX4_first 29 = .ok (.iload_n 3, 1) := by decide +kernel
theorem d_X4_first_30 : decode cX4_first 30 = .ok (.invokevirtual 202, 3) := by decide +kernel
theorem d_X4_first_33 : decode cX4_first 33 = .ok (.istore 4, 2) := by decide +kernel
theorem d_X4_first_35 : decode cX4_first 35 = .ok (.iload 4, 2) := by decide +kernel
theorem d_X4_first_37 : decode cX4_first 37 = .ok (.ifCond .lt 14, 3) := by decide +kernel
theorem d_X4_first_40 : decode cX4_first 40 = .ok (.iload 4, 2) := by decide +kernel
theorem d_X4_first_42 : decode cX4_first 42 = .ok (.iload_n 2, 1) := by decide +kernel
theorem d_X4_first_43 : decode cX4_first 43 = .ok (.if_icmp .ge 8, 3) := by decide +kernel
theorem d_X4_first_46 : decode cX4_first 46 = .ok (.iload 4, 2) := by decide +kernel
theorem d_X4_first_48 : decode cX4_first 48 = .ok (.istore_n 2, 1) := by decide +kernel
theorem d_X4_first_49 : decode cX4_first 49 = .ok (.iload_n 3, 1) := by decide +kernel
theorem d_X4_first_50 : decode cX4_first 50 = .ok (.istore_n 1, 1) := by decide +kernel
theorem d_X4_first_51 : decode cX4_first 51 = .ok (.iinc 3 1, 3) := by decide +kernel
theorem d_X4_first_54 : decode cX4_first 54 = .ok (.goto (-40), 3) := by decide +kernel
theorem d_X4_first_57 : decode cX4_first 57 = .ok (.iload_n 1, 1) := by decide +kernel
theorem d_X4_first_58 : decode cX4_first 58 = .ok (.ireturn, 1) := by decide +kernel
abbrev rm_X4_first : Room := { frames := 6, cells := 0, slots := 0, locals := 138 }
set_option maxHeartbeats 4000000 in
set_option maxRecDepth 20000 in
theorem c_X4_first_14 {x : Cx} {b : Wy} (o : Ok x (wC b) cX4_first 5 RX4 (some .int) rm_X4_first)  {K : Int32 → Sg → Prop}   : ∀ (n : Nat) (l1 : Int32) (l2 : Int32) (l3 : Int32) (σ : Sg), m_X4_first_l14  K  n l1 l2 l3 σ → J x (wC b) (FinC x (wC b) (PI K) (0, 0)) 14 [(0, .ref (wB (wC b) + 0)), (1, .int l1), (2, .int l2), (3, .int l3)] [] (0, 0) σ := by
  intro n
  induction n with
  | zero =>
    intro l1 l2 l3 σ  h
    exact False.elim h
  | succ n ih =>
    intro l1 l2 l3 σ  h
    unfold m_X4_first_l14 at h
    refine J_iload_n o 3 d_X4_first_14 rfl ?_
    refine J_aload_n o 0 d_X4_first_15 rfl ?_
    refine J_getR (t := 2) o fl_RX4_16 rfl (Nat.le_of_ble_eq_true rfl) (Nat.le_of_ble_eq_true rfl) rfl rfl d_X4_first_16 ?_
    refine J_getI o fl_RX4_93 (W_kd W_2) (Nat.zero_le _) (W_hi W_2) rfl d_X4_first_19 ?_
    refine J_icmp_ge o 57 d_X4_first_22 rfl (fun c22 => ?_) (fun c22 => ?_)
    · replace h := h.1 c22
      refine J_iload_n o 1 d_X4_first_57 rfl ?_
      exact J_iret o d_X4_first_58 ⟨_, rfl, h⟩
    · replace h := h.2 c22
      refine J_aload_n o 0 d_X4_first_25 rfl ?_
      refine J_getR (t := 19) o fl_RX4_37 rfl (Nat.le_of_ble_eq_true rfl) (Nat.le_of_ble_eq_true rfl) rfl rfl d_X4_first_26 ?_
      refine J_iload_n o 3 d_X4_first_29 rfl ?_
      refine J_callV (k := 19) (c := 0) o [.int l3] rfl (by decide) (Nat.le_of_ble_eq_true rfl) (Nat.le_of_ble_eq_true rfl) mth_X0_earliestOf iv_X0_earliestOf ml_RX4_202 ⟨Nat.le_of_ble_eq_true rfl, Nat.le_of_ble_eq_true rfl⟩ rfl rfl (Nat.le_of_ble_eq_true rfl) ⟨Nat.le_refl _, Nat.le_refl _⟩ d_X4_first_30 (w_X0_earliestOf (xL x) b  h) (aI (fun r30 s30 h => ?_))
      refine J_istore (lv' := [(4, .int r30), (0, .ref (wB (wC b) + 0)), (1, .int l1), (2, .int l2), (3, .int l3)]) o d_X4_first_33 (by decide) rfl ?_
      refine J_iload o 0 d_X4_first_35 rfl ?_
      refine J_if_lt o 51 d_X4_first_37 rfl (fun c37 => ?_) (fun c37 => ?_)
      · replace h := h.1 c37
        refine J_iinc (lv' := [(3, .int (l3 + 1)), (4, .int r30), (0, .ref (wB (wC b) + 0)), (1, .int l1), (2, .int l2)]) o 4 d_X4_first_51 (by decide) rfl iconst_1 rfl ?_
        refine J_goto o 14 d_X4_first_54 rfl ?_
        refine J_sub [2, 3, 4, 0] rfl ?_
        exact ih l1 l2 (l3 + 1) s30  h
      · replace h := h.2 c37
        refine J_iload o 0 d_X4_first_40 rfl ?_
        refine J_iload_n o 3 d_X4_first_42 rfl ?_
        refine J_icmp_ge o 51 d_X4_first_43 rfl (fun c43 => ?_) (fun c43 => ?_)
        · replace h := h.1 c43
          refine J_iinc (lv' := [(3, .int (l3 + 1)), (4, .int r30), (0, .ref (wB (wC b) + 0)), (1, .int l1), (2, .int l2)]) o 4 d_X4_first_51 (by decide) rfl iconst_1 rfl ?_
          refine J_goto o 14 d_X4_first_54 rfl ?_
          refine J_sub [2, 3, 4, 0] rfl ?_
          exact ih l1 l2 (l3 + 1) s30  h
        · replace h := h.2 c43
          refine J_iload o 0 d_X4_first_46 rfl ?_
          refine J_istore_n (lv' := [(2, .int r30), (4, .int r30), (0, .ref (wB (wC b) + 0)), (1, .int l1), (3, .int l3)]) o d_X4_first_48 (by decide) rfl ?_
          refine J_iload_n o 4 d_X4_first_49 rfl ?_
          refine J_istore_n (lv' := [(1, .int l3), (2, .int r30), (4, .int r30), (0, .ref (wB (wC b) + 0)), (3, .int l3)]) o d_X4_first_50 (by decide) rfl ?_
          refine J_iinc (lv' := [(3, .int (l3 + 1)), (1, .int l3), (2, .int r30), (4, .int r30), (0, .ref (wB (wC b) + 0))]) o 4 d_X4_first_51 (by decide) rfl iconst_1 rfl ?_
          refine J_goto o 14 d_X4_first_54 rfl ?_
          refine J_sub [4, 1, 2, 0] rfl ?_
          exact ih l3 r30 (l3 + 1) s30  h
set_option maxHeartbeats 4000000 in
set_option maxRecDepth 20000 in
theorem w_X4_first (l : Launch) (b : Wy)  {σ : Sg} {K : Int32 → Sg → Prop}  (h : m_X4_first  σ K) : Ct l (wC b) yX4_first cX4_first 5 (some .int) rm_X4_first [.ref (wB (wC b) + 0)] σ (PI K) := by
  unfold m_X4_first at h
  refine Ct.of (own := RX4) (by decide +kernel) rfl (Nat.le_of_ble_eq_true rfl) (fun x hx o => ?_)
  subst hx
  show J x (wC b) (FinC x (wC b) (PI K) (0, 0)) 0 [(0, .ref (wB (wC b) + 0))] [] (0, 0) σ
  refine J_aload_n o 0 d_X4_first_0 rfl ?_
  refine J_getR (t := 19) o fl_RX4_37 rfl (Nat.le_of_ble_eq_true rfl) (Nat.le_of_ble_eq_true rfl) rfl rfl d_X4_first_1 ?_
  refine J_callV (k := 19) (c := 0) o [] rfl (by decide) (Nat.le_of_ble_eq_true rfl) (Nat.le_of_ble_eq_true rfl) mth_X0_refresh iv_X0_refresh ml_RX4_190 ⟨Nat.le_of_ble_eq_true rfl, Nat.le_of_ble_eq_true rfl⟩ rfl rfl (Nat.le_of_ble_eq_true rfl) ⟨Nat.le_refl _, Nat.le_refl _⟩ d_X4_first_4 (w_X0_refresh (xL x) b  h) (aV (fun s4 h => ?_))
  refine J_iconst (v := (-1)) o d_X4_first_7 iconst_m1 ?_
  refine J_istore_n (lv' := [(1, .int (-1)), (0, .ref (wB (wC b) + 0))]) o d_X4_first_8 (by decide) rfl ?_
  refine J_bipush (v := 61) o d_X4_first_9 bipush_61 ?_
  refine J_istore_n (lv' := [(2, .int 61), (1, .int (-1)), (0, .ref (wB (wC b) + 0))]) o d_X4_first_11 (by decide) rfl ?_
  refine J_iconst (v := 0) o d_X4_first_12 iconst_0 ?_
  refine J_istore_n (lv' := [(3, .int 0), (2, .int 61), (1, .int (-1)), (0, .ref (wB (wC b) + 0))]) o d_X4_first_13 (by decide) rfl ?_
  refine J_sub [3, 2, 1, 0] rfl ?_
  obtain ⟨n9, h⟩ := h
  exact c_X4_first_14 o   n9 (-1) 61 0 s4  h
theorem d_X4_print_0 : decode cX4_print 0 = .ok (.ldc2_w 227, 3) := by decide +kernel
theorem d_X4_print_3 : decode cX4_print 3 = .ok (.aload_n 0, 1) := by decide +kernel
theorem d_X4_print_4 : decode cX4_print 4 = .ok (.getfield 16, 3) := by decide +kernel
theorem d_X4_print_7 : decode cX4_print 7 = .ok (.getfield 162, 3) := by decide +kernel
theorem d_X4_print_10 : decode cX4_print 10 = .ok (.i2l, 1) := by decide +kernel
theorem d_X4_print_11 : decode cX4_print 11 = .ok (.lmul, 1) := by decide +kernel
theorem d_X4_print_12 : decode cX4_print 12 = .ok (.aload_n 0, 1) := by decide +kernel
theorem d_X4_print_13 : decode cX4_print 13 = .ok (.getfield 16, 3) := by decide +kernel
theorem d_X4_print_16 : decode cX4_print 16 = .ok (.getfield 171, 3) := by decide +kernel
theorem d_X4_print_19 : decode cX4_print 19 = .ok (.i2l, 1) := by decide +kernel
theorem d_X4_print_20 : decode cX4_print 20 = .ok (.ladd, 1) := by decide +kernel
theorem d_X4_print_21 : decode cX4_print 21 = .ok (.lstore_n 1, 1) := by decide +kernel
theorem d_X4_print_22 : decode cX4_print 22 = .ok (.iconst 0, 1) := by decide +kernel
theorem d_X4_print_23 : decode cX4_print 23 = .ok (.istore_n 3, 1) := by decide +kernel
theorem d_X4_print_24 : decode cX4_print 24 = .ok (.iload_n 3, 1) := by decide +kernel
theorem d_X4_print_25 : decode cX4_print 25 = .ok (.aload_n 0, 1) := by decide +kernel
theorem d_X4_print_26 : decode cX4_print 26 = .ok (.getfield 16, 3) := by decide +kernel
theorem d_X4_print_29 : decode cX4_print 29 = .ok (.getfield 93, 3) := by decide +kernel
theorem d_X4_print_32 : decode cX4_print 32 = .ok (.if_icmp .ge 47, 3) := by decide +kernel
theorem d_X4_print_35 : decode cX4_print 35 = .ok (.ldc2_w 227, 3) := by decide +kernel
theorem d_X4_print_38 : decode cX4_print 38 = .ok (.lload_n 1, 1) := by decide +kernel
theorem d_X4_print_39 : decode cX4_print 39 = .ok (.lmul, 1) := by decide +kernel
theorem d_X4_print_40 : decode cX4_print 40 = .ok (.aload_n 0, 1) := by decide +kernel
theorem d_X4_print_41 : decode cX4_print 41 = .ok (.getfield 16, 3) := by decide +kernel
theorem d_X4_print_44 : decode cX4_print 44 = .ok (.getfield 187, 3) := by decide +kernel
theorem d_X4_print_47 : decode cX4_print 47 = .ok (.iload_n 3, 1) := by decide +kernel
theorem d_X4_print_48 : decode cX4_print 48 = .ok (.invokestatic 129, 3) := by decide +kernel
theorem d_X4_print_51 : decode cX4_print 51 = .ok (.i2l, 1) := by decide +kernel
theorem d_X4_print_52 : decode cX4_print 52 = .ok (.ladd, 1) := by decide +kernel
theorem d_X4_print_53 : decode cX4_print 53 = .ok (.lstore_n 1, 1) := by decide +kernel
theorem d_X4_print_54 : decode cX4_print 54 = .ok (.ldc2_w 227, 3) := by decide +kernel
theorem d_X4_print_57 : decode cX4_print 57 = .ok (.lload_n 1, 1) := by decide +kernel
theorem d_X4_print_58 : decode cX4_print 58 = .ok (.lmul, 1) := by decide +kernel
theorem d_X4_print_59 : decode cX4_print 59 = .ok (.aload_n 0, 1) := by decide +kernel
theorem d_X4_print_60 : decode cX4_print 60 = .ok (.getfield 16, 3) := by decide +kernel
theorem d_X4_print_63 : decode cX4_print 63 = .ok (.getfield 126, 3) := by decide +kernel
theorem d_X4_print_66 : decode cX4_print 66 = .ok (.iload_n 3, 1) := by decide +kernel
theorem d_X4_print_67 : decode cX4_print 67 = .ok (.invokestatic 129, 3) := by decide +kernel
theorem d_X4_print_70 : decode cX4_print 70 = .ok (.i2l, 1) := by decide +kernel
theorem d_X4_print_71 : decode cX4_print 71 = .ok (.ladd, 1) := by decide +kernel
theorem d_X4_print_72 : decode cX4_print 72 = .ok (.lstore_n 1, 1) := by decide +kernel
theorem d_X4_print_73 : decode cX4_print 73 = .ok (.iinc 3 1, 3) := by decide +kernel
theorem d_X4_print_76 : decode cX4_print 76 = .ok (.goto (-52), 3) := by decide +kernel
theorem d_X4_print_79 : decode cX4_print 79 = .ok (.lload_n 1, 1) := by decide +kernel
theorem d_X4_print_80 : decode cX4_print 80 = .ok (.lreturn, 1) := by decide +kernel
abbrev rm_X4_print : Room := { frames := 1, cells := 0, slots := 0, locals := 21 }
set_option maxHeartbeats 4000000 in
set_option maxRecDepth 20000 in
theorem c_X4_print_24 {x : Cx} {b : Wy} (o : Ok x (wC b) cX4_print 4 RX4 (some .long) rm_X4_print)  {K : Int64 → Sg → Prop}   : ∀ (n : Nat) (l1 : Int64) (l3 : Int32) (σ : Sg), m_X4_print_l24  K  n l1 l3 σ → J x (wC b) (FinC x (wC b) (PL K) (0, 0)) 24 [(0, .ref (wB (wC b) + 0)), (1, .long l1), (3, .int l3)] [] (0, 0) σ := by
  intro n
  induction n with
  | zero =>
    intro l1 l3 σ  h
    exact False.elim h
  | succ n ih =>
    intro l1 l3 σ  h
    unfold m_X4_print_l24 at h
    refine J_iload_n o 2 d_X4_print_24 rfl ?_
    refine J_aload_n o 0 d_X4_print_25 rfl ?_
    refine J_getR (t := 2) o fl_RX4_16 rfl (Nat.le_of_ble_eq_true rfl) (Nat.le_of_ble_eq_true rfl) rfl rfl d_X4_print_26 ?_
    refine J_getI o fl_RX4_93 (W_kd W_2) (Nat.zero_le _) (W_hi W_2) rfl d_X4_print_29 ?_
    refine J_icmp_ge o 79 d_X4_print_32 rfl (fun c32 => ?_) (fun c32 => ?_)
    · replace h := h.1 c32
      refine J_lload_n o 1 d_X4_print_79 rfl ?_
      exact J_lret o d_X4_print_80 ⟨_, rfl, h⟩
    · replace h := h.2 c32
      refine J_ldc2 o d_X4_print_35 cl_RX4_227 ?_
      refine J_lload_n o 1 d_X4_print_38 rfl ?_
      refine J_lmul o d_X4_print_39 ?_
      refine J_aload_n o 0 d_X4_print_40 rfl ?_
      refine J_getR (t := 2) o fl_RX4_16 rfl (Nat.le_of_ble_eq_true rfl) (Nat.le_of_ble_eq_true rfl) rfl rfl d_X4_print_41 ?_
      refine J_getR (t := (2 + 1)) o fl_RX4_187 (W_kd W_2) (Nat.zero_le _) (W_hi W_2) rfl (W_t W_2 10 (by decide)) d_X4_print_44 ?_
      refine J_iload_n o 2 d_X4_print_47 rfl ?_
      refine J_callS o [.ref (wB (wC b) + (2 + 1)), .int l3] mth_X4_read st_X4_read ml_RX4_129 ⟨Nat.le_of_ble_eq_true rfl, Nat.le_of_ble_eq_true rfl⟩ rfl rfl (Nat.le_of_ble_eq_true rfl) ⟨Nat.le_refl _, Nat.le_refl _⟩ d_X4_print_48 (w_X4_read (xL x) b (W_A1 W_2) h) (aI (fun r48 s48 h => ?_))
      refine J_i2l o d_X4_print_51 ?_
      refine J_ladd o d_X4_print_52 ?_
      refine J_lstore_n (lv' := [(1, .long ((31 * l1) + r48.toInt64)), (0, .ref (wB (wC b) + 0)), (3, .int l3)]) o d_X4_print_53 (by decide) rfl ?_
      refine J_ldc2 o d_X4_print_54 cl_RX4_227 ?_
      refine J_lload_n o 0 d_X4_print_57 rfl ?_
      refine J_lmul o d_X4_print_58 ?_
      refine J_aload_n o 1 d_X4_print_59 rfl ?_
      refine J_getR (t := 2) o fl_RX4_16 rfl (Nat.le_of_ble_eq_true rfl) (Nat.le_of_ble_eq_true rfl) rfl rfl d_X4_print_60 ?_
      refine J_getR (t := (2 + 2)) o fl_RX4_126 (W_kd W_2) (Nat.zero_le _) (W_hi W_2) rfl (W_t W_2 11 (by decide)) d_X4_print_63 ?_
      refine J_iload_n o 2 d_X4_print_66 rfl ?_
      refine J_callS o [.ref (wB (wC b) + (2 + 2)), .int l3] mth_X4_read st_X4_read ml_RX4_129 ⟨Nat.le_of_ble_eq_true rfl, Nat.le_of_ble_eq_true rfl⟩ rfl rfl (Nat.le_of_ble_eq_true rfl) ⟨Nat.le_refl _, Nat.le_refl _⟩ d_X4_print_67 (w_X4_read (xL x) b (W_A2 W_2) h) (aI (fun r67 s67 h => ?_))
      refine J_i2l o d_X4_print_70 ?_
      refine J_ladd o d_X4_print_71 ?_
      refine J_lstore_n (lv' := [(1, .long ((31 * ((31 * l1) + r48.toInt64)) + r67.toInt64)), (0, .ref (wB (wC b) + 0)), (3, .int l3)]) o d_X4_print_72 (by decide) rfl ?_
      refine J_iinc (lv' := [(3, .int (l3 + 1)), (1, .long ((31 * ((31 * l1) + r48.toInt64)) + r67.toInt64)), (0, .ref (wB (wC b) + 0))]) o 2 d_X4_print_73 (by decide) rfl iconst_1 rfl ?_
      refine J_goto o 24 d_X4_print_76 rfl ?_
      refine J_sub [2, 1, 0] rfl ?_
      exact ih ((31 * ((31 * l1) + r48.toInt64)) + r67.toInt64) (l3 + 1) s67  h
set_option maxHeartbeats 4000000 in
set_option maxRecDepth 20000 in
theorem w_X4_print (l : Launch) (b : Wy)  {σ : Sg} {K : Int64 → Sg → Prop}  (h : m_X4_print  σ K) : Ct l (wC b) yX4_print cX4_print 4 (some .long) rm_X4_print [.ref (wB (wC b) + 0)] σ (PL K) := by
  unfold m_X4_print at h
  refine Ct.of (own := RX4) (by decide +kernel) rfl (Nat.le_of_ble_eq_true rfl) (fun x hx o => ?_)
  subst hx
  show J x (wC b) (FinC x (wC b) (PL K) (0, 0)) 0 [(0, .ref (wB (wC b) + 0))] [] (0, 0) σ
  refine J_ldc2 o d_X4_print_0 cl_RX4_227 ?_
  refine J_aload_n o 0 d_X4_print_3 rfl ?_
  refine J_getR (t := 2) o fl_RX4_16 rfl (Nat.le_of_ble_eq_true rfl) (Nat.le_of_ble_eq_true rfl) rfl rfl d_X4_print_4 ?_
  refine J_getI o fl_RX4_162 (W_kd W_2) (Nat.zero_le _) (W_hi W_2) rfl d_X4_print_7 ?_
  refine J_i2l o d_X4_print_10 ?_
  refine J_lmul o d_X4_print_11 ?_
  refine J_aload_n o 0 d_X4_print_12 rfl ?_
  refine J_getR (t := 2) o fl_RX4_16 rfl (Nat.le_of_ble_eq_true rfl) (Nat.le_of_ble_eq_true rfl) rfl rfl d_X4_print_13 ?_
  refine J_getI o fl_RX4_171 (W_kd W_2) (Nat.zero_le _) (W_hi W_2) rfl d_X4_print_16 ?_
  refine J_i2l o d_X4_print_19 ?_
  refine J_ladd o d_X4_print_20 ?_
  refine J_lstore_n (lv' := [(1, .long ((31 * (σ 2 5).toInt64) + (σ 2 6).toInt64)), (0, .ref (wB (wC b) + 0))]) o d_X4_print_21 (by decide) rfl ?_
  refine J_iconst (v := 0) o d_X4_print_22 iconst_0 ?_
  refine J_istore_n (lv' := [(3, .int 0), (1, .long ((31 * (σ 2 5).toInt64) + (σ 2 6).toInt64)), (0, .ref (wB (wC b) + 0))]) o d_X4_print_23 (by decide) rfl ?_
  refine J_sub [2, 1, 0] rfl ?_
  obtain ⟨n9, h⟩ := h
  exact c_X4_print_24 o   n9 ((31 * (σ 2 5).toInt64) + (σ 2 6).toInt64) 0 σ  h
theorem d_X4_status_0 : decode cX4_status 0 = .ok (.iload_n 1, 1) := by decide +kernel
theorem d_X4_status_1 : decode cX4_status 1 = .ok (.tableswitch 42 0 2 #[27, 32, 37], 27) := by decide +kernel
theorem d_X4_status_28 : decode cX4_status 28 = .ok (.aload_n 0, 1) := by decide +kernel
theorem d_X4_status_29 : decode cX4_status 29 = .ok (.getfield 58, 3) := by decide +kernel
theorem d_X4_status_32 : decode cX4_status 32 = .ok (.ireturn, 1) := by decide +kernel
theorem d_X4_status_33 : decode cX4_status 33 = .ok (.aload_n 0, 1) := by decide +kernel
theorem d_X4_status_34 : decode cX4_status 34 = .ok (.getfield 61, 3) := by decide +kernel
theorem d_X4_status_37 : decode cX4_status 37 = .ok (.ireturn, 1) := by decide +kernel
theorem d_X4_status_38 : decode cX4_status 38 = .ok (.aload_n 0, 1) := by decide +kernel
theorem d_X4_status_39 : decode cX4_status 39 = .ok (.getfield 64, 3) := by decide +kernel
theorem d_X4_status_42 : decode cX4_status 42 = .ok (.ireturn, 1) := by decide +kernel
theorem d_X4_status_43 : decode cX4_status 43 = .ok (.iconst (-1), 1) := by decide +kernel
theorem d_X4_status_44 : decode cX4_status 44 = .ok (.ireturn, 1) := by decide +kernel
abbrev rm_X4_status : Room := { frames := 0, cells := 0, slots := 0, locals := 0 }
set_option maxHeartbeats 4000000 in
set_option maxRecDepth 20000 in
theorem w_X4_status (l : Launch) (b : Wy) {v1 : Int32} {σ : Sg} {K : Int32 → Sg → Prop}  (h : m_X4_status v1 σ K) : Ct l (wC b) yX4_status cX4_status 2 (some .int) rm_X4_status [.ref (wB (wC b) + 0), .int v1] σ (PI K) := by
  unfold m_X4_status at h
  refine Ct.of (own := RX4) (by decide +kernel) rfl (Nat.le_of_ble_eq_true rfl) (fun x hx o => ?_)
  subst hx
  show J x (wC b) (FinC x (wC b) (PI K) (0, 0)) 0 [(0, .ref (wB (wC b) + 0)), (1, .int v1)] [] (0, 0) σ
  refine J_iload_n o 1 d_X4_status_0 rfl ?_
  rcases tsw0_3 v1 with c1 | c1 | c1 | c1
  · replace h := h.1 c1
    refine J_tswOut o 43 d_X4_status_1 (tswO0_3 c1) rfl ?_
    refine J_iconst (v := (-1)) o d_X4_status_43 iconst_m1 ?_
    exact J_iret o d_X4_status_44 ⟨_, rfl, h⟩
  · replace h := h.2.1 c1
    refine J_tswIn o 0 c1 28 d_X4_status_1 (by decide) (by decide) rfl rfl ?_
    refine J_aload_n o 0 d_X4_status_28 rfl ?_
    refine J_getI o fl_RX4_58 rfl (Nat.le_of_ble_eq_true rfl) (Nat.le_of_ble_eq_true rfl) rfl d_X4_status_29 ?_
    exact J_iret o d_X4_status_32 ⟨_, rfl, h⟩
  · replace h := h.2.2.1 c1
    refine J_tswIn o 1 c1 33 d_X4_status_1 (by decide) (by decide) rfl rfl ?_
    refine J_aload_n o 0 d_X4_status_33 rfl ?_
    refine J_getI o fl_RX4_61 rfl (Nat.le_of_ble_eq_true rfl) (Nat.le_of_ble_eq_true rfl) rfl d_X4_status_34 ?_
    exact J_iret o d_X4_status_37 ⟨_, rfl, h⟩
  · replace h := h.2.2.2 c1
    refine J_tswIn o 2 c1 38 d_X4_status_1 (by decide) (by decide) rfl rfl ?_
    refine J_aload_n o 0 d_X4_status_38 rfl ?_
    refine J_getI o fl_RX4_64 rfl (Nat.le_of_ble_eq_true rfl) (Nat.le_of_ble_eq_true rfl) rfl d_X4_status_39 ?_
    exact J_iret o d_X4_status_42 ⟨_, rfl, h⟩
theorem d_X4_isIn_0 : decode cX4_isIn 0 = .ok (.iload_n 0, 1) := by decide +kernel
theorem d_X4_isIn_1 : decode cX4_isIn 1 = .ok (.iload_n 1, 1) := by decide +kernel
theorem d_X4_isIn_2 : decode cX4_isIn 2 = .ok (.if_icmp .lt 12, 3) := by decide +kernel
theorem d_X4_isIn_5 : decode cX4_isIn 5 = .ok (.iload_n 0, 1) := by decide +kernel
theorem d_X4_isIn_6 : decode cX4_isIn 6 = .ok (.iload_n 2, 1) := by decide +kernel
theorem d_X4_isIn_7 : decode cX4_isIn 7 = .ok (.if_icmp .gt 7, 3) := by decide +kernel
theorem d_X4_isIn_10 : decode cX4_isIn 10 = .ok (.iconst 1, 1) := by decide +kernel
theorem d_X4_isIn_11 : decode cX4_isIn 11 = .ok (.goto 4, 3) := by decide +kernel
theorem d_X4_isIn_14 : decode cX4_isIn 14 = .ok (.iconst 0, 1) := by decide +kernel
theorem d_X4_isIn_15 : decode cX4_isIn 15 = .ok (.ireturn, 1) := by decide +kernel
abbrev rm_X4_isIn : Room := { frames := 0, cells := 0, slots := 0, locals := 0 }
set_option maxHeartbeats 4000000 in
set_option maxRecDepth 20000 in
theorem w_X4_isIn (l : Launch) (b : Wy) {v0 : Int32} {v1 : Int32} {v2 : Int32} {σ : Sg} {K : Int32 → Sg → Prop}  (h : m_X4_isIn v0 v1 v2 σ K) : Ct l (wC b) yX4_isIn cX4_isIn 3 (some .boolean) rm_X4_isIn [.int v0, .int v1, .int v2] σ (PZ K) := by
  unfold m_X4_isIn at h
  refine Ct.of (own := RX4) (by decide +kernel) rfl (Nat.le_of_ble_eq_true rfl) (fun x hx o => ?_)
  subst hx
  show J x (wC b) (FinC x (wC b) (PZ K) (0, 0)) 0 [(0, .int v0), (1, .int v1), (2, .int v2)] [] (0, 0) σ
  refine J_iload_n o 0 d_X4_isIn_0 rfl ?_
  refine J_iload_n o 1 d_X4_isIn_1 rfl ?_
  refine J_icmp_lt o 14 d_X4_isIn_2 rfl (fun c2 => ?_) (fun c2 => ?_)
  · replace h := h.1 c2
    refine J_iconst (v := 0) o d_X4_isIn_14 iconst_0 ?_
    exact J_zret o (Or.inl rfl) d_X4_isIn_15 ⟨_, rfl, (Or.inl rfl), h⟩
  · replace h := h.2 c2
    refine J_iload_n o 0 d_X4_isIn_5 rfl ?_
    refine J_iload_n o 2 d_X4_isIn_6 rfl ?_
    refine J_icmp_gt o 14 d_X4_isIn_7 rfl (fun c7 => ?_) (fun c7 => ?_)
    · replace h := h.1 c7
      refine J_iconst (v := 0) o d_X4_isIn_14 iconst_0 ?_
      exact J_zret o (Or.inl rfl) d_X4_isIn_15 ⟨_, rfl, (Or.inl rfl), h⟩
    · replace h := h.2 c7
      refine J_iconst (v := 1) o d_X4_isIn_10 iconst_1 ?_
      refine J_goto o 15 d_X4_isIn_11 rfl ?_
      exact J_zret o (Or.inr rfl) d_X4_isIn_15 ⟨_, rfl, (Or.inr rfl), h⟩
theorem d_X2_begin_0 : decode cX2_begin 0 = .ok (.aload_n 0, 1) := by decide +kernel
theorem d_X2_begin_1 : decode cX2_begin 1 = .ok (.getfield 56, 3) := by decide +kernel
theorem d_X2_begin_4 : decode cX2_begin 4 = .ok (.invokevirtual 83, 3) := by decide +kernel
theorem d_X2_begin_7 : decode cX2_begin 7 = .ok (.aload_n 0, 1) := by decide +kernel
theorem d_X2_begin_8 : decode cX2_begin 8 = .ok (.iload_n 1, 1) := by decide +kernel
theorem d_X2_begin_9 : decode cX2_begin 9 = .ok (.aload_n 0, 1) := by decide +kernel
theorem d_X2_begin_10 : decode cX2_begin 10 = .ok (.getfield 52, 3) := by decide +kernel
theorem d_X2_begin_13 : decode cX2_begin 13 = .ok (.arraylength, 1) := by decide +kernel
theorem d_X2_begin_14 : decode cX2_begin 14 = .ok (.invokestatic 86, 3) := by decide +kernel
theorem d_X2_begin_17 : decode cX2_begin 17 = .ok (.putfield 9, 3) := by decide +kernel
theorem d_X2_begin_20 : decode cX2_begin 20 = .ok (.aload_n 0, 1) := by decide +kernel
theorem d_X2_begin_21 : decode cX2_begin 21 = .ok (.iconst 0, 1) := by decide +kernel
theorem d_X2_begin_22 : decode cX2_begin 22 = .ok (.putfield 15, 3) := by decide +kernel
theorem d_X2_begin_25 : decode cX2_begin 25 = .ok (.aload_n 0, 1) := by decide +kernel
theorem d_X2_begin_26 : decode cX2_begin 26 = .ok (.iconst 0, 1) := by decide +kernel
theorem d_X2_begin_27 : decode cX2_begin 27 = .ok (.putfield 33, 3) := by decide +kernel
theorem d_X2_begin_30 : decode cX2_begin 30 = .ok (.aload_n 0, 1) := by decide +kernel
theorem d_X2_begin_31 : decode cX2_begin 31 = .ok (.iconst (-1), 1) := by decide +kernel
theorem d_X2_begin_32 : decode cX2_begin 32 = .ok (.putfield 36, 3) := by decide +kernel
theorem d_X2_begin_35 : decode cX2_begin 35 = .ok (.aload_n 0, 1) := by decide +kernel
theorem d_X2_begin_36 : decode cX2_begin 36 = .ok (.iconst 0, 1) := by decide +kernel
theorem d_X2_begin_37 : decode cX2_begin 37 = .ok (.putfield 39, 3) := by decide +kernel
theorem d_X2_begin_40 : decode cX2_begin 40 = .ok (.aload_n 0, 1) := by decide +kernel
theorem d_X2_begin_41 : decode cX2_begin 41 = .ok (.iconst 0, 1) := by decide +kernel
theorem d_X2_begin_42 : decode cX2_begin 42 = .ok (.putfield 43, 3) := by decide +kernel
theorem d_X2_begin_45 : decode cX2_begin 45 = .ok (.aload_n 0, 1) := by decide +kernel
theorem d_X2_begin_46 : decode cX2_begin 46 = .ok (.iconst 0, 1) := by decide +kernel
theorem d_X2_begin_47 : decode cX2_begin 47 = .ok (.putfield 46, 3) := by decide +kernel
theorem d_X2_begin_50 : decode cX2_begin 50 = .ok (.aload_n 0, 1) := by decide +kernel
theorem d_X2_begin_51 : decode cX2_begin 51 = .ok (.iconst 0, 1) := by decide +kernel
theorem d_X2_begin_52 : decode cX2_begin 52 = .ok (.putfield 49, 3) := by decide +kernel
theorem d_X2_begin_55 : decode cX2_begin 55 = .ok (.return_, 1) := by decide +kernel
abbrev rm_X2_begin : Room := { frames := 2, cells := 0, slots := 0, locals := 43 }
set_option maxHeartbeats 4000000 in
set_option maxRecDepth 20000 in
theorem w_X2_begin (l : Launch) (b : Wy) {v1 : Int32} {σ : Sg} {K : Sg → Prop}  (h : m_X2_begin v1 σ K) : Ct l (wC b) yX2_begin cX2_begin 2 none rm_X2_begin [.ref (wB (wC b) + 18), .int v1] σ (PV K) := by
  unfold m_X2_begin at h
  refine Ct.of (own := RX2) (by decide +kernel) rfl (Nat.le_of_ble_eq_true rfl) (fun x hx o => ?_)
  subst hx
  show J x (wC b) (FinC x (wC b) (PV K) (0, 0)) 0 [(0, .ref (wB (wC b) + 18)), (1, .int v1)] [] (0, 0) σ
  refine J_aload_n o 0 d_X2_begin_0 rfl ?_
  refine J_getR (t := 10) o fl_RX2_56 rfl (Nat.le_of_ble_eq_true rfl) (Nat.le_of_ble_eq_true rfl) rfl rfl d_X2_begin_1 ?_
  refine J_callV (k := 10) (c := 3) o [] (W_kd W_10) (by decide) (Nat.zero_le _) (W_hi W_10) mth_X3_beginEmpty iv_X3_beginEmpty ml_RX2_83 ⟨Nat.le_of_ble_eq_true rfl, Nat.le_of_ble_eq_true rfl⟩ rfl rfl (Nat.le_of_ble_eq_true rfl) ⟨Nat.le_refl _, Nat.le_refl _⟩ d_X2_begin_4 (w_X3_beginEmpty (xL x) b W_10 h) (aV (fun s4 h => ?_))
  refine J_aload_n o 0 d_X2_begin_7 rfl ?_
  refine J_iload_n o 1 d_X2_begin_8 rfl ?_
  refine J_aload_n o 0 d_X2_begin_9 rfl ?_
  refine J_getR (t := 1) o fl_RX2_52 rfl (Nat.le_of_ble_eq_true rfl) (Nat.le_of_ble_eq_true rfl) rfl rfl d_X2_begin_10 ?_
  refine J_alenL o A_1 (rfl : ln 1 = 400) d_X2_begin_13 ?_
  refine J_min o mm_RX2_86 ms_min mi_math mc_min ⟨Nat.le_of_ble_eq_true rfl, Nat.le_of_ble_eq_true rfl, Nat.le_of_ble_eq_true rfl, Nat.le_of_ble_eq_true rfl⟩ d_X2_begin_14 ?_
  refine J_put o fl_RX2_9 la_2 rfl (Nat.le_of_ble_eq_true rfl) (Nat.le_of_ble_eq_true rfl) rfl rfl rfl rfl d_X2_begin_17 ?_
  refine J_nS (fun s17 es17 => ?_)
  replace h := h s17 es17
  refine J_aload_n o 0 d_X2_begin_20 rfl ?_
  refine J_iconst (v := 0) o d_X2_begin_21 iconst_0 ?_
  refine J_put o fl_RX2_15 la_2 rfl (Nat.le_of_ble_eq_true rfl) (Nat.le_of_ble_eq_true rfl) rfl rfl rfl rfl d_X2_begin_22 ?_
  refine J_nS (fun s22 es22 => ?_)
  replace h := h s22 es22
  refine J_aload_n o 0 d_X2_begin_25 rfl ?_
  refine J_iconst (v := 0) o d_X2_begin_26 iconst_0 ?_
  refine J_put o fl_RX2_33 la_2 rfl (Nat.le_of_ble_eq_true rfl) (Nat.le_of_ble_eq_true rfl) rfl rfl rfl rfl d_X2_begin_27 ?_
  refine J_nS (fun s27 es27 => ?_)
  replace h := h s27 es27
  refine J_aload_n o 0 d_X2_begin_30 rfl ?_
  refine J_iconst (v := (-1)) o d_X2_begin_31 iconst_m1 ?_
  refine J_put o fl_RX2_36 la_2 rfl (Nat.le_of_ble_eq_true rfl) (Nat.le_of_ble_eq_true rfl) rfl rfl rfl rfl d_X2_begin_32 ?_
  refine J_nS (fun s32 es32 => ?_)
  replace h := h s32 es32
  refine J_aload_n o 0 d_X2_begin_35 rfl ?_
  refine J_iconst (v := 0) o d_X2_begin_36 iconst_0 ?_
  refine J_put o fl_RX2_39 la_2 rfl (Nat.le_of_ble_eq_true rfl) (Nat.le_of_ble_eq_true rfl) rfl rfl rfl rfl d_X2_begin_37 ?_
  refine J_nS (fun s37 es37 => ?_)
  replace h := h s37 es37
  refine J_aload_n o 0 d_X2_begin_40 rfl ?_
  refine J_iconst (v := 0) o d_X2_begin_41 iconst_0 ?_
  refine J_put o fl_RX2_43 la_2 rfl (Nat.le_of_ble_eq_true rfl) (Nat.le_of_ble_eq_true rfl) rfl rfl rfl rfl d_X2_begin_42 ?_
  refine J_nS (fun s42 es42 => ?_)
  replace h := h s42 es42
  refine J_aload_n o 0 d_X2_begin_45 rfl ?_
  refine J_iconst (v := 0) o d_X2_begin_46 iconst_0 ?_
  refine J_put o fl_RX2_46 la_2 rfl (Nat.le_of_ble_eq_true rfl) (Nat.le_of_ble_eq_true rfl) rfl rfl rfl rfl d_X2_begin_47 ?_
  refine J_nS (fun s47 es47 => ?_)
  replace h := h s47 es47
  refine J_aload_n o 0 d_X2_begin_50 rfl ?_
  refine J_iconst (v := 0) o d_X2_begin_51 iconst_0 ?_
  refine J_put o fl_RX2_49 la_2 rfl (Nat.le_of_ble_eq_true rfl) (Nat.le_of_ble_eq_true rfl) rfl rfl rfl rfl d_X2_begin_52 ?_
  refine J_nS (fun s52 es52 => ?_)
  replace h := h s52 es52
  exact J_vret o d_X2_begin_55 ⟨rfl, h⟩
theorem d_X2_skipBlanks_0 : decode cX2_skipBlanks 0 = .ok (.aload_n 0, 1) := by decide +kernel
theorem d_X2_skipBlanks_1 : decode cX2_skipBlanks 1 = .ok (.getfield 15, 3) := by decide +kernel
theorem d_X2_skipBlanks_4 : decode cX2_skipBlanks 4 = .ok (.ifCond .lt 53, 3) := by decide +kernel
theorem d_X2_skipBlanks_7 : decode cX2_skipBlanks 7 = .ok (.aload_n 0, 1) := by decide +kernel
theorem d_X2_skipBlanks_8 : decode cX2_skipBlanks 8 = .ok (.getfield 15, 3) := by decide +kernel
theorem d_X2_skipBlanks_11 : decode cX2_skipBlanks 11 = .ok (.aload_n 0, 1) := by decide +kernel
theorem d_X2_skipBlanks_12 : decode cX2_skipBlanks 12 = .ok (.getfield 9, 3) := by decide +kernel
theorem d_X2_skipBlanks_15 : decode cX2_skipBlanks 15 = .ok (.if_icmp .ge 42, 3) := by decide +kernel
theorem d_X2_skipBlanks_18 : decode cX2_skipBlanks 18 = .ok (.aload_n 0, 1) := by decide +kernel
theorem d_X2_skipBlanks_19 : decode cX2_skipBlanks 19 = .ok (.getfield 15, 3) := by decide +kernel
theorem d_X2_skipBlanks_22 : decode cX2_skipBlanks 22 = .ok (.aload_n 0, 1) := by decide +kernel
theorem d_X2_skipBlanks_23 : decode cX2_skipBlanks 23 = .ok (.getfield 52, 3) := by decide +kernel
theorem d_X2_skipBlanks_26 : decode cX2_skipBlanks 26 = .ok (.arraylength, 1) := by decide +kernel
theorem d_X2_skipBlanks_27 : decode cX2_skipBlanks 27 = .ok (.if_icmp .ge 30, 3) := by decide +kernel
theorem d_X2_skipBlanks_30 : decode cX2_skipBlanks 30 = .ok (.aload_n 0, 1) := by decide +kernel
theorem d_X2_skipBlanks_31 : decode cX2_skipBlanks 31 = .ok (.getfield 52, 3) := by decide +kernel
theorem d_X2_skipBlanks_34 : decode cX2_skipBlanks 34 = .ok (.aload_n 0, 1) := by decide +kernel
theorem d_X2_skipBlanks_35 : decode cX2_skipBlanks 35 = .ok (.getfield 15, 3) := by decide +kernel
theorem d_X2_skipBlanks_38 : decode cX2_skipBlanks 38 = .ok (.iaload, 1) := by decide +kernel
theorem d_X2_skipBlanks_39 : decode cX2_skipBlanks 39 = .ok (.bipush 32, 2) := by decide +kernel
theorem d_X2_skipBlanks_41 : decode cX2_skipBlanks 41 = .ok (.if_icmp .ne 16, 3) := by decide +kernel
theorem d_X2_skipBlanks_44 : decode cX2_skipBlanks 44 = .ok (.aload_n 0, 1) := by decide +kernel
theorem d_X2_skipBlanks_45 : decode cX2_skipBlanks 45 = .ok (.dup, 1) := by decide +kernel
theorem d_X2_skipBlanks_46 : decode cX2_skipBlanks 46 = .ok (.getfield 15, 3) := by decide +kernel
theorem d_X2_skipBlanks_49 : decode cX2_skipBlanks 49 = .ok (.iconst 1, 1) := by decide +kernel
theorem d_X2_skipBlanks_50 : decode cX2_skipBlanks 50 = .ok (.iadd, 1) := by decide +kernel
theorem d_X2_skipBlanks_51 : decode cX2_skipBlanks 51 = .ok (.putfield 15, 3) := by decide +kernel
theorem d_X2_skipBlanks_54 : decode cX2_skipBlanks 54 = .ok (.goto (-54), 3) := by decide +kernel
theorem d_X2_skipBlanks_57 : decode cX2_skipBlanks 57 = .ok (.return_, 1) := by decide +kernel
abbrev rm_X2_skipBlanks : Room := { frames := 0, cells := 0, slots := 0, locals := 0 }
set_option maxHeartbeats 4000000 in
set_option maxRecDepth 20000 in
theorem c_X2_skipBlanks_0 {x : Cx} {b : Wy} (o : Ok x (wC b) cX2_skipBlanks 1 RX2 none rm_X2_skipBlanks)  {K : Sg → Prop}   : ∀ (n : Nat)  (σ : Sg), m_X2_skipBlanks_l0  K  n  σ → J x (wC b) (FinC x (wC b) (PV K) (0, 0)) 0 [(0, .ref (wB (wC b) + 18))] [] (0, 0) σ := by
  intro n
  induction n with
  | zero =>
    intro  σ  h
    exact False.elim h
  | succ n ih =>
    intro  σ  h
    unfold m_X2_skipBlanks_l0 at h
    refine J_aload_n o 0 d_X2_skipBlanks_0 rfl ?_
    refine J_getI o fl_RX2_15 rfl (Nat.le_of_ble_eq_true rfl) (Nat.le_of_ble_eq_true rfl) rfl d_X2_skipBlanks_1 ?_
    refine J_if_lt o 57 d_X2_skipBlanks_4 rfl (fun c4 => ?_) (fun c4 => ?_)
    · replace h := h.1 c4
      exact J_vret o d_X2_skipBlanks_57 ⟨rfl, h⟩
    · replace h := h.2 c4
      refine J_aload_n o 0 d_X2_skipBlanks_7 rfl ?_
      refine J_getI o fl_RX2_15 rfl (Nat.le_of_ble_eq_true rfl) (Nat.le_of_ble_eq_true rfl) rfl d_X2_skipBlanks_8 ?_
      refine J_aload_n o 0 d_X2_skipBlanks_11 rfl ?_
      refine J_getI o fl_RX2_9 rfl (Nat.le_of_ble_eq_true rfl) (Nat.le_of_ble_eq_true rfl) rfl d_X2_skipBlanks_12 ?_
      refine J_icmp_ge o 57 d_X2_skipBlanks_15 rfl (fun c15 => ?_) (fun c15 => ?_)
      · replace h := h.1 c15
        exact J_vret o d_X2_skipBlanks_57 ⟨rfl, h⟩
      · replace h := h.2 c15
        refine J_aload_n o 0 d_X2_skipBlanks_18 rfl ?_
        refine J_getI o fl_RX2_15 rfl (Nat.le_of_ble_eq_true rfl) (Nat.le_of_ble_eq_true rfl) rfl d_X2_skipBlanks_19 ?_
        refine J_aload_n o 0 d_X2_skipBlanks_22 rfl ?_
        refine J_getR (t := 1) o fl_RX2_52 rfl (Nat.le_of_ble_eq_true rfl) (Nat.le_of_ble_eq_true rfl) rfl rfl d_X2_skipBlanks_23 ?_
        refine J_alenL o A_1 (rfl : ln 1 = 400) d_X2_skipBlanks_26 ?_
        refine J_icmp_ge o 57 d_X2_skipBlanks_27 rfl (fun c27 => ?_) (fun c27 => ?_)
        · replace h := h.1 c27
          exact J_vret o d_X2_skipBlanks_57 ⟨rfl, h⟩
        · replace h := h.2 c27
          refine J_aload_n o 0 d_X2_skipBlanks_30 rfl ?_
          refine J_getR (t := 1) o fl_RX2_52 rfl (Nat.le_of_ble_eq_true rfl) (Nat.le_of_ble_eq_true rfl) rfl rfl d_X2_skipBlanks_31 ?_
          refine J_aload_n o 0 d_X2_skipBlanks_34 rfl ?_
          refine J_getI o fl_RX2_15 rfl (Nat.le_of_ble_eq_true rfl) (Nat.le_of_ble_eq_true rfl) rfl d_X2_skipBlanks_35 ?_
          have b38 := h.1
          replace h := h.2
          refine J_iald o A_1 (vpc (rfl : ln 1 = 400) b38) d_X2_skipBlanks_38 ?_
          refine J_bipush (v := 32) o d_X2_skipBlanks_39 bipush_32 ?_
          refine J_icmp_ne o 57 d_X2_skipBlanks_41 rfl (fun c41 => ?_) (fun c41 => ?_)
          · replace h := h.1 c41
            exact J_vret o d_X2_skipBlanks_57 ⟨rfl, h⟩
          · replace h := h.2 c41
            refine J_aload_n o 0 d_X2_skipBlanks_44 rfl ?_
            refine J_dup o d_X2_skipBlanks_45 rfl ?_
            refine J_getI o fl_RX2_15 rfl (Nat.le_of_ble_eq_true rfl) (Nat.le_of_ble_eq_true rfl) rfl d_X2_skipBlanks_46 ?_
            refine J_iconst (v := 1) o d_X2_skipBlanks_49 iconst_1 ?_
            refine J_iadd o d_X2_skipBlanks_50 ?_
            refine J_put o fl_RX2_15 la_2 rfl (Nat.le_of_ble_eq_true rfl) (Nat.le_of_ble_eq_true rfl) rfl rfl rfl rfl d_X2_skipBlanks_51 ?_
            refine J_nS (fun s51 es51 => ?_)
            replace h := h s51 es51
            refine J_goto o 0 d_X2_skipBlanks_54 rfl ?_
            exact ih s51  h
set_option maxHeartbeats 4000000 in
set_option maxRecDepth 20000 in
theorem w_X2_skipBlanks (l : Launch) (b : Wy)  {σ : Sg} {K : Sg → Prop}  (h : m_X2_skipBlanks  σ K) : Ct l (wC b) yX2_skipBlanks cX2_skipBlanks 1 none rm_X2_skipBlanks [.ref (wB (wC b) + 18)] σ (PV K) := by
  unfold m_X2_skipBlanks at h
  refine Ct.of (own := RX2) (by decide +kernel) rfl (Nat.le_of_ble_eq_true rfl) (fun x hx o => ?_)
  subst hx
  show J x (wC b) (FinC x (wC b) (PV K) (0, 0)) 0 [(0, .ref (wB (wC b) + 18))] [] (0, 0) σ
  obtain ⟨n9, h⟩ := h
  exact c_X2_skipBlanks_0 o   n9 σ  h
theorem d_X2_byteAt_0 : decode cX2_byteAt 0 = .ok (.iload_n 1, 1) := by decide +kernel
theorem d_X2_byteAt_1 : decode cX2_byteAt 1 = .ok (.ifCond .lt 29, 3) := by decide +kernel
theorem d_X2_byteAt_4 : decode cX2_byteAt 4 = .ok (.iload_n 1, 1) := by decide +kernel
theorem d_X2_byteAt_5 : decode cX2_byteAt 5 = .ok (.aload_n 0, 1) := by decide +kernel
theorem d_X2_byteAt_6 : decode cX2_byteAt 6 = .ok (.getfield 9, 3) := by decide +kernel
theorem d_X2_byteAt_9 : decode cX2_byteAt 9 = .ok (.if_icmp .ge 21, 3) := by decide +kernel
theorem d_X2_byteAt_12 : decode cX2_byteAt 12 = .ok (.iload_n 1, 1) := by decide +kernel
theorem d_X2_byteAt_13 : decode cX2_byteAt 13 = .ok (.aload_n 0, 1) := by decide +kernel
theorem d_X2_byteAt_14 : decode cX2_byteAt 14 = .ok (.getfield 52, 3) := by decide +kernel
theorem d_X2_byteAt_17 : decode cX2_byteAt 17 = .ok (.arraylength, 1) := by decide +kernel
theorem d_X2_byteAt_18 : decode cX2_byteAt 18 = .ok (.if_icmp .ge 12, 3) := by decide +kernel
theorem d_X2_byteAt_21 : decode cX2_byteAt 21 = .ok (.aload_n 0, 1) := by decide +kernel
theorem d_X2_byteAt_22 : decode cX2_byteAt 22 = .ok (.getfield 52, 3) := by decide +kernel
theorem d_X2_byteAt_25 : decode cX2_byteAt 25 = .ok (.iload_n 1, 1) := by decide +kernel
theorem d_X2_byteAt_26 : decode cX2_byteAt 26 = .ok (.iaload, 1) := by decide +kernel
theorem d_X2_byteAt_27 : decode cX2_byteAt 27 = .ok (.goto 4, 3) := by decide +kernel
theorem d_X2_byteAt_30 : decode cX2_byteAt 30 = .ok (.iconst (-1), 1) := by decide +kernel
theorem d_X2_byteAt_31 : decode cX2_byteAt 31 = .ok (.ireturn, 1) := by decide +kernel
abbrev rm_X2_byteAt : Room := { frames := 0, cells := 0, slots := 0, locals := 0 }
set_option maxHeartbeats 4000000 in
set_option maxRecDepth 20000 in
theorem w_X2_byteAt (l : Launch) (b : Wy) {v1 : Int32} {σ : Sg} {K : Int32 → Sg → Prop}  (h : m_X2_byteAt v1 σ K) : Ct l (wC b) yX2_byteAt cX2_byteAt 2 (some .int) rm_X2_byteAt [.ref (wB (wC b) + 18), .int v1] σ (PI K) := by
  unfold m_X2_byteAt at h
  refine Ct.of (own := RX2) (by decide +kernel) rfl (Nat.le_of_ble_eq_true rfl) (fun x hx o => ?_)
  subst hx
  show J x (wC b) (FinC x (wC b) (PI K) (0, 0)) 0 [(0, .ref (wB (wC b) + 18)), (1, .int v1)] [] (0, 0) σ
  refine J_iload_n o 1 d_X2_byteAt_0 rfl ?_
  refine J_if_lt o 30 d_X2_byteAt_1 rfl (fun c1 => ?_) (fun c1 => ?_)
  · replace h := h.1 c1
    refine J_iconst (v := (-1)) o d_X2_byteAt_30 iconst_m1 ?_
    exact J_iret o d_X2_byteAt_31 ⟨_, rfl, h⟩
  · replace h := h.2 c1
    refine J_iload_n o 1 d_X2_byteAt_4 rfl ?_
    refine J_aload_n o 0 d_X2_byteAt_5 rfl ?_
    refine J_getI o fl_RX2_9 rfl (Nat.le_of_ble_eq_true rfl) (Nat.le_of_ble_eq_true rfl) rfl d_X2_byteAt_6 ?_
    refine J_icmp_ge o 30 d_X2_byteAt_9 rfl (fun c9 => ?_) (fun c9 => ?_)
    · replace h := h.1 c9
      refine J_iconst (v := (-1)) o d_X2_byteAt_30 iconst_m1 ?_
      exact J_iret o d_X2_byteAt_31 ⟨_, rfl, h⟩
    · replace h := h.2 c9
      refine J_iload_n o 1 d_X2_byteAt_12 rfl ?_
      refine J_aload_n o 0 d_X2_byteAt_13 rfl ?_
      refine J_getR (t := 1) o fl_RX2_52 rfl (Nat.le_of_ble_eq_true rfl) (Nat.le_of_ble_eq_true rfl) rfl rfl d_X2_byteAt_14 ?_
      refine J_alenL o A_1 (rfl : ln 1 = 400) d_X2_byteAt_17 ?_
      refine J_icmp_ge o 30 d_X2_byteAt_18 rfl (fun c18 => ?_) (fun c18 => ?_)
      · replace h := h.1 c18
        refine J_iconst (v := (-1)) o d_X2_byteAt_30 iconst_m1 ?_
        exact J_iret o d_X2_byteAt_31 ⟨_, rfl, h⟩
      · replace h := h.2 c18
        refine J_aload_n o 0 d_X2_byteAt_21 rfl ?_
        refine J_getR (t := 1) o fl_RX2_52 rfl (Nat.le_of_ble_eq_true rfl) (Nat.le_of_ble_eq_true rfl) rfl rfl d_X2_byteAt_22 ?_
        refine J_iload_n o 1 d_X2_byteAt_25 rfl ?_
        have b26 := h.1
        replace h := h.2
        refine J_iald o A_1 (vpc (rfl : ln 1 = 400) b26) d_X2_byteAt_26 ?_
        refine J_goto o 31 d_X2_byteAt_27 rfl ?_
        exact J_iret o d_X2_byteAt_31 ⟨_, rfl, h⟩
theorem d_X2_fail_0 : decode cX2_fail 0 = .ok (.aload_n 0, 1) := by decide +kernel
theorem d_X2_fail_1 : decode cX2_fail 1 = .ok (.iload_n 1, 1) := by decide +kernel
theorem d_X2_fail_2 : decode cX2_fail 2 = .ok (.putfield 33, 3) := by decide +kernel
theorem d_X2_fail_5 : decode cX2_fail 5 = .ok (.aload_n 0, 1) := by decide +kernel
theorem d_X2_fail_6 : decode cX2_fail 6 = .ok (.iload_n 2, 1) := by decide +kernel
theorem d_X2_fail_7 : decode cX2_fail 7 = .ok (.putfield 36, 3) := by decide +kernel
theorem d_X2_fail_10 : decode cX2_fail 10 = .ok (.iconst 0, 1) := by decide +kernel
theorem d_X2_fail_11 : decode cX2_fail 11 = .ok (.ireturn, 1) := by decide +kernel
abbrev rm_X2_fail : Room := { frames := 0, cells := 0, slots := 0, locals := 0 }
set_option maxHeartbeats 4000000 in
set_option maxRecDepth 20000 in
theorem w_X2_fail (l : Launch) (b : Wy) {v1 : Int32} {v2 : Int32} {σ : Sg} {K : Int32 → Sg → Prop}  (h : m_X2_fail v1 v2 σ K) : Ct l (wC b) yX2_fail cX2_fail 3 (some .boolean) rm_X2_fail [.ref (wB (wC b) + 18), .int v1, .int v2] σ (PZ K) := by
  unfold m_X2_fail at h
  refine Ct.of (own := RX2) (by decide +kernel) rfl (Nat.le_of_ble_eq_true rfl) (fun x hx o => ?_)
  subst hx
  show J x (wC b) (FinC x (wC b) (PZ K) (0, 0)) 0 [(0, .ref (wB (wC b) + 18)), (1, .int v1), (2, .int v2)] [] (0, 0) σ
  refine J_aload_n o 0 d_X2_fail_0 rfl ?_
  refine J_iload_n o 1 d_X2_fail_1 rfl ?_
  refine J_put o fl_RX2_33 la_2 rfl (Nat.le_of_ble_eq_true rfl) (Nat.le_of_ble_eq_true rfl) rfl rfl rfl rfl d_X2_fail_2 ?_
  refine J_nS (fun s2 es2 => ?_)
  replace h := h s2 es2
  refine J_aload_n o 0 d_X2_fail_5 rfl ?_
  refine J_iload_n o 2 d_X2_fail_6 rfl ?_
  refine J_put o fl_RX2_36 la_2 rfl (Nat.le_of_ble_eq_true rfl) (Nat.le_of_ble_eq_true rfl) rfl rfl rfl rfl d_X2_fail_7 ?_
  refine J_nS (fun s7 es7 => ?_)
  replace h := h s7 es7
  refine J_iconst (v := 0) o d_X2_fail_10 iconst_0 ?_
  exact J_zret o (Or.inl rfl) d_X2_fail_11 ⟨_, rfl, (Or.inl rfl), h⟩
theorem d_X2_readWord_0 : decode cX2_readWord 0 = .ok (.aload_n 0, 1) := by decide +kernel
theorem d_X2_readWord_1 : decode cX2_readWord 1 = .ok (.invokevirtual 239, 3) := by decide +kernel
theorem d_X2_readWord_4 : decode cX2_readWord 4 = .ok (.aload_n 0, 1) := by decide +kernel
theorem d_X2_readWord_5 : decode cX2_readWord 5 = .ok (.aload_n 0, 1) := by decide +kernel
theorem d_X2_readWord_6 : decode cX2_readWord 6 = .ok (.getfield 15, 3) := by decide +kernel
theorem d_X2_readWord_9 : decode cX2_readWord 9 = .ok (.putfield 18, 3) := by decide +kernel
theorem d_X2_readWord_12 : decode cX2_readWord 12 = .ok (.aload_n 0, 1) := by decide +kernel
theorem d_X2_readWord_13 : decode cX2_readWord 13 = .ok (.getfield 15, 3) := by decide +kernel
theorem d_X2_readWord_16 : decode cX2_readWord 16 = .ok (.aload_n 0, 1) := by decide +kernel
theorem d_X2_readWord_17 : decode cX2_readWord 17 = .ok (.getfield 9, 3) := by decide +kernel
theorem d_X2_readWord_20 : decode cX2_readWord 20 = .ok (.if_icmp .ge 34, 3) := by decide +kernel
theorem d_X2_readWord_23 : decode cX2_readWord 23 = .ok (.aload_n 0, 1) := by decide +kernel
theorem d_X2_readWord_24 : decode cX2_readWord 24 = .ok (.aload_n 0, 1) := by decide +kernel
theorem d_X2_readWord_25 : decode cX2_readWord 25 = .ok (.getfield 15, 3) := by decide +kernel
theorem d_X2_readWord_28 : decode cX2_readWord 28 = .ok (.invokevirtual 242, 3) := by decide +kernel
theorem d_X2_readWord_31 : decode cX2_readWord 31 = .ok (.bipush 97, 2) := by decide +kernel
theorem d_X2_readWord_33 : decode cX2_readWord 33 = .ok (.bipush 122, 2) := by decide +kernel
theorem d_X2_readWord_35 : decode cX2_readWord 35 = .ok (.invokestatic 245, 3) := by decide +kernel
theorem d_X2_readWord_38 : decode cX2_readWord 38 = .ok (.ifCond .eq 16, 3) := by decide +kernel
theorem d_X2_readWord_41 : decode cX2_readWord 41 = .ok (.aload_n 0, 1) := by decide +kernel
theorem d_X2_readWord_42 : decode cX2_readWord 42 = .ok (.dup, 1) := by decide +kernel
theorem d_X2_readWord_43 : decode cX2_readWord 43 = .ok (.getfield 15, 3) := by decide +kernel
theorem d_X2_readWord_46 : decode cX2_readWord 46 = .ok (.iconst 1, 1) := by decide +kernel
theorem d_X2_readWord_47 : decode cX2_readWord 47 = .ok (.iadd, 1) := by decide +kernel
theorem d_X2_readWord_48 : decode cX2_readWord 48 = .ok (.putfield 15, 3) := by decide +kernel
theorem d_X2_readWord_51 : decode cX2_readWord 51 = .ok (.goto (-39), 3) := by decide +kernel
theorem d_X2_readWord_54 : decode cX2_readWord 54 = .ok (.aload_n 0, 1) := by decide +kernel
theorem d_X2_readWord_55 : decode cX2_readWord 55 = .ok (.getfield 15, 3) := by decide +kernel
theorem d_X2_readWord_58 : decode cX2_readWord 58 = .ok (.aload_n 0, 1) := by decide +kernel
theorem d_X2_readWord_59 : decode cX2_readWord 59 = .ok (.getfield 18, 3) := by decide +kernel
theorem d_X2_readWord_62 : decode cX2_readWord 62 = .ok (.if_icmp .gt 15, 3) := by decide +kernel
theorem d_X2_readWord_65 : decode cX2_readWord 65 = .ok (.aload_n 0, 1) := by decide +kernel
theorem d_X2_readWord_66 : decode cX2_readWord 66 = .ok (.iconst 1, 1) := by decide +kernel
theorem d_X2_readWord_67 : decode cX2_readWord 67 = .ok (.aload_n 0, 1) := by decide +kernel
theorem d_X2_readWord_68 : decode cX2_readWord 68 = .ok (.getfield 18, 3) := by decide +kernel
theorem d_X2_readWord_71 : decode cX2_readWord 71 = .ok (.invokevirtual 79, 3) := by decide +kernel
theorem d_X2_readWord_74 : decode cX2_readWord 74 = .ok (.ifCond .eq 7, 3) := by decide +kernel
theorem d_X2_readWord_77 : decode cX2_readWord 77 = .ok (.iconst 1, 1) := by decide +kernel
theorem d_X2_readWord_78 : decode cX2_readWord 78 = .ok (.goto 4, 3) := by decide +kernel
theorem d_X2_readWord_81 : decode cX2_readWord 81 = .ok (.iconst 0, 1) := by decide +kernel
theorem d_X2_readWord_82 : decode cX2_readWord 82 = .ok (.ireturn, 1) := by decide +kernel
abbrev rm_X2_readWord : Room := { frames := 1, cells := 0, slots := 0, locals := 22 }
set_option maxHeartbeats 4000000 in
set_option maxRecDepth 20000 in
theorem c_X2_readWord_54 {x : Cx} {b : Wy} (o : Ok x (wC b) cX2_readWord 1 RX2 (some .boolean) rm_X2_readWord)  {K : Int32 → Sg → Prop}   : ∀  (σ : Sg), m_X2_readWord_j54  K   σ → J x (wC b) (FinC x (wC b) (PZ K) (0, 0)) 54 [(0, .ref (wB (wC b) + 18))] [] (0, 0) σ := by
  intro  σ  h
  unfold m_X2_readWord_j54 at h
  refine J_aload_n o 0 d_X2_readWord_54 rfl ?_
  refine J_getI o fl_RX2_15 rfl (Nat.le_of_ble_eq_true rfl) (Nat.le_of_ble_eq_true rfl) rfl d_X2_readWord_55 ?_
  refine J_aload_n o 0 d_X2_readWord_58 rfl ?_
  refine J_getI o fl_RX2_18 rfl (Nat.le_of_ble_eq_true rfl) (Nat.le_of_ble_eq_true rfl) rfl d_X2_readWord_59 ?_
  refine J_icmp_gt o 77 d_X2_readWord_62 rfl (fun c62 => ?_) (fun c62 => ?_)
  · replace h := h.1 c62
    refine J_iconst (v := 1) o d_X2_readWord_77 iconst_1 ?_
    refine J_goto o 82 d_X2_readWord_78 rfl ?_
    exact J_zret o (Or.inr rfl) d_X2_readWord_82 ⟨_, rfl, (Or.inr rfl), h⟩
  · replace h := h.2 c62
    refine J_aload_n o 0 d_X2_readWord_65 rfl ?_
    refine J_iconst (v := 1) o d_X2_readWord_66 iconst_1 ?_
    refine J_aload_n o 0 d_X2_readWord_67 rfl ?_
    refine J_getI o fl_RX2_18 rfl (Nat.le_of_ble_eq_true rfl) (Nat.le_of_ble_eq_true rfl) rfl d_X2_readWord_68 ?_
    refine J_callV (k := 18) (c := 2) o [.int 1, .int (σ 18 4)] rfl (by decide) (Nat.le_of_ble_eq_true rfl) (Nat.le_of_ble_eq_true rfl) mth_X2_fail iv_X2_fail ml_RX2_79 ⟨Nat.le_of_ble_eq_true rfl, Nat.le_of_ble_eq_true rfl⟩ rfl rfl (Nat.le_of_ble_eq_true rfl) ⟨Nat.le_refl _, Nat.le_refl _⟩ d_X2_readWord_71 (w_X2_fail (xL x) b  h) (aZ (fun r71 s71 hzr71 h => ?_))
    refine J_if_eq o 81 d_X2_readWord_74 rfl (fun c74 => ?_) (fun c74 => ?_)
    · replace h := h.1 c74
      refine J_iconst (v := 0) o d_X2_readWord_81 iconst_0 ?_
      exact J_zret o (Or.inl rfl) d_X2_readWord_82 ⟨_, rfl, (Or.inl rfl), h⟩
    · replace h := h.2 c74
      refine J_iconst (v := 1) o d_X2_readWord_77 iconst_1 ?_
      refine J_goto o 82 d_X2_readWord_78 rfl ?_
      exact J_zret o (Or.inr rfl) d_X2_readWord_82 ⟨_, rfl, (Or.inr rfl), h⟩
set_option maxHeartbeats 4000000 in
set_option maxRecDepth 20000 in
theorem c_X2_readWord_12 {x : Cx} {b : Wy} (o : Ok x (wC b) cX2_readWord 1 RX2 (some .boolean) rm_X2_readWord)  {K : Int32 → Sg → Prop}   : ∀ (n : Nat)  (σ : Sg), m_X2_readWord_l12  K  n  σ → J x (wC b) (FinC x (wC b) (PZ K) (0, 0)) 12 [(0, .ref (wB (wC b) + 18))] [] (0, 0) σ := by
  intro n
  induction n with
  | zero =>
    intro  σ  h
    exact False.elim h
  | succ n ih =>
    intro  σ  h
    unfold m_X2_readWord_l12 at h
    refine J_aload_n o 0 d_X2_readWord_12 rfl ?_
    refine J_getI o fl_RX2_15 rfl (Nat.le_of_ble_eq_true rfl) (Nat.le_of_ble_eq_true rfl) rfl d_X2_readWord_13 ?_
    refine J_aload_n o 0 d_X2_readWord_16 rfl ?_
    refine J_getI o fl_RX2_9 rfl (Nat.le_of_ble_eq_true rfl) (Nat.le_of_ble_eq_true rfl) rfl d_X2_readWord_17 ?_
    refine J_icmp_ge o 54 d_X2_readWord_20 rfl (fun c20 => ?_) (fun c20 => ?_)
    · replace h := h.1 c20
      exact c_X2_readWord_54 o   σ  h
    · replace h := h.2 c20
      refine J_aload_n o 0 d_X2_readWord_23 rfl ?_
      refine J_aload_n o 0 d_X2_readWord_24 rfl ?_
      refine J_getI o fl_RX2_15 rfl (Nat.le_of_ble_eq_true rfl) (Nat.le_of_ble_eq_true rfl) rfl d_X2_readWord_25 ?_
      refine J_callV (k := 18) (c := 2) o [.int (σ 18 3)] rfl (by decide) (Nat.le_of_ble_eq_true rfl) (Nat.le_of_ble_eq_true rfl) mth_X2_byteAt iv_X2_byteAt ml_RX2_242 ⟨Nat.le_of_ble_eq_true rfl, Nat.le_of_ble_eq_true rfl⟩ rfl rfl (Nat.le_of_ble_eq_true rfl) ⟨Nat.le_refl _, Nat.le_refl _⟩ d_X2_readWord_28 (w_X2_byteAt (xL x) b  h) (aI (fun r28 s28 h => ?_))
      refine J_bipush (v := 97) o d_X2_readWord_31 bipush_97 ?_
      refine J_bipush (v := 122) o d_X2_readWord_33 bipush_122 ?_
      refine J_callSN o [.int r28, .int 97, .int 122] mth_X4_isIn st_X4_isIn mn_RX2_245 ⟨Nat.le_of_ble_eq_true rfl, Nat.le_of_ble_eq_true rfl⟩ rfl rfl (Nat.le_of_ble_eq_true rfl) ⟨Nat.le_refl _, Nat.le_refl _⟩ d_X2_readWord_35 (w_X4_isIn (xL x) b  h) (aZ (fun r35 s35 hzr35 h => ?_))
      refine J_if_eq o 54 d_X2_readWord_38 rfl (fun c38 => ?_) (fun c38 => ?_)
      · replace h := h.1 c38
        exact c_X2_readWord_54 o   s35  h
      · replace h := h.2 c38
        refine J_aload_n o 0 d_X2_readWord_41 rfl ?_
        refine J_dup o d_X2_readWord_42 rfl ?_
        refine J_getI o fl_RX2_15 rfl (Nat.le_of_ble_eq_true rfl) (Nat.le_of_ble_eq_true rfl) rfl d_X2_readWord_43 ?_
        refine J_iconst (v := 1) o d_X2_readWord_46 iconst_1 ?_
        refine J_iadd o d_X2_readWord_47 ?_
        refine J_put o fl_RX2_15 la_2 rfl (Nat.le_of_ble_eq_true rfl) (Nat.le_of_ble_eq_true rfl) rfl rfl rfl rfl d_X2_readWord_48 ?_
        refine J_nS (fun s48 es48 => ?_)
        replace h := h s48 es48
        refine J_goto o 12 d_X2_readWord_51 rfl ?_
        exact ih s48  h
set_option maxHeartbeats 4000000 in
set_option maxRecDepth 20000 in
theorem w_X2_readWord (l : Launch) (b : Wy)  {σ : Sg} {K : Int32 → Sg → Prop}  (h : m_X2_readWord  σ K) : Ct l (wC b) yX2_readWord cX2_readWord 1 (some .boolean) rm_X2_readWord [.ref (wB (wC b) + 18)] σ (PZ K) := by
  unfold m_X2_readWord at h
  refine Ct.of (own := RX2) (by decide +kernel) rfl (Nat.le_of_ble_eq_true rfl) (fun x hx o => ?_)
  subst hx
  show J x (wC b) (FinC x (wC b) (PZ K) (0, 0)) 0 [(0, .ref (wB (wC b) + 18))] [] (0, 0) σ
  refine J_aload_n o 0 d_X2_readWord_0 rfl ?_
  refine J_callV (k := 18) (c := 2) o [] rfl (by decide) (Nat.le_of_ble_eq_true rfl) (Nat.le_of_ble_eq_true rfl) mth_X2_skipBlanks iv_X2_skipBlanks ml_RX2_239 ⟨Nat.le_of_ble_eq_true rfl, Nat.le_of_ble_eq_true rfl⟩ rfl rfl (Nat.le_of_ble_eq_true rfl) ⟨Nat.le_refl _, Nat.le_refl _⟩ d_X2_readWord_1 (w_X2_skipBlanks (xL x) b  h) (aV (fun s1 h => ?_))
  refine J_aload_n o 0 d_X2_readWord_4 rfl ?_
  refine J_aload_n o 0 d_X2_readWord_5 rfl ?_
  refine J_getI o fl_RX2_15 rfl (Nat.le_of_ble_eq_true rfl) (Nat.le_of_ble_eq_true rfl) rfl d_X2_readWord_6 ?_
  refine J_put o fl_RX2_18 la_2 rfl (Nat.le_of_ble_eq_true rfl) (Nat.le_of_ble_eq_true rfl) rfl rfl rfl rfl d_X2_readWord_9 ?_
  refine J_nS (fun s9 es9 => ?_)
  replace h := h s9 es9
  obtain ⟨n9, h⟩ := h
  exact c_X2_readWord_12 o   n9 s9  h
theorem d_X2_isWord_0 : decode cX2_isWord 0 = .ok (.aload_n 1, 1) := by decide +kernel
theorem d_X2_isWord_1 : decode cX2_isWord 1 = .ok (.invokevirtual 249, 3) := by decide +kernel
theorem d_X2_isWord_4 : decode cX2_isWord 4 = .ok (.aload_n 0, 1) := by decide +kernel
theorem d_X2_isWord_5 : decode cX2_isWord 5 = .ok (.getfield 15, 3) := by decide +kernel
theorem d_X2_isWord_8 : decode cX2_isWord 8 = .ok (.aload_n 0, 1) := by decide +kernel
theorem d_X2_isWord_9 : decode cX2_isWord 9 = .ok (.getfield 18, 3) := by decide +kernel
theorem d_X2_isWord_12 : decode cX2_isWord 12 = .ok (.isub, 1) := by decide +kernel
theorem d_X2_isWord_13 : decode cX2_isWord 13 = .ok (.if_icmp .eq 5, 3) := by decide +kernel
theorem d_X2_isWord_16 : decode cX2_isWord 16 = .ok (.iconst 0, 1) := by decide +kernel
theorem d_X2_isWord_17 : decode cX2_isWord 17 = .ok (.ireturn, 1) := by decide +kernel
theorem d_X2_isWord_18 : decode cX2_isWord 18 = .ok (.iconst 0, 1) := by decide +kernel
theorem d_X2_isWord_19 : decode cX2_isWord 19 = .ok (.istore_n 2, 1) := by decide +kernel
theorem d_X2_isWord_20 : decode cX2_isWord 20 = .ok (.iload_n 2, 1) := by decide +kernel
theorem d_X2_isWord_21 : decode cX2_isWord 21 = .ok (.aload_n 1, 1) := by decide +kernel
theorem d_X2_isWord_22 : decode cX2_isWord 22 = .ok (.invokevirtual 249, 3) := by decide +kernel
theorem d_X2_isWord_25 : decode cX2_isWord 25 = .ok (.if_icmp .ge 45, 3) := by decide +kernel
theorem d_X2_isWord_28 : decode cX2_isWord 28 = .ok (.aload_n 0, 1) := by decide +kernel
theorem d_X2_isWord_29 : decode cX2_isWord 29 = .ok (.getfield 18, 3) := by decide +kernel
theorem d_X2_isWord_32 : decode cX2_isWord 32 = .ok (.iload_n 2, 1) := by decide +kernel
theorem d_X2_isWord_33 : decode cX2_isWord 33 = .ok (.iadd, 1) := by decide +kernel
theorem d_X2_isWord_34 : decode cX2_isWord 34 = .ok (.istore_n 3, 1) := by decide +kernel
theorem d_X2_isWord_35 : decode cX2_isWord 35 = .ok (.iload_n 3, 1) := by decide +kernel
theorem d_X2_isWord_36 : decode cX2_isWord 36 = .ok (.ifCond .lt 26, 3) := by decide +kernel
theorem d_X2_isWord_39 : decode cX2_isWord 39 = .ok (.iload_n 3, 1) := by decide +kernel
theorem d_X2_isWord_40 : decode cX2_isWord 40 = .ok (.aload_n 0, 1) := by decide +kernel
theorem d_X2_isWord_41 : decode cX2_isWord 41 = .ok (.getfield 52, 3) := by decide +kernel
theorem d_X2_isWord_44 : decode cX2_isWord 44 = .ok (.arraylength, 1) := by decide +kernel
theorem d_X2_isWord_45 : decode cX2_isWord 45 = .ok (.if_icmp .ge 17, 3) := by decide +kernel
theorem d_X2_isWord_48 : decode cX2_isWord 48 = .ok (.aload_n 0, 1) := by decide +kernel
theorem d_X2_isWord_49 : decode cX2_isWord 49 = .ok (.getfield 52, 3) := by decide +kernel
theorem d_X2_isWord_52 : decode cX2_isWord 52 = .ok (.iload_n 3, 1) := by decide +kernel
theorem d_X2_isWord_53 : decode cX2_isWord 53 = .ok (.iaload, 1) := by decide +kernel
theorem d_X2_isWord_54 : decode cX2_isWord 54 = .ok (.aload_n 1, 1) := by decide +kernel
theorem d_X2_isWord_55 : decode cX2_isWord 55 = .ok (.iload_n 2, 1) := by decide +kernel
theorem d_X2_isWord_56 : decode cX2_isWord 56 = .ok (.invokevirtual 255, 3) := by decide +kernel
theorem d_X2_isWord_59 : decode cX2_isWord 59 = .ok (.if_icmp .eq 5, 3) := by decide +kernel
theorem d_X2_isWord_62 : decode cX2_isWord 62 = .ok (.iconst 0, 1) := by decide +kernel
theorem d_X2_isWord_63 : decode cX2_isWord 63 = .ok (.ireturn, 1) := by decide +kernel
theorem d_X2_isWord_64 : decode cX2_isWord 64 = .ok (.iinc 2 1, 3) := by decide +kernel
theorem d_X2_isWord_67 : decode cX2_isWord 67 = .ok (.goto (-47), 3) := by decide +kernel
theorem d_X2_isWord_70 : decode cX2_isWord 70 = .ok (.iconst 1, 1) := by decide +kernel
theorem d_X2_isWord_71 : decode cX2_isWord 71 = .ok (.ireturn, 1) := by decide +kernel
abbrev rm_X2_isWord : Room := { frames := 4, cells := 0, slots := 0, locals := 85 }
set_option maxHeartbeats 4000000 in
set_option maxRecDepth 20000 in
theorem c_X2_isWord_20 {x : Cx} {b : Wy} (o : Ok x (wC b) cX2_isWord 4 RX2 (some .boolean) rm_X2_isWord) {v1 : Nat} {K : Int32 → Sg → Prop}  (hv1 : v1 < nS) : ∀ (n : Nat) (l2 : Int32) (σ : Sg), m_X2_isWord_l20 v1 K  n l2 σ → J x (wC b) (FinC x (wC b) (PZ K) (0, 0)) 20 [(0, .ref (wB (wC b) + 18)), (1, .ref (wK (wC b) v1)), (2, .int l2)] [] (0, 0) σ := by
  intro n
  induction n with
  | zero =>
    intro l2 σ  h
    exact False.elim h
  | succ n ih =>
    intro l2 σ  h
    unfold m_X2_isWord_l20 at h
    refine J_iload_n o 2 d_X2_isWord_20 rfl ?_
    refine J_aload_n o 1 d_X2_isWord_21 rfl ?_
    refine J_strlen o hv1 ml_RX2_249 d_X2_isWord_22 ⟨Nat.le_of_ble_eq_true rfl, Nat.le_of_ble_eq_true rfl⟩ (by exact Nat.le_of_ble_eq_true rfl) ?_
    refine J_icmp_ge o 70 d_X2_isWord_25 rfl (fun c25 => ?_) (fun c25 => ?_)
    · replace h := h.1 c25
      refine J_iconst (v := 1) o d_X2_isWord_70 iconst_1 ?_
      exact J_zret o (Or.inr rfl) d_X2_isWord_71 ⟨_, rfl, (Or.inr rfl), h⟩
    · replace h := h.2 c25
      refine J_aload_n o 0 d_X2_isWord_28 rfl ?_
      refine J_getI o fl_RX2_18 rfl (Nat.le_of_ble_eq_true rfl) (Nat.le_of_ble_eq_true rfl) rfl d_X2_isWord_29 ?_
      refine J_iload_n o 2 d_X2_isWord_32 rfl ?_
      refine J_iadd o d_X2_isWord_33 ?_
      refine J_top (fun l3_34 el3_34 => ?_)
      replace h := h l3_34 el3_34
      refine J_istore_n (lv' := [(3, .int l3_34), (0, .ref (wB (wC b) + 18)), (1, .ref (wK (wC b) v1)), (2, .int l2)]) o d_X2_isWord_34 (by decide) rfl ?_
      refine J_iload_n o 0 d_X2_isWord_35 rfl ?_
      refine J_if_lt o 62 d_X2_isWord_36 rfl (fun c36 => ?_) (fun c36 => ?_)
      · replace h := h.1 c36
        refine J_iconst (v := 0) o d_X2_isWord_62 iconst_0 ?_
        exact J_zret o (Or.inl rfl) d_X2_isWord_63 ⟨_, rfl, (Or.inl rfl), h⟩
      · replace h := h.2 c36
        refine J_iload_n o 0 d_X2_isWord_39 rfl ?_
        refine J_aload_n o 1 d_X2_isWord_40 rfl ?_
        refine J_getR (t := 1) o fl_RX2_52 rfl (Nat.le_of_ble_eq_true rfl) (Nat.le_of_ble_eq_true rfl) rfl rfl d_X2_isWord_41 ?_
        refine J_alenL o A_1 (rfl : ln 1 = 400) d_X2_isWord_44 ?_
        refine J_icmp_ge o 62 d_X2_isWord_45 rfl (fun c45 => ?_) (fun c45 => ?_)
        · replace h := h.1 c45
          refine J_iconst (v := 0) o d_X2_isWord_62 iconst_0 ?_
          exact J_zret o (Or.inl rfl) d_X2_isWord_63 ⟨_, rfl, (Or.inl rfl), h⟩
        · replace h := h.2 c45
          refine J_aload_n o 1 d_X2_isWord_48 rfl ?_
          refine J_getR (t := 1) o fl_RX2_52 rfl (Nat.le_of_ble_eq_true rfl) (Nat.le_of_ble_eq_true rfl) rfl rfl d_X2_isWord_49 ?_
          refine J_iload_n o 0 d_X2_isWord_52 rfl ?_
          have b53 := h.1
          replace h := h.2
          refine J_iald o A_1 (vpc (rfl : ln 1 = 400) b53) d_X2_isWord_53 ?_
          refine J_aload_n o 2 d_X2_isWord_54 rfl ?_
          refine J_iload_n o 3 d_X2_isWord_55 rfl ?_
          have b56 := h.1
          replace h := h.2
          refine J_charAt o hv1 b56 ml_RX2_255 d_X2_isWord_56 ⟨Nat.le_of_ble_eq_true rfl, Nat.le_of_ble_eq_true rfl⟩ (by exact Nat.le_of_ble_eq_true rfl) ?_
          refine J_icmp_eq o 64 d_X2_isWord_59 rfl (fun c59 => ?_) (fun c59 => ?_)
          · replace h := h.1 c59
            refine J_iinc (lv' := [(2, .int (l2 + 1)), (3, .int l3_34), (0, .ref (wB (wC b) + 18)), (1, .ref (wK (wC b) v1))]) o 3 d_X2_isWord_64 (by decide) rfl iconst_1 rfl ?_
            refine J_goto o 20 d_X2_isWord_67 rfl ?_
            refine J_sub [2, 3, 0] rfl ?_
            exact ih (l2 + 1) σ  h
          · replace h := h.2 c59
            refine J_iconst (v := 0) o d_X2_isWord_62 iconst_0 ?_
            exact J_zret o (Or.inl rfl) d_X2_isWord_63 ⟨_, rfl, (Or.inl rfl), h⟩
set_option maxHeartbeats 4000000 in
set_option maxRecDepth 20000 in
theorem w_X2_isWord (l : Launch) (b : Wy) {v1 : Nat} {σ : Sg} {K : Int32 → Sg → Prop} (hv1 : v1 < nS) (h : m_X2_isWord v1 σ K) : Ct l (wC b) yX2_isWord cX2_isWord 4 (some .boolean) rm_X2_isWord [.ref (wB (wC b) + 18), .ref (wK (wC b) v1)] σ (PZ K) := by
  unfold m_X2_isWord at h
  refine Ct.of (own := RX2) (by decide +kernel) rfl (Nat.le_of_ble_eq_true rfl) (fun x hx o => ?_)
  subst hx
  show J x (wC b) (FinC x (wC b) (PZ K) (0, 0)) 0 [(0, .ref (wB (wC b) + 18)), (1, .ref (wK (wC b) v1))] [] (0, 0) σ
  refine J_aload_n o 1 d_X2_isWord_0 rfl ?_
  refine J_strlen o hv1 ml_RX2_249 d_X2_isWord_1 ⟨Nat.le_of_ble_eq_true rfl, Nat.le_of_ble_eq_true rfl⟩ (by exact Nat.le_of_ble_eq_true rfl) ?_
  refine J_aload_n o 0 d_X2_isWord_4 rfl ?_
  refine J_getI o fl_RX2_15 rfl (Nat.le_of_ble_eq_true rfl) (Nat.le_of_ble_eq_true rfl) rfl d_X2_isWord_5 ?_
  refine J_aload_n o 0 d_X2_isWord_8 rfl ?_
  refine J_getI o fl_RX2_18 rfl (Nat.le_of_ble_eq_true rfl) (Nat.le_of_ble_eq_true rfl) rfl d_X2_isWord_9 ?_
  refine J_isub o d_X2_isWord_12 ?_
  refine J_icmp_eq o 18 d_X2_isWord_13 rfl (fun c13 => ?_) (fun c13 => ?_)
  · replace h := h.1 c13
    refine J_iconst (v := 0) o d_X2_isWord_18 iconst_0 ?_
    refine J_istore_n (lv' := [(2, .int 0), (0, .ref (wB (wC b) + 18)), (1, .ref (wK (wC b) v1))]) o d_X2_isWord_19 (by decide) rfl ?_
    refine J_sub [1, 2, 0] rfl ?_
    obtain ⟨n9, h⟩ := h
    exact c_X2_isWord_20 o hv1  n9 0 σ  h
  · replace h := h.2 c13
    refine J_iconst (v := 0) o d_X2_isWord_16 iconst_0 ?_
    exact J_zret o (Or.inl rfl) d_X2_isWord_17 ⟨_, rfl, (Or.inl rfl), h⟩
theorem d_X2_readNumber_0 : decode cX2_readNumber 0 = .ok (.aload_n 0, 1) := by decide +kernel
theorem d_X2_readNumber_1 : decode cX2_readNumber 1 = .ok (.invokevirtual 239, 3) := by decide +kernel
theorem d_X2_readNumber_4 : decode cX2_readNumber 4 = .ok (.aload_n 0, 1) := by decide +kernel
theorem d_X2_readNumber_5 : decode cX2_readNumber 5 = .ok (.aload_n 0, 1) := by decide +kernel
theorem d_X2_readNumber_6 : decode cX2_readNumber 6 = .ok (.getfield 15, 3) := by decide +kernel
theorem d_X2_readNumber_9 : decode cX2_readNumber 9 = .ok (.putfield 18, 3) := by decide +kernel
theorem d_X2_readNumber_12 : decode cX2_readNumber 12 = .ok (.aload_n 0, 1) := by decide +kernel
theorem d_X2_readNumber_13 : decode cX2_readNumber 13 = .ok (.iconst 0, 1) := by decide +kernel
theorem d_X2_readNumber_14 : decode cX2_readNumber 14 = .ok (.putfield 21, 3) := by decide +kernel
theorem d_X2_readNumber_17 : decode cX2_readNumber 17 = .ok (.aload_n 0, 1) := by decide +kernel
theorem d_X2_readNumber_18 : decode cX2_readNumber 18 = .ok (.getfield 15, 3) := by decide +kernel
theorem d_X2_readNumber_21 : decode cX2_readNumber 21 = .ok (.aload_n 0, 1) := by decide +kernel
theorem d_X2_readNumber_22 : decode cX2_readNumber 22 = .ok (.getfield 9, 3) := by decide +kernel
theorem d_X2_readNumber_25 : decode cX2_readNumber 25 = .ok (.if_icmp .ge 63, 3) := by decide +kernel
theorem d_X2_readNumber_28 : decode cX2_readNumber 28 = .ok (.aload_n 0, 1) := by decide +kernel
theorem d_X2_readNumber_29 : decode cX2_readNumber 29 = .ok (.aload_n 0, 1) := by decide +kernel
theorem d_X2_readNumber_30 : decode cX2_readNumber 30 = .ok (.getfield 15, 3) := by decide +kernel
theorem d_X2_readNumber_33 : decode cX2_readNumber 33 = .ok (.invokevirtual 242, 3) := by decide +kernel
theorem d_X2_readNumber_36 : decode cX2_readNumber 36 = .ok (.bipush 48, 2) := by decide +kernel
theorem d_X2_readNumber_38 : decode cX2_readNumber 38 = .ok (.bipush 57, 2) := by decide +kernel
theorem d_X2_readNumber_40 : decode cX2_readNumber 40 = .ok (.invokestatic 245, 3) := by decide +kernel
theorem d_X2_readNumber_43 : decode cX2_readNumber 43 = .ok (.ifCond .eq 45, 3) := by decide +kernel
theorem d_X2_readNumber_46 : decode cX2_readNumber 46 = .ok (.aload_n 0, 1) := by decide +kernel
theorem d_X2_readNumber_47 : decode cX2_readNumber 47 = .ok (.aload_n 0, 1) := by decide +kernel
theorem d_X2_readNumber_48 : decode cX2_readNumber 48 = .ok (.getfield 21, 3) := by decide +kernel
theorem d_X2_readNumber_51 : decode cX2_readNumber 51 = .ok (.bipush 10, 2) := by decide +kernel
theorem d_X2_readNumber_53 : decode cX2_readNumber 53 = .ok (.imul, 1) := by decide +kernel
theorem d_X2_readNumber_54 : decode cX2_readNumber 54 = .ok (.aload_n 0, 1) := by decide +kernel
theorem d_X2_readNumber_55 : decode cX2_readNumber 55 = .ok (.aload_n 0, 1) := by decide +kernel
theorem d_X2_readNumber_56 : decode cX2_readNumber 56 = .ok (.getfield 15, 3) := by decide +kernel
theorem d_X2_readNumber_59 : decode cX2_readNumber 59 = .ok (.invokevirtual 242, 3) := by decide +kernel
theorem d_X2_readNumber_62 : decode cX2_readNumber 62 = .ok (.iadd, 1) := by decide +kernel
theorem d_X2_readNumber_63 : decode cX2_readNumber 63 = .ok (.bipush 48, 2) := by decide +kernel
theorem d_X2_readNumber_65 : decode cX2_readNumber 65 = .ok (.isub, 1) := by decide +kernel
theorem d_X2_readNumber_66 : decode cX2_readNumber 66 = .ok (.sipush 1000, 3) := by decide +kernel
theorem d_X2_readNumber_69 : decode cX2_readNumber 69 = .ok (.invokestatic 86, 3) := by decide +kernel
theorem d_X2_readNumber_72 : decode cX2_readNumber 72 = .ok (.putfield 21, 3) := by decide +kernel
theorem d_X2_readNumber_75 : decode cX2_readNumber 75 = .ok (.aload_n 0, 1) := by decide +kernel
theorem d_X2_readNumber_76 : decode cX2_readNumber 76 = .ok (.dup, 1) := by decide +kernel
theorem d_X2_readNumber_77 : decode cX2_readNumber 77 = .ok (.getfield 15, 3) := by decide +kernel
theorem d_X2_readNumber_80 : decode cX2_readNumber 80 = .ok (.iconst 1, 1) := by decide +kernel
theorem d_X2_readNumber_81 : decode cX2_readNumber 81 = .ok (.iadd, 1) := by decide +kernel
theorem d_X2_readNumber_82 : decode cX2_readNumber 82 = .ok (.putfield 15, 3) := by decide +kernel
theorem d_X2_readNumber_85 : decode cX2_readNumber 85 = .ok (.goto (-68), 3) := by decide +kernel
theorem d_X2_readNumber_88 : decode cX2_readNumber 88 = .ok (.aload_n 0, 1) := by decide +kernel
theorem d_X2_readNumber_89 : decode cX2_readNumber 89 = .ok (.getfield 15, 3) := by decide +kernel
theorem d_X2_readNumber_92 : decode cX2_readNumber 92 = .ok (.aload_n 0, 1) := by decide +kernel
theorem d_X2_readNumber_93 : decode cX2_readNumber 93 = .ok (.getfield 18, 3) := by decide +kernel
theorem d_X2_readNumber_96 : decode cX2_readNumber 96 = .ok (.if_icmp .ne 13, 3) := by decide +kernel
theorem d_X2_readNumber_99 : decode cX2_readNumber 99 = .ok (.aload_n 0, 1) := by decide +kernel
theorem d_X2_readNumber_100 : decode cX2_readNumber 100 = .ok (.iconst 1, 1) := by decide +kernel
theorem d_X2_readNumber_101 : decode cX2_readNumber 101 = .ok (.aload_n 0, 1) := by decide +kernel
theorem d_X2_readNumber_102 : decode cX2_readNumber 102 = .ok (.getfield 18, 3) := by decide +kernel
theorem d_X2_readNumber_105 : decode cX2_readNumber 105 = .ok (.invokevirtual 79, 3) := by decide +kernel
theorem d_X2_readNumber_108 : decode cX2_readNumber 108 = .ok (.ireturn, 1) := by decide +kernel
theorem d_X2_readNumber_109 : decode cX2_readNumber 109 = .ok (.aload_n 0, 1) := by decide +kernel
theorem d_X2_readNumber_110 : decode cX2_readNumber 110 = .ok (.getfield 21, 3) := by decide +kernel
theorem d_X2_readNumber_113 : decode cX2_readNumber 113 = .ok (.iload_n 1, 1) := by decide +kernel
theorem d_X2_readNumber_114 : decode cX2_readNumber 114 = .ok (.iload_n 2, 1) := by decide +kernel
theorem d_X2_readNumber_115 : decode cX2_readNumber 115 = .ok (.invokestatic 245, 3) := by decide +kernel
theorem d_X2_readNumber_118 : decode cX2_readNumber 118 = .ok (.ifCond .ne 15, 3) := by decide +kernel
theorem d_X2_readNumber_121 : decode cX2_readNumber 121 = .ok (.aload_n 0, 1) := by decide +kernel
theorem d_X2_readNumber_122 : decode cX2_readNumber 122 = .ok (.iconst 2, 1) := by decide +kernel
theorem d_X2_readNumber_123 : decode cX2_readNumber 123 = .ok (.aload_n 0, 1) := by decide +kernel
theorem d_X2_readNumber_124 : decode cX2_readNumber 124 = .ok (.getfield 18, 3) := by decide +kernel
theorem d_X2_readNumber_127 : decode cX2_readNumber 127 = .ok (.invokevirtual 79, 3) := by decide +kernel
theorem d_X2_readNumber_130 : decode cX2_readNumber 130 = .ok (.ifCond .eq 7, 3) := by decide +kernel
theorem d_X2_readNumber_133 : decode cX2_readNumber 133 = .ok (.iconst 1, 1) := by decide +kernel
theorem d_X2_readNumber_134 : decode cX2_readNumber 134 = .ok (.goto 4, 3) := by decide +kernel
theorem d_X2_readNumber_137 : decode cX2_readNumber 137 = .ok (.iconst 0, 1) := by decide +kernel
theorem d_X2_readNumber_138 : decode cX2_readNumber 138 = .ok (.ireturn, 1) := by decide +kernel
abbrev rm_X2_readNumber : Room := { frames := 1, cells := 0, slots := 0, locals := 22 }
set_option maxHeartbeats 4000000 in
set_option maxRecDepth 20000 in
theorem c_X2_readNumber_88 {x : Cx} {b : Wy} (o : Ok x (wC b) cX2_readNumber 3 RX2 (some .boolean) rm_X2_readNumber) {v1 : Int32} {v2 : Int32} {K : Int32 → Sg → Prop}   : ∀  (σ : Sg), m_X2_readNumber_j88 v1 v2 K   σ → J x (wC b) (FinC x (wC b) (PZ K) (0, 0)) 88 [(0, .ref (wB (wC b) + 18)), (1, .int v1), (2, .int v2)] [] (0, 0) σ := by
  intro  σ  h
  unfold m_X2_readNumber_j88 at h
  refine J_aload_n o 0 d_X2_readNumber_88 rfl ?_
  refine J_getI o fl_RX2_15 rfl (Nat.le_of_ble_eq_true rfl) (Nat.le_of_ble_eq_true rfl) rfl d_X2_readNumber_89 ?_
  refine J_aload_n o 0 d_X2_readNumber_92 rfl ?_
  refine J_getI o fl_RX2_18 rfl (Nat.le_of_ble_eq_true rfl) (Nat.le_of_ble_eq_true rfl) rfl d_X2_readNumber_93 ?_
  refine J_icmp_ne o 109 d_X2_readNumber_96 rfl (fun c96 => ?_) (fun c96 => ?_)
  · replace h := h.1 c96
    refine J_aload_n o 0 d_X2_readNumber_109 rfl ?_
    refine J_getI o fl_RX2_21 rfl (Nat.le_of_ble_eq_true rfl) (Nat.le_of_ble_eq_true rfl) rfl d_X2_readNumber_110 ?_
    refine J_iload_n o 1 d_X2_readNumber_113 rfl ?_
    refine J_iload_n o 2 d_X2_readNumber_114 rfl ?_
    refine J_callSN o [.int (σ 18 5), .int v1, .int v2] mth_X4_isIn st_X4_isIn mn_RX2_245 ⟨Nat.le_of_ble_eq_true rfl, Nat.le_of_ble_eq_true rfl⟩ rfl rfl (Nat.le_of_ble_eq_true rfl) ⟨Nat.le_refl _, Nat.le_refl _⟩ d_X2_readNumber_115 (w_X4_isIn (xL x) b  h) (aZ (fun r115 s115 hzr115 h => ?_))
    refine J_if_ne o 133 d_X2_readNumber_118 rfl (fun c118 => ?_) (fun c118 => ?_)
    · replace h := h.1 c118
      refine J_iconst (v := 1) o d_X2_readNumber_133 iconst_1 ?_
      refine J_goto o 138 d_X2_readNumber_134 rfl ?_
      exact J_zret o (Or.inr rfl) d_X2_readNumber_138 ⟨_, rfl, (Or.inr rfl), h⟩
    · replace h := h.2 c118
      refine J_aload_n o 0 d_X2_readNumber_121 rfl ?_
      refine J_iconst (v := 2) o d_X2_readNumber_122 iconst_2 ?_
      refine J_aload_n o 0 d_X2_readNumber_123 rfl ?_
      refine J_getI o fl_RX2_18 rfl (Nat.le_of_ble_eq_true rfl) (Nat.le_of_ble_eq_true rfl) rfl d_X2_readNumber_124 ?_
      refine J_callV (k := 18) (c := 2) o [.int 2, .int (s115 18 4)] rfl (by decide) (Nat.le_of_ble_eq_true rfl) (Nat.le_of_ble_eq_true rfl) mth_X2_fail iv_X2_fail ml_RX2_79 ⟨Nat.le_of_ble_eq_true rfl, Nat.le_of_ble_eq_true rfl⟩ rfl rfl (Nat.le_of_ble_eq_true rfl) ⟨Nat.le_refl _, Nat.le_refl _⟩ d_X2_readNumber_127 (w_X2_fail (xL x) b  h) (aZ (fun r127 s127 hzr127 h => ?_))
      refine J_if_eq o 137 d_X2_readNumber_130 rfl (fun c130 => ?_) (fun c130 => ?_)
      · replace h := h.1 c130
        refine J_iconst (v := 0) o d_X2_readNumber_137 iconst_0 ?_
        exact J_zret o (Or.inl rfl) d_X2_readNumber_138 ⟨_, rfl, (Or.inl rfl), h⟩
      · replace h := h.2 c130
        refine J_iconst (v := 1) o d_X2_readNumber_133 iconst_1 ?_
        refine J_goto o 138 d_X2_readNumber_134 rfl ?_
        exact J_zret o (Or.inr rfl) d_X2_readNumber_138 ⟨_, rfl, (Or.inr rfl), h⟩
  · replace h := h.2 c96
    refine J_aload_n o 0 d_X2_readNumber_99 rfl ?_
    refine J_iconst (v := 1) o d_X2_readNumber_100 iconst_1 ?_
    refine J_aload_n o 0 d_X2_readNumber_101 rfl ?_
    refine J_getI o fl_RX2_18 rfl (Nat.le_of_ble_eq_true rfl) (Nat.le_of_ble_eq_true rfl) rfl d_X2_readNumber_102 ?_
    refine J_callV (k := 18) (c := 2) o [.int 1, .int (σ 18 4)] rfl (by decide) (Nat.le_of_ble_eq_true rfl) (Nat.le_of_ble_eq_true rfl) mth_X2_fail iv_X2_fail ml_RX2_79 ⟨Nat.le_of_ble_eq_true rfl, Nat.le_of_ble_eq_true rfl⟩ rfl rfl (Nat.le_of_ble_eq_true rfl) ⟨Nat.le_refl _, Nat.le_refl _⟩ d_X2_readNumber_105 (w_X2_fail (xL x) b  h) (aZ (fun r105 s105 hzr105 h => ?_))
    exact J_zret o hzr105 d_X2_readNumber_108 ⟨_, rfl, hzr105, h⟩
set_option maxHeartbeats 4000000 in
set_option maxRecDepth 20000 in
theorem c_X2_readNumber_17 {x : Cx} {b : Wy} (o : Ok x (wC b) cX2_readNumber 3 RX2 (some .boolean) rm_X2_readNumber) {v1 : Int32} {v2 : Int32} {K : Int32 → Sg → Prop}   : ∀ (n : Nat)  (σ : Sg), m_X2_readNumber_l17 v1 v2 K  n  σ → J x (wC b) (FinC x (wC b) (PZ K) (0, 0)) 17 [(0, .ref (wB (wC b) + 18)), (1, .int v1), (2, .int v2)] [] (0, 0) σ := by
  intro n
  induction n with
  | zero =>
    intro  σ  h
    exact False.elim h
  | succ n ih =>
    intro  σ  h
    unfold m_X2_readNumber_l17 at h
    refine J_aload_n o 0 d_X2_readNumber_17 rfl ?_
    refine J_getI o fl_RX2_15 rfl (Nat.le_of_ble_eq_true rfl) (Nat.le_of_ble_eq_true rfl) rfl d_X2_readNumber_18 ?_
    refine J_aload_n o 0 d_X2_readNumber_21 rfl ?_
    refine J_getI o fl_RX2_9 rfl (Nat.le_of_ble_eq_true rfl) (Nat.le_of_ble_eq_true rfl) rfl d_X2_readNumber_22 ?_
    refine J_icmp_ge o 88 d_X2_readNumber_25 rfl (fun c25 => ?_) (fun c25 => ?_)
    · replace h := h.1 c25
      exact c_X2_readNumber_88 o   σ  h
    · replace h := h.2 c25
      refine J_aload_n o 0 d_X2_readNumber_28 rfl ?_
      refine J_aload_n o 0 d_X2_readNumber_29 rfl ?_
      refine J_getI o fl_RX2_15 rfl (Nat.le_of_ble_eq_true rfl) (Nat.le_of_ble_eq_true rfl) rfl d_X2_readNumber_30 ?_
      refine J_callV (k := 18) (c := 2) o [.int (σ 18 3)] rfl (by decide) (Nat.le_of_ble_eq_true rfl) (Nat.le_of_ble_eq_true rfl) mth_X2_byteAt iv_X2_byteAt ml_RX2_242 ⟨Nat.le_of_ble_eq_true rfl, Nat.le_of_ble_eq_true rfl⟩ rfl rfl (Nat.le_of_ble_eq_true rfl) ⟨Nat.le_refl _, Nat.le_refl _⟩ d_X2_readNumber_33 (w_X2_byteAt (xL x) b  h) (aI (fun r33 s33 h => ?_))
      refine J_bipush (v := 48) o d_X2_readNumber_36 bipush_48 ?_
      refine J_bipush (v := 57) o d_X2_readNumber_38 bipush_57 ?_
      refine J_callSN o [.int r33, .int 48, .int 57] mth_X4_isIn st_X4_isIn mn_RX2_245 ⟨Nat.le_of_ble_eq_true rfl, Nat.le_of_ble_eq_true rfl⟩ rfl rfl (Nat.le_of_ble_eq_true rfl) ⟨Nat.le_refl _, Nat.le_refl _⟩ d_X2_readNumber_40 (w_X4_isIn (xL x) b  h) (aZ (fun r40 s40 hzr40 h => ?_))
      refine J_if_eq o 88 d_X2_readNumber_43 rfl (fun c43 => ?_) (fun c43 => ?_)
      · replace h := h.1 c43
        exact c_X2_readNumber_88 o   s40  h
      · replace h := h.2 c43
        refine J_aload_n o 0 d_X2_readNumber_46 rfl ?_
        refine J_aload_n o 0 d_X2_readNumber_47 rfl ?_
        refine J_getI o fl_RX2_21 rfl (Nat.le_of_ble_eq_true rfl) (Nat.le_of_ble_eq_true rfl) rfl d_X2_readNumber_48 ?_
        refine J_bipush (v := 10) o d_X2_readNumber_51 bipush_10 ?_
        refine J_imul o d_X2_readNumber_53 ?_
        refine J_aload_n o 0 d_X2_readNumber_54 rfl ?_
        refine J_aload_n o 0 d_X2_readNumber_55 rfl ?_
        refine J_getI o fl_RX2_15 rfl (Nat.le_of_ble_eq_true rfl) (Nat.le_of_ble_eq_true rfl) rfl d_X2_readNumber_56 ?_
        refine J_callV (k := 18) (c := 2) o [.int (s40 18 3)] rfl (by decide) (Nat.le_of_ble_eq_true rfl) (Nat.le_of_ble_eq_true rfl) mth_X2_byteAt iv_X2_byteAt ml_RX2_242 ⟨Nat.le_of_ble_eq_true rfl, Nat.le_of_ble_eq_true rfl⟩ rfl rfl (Nat.le_of_ble_eq_true rfl) ⟨Nat.le_refl _, Nat.le_refl _⟩ d_X2_readNumber_59 (w_X2_byteAt (xL x) b  h) (aI (fun r59 s59 h => ?_))
        refine J_iadd o d_X2_readNumber_62 ?_
        refine J_bipush (v := 48) o d_X2_readNumber_63 bipush_48 ?_
        refine J_isub o d_X2_readNumber_65 ?_
        refine J_sipush (v := 1000) o d_X2_readNumber_66 sipush_1000 ?_
        refine J_min o mm_RX2_86 ms_min mi_math mc_min ⟨Nat.le_of_ble_eq_true rfl, Nat.le_of_ble_eq_true rfl, Nat.le_of_ble_eq_true rfl, Nat.le_of_ble_eq_true rfl⟩ d_X2_readNumber_69 ?_
        refine J_put o fl_RX2_21 la_2 rfl (Nat.le_of_ble_eq_true rfl) (Nat.le_of_ble_eq_true rfl) rfl rfl rfl rfl d_X2_readNumber_72 ?_
        refine J_nS (fun s72 es72 => ?_)
        replace h := h s72 es72
        refine J_aload_n o 0 d_X2_readNumber_75 rfl ?_
        refine J_dup o d_X2_readNumber_76 rfl ?_
        refine J_getI o fl_RX2_15 rfl (Nat.le_of_ble_eq_true rfl) (Nat.le_of_ble_eq_true rfl) rfl d_X2_readNumber_77 ?_
        refine J_iconst (v := 1) o d_X2_readNumber_80 iconst_1 ?_
        refine J_iadd o d_X2_readNumber_81 ?_
        refine J_put o fl_RX2_15 la_2 rfl (Nat.le_of_ble_eq_true rfl) (Nat.le_of_ble_eq_true rfl) rfl rfl rfl rfl d_X2_readNumber_82 ?_
        refine J_nS (fun s82 es82 => ?_)
        replace h := h s82 es82
        refine J_goto o 17 d_X2_readNumber_85 rfl ?_
        exact ih s82  h
set_option maxHeartbeats 4000000 in
set_option maxRecDepth 20000 in
theorem w_X2_readNumber (l : Launch) (b : Wy) {v1 : Int32} {v2 : Int32} {σ : Sg} {K : Int32 → Sg → Prop}  (h : m_X2_readNumber v1 v2 σ K) : Ct l (wC b) yX2_readNumber cX2_readNumber 3 (some .boolean) rm_X2_readNumber [.ref (wB (wC b) + 18), .int v1, .int v2] σ (PZ K) := by
  unfold m_X2_readNumber at h
  refine Ct.of (own := RX2) (by decide +kernel) rfl (Nat.le_of_ble_eq_true rfl) (fun x hx o => ?_)
  subst hx
  show J x (wC b) (FinC x (wC b) (PZ K) (0, 0)) 0 [(0, .ref (wB (wC b) + 18)), (1, .int v1), (2, .int v2)] [] (0, 0) σ
  refine J_aload_n o 0 d_X2_readNumber_0 rfl ?_
  refine J_callV (k := 18) (c := 2) o [] rfl (by decide) (Nat.le_of_ble_eq_true rfl) (Nat.le_of_ble_eq_true rfl) mth_X2_skipBlanks iv_X2_skipBlanks ml_RX2_239 ⟨Nat.le_of_ble_eq_true rfl, Nat.le_of_ble_eq_true rfl⟩ rfl rfl (Nat.le_of_ble_eq_true rfl) ⟨Nat.le_refl _, Nat.le_refl _⟩ d_X2_readNumber_1 (w_X2_skipBlanks (xL x) b  h) (aV (fun s1 h => ?_))
  refine J_aload_n o 0 d_X2_readNumber_4 rfl ?_
  refine J_aload_n o 0 d_X2_readNumber_5 rfl ?_
  refine J_getI o fl_RX2_15 rfl (Nat.le_of_ble_eq_true rfl) (Nat.le_of_ble_eq_true rfl) rfl d_X2_readNumber_6 ?_
  refine J_put o fl_RX2_18 la_2 rfl (Nat.le_of_ble_eq_true rfl) (Nat.le_of_ble_eq_true rfl) rfl rfl rfl rfl d_X2_readNumber_9 ?_
  refine J_nS (fun s9 es9 => ?_)
  replace h := h s9 es9
  refine J_aload_n o 0 d_X2_readNumber_12 rfl ?_
  refine J_iconst (v := 0) o d_X2_readNumber_13 iconst_0 ?_
  refine J_put o fl_RX2_21 la_2 rfl (Nat.le_of_ble_eq_true rfl) (Nat.le_of_ble_eq_true rfl) rfl rfl rfl rfl d_X2_readNumber_14 ?_
  refine J_nS (fun s14 es14 => ?_)
  replace h := h s14 es14
  obtain ⟨n9, h⟩ := h
  exact c_X2_readNumber_17 o   n9 s14  h
theorem d_X2_isEnd_0 : decode cX2_isEnd 0 = .ok (.aload_n 0, 1) := by decide +kernel
theorem d_X2_isEnd_1 : decode cX2_isEnd 1 = .ok (.invokevirtual 239, 3) := by decide +kernel
theorem d_X2_isEnd_4 : decode cX2_isEnd 4 = .ok (.aload_n 0, 1) := by decide +kernel
theorem d_X2_isEnd_5 : decode cX2_isEnd 5 = .ok (.aload_n 0, 1) := by decide +kernel
theorem d_X2_isEnd_6 : decode cX2_isEnd 6 = .ok (.getfield 15, 3) := by decide +kernel
theorem d_X2_isEnd_9 : decode cX2_isEnd 9 = .ok (.invokevirtual 242, 3) := by decide +kernel
theorem d_X2_isEnd_12 : decode cX2_isEnd 12 = .ok (.bipush 59, 2) := by decide +kernel
theorem d_X2_isEnd_14 : decode cX2_isEnd 14 = .ok (.if_icmp .eq 5, 3) := by decide +kernel
theorem d_X2_isEnd_17 : decode cX2_isEnd 17 = .ok (.iconst 0, 1) := by decide +kernel
theorem d_X2_isEnd_18 : decode cX2_isEnd 18 = .ok (.ireturn, 1) := by decide +kernel
theorem d_X2_isEnd_19 : decode cX2_isEnd 19 = .ok (.aload_n 0, 1) := by decide +kernel
theorem d_X2_isEnd_20 : decode cX2_isEnd 20 = .ok (.dup, 1) := by decide +kernel
theorem d_X2_isEnd_21 : decode cX2_isEnd 21 = .ok (.getfield 15, 3) := by decide +kernel
theorem d_X2_isEnd_24 : decode cX2_isEnd 24 = .ok (.iconst 1, 1) := by decide +kernel
theorem d_X2_isEnd_25 : decode cX2_isEnd 25 = .ok (.iadd, 1) := by decide +kernel
theorem d_X2_isEnd_26 : decode cX2_isEnd 26 = .ok (.putfield 15, 3) := by decide +kernel
theorem d_X2_isEnd_29 : decode cX2_isEnd 29 = .ok (.iconst 1, 1) := by decide +kernel
theorem d_X2_isEnd_30 : decode cX2_isEnd 30 = .ok (.ireturn, 1) := by decide +kernel
abbrev rm_X2_isEnd : Room := { frames := 1, cells := 0, slots := 0, locals := 21 }
set_option maxHeartbeats 4000000 in
set_option maxRecDepth 20000 in
theorem w_X2_isEnd (l : Launch) (b : Wy)  {σ : Sg} {K : Int32 → Sg → Prop}  (h : m_X2_isEnd  σ K) : Ct l (wC b) yX2_isEnd cX2_isEnd 1 (some .boolean) rm_X2_isEnd [.ref (wB (wC b) + 18)] σ (PZ K) := by
  unfold m_X2_isEnd at h
  refine Ct.of (own := RX2) (by decide +kernel) rfl (Nat.le_of_ble_eq_true rfl) (fun x hx o => ?_)
  subst hx
  show J x (wC b) (FinC x (wC b) (PZ K) (0, 0)) 0 [(0, .ref (wB (wC b) + 18))] [] (0, 0) σ
  refine J_aload_n o 0 d_X2_isEnd_0 rfl ?_
  refine J_callV (k := 18) (c := 2) o [] rfl (by decide) (Nat.le_of_ble_eq_true rfl) (Nat.le_of_ble_eq_true rfl) mth_X2_skipBlanks iv_X2_skipBlanks ml_RX2_239 ⟨Nat.le_of_ble_eq_true rfl, Nat.le_of_ble_eq_true rfl⟩ rfl rfl (Nat.le_of_ble_eq_true rfl) ⟨Nat.le_refl _, Nat.le_refl _⟩ d_X2_isEnd_1 (w_X2_skipBlanks (xL x) b  h) (aV (fun s1 h => ?_))
  refine J_aload_n o 0 d_X2_isEnd_4 rfl ?_
  refine J_aload_n o 0 d_X2_isEnd_5 rfl ?_
  refine J_getI o fl_RX2_15 rfl (Nat.le_of_ble_eq_true rfl) (Nat.le_of_ble_eq_true rfl) rfl d_X2_isEnd_6 ?_
  refine J_callV (k := 18) (c := 2) o [.int (s1 18 3)] rfl (by decide) (Nat.le_of_ble_eq_true rfl) (Nat.le_of_ble_eq_true rfl) mth_X2_byteAt iv_X2_byteAt ml_RX2_242 ⟨Nat.le_of_ble_eq_true rfl, Nat.le_of_ble_eq_true rfl⟩ rfl rfl (Nat.le_of_ble_eq_true rfl) ⟨Nat.le_refl _, Nat.le_refl _⟩ d_X2_isEnd_9 (w_X2_byteAt (xL x) b  h) (aI (fun r9 s9 h => ?_))
  refine J_bipush (v := 59) o d_X2_isEnd_12 bipush_59 ?_
  refine J_icmp_eq o 19 d_X2_isEnd_14 rfl (fun c14 => ?_) (fun c14 => ?_)
  · replace h := h.1 c14
    refine J_aload_n o 0 d_X2_isEnd_19 rfl ?_
    refine J_dup o d_X2_isEnd_20 rfl ?_
    refine J_getI o fl_RX2_15 rfl (Nat.le_of_ble_eq_true rfl) (Nat.le_of_ble_eq_true rfl) rfl d_X2_isEnd_21 ?_
    refine J_iconst (v := 1) o d_X2_isEnd_24 iconst_1 ?_
    refine J_iadd o d_X2_isEnd_25 ?_
    refine J_put o fl_RX2_15 la_2 rfl (Nat.le_of_ble_eq_true rfl) (Nat.le_of_ble_eq_true rfl) rfl rfl rfl rfl d_X2_isEnd_26 ?_
    refine J_nS (fun s26 es26 => ?_)
    replace h := h s26 es26
    refine J_iconst (v := 1) o d_X2_isEnd_29 iconst_1 ?_
    exact J_zret o (Or.inr rfl) d_X2_isEnd_30 ⟨_, rfl, (Or.inr rfl), h⟩
  · replace h := h.2 c14
    refine J_iconst (v := 0) o d_X2_isEnd_17 iconst_0 ?_
    exact J_zret o (Or.inl rfl) d_X2_isEnd_18 ⟨_, rfl, (Or.inl rfl), h⟩
theorem d_X2_readEnd_0 : decode cX2_readEnd 0 = .ok (.aload_n 0, 1) := by decide +kernel
theorem d_X2_readEnd_1 : decode cX2_readEnd 1 = .ok (.invokevirtual 214, 3) := by decide +kernel
theorem d_X2_readEnd_4 : decode cX2_readEnd 4 = .ok (.ifCond .ne 15, 3) := by decide +kernel
theorem d_X2_readEnd_7 : decode cX2_readEnd 7 = .ok (.aload_n 0, 1) := by decide +kernel
theorem d_X2_readEnd_8 : decode cX2_readEnd 8 = .ok (.iconst 1, 1) := by decide +kernel
theorem d_X2_readEnd_9 : decode cX2_readEnd 9 = .ok (.aload_n 0, 1) := by decide +kernel
theorem d_X2_readEnd_10 : decode cX2_readEnd 10 = .ok (.getfield 15, 3) := by decide +kernel
theorem d_X2_readEnd_13 : decode cX2_readEnd 13 = .ok (.invokevirtual 79, 3) := by decide +kernel
theorem d_X2_readEnd_16 : decode cX2_readEnd 16 = .ok (.ifCond .eq 7, 3) := by decide +kernel
theorem d_X2_readEnd_19 : decode cX2_readEnd 19 = .ok (.iconst 1, 1) := by decide +kernel
theorem d_X2_readEnd_20 : decode cX2_readEnd 20 = .ok (.goto 4, 3) := by decide +kernel
theorem d_X2_readEnd_23 : decode cX2_readEnd 23 = .ok (.iconst 0, 1) := by decide +kernel
theorem d_X2_readEnd_24 : decode cX2_readEnd 24 = .ok (.ireturn, 1) := by decide +kernel
abbrev rm_X2_readEnd : Room := { frames := 2, cells := 0, slots := 0, locals := 41 }
set_option maxHeartbeats 4000000 in
set_option maxRecDepth 20000 in
theorem w_X2_readEnd (l : Launch) (b : Wy)  {σ : Sg} {K : Int32 → Sg → Prop}  (h : m_X2_readEnd  σ K) : Ct l (wC b) yX2_readEnd cX2_readEnd 1 (some .boolean) rm_X2_readEnd [.ref (wB (wC b) + 18)] σ (PZ K) := by
  unfold m_X2_readEnd at h
  refine Ct.of (own := RX2) (by decide +kernel) rfl (Nat.le_of_ble_eq_true rfl) (fun x hx o => ?_)
  subst hx
  show J x (wC b) (FinC x (wC b) (PZ K) (0, 0)) 0 [(0, .ref (wB (wC b) + 18))] [] (0, 0) σ
  refine J_aload_n o 0 d_X2_readEnd_0 rfl ?_
  refine J_callV (k := 18) (c := 2) o [] rfl (by decide) (Nat.le_of_ble_eq_true rfl) (Nat.le_of_ble_eq_true rfl) mth_X2_isEnd iv_X2_isEnd ml_RX2_214 ⟨Nat.le_of_ble_eq_true rfl, Nat.le_of_ble_eq_true rfl⟩ rfl rfl (Nat.le_of_ble_eq_true rfl) ⟨Nat.le_refl _, Nat.le_refl _⟩ d_X2_readEnd_1 (w_X2_isEnd (xL x) b  h) (aZ (fun r1 s1 hzr1 h => ?_))
  refine J_if_ne o 19 d_X2_readEnd_4 rfl (fun c4 => ?_) (fun c4 => ?_)
  · replace h := h.1 c4
    refine J_iconst (v := 1) o d_X2_readEnd_19 iconst_1 ?_
    refine J_goto o 24 d_X2_readEnd_20 rfl ?_
    exact J_zret o (Or.inr rfl) d_X2_readEnd_24 ⟨_, rfl, (Or.inr rfl), h⟩
  · replace h := h.2 c4
    refine J_aload_n o 0 d_X2_readEnd_7 rfl ?_
    refine J_iconst (v := 1) o d_X2_readEnd_8 iconst_1 ?_
    refine J_aload_n o 0 d_X2_readEnd_9 rfl ?_
    refine J_getI o fl_RX2_15 rfl (Nat.le_of_ble_eq_true rfl) (Nat.le_of_ble_eq_true rfl) rfl d_X2_readEnd_10 ?_
    refine J_callV (k := 18) (c := 2) o [.int 1, .int (s1 18 3)] rfl (by decide) (Nat.le_of_ble_eq_true rfl) (Nat.le_of_ble_eq_true rfl) mth_X2_fail iv_X2_fail ml_RX2_79 ⟨Nat.le_of_ble_eq_true rfl, Nat.le_of_ble_eq_true rfl⟩ rfl rfl (Nat.le_of_ble_eq_true rfl) ⟨Nat.le_refl _, Nat.le_refl _⟩ d_X2_readEnd_13 (w_X2_fail (xL x) b  h) (aZ (fun r13 s13 hzr13 h => ?_))
    refine J_if_eq o 23 d_X2_readEnd_16 rfl (fun c16 => ?_) (fun c16 => ?_)
    · replace h := h.1 c16
      refine J_iconst (v := 0) o d_X2_readEnd_23 iconst_0 ?_
      exact J_zret o (Or.inl rfl) d_X2_readEnd_24 ⟨_, rfl, (Or.inl rfl), h⟩
    · replace h := h.2 c16
      refine J_iconst (v := 1) o d_X2_readEnd_19 iconst_1 ?_
      refine J_goto o 24 d_X2_readEnd_20 rfl ?_
      exact J_zret o (Or.inr rfl) d_X2_readEnd_24 ⟨_, rfl, (Or.inr rfl), h⟩
theorem d_X2_readSea_0 : decode cX2_readSea 0 = .ok (.aload_n 0, 1) := by decide +kernel
theorem d_X2_readSea_1 : decode cX2_readSea 1 = .ok (.invokevirtual 92, 3) := by decide +kernel
theorem d_X2_readSea_4 : decode cX2_readSea 4 = .ok (.ifCond .ne 5, 3) := by decide +kernel
theorem d_X2_readSea_7 : decode cX2_readSea 7 = .ok (.iconst 0, 1) := by decide +kernel
theorem d_X2_readSea_8 : decode cX2_readSea 8 = .ok (.ireturn, 1) := by decide +kernel
theorem d_X2_readSea_9 : decode cX2_readSea 9 = .ok (.aload_n 0, 1) := by decide +kernel
theorem d_X2_readSea_10 : decode cX2_readSea 10 = .ok (.ldc 95, 2) := by decide +kernel
theorem d_X2_readSea_12 : decode cX2_readSea 12 = .ok (.invokevirtual 97, 3) := by decide +kernel
theorem d_X2_readSea_15 : decode cX2_readSea 15 = .ok (.ifCond .ne 13, 3) := by decide +kernel
theorem d_X2_readSea_18 : decode cX2_readSea 18 = .ok (.aload_n 0, 1) := by decide +kernel
theorem d_X2_readSea_19 : decode cX2_readSea 19 = .ok (.iconst 1, 1) := by decide +kernel
theorem d_X2_readSea_20 : decode cX2_readSea 20 = .ok (.aload_n 0, 1) := by decide +kernel
theorem d_X2_readSea_21 : decode cX2_readSea 21 = .ok (.getfield 18, 3) := by decide +kernel
theorem d_X2_readSea_24 : decode cX2_readSea 24 = .ok (.invokevirtual 79, 3) := by decide +kernel
theorem d_X2_readSea_27 : decode cX2_readSea 27 = .ok (.ireturn, 1) := by decide +kernel
theorem d_X2_readSea_28 : decode cX2_readSea 28 = .ok (.aload_n 0, 1) := by decide +kernel
theorem d_X2_readSea_29 : decode cX2_readSea 29 = .ok (.iconst 3, 1) := by decide +kernel
theorem d_X2_readSea_30 : decode cX2_readSea 30 = .ok (.bipush 20, 2) := by decide +kernel
theorem d_X2_readSea_32 : decode cX2_readSea 32 = .ok (.invokevirtual 101, 3) := by decide +kernel
theorem d_X2_readSea_35 : decode cX2_readSea 35 = .ok (.ifCond .ne 5, 3) := by decide +kernel
theorem d_X2_readSea_38 : decode cX2_readSea 38 = .ok (.iconst 0, 1) := by decide +kernel
theorem d_X2_readSea_39 : decode cX2_readSea 39 = .ok (.ireturn, 1) := by decide +kernel
theorem d_X2_readSea_40 : decode cX2_readSea 40 = .ok (.aload_n 0, 1) := by decide +kernel
theorem d_X2_readSea_41 : decode cX2_readSea 41 = .ok (.getfield 56, 3) := by decide +kernel
theorem d_X2_readSea_44 : decode cX2_readSea 44 = .ok (.aload_n 0, 1) := by decide +kernel
theorem d_X2_readSea_45 : decode cX2_readSea 45 = .ok (.getfield 21, 3) := by decide +kernel
theorem d_X2_readSea_48 : decode cX2_readSea 48 = .ok (.putfield 104, 3) := by decide +kernel
theorem d_X2_readSea_51 : decode cX2_readSea 51 = .ok (.aload_n 0, 1) := by decide +kernel
theorem d_X2_readSea_52 : decode cX2_readSea 52 = .ok (.iconst 3, 1) := by decide +kernel
theorem d_X2_readSea_53 : decode cX2_readSea 53 = .ok (.bipush 12, 2) := by decide +kernel
theorem d_X2_readSea_55 : decode cX2_readSea 55 = .ok (.invokevirtual 101, 3) := by decide +kernel
theorem d_X2_readSea_58 : decode cX2_readSea 58 = .ok (.ifCond .ne 5, 3) := by decide +kernel
theorem d_X2_readSea_61 : decode cX2_readSea 61 = .ok (.iconst 0, 1) := by decide +kernel
theorem d_X2_readSea_62 : decode cX2_readSea 62 = .ok (.ireturn, 1) := by decide +kernel
theorem d_X2_readSea_63 : decode cX2_readSea 63 = .ok (.aload_n 0, 1) := by decide +kernel
theorem d_X2_readSea_64 : decode cX2_readSea 64 = .ok (.getfield 56, 3) := by decide +kernel
theorem d_X2_readSea_67 : decode cX2_readSea 67 = .ok (.aload_n 0, 1) := by decide +kernel
theorem d_X2_readSea_68 : decode cX2_readSea 68 = .ok (.getfield 21, 3) := by decide +kernel
theorem d_X2_readSea_71 : decode cX2_readSea 71 = .ok (.putfield 107, 3) := by decide +kernel
theorem d_X2_readSea_74 : decode cX2_readSea 74 = .ok (.aload_n 0, 1) := by decide +kernel
theorem d_X2_readSea_75 : decode cX2_readSea 75 = .ok (.invokevirtual 110, 3) := by decide +kernel
theorem d_X2_readSea_78 : decode cX2_readSea 78 = .ok (.ireturn, 1) := by decide +kernel
abbrev rm_X2_readSea : Room := { frames := 5, cells := 0, slots := 0, locals := 108 }
set_option maxHeartbeats 4000000 in
set_option maxRecDepth 20000 in
theorem w_X2_readSea (l : Launch) (b : Wy)  {σ : Sg} {K : Int32 → Sg → Prop}  (h : m_X2_readSea  σ K) : Ct l (wC b) yX2_readSea cX2_readSea 1 (some .boolean) rm_X2_readSea [.ref (wB (wC b) + 18)] σ (PZ K) := by
  unfold m_X2_readSea at h
  refine Ct.of (own := RX2) (by decide +kernel) rfl (Nat.le_of_ble_eq_true rfl) (fun x hx o => ?_)
  subst hx
  show J x (wC b) (FinC x (wC b) (PZ K) (0, 0)) 0 [(0, .ref (wB (wC b) + 18))] [] (0, 0) σ
  refine J_aload_n o 0 d_X2_readSea_0 rfl ?_
  refine J_callV (k := 18) (c := 2) o [] rfl (by decide) (Nat.le_of_ble_eq_true rfl) (Nat.le_of_ble_eq_true rfl) mth_X2_readWord iv_X2_readWord ml_RX2_92 ⟨Nat.le_of_ble_eq_true rfl, Nat.le_of_ble_eq_true rfl⟩ rfl rfl (Nat.le_of_ble_eq_true rfl) ⟨Nat.le_refl _, Nat.le_refl _⟩ d_X2_readSea_1 (w_X2_readWord (xL x) b  h) (aZ (fun r1 s1 hzr1 h => ?_))
  refine J_if_ne o 9 d_X2_readSea_4 rfl (fun c4 => ?_) (fun c4 => ?_)
  · replace h := h.1 c4
    refine J_aload_n o 0 d_X2_readSea_9 rfl ?_
    refine J_ldcS (i := 1) (tx := "sea") o (List.mem_of_getElem? (i := 1) rfl) d_X2_readSea_10 ?_
    refine J_callV (k := 18) (c := 2) o [.ref (wK (wC b) 1)] rfl (by decide) (Nat.le_of_ble_eq_true rfl) (Nat.le_of_ble_eq_true rfl) mth_X2_isWord iv_X2_isWord ml_RX2_97 ⟨Nat.le_of_ble_eq_true rfl, Nat.le_of_ble_eq_true rfl⟩ rfl rfl (Nat.le_of_ble_eq_true rfl) ⟨Nat.le_refl _, Nat.le_refl _⟩ d_X2_readSea_12 (w_X2_isWord (xL x) b (Nat.le_of_ble_eq_true rfl) h) (aZ (fun r12 s12 hzr12 h => ?_))
    refine J_if_ne o 28 d_X2_readSea_15 rfl (fun c15 => ?_) (fun c15 => ?_)
    · replace h := h.1 c15
      refine J_aload_n o 0 d_X2_readSea_28 rfl ?_
      refine J_iconst (v := 3) o d_X2_readSea_29 iconst_3 ?_
      refine J_bipush (v := 20) o d_X2_readSea_30 bipush_20 ?_
      refine J_callV (k := 18) (c := 2) o [.int 3, .int 20] rfl (by decide) (Nat.le_of_ble_eq_true rfl) (Nat.le_of_ble_eq_true rfl) mth_X2_readNumber iv_X2_readNumber ml_RX2_101 ⟨Nat.le_of_ble_eq_true rfl, Nat.le_of_ble_eq_true rfl⟩ rfl rfl (Nat.le_of_ble_eq_true rfl) ⟨Nat.le_refl _, Nat.le_refl _⟩ d_X2_readSea_32 (w_X2_readNumber (xL x) b  h) (aZ (fun r32 s32 hzr32 h => ?_))
      refine J_if_ne o 40 d_X2_readSea_35 rfl (fun c35 => ?_) (fun c35 => ?_)
      · replace h := h.1 c35
        refine J_aload_n o 0 d_X2_readSea_40 rfl ?_
        refine J_getR (t := 10) o fl_RX2_56 rfl (Nat.le_of_ble_eq_true rfl) (Nat.le_of_ble_eq_true rfl) rfl rfl d_X2_readSea_41 ?_
        refine J_aload_n o 0 d_X2_readSea_44 rfl ?_
        refine J_getI o fl_RX2_21 rfl (Nat.le_of_ble_eq_true rfl) (Nat.le_of_ble_eq_true rfl) rfl d_X2_readSea_45 ?_
        refine J_put o fl_RX2_104 la_3 (W_kd W_10) (Nat.zero_le _) (W_hi W_10) rfl rfl rfl rfl d_X2_readSea_48 ?_
        refine J_nS (fun s48 es48 => ?_)
        replace h := h s48 es48
        refine J_aload_n o 0 d_X2_readSea_51 rfl ?_
        refine J_iconst (v := 3) o d_X2_readSea_52 iconst_3 ?_
        refine J_bipush (v := 12) o d_X2_readSea_53 bipush_12 ?_
        refine J_callV (k := 18) (c := 2) o [.int 3, .int 12] rfl (by decide) (Nat.le_of_ble_eq_true rfl) (Nat.le_of_ble_eq_true rfl) mth_X2_readNumber iv_X2_readNumber ml_RX2_101 ⟨Nat.le_of_ble_eq_true rfl, Nat.le_of_ble_eq_true rfl⟩ rfl rfl (Nat.le_of_ble_eq_true rfl) ⟨Nat.le_refl _, Nat.le_refl _⟩ d_X2_readSea_55 (w_X2_readNumber (xL x) b  h) (aZ (fun r55 s55 hzr55 h => ?_))
        refine J_if_ne o 63 d_X2_readSea_58 rfl (fun c58 => ?_) (fun c58 => ?_)
        · replace h := h.1 c58
          refine J_aload_n o 0 d_X2_readSea_63 rfl ?_
          refine J_getR (t := 10) o fl_RX2_56 rfl (Nat.le_of_ble_eq_true rfl) (Nat.le_of_ble_eq_true rfl) rfl rfl d_X2_readSea_64 ?_
          refine J_aload_n o 0 d_X2_readSea_67 rfl ?_
          refine J_getI o fl_RX2_21 rfl (Nat.le_of_ble_eq_true rfl) (Nat.le_of_ble_eq_true rfl) rfl d_X2_readSea_68 ?_
          refine J_put o fl_RX2_107 la_3 (W_kd W_10) (Nat.zero_le _) (W_hi W_10) rfl rfl rfl rfl d_X2_readSea_71 ?_
          refine J_nS (fun s71 es71 => ?_)
          replace h := h s71 es71
          refine J_aload_n o 0 d_X2_readSea_74 rfl ?_
          refine J_callV (k := 18) (c := 2) o [] rfl (by decide) (Nat.le_of_ble_eq_true rfl) (Nat.le_of_ble_eq_true rfl) mth_X2_readEnd iv_X2_readEnd ml_RX2_110 ⟨Nat.le_of_ble_eq_true rfl, Nat.le_of_ble_eq_true rfl⟩ rfl rfl (Nat.le_of_ble_eq_true rfl) ⟨Nat.le_refl _, Nat.le_refl _⟩ d_X2_readSea_75 (w_X2_readEnd (xL x) b  h) (aZ (fun r75 s75 hzr75 h => ?_))
          exact J_zret o hzr75 d_X2_readSea_78 ⟨_, rfl, hzr75, h⟩
        · replace h := h.2 c58
          refine J_iconst (v := 0) o d_X2_readSea_61 iconst_0 ?_
          exact J_zret o (Or.inl rfl) d_X2_readSea_62 ⟨_, rfl, (Or.inl rfl), h⟩
      · replace h := h.2 c35
        refine J_iconst (v := 0) o d_X2_readSea_38 iconst_0 ?_
        exact J_zret o (Or.inl rfl) d_X2_readSea_39 ⟨_, rfl, (Or.inl rfl), h⟩
    · replace h := h.2 c15
      refine J_aload_n o 0 d_X2_readSea_18 rfl ?_
      refine J_iconst (v := 1) o d_X2_readSea_19 iconst_1 ?_
      refine J_aload_n o 0 d_X2_readSea_20 rfl ?_
      refine J_getI o fl_RX2_18 rfl (Nat.le_of_ble_eq_true rfl) (Nat.le_of_ble_eq_true rfl) rfl d_X2_readSea_21 ?_
      refine J_callV (k := 18) (c := 2) o [.int 1, .int (s12 18 4)] rfl (by decide) (Nat.le_of_ble_eq_true rfl) (Nat.le_of_ble_eq_true rfl) mth_X2_fail iv_X2_fail ml_RX2_79 ⟨Nat.le_of_ble_eq_true rfl, Nat.le_of_ble_eq_true rfl⟩ rfl rfl (Nat.le_of_ble_eq_true rfl) ⟨Nat.le_refl _, Nat.le_refl _⟩ d_X2_readSea_24 (w_X2_fail (xL x) b  h) (aZ (fun r24 s24 hzr24 h => ?_))
      exact J_zret o hzr24 d_X2_readSea_27 ⟨_, rfl, hzr24, h⟩
  · replace h := h.2 c4
    refine J_iconst (v := 0) o d_X2_readSea_7 iconst_0 ?_
    exact J_zret o (Or.inl rfl) d_X2_readSea_8 ⟨_, rfl, (Or.inl rfl), h⟩
theorem d_X2_isMore_0 : decode cX2_isMore 0 = .ok (.aload_n 0, 1) := by decide +kernel
theorem d_X2_isMore_1 : decode cX2_isMore 1 = .ok (.invokevirtual 239, 3) := by decide +kernel
theorem d_X2_isMore_4 : decode cX2_isMore 4 = .ok (.aload_n 0, 1) := by decide +kernel
theorem d_X2_isMore_5 : decode cX2_isMore 5 = .ok (.getfield 15, 3) := by decide +kernel
theorem d_X2_isMore_8 : decode cX2_isMore 8 = .ok (.aload_n 0, 1) := by decide +kernel
theorem d_X2_isMore_9 : decode cX2_isMore 9 = .ok (.getfield 9, 3) := by decide +kernel
theorem d_X2_isMore_12 : decode cX2_isMore 12 = .ok (.if_icmp .ge 7, 3) := by decide +kernel
theorem d_X2_isMore_15 : decode cX2_isMore 15 = .ok (.iconst 1, 1) := by decide +kernel
theorem d_X2_isMore_16 : decode cX2_isMore 16 = .ok (.goto 4, 3) := by decide +kernel
theorem d_X2_isMore_19 : decode cX2_isMore 19 = .ok (.iconst 0, 1) := by decide +kernel
theorem d_X2_isMore_20 : decode cX2_isMore 20 = .ok (.ireturn, 1) := by decide +kernel
abbrev rm_X2_isMore : Room := { frames := 1, cells := 0, slots := 0, locals := 20 }
set_option maxHeartbeats 4000000 in
set_option maxRecDepth 20000 in
theorem w_X2_isMore (l : Launch) (b : Wy)  {σ : Sg} {K : Int32 → Sg → Prop}  (h : m_X2_isMore  σ K) : Ct l (wC b) yX2_isMore cX2_isMore 1 (some .boolean) rm_X2_isMore [.ref (wB (wC b) + 18)] σ (PZ K) := by
  unfold m_X2_isMore at h
  refine Ct.of (own := RX2) (by decide +kernel) rfl (Nat.le_of_ble_eq_true rfl) (fun x hx o => ?_)
  subst hx
  show J x (wC b) (FinC x (wC b) (PZ K) (0, 0)) 0 [(0, .ref (wB (wC b) + 18))] [] (0, 0) σ
  refine J_aload_n o 0 d_X2_isMore_0 rfl ?_
  refine J_callV (k := 18) (c := 2) o [] rfl (by decide) (Nat.le_of_ble_eq_true rfl) (Nat.le_of_ble_eq_true rfl) mth_X2_skipBlanks iv_X2_skipBlanks ml_RX2_239 ⟨Nat.le_of_ble_eq_true rfl, Nat.le_of_ble_eq_true rfl⟩ rfl rfl (Nat.le_of_ble_eq_true rfl) ⟨Nat.le_refl _, Nat.le_refl _⟩ d_X2_isMore_1 (w_X2_skipBlanks (xL x) b  h) (aV (fun s1 h => ?_))
  refine J_aload_n o 0 d_X2_isMore_4 rfl ?_
  refine J_getI o fl_RX2_15 rfl (Nat.le_of_ble_eq_true rfl) (Nat.le_of_ble_eq_true rfl) rfl d_X2_isMore_5 ?_
  refine J_aload_n o 0 d_X2_isMore_8 rfl ?_
  refine J_getI o fl_RX2_9 rfl (Nat.le_of_ble_eq_true rfl) (Nat.le_of_ble_eq_true rfl) rfl d_X2_isMore_9 ?_
  refine J_icmp_ge o 19 d_X2_isMore_12 rfl (fun c12 => ?_) (fun c12 => ?_)
  · replace h := h.1 c12
    refine J_iconst (v := 0) o d_X2_isMore_19 iconst_0 ?_
    exact J_zret o (Or.inl rfl) d_X2_isMore_20 ⟨_, rfl, (Or.inl rfl), h⟩
  · replace h := h.2 c12
    refine J_iconst (v := 1) o d_X2_isMore_15 iconst_1 ?_
    refine J_goto o 20 d_X2_isMore_16 rfl ?_
    exact J_zret o (Or.inr rfl) d_X2_isMore_20 ⟨_, rfl, (Or.inr rfl), h⟩
theorem d_X2_readCell_0 : decode cX2_readCell 0 = .ok (.aload_n 0, 1) := by decide +kernel
theorem d_X2_readCell_1 : decode cX2_readCell 1 = .ok (.iconst 0, 1) := by decide +kernel
theorem d_X2_readCell_2 : decode cX2_readCell 2 = .ok (.aload_n 0, 1) := by decide +kernel
theorem d_X2_readCell_3 : decode cX2_readCell 3 = .ok (.getfield 56, 3) := by decide +kernel
theorem d_X2_readCell_6 : decode cX2_readCell 6 = .ok (.getfield 104, 3) := by decide +kernel
theorem d_X2_readCell_9 : decode cX2_readCell 9 = .ok (.iconst 1, 1) := by decide +kernel
theorem d_X2_readCell_10 : decode cX2_readCell 10 = .ok (.isub, 1) := by decide +kernel
theorem d_X2_readCell_11 : decode cX2_readCell 11 = .ok (.invokevirtual 101, 3) := by decide +kernel
theorem d_X2_readCell_14 : decode cX2_readCell 14 = .ok (.ifCond .ne 5, 3) := by decide +kernel
theorem d_X2_readCell_17 : decode cX2_readCell 17 = .ok (.iconst 0, 1) := by decide +kernel
theorem d_X2_readCell_18 : decode cX2_readCell 18 = .ok (.ireturn, 1) := by decide +kernel
theorem d_X2_readCell_19 : decode cX2_readCell 19 = .ok (.aload_n 0, 1) := by decide +kernel
theorem d_X2_readCell_20 : decode cX2_readCell 20 = .ok (.getfield 21, 3) := by decide +kernel
theorem d_X2_readCell_23 : decode cX2_readCell 23 = .ok (.istore_n 1, 1) := by decide +kernel
theorem d_X2_readCell_24 : decode cX2_readCell 24 = .ok (.aload_n 0, 1) := by decide +kernel
theorem d_X2_readCell_25 : decode cX2_readCell 25 = .ok (.aload_n 0, 1) := by decide +kernel
theorem d_X2_readCell_26 : decode cX2_readCell 26 = .ok (.getfield 18, 3) := by decide +kernel
theorem d_X2_readCell_29 : decode cX2_readCell 29 = .ok (.putfield 27, 3) := by decide +kernel
theorem d_X2_readCell_32 : decode cX2_readCell 32 = .ok (.aload_n 0, 1) := by decide +kernel
theorem d_X2_readCell_33 : decode cX2_readCell 33 = .ok (.iconst 0, 1) := by decide +kernel
theorem d_X2_readCell_34 : decode cX2_readCell 34 = .ok (.aload_n 0, 1) := by decide +kernel
theorem d_X2_readCell_35 : decode cX2_readCell 35 = .ok (.getfield 56, 3) := by decide +kernel
theorem d_X2_readCell_38 : decode cX2_readCell 38 = .ok (.getfield 107, 3) := by decide +kernel
theorem d_X2_readCell_41 : decode cX2_readCell 41 = .ok (.iconst 1, 1) := by decide +kernel
theorem d_X2_readCell_42 : decode cX2_readCell 42 = .ok (.isub, 1) := by decide +kernel
theorem d_X2_readCell_43 : decode cX2_readCell 43 = .ok (.invokevirtual 101, 3) := by decide +kernel
theorem d_X2_readCell_46 : decode cX2_readCell 46 = .ok (.ifCond .ne 5, 3) := by decide +kernel
theorem d_X2_readCell_49 : decode cX2_readCell 49 = .ok (.iconst 0, 1) := by decide +kernel
theorem d_X2_readCell_50 : decode cX2_readCell 50 = .ok (.ireturn, 1) := by decide +kernel
theorem d_X2_readCell_51 : decode cX2_readCell 51 = .ok (.aload_n 0, 1) := by decide +kernel
theorem d_X2_readCell_52 : decode cX2_readCell 52 = .ok (.aload_n 0, 1) := by decide +kernel
theorem d_X2_readCell_53 : decode cX2_readCell 53 = .ok (.getfield 56, 3) := by decide +kernel
theorem d_X2_readCell_56 : decode cX2_readCell 56 = .ok (.iload_n 1, 1) := by decide +kernel
theorem d_X2_readCell_57 : decode cX2_readCell 57 = .ok (.aload_n 0, 1) := by decide +kernel
theorem d_X2_readCell_58 : decode cX2_readCell 58 = .ok (.getfield 21, 3) := by decide +kernel
theorem d_X2_readCell_61 : decode cX2_readCell 61 = .ok (.invokevirtual 179, 3) := by decide +kernel
theorem d_X2_readCell_64 : decode cX2_readCell 64 = .ok (.putfield 24, 3) := by decide +kernel
theorem d_X2_readCell_67 : decode cX2_readCell 67 = .ok (.iconst 1, 1) := by decide +kernel
theorem d_X2_readCell_68 : decode cX2_readCell 68 = .ok (.ireturn, 1) := by decide +kernel
abbrev rm_X2_readCell : Room := { frames := 2, cells := 0, slots := 0, locals := 44 }
set_option maxHeartbeats 4000000 in
set_option maxRecDepth 20000 in
theorem w_X2_readCell (l : Launch) (b : Wy)  {σ : Sg} {K : Int32 → Sg → Prop}  (h : m_X2_readCell  σ K) : Ct l (wC b) yX2_readCell cX2_readCell 2 (some .boolean) rm_X2_readCell [.ref (wB (wC b) + 18)] σ (PZ K) := by
  unfold m_X2_readCell at h
  refine Ct.of (own := RX2) (by decide +kernel) rfl (Nat.le_of_ble_eq_true rfl) (fun x hx o => ?_)
  subst hx
  show J x (wC b) (FinC x (wC b) (PZ K) (0, 0)) 0 [(0, .ref (wB (wC b) + 18))] [] (0, 0) σ
  refine J_aload_n o 0 d_X2_readCell_0 rfl ?_
  refine J_iconst (v := 0) o d_X2_readCell_1 iconst_0 ?_
  refine J_aload_n o 0 d_X2_readCell_2 rfl ?_
  refine J_getR (t := 10) o fl_RX2_56 rfl (Nat.le_of_ble_eq_true rfl) (Nat.le_of_ble_eq_true rfl) rfl rfl d_X2_readCell_3 ?_
  refine J_getI o fl_RX2_104 (W_kd W_10) (Nat.zero_le _) (W_hi W_10) rfl d_X2_readCell_6 ?_
  refine J_iconst (v := 1) o d_X2_readCell_9 iconst_1 ?_
  refine J_isub o d_X2_readCell_10 ?_
  refine J_callV (k := 18) (c := 2) o [.int 0, .int ((σ 10 0) - 1)] rfl (by decide) (Nat.le_of_ble_eq_true rfl) (Nat.le_of_ble_eq_true rfl) mth_X2_readNumber iv_X2_readNumber ml_RX2_101 ⟨Nat.le_of_ble_eq_true rfl, Nat.le_of_ble_eq_true rfl⟩ rfl rfl (Nat.le_of_ble_eq_true rfl) ⟨Nat.le_refl _, Nat.le_refl _⟩ d_X2_readCell_11 (w_X2_readNumber (xL x) b  h) (aZ (fun r11 s11 hzr11 h => ?_))
  refine J_if_ne o 19 d_X2_readCell_14 rfl (fun c14 => ?_) (fun c14 => ?_)
  · replace h := h.1 c14
    refine J_aload_n o 0 d_X2_readCell_19 rfl ?_
    refine J_getI o fl_RX2_21 rfl (Nat.le_of_ble_eq_true rfl) (Nat.le_of_ble_eq_true rfl) rfl d_X2_readCell_20 ?_
    refine J_top (fun l1_23 el1_23 => ?_)
    replace h := h l1_23 el1_23
    refine J_istore_n (lv' := [(1, .int l1_23), (0, .ref (wB (wC b) + 18))]) o d_X2_readCell_23 (by decide) rfl ?_
    refine J_aload_n o 1 d_X2_readCell_24 rfl ?_
    refine J_aload_n o 1 d_X2_readCell_25 rfl ?_
    refine J_getI o fl_RX2_18 rfl (Nat.le_of_ble_eq_true rfl) (Nat.le_of_ble_eq_true rfl) rfl d_X2_readCell_26 ?_
    refine J_put o fl_RX2_27 la_2 rfl (Nat.le_of_ble_eq_true rfl) (Nat.le_of_ble_eq_true rfl) rfl rfl rfl rfl d_X2_readCell_29 ?_
    refine J_nS (fun s29 es29 => ?_)
    replace h := h s29 es29
    refine J_aload_n o 1 d_X2_readCell_32 rfl ?_
    refine J_iconst (v := 0) o d_X2_readCell_33 iconst_0 ?_
    refine J_aload_n o 1 d_X2_readCell_34 rfl ?_
    refine J_getR (t := 10) o fl_RX2_56 rfl (Nat.le_of_ble_eq_true rfl) (Nat.le_of_ble_eq_true rfl) rfl rfl d_X2_readCell_35 ?_
    refine J_getI o fl_RX2_107 (W_kd W_10) (Nat.zero_le _) (W_hi W_10) rfl d_X2_readCell_38 ?_
    refine J_iconst (v := 1) o d_X2_readCell_41 iconst_1 ?_
    refine J_isub o d_X2_readCell_42 ?_
    refine J_callV (k := 18) (c := 2) o [.int 0, .int ((s29 10 1) - 1)] rfl (by decide) (Nat.le_of_ble_eq_true rfl) (Nat.le_of_ble_eq_true rfl) mth_X2_readNumber iv_X2_readNumber ml_RX2_101 ⟨Nat.le_of_ble_eq_true rfl, Nat.le_of_ble_eq_true rfl⟩ rfl rfl (Nat.le_of_ble_eq_true rfl) ⟨Nat.le_refl _, Nat.le_refl _⟩ d_X2_readCell_43 (w_X2_readNumber (xL x) b  h) (aZ (fun r43 s43 hzr43 h => ?_))
    refine J_if_ne o 51 d_X2_readCell_46 rfl (fun c46 => ?_) (fun c46 => ?_)
    · replace h := h.1 c46
      refine J_aload_n o 1 d_X2_readCell_51 rfl ?_
      refine J_aload_n o 1 d_X2_readCell_52 rfl ?_
      refine J_getR (t := 10) o fl_RX2_56 rfl (Nat.le_of_ble_eq_true rfl) (Nat.le_of_ble_eq_true rfl) rfl rfl d_X2_readCell_53 ?_
      refine J_iload_n o 0 d_X2_readCell_56 rfl ?_
      refine J_aload_n o 1 d_X2_readCell_57 rfl ?_
      refine J_getI o fl_RX2_21 rfl (Nat.le_of_ble_eq_true rfl) (Nat.le_of_ble_eq_true rfl) rfl d_X2_readCell_58 ?_
      refine J_callV (k := 10) (c := 3) o [.int l1_23, .int (s43 18 5)] (W_kd W_10) (by decide) (Nat.zero_le _) (W_hi W_10) mth_X3_cellAt iv_X3_cellAt ml_RX2_179 ⟨Nat.le_of_ble_eq_true rfl, Nat.le_of_ble_eq_true rfl⟩ rfl rfl (Nat.le_of_ble_eq_true rfl) ⟨Nat.le_refl _, Nat.le_refl _⟩ d_X2_readCell_61 (w_X3_cellAt (xL x) b W_10 h) (aI (fun r61 s61 h => ?_))
      refine J_put o fl_RX2_24 la_2 rfl (Nat.le_of_ble_eq_true rfl) (Nat.le_of_ble_eq_true rfl) rfl rfl rfl rfl d_X2_readCell_64 ?_
      refine J_nS (fun s64 es64 => ?_)
      replace h := h s64 es64
      refine J_iconst (v := 1) o d_X2_readCell_67 iconst_1 ?_
      exact J_zret o (Or.inr rfl) d_X2_readCell_68 ⟨_, rfl, (Or.inr rfl), h⟩
    · replace h := h.2 c46
      refine J_iconst (v := 0) o d_X2_readCell_49 iconst_0 ?_
      exact J_zret o (Or.inl rfl) d_X2_readCell_50 ⟨_, rfl, (Or.inl rfl), h⟩
  · replace h := h.2 c14
    refine J_iconst (v := 0) o d_X2_readCell_17 iconst_0 ?_
    exact J_zret o (Or.inl rfl) d_X2_readCell_18 ⟨_, rfl, (Or.inl rfl), h⟩
theorem d_X3_isTaken_0 : decode cX3_isTaken 0 = .ok (.iconst 0, 1) := by decide +kernel
theorem d_X3_isTaken_1 : decode cX3_isTaken 1 = .ok (.istore_n 2, 1) := by decide +kernel
theorem d_X3_isTaken_2 : decode cX3_isTaken 2 = .ok (.iload_n 2, 1) := by decide +kernel
theorem d_X3_isTaken_3 : decode cX3_isTaken 3 = .ok (.aload_n 0, 1) := by decide +kernel
theorem d_X3_isTaken_4 : decode cX3_isTaken 4 = .ok (.getfield 33, 3) := by decide +kernel
theorem d_X3_isTaken_7 : decode cX3_isTaken 7 = .ok (.if_icmp .ge 23, 3) := by decide +kernel
theorem d_X3_isTaken_10 : decode cX3_isTaken 10 = .ok (.aload_n 0, 1) := by decide +kernel
theorem d_X3_isTaken_11 : decode cX3_isTaken 11 = .ok (.getfield 42, 3) := by decide +kernel
theorem d_X3_isTaken_14 : decode cX3_isTaken 14 = .ok (.iload_n 2, 1) := by decide +kernel
theorem d_X3_isTaken_15 : decode cX3_isTaken 15 = .ok (.invokestatic 117, 3) := by decide +kernel
theorem d_X3_isTaken_18 : decode cX3_isTaken 18 = .ok (.iload_n 1, 1) := by decide +kernel
theorem d_X3_isTaken_19 : decode cX3_isTaken 19 = .ok (.if_icmp .ne 5, 3) := by decide +kernel
theorem d_X3_isTaken_22 : decode cX3_isTaken 22 = .ok (.iconst 1, 1) := by decide +kernel
theorem d_X3_isTaken_23 : decode cX3_isTaken 23 = .ok (.ireturn, 1) := by decide +kernel
theorem d_X3_isTaken_24 : decode cX3_isTaken 24 = .ok (.iinc 2 1, 3) := by decide +kernel
theorem d_X3_isTaken_27 : decode cX3_isTaken 27 = .ok (.goto (-25), 3) := by decide +kernel
theorem d_X3_isTaken_30 : decode cX3_isTaken 30 = .ok (.iconst 0, 1) := by decide +kernel
theorem d_X3_isTaken_31 : decode cX3_isTaken 31 = .ok (.ireturn, 1) := by decide +kernel
abbrev rm_X3_isTaken : Room := { frames := 1, cells := 0, slots := 0, locals := 21 }
set_option maxHeartbeats 4000000 in
set_option maxRecDepth 20000 in
theorem c_X3_isTaken_2 {x : Cx} {b : Wy} (o : Ok x (wC b) cX3_isTaken 3 RX3 (some .boolean) rm_X3_isTaken) {v0 : Nat} {v1 : Int32} {K : Int32 → Sg → Prop}  (hv0 : IsW v0) : ∀ (n : Nat) (l2 : Int32) (σ : Sg), m_X3_isTaken_l2 v0 v1 K  n l2 σ → J x (wC b) (FinC x (wC b) (PZ K) (0, 0)) 2 [(0, .ref (wB (wC b) + v0)), (1, .int v1), (2, .int l2)] [] (0, 0) σ := by
  intro n
  induction n with
  | zero =>
    intro l2 σ  h
    exact False.elim h
  | succ n ih =>
    intro l2 σ  h
    unfold m_X3_isTaken_l2 at h
    refine J_iload_n o 2 d_X3_isTaken_2 rfl ?_
    refine J_aload_n o 0 d_X3_isTaken_3 rfl ?_
    refine J_getI o fl_RX3_33 (W_kd hv0) (Nat.zero_le _) (W_hi hv0) rfl d_X3_isTaken_4 ?_
    refine J_icmp_ge o 30 d_X3_isTaken_7 rfl (fun c7 => ?_) (fun c7 => ?_)
    · replace h := h.1 c7
      refine J_iconst (v := 0) o d_X3_isTaken_30 iconst_0 ?_
      exact J_zret o (Or.inl rfl) d_X3_isTaken_31 ⟨_, rfl, (Or.inl rfl), h⟩
    · replace h := h.2 c7
      refine J_aload_n o 0 d_X3_isTaken_10 rfl ?_
      refine J_getR (t := (v0 + 1)) o fl_RX3_42 (W_kd hv0) (Nat.zero_le _) (W_hi hv0) rfl (W_t hv0 10 (by decide)) d_X3_isTaken_11 ?_
      refine J_iload_n o 2 d_X3_isTaken_14 rfl ?_
      refine J_callSN o [.ref (wB (wC b) + (v0 + 1)), .int l2] mth_X4_read st_X4_read mn_RX3_117 ⟨Nat.le_of_ble_eq_true rfl, Nat.le_of_ble_eq_true rfl⟩ rfl rfl (Nat.le_of_ble_eq_true rfl) ⟨Nat.le_refl _, Nat.le_refl _⟩ d_X3_isTaken_15 (w_X4_read (xL x) b (W_A1 hv0) h) (aI (fun r15 s15 h => ?_))
      refine J_iload_n o 1 d_X3_isTaken_18 rfl ?_
      refine J_icmp_ne o 24 d_X3_isTaken_19 rfl (fun c19 => ?_) (fun c19 => ?_)
      · replace h := h.1 c19
        refine J_iinc (lv' := [(2, .int (l2 + 1)), (0, .ref (wB (wC b) + v0)), (1, .int v1)]) o 2 d_X3_isTaken_24 (by decide) rfl iconst_1 rfl ?_
        refine J_goto o 2 d_X3_isTaken_27 rfl ?_
        refine J_sub [1, 2, 0] rfl ?_
        exact ih (l2 + 1) s15  h
      · replace h := h.2 c19
        refine J_iconst (v := 1) o d_X3_isTaken_22 iconst_1 ?_
        exact J_zret o (Or.inr rfl) d_X3_isTaken_23 ⟨_, rfl, (Or.inr rfl), h⟩
set_option maxHeartbeats 4000000 in
set_option maxRecDepth 20000 in
theorem w_X3_isTaken (l : Launch) (b : Wy) {v0 : Nat} {v1 : Int32} {σ : Sg} {K : Int32 → Sg → Prop} (hv0 : IsW v0) (h : m_X3_isTaken v0 v1 σ K) : Ct l (wC b) yX3_isTaken cX3_isTaken 3 (some .boolean) rm_X3_isTaken [.ref (wB (wC b) + v0), .int v1] σ (PZ K) := by
  unfold m_X3_isTaken at h
  refine Ct.of (own := RX3) (by decide +kernel) rfl (Nat.le_of_ble_eq_true rfl) (fun x hx o => ?_)
  subst hx
  show J x (wC b) (FinC x (wC b) (PZ K) (0, 0)) 0 [(0, .ref (wB (wC b) + v0)), (1, .int v1)] [] (0, 0) σ
  refine J_iconst (v := 0) o d_X3_isTaken_0 iconst_0 ?_
  refine J_istore_n (lv' := [(2, .int 0), (0, .ref (wB (wC b) + v0)), (1, .int v1)]) o d_X3_isTaken_1 (by decide) rfl ?_
  refine J_sub [1, 2, 0] rfl ?_
  obtain ⟨n9, h⟩ := h
  exact c_X3_isTaken_2 o hv0  n9 0 σ  h
theorem d_X2_readLand_0 : decode cX2_readLand 0 = .ok (.aload_n 0, 1) := by decide +kernel
theorem d_X2_readLand_1 : decode cX2_readLand 1 = .ok (.invokevirtual 148, 3) := by decide +kernel
theorem d_X2_readLand_4 : decode cX2_readLand 4 = .ok (.ifCond .ne 5, 3) := by decide +kernel
theorem d_X2_readLand_7 : decode cX2_readLand 7 = .ok (.iconst 0, 1) := by decide +kernel
theorem d_X2_readLand_8 : decode cX2_readLand 8 = .ok (.ireturn, 1) := by decide +kernel
theorem d_X2_readLand_9 : decode cX2_readLand 9 = .ok (.aload_n 0, 1) := by decide +kernel
theorem d_X2_readLand_10 : decode cX2_readLand 10 = .ok (.getfield 39, 3) := by decide +kernel
theorem d_X2_readLand_13 : decode cX2_readLand 13 = .ok (.ifCond .eq 21, 3) := by decide +kernel
theorem d_X2_readLand_16 : decode cX2_readLand 16 = .ok (.aload_n 0, 1) := by decide +kernel
theorem d_X2_readLand_17 : decode cX2_readLand 17 = .ok (.getfield 56, 3) := by decide +kernel
theorem d_X2_readLand_20 : decode cX2_readLand 20 = .ok (.getfield 151, 3) := by decide +kernel
theorem d_X2_readLand_23 : decode cX2_readLand 23 = .ok (.aload_n 0, 1) := by decide +kernel
theorem d_X2_readLand_24 : decode cX2_readLand 24 = .ok (.getfield 24, 3) := by decide +kernel
theorem d_X2_readLand_27 : decode cX2_readLand 27 = .ok (.if_icmp .ne 7, 3) := by decide +kernel
theorem d_X2_readLand_30 : decode cX2_readLand 30 = .ok (.iconst 1, 1) := by decide +kernel
theorem d_X2_readLand_31 : decode cX2_readLand 31 = .ok (.goto 4, 3) := by decide +kernel
theorem d_X2_readLand_34 : decode cX2_readLand 34 = .ok (.iconst 0, 1) := by decide +kernel
theorem d_X2_readLand_35 : decode cX2_readLand 35 = .ok (.istore_n 1, 1) := by decide +kernel
theorem d_X2_readLand_36 : decode cX2_readLand 36 = .ok (.aload_n 0, 1) := by decide +kernel
theorem d_X2_readLand_37 : decode cX2_readLand 37 = .ok (.getfield 43, 3) := by decide +kernel
theorem d_X2_readLand_40 : decode cX2_readLand 40 = .ok (.ifCond .eq 21, 3) := by decide +kernel
theorem d_X2_readLand_43 : decode cX2_readLand 43 = .ok (.aload_n 0, 1) := by decide +kernel
theorem d_X2_readLand_44 : decode cX2_readLand 44 = .ok (.getfield 56, 3) := by decide +kernel
theorem d_X2_readLand_47 : decode cX2_readLand 47 = .ok (.getfield 153, 3) := by decide +kernel
theorem d_X2_readLand_50 : decode cX2_readLand 50 = .ok (.aload_n 0, 1) := by decide +kernel
theorem d_X2_readLand_51 : decode cX2_readLand 51 = .ok (.getfield 24, 3) := by decide +kernel
theorem d_X2_readLand_54 : decode cX2_readLand 54 = .ok (.if_icmp .ne 7, 3) := by decide +kernel
theorem d_X2_readLand_57 : decode cX2_readLand 57 = .ok (.iconst 1, 1) := by decide +kernel
theorem d_X2_readLand_58 : decode cX2_readLand 58 = .ok (.goto 4, 3) := by decide +kernel
theorem d_X2_readLand_61 : decode cX2_readLand 61 = .ok (.iconst 0, 1) := by decide +kernel
theorem d_X2_readLand_62 : decode cX2_readLand 62 = .ok (.istore_n 2, 1) := by decide +kernel
theorem d_X2_readLand_63 : decode cX2_readLand 63 = .ok (.iload_n 1, 1) := by decide +kernel
theorem d_X2_readLand_64 : decode cX2_readLand 64 = .ok (.ifCond .ne 21, 3) := by decide +kernel
theorem d_X2_readLand_67 : decode cX2_readLand 67 = .ok (.iload_n 2, 1) := by decide +kernel
theorem d_X2_readLand_68 : decode cX2_readLand 68 = .ok (.ifCond .ne 17, 3) := by decide +kernel
theorem d_X2_readLand_71 : decode cX2_readLand 71 = .ok (.aload_n 0, 1) := by decide +kernel
theorem d_X2_readLand_72 : decode cX2_readLand 72 = .ok (.getfield 56, 3) := by decide +kernel
theorem d_X2_readLand_75 : decode cX2_readLand 75 = .ok (.aload_n 0, 1) := by decide +kernel
theorem d_X2_readLand_76 : decode cX2_readLand 76 = .ok (.getfield 24, 3) := by decide +kernel
theorem d_X2_readLand_79 : decode cX2_readLand 79 = .ok (.invokevirtual 155, 3) := by decide +kernel
theorem d_X2_readLand_82 : decode cX2_readLand 82 = .ok (.ifCond .eq 13, 3) := by decide +kernel
theorem d_X2_readLand_85 : decode cX2_readLand 85 = .ok (.aload_n 0, 1) := by decide +kernel
theorem d_X2_readLand_86 : decode cX2_readLand 86 = .ok (.iconst 3, 1) := by decide +kernel
theorem d_X2_readLand_87 : decode cX2_readLand 87 = .ok (.aload_n 0, 1) := by decide +kernel
theorem d_X2_readLand_88 : decode cX2_readLand 88 = .ok (.getfield 27, 3) := by decide +kernel
theorem d_X2_readLand_91 : decode cX2_readLand 91 = .ok (.invokevirtual 79, 3) := by decide +kernel
theorem d_X2_readLand_94 : decode cX2_readLand 94 = .ok (.ireturn, 1) := by decide +kernel
theorem d_X2_readLand_95 : decode cX2_readLand 95 = .ok (.aload_n 0, 1) := by decide +kernel
theorem d_X2_readLand_96 : decode cX2_readLand 96 = .ok (.getfield 56, 3) := by decide +kernel
theorem d_X2_readLand_99 : decode cX2_readLand 99 = .ok (.getfield 159, 3) := by decide +kernel
theorem d_X2_readLand_102 : decode cX2_readLand 102 = .ok (.aload_n 0, 1) := by decide +kernel
theorem d_X2_readLand_103 : decode cX2_readLand 103 = .ok (.getfield 24, 3) := by decide +kernel
theorem d_X2_readLand_106 : decode cX2_readLand 106 = .ok (.iconst 1, 1) := by decide +kernel
theorem d_X2_readLand_107 : decode cX2_readLand 107 = .ok (.invokestatic 162, 3) := by decide +kernel
theorem d_X2_readLand_110 : decode cX2_readLand 110 = .ok (.aload_n 0, 1) := by decide +kernel
theorem d_X2_readLand_111 : decode cX2_readLand 111 = .ok (.invokevirtual 110, 3) := by decide +kernel
theorem d_X2_readLand_114 : decode cX2_readLand 114 = .ok (.ireturn, 1) := by decide +kernel
abbrev rm_X2_readLand : Room := { frames := 3, cells := 0, slots := 0, locals := 65 }
set_option maxHeartbeats 4000000 in
set_option maxRecDepth 20000 in
theorem c_X2_readLand_62 {x : Cx} {b : Wy} (o : Ok x (wC b) cX2_readLand 3 RX2 (some .boolean) rm_X2_readLand)  {K : Int32 → Sg → Prop}   : ∀ (l1 : Int32) (k0 : Int32) (σ : Sg), m_X2_readLand_j62  K  l1 k0 σ → J x (wC b) (FinC x (wC b) (PZ K) (0, 0)) 62 [(0, .ref (wB (wC b) + 18)), (1, .int l1)] [.int k0] (0, 0) σ := by
  intro l1 k0 σ  h
  unfold m_X2_readLand_j62 at h
  refine J_istore_n (lv' := [(2, .int k0), (0, .ref (wB (wC b) + 18)), (1, .int l1)]) o d_X2_readLand_62 (by decide) rfl ?_
  refine J_iload_n o 2 d_X2_readLand_63 rfl ?_
  refine J_if_ne o 85 d_X2_readLand_64 rfl (fun c64 => ?_) (fun c64 => ?_)
  · replace h := h.1 c64
    refine J_aload_n o 1 d_X2_readLand_85 rfl ?_
    refine J_iconst (v := 3) o d_X2_readLand_86 iconst_3 ?_
    refine J_aload_n o 1 d_X2_readLand_87 rfl ?_
    refine J_getI o fl_RX2_27 rfl (Nat.le_of_ble_eq_true rfl) (Nat.le_of_ble_eq_true rfl) rfl d_X2_readLand_88 ?_
    refine J_callV (k := 18) (c := 2) o [.int 3, .int (σ 18 7)] rfl (by decide) (Nat.le_of_ble_eq_true rfl) (Nat.le_of_ble_eq_true rfl) mth_X2_fail iv_X2_fail ml_RX2_79 ⟨Nat.le_of_ble_eq_true rfl, Nat.le_of_ble_eq_true rfl⟩ rfl rfl (Nat.le_of_ble_eq_true rfl) ⟨Nat.le_refl _, Nat.le_refl _⟩ d_X2_readLand_91 (w_X2_fail (xL x) b  h) (aZ (fun r91 s91 hzr91 h => ?_))
    exact J_zret o hzr91 d_X2_readLand_94 ⟨_, rfl, hzr91, h⟩
  · replace h := h.2 c64
    refine J_iload_n o 0 d_X2_readLand_67 rfl ?_
    refine J_if_ne o 85 d_X2_readLand_68 rfl (fun c68 => ?_) (fun c68 => ?_)
    · replace h := h.1 c68
      refine J_aload_n o 1 d_X2_readLand_85 rfl ?_
      refine J_iconst (v := 3) o d_X2_readLand_86 iconst_3 ?_
      refine J_aload_n o 1 d_X2_readLand_87 rfl ?_
      refine J_getI o fl_RX2_27 rfl (Nat.le_of_ble_eq_true rfl) (Nat.le_of_ble_eq_true rfl) rfl d_X2_readLand_88 ?_
      refine J_callV (k := 18) (c := 2) o [.int 3, .int (σ 18 7)] rfl (by decide) (Nat.le_of_ble_eq_true rfl) (Nat.le_of_ble_eq_true rfl) mth_X2_fail iv_X2_fail ml_RX2_79 ⟨Nat.le_of_ble_eq_true rfl, Nat.le_of_ble_eq_true rfl⟩ rfl rfl (Nat.le_of_ble_eq_true rfl) ⟨Nat.le_refl _, Nat.le_refl _⟩ d_X2_readLand_91 (w_X2_fail (xL x) b  h) (aZ (fun r91 s91 hzr91 h => ?_))
      exact J_zret o hzr91 d_X2_readLand_94 ⟨_, rfl, hzr91, h⟩
    · replace h := h.2 c68
      refine J_aload_n o 1 d_X2_readLand_71 rfl ?_
      refine J_getR (t := 10) o fl_RX2_56 rfl (Nat.le_of_ble_eq_true rfl) (Nat.le_of_ble_eq_true rfl) rfl rfl d_X2_readLand_72 ?_
      refine J_aload_n o 1 d_X2_readLand_75 rfl ?_
      refine J_getI o fl_RX2_24 rfl (Nat.le_of_ble_eq_true rfl) (Nat.le_of_ble_eq_true rfl) rfl d_X2_readLand_76 ?_
      refine J_callV (k := 10) (c := 3) o [.int (σ 18 6)] (W_kd W_10) (by decide) (Nat.zero_le _) (W_hi W_10) mth_X3_isTaken iv_X3_isTaken ml_RX2_155 ⟨Nat.le_of_ble_eq_true rfl, Nat.le_of_ble_eq_true rfl⟩ rfl rfl (Nat.le_of_ble_eq_true rfl) ⟨Nat.le_refl _, Nat.le_refl _⟩ d_X2_readLand_79 (w_X3_isTaken (xL x) b W_10 h) (aZ (fun r79 s79 hzr79 h => ?_))
      refine J_if_eq o 95 d_X2_readLand_82 rfl (fun c82 => ?_) (fun c82 => ?_)
      · replace h := h.1 c82
        refine J_aload_n o 1 d_X2_readLand_95 rfl ?_
        refine J_getR (t := 10) o fl_RX2_56 rfl (Nat.le_of_ble_eq_true rfl) (Nat.le_of_ble_eq_true rfl) rfl rfl d_X2_readLand_96 ?_
        refine J_getR (t := (10 + 3)) o fl_RX2_159 (W_kd W_10) (Nat.zero_le _) (W_hi W_10) rfl (W_t W_10 12 (by decide)) d_X2_readLand_99 ?_
        refine J_aload_n o 1 d_X2_readLand_102 rfl ?_
        refine J_getI o fl_RX2_24 rfl (Nat.le_of_ble_eq_true rfl) (Nat.le_of_ble_eq_true rfl) rfl d_X2_readLand_103 ?_
        refine J_iconst (v := 1) o d_X2_readLand_106 iconst_1 ?_
        refine J_callSN o [.ref (wB (wC b) + (10 + 3)), .int (s79 18 6), .int 1] mth_X4_write st_X4_write mn_RX2_162 ⟨Nat.le_of_ble_eq_true rfl, Nat.le_of_ble_eq_true rfl⟩ rfl rfl (Nat.le_of_ble_eq_true rfl) ⟨Nat.le_refl _, Nat.le_refl _⟩ d_X2_readLand_107 (w_X4_write (xL x) b (W_A3 W_10) h) (aV (fun s107 h => ?_))
        refine J_aload_n o 1 d_X2_readLand_110 rfl ?_
        refine J_callV (k := 18) (c := 2) o [] rfl (by decide) (Nat.le_of_ble_eq_true rfl) (Nat.le_of_ble_eq_true rfl) mth_X2_readEnd iv_X2_readEnd ml_RX2_110 ⟨Nat.le_of_ble_eq_true rfl, Nat.le_of_ble_eq_true rfl⟩ rfl rfl (Nat.le_of_ble_eq_true rfl) ⟨Nat.le_refl _, Nat.le_refl _⟩ d_X2_readLand_111 (w_X2_readEnd (xL x) b  h) (aZ (fun r111 s111 hzr111 h => ?_))
        exact J_zret o hzr111 d_X2_readLand_114 ⟨_, rfl, hzr111, h⟩
      · replace h := h.2 c82
        refine J_aload_n o 1 d_X2_readLand_85 rfl ?_
        refine J_iconst (v := 3) o d_X2_readLand_86 iconst_3 ?_
        refine J_aload_n o 1 d_X2_readLand_87 rfl ?_
        refine J_getI o fl_RX2_27 rfl (Nat.le_of_ble_eq_true rfl) (Nat.le_of_ble_eq_true rfl) rfl d_X2_readLand_88 ?_
        refine J_callV (k := 18) (c := 2) o [.int 3, .int (s79 18 7)] rfl (by decide) (Nat.le_of_ble_eq_true rfl) (Nat.le_of_ble_eq_true rfl) mth_X2_fail iv_X2_fail ml_RX2_79 ⟨Nat.le_of_ble_eq_true rfl, Nat.le_of_ble_eq_true rfl⟩ rfl rfl (Nat.le_of_ble_eq_true rfl) ⟨Nat.le_refl _, Nat.le_refl _⟩ d_X2_readLand_91 (w_X2_fail (xL x) b  h) (aZ (fun r91 s91 hzr91 h => ?_))
        exact J_zret o hzr91 d_X2_readLand_94 ⟨_, rfl, hzr91, h⟩
set_option maxHeartbeats 4000000 in
set_option maxRecDepth 20000 in
theorem c_X2_readLand_35 {x : Cx} {b : Wy} (o : Ok x (wC b) cX2_readLand 3 RX2 (some .boolean) rm_X2_readLand)  {K : Int32 → Sg → Prop}   : ∀ (k0 : Int32) (σ : Sg), m_X2_readLand_j35  K  k0 σ → J x (wC b) (FinC x (wC b) (PZ K) (0, 0)) 35 [(0, .ref (wB (wC b) + 18))] [.int k0] (0, 0) σ := by
  intro k0 σ  h
  unfold m_X2_readLand_j35 at h
  refine J_istore_n (lv' := [(1, .int k0), (0, .ref (wB (wC b) + 18))]) o d_X2_readLand_35 (by decide) rfl ?_
  refine J_aload_n o 1 d_X2_readLand_36 rfl ?_
  refine J_getI o fl_RX2_43 rfl (Nat.le_of_ble_eq_true rfl) (Nat.le_of_ble_eq_true rfl) rfl d_X2_readLand_37 ?_
  refine J_if_eq o 61 d_X2_readLand_40 rfl (fun c40 => ?_) (fun c40 => ?_)
  · replace h := h.1 c40
    refine J_iconst (v := 0) o d_X2_readLand_61 iconst_0 ?_
    refine J_sub [1, 0] rfl ?_
    exact c_X2_readLand_62 o   k0 0 σ  h
  · replace h := h.2 c40
    refine J_aload_n o 1 d_X2_readLand_43 rfl ?_
    refine J_getR (t := 10) o fl_RX2_56 rfl (Nat.le_of_ble_eq_true rfl) (Nat.le_of_ble_eq_true rfl) rfl rfl d_X2_readLand_44 ?_
    refine J_getI o fl_RX2_153 (W_kd W_10) (Nat.zero_le _) (W_hi W_10) rfl d_X2_readLand_47 ?_
    refine J_aload_n o 1 d_X2_readLand_50 rfl ?_
    refine J_getI o fl_RX2_24 rfl (Nat.le_of_ble_eq_true rfl) (Nat.le_of_ble_eq_true rfl) rfl d_X2_readLand_51 ?_
    refine J_icmp_ne o 61 d_X2_readLand_54 rfl (fun c54 => ?_) (fun c54 => ?_)
    · replace h := h.1 c54
      refine J_iconst (v := 0) o d_X2_readLand_61 iconst_0 ?_
      refine J_sub [1, 0] rfl ?_
      exact c_X2_readLand_62 o   k0 0 σ  h
    · replace h := h.2 c54
      refine J_iconst (v := 1) o d_X2_readLand_57 iconst_1 ?_
      refine J_goto o 62 d_X2_readLand_58 rfl ?_
      refine J_sub [1, 0] rfl ?_
      exact c_X2_readLand_62 o   k0 1 σ  h
set_option maxHeartbeats 4000000 in
set_option maxRecDepth 20000 in
theorem w_X2_readLand (l : Launch) (b : Wy)  {σ : Sg} {K : Int32 → Sg → Prop}  (h : m_X2_readLand  σ K) : Ct l (wC b) yX2_readLand cX2_readLand 3 (some .boolean) rm_X2_readLand [.ref (wB (wC b) + 18)] σ (PZ K) := by
  unfold m_X2_readLand at h
  refine Ct.of (own := RX2) (by decide +kernel) rfl (Nat.le_of_ble_eq_true rfl) (fun x hx o => ?_)
  subst hx
  show J x (wC b) (FinC x (wC b) (PZ K) (0, 0)) 0 [(0, .ref (wB (wC b) + 18))] [] (0, 0) σ
  refine J_aload_n o 0 d_X2_readLand_0 rfl ?_
  refine J_callV (k := 18) (c := 2) o [] rfl (by decide) (Nat.le_of_ble_eq_true rfl) (Nat.le_of_ble_eq_true rfl) mth_X2_readCell iv_X2_readCell ml_RX2_148 ⟨Nat.le_of_ble_eq_true rfl, Nat.le_of_ble_eq_true rfl⟩ rfl rfl (Nat.le_of_ble_eq_true rfl) ⟨Nat.le_refl _, Nat.le_refl _⟩ d_X2_readLand_1 (w_X2_readCell (xL x) b  h) (aZ (fun r1 s1 hzr1 h => ?_))
  refine J_if_ne o 9 d_X2_readLand_4 rfl (fun c4 => ?_) (fun c4 => ?_)
  · replace h := h.1 c4
    refine J_aload_n o 0 d_X2_readLand_9 rfl ?_
    refine J_getI o fl_RX2_39 rfl (Nat.le_of_ble_eq_true rfl) (Nat.le_of_ble_eq_true rfl) rfl d_X2_readLand_10 ?_
    refine J_if_eq o 34 d_X2_readLand_13 rfl (fun c13 => ?_) (fun c13 => ?_)
    · replace h := h.1 c13
      refine J_iconst (v := 0) o d_X2_readLand_34 iconst_0 ?_
      exact c_X2_readLand_35 o   0 s1  h
    · replace h := h.2 c13
      refine J_aload_n o 0 d_X2_readLand_16 rfl ?_
      refine J_getR (t := 10) o fl_RX2_56 rfl (Nat.le_of_ble_eq_true rfl) (Nat.le_of_ble_eq_true rfl) rfl rfl d_X2_readLand_17 ?_
      refine J_getI o fl_RX2_151 (W_kd W_10) (Nat.zero_le _) (W_hi W_10) rfl d_X2_readLand_20 ?_
      refine J_aload_n o 0 d_X2_readLand_23 rfl ?_
      refine J_getI o fl_RX2_24 rfl (Nat.le_of_ble_eq_true rfl) (Nat.le_of_ble_eq_true rfl) rfl d_X2_readLand_24 ?_
      refine J_icmp_ne o 34 d_X2_readLand_27 rfl (fun c27 => ?_) (fun c27 => ?_)
      · replace h := h.1 c27
        refine J_iconst (v := 0) o d_X2_readLand_34 iconst_0 ?_
        exact c_X2_readLand_35 o   0 s1  h
      · replace h := h.2 c27
        refine J_iconst (v := 1) o d_X2_readLand_30 iconst_1 ?_
        refine J_goto o 35 d_X2_readLand_31 rfl ?_
        exact c_X2_readLand_35 o   1 s1  h
  · replace h := h.2 c4
    refine J_iconst (v := 0) o d_X2_readLand_7 iconst_0 ?_
    exact J_zret o (Or.inl rfl) d_X2_readLand_8 ⟨_, rfl, (Or.inl rfl), h⟩
theorem d_X2_wordOf_0 : decode cX2_wordOf 0 = .ok (.iload_n 0, 1) := by decide +kernel
theorem d_X2_wordOf_1 : decode cX2_wordOf 1 = .ok (.tableswitch 71 1 8 #[47, 50, 53, 56, 59, 62, 65, 68], 47) := by decide +kernel
theorem d_X2_wordOf_48 : decode cX2_wordOf 48 = .ok (.ldc 221, 2) := by decide +kernel
theorem d_X2_wordOf_50 : decode cX2_wordOf 50 = .ok (.areturn, 1) := by decide +kernel
theorem d_X2_wordOf_51 : decode cX2_wordOf 51 = .ok (.ldc 223, 2) := by decide +kernel
theorem d_X2_wordOf_53 : decode cX2_wordOf 53 = .ok (.areturn, 1) := by decide +kernel
theorem d_X2_wordOf_54 : decode cX2_wordOf 54 = .ok (.ldc 225, 2) := by decide +kernel
theorem d_X2_wordOf_56 : decode cX2_wordOf 56 = .ok (.areturn, 1) := by decide +kernel
theorem d_X2_wordOf_57 : decode cX2_wordOf 57 = .ok (.ldc 227, 2) := by decide +kernel
theorem d_X2_wordOf_59 : decode cX2_wordOf 59 = .ok (.areturn, 1) := by decide +kernel
theorem d_X2_wordOf_60 : decode cX2_wordOf 60 = .ok (.ldc 229, 2) := by decide +kernel
theorem d_X2_wordOf_62 : decode cX2_wordOf 62 = .ok (.areturn, 1) := by decide +kernel
theorem d_X2_wordOf_63 : decode cX2_wordOf 63 = .ok (.ldc 231, 2) := by decide +kernel
theorem d_X2_wordOf_65 : decode cX2_wordOf 65 = .ok (.areturn, 1) := by decide +kernel
theorem d_X2_wordOf_66 : decode cX2_wordOf 66 = .ok (.ldc 233, 2) := by decide +kernel
theorem d_X2_wordOf_68 : decode cX2_wordOf 68 = .ok (.areturn, 1) := by decide +kernel
theorem d_X2_wordOf_69 : decode cX2_wordOf 69 = .ok (.ldc 235, 2) := by decide +kernel
theorem d_X2_wordOf_71 : decode cX2_wordOf 71 = .ok (.areturn, 1) := by decide +kernel
theorem d_X2_wordOf_72 : decode cX2_wordOf 72 = .ok (.ldc 237, 2) := by decide +kernel
theorem d_X2_wordOf_74 : decode cX2_wordOf 74 = .ok (.areturn, 1) := by decide +kernel
abbrev rm_X2_wordOf : Room := { frames := 0, cells := 0, slots := 0, locals := 0 }
set_option maxHeartbeats 4000000 in
set_option maxRecDepth 20000 in
theorem w_X2_wordOf (l : Launch) (b : Wy) {v0 : Int32} {σ : Sg} {K : Nat → Sg → Prop}  (h : m_X2_wordOf v0 σ K) : Ct l (wC b) yX2_wordOf cX2_wordOf 1 (some (.object "java/lang/String")) rm_X2_wordOf [.int v0] σ (PS (wC b) K) := by
  unfold m_X2_wordOf at h
  refine Ct.of (own := RX2) (by decide +kernel) rfl (Nat.le_of_ble_eq_true rfl) (fun x hx o => ?_)
  subst hx
  show J x (wC b) (FinC x (wC b) (PS (wC b) K) (0, 0)) 0 [(0, .int v0)] [] (0, 0) σ
  refine J_iload_n o 0 d_X2_wordOf_0 rfl ?_
  rcases tsw1_8 v0 with c1 | c1 | c1 | c1 | c1 | c1 | c1 | c1 | c1
  · replace h := h.1 c1
    refine J_tswOut o 72 d_X2_wordOf_1 (tswO1_8 c1) rfl ?_
    refine J_ldcS (i := 12) (tx := "o") o (List.mem_of_getElem? (i := 12) rfl) d_X2_wordOf_72 ?_
    exact J_aret o (Or.inl ⟨_, rfl⟩) d_X2_wordOf_74 ⟨_, rfl, (Nat.le_of_ble_eq_true rfl), h⟩
  · replace h := h.2.1 c1
    refine J_tswIn o 1 c1 48 d_X2_wordOf_1 (by decide) (by decide) rfl rfl ?_
    refine J_ldcS (i := 4) (tx := "n") o (List.mem_of_getElem? (i := 4) rfl) d_X2_wordOf_48 ?_
    exact J_aret o (Or.inl ⟨_, rfl⟩) d_X2_wordOf_50 ⟨_, rfl, (Nat.le_of_ble_eq_true rfl), h⟩
  · replace h := h.2.2.1 c1
    refine J_tswIn o 2 c1 51 d_X2_wordOf_1 (by decide) (by decide) rfl rfl ?_
    refine J_ldcS (i := 5) (tx := "ne") o (List.mem_of_getElem? (i := 5) rfl) d_X2_wordOf_51 ?_
    exact J_aret o (Or.inl ⟨_, rfl⟩) d_X2_wordOf_53 ⟨_, rfl, (Nat.le_of_ble_eq_true rfl), h⟩
  · replace h := h.2.2.2.1 c1
    refine J_tswIn o 3 c1 54 d_X2_wordOf_1 (by decide) (by decide) rfl rfl ?_
    refine J_ldcS (i := 6) (tx := "e") o (List.mem_of_getElem? (i := 6) rfl) d_X2_wordOf_54 ?_
    exact J_aret o (Or.inl ⟨_, rfl⟩) d_X2_wordOf_56 ⟨_, rfl, (Nat.le_of_ble_eq_true rfl), h⟩
  · replace h := h.2.2.2.2.1 c1
    refine J_tswIn o 4 c1 57 d_X2_wordOf_1 (by decide) (by decide) rfl rfl ?_
    refine J_ldcS (i := 7) (tx := "se") o (List.mem_of_getElem? (i := 7) rfl) d_X2_wordOf_57 ?_
    exact J_aret o (Or.inl ⟨_, rfl⟩) d_X2_wordOf_59 ⟨_, rfl, (Nat.le_of_ble_eq_true rfl), h⟩
  · replace h := h.2.2.2.2.2.1 c1
    refine J_tswIn o 5 c1 60 d_X2_wordOf_1 (by decide) (by decide) rfl rfl ?_
    refine J_ldcS (i := 8) (tx := "s") o (List.mem_of_getElem? (i := 8) rfl) d_X2_wordOf_60 ?_
    exact J_aret o (Or.inl ⟨_, rfl⟩) d_X2_wordOf_62 ⟨_, rfl, (Nat.le_of_ble_eq_true rfl), h⟩
  · replace h := h.2.2.2.2.2.2.1 c1
    refine J_tswIn o 6 c1 63 d_X2_wordOf_1 (by decide) (by decide) rfl rfl ?_
    refine J_ldcS (i := 9) (tx := "sw") o (List.mem_of_getElem? (i := 9) rfl) d_X2_wordOf_63 ?_
    exact J_aret o (Or.inl ⟨_, rfl⟩) d_X2_wordOf_65 ⟨_, rfl, (Nat.le_of_ble_eq_true rfl), h⟩
  · replace h := h.2.2.2.2.2.2.2.1 c1
    refine J_tswIn o 7 c1 66 d_X2_wordOf_1 (by decide) (by decide) rfl rfl ?_
    refine J_ldcS (i := 10) (tx := "w") o (List.mem_of_getElem? (i := 10) rfl) d_X2_wordOf_66 ?_
    exact J_aret o (Or.inl ⟨_, rfl⟩) d_X2_wordOf_68 ⟨_, rfl, (Nat.le_of_ble_eq_true rfl), h⟩
  · replace h := h.2.2.2.2.2.2.2.2 c1
    refine J_tswIn o 8 c1 69 d_X2_wordOf_1 (by decide) (by decide) rfl rfl ?_
    refine J_ldcS (i := 11) (tx := "nw") o (List.mem_of_getElem? (i := 11) rfl) d_X2_wordOf_69 ?_
    exact J_aret o (Or.inl ⟨_, rfl⟩) d_X2_wordOf_71 ⟨_, rfl, (Nat.le_of_ble_eq_true rfl), h⟩
theorem d_X2_isDirection_0 : decode cX2_isDirection 0 = .ok (.iconst 0, 1) := by decide +kernel
theorem d_X2_isDirection_1 : decode cX2_isDirection 1 = .ok (.istore_n 1, 1) := by decide +kernel
theorem d_X2_isDirection_2 : decode cX2_isDirection 2 = .ok (.iload_n 1, 1) := by decide +kernel
theorem d_X2_isDirection_3 : decode cX2_isDirection 3 = .ok (.bipush 9, 2) := by decide +kernel
theorem d_X2_isDirection_5 : decode cX2_isDirection 5 = .ok (.if_icmp .ge 27, 3) := by decide +kernel
theorem d_X2_isDirection_8 : decode cX2_isDirection 8 = .ok (.aload_n 0, 1) := by decide +kernel
theorem d_X2_isDirection_9 : decode cX2_isDirection 9 = .ok (.iload_n 1, 1) := by decide +kernel
theorem d_X2_isDirection_10 : decode cX2_isDirection 10 = .ok (.invokestatic 217, 3) := by decide +kernel
theorem d_X2_isDirection_13 : decode cX2_isDirection 13 = .ok (.invokevirtual 97, 3) := by decide +kernel
theorem d_X2_isDirection_16 : decode cX2_isDirection 16 = .ok (.ifCond .eq 10, 3) := by decide +kernel
theorem d_X2_isDirection_19 : decode cX2_isDirection 19 = .ok (.aload_n 0, 1) := by decide +kernel
theorem d_X2_isDirection_20 : decode cX2_isDirection 20 = .ok (.iload_n 1, 1) := by decide +kernel
theorem d_X2_isDirection_21 : decode cX2_isDirection 21 = .ok (.putfield 21, 3) := by decide +kernel
theorem d_X2_isDirection_24 : decode cX2_isDirection 24 = .ok (.iconst 1, 1) := by decide +kernel
theorem d_X2_isDirection_25 : decode cX2_isDirection 25 = .ok (.ireturn, 1) := by decide +kernel
theorem d_X2_isDirection_26 : decode cX2_isDirection 26 = .ok (.iinc 1 1, 3) := by decide +kernel
theorem d_X2_isDirection_29 : decode cX2_isDirection 29 = .ok (.goto (-27), 3) := by decide +kernel
theorem d_X2_isDirection_32 : decode cX2_isDirection 32 = .ok (.aload_n 0, 1) := by decide +kernel
theorem d_X2_isDirection_33 : decode cX2_isDirection 33 = .ok (.iconst 1, 1) := by decide +kernel
theorem d_X2_isDirection_34 : decode cX2_isDirection 34 = .ok (.aload_n 0, 1) := by decide +kernel
theorem d_X2_isDirection_35 : decode cX2_isDirection 35 = .ok (.getfield 18, 3) := by decide +kernel
theorem d_X2_isDirection_38 : decode cX2_isDirection 38 = .ok (.invokevirtual 79, 3) := by decide +kernel
theorem d_X2_isDirection_41 : decode cX2_isDirection 41 = .ok (.ireturn, 1) := by decide +kernel
abbrev rm_X2_isDirection : Room := { frames := 5, cells := 0, slots := 0, locals := 108 }
set_option maxHeartbeats 4000000 in
set_option maxRecDepth 20000 in
theorem c_X2_isDirection_2 {x : Cx} {b : Wy} (o : Ok x (wC b) cX2_isDirection 2 RX2 (some .boolean) rm_X2_isDirection)  {K : Int32 → Sg → Prop}   : ∀ (n : Nat) (l1 : Int32) (σ : Sg), m_X2_isDirection_l2  K  n l1 σ → J x (wC b) (FinC x (wC b) (PZ K) (0, 0)) 2 [(0, .ref (wB (wC b) + 18)), (1, .int l1)] [] (0, 0) σ := by
  intro n
  induction n with
  | zero =>
    intro l1 σ  h
    exact False.elim h
  | succ n ih =>
    intro l1 σ  h
    unfold m_X2_isDirection_l2 at h
    refine J_iload_n o 1 d_X2_isDirection_2 rfl ?_
    refine J_bipush (v := 9) o d_X2_isDirection_3 bipush_9 ?_
    refine J_icmp_ge o 32 d_X2_isDirection_5 rfl (fun c5 => ?_) (fun c5 => ?_)
    · replace h := h.1 c5
      refine J_aload_n o 0 d_X2_isDirection_32 rfl ?_
      refine J_iconst (v := 1) o d_X2_isDirection_33 iconst_1 ?_
      refine J_aload_n o 0 d_X2_isDirection_34 rfl ?_
      refine J_getI o fl_RX2_18 rfl (Nat.le_of_ble_eq_true rfl) (Nat.le_of_ble_eq_true rfl) rfl d_X2_isDirection_35 ?_
      refine J_callV (k := 18) (c := 2) o [.int 1, .int (σ 18 4)] rfl (by decide) (Nat.le_of_ble_eq_true rfl) (Nat.le_of_ble_eq_true rfl) mth_X2_fail iv_X2_fail ml_RX2_79 ⟨Nat.le_of_ble_eq_true rfl, Nat.le_of_ble_eq_true rfl⟩ rfl rfl (Nat.le_of_ble_eq_true rfl) ⟨Nat.le_refl _, Nat.le_refl _⟩ d_X2_isDirection_38 (w_X2_fail (xL x) b  h) (aZ (fun r38 s38 hzr38 h => ?_))
      exact J_zret o hzr38 d_X2_isDirection_41 ⟨_, rfl, hzr38, h⟩
    · replace h := h.2 c5
      refine J_aload_n o 0 d_X2_isDirection_8 rfl ?_
      refine J_iload_n o 1 d_X2_isDirection_9 rfl ?_
      refine J_callS o [.int l1] mth_X2_wordOf st_X2_wordOf ml_RX2_217 ⟨Nat.le_of_ble_eq_true rfl, Nat.le_of_ble_eq_true rfl⟩ rfl rfl (Nat.le_of_ble_eq_true rfl) ⟨Nat.le_refl _, Nat.le_refl _⟩ d_X2_isDirection_10 (w_X2_wordOf (xL x) b  h) (aS (fun r10 s10 hr10 h => ?_))
      refine J_callV (k := 18) (c := 2) o [.ref (wK (wC b) r10)] rfl (by decide) (Nat.le_of_ble_eq_true rfl) (Nat.le_of_ble_eq_true rfl) mth_X2_isWord iv_X2_isWord ml_RX2_97 ⟨Nat.le_of_ble_eq_true rfl, Nat.le_of_ble_eq_true rfl⟩ rfl rfl (Nat.le_of_ble_eq_true rfl) ⟨Nat.le_refl _, Nat.le_refl _⟩ d_X2_isDirection_13 (w_X2_isWord (xL x) b hr10 h) (aZ (fun r13 s13 hzr13 h => ?_))
      refine J_if_eq o 26 d_X2_isDirection_16 rfl (fun c16 => ?_) (fun c16 => ?_)
      · replace h := h.1 c16
        refine J_iinc (lv' := [(1, .int (l1 + 1)), (0, .ref (wB (wC b) + 18))]) o 1 d_X2_isDirection_26 (by decide) rfl iconst_1 rfl ?_
        refine J_goto o 2 d_X2_isDirection_29 rfl ?_
        refine J_sub [1, 0] rfl ?_
        exact ih (l1 + 1) s13  h
      · replace h := h.2 c16
        refine J_aload_n o 0 d_X2_isDirection_19 rfl ?_
        refine J_iload_n o 1 d_X2_isDirection_20 rfl ?_
        refine J_put o fl_RX2_21 la_2 rfl (Nat.le_of_ble_eq_true rfl) (Nat.le_of_ble_eq_true rfl) rfl rfl rfl rfl d_X2_isDirection_21 ?_
        refine J_nS (fun s21 es21 => ?_)
        replace h := h s21 es21
        refine J_iconst (v := 1) o d_X2_isDirection_24 iconst_1 ?_
        exact J_zret o (Or.inr rfl) d_X2_isDirection_25 ⟨_, rfl, (Or.inr rfl), h⟩
set_option maxHeartbeats 4000000 in
set_option maxRecDepth 20000 in
theorem w_X2_isDirection (l : Launch) (b : Wy)  {σ : Sg} {K : Int32 → Sg → Prop}  (h : m_X2_isDirection  σ K) : Ct l (wC b) yX2_isDirection cX2_isDirection 2 (some .boolean) rm_X2_isDirection [.ref (wB (wC b) + 18)] σ (PZ K) := by
  unfold m_X2_isDirection at h
  refine Ct.of (own := RX2) (by decide +kernel) rfl (Nat.le_of_ble_eq_true rfl) (fun x hx o => ?_)
  subst hx
  show J x (wC b) (FinC x (wC b) (PZ K) (0, 0)) 0 [(0, .ref (wB (wC b) + 18))] [] (0, 0) σ
  refine J_iconst (v := 0) o d_X2_isDirection_0 iconst_0 ?_
  refine J_istore_n (lv' := [(1, .int 0), (0, .ref (wB (wC b) + 18))]) o d_X2_isDirection_1 (by decide) rfl ?_
  refine J_sub [1, 0] rfl ?_
  obtain ⟨n9, h⟩ := h
  exact c_X2_isDirection_2 o   n9 0 σ  h
theorem d_X2_readCurrent_0 : decode cX2_readCurrent 0 = .ok (.aload_n 0, 1) := by decide +kernel
theorem d_X2_readCurrent_1 : decode cX2_readCurrent 1 = .ok (.invokevirtual 148, 3) := by decide +kernel
theorem d_X2_readCurrent_4 : decode cX2_readCurrent 4 = .ok (.ifCond .ne 5, 3) := by decide +kernel
theorem d_X2_readCurrent_7 : decode cX2_readCurrent 7 = .ok (.iconst 0, 1) := by decide +kernel
theorem d_X2_readCurrent_8 : decode cX2_readCurrent 8 = .ok (.ireturn, 1) := by decide +kernel
theorem d_X2_readCurrent_9 : decode cX2_readCurrent 9 = .ok (.aload_n 0, 1) := by decide +kernel
theorem d_X2_readCurrent_10 : decode cX2_readCurrent 10 = .ok (.getfield 56, 3) := by decide +kernel
theorem d_X2_readCurrent_13 : decode cX2_readCurrent 13 = .ok (.aload_n 0, 1) := by decide +kernel
theorem d_X2_readCurrent_14 : decode cX2_readCurrent 14 = .ok (.getfield 24, 3) := by decide +kernel
theorem d_X2_readCurrent_17 : decode cX2_readCurrent 17 = .ok (.invokevirtual 166, 3) := by decide +kernel
theorem d_X2_readCurrent_20 : decode cX2_readCurrent 20 = .ok (.istore_n 1, 1) := by decide +kernel
theorem d_X2_readCurrent_21 : decode cX2_readCurrent 21 = .ok (.aload_n 0, 1) := by decide +kernel
theorem d_X2_readCurrent_22 : decode cX2_readCurrent 22 = .ok (.getfield 56, 3) := by decide +kernel
theorem d_X2_readCurrent_25 : decode cX2_readCurrent 25 = .ok (.aload_n 0, 1) := by decide +kernel
theorem d_X2_readCurrent_26 : decode cX2_readCurrent 26 = .ok (.getfield 24, 3) := by decide +kernel
theorem d_X2_readCurrent_29 : decode cX2_readCurrent 29 = .ok (.invokevirtual 170, 3) := by decide +kernel
theorem d_X2_readCurrent_32 : decode cX2_readCurrent 32 = .ok (.istore_n 2, 1) := by decide +kernel
theorem d_X2_readCurrent_33 : decode cX2_readCurrent 33 = .ok (.aload_n 0, 1) := by decide +kernel
theorem d_X2_readCurrent_34 : decode cX2_readCurrent 34 = .ok (.iload_n 1, 1) := by decide +kernel
theorem d_X2_readCurrent_35 : decode cX2_readCurrent 35 = .ok (.aload_n 0, 1) := by decide +kernel
theorem d_X2_readCurrent_36 : decode cX2_readCurrent 36 = .ok (.getfield 56, 3) := by decide +kernel
theorem d_X2_readCurrent_39 : decode cX2_readCurrent 39 = .ok (.getfield 104, 3) := by decide +kernel
theorem d_X2_readCurrent_42 : decode cX2_readCurrent 42 = .ok (.iconst 1, 1) := by decide +kernel
theorem d_X2_readCurrent_43 : decode cX2_readCurrent 43 = .ok (.isub, 1) := by decide +kernel
theorem d_X2_readCurrent_44 : decode cX2_readCurrent 44 = .ok (.invokevirtual 101, 3) := by decide +kernel
theorem d_X2_readCurrent_47 : decode cX2_readCurrent 47 = .ok (.ifCond .ne 5, 3) := by decide +kernel
theorem d_X2_readCurrent_50 : decode cX2_readCurrent 50 = .ok (.iconst 0, 1) := by decide +kernel
theorem d_X2_readCurrent_51 : decode cX2_readCurrent 51 = .ok (.ireturn, 1) := by decide +kernel
theorem d_X2_readCurrent_52 : decode cX2_readCurrent 52 = .ok (.aload_n 0, 1) := by decide +kernel
theorem d_X2_readCurrent_53 : decode cX2_readCurrent 53 = .ok (.getfield 21, 3) := by decide +kernel
theorem d_X2_readCurrent_56 : decode cX2_readCurrent 56 = .ok (.istore_n 3, 1) := by decide +kernel
theorem d_X2_readCurrent_57 : decode cX2_readCurrent 57 = .ok (.aload_n 0, 1) := by decide +kernel
theorem d_X2_readCurrent_58 : decode cX2_readCurrent 58 = .ok (.iload_n 2, 1) := by decide +kernel
theorem d_X2_readCurrent_59 : decode cX2_readCurrent 59 = .ok (.aload_n 0, 1) := by decide +kernel
theorem d_X2_readCurrent_60 : decode cX2_readCurrent 60 = .ok (.getfield 56, 3) := by decide +kernel
theorem d_X2_readCurrent_63 : decode cX2_readCurrent 63 = .ok (.getfield 107, 3) := by decide +kernel
theorem d_X2_readCurrent_66 : decode cX2_readCurrent 66 = .ok (.iconst 1, 1) := by decide +kernel
theorem d_X2_readCurrent_67 : decode cX2_readCurrent 67 = .ok (.isub, 1) := by decide +kernel
theorem d_X2_readCurrent_68 : decode cX2_readCurrent 68 = .ok (.invokevirtual 101, 3) := by decide +kernel
theorem d_X2_readCurrent_71 : decode cX2_readCurrent 71 = .ok (.ifCond .ne 5, 3) := by decide +kernel
theorem d_X2_readCurrent_74 : decode cX2_readCurrent 74 = .ok (.iconst 0, 1) := by decide +kernel
theorem d_X2_readCurrent_75 : decode cX2_readCurrent 75 = .ok (.ireturn, 1) := by decide +kernel
theorem d_X2_readCurrent_76 : decode cX2_readCurrent 76 = .ok (.aload_n 0, 1) := by decide +kernel
theorem d_X2_readCurrent_77 : decode cX2_readCurrent 77 = .ok (.getfield 21, 3) := by decide +kernel
theorem d_X2_readCurrent_80 : decode cX2_readCurrent 80 = .ok (.istore 4, 2) := by decide +kernel
theorem d_X2_readCurrent_82 : decode cX2_readCurrent 82 = .ok (.aload_n 0, 1) := by decide +kernel
theorem d_X2_readCurrent_83 : decode cX2_readCurrent 83 = .ok (.invokevirtual 92, 3) := by decide +kernel
theorem d_X2_readCurrent_86 : decode cX2_readCurrent 86 = .ok (.ifCond .eq 10, 3) := by decide +kernel
theorem d_X2_readCurrent_89 : decode cX2_readCurrent 89 = .ok (.aload_n 0, 1) := by decide +kernel
theorem d_X2_readCurrent_90 : decode cX2_readCurrent 90 = .ok (.invokevirtual 173, 3) := by decide +kernel
theorem d_X2_readCurrent_93 : decode cX2_readCurrent 93 = .ok (.ifCond .ne 5, 3) := by decide +kernel
theorem d_X2_readCurrent_96 : decode cX2_readCurrent 96 = .ok (.iconst 0, 1) := by decide +kernel
theorem d_X2_readCurrent_97 : decode cX2_readCurrent 97 = .ok (.ireturn, 1) := by decide +kernel
theorem d_X2_readCurrent_98 : decode cX2_readCurrent 98 = .ok (.iload_n 2, 1) := by decide +kernel
theorem d_X2_readCurrent_99 : decode cX2_readCurrent 99 = .ok (.istore 5, 2) := by decide +kernel
theorem d_X2_readCurrent_101 : decode cX2_readCurrent 101 = .ok (.iload 5, 2) := by decide +kernel
theorem d_X2_readCurrent_103 : decode cX2_readCurrent 103 = .ok (.iload 4, 2) := by decide +kernel
theorem d_X2_readCurrent_105 : decode cX2_readCurrent 105 = .ok (.if_icmp .gt 49, 3) := by decide +kernel
theorem d_X2_readCurrent_108 : decode cX2_readCurrent 108 = .ok (.iload_n 1, 1) := by decide +kernel
theorem d_X2_readCurrent_109 : decode cX2_readCurrent 109 = .ok (.istore 6, 2) := by decide +kernel
theorem d_X2_readCurrent_111 : decode cX2_readCurrent 111 = .ok (.iload 6, 2) := by decide +kernel
theorem d_X2_readCurrent_113 : decode cX2_readCurrent 113 = .ok (.iload_n 3, 1) := by decide +kernel
theorem d_X2_readCurrent_114 : decode cX2_readCurrent 114 = .ok (.if_icmp .gt 34, 3) := by decide +kernel
theorem d_X2_readCurrent_117 : decode cX2_readCurrent 117 = .ok (.aload_n 0, 1) := by decide +kernel
theorem d_X2_readCurrent_118 : decode cX2_readCurrent 118 = .ok (.getfield 56, 3) := by decide +kernel
theorem d_X2_readCurrent_121 : decode cX2_readCurrent 121 = .ok (.getfield 176, 3) := by decide +kernel
theorem d_X2_readCurrent_124 : decode cX2_readCurrent 124 = .ok (.aload_n 0, 1) := by decide +kernel
theorem d_X2_readCurrent_125 : decode cX2_readCurrent 125 = .ok (.getfield 56, 3) := by decide +kernel
theorem d_X2_readCurrent_128 : decode cX2_readCurrent 128 = .ok (.iload 6, 2) := by decide +kernel
theorem d_X2_readCurrent_130 : decode cX2_readCurrent 130 = .ok (.iload 5, 2) := by decide +kernel
theorem d_X2_readCurrent_132 : decode cX2_readCurrent 132 = .ok (.invokevirtual 179, 3) := by decide +kernel
theorem d_X2_readCurrent_135 : decode cX2_readCurrent 135 = .ok (.aload_n 0, 1) := by decide +kernel
theorem d_X2_readCurrent_136 : decode cX2_readCurrent 136 = .ok (.getfield 21, 3) := by decide +kernel
theorem d_X2_readCurrent_139 : decode cX2_readCurrent 139 = .ok (.invokestatic 162, 3) := by decide +kernel
theorem d_X2_readCurrent_142 : decode cX2_readCurrent 142 = .ok (.iinc 6 1, 3) := by decide +kernel
theorem d_X2_readCurrent_145 : decode cX2_readCurrent 145 = .ok (.goto (-34), 3) := by decide +kernel
theorem d_X2_readCurrent_148 : decode cX2_readCurrent 148 = .ok (.iinc 5 1, 3) := by decide +kernel
theorem d_X2_readCurrent_151 : decode cX2_readCurrent 151 = .ok (.goto (-50), 3) := by decide +kernel
theorem d_X2_readCurrent_154 : decode cX2_readCurrent 154 = .ok (.aload_n 0, 1) := by decide +kernel
theorem d_X2_readCurrent_155 : decode cX2_readCurrent 155 = .ok (.invokevirtual 110, 3) := by decide +kernel
theorem d_X2_readCurrent_158 : decode cX2_readCurrent 158 = .ok (.ireturn, 1) := by decide +kernel
abbrev rm_X2_readCurrent : Room := { frames := 6, cells := 0, slots := 0, locals := 129 }
set_option maxHeartbeats 4000000 in
set_option maxRecDepth 20000 in
theorem c_X2_readCurrent_111 {x : Cx} {b : Wy} (o : Ok x (wC b) cX2_readCurrent 7 RX2 (some .boolean) rm_X2_readCurrent)  {K : Int32 → Sg → Prop}  {KO101 : Int32 → Int32 → Int32 → Int32 → Sg → Prop}  (hKO101 : ∀ (l1 : Int32) (l3 : Int32) (l4 : Int32) (l5 : Int32) (σ : Sg), KO101 l1 l3 l4 l5 σ → J x (wC b) (FinC x (wC b) (PZ K) (0, 0)) 101 [(0, .ref (wB (wC b) + 18)), (1, .int l1), (3, .int l3), (4, .int l4), (5, .int l5)] [] (0, 0) σ) : ∀ (n : Nat) (l1 : Int32) (l3 : Int32) (l4 : Int32) (l5 : Int32) (l6 : Int32) (σ : Sg), m_X2_readCurrent_l111  K KO101 n l1 l3 l4 l5 l6 σ → J x (wC b) (FinC x (wC b) (PZ K) (0, 0)) 111 [(0, .ref (wB (wC b) + 18)), (1, .int l1), (3, .int l3), (4, .int l4), (5, .int l5), (6, .int l6)] [] (0, 0) σ := by
  intro n
  induction n with
  | zero =>
    intro l1 l3 l4 l5 l6 σ  h
    exact False.elim h
  | succ n ih =>
    intro l1 l3 l4 l5 l6 σ  h
    unfold m_X2_readCurrent_l111 at h
    refine J_iload o 5 d_X2_readCurrent_111 rfl ?_
    refine J_iload_n o 2 d_X2_readCurrent_113 rfl ?_
    refine J_icmp_gt o 148 d_X2_readCurrent_114 rfl (fun c114 => ?_) (fun c114 => ?_)
    · replace h := h.1 c114
      refine J_iinc (lv' := [(5, .int (l5 + 1)), (0, .ref (wB (wC b) + 18)), (1, .int l1), (3, .int l3), (4, .int l4), (6, .int l6)]) o 4 d_X2_readCurrent_148 (by decide) rfl iconst_1 rfl ?_
      refine J_goto o 101 d_X2_readCurrent_151 rfl ?_
      refine J_sub [1, 2, 3, 4, 0] rfl ?_
      exact hKO101 l1 l3 l4 (l5 + 1) σ  h
    · replace h := h.2 c114
      refine J_aload_n o 0 d_X2_readCurrent_117 rfl ?_
      refine J_getR (t := 10) o fl_RX2_56 rfl (Nat.le_of_ble_eq_true rfl) (Nat.le_of_ble_eq_true rfl) rfl rfl d_X2_readCurrent_118 ?_
      refine J_getR (t := (10 + 4)) o fl_RX2_176 (W_kd W_10) (Nat.zero_le _) (W_hi W_10) rfl (W_t W_10 13 (by decide)) d_X2_readCurrent_121 ?_
      refine J_aload_n o 0 d_X2_readCurrent_124 rfl ?_
      refine J_getR (t := 10) o fl_RX2_56 rfl (Nat.le_of_ble_eq_true rfl) (Nat.le_of_ble_eq_true rfl) rfl rfl d_X2_readCurrent_125 ?_
      refine J_iload o 5 d_X2_readCurrent_128 rfl ?_
      refine J_iload o 4 d_X2_readCurrent_130 rfl ?_
      refine J_callV (k := 10) (c := 3) o [.int l6, .int l5] (W_kd W_10) (by decide) (Nat.zero_le _) (W_hi W_10) mth_X3_cellAt iv_X3_cellAt ml_RX2_179 ⟨Nat.le_of_ble_eq_true rfl, Nat.le_of_ble_eq_true rfl⟩ rfl rfl (Nat.le_of_ble_eq_true rfl) ⟨Nat.le_refl _, Nat.le_refl _⟩ d_X2_readCurrent_132 (w_X3_cellAt (xL x) b W_10 h) (aI (fun r132 s132 h => ?_))
      refine J_aload_n o 0 d_X2_readCurrent_135 rfl ?_
      refine J_getI o fl_RX2_21 rfl (Nat.le_of_ble_eq_true rfl) (Nat.le_of_ble_eq_true rfl) rfl d_X2_readCurrent_136 ?_
      refine J_callSN o [.ref (wB (wC b) + (10 + 4)), .int r132, .int (s132 18 5)] mth_X4_write st_X4_write mn_RX2_162 ⟨Nat.le_of_ble_eq_true rfl, Nat.le_of_ble_eq_true rfl⟩ rfl rfl (Nat.le_of_ble_eq_true rfl) ⟨Nat.le_refl _, Nat.le_refl _⟩ d_X2_readCurrent_139 (w_X4_write (xL x) b (W_A4 W_10) h) (aV (fun s139 h => ?_))
      refine J_iinc (lv' := [(6, .int (l6 + 1)), (0, .ref (wB (wC b) + 18)), (1, .int l1), (3, .int l3), (4, .int l4), (5, .int l5)]) o 5 d_X2_readCurrent_142 (by decide) rfl iconst_1 rfl ?_
      refine J_goto o 111 d_X2_readCurrent_145 rfl ?_
      refine J_sub [1, 2, 3, 4, 5, 0] rfl ?_
      exact ih l1 l3 l4 l5 (l6 + 1) s139  h
set_option maxHeartbeats 4000000 in
set_option maxRecDepth 20000 in
theorem c_X2_readCurrent_101 {x : Cx} {b : Wy} (o : Ok x (wC b) cX2_readCurrent 7 RX2 (some .boolean) rm_X2_readCurrent)  {K : Int32 → Sg → Prop}   : ∀ (n : Nat) (l1 : Int32) (l3 : Int32) (l4 : Int32) (l5 : Int32) (σ : Sg), m_X2_readCurrent_l101  K  n l1 l3 l4 l5 σ → J x (wC b) (FinC x (wC b) (PZ K) (0, 0)) 101 [(0, .ref (wB (wC b) + 18)), (1, .int l1), (3, .int l3), (4, .int l4), (5, .int l5)] [] (0, 0) σ := by
  intro n
  induction n with
  | zero =>
    intro l1 l3 l4 l5 σ  h
    exact False.elim h
  | succ n ih =>
    intro l1 l3 l4 l5 σ  h
    unfold m_X2_readCurrent_l101 at h
    refine J_iload o 4 d_X2_readCurrent_101 rfl ?_
    refine J_iload o 3 d_X2_readCurrent_103 rfl ?_
    refine J_icmp_gt o 154 d_X2_readCurrent_105 rfl (fun c105 => ?_) (fun c105 => ?_)
    · replace h := h.1 c105
      refine J_aload_n o 0 d_X2_readCurrent_154 rfl ?_
      refine J_callV (k := 18) (c := 2) o [] rfl (by decide) (Nat.le_of_ble_eq_true rfl) (Nat.le_of_ble_eq_true rfl) mth_X2_readEnd iv_X2_readEnd ml_RX2_110 ⟨Nat.le_of_ble_eq_true rfl, Nat.le_of_ble_eq_true rfl⟩ rfl rfl (Nat.le_of_ble_eq_true rfl) ⟨Nat.le_refl _, Nat.le_refl _⟩ d_X2_readCurrent_155 (w_X2_readEnd (xL x) b  h) (aZ (fun r155 s155 hzr155 h => ?_))
      exact J_zret o hzr155 d_X2_readCurrent_158 ⟨_, rfl, hzr155, h⟩
    · replace h := h.2 c105
      refine J_iload_n o 1 d_X2_readCurrent_108 rfl ?_
      refine J_istore (lv' := [(6, .int l1), (0, .ref (wB (wC b) + 18)), (1, .int l1), (3, .int l3), (4, .int l4), (5, .int l5)]) o d_X2_readCurrent_109 (by decide) rfl ?_
      refine J_sub [1, 2, 3, 4, 5, 0] rfl ?_
      obtain ⟨n9, h⟩ := h
      exact c_X2_readCurrent_111 o  ih n9 l1 l3 l4 l5 l1 σ  h
set_option maxHeartbeats 4000000 in
set_option maxRecDepth 20000 in
theorem w_X2_readCurrent (l : Launch) (b : Wy)  {σ : Sg} {K : Int32 → Sg → Prop}  (h : m_X2_readCurrent  σ K) : Ct l (wC b) yX2_readCurrent cX2_readCurrent 7 (some .boolean) rm_X2_readCurrent [.ref (wB (wC b) + 18)] σ (PZ K) := by
  unfold m_X2_readCurrent at h
  refine Ct.of (own := RX2) (by decide +kernel) rfl (Nat.le_of_ble_eq_true rfl) (fun x hx o => ?_)
  subst hx
  show J x (wC b) (FinC x (wC b) (PZ K) (0, 0)) 0 [(0, .ref (wB (wC b) + 18))] [] (0, 0) σ
  refine J_aload_n o 0 d_X2_readCurrent_0 rfl ?_
  refine J_callV (k := 18) (c := 2) o [] rfl (by decide) (Nat.le_of_ble_eq_true rfl) (Nat.le_of_ble_eq_true rfl) mth_X2_readCell iv_X2_readCell ml_RX2_148 ⟨Nat.le_of_ble_eq_true rfl, Nat.le_of_ble_eq_true rfl⟩ rfl rfl (Nat.le_of_ble_eq_true rfl) ⟨Nat.le_refl _, Nat.le_refl _⟩ d_X2_readCurrent_1 (w_X2_readCell (xL x) b  h) (aZ (fun r1 s1 hzr1 h => ?_))
  refine J_if_ne o 9 d_X2_readCurrent_4 rfl (fun c4 => ?_) (fun c4 => ?_)
  · replace h := h.1 c4
    refine J_aload_n o 0 d_X2_readCurrent_9 rfl ?_
    refine J_getR (t := 10) o fl_RX2_56 rfl (Nat.le_of_ble_eq_true rfl) (Nat.le_of_ble_eq_true rfl) rfl rfl d_X2_readCurrent_10 ?_
    refine J_aload_n o 0 d_X2_readCurrent_13 rfl ?_
    refine J_getI o fl_RX2_24 rfl (Nat.le_of_ble_eq_true rfl) (Nat.le_of_ble_eq_true rfl) rfl d_X2_readCurrent_14 ?_
    refine J_callV (k := 10) (c := 3) o [.int (s1 18 6)] (W_kd W_10) (by decide) (Nat.zero_le _) (W_hi W_10) mth_X3_xOf iv_X3_xOf ml_RX2_166 ⟨Nat.le_of_ble_eq_true rfl, Nat.le_of_ble_eq_true rfl⟩ rfl rfl (Nat.le_of_ble_eq_true rfl) ⟨Nat.le_refl _, Nat.le_refl _⟩ d_X2_readCurrent_17 (w_X3_xOf (xL x) b W_10 h) (aI (fun r17 s17 h => ?_))
    refine J_istore_n (lv' := [(1, .int r17), (0, .ref (wB (wC b) + 18))]) o d_X2_readCurrent_20 (by decide) rfl ?_
    refine J_aload_n o 1 d_X2_readCurrent_21 rfl ?_
    refine J_getR (t := 10) o fl_RX2_56 rfl (Nat.le_of_ble_eq_true rfl) (Nat.le_of_ble_eq_true rfl) rfl rfl d_X2_readCurrent_22 ?_
    refine J_aload_n o 1 d_X2_readCurrent_25 rfl ?_
    refine J_getI o fl_RX2_24 rfl (Nat.le_of_ble_eq_true rfl) (Nat.le_of_ble_eq_true rfl) rfl d_X2_readCurrent_26 ?_
    refine J_callV (k := 10) (c := 3) o [.int (s17 18 6)] (W_kd W_10) (by decide) (Nat.zero_le _) (W_hi W_10) mth_X3_yOf iv_X3_yOf ml_RX2_170 ⟨Nat.le_of_ble_eq_true rfl, Nat.le_of_ble_eq_true rfl⟩ rfl rfl (Nat.le_of_ble_eq_true rfl) ⟨Nat.le_refl _, Nat.le_refl _⟩ d_X2_readCurrent_29 (w_X3_yOf (xL x) b W_10 h) (aI (fun r29 s29 h => ?_))
    refine J_istore_n (lv' := [(2, .int r29), (1, .int r17), (0, .ref (wB (wC b) + 18))]) o d_X2_readCurrent_32 (by decide) rfl ?_
    refine J_aload_n o 2 d_X2_readCurrent_33 rfl ?_
    refine J_iload_n o 1 d_X2_readCurrent_34 rfl ?_
    refine J_aload_n o 2 d_X2_readCurrent_35 rfl ?_
    refine J_getR (t := 10) o fl_RX2_56 rfl (Nat.le_of_ble_eq_true rfl) (Nat.le_of_ble_eq_true rfl) rfl rfl d_X2_readCurrent_36 ?_
    refine J_getI o fl_RX2_104 (W_kd W_10) (Nat.zero_le _) (W_hi W_10) rfl d_X2_readCurrent_39 ?_
    refine J_iconst (v := 1) o d_X2_readCurrent_42 iconst_1 ?_
    refine J_isub o d_X2_readCurrent_43 ?_
    refine J_callV (k := 18) (c := 2) o [.int r17, .int ((s29 10 0) - 1)] rfl (by decide) (Nat.le_of_ble_eq_true rfl) (Nat.le_of_ble_eq_true rfl) mth_X2_readNumber iv_X2_readNumber ml_RX2_101 ⟨Nat.le_of_ble_eq_true rfl, Nat.le_of_ble_eq_true rfl⟩ rfl rfl (Nat.le_of_ble_eq_true rfl) ⟨Nat.le_refl _, Nat.le_refl _⟩ d_X2_readCurrent_44 (w_X2_readNumber (xL x) b  h) (aZ (fun r44 s44 hzr44 h => ?_))
    refine J_if_ne o 52 d_X2_readCurrent_47 rfl (fun c47 => ?_) (fun c47 => ?_)
    · replace h := h.1 c47
      refine J_aload_n o 2 d_X2_readCurrent_52 rfl ?_
      refine J_getI o fl_RX2_21 rfl (Nat.le_of_ble_eq_true rfl) (Nat.le_of_ble_eq_true rfl) rfl d_X2_readCurrent_53 ?_
      refine J_top (fun l3_56 el3_56 => ?_)
      replace h := h l3_56 el3_56
      refine J_istore_n (lv' := [(3, .int l3_56), (2, .int r29), (1, .int r17), (0, .ref (wB (wC b) + 18))]) o d_X2_readCurrent_56 (by decide) rfl ?_
      refine J_aload_n o 3 d_X2_readCurrent_57 rfl ?_
      refine J_iload_n o 1 d_X2_readCurrent_58 rfl ?_
      refine J_aload_n o 3 d_X2_readCurrent_59 rfl ?_
      refine J_getR (t := 10) o fl_RX2_56 rfl (Nat.le_of_ble_eq_true rfl) (Nat.le_of_ble_eq_true rfl) rfl rfl d_X2_readCurrent_60 ?_
      refine J_getI o fl_RX2_107 (W_kd W_10) (Nat.zero_le _) (W_hi W_10) rfl d_X2_readCurrent_63 ?_
      refine J_iconst (v := 1) o d_X2_readCurrent_66 iconst_1 ?_
      refine J_isub o d_X2_readCurrent_67 ?_
      refine J_callV (k := 18) (c := 2) o [.int r29, .int ((s44 10 1) - 1)] rfl (by decide) (Nat.le_of_ble_eq_true rfl) (Nat.le_of_ble_eq_true rfl) mth_X2_readNumber iv_X2_readNumber ml_RX2_101 ⟨Nat.le_of_ble_eq_true rfl, Nat.le_of_ble_eq_true rfl⟩ rfl rfl (Nat.le_of_ble_eq_true rfl) ⟨Nat.le_refl _, Nat.le_refl _⟩ d_X2_readCurrent_68 (w_X2_readNumber (xL x) b  h) (aZ (fun r68 s68 hzr68 h => ?_))
      refine J_if_ne o 76 d_X2_readCurrent_71 rfl (fun c71 => ?_) (fun c71 => ?_)
      · replace h := h.1 c71
        refine J_aload_n o 3 d_X2_readCurrent_76 rfl ?_
        refine J_getI o fl_RX2_21 rfl (Nat.le_of_ble_eq_true rfl) (Nat.le_of_ble_eq_true rfl) rfl d_X2_readCurrent_77 ?_
        refine J_top (fun l4_80 el4_80 => ?_)
        replace h := h l4_80 el4_80
        refine J_istore (lv' := [(4, .int l4_80), (3, .int l3_56), (2, .int r29), (1, .int r17), (0, .ref (wB (wC b) + 18))]) o d_X2_readCurrent_80 (by decide) rfl ?_
        refine J_aload_n o 4 d_X2_readCurrent_82 rfl ?_
        refine J_callV (k := 18) (c := 2) o [] rfl (by decide) (Nat.le_of_ble_eq_true rfl) (Nat.le_of_ble_eq_true rfl) mth_X2_readWord iv_X2_readWord ml_RX2_92 ⟨Nat.le_of_ble_eq_true rfl, Nat.le_of_ble_eq_true rfl⟩ rfl rfl (Nat.le_of_ble_eq_true rfl) ⟨Nat.le_refl _, Nat.le_refl _⟩ d_X2_readCurrent_83 (w_X2_readWord (xL x) b  h) (aZ (fun r83 s83 hzr83 h => ?_))
        refine J_if_eq o 96 d_X2_readCurrent_86 rfl (fun c86 => ?_) (fun c86 => ?_)
        · replace h := h.1 c86
          refine J_iconst (v := 0) o d_X2_readCurrent_96 iconst_0 ?_
          exact J_zret o (Or.inl rfl) d_X2_readCurrent_97 ⟨_, rfl, (Or.inl rfl), h⟩
        · replace h := h.2 c86
          refine J_aload_n o 4 d_X2_readCurrent_89 rfl ?_
          refine J_callV (k := 18) (c := 2) o [] rfl (by decide) (Nat.le_of_ble_eq_true rfl) (Nat.le_of_ble_eq_true rfl) mth_X2_isDirection iv_X2_isDirection ml_RX2_173 ⟨Nat.le_of_ble_eq_true rfl, Nat.le_of_ble_eq_true rfl⟩ rfl rfl (Nat.le_of_ble_eq_true rfl) ⟨Nat.le_refl _, Nat.le_refl _⟩ d_X2_readCurrent_90 (w_X2_isDirection (xL x) b  h) (aZ (fun r90 s90 hzr90 h => ?_))
          refine J_if_ne o 98 d_X2_readCurrent_93 rfl (fun c93 => ?_) (fun c93 => ?_)
          · replace h := h.1 c93
            refine J_iload_n o 2 d_X2_readCurrent_98 rfl ?_
            refine J_istore (lv' := [(5, .int r29), (4, .int l4_80), (3, .int l3_56), (2, .int r29), (1, .int r17), (0, .ref (wB (wC b) + 18))]) o d_X2_readCurrent_99 (by decide) rfl ?_
            refine J_sub [5, 4, 2, 1, 0] rfl ?_
            obtain ⟨n9, h⟩ := h
            exact c_X2_readCurrent_101 o   n9 r17 l3_56 l4_80 r29 s90  h
          · replace h := h.2 c93
            refine J_iconst (v := 0) o d_X2_readCurrent_96 iconst_0 ?_
            exact J_zret o (Or.inl rfl) d_X2_readCurrent_97 ⟨_, rfl, (Or.inl rfl), h⟩
      · replace h := h.2 c71
        refine J_iconst (v := 0) o d_X2_readCurrent_74 iconst_0 ?_
        exact J_zret o (Or.inl rfl) d_X2_readCurrent_75 ⟨_, rfl, (Or.inl rfl), h⟩
    · replace h := h.2 c47
      refine J_iconst (v := 0) o d_X2_readCurrent_50 iconst_0 ?_
      exact J_zret o (Or.inl rfl) d_X2_readCurrent_51 ⟨_, rfl, (Or.inl rfl), h⟩
  · replace h := h.2 c4
    refine J_iconst (v := 0) o d_X2_readCurrent_7 iconst_0 ?_
    exact J_zret o (Or.inl rfl) d_X2_readCurrent_8 ⟨_, rfl, (Or.inl rfl), h⟩
theorem d_X2_readDirections_0 : decode cX2_readDirections 0 = .ok (.iconst 0, 1) := by decide +kernel
theorem d_X2_readDirections_1 : decode cX2_readDirections 1 = .ok (.istore_n 3, 1) := by decide +kernel
theorem d_X2_readDirections_2 : decode cX2_readDirections 2 = .ok (.iload_n 3, 1) := by decide +kernel
theorem d_X2_readDirections_3 : decode cX2_readDirections 3 = .ok (.aload_n 1, 1) := by decide +kernel
theorem d_X2_readDirections_4 : decode cX2_readDirections 4 = .ok (.arraylength, 1) := by decide +kernel
theorem d_X2_readDirections_5 : decode cX2_readDirections 5 = .ok (.if_icmp .ge 51, 3) := by decide +kernel
theorem d_X2_readDirections_8 : decode cX2_readDirections 8 = .ok (.iload_n 3, 1) := by decide +kernel
theorem d_X2_readDirections_9 : decode cX2_readDirections 9 = .ok (.iload_n 2, 1) := by decide +kernel
theorem d_X2_readDirections_10 : decode cX2_readDirections 10 = .ok (.if_icmp .lt 17, 3) := by decide +kernel
theorem d_X2_readDirections_13 : decode cX2_readDirections 13 = .ok (.aload_n 0, 1) := by decide +kernel
theorem d_X2_readDirections_14 : decode cX2_readDirections 14 = .ok (.invokevirtual 214, 3) := by decide +kernel
theorem d_X2_readDirections_17 : decode cX2_readDirections 17 = .ok (.ifCond .eq 10, 3) := by decide +kernel
theorem d_X2_readDirections_20 : decode cX2_readDirections 20 = .ok (.aload_n 0, 1) := by decide +kernel
theorem d_X2_readDirections_21 : decode cX2_readDirections 21 = .ok (.iload_n 3, 1) := by decide +kernel
theorem d_X2_readDirections_22 : decode cX2_readDirections 22 = .ok (.putfield 30, 3) := by decide +kernel
theorem d_X2_readDirections_25 : decode cX2_readDirections 25 = .ok (.iconst 1, 1) := by decide +kernel
theorem d_X2_readDirections_26 : decode cX2_readDirections 26 = .ok (.ireturn, 1) := by decide +kernel
theorem d_X2_readDirections_27 : decode cX2_readDirections 27 = .ok (.aload_n 0, 1) := by decide +kernel
theorem d_X2_readDirections_28 : decode cX2_readDirections 28 = .ok (.invokevirtual 92, 3) := by decide +kernel
theorem d_X2_readDirections_31 : decode cX2_readDirections 31 = .ok (.ifCond .eq 10, 3) := by decide +kernel
theorem d_X2_readDirections_34 : decode cX2_readDirections 34 = .ok (.aload_n 0, 1) := by decide +kernel
theorem d_X2_readDirections_35 : decode cX2_readDirections 35 = .ok (.invokevirtual 173, 3) := by decide +kernel
theorem d_X2_readDirections_38 : decode cX2_readDirections 38 = .ok (.ifCond .ne 5, 3) := by decide +kernel
theorem d_X2_readDirections_41 : decode cX2_readDirections 41 = .ok (.iconst 0, 1) := by decide +kernel
theorem d_X2_readDirections_42 : decode cX2_readDirections 42 = .ok (.ireturn, 1) := by decide +kernel
theorem d_X2_readDirections_43 : decode cX2_readDirections 43 = .ok (.aload_n 1, 1) := by decide +kernel
theorem d_X2_readDirections_44 : decode cX2_readDirections 44 = .ok (.iload_n 3, 1) := by decide +kernel
theorem d_X2_readDirections_45 : decode cX2_readDirections 45 = .ok (.aload_n 0, 1) := by decide +kernel
theorem d_X2_readDirections_46 : decode cX2_readDirections 46 = .ok (.getfield 21, 3) := by decide +kernel
theorem d_X2_readDirections_49 : decode cX2_readDirections 49 = .ok (.iastore, 1) := by decide +kernel
theorem d_X2_readDirections_50 : decode cX2_readDirections 50 = .ok (.iinc 3 1, 3) := by decide +kernel
theorem d_X2_readDirections_53 : decode cX2_readDirections 53 = .ok (.goto (-51), 3) := by decide +kernel
theorem d_X2_readDirections_56 : decode cX2_readDirections 56 = .ok (.aload_n 0, 1) := by decide +kernel
theorem d_X2_readDirections_57 : decode cX2_readDirections 57 = .ok (.aload_n 1, 1) := by decide +kernel
theorem d_X2_readDirections_58 : decode cX2_readDirections 58 = .ok (.arraylength, 1) := by decide +kernel
theorem d_X2_readDirections_59 : decode cX2_readDirections 59 = .ok (.putfield 30, 3) := by decide +kernel
theorem d_X2_readDirections_62 : decode cX2_readDirections 62 = .ok (.aload_n 0, 1) := by decide +kernel
theorem d_X2_readDirections_63 : decode cX2_readDirections 63 = .ok (.invokevirtual 214, 3) := by decide +kernel
theorem d_X2_readDirections_66 : decode cX2_readDirections 66 = .ok (.ifCond .ne 15, 3) := by decide +kernel
theorem d_X2_readDirections_69 : decode cX2_readDirections 69 = .ok (.aload_n 0, 1) := by decide +kernel
theorem d_X2_readDirections_70 : decode cX2_readDirections 70 = .ok (.iconst 1, 1) := by decide +kernel
theorem d_X2_readDirections_71 : decode cX2_readDirections 71 = .ok (.aload_n 0, 1) := by decide +kernel
theorem d_X2_readDirections_72 : decode cX2_readDirections 72 = .ok (.getfield 15, 3) := by decide +kernel
theorem d_X2_readDirections_75 : decode cX2_readDirections 75 = .ok (.invokevirtual 79, 3) := by decide +kernel
theorem d_X2_readDirections_78 : decode cX2_readDirections 78 = .ok (.ifCond .eq 7, 3) := by decide +kernel
theorem d_X2_readDirections_81 : decode cX2_readDirections 81 = .ok (.iconst 1, 1) := by decide +kernel
theorem d_X2_readDirections_82 : decode cX2_readDirections 82 = .ok (.goto 4, 3) := by decide +kernel
theorem d_X2_readDirections_85 : decode cX2_readDirections 85 = .ok (.iconst 0, 1) := by decide +kernel
theorem d_X2_readDirections_86 : decode cX2_readDirections 86 = .ok (.ireturn, 1) := by decide +kernel
abbrev rm_X2_readDirections : Room := { frames := 6, cells := 0, slots := 0, locals := 129 }
set_option maxHeartbeats 4000000 in
set_option maxRecDepth 20000 in
theorem c_X2_readDirections_27 {x : Cx} {b : Wy} (o : Ok x (wC b) cX2_readDirections 4 RX2 (some .boolean) rm_X2_readDirections) {v1 : Nat} {v2 : Int32} {K : Int32 → Sg → Prop}  {KO2 : Int32 → Sg → Prop} (hv1 : IsA (wC b) v1) (hKO2 : ∀ (l3 : Int32) (σ : Sg), KO2 l3 σ → J x (wC b) (FinC x (wC b) (PZ K) (0, 0)) 2 [(0, .ref (wB (wC b) + 18)), (1, .ref (wB (wC b) + v1)), (2, .int v2), (3, .int l3)] [] (0, 0) σ) : ∀ (l3 : Int32) (σ : Sg), m_X2_readDirections_j27 v1 v2 K KO2 l3 σ → J x (wC b) (FinC x (wC b) (PZ K) (0, 0)) 27 [(0, .ref (wB (wC b) + 18)), (1, .ref (wB (wC b) + v1)), (2, .int v2), (3, .int l3)] [] (0, 0) σ := by
  intro l3 σ  h
  unfold m_X2_readDirections_j27 at h
  refine J_aload_n o 0 d_X2_readDirections_27 rfl ?_
  refine J_callV (k := 18) (c := 2) o [] rfl (by decide) (Nat.le_of_ble_eq_true rfl) (Nat.le_of_ble_eq_true rfl) mth_X2_readWord iv_X2_readWord ml_RX2_92 ⟨Nat.le_of_ble_eq_true rfl, Nat.le_of_ble_eq_true rfl⟩ rfl rfl (Nat.le_of_ble_eq_true rfl) ⟨Nat.le_refl _, Nat.le_refl _⟩ d_X2_readDirections_28 (w_X2_readWord (xL x) b  h) (aZ (fun r28 s28 hzr28 h => ?_))
  refine J_if_eq o 41 d_X2_readDirections_31 rfl (fun c31 => ?_) (fun c31 => ?_)
  · replace h := h.1 c31
    refine J_iconst (v := 0) o d_X2_readDirections_41 iconst_0 ?_
    exact J_zret o (Or.inl rfl) d_X2_readDirections_42 ⟨_, rfl, (Or.inl rfl), h⟩
  · replace h := h.2 c31
    refine J_aload_n o 0 d_X2_readDirections_34 rfl ?_
    refine J_callV (k := 18) (c := 2) o [] rfl (by decide) (Nat.le_of_ble_eq_true rfl) (Nat.le_of_ble_eq_true rfl) mth_X2_isDirection iv_X2_isDirection ml_RX2_173 ⟨Nat.le_of_ble_eq_true rfl, Nat.le_of_ble_eq_true rfl⟩ rfl rfl (Nat.le_of_ble_eq_true rfl) ⟨Nat.le_refl _, Nat.le_refl _⟩ d_X2_readDirections_35 (w_X2_isDirection (xL x) b  h) (aZ (fun r35 s35 hzr35 h => ?_))
    refine J_if_ne o 43 d_X2_readDirections_38 rfl (fun c38 => ?_) (fun c38 => ?_)
    · replace h := h.1 c38
      refine J_aload_n o 1 d_X2_readDirections_43 rfl ?_
      refine J_iload_n o 3 d_X2_readDirections_44 rfl ?_
      refine J_aload_n o 0 d_X2_readDirections_45 rfl ?_
      refine J_getI o fl_RX2_21 rfl (Nat.le_of_ble_eq_true rfl) (Nat.le_of_ble_eq_true rfl) rfl d_X2_readDirections_46 ?_
      have b49 := h.1
      replace h := h.2
      refine J_iast o hv1 (vpc rfl b49) d_X2_readDirections_49 ?_
      refine J_nS (fun s49 es49 => ?_)
      replace h := h s49 es49
      refine J_iinc (lv' := [(3, .int (l3 + 1)), (0, .ref (wB (wC b) + 18)), (1, .ref (wB (wC b) + v1)), (2, .int v2)]) o 3 d_X2_readDirections_50 (by decide) rfl iconst_1 rfl ?_
      refine J_goto o 2 d_X2_readDirections_53 rfl ?_
      refine J_sub [1, 2, 3, 0] rfl ?_
      exact hKO2 (l3 + 1) s49  h
    · replace h := h.2 c38
      refine J_iconst (v := 0) o d_X2_readDirections_41 iconst_0 ?_
      exact J_zret o (Or.inl rfl) d_X2_readDirections_42 ⟨_, rfl, (Or.inl rfl), h⟩
set_option maxHeartbeats 4000000 in
set_option maxRecDepth 20000 in
theorem c_X2_readDirections_2 {x : Cx} {b : Wy} (o : Ok x (wC b) cX2_readDirections 4 RX2 (some .boolean) rm_X2_readDirections) {v1 : Nat} {v2 : Int32} {K : Int32 → Sg → Prop}  (hv1 : IsA (wC b) v1) : ∀ (n : Nat) (l3 : Int32) (σ : Sg), m_X2_readDirections_l2 v1 v2 K  n l3 σ → J x (wC b) (FinC x (wC b) (PZ K) (0, 0)) 2 [(0, .ref (wB (wC b) + 18)), (1, .ref (wB (wC b) + v1)), (2, .int v2), (3, .int l3)] [] (0, 0) σ := by
  intro n
  induction n with
  | zero =>
    intro l3 σ  h
    exact False.elim h
  | succ n ih =>
    intro l3 σ  h
    unfold m_X2_readDirections_l2 at h
    refine J_iload_n o 3 d_X2_readDirections_2 rfl ?_
    refine J_aload_n o 1 d_X2_readDirections_3 rfl ?_
    refine J_alenL o hv1 rfl d_X2_readDirections_4 ?_
    refine J_icmp_ge o 56 d_X2_readDirections_5 rfl (fun c5 => ?_) (fun c5 => ?_)
    · replace h := h.1 c5
      refine J_aload_n o 0 d_X2_readDirections_56 rfl ?_
      refine J_aload_n o 1 d_X2_readDirections_57 rfl ?_
      refine J_alenL o hv1 rfl d_X2_readDirections_58 ?_
      refine J_put o fl_RX2_30 la_2 rfl (Nat.le_of_ble_eq_true rfl) (Nat.le_of_ble_eq_true rfl) rfl rfl rfl rfl d_X2_readDirections_59 ?_
      refine J_nS (fun s59 es59 => ?_)
      replace h := h s59 es59
      refine J_aload_n o 0 d_X2_readDirections_62 rfl ?_
      refine J_callV (k := 18) (c := 2) o [] rfl (by decide) (Nat.le_of_ble_eq_true rfl) (Nat.le_of_ble_eq_true rfl) mth_X2_isEnd iv_X2_isEnd ml_RX2_214 ⟨Nat.le_of_ble_eq_true rfl, Nat.le_of_ble_eq_true rfl⟩ rfl rfl (Nat.le_of_ble_eq_true rfl) ⟨Nat.le_refl _, Nat.le_refl _⟩ d_X2_readDirections_63 (w_X2_isEnd (xL x) b  h) (aZ (fun r63 s63 hzr63 h => ?_))
      refine J_if_ne o 81 d_X2_readDirections_66 rfl (fun c66 => ?_) (fun c66 => ?_)
      · replace h := h.1 c66
        refine J_iconst (v := 1) o d_X2_readDirections_81 iconst_1 ?_
        refine J_goto o 86 d_X2_readDirections_82 rfl ?_
        exact J_zret o (Or.inr rfl) d_X2_readDirections_86 ⟨_, rfl, (Or.inr rfl), h⟩
      · replace h := h.2 c66
        refine J_aload_n o 0 d_X2_readDirections_69 rfl ?_
        refine J_iconst (v := 1) o d_X2_readDirections_70 iconst_1 ?_
        refine J_aload_n o 0 d_X2_readDirections_71 rfl ?_
        refine J_getI o fl_RX2_15 rfl (Nat.le_of_ble_eq_true rfl) (Nat.le_of_ble_eq_true rfl) rfl d_X2_readDirections_72 ?_
        refine J_callV (k := 18) (c := 2) o [.int 1, .int (s63 18 3)] rfl (by decide) (Nat.le_of_ble_eq_true rfl) (Nat.le_of_ble_eq_true rfl) mth_X2_fail iv_X2_fail ml_RX2_79 ⟨Nat.le_of_ble_eq_true rfl, Nat.le_of_ble_eq_true rfl⟩ rfl rfl (Nat.le_of_ble_eq_true rfl) ⟨Nat.le_refl _, Nat.le_refl _⟩ d_X2_readDirections_75 (w_X2_fail (xL x) b  h) (aZ (fun r75 s75 hzr75 h => ?_))
        refine J_if_eq o 85 d_X2_readDirections_78 rfl (fun c78 => ?_) (fun c78 => ?_)
        · replace h := h.1 c78
          refine J_iconst (v := 0) o d_X2_readDirections_85 iconst_0 ?_
          exact J_zret o (Or.inl rfl) d_X2_readDirections_86 ⟨_, rfl, (Or.inl rfl), h⟩
        · replace h := h.2 c78
          refine J_iconst (v := 1) o d_X2_readDirections_81 iconst_1 ?_
          refine J_goto o 86 d_X2_readDirections_82 rfl ?_
          exact J_zret o (Or.inr rfl) d_X2_readDirections_86 ⟨_, rfl, (Or.inr rfl), h⟩
    · replace h := h.2 c5
      refine J_iload_n o 3 d_X2_readDirections_8 rfl ?_
      refine J_iload_n o 2 d_X2_readDirections_9 rfl ?_
      refine J_icmp_lt o 27 d_X2_readDirections_10 rfl (fun c10 => ?_) (fun c10 => ?_)
      · replace h := h.1 c10
        exact c_X2_readDirections_27 o hv1 ih l3 σ  h
      · replace h := h.2 c10
        refine J_aload_n o 0 d_X2_readDirections_13 rfl ?_
        refine J_callV (k := 18) (c := 2) o [] rfl (by decide) (Nat.le_of_ble_eq_true rfl) (Nat.le_of_ble_eq_true rfl) mth_X2_isEnd iv_X2_isEnd ml_RX2_214 ⟨Nat.le_of_ble_eq_true rfl, Nat.le_of_ble_eq_true rfl⟩ rfl rfl (Nat.le_of_ble_eq_true rfl) ⟨Nat.le_refl _, Nat.le_refl _⟩ d_X2_readDirections_14 (w_X2_isEnd (xL x) b  h) (aZ (fun r14 s14 hzr14 h => ?_))
        refine J_if_eq o 27 d_X2_readDirections_17 rfl (fun c17 => ?_) (fun c17 => ?_)
        · replace h := h.1 c17
          exact c_X2_readDirections_27 o hv1 ih l3 s14  h
        · replace h := h.2 c17
          refine J_aload_n o 0 d_X2_readDirections_20 rfl ?_
          refine J_iload_n o 3 d_X2_readDirections_21 rfl ?_
          refine J_put o fl_RX2_30 la_2 rfl (Nat.le_of_ble_eq_true rfl) (Nat.le_of_ble_eq_true rfl) rfl rfl rfl rfl d_X2_readDirections_22 ?_
          refine J_nS (fun s22 es22 => ?_)
          replace h := h s22 es22
          refine J_iconst (v := 1) o d_X2_readDirections_25 iconst_1 ?_
          exact J_zret o (Or.inr rfl) d_X2_readDirections_26 ⟨_, rfl, (Or.inr rfl), h⟩
set_option maxHeartbeats 4000000 in
set_option maxRecDepth 20000 in
theorem w_X2_readDirections (l : Launch) (b : Wy) {v1 : Nat} {v2 : Int32} {σ : Sg} {K : Int32 → Sg → Prop} (hv1 : IsA (wC b) v1) (h : m_X2_readDirections v1 v2 σ K) : Ct l (wC b) yX2_readDirections cX2_readDirections 4 (some .boolean) rm_X2_readDirections [.ref (wB (wC b) + 18), .ref (wB (wC b) + v1), .int v2] σ (PZ K) := by
  unfold m_X2_readDirections at h
  refine Ct.of (own := RX2) (by decide +kernel) rfl (Nat.le_of_ble_eq_true rfl) (fun x hx o => ?_)
  subst hx
  show J x (wC b) (FinC x (wC b) (PZ K) (0, 0)) 0 [(0, .ref (wB (wC b) + 18)), (1, .ref (wB (wC b) + v1)), (2, .int v2)] [] (0, 0) σ
  refine J_iconst (v := 0) o d_X2_readDirections_0 iconst_0 ?_
  refine J_istore_n (lv' := [(3, .int 0), (0, .ref (wB (wC b) + 18)), (1, .ref (wB (wC b) + v1)), (2, .int v2)]) o d_X2_readDirections_1 (by decide) rfl ?_
  refine J_sub [1, 2, 3, 0] rfl ?_
  obtain ⟨n9, h⟩ := h
  exact c_X2_readDirections_2 o hv1  n9 0 σ  h
theorem d_X2_readWind_0 : decode cX2_readWind 0 = .ok (.aload_n 0, 1) := by decide +kernel
theorem d_X2_readWind_1 : decode cX2_readWind 1 = .ok (.getfield 46, 3) := by decide +kernel
theorem d_X2_readWind_4 : decode cX2_readWind 4 = .ok (.ifCond .eq 13, 3) := by decide +kernel
theorem d_X2_readWind_7 : decode cX2_readWind 7 = .ok (.aload_n 0, 1) := by decide +kernel
theorem d_X2_readWind_8 : decode cX2_readWind 8 = .ok (.iconst 1, 1) := by decide +kernel
theorem d_X2_readWind_9 : decode cX2_readWind 9 = .ok (.aload_n 0, 1) := by decide +kernel
theorem d_X2_readWind_10 : decode cX2_readWind 10 = .ok (.getfield 18, 3) := by decide +kernel
theorem d_X2_readWind_13 : decode cX2_readWind 13 = .ok (.invokevirtual 79, 3) := by decide +kernel
theorem d_X2_readWind_16 : decode cX2_readWind 16 = .ok (.ireturn, 1) := by decide +kernel
theorem d_X2_readWind_17 : decode cX2_readWind 17 = .ok (.aload_n 0, 1) := by decide +kernel
theorem d_X2_readWind_18 : decode cX2_readWind 18 = .ok (.iconst 1, 1) := by decide +kernel
theorem d_X2_readWind_19 : decode cX2_readWind 19 = .ok (.putfield 46, 3) := by decide +kernel
theorem d_X2_readWind_22 : decode cX2_readWind 22 = .ok (.aload_n 0, 1) := by decide +kernel
theorem d_X2_readWind_23 : decode cX2_readWind 23 = .ok (.aload_n 0, 1) := by decide +kernel
theorem d_X2_readWind_24 : decode cX2_readWind 24 = .ok (.getfield 56, 3) := by decide +kernel
theorem d_X2_readWind_27 : decode cX2_readWind 27 = .ok (.getfield 182, 3) := by decide +kernel
theorem d_X2_readWind_30 : decode cX2_readWind 30 = .ok (.iconst 1, 1) := by decide +kernel
theorem d_X2_readWind_31 : decode cX2_readWind 31 = .ok (.invokevirtual 185, 3) := by decide +kernel
theorem d_X2_readWind_34 : decode cX2_readWind 34 = .ok (.ifCond .ne 5, 3) := by decide +kernel
theorem d_X2_readWind_37 : decode cX2_readWind 37 = .ok (.iconst 0, 1) := by decide +kernel
theorem d_X2_readWind_38 : decode cX2_readWind 38 = .ok (.ireturn, 1) := by decide +kernel
theorem d_X2_readWind_39 : decode cX2_readWind 39 = .ok (.aload_n 0, 1) := by decide +kernel
theorem d_X2_readWind_40 : decode cX2_readWind 40 = .ok (.getfield 56, 3) := by decide +kernel
theorem d_X2_readWind_43 : decode cX2_readWind 43 = .ok (.aload_n 0, 1) := by decide +kernel
theorem d_X2_readWind_44 : decode cX2_readWind 44 = .ok (.getfield 30, 3) := by decide +kernel
theorem d_X2_readWind_47 : decode cX2_readWind 47 = .ok (.putfield 189, 3) := by decide +kernel
theorem d_X2_readWind_50 : decode cX2_readWind 50 = .ok (.iconst 1, 1) := by decide +kernel
theorem d_X2_readWind_51 : decode cX2_readWind 51 = .ok (.ireturn, 1) := by decide +kernel
abbrev rm_X2_readWind : Room := { frames := 7, cells := 0, slots := 0, locals := 152 }
set_option maxHeartbeats 4000000 in
set_option maxRecDepth 20000 in
theorem w_X2_readWind (l : Launch) (b : Wy)  {σ : Sg} {K : Int32 → Sg → Prop}  (h : m_X2_readWind  σ K) : Ct l (wC b) yX2_readWind cX2_readWind 1 (some .boolean) rm_X2_readWind [.ref (wB (wC b) + 18)] σ (PZ K) := by
  unfold m_X2_readWind at h
  refine Ct.of (own := RX2) (by decide +kernel) rfl (Nat.le_of_ble_eq_true rfl) (fun x hx o => ?_)
  subst hx
  show J x (wC b) (FinC x (wC b) (PZ K) (0, 0)) 0 [(0, .ref (wB (wC b) + 18))] [] (0, 0) σ
  refine J_aload_n o 0 d_X2_readWind_0 rfl ?_
  refine J_getI o fl_RX2_46 rfl (Nat.le_of_ble_eq_true rfl) (Nat.le_of_ble_eq_true rfl) rfl d_X2_readWind_1 ?_
  refine J_if_eq o 17 d_X2_readWind_4 rfl (fun c4 => ?_) (fun c4 => ?_)
  · replace h := h.1 c4
    refine J_aload_n o 0 d_X2_readWind_17 rfl ?_
    refine J_iconst (v := 1) o d_X2_readWind_18 iconst_1 ?_
    refine J_put o fl_RX2_46 la_2 rfl (Nat.le_of_ble_eq_true rfl) (Nat.le_of_ble_eq_true rfl) rfl rfl rfl rfl d_X2_readWind_19 ?_
    refine J_nS (fun s19 es19 => ?_)
    replace h := h s19 es19
    refine J_aload_n o 0 d_X2_readWind_22 rfl ?_
    refine J_aload_n o 0 d_X2_readWind_23 rfl ?_
    refine J_getR (t := 10) o fl_RX2_56 rfl (Nat.le_of_ble_eq_true rfl) (Nat.le_of_ble_eq_true rfl) rfl rfl d_X2_readWind_24 ?_
    refine J_getR (t := (10 + 5)) o fl_RX2_182 (W_kd W_10) (Nat.zero_le _) (W_hi W_10) rfl (W_t W_10 14 (by decide)) d_X2_readWind_27 ?_
    refine J_iconst (v := 1) o d_X2_readWind_30 iconst_1 ?_
    refine J_callV (k := 18) (c := 2) o [.ref (wB (wC b) + (10 + 5)), .int 1] rfl (by decide) (Nat.le_of_ble_eq_true rfl) (Nat.le_of_ble_eq_true rfl) mth_X2_readDirections iv_X2_readDirections ml_RX2_185 ⟨Nat.le_of_ble_eq_true rfl, Nat.le_of_ble_eq_true rfl⟩ rfl rfl (Nat.le_of_ble_eq_true rfl) ⟨Nat.le_refl _, Nat.le_refl _⟩ d_X2_readWind_31 (w_X2_readDirections (xL x) b (W_A5 W_10) h) (aZ (fun r31 s31 hzr31 h => ?_))
    refine J_if_ne o 39 d_X2_readWind_34 rfl (fun c34 => ?_) (fun c34 => ?_)
    · replace h := h.1 c34
      refine J_aload_n o 0 d_X2_readWind_39 rfl ?_
      refine J_getR (t := 10) o fl_RX2_56 rfl (Nat.le_of_ble_eq_true rfl) (Nat.le_of_ble_eq_true rfl) rfl rfl d_X2_readWind_40 ?_
      refine J_aload_n o 0 d_X2_readWind_43 rfl ?_
      refine J_getI o fl_RX2_30 rfl (Nat.le_of_ble_eq_true rfl) (Nat.le_of_ble_eq_true rfl) rfl d_X2_readWind_44 ?_
      refine J_put o fl_RX2_189 la_3 (W_kd W_10) (Nat.zero_le _) (W_hi W_10) rfl rfl rfl rfl d_X2_readWind_47 ?_
      refine J_nS (fun s47 es47 => ?_)
      replace h := h s47 es47
      refine J_iconst (v := 1) o d_X2_readWind_50 iconst_1 ?_
      exact J_zret o (Or.inr rfl) d_X2_readWind_51 ⟨_, rfl, (Or.inr rfl), h⟩
    · replace h := h.2 c34
      refine J_iconst (v := 0) o d_X2_readWind_37 iconst_0 ?_
      exact J_zret o (Or.inl rfl) d_X2_readWind_38 ⟨_, rfl, (Or.inl rfl), h⟩
  · replace h := h.2 c4
    refine J_aload_n o 0 d_X2_readWind_7 rfl ?_
    refine J_iconst (v := 1) o d_X2_readWind_8 iconst_1 ?_
    refine J_aload_n o 0 d_X2_readWind_9 rfl ?_
    refine J_getI o fl_RX2_18 rfl (Nat.le_of_ble_eq_true rfl) (Nat.le_of_ble_eq_true rfl) rfl d_X2_readWind_10 ?_
    refine J_callV (k := 18) (c := 2) o [.int 1, .int (σ 18 4)] rfl (by decide) (Nat.le_of_ble_eq_true rfl) (Nat.le_of_ble_eq_true rfl) mth_X2_fail iv_X2_fail ml_RX2_79 ⟨Nat.le_of_ble_eq_true rfl, Nat.le_of_ble_eq_true rfl⟩ rfl rfl (Nat.le_of_ble_eq_true rfl) ⟨Nat.le_refl _, Nat.le_refl _⟩ d_X2_readWind_13 (w_X2_fail (xL x) b  h) (aZ (fun r13 s13 hzr13 h => ?_))
    exact J_zret o hzr13 d_X2_readWind_16 ⟨_, rfl, hzr13, h⟩
theorem d_X2_isWater_0 : decode cX2_isWater 0 = .ok (.aload_n 0, 1) := by decide +kernel
theorem d_X2_isWater_1 : decode cX2_isWater 1 = .ok (.getfield 56, 3) := by decide +kernel
theorem d_X2_isWater_4 : decode cX2_isWater 4 = .ok (.getfield 159, 3) := by decide +kernel
theorem d_X2_isWater_7 : decode cX2_isWater 7 = .ok (.aload_n 0, 1) := by decide +kernel
theorem d_X2_isWater_8 : decode cX2_isWater 8 = .ok (.getfield 24, 3) := by decide +kernel
theorem d_X2_isWater_11 : decode cX2_isWater 11 = .ok (.invokestatic 210, 3) := by decide +kernel
theorem d_X2_isWater_14 : decode cX2_isWater 14 = .ok (.ifCond .eq 15, 3) := by decide +kernel
theorem d_X2_isWater_17 : decode cX2_isWater 17 = .ok (.aload_n 0, 1) := by decide +kernel
theorem d_X2_isWater_18 : decode cX2_isWater 18 = .ok (.iconst 3, 1) := by decide +kernel
theorem d_X2_isWater_19 : decode cX2_isWater 19 = .ok (.aload_n 0, 1) := by decide +kernel
theorem d_X2_isWater_20 : decode cX2_isWater 20 = .ok (.getfield 27, 3) := by decide +kernel
theorem d_X2_isWater_23 : decode cX2_isWater 23 = .ok (.invokevirtual 79, 3) := by decide +kernel
theorem d_X2_isWater_26 : decode cX2_isWater 26 = .ok (.ifCond .eq 7, 3) := by decide +kernel
theorem d_X2_isWater_29 : decode cX2_isWater 29 = .ok (.iconst 1, 1) := by decide +kernel
theorem d_X2_isWater_30 : decode cX2_isWater 30 = .ok (.goto 4, 3) := by decide +kernel
theorem d_X2_isWater_33 : decode cX2_isWater 33 = .ok (.iconst 0, 1) := by decide +kernel
theorem d_X2_isWater_34 : decode cX2_isWater 34 = .ok (.ireturn, 1) := by decide +kernel
abbrev rm_X2_isWater : Room := { frames := 1, cells := 0, slots := 0, locals := 22 }
set_option maxHeartbeats 4000000 in
set_option maxRecDepth 20000 in
theorem w_X2_isWater (l : Launch) (b : Wy)  {σ : Sg} {K : Int32 → Sg → Prop}  (h : m_X2_isWater  σ K) : Ct l (wC b) yX2_isWater cX2_isWater 1 (some .boolean) rm_X2_isWater [.ref (wB (wC b) + 18)] σ (PZ K) := by
  unfold m_X2_isWater at h
  refine Ct.of (own := RX2) (by decide +kernel) rfl (Nat.le_of_ble_eq_true rfl) (fun x hx o => ?_)
  subst hx
  show J x (wC b) (FinC x (wC b) (PZ K) (0, 0)) 0 [(0, .ref (wB (wC b) + 18))] [] (0, 0) σ
  refine J_aload_n o 0 d_X2_isWater_0 rfl ?_
  refine J_getR (t := 10) o fl_RX2_56 rfl (Nat.le_of_ble_eq_true rfl) (Nat.le_of_ble_eq_true rfl) rfl rfl d_X2_isWater_1 ?_
  refine J_getR (t := (10 + 3)) o fl_RX2_159 (W_kd W_10) (Nat.zero_le _) (W_hi W_10) rfl (W_t W_10 12 (by decide)) d_X2_isWater_4 ?_
  refine J_aload_n o 0 d_X2_isWater_7 rfl ?_
  refine J_getI o fl_RX2_24 rfl (Nat.le_of_ble_eq_true rfl) (Nat.le_of_ble_eq_true rfl) rfl d_X2_isWater_8 ?_
  refine J_callSN o [.ref (wB (wC b) + (10 + 3)), .int (σ 18 6)] mth_X4_read st_X4_read mn_RX2_210 ⟨Nat.le_of_ble_eq_true rfl, Nat.le_of_ble_eq_true rfl⟩ rfl rfl (Nat.le_of_ble_eq_true rfl) ⟨Nat.le_refl _, Nat.le_refl _⟩ d_X2_isWater_11 (w_X4_read (xL x) b (W_A3 W_10) h) (aI (fun r11 s11 h => ?_))
  refine J_if_eq o 29 d_X2_isWater_14 rfl (fun c14 => ?_) (fun c14 => ?_)
  · replace h := h.1 c14
    refine J_iconst (v := 1) o d_X2_isWater_29 iconst_1 ?_
    refine J_goto o 34 d_X2_isWater_30 rfl ?_
    exact J_zret o (Or.inr rfl) d_X2_isWater_34 ⟨_, rfl, (Or.inr rfl), h⟩
  · replace h := h.2 c14
    refine J_aload_n o 0 d_X2_isWater_17 rfl ?_
    refine J_iconst (v := 3) o d_X2_isWater_18 iconst_3 ?_
    refine J_aload_n o 0 d_X2_isWater_19 rfl ?_
    refine J_getI o fl_RX2_27 rfl (Nat.le_of_ble_eq_true rfl) (Nat.le_of_ble_eq_true rfl) rfl d_X2_isWater_20 ?_
    refine J_callV (k := 18) (c := 2) o [.int 3, .int (s11 18 7)] rfl (by decide) (Nat.le_of_ble_eq_true rfl) (Nat.le_of_ble_eq_true rfl) mth_X2_fail iv_X2_fail ml_RX2_79 ⟨Nat.le_of_ble_eq_true rfl, Nat.le_of_ble_eq_true rfl⟩ rfl rfl (Nat.le_of_ble_eq_true rfl) ⟨Nat.le_refl _, Nat.le_refl _⟩ d_X2_isWater_23 (w_X2_fail (xL x) b  h) (aZ (fun r23 s23 hzr23 h => ?_))
    refine J_if_eq o 33 d_X2_isWater_26 rfl (fun c26 => ?_) (fun c26 => ?_)
    · replace h := h.1 c26
      refine J_iconst (v := 0) o d_X2_isWater_33 iconst_0 ?_
      exact J_zret o (Or.inl rfl) d_X2_isWater_34 ⟨_, rfl, (Or.inl rfl), h⟩
    · replace h := h.2 c26
      refine J_iconst (v := 1) o d_X2_isWater_29 iconst_1 ?_
      refine J_goto o 34 d_X2_isWater_30 rfl ?_
      exact J_zret o (Or.inr rfl) d_X2_isWater_34 ⟨_, rfl, (Or.inr rfl), h⟩
theorem d_X2_readDrifter_0 : decode cX2_readDrifter 0 = .ok (.aload_n 0, 1) := by decide +kernel
theorem d_X2_readDrifter_1 : decode cX2_readDrifter 1 = .ok (.getfield 39, 3) := by decide +kernel
theorem d_X2_readDrifter_4 : decode cX2_readDrifter 4 = .ok (.ifCond .eq 13, 3) := by decide +kernel
theorem d_X2_readDrifter_7 : decode cX2_readDrifter 7 = .ok (.aload_n 0, 1) := by decide +kernel
theorem d_X2_readDrifter_8 : decode cX2_readDrifter 8 = .ok (.iconst 1, 1) := by decide +kernel
theorem d_X2_readDrifter_9 : decode cX2_readDrifter 9 = .ok (.aload_n 0, 1) := by decide +kernel
theorem d_X2_readDrifter_10 : decode cX2_readDrifter 10 = .ok (.getfield 18, 3) := by decide +kernel
theorem d_X2_readDrifter_13 : decode cX2_readDrifter 13 = .ok (.invokevirtual 79, 3) := by decide +kernel
theorem d_X2_readDrifter_16 : decode cX2_readDrifter 16 = .ok (.ireturn, 1) := by decide +kernel
theorem d_X2_readDrifter_17 : decode cX2_readDrifter 17 = .ok (.aload_n 0, 1) := by decide +kernel
theorem d_X2_readDrifter_18 : decode cX2_readDrifter 18 = .ok (.invokevirtual 148, 3) := by decide +kernel
theorem d_X2_readDrifter_21 : decode cX2_readDrifter 21 = .ok (.ifCond .eq 10, 3) := by decide +kernel
theorem d_X2_readDrifter_24 : decode cX2_readDrifter 24 = .ok (.aload_n 0, 1) := by decide +kernel
theorem d_X2_readDrifter_25 : decode cX2_readDrifter 25 = .ok (.invokevirtual 192, 3) := by decide +kernel
theorem d_X2_readDrifter_28 : decode cX2_readDrifter 28 = .ok (.ifCond .ne 5, 3) := by decide +kernel
theorem d_X2_readDrifter_31 : decode cX2_readDrifter 31 = .ok (.iconst 0, 1) := by decide +kernel
theorem d_X2_readDrifter_32 : decode cX2_readDrifter 32 = .ok (.ireturn, 1) := by decide +kernel
theorem d_X2_readDrifter_33 : decode cX2_readDrifter 33 = .ok (.aload_n 0, 1) := by decide +kernel
theorem d_X2_readDrifter_34 : decode cX2_readDrifter 34 = .ok (.iconst 1, 1) := by decide +kernel
theorem d_X2_readDrifter_35 : decode cX2_readDrifter 35 = .ok (.putfield 39, 3) := by decide +kernel
theorem d_X2_readDrifter_38 : decode cX2_readDrifter 38 = .ok (.aload_n 0, 1) := by decide +kernel
theorem d_X2_readDrifter_39 : decode cX2_readDrifter 39 = .ok (.getfield 56, 3) := by decide +kernel
theorem d_X2_readDrifter_42 : decode cX2_readDrifter 42 = .ok (.aload_n 0, 1) := by decide +kernel
theorem d_X2_readDrifter_43 : decode cX2_readDrifter 43 = .ok (.getfield 24, 3) := by decide +kernel
theorem d_X2_readDrifter_46 : decode cX2_readDrifter 46 = .ok (.putfield 151, 3) := by decide +kernel
theorem d_X2_readDrifter_49 : decode cX2_readDrifter 49 = .ok (.aload_n 0, 1) := by decide +kernel
theorem d_X2_readDrifter_50 : decode cX2_readDrifter 50 = .ok (.iconst 0, 1) := by decide +kernel
theorem d_X2_readDrifter_51 : decode cX2_readDrifter 51 = .ok (.bipush 9, 2) := by decide +kernel
theorem d_X2_readDrifter_53 : decode cX2_readDrifter 53 = .ok (.invokevirtual 101, 3) := by decide +kernel
theorem d_X2_readDrifter_56 : decode cX2_readDrifter 56 = .ok (.ifCond .ne 5, 3) := by decide +kernel
theorem d_X2_readDrifter_59 : decode cX2_readDrifter 59 = .ok (.iconst 0, 1) := by decide +kernel
theorem d_X2_readDrifter_60 : decode cX2_readDrifter 60 = .ok (.ireturn, 1) := by decide +kernel
theorem d_X2_readDrifter_61 : decode cX2_readDrifter 61 = .ok (.aload_n 0, 1) := by decide +kernel
theorem d_X2_readDrifter_62 : decode cX2_readDrifter 62 = .ok (.getfield 56, 3) := by decide +kernel
theorem d_X2_readDrifter_65 : decode cX2_readDrifter 65 = .ok (.aload_n 0, 1) := by decide +kernel
theorem d_X2_readDrifter_66 : decode cX2_readDrifter 66 = .ok (.getfield 21, 3) := by decide +kernel
theorem d_X2_readDrifter_69 : decode cX2_readDrifter 69 = .ok (.putfield 195, 3) := by decide +kernel
theorem d_X2_readDrifter_72 : decode cX2_readDrifter 72 = .ok (.aload_n 0, 1) := by decide +kernel
theorem d_X2_readDrifter_73 : decode cX2_readDrifter 73 = .ok (.invokevirtual 110, 3) := by decide +kernel
theorem d_X2_readDrifter_76 : decode cX2_readDrifter 76 = .ok (.ireturn, 1) := by decide +kernel
abbrev rm_X2_readDrifter : Room := { frames := 3, cells := 0, slots := 0, locals := 65 }
set_option maxHeartbeats 4000000 in
set_option maxRecDepth 20000 in
theorem w_X2_readDrifter (l : Launch) (b : Wy)  {σ : Sg} {K : Int32 → Sg → Prop}  (h : m_X2_readDrifter  σ K) : Ct l (wC b) yX2_readDrifter cX2_readDrifter 1 (some .boolean) rm_X2_readDrifter [.ref (wB (wC b) + 18)] σ (PZ K) := by
  unfold m_X2_readDrifter at h
  refine Ct.of (own := RX2) (by decide +kernel) rfl (Nat.le_of_ble_eq_true rfl) (fun x hx o => ?_)
  subst hx
  show J x (wC b) (FinC x (wC b) (PZ K) (0, 0)) 0 [(0, .ref (wB (wC b) + 18))] [] (0, 0) σ
  refine J_aload_n o 0 d_X2_readDrifter_0 rfl ?_
  refine J_getI o fl_RX2_39 rfl (Nat.le_of_ble_eq_true rfl) (Nat.le_of_ble_eq_true rfl) rfl d_X2_readDrifter_1 ?_
  refine J_if_eq o 17 d_X2_readDrifter_4 rfl (fun c4 => ?_) (fun c4 => ?_)
  · replace h := h.1 c4
    refine J_aload_n o 0 d_X2_readDrifter_17 rfl ?_
    refine J_callV (k := 18) (c := 2) o [] rfl (by decide) (Nat.le_of_ble_eq_true rfl) (Nat.le_of_ble_eq_true rfl) mth_X2_readCell iv_X2_readCell ml_RX2_148 ⟨Nat.le_of_ble_eq_true rfl, Nat.le_of_ble_eq_true rfl⟩ rfl rfl (Nat.le_of_ble_eq_true rfl) ⟨Nat.le_refl _, Nat.le_refl _⟩ d_X2_readDrifter_18 (w_X2_readCell (xL x) b  h) (aZ (fun r18 s18 hzr18 h => ?_))
    refine J_if_eq o 31 d_X2_readDrifter_21 rfl (fun c21 => ?_) (fun c21 => ?_)
    · replace h := h.1 c21
      refine J_iconst (v := 0) o d_X2_readDrifter_31 iconst_0 ?_
      exact J_zret o (Or.inl rfl) d_X2_readDrifter_32 ⟨_, rfl, (Or.inl rfl), h⟩
    · replace h := h.2 c21
      refine J_aload_n o 0 d_X2_readDrifter_24 rfl ?_
      refine J_callV (k := 18) (c := 2) o [] rfl (by decide) (Nat.le_of_ble_eq_true rfl) (Nat.le_of_ble_eq_true rfl) mth_X2_isWater iv_X2_isWater ml_RX2_192 ⟨Nat.le_of_ble_eq_true rfl, Nat.le_of_ble_eq_true rfl⟩ rfl rfl (Nat.le_of_ble_eq_true rfl) ⟨Nat.le_refl _, Nat.le_refl _⟩ d_X2_readDrifter_25 (w_X2_isWater (xL x) b  h) (aZ (fun r25 s25 hzr25 h => ?_))
      refine J_if_ne o 33 d_X2_readDrifter_28 rfl (fun c28 => ?_) (fun c28 => ?_)
      · replace h := h.1 c28
        refine J_aload_n o 0 d_X2_readDrifter_33 rfl ?_
        refine J_iconst (v := 1) o d_X2_readDrifter_34 iconst_1 ?_
        refine J_put o fl_RX2_39 la_2 rfl (Nat.le_of_ble_eq_true rfl) (Nat.le_of_ble_eq_true rfl) rfl rfl rfl rfl d_X2_readDrifter_35 ?_
        refine J_nS (fun s35 es35 => ?_)
        replace h := h s35 es35
        refine J_aload_n o 0 d_X2_readDrifter_38 rfl ?_
        refine J_getR (t := 10) o fl_RX2_56 rfl (Nat.le_of_ble_eq_true rfl) (Nat.le_of_ble_eq_true rfl) rfl rfl d_X2_readDrifter_39 ?_
        refine J_aload_n o 0 d_X2_readDrifter_42 rfl ?_
        refine J_getI o fl_RX2_24 rfl (Nat.le_of_ble_eq_true rfl) (Nat.le_of_ble_eq_true rfl) rfl d_X2_readDrifter_43 ?_
        refine J_put o fl_RX2_151 la_3 (W_kd W_10) (Nat.zero_le _) (W_hi W_10) rfl rfl rfl rfl d_X2_readDrifter_46 ?_
        refine J_nS (fun s46 es46 => ?_)
        replace h := h s46 es46
        refine J_aload_n o 0 d_X2_readDrifter_49 rfl ?_
        refine J_iconst (v := 0) o d_X2_readDrifter_50 iconst_0 ?_
        refine J_bipush (v := 9) o d_X2_readDrifter_51 bipush_9 ?_
        refine J_callV (k := 18) (c := 2) o [.int 0, .int 9] rfl (by decide) (Nat.le_of_ble_eq_true rfl) (Nat.le_of_ble_eq_true rfl) mth_X2_readNumber iv_X2_readNumber ml_RX2_101 ⟨Nat.le_of_ble_eq_true rfl, Nat.le_of_ble_eq_true rfl⟩ rfl rfl (Nat.le_of_ble_eq_true rfl) ⟨Nat.le_refl _, Nat.le_refl _⟩ d_X2_readDrifter_53 (w_X2_readNumber (xL x) b  h) (aZ (fun r53 s53 hzr53 h => ?_))
        refine J_if_ne o 61 d_X2_readDrifter_56 rfl (fun c56 => ?_) (fun c56 => ?_)
        · replace h := h.1 c56
          refine J_aload_n o 0 d_X2_readDrifter_61 rfl ?_
          refine J_getR (t := 10) o fl_RX2_56 rfl (Nat.le_of_ble_eq_true rfl) (Nat.le_of_ble_eq_true rfl) rfl rfl d_X2_readDrifter_62 ?_
          refine J_aload_n o 0 d_X2_readDrifter_65 rfl ?_
          refine J_getI o fl_RX2_21 rfl (Nat.le_of_ble_eq_true rfl) (Nat.le_of_ble_eq_true rfl) rfl d_X2_readDrifter_66 ?_
          refine J_put o fl_RX2_195 la_3 (W_kd W_10) (Nat.zero_le _) (W_hi W_10) rfl rfl rfl rfl d_X2_readDrifter_69 ?_
          refine J_nS (fun s69 es69 => ?_)
          replace h := h s69 es69
          refine J_aload_n o 0 d_X2_readDrifter_72 rfl ?_
          refine J_callV (k := 18) (c := 2) o [] rfl (by decide) (Nat.le_of_ble_eq_true rfl) (Nat.le_of_ble_eq_true rfl) mth_X2_readEnd iv_X2_readEnd ml_RX2_110 ⟨Nat.le_of_ble_eq_true rfl, Nat.le_of_ble_eq_true rfl⟩ rfl rfl (Nat.le_of_ble_eq_true rfl) ⟨Nat.le_refl _, Nat.le_refl _⟩ d_X2_readDrifter_73 (w_X2_readEnd (xL x) b  h) (aZ (fun r73 s73 hzr73 h => ?_))
          exact J_zret o hzr73 d_X2_readDrifter_76 ⟨_, rfl, hzr73, h⟩
        · replace h := h.2 c56
          refine J_iconst (v := 0) o d_X2_readDrifter_59 iconst_0 ?_
          exact J_zret o (Or.inl rfl) d_X2_readDrifter_60 ⟨_, rfl, (Or.inl rfl), h⟩
      · replace h := h.2 c28
        refine J_iconst (v := 0) o d_X2_readDrifter_31 iconst_0 ?_
        exact J_zret o (Or.inl rfl) d_X2_readDrifter_32 ⟨_, rfl, (Or.inl rfl), h⟩
  · replace h := h.2 c4
    refine J_aload_n o 0 d_X2_readDrifter_7 rfl ?_
    refine J_iconst (v := 1) o d_X2_readDrifter_8 iconst_1 ?_
    refine J_aload_n o 0 d_X2_readDrifter_9 rfl ?_
    refine J_getI o fl_RX2_18 rfl (Nat.le_of_ble_eq_true rfl) (Nat.le_of_ble_eq_true rfl) rfl d_X2_readDrifter_10 ?_
    refine J_callV (k := 18) (c := 2) o [.int 1, .int (σ 18 4)] rfl (by decide) (Nat.le_of_ble_eq_true rfl) (Nat.le_of_ble_eq_true rfl) mth_X2_fail iv_X2_fail ml_RX2_79 ⟨Nat.le_of_ble_eq_true rfl, Nat.le_of_ble_eq_true rfl⟩ rfl rfl (Nat.le_of_ble_eq_true rfl) ⟨Nat.le_refl _, Nat.le_refl _⟩ d_X2_readDrifter_13 (w_X2_fail (xL x) b  h) (aZ (fun r13 s13 hzr13 h => ?_))
    exact J_zret o hzr13 d_X2_readDrifter_16 ⟨_, rfl, hzr13, h⟩
theorem d_X2_readHelper_0 : decode cX2_readHelper 0 = .ok (.aload_n 0, 1) := by decide +kernel
theorem d_X2_readHelper_1 : decode cX2_readHelper 1 = .ok (.getfield 56, 3) := by decide +kernel
theorem d_X2_readHelper_4 : decode cX2_readHelper 4 = .ok (.getfield 74, 3) := by decide +kernel
theorem d_X2_readHelper_7 : decode cX2_readHelper 7 = .ok (.iconst 3, 1) := by decide +kernel
theorem d_X2_readHelper_8 : decode cX2_readHelper 8 = .ok (.if_icmp .lt 13, 3) := by decide +kernel
theorem d_X2_readHelper_11 : decode cX2_readHelper 11 = .ok (.aload_n 0, 1) := by decide +kernel
theorem d_X2_readHelper_12 : decode cX2_readHelper 12 = .ok (.iconst 4, 1) := by decide +kernel
theorem d_X2_readHelper_13 : decode cX2_readHelper 13 = .ok (.aload_n 0, 1) := by decide +kernel
theorem d_X2_readHelper_14 : decode cX2_readHelper 14 = .ok (.getfield 18, 3) := by decide +kernel
theorem d_X2_readHelper_17 : decode cX2_readHelper 17 = .ok (.invokevirtual 79, 3) := by decide +kernel
theorem d_X2_readHelper_20 : decode cX2_readHelper 20 = .ok (.ireturn, 1) := by decide +kernel
theorem d_X2_readHelper_21 : decode cX2_readHelper 21 = .ok (.aload_n 0, 1) := by decide +kernel
theorem d_X2_readHelper_22 : decode cX2_readHelper 22 = .ok (.invokevirtual 148, 3) := by decide +kernel
theorem d_X2_readHelper_25 : decode cX2_readHelper 25 = .ok (.ifCond .eq 38, 3) := by decide +kernel
theorem d_X2_readHelper_28 : decode cX2_readHelper 28 = .ok (.aload_n 0, 1) := by decide +kernel
theorem d_X2_readHelper_29 : decode cX2_readHelper 29 = .ok (.invokevirtual 192, 3) := by decide +kernel
theorem d_X2_readHelper_32 : decode cX2_readHelper 32 = .ok (.ifCond .eq 31, 3) := by decide +kernel
theorem d_X2_readHelper_35 : decode cX2_readHelper 35 = .ok (.aload_n 0, 1) := by decide +kernel
theorem d_X2_readHelper_36 : decode cX2_readHelper 36 = .ok (.iconst 0, 1) := by decide +kernel
theorem d_X2_readHelper_37 : decode cX2_readHelper 37 = .ok (.aload_n 0, 1) := by decide +kernel
theorem d_X2_readHelper_38 : decode cX2_readHelper 38 = .ok (.getfield 49, 3) := by decide +kernel
theorem d_X2_readHelper_41 : decode cX2_readHelper 41 = .ok (.ifCond .eq 13, 3) := by decide +kernel
theorem d_X2_readHelper_44 : decode cX2_readHelper 44 = .ok (.aload_n 0, 1) := by decide +kernel
theorem d_X2_readHelper_45 : decode cX2_readHelper 45 = .ok (.getfield 56, 3) := by decide +kernel
theorem d_X2_readHelper_48 : decode cX2_readHelper 48 = .ok (.getfield 198, 3) := by decide +kernel
theorem d_X2_readHelper_51 : decode cX2_readHelper 51 = .ok (.goto 6, 3) := by decide +kernel
theorem d_X2_readHelper_54 : decode cX2_readHelper 54 = .ok (.sipush 999, 3) := by decide +kernel
theorem d_X2_readHelper_57 : decode cX2_readHelper 57 = .ok (.invokevirtual 101, 3) := by decide +kernel
theorem d_X2_readHelper_60 : decode cX2_readHelper 60 = .ok (.ifCond .ne 5, 3) := by decide +kernel
theorem d_X2_readHelper_63 : decode cX2_readHelper 63 = .ok (.iconst 0, 1) := by decide +kernel
theorem d_X2_readHelper_64 : decode cX2_readHelper 64 = .ok (.ireturn, 1) := by decide +kernel
theorem d_X2_readHelper_65 : decode cX2_readHelper 65 = .ok (.aload_n 0, 1) := by decide +kernel
theorem d_X2_readHelper_66 : decode cX2_readHelper 66 = .ok (.getfield 56, 3) := by decide +kernel
theorem d_X2_readHelper_69 : decode cX2_readHelper 69 = .ok (.aload_n 0, 1) := by decide +kernel
theorem d_X2_readHelper_70 : decode cX2_readHelper 70 = .ok (.getfield 24, 3) := by decide +kernel
theorem d_X2_readHelper_73 : decode cX2_readHelper 73 = .ok (.aload_n 0, 1) := by decide +kernel
theorem d_X2_readHelper_74 : decode cX2_readHelper 74 = .ok (.getfield 21, 3) := by decide +kernel
theorem d_X2_readHelper_77 : decode cX2_readHelper 77 = .ok (.invokevirtual 200, 3) := by decide +kernel
theorem d_X2_readHelper_80 : decode cX2_readHelper 80 = .ok (.aload_n 0, 1) := by decide +kernel
theorem d_X2_readHelper_81 : decode cX2_readHelper 81 = .ok (.invokevirtual 110, 3) := by decide +kernel
theorem d_X2_readHelper_84 : decode cX2_readHelper 84 = .ok (.ireturn, 1) := by decide +kernel
abbrev rm_X2_readHelper : Room := { frames := 3, cells := 0, slots := 0, locals := 65 }
set_option maxHeartbeats 4000000 in
set_option maxRecDepth 20000 in
theorem c_X2_readHelper_57 {x : Cx} {b : Wy} (o : Ok x (wC b) cX2_readHelper 1 RX2 (some .boolean) rm_X2_readHelper)  {K : Int32 → Sg → Prop}   : ∀ (k1 : Int32) (k2 : Int32) (σ : Sg), m_X2_readHelper_j57  K  k1 k2 σ → J x (wC b) (FinC x (wC b) (PZ K) (0, 0)) 57 [(0, .ref (wB (wC b) + 18))] [.int k2, .int k1, .ref (wB (wC b) + 18)] (0, 0) σ := by
  intro k1 k2 σ  h
  unfold m_X2_readHelper_j57 at h
  refine J_callV (k := 18) (c := 2) o [.int k1, .int k2] rfl (by decide) (Nat.le_of_ble_eq_true rfl) (Nat.le_of_ble_eq_true rfl) mth_X2_readNumber iv_X2_readNumber ml_RX2_101 ⟨Nat.le_of_ble_eq_true rfl, Nat.le_of_ble_eq_true rfl⟩ rfl rfl (Nat.le_of_ble_eq_true rfl) ⟨Nat.le_refl _, Nat.le_refl _⟩ d_X2_readHelper_57 (w_X2_readNumber (xL x) b  h) (aZ (fun r57 s57 hzr57 h => ?_))
  refine J_if_ne o 65 d_X2_readHelper_60 rfl (fun c60 => ?_) (fun c60 => ?_)
  · replace h := h.1 c60
    refine J_aload_n o 0 d_X2_readHelper_65 rfl ?_
    refine J_getR (t := 10) o fl_RX2_56 rfl (Nat.le_of_ble_eq_true rfl) (Nat.le_of_ble_eq_true rfl) rfl rfl d_X2_readHelper_66 ?_
    refine J_aload_n o 0 d_X2_readHelper_69 rfl ?_
    refine J_getI o fl_RX2_24 rfl (Nat.le_of_ble_eq_true rfl) (Nat.le_of_ble_eq_true rfl) rfl d_X2_readHelper_70 ?_
    refine J_aload_n o 0 d_X2_readHelper_73 rfl ?_
    refine J_getI o fl_RX2_21 rfl (Nat.le_of_ble_eq_true rfl) (Nat.le_of_ble_eq_true rfl) rfl d_X2_readHelper_74 ?_
    refine J_callV (k := 10) (c := 3) o [.int (s57 18 6), .int (s57 18 5)] (W_kd W_10) (by decide) (Nat.zero_le _) (W_hi W_10) mth_X3_addHelper iv_X3_addHelper ml_RX2_200 ⟨Nat.le_of_ble_eq_true rfl, Nat.le_of_ble_eq_true rfl⟩ rfl rfl (Nat.le_of_ble_eq_true rfl) ⟨Nat.le_refl _, Nat.le_refl _⟩ d_X2_readHelper_77 (w_X3_addHelper (xL x) b W_10 h) (aV (fun s77 h => ?_))
    refine J_aload_n o 0 d_X2_readHelper_80 rfl ?_
    refine J_callV (k := 18) (c := 2) o [] rfl (by decide) (Nat.le_of_ble_eq_true rfl) (Nat.le_of_ble_eq_true rfl) mth_X2_readEnd iv_X2_readEnd ml_RX2_110 ⟨Nat.le_of_ble_eq_true rfl, Nat.le_of_ble_eq_true rfl⟩ rfl rfl (Nat.le_of_ble_eq_true rfl) ⟨Nat.le_refl _, Nat.le_refl _⟩ d_X2_readHelper_81 (w_X2_readEnd (xL x) b  h) (aZ (fun r81 s81 hzr81 h => ?_))
    exact J_zret o hzr81 d_X2_readHelper_84 ⟨_, rfl, hzr81, h⟩
  · replace h := h.2 c60
    refine J_iconst (v := 0) o d_X2_readHelper_63 iconst_0 ?_
    exact J_zret o (Or.inl rfl) d_X2_readHelper_64 ⟨_, rfl, (Or.inl rfl), h⟩
set_option maxHeartbeats 4000000 in
set_option maxRecDepth 20000 in
theorem w_X2_readHelper (l : Launch) (b : Wy)  {σ : Sg} {K : Int32 → Sg → Prop}  (h : m_X2_readHelper  σ K) : Ct l (wC b) yX2_readHelper cX2_readHelper 1 (some .boolean) rm_X2_readHelper [.ref (wB (wC b) + 18)] σ (PZ K) := by
  unfold m_X2_readHelper at h
  refine Ct.of (own := RX2) (by decide +kernel) rfl (Nat.le_of_ble_eq_true rfl) (fun x hx o => ?_)
  subst hx
  show J x (wC b) (FinC x (wC b) (PZ K) (0, 0)) 0 [(0, .ref (wB (wC b) + 18))] [] (0, 0) σ
  refine J_aload_n o 0 d_X2_readHelper_0 rfl ?_
  refine J_getR (t := 10) o fl_RX2_56 rfl (Nat.le_of_ble_eq_true rfl) (Nat.le_of_ble_eq_true rfl) rfl rfl d_X2_readHelper_1 ?_
  refine J_getI o fl_RX2_74 (W_kd W_10) (Nat.zero_le _) (W_hi W_10) rfl d_X2_readHelper_4 ?_
  refine J_iconst (v := 3) o d_X2_readHelper_7 iconst_3 ?_
  refine J_icmp_lt o 21 d_X2_readHelper_8 rfl (fun c8 => ?_) (fun c8 => ?_)
  · replace h := h.1 c8
    refine J_aload_n o 0 d_X2_readHelper_21 rfl ?_
    refine J_callV (k := 18) (c := 2) o [] rfl (by decide) (Nat.le_of_ble_eq_true rfl) (Nat.le_of_ble_eq_true rfl) mth_X2_readCell iv_X2_readCell ml_RX2_148 ⟨Nat.le_of_ble_eq_true rfl, Nat.le_of_ble_eq_true rfl⟩ rfl rfl (Nat.le_of_ble_eq_true rfl) ⟨Nat.le_refl _, Nat.le_refl _⟩ d_X2_readHelper_22 (w_X2_readCell (xL x) b  h) (aZ (fun r22 s22 hzr22 h => ?_))
    refine J_if_eq o 63 d_X2_readHelper_25 rfl (fun c25 => ?_) (fun c25 => ?_)
    · replace h := h.1 c25
      refine J_iconst (v := 0) o d_X2_readHelper_63 iconst_0 ?_
      exact J_zret o (Or.inl rfl) d_X2_readHelper_64 ⟨_, rfl, (Or.inl rfl), h⟩
    · replace h := h.2 c25
      refine J_aload_n o 0 d_X2_readHelper_28 rfl ?_
      refine J_callV (k := 18) (c := 2) o [] rfl (by decide) (Nat.le_of_ble_eq_true rfl) (Nat.le_of_ble_eq_true rfl) mth_X2_isWater iv_X2_isWater ml_RX2_192 ⟨Nat.le_of_ble_eq_true rfl, Nat.le_of_ble_eq_true rfl⟩ rfl rfl (Nat.le_of_ble_eq_true rfl) ⟨Nat.le_refl _, Nat.le_refl _⟩ d_X2_readHelper_29 (w_X2_isWater (xL x) b  h) (aZ (fun r29 s29 hzr29 h => ?_))
      refine J_if_eq o 63 d_X2_readHelper_32 rfl (fun c32 => ?_) (fun c32 => ?_)
      · replace h := h.1 c32
        refine J_iconst (v := 0) o d_X2_readHelper_63 iconst_0 ?_
        exact J_zret o (Or.inl rfl) d_X2_readHelper_64 ⟨_, rfl, (Or.inl rfl), h⟩
      · replace h := h.2 c32
        refine J_aload_n o 0 d_X2_readHelper_35 rfl ?_
        refine J_iconst (v := 0) o d_X2_readHelper_36 iconst_0 ?_
        refine J_aload_n o 0 d_X2_readHelper_37 rfl ?_
        refine J_getI o fl_RX2_49 rfl (Nat.le_of_ble_eq_true rfl) (Nat.le_of_ble_eq_true rfl) rfl d_X2_readHelper_38 ?_
        refine J_if_eq o 54 d_X2_readHelper_41 rfl (fun c41 => ?_) (fun c41 => ?_)
        · replace h := h.1 c41
          refine J_sipush (v := 999) o d_X2_readHelper_54 sipush_999 ?_
          exact c_X2_readHelper_57 o   0 999 s29  h
        · replace h := h.2 c41
          refine J_aload_n o 0 d_X2_readHelper_44 rfl ?_
          refine J_getR (t := 10) o fl_RX2_56 rfl (Nat.le_of_ble_eq_true rfl) (Nat.le_of_ble_eq_true rfl) rfl rfl d_X2_readHelper_45 ?_
          refine J_getI o fl_RX2_198 (W_kd W_10) (Nat.zero_le _) (W_hi W_10) rfl d_X2_readHelper_48 ?_
          refine J_goto o 57 d_X2_readHelper_51 rfl ?_
          exact c_X2_readHelper_57 o   0 (s29 10 3) s29  h
  · replace h := h.2 c8
    refine J_aload_n o 0 d_X2_readHelper_11 rfl ?_
    refine J_iconst (v := 4) o d_X2_readHelper_12 iconst_4 ?_
    refine J_aload_n o 0 d_X2_readHelper_13 rfl ?_
    refine J_getI o fl_RX2_18 rfl (Nat.le_of_ble_eq_true rfl) (Nat.le_of_ble_eq_true rfl) rfl d_X2_readHelper_14 ?_
    refine J_callV (k := 18) (c := 2) o [.int 4, .int (σ 18 4)] rfl (by decide) (Nat.le_of_ble_eq_true rfl) (Nat.le_of_ble_eq_true rfl) mth_X2_fail iv_X2_fail ml_RX2_79 ⟨Nat.le_of_ble_eq_true rfl, Nat.le_of_ble_eq_true rfl⟩ rfl rfl (Nat.le_of_ble_eq_true rfl) ⟨Nat.le_refl _, Nat.le_refl _⟩ d_X2_readHelper_17 (w_X2_fail (xL x) b  h) (aZ (fun r17 s17 hzr17 h => ?_))
    exact J_zret o hzr17 d_X2_readHelper_20 ⟨_, rfl, hzr17, h⟩
theorem d_X2_readPort_0 : decode cX2_readPort 0 = .ok (.aload_n 0, 1) := by decide +kernel
theorem d_X2_readPort_1 : decode cX2_readPort 1 = .ok (.getfield 43, 3) := by decide +kernel
theorem d_X2_readPort_4 : decode cX2_readPort 4 = .ok (.ifCond .eq 13, 3) := by decide +kernel
theorem d_X2_readPort_7 : decode cX2_readPort 7 = .ok (.aload_n 0, 1) := by decide +kernel
theorem d_X2_readPort_8 : decode cX2_readPort 8 = .ok (.iconst 1, 1) := by decide +kernel
theorem d_X2_readPort_9 : decode cX2_readPort 9 = .ok (.aload_n 0, 1) := by decide +kernel
theorem d_X2_readPort_10 : decode cX2_readPort 10 = .ok (.getfield 18, 3) := by decide +kernel
theorem d_X2_readPort_13 : decode cX2_readPort 13 = .ok (.invokevirtual 79, 3) := by decide +kernel
theorem d_X2_readPort_16 : decode cX2_readPort 16 = .ok (.ireturn, 1) := by decide +kernel
theorem d_X2_readPort_17 : decode cX2_readPort 17 = .ok (.aload_n 0, 1) := by decide +kernel
theorem d_X2_readPort_18 : decode cX2_readPort 18 = .ok (.invokevirtual 148, 3) := by decide +kernel
theorem d_X2_readPort_21 : decode cX2_readPort 21 = .ok (.ifCond .eq 10, 3) := by decide +kernel
theorem d_X2_readPort_24 : decode cX2_readPort 24 = .ok (.aload_n 0, 1) := by decide +kernel
theorem d_X2_readPort_25 : decode cX2_readPort 25 = .ok (.invokevirtual 192, 3) := by decide +kernel
theorem d_X2_readPort_28 : decode cX2_readPort 28 = .ok (.ifCond .ne 5, 3) := by decide +kernel
theorem d_X2_readPort_31 : decode cX2_readPort 31 = .ok (.iconst 0, 1) := by decide +kernel
theorem d_X2_readPort_32 : decode cX2_readPort 32 = .ok (.ireturn, 1) := by decide +kernel
theorem d_X2_readPort_33 : decode cX2_readPort 33 = .ok (.aload_n 0, 1) := by decide +kernel
theorem d_X2_readPort_34 : decode cX2_readPort 34 = .ok (.iconst 1, 1) := by decide +kernel
theorem d_X2_readPort_35 : decode cX2_readPort 35 = .ok (.putfield 43, 3) := by decide +kernel
theorem d_X2_readPort_38 : decode cX2_readPort 38 = .ok (.aload_n 0, 1) := by decide +kernel
theorem d_X2_readPort_39 : decode cX2_readPort 39 = .ok (.getfield 56, 3) := by decide +kernel
theorem d_X2_readPort_42 : decode cX2_readPort 42 = .ok (.aload_n 0, 1) := by decide +kernel
theorem d_X2_readPort_43 : decode cX2_readPort 43 = .ok (.getfield 24, 3) := by decide +kernel
theorem d_X2_readPort_46 : decode cX2_readPort 46 = .ok (.putfield 153, 3) := by decide +kernel
theorem d_X2_readPort_49 : decode cX2_readPort 49 = .ok (.aload_n 0, 1) := by decide +kernel
theorem d_X2_readPort_50 : decode cX2_readPort 50 = .ok (.aload_n 0, 1) := by decide +kernel
theorem d_X2_readPort_51 : decode cX2_readPort 51 = .ok (.getfield 56, 3) := by decide +kernel
theorem d_X2_readPort_54 : decode cX2_readPort 54 = .ok (.getfield 204, 3) := by decide +kernel
theorem d_X2_readPort_57 : decode cX2_readPort 57 = .ok (.iconst 0, 1) := by decide +kernel
theorem d_X2_readPort_58 : decode cX2_readPort 58 = .ok (.invokevirtual 185, 3) := by decide +kernel
theorem d_X2_readPort_61 : decode cX2_readPort 61 = .ok (.ifCond .ne 5, 3) := by decide +kernel
theorem d_X2_readPort_64 : decode cX2_readPort 64 = .ok (.iconst 0, 1) := by decide +kernel
theorem d_X2_readPort_65 : decode cX2_readPort 65 = .ok (.ireturn, 1) := by decide +kernel
theorem d_X2_readPort_66 : decode cX2_readPort 66 = .ok (.aload_n 0, 1) := by decide +kernel
theorem d_X2_readPort_67 : decode cX2_readPort 67 = .ok (.getfield 56, 3) := by decide +kernel
theorem d_X2_readPort_70 : decode cX2_readPort 70 = .ok (.aload_n 0, 1) := by decide +kernel
theorem d_X2_readPort_71 : decode cX2_readPort 71 = .ok (.getfield 30, 3) := by decide +kernel
theorem d_X2_readPort_74 : decode cX2_readPort 74 = .ok (.putfield 207, 3) := by decide +kernel
theorem d_X2_readPort_77 : decode cX2_readPort 77 = .ok (.iconst 1, 1) := by decide +kernel
theorem d_X2_readPort_78 : decode cX2_readPort 78 = .ok (.ireturn, 1) := by decide +kernel
abbrev rm_X2_readPort : Room := { frames := 7, cells := 0, slots := 0, locals := 152 }
set_option maxHeartbeats 4000000 in
set_option maxRecDepth 20000 in
theorem w_X2_readPort (l : Launch) (b : Wy)  {σ : Sg} {K : Int32 → Sg → Prop}  (h : m_X2_readPort  σ K) : Ct l (wC b) yX2_readPort cX2_readPort 1 (some .boolean) rm_X2_readPort [.ref (wB (wC b) + 18)] σ (PZ K) := by
  unfold m_X2_readPort at h
  refine Ct.of (own := RX2) (by decide +kernel) rfl (Nat.le_of_ble_eq_true rfl) (fun x hx o => ?_)
  subst hx
  show J x (wC b) (FinC x (wC b) (PZ K) (0, 0)) 0 [(0, .ref (wB (wC b) + 18))] [] (0, 0) σ
  refine J_aload_n o 0 d_X2_readPort_0 rfl ?_
  refine J_getI o fl_RX2_43 rfl (Nat.le_of_ble_eq_true rfl) (Nat.le_of_ble_eq_true rfl) rfl d_X2_readPort_1 ?_
  refine J_if_eq o 17 d_X2_readPort_4 rfl (fun c4 => ?_) (fun c4 => ?_)
  · replace h := h.1 c4
    refine J_aload_n o 0 d_X2_readPort_17 rfl ?_
    refine J_callV (k := 18) (c := 2) o [] rfl (by decide) (Nat.le_of_ble_eq_true rfl) (Nat.le_of_ble_eq_true rfl) mth_X2_readCell iv_X2_readCell ml_RX2_148 ⟨Nat.le_of_ble_eq_true rfl, Nat.le_of_ble_eq_true rfl⟩ rfl rfl (Nat.le_of_ble_eq_true rfl) ⟨Nat.le_refl _, Nat.le_refl _⟩ d_X2_readPort_18 (w_X2_readCell (xL x) b  h) (aZ (fun r18 s18 hzr18 h => ?_))
    refine J_if_eq o 31 d_X2_readPort_21 rfl (fun c21 => ?_) (fun c21 => ?_)
    · replace h := h.1 c21
      refine J_iconst (v := 0) o d_X2_readPort_31 iconst_0 ?_
      exact J_zret o (Or.inl rfl) d_X2_readPort_32 ⟨_, rfl, (Or.inl rfl), h⟩
    · replace h := h.2 c21
      refine J_aload_n o 0 d_X2_readPort_24 rfl ?_
      refine J_callV (k := 18) (c := 2) o [] rfl (by decide) (Nat.le_of_ble_eq_true rfl) (Nat.le_of_ble_eq_true rfl) mth_X2_isWater iv_X2_isWater ml_RX2_192 ⟨Nat.le_of_ble_eq_true rfl, Nat.le_of_ble_eq_true rfl⟩ rfl rfl (Nat.le_of_ble_eq_true rfl) ⟨Nat.le_refl _, Nat.le_refl _⟩ d_X2_readPort_25 (w_X2_isWater (xL x) b  h) (aZ (fun r25 s25 hzr25 h => ?_))
      refine J_if_ne o 33 d_X2_readPort_28 rfl (fun c28 => ?_) (fun c28 => ?_)
      · replace h := h.1 c28
        refine J_aload_n o 0 d_X2_readPort_33 rfl ?_
        refine J_iconst (v := 1) o d_X2_readPort_34 iconst_1 ?_
        refine J_put o fl_RX2_43 la_2 rfl (Nat.le_of_ble_eq_true rfl) (Nat.le_of_ble_eq_true rfl) rfl rfl rfl rfl d_X2_readPort_35 ?_
        refine J_nS (fun s35 es35 => ?_)
        replace h := h s35 es35
        refine J_aload_n o 0 d_X2_readPort_38 rfl ?_
        refine J_getR (t := 10) o fl_RX2_56 rfl (Nat.le_of_ble_eq_true rfl) (Nat.le_of_ble_eq_true rfl) rfl rfl d_X2_readPort_39 ?_
        refine J_aload_n o 0 d_X2_readPort_42 rfl ?_
        refine J_getI o fl_RX2_24 rfl (Nat.le_of_ble_eq_true rfl) (Nat.le_of_ble_eq_true rfl) rfl d_X2_readPort_43 ?_
        refine J_put o fl_RX2_153 la_3 (W_kd W_10) (Nat.zero_le _) (W_hi W_10) rfl rfl rfl rfl d_X2_readPort_46 ?_
        refine J_nS (fun s46 es46 => ?_)
        replace h := h s46 es46
        refine J_aload_n o 0 d_X2_readPort_49 rfl ?_
        refine J_aload_n o 0 d_X2_readPort_50 rfl ?_
        refine J_getR (t := 10) o fl_RX2_56 rfl (Nat.le_of_ble_eq_true rfl) (Nat.le_of_ble_eq_true rfl) rfl rfl d_X2_readPort_51 ?_
        refine J_getR (t := (10 + 6)) o fl_RX2_204 (W_kd W_10) (Nat.zero_le _) (W_hi W_10) rfl (W_t W_10 15 (by decide)) d_X2_readPort_54 ?_
        refine J_iconst (v := 0) o d_X2_readPort_57 iconst_0 ?_
        refine J_callV (k := 18) (c := 2) o [.ref (wB (wC b) + (10 + 6)), .int 0] rfl (by decide) (Nat.le_of_ble_eq_true rfl) (Nat.le_of_ble_eq_true rfl) mth_X2_readDirections iv_X2_readDirections ml_RX2_185 ⟨Nat.le_of_ble_eq_true rfl, Nat.le_of_ble_eq_true rfl⟩ rfl rfl (Nat.le_of_ble_eq_true rfl) ⟨Nat.le_refl _, Nat.le_refl _⟩ d_X2_readPort_58 (w_X2_readDirections (xL x) b (W_A6 W_10) h) (aZ (fun r58 s58 hzr58 h => ?_))
        refine J_if_ne o 66 d_X2_readPort_61 rfl (fun c61 => ?_) (fun c61 => ?_)
        · replace h := h.1 c61
          refine J_aload_n o 0 d_X2_readPort_66 rfl ?_
          refine J_getR (t := 10) o fl_RX2_56 rfl (Nat.le_of_ble_eq_true rfl) (Nat.le_of_ble_eq_true rfl) rfl rfl d_X2_readPort_67 ?_
          refine J_aload_n o 0 d_X2_readPort_70 rfl ?_
          refine J_getI o fl_RX2_30 rfl (Nat.le_of_ble_eq_true rfl) (Nat.le_of_ble_eq_true rfl) rfl d_X2_readPort_71 ?_
          refine J_put o fl_RX2_207 la_3 (W_kd W_10) (Nat.zero_le _) (W_hi W_10) rfl rfl rfl rfl d_X2_readPort_74 ?_
          refine J_nS (fun s74 es74 => ?_)
          replace h := h s74 es74
          refine J_iconst (v := 1) o d_X2_readPort_77 iconst_1 ?_
          exact J_zret o (Or.inr rfl) d_X2_readPort_78 ⟨_, rfl, (Or.inr rfl), h⟩
        · replace h := h.2 c61
          refine J_iconst (v := 0) o d_X2_readPort_64 iconst_0 ?_
          exact J_zret o (Or.inl rfl) d_X2_readPort_65 ⟨_, rfl, (Or.inl rfl), h⟩
      · replace h := h.2 c28
        refine J_iconst (v := 0) o d_X2_readPort_31 iconst_0 ?_
        exact J_zret o (Or.inl rfl) d_X2_readPort_32 ⟨_, rfl, (Or.inl rfl), h⟩
  · replace h := h.2 c4
    refine J_aload_n o 0 d_X2_readPort_7 rfl ?_
    refine J_iconst (v := 1) o d_X2_readPort_8 iconst_1 ?_
    refine J_aload_n o 0 d_X2_readPort_9 rfl ?_
    refine J_getI o fl_RX2_18 rfl (Nat.le_of_ble_eq_true rfl) (Nat.le_of_ble_eq_true rfl) rfl d_X2_readPort_10 ?_
    refine J_callV (k := 18) (c := 2) o [.int 1, .int (σ 18 4)] rfl (by decide) (Nat.le_of_ble_eq_true rfl) (Nat.le_of_ble_eq_true rfl) mth_X2_fail iv_X2_fail ml_RX2_79 ⟨Nat.le_of_ble_eq_true rfl, Nat.le_of_ble_eq_true rfl⟩ rfl rfl (Nat.le_of_ble_eq_true rfl) ⟨Nat.le_refl _, Nat.le_refl _⟩ d_X2_readPort_13 (w_X2_fail (xL x) b  h) (aZ (fun r13 s13 hzr13 h => ?_))
    exact J_zret o hzr13 d_X2_readPort_16 ⟨_, rfl, hzr13, h⟩
