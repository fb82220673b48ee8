/-! the walks, printed by program -/
theorem d_X5_reach_0 : decode cX5_reach 0 = .ok (.aload_n 0, 1) := by decide +kernel
theorem d_X5_reach_1 : decode cX5_reach 1 = .ok (.iconst 0, 1) := by decide +kernel
theorem d_X5_reach_2 : decode cX5_reach 2 = .ok (.putfield 50, 3) := by decide +kernel
theorem d_X5_reach_5 : decode cX5_reach 5 = .ok (.aload_n 0, 1) := by decide +kernel
theorem d_X5_reach_6 : decode cX5_reach 6 = .ok (.aload_n 0, 1) := by decide +kernel
theorem d_X5_reach_7 : decode cX5_reach 7 = .ok (.iload_n 1, 1) := by decide +kernel
theorem d_X5_reach_8 : decode cX5_reach 8 = .ok (.invokevirtual 235, 3) := by decide +kernel
theorem d_X5_reach_11 : decode cX5_reach 11 = .ok (.ifCond .ne 7, 3) := by decide +kernel
theorem d_X5_reach_14 : decode cX5_reach 14 = .ok (.iconst 1, 1) := by decide +kernel
theorem d_X5_reach_15 : decode cX5_reach 15 = .ok (.goto 4, 3) := by decide +kernel
theorem d_X5_reach_18 : decode cX5_reach 18 = .ok (.iconst 0, 1) := by decide +kernel
theorem d_X5_reach_19 : decode cX5_reach 19 = .ok (.iconst 1, 1) := by decide +kernel
theorem d_X5_reach_20 : decode cX5_reach 20 = .ok (.iconst 0, 1) := by decide +kernel
theorem d_X5_reach_21 : decode cX5_reach 21 = .ok (.invokevirtual 216, 3) := by decide +kernel
theorem d_X5_reach_24 : decode cX5_reach 24 = .ok (.ifCond .ne 27, 3) := by decide +kernel
theorem d_X5_reach_27 : decode cX5_reach 27 = .ok (.aload_n 0, 1) := by decide +kernel
theorem d_X5_reach_28 : decode cX5_reach 28 = .ok (.iload_n 2, 1) := by decide +kernel
theorem d_X5_reach_29 : decode cX5_reach 29 = .ok (.iconst 0, 1) := by decide +kernel
theorem d_X5_reach_30 : decode cX5_reach 30 = .ok (.bipush 60, 2) := by decide +kernel
theorem d_X5_reach_32 : decode cX5_reach 32 = .ok (.invokestatic 56, 3) := by decide +kernel
theorem d_X5_reach_35 : decode cX5_reach 35 = .ok (.ifCond .ne 7, 3) := by decide +kernel
theorem d_X5_reach_38 : decode cX5_reach 38 = .ok (.iconst 1, 1) := by decide +kernel
theorem d_X5_reach_39 : decode cX5_reach 39 = .ok (.goto 4, 3) := by decide +kernel
theorem d_X5_reach_42 : decode cX5_reach 42 = .ok (.iconst 0, 1) := by decide +kernel
theorem d_X5_reach_43 : decode cX5_reach 43 = .ok (.iconst 2, 1) := by decide +kernel
theorem d_X5_reach_44 : decode cX5_reach 44 = .ok (.iconst 1, 1) := by decide +kernel
theorem d_X5_reach_45 : decode cX5_reach 45 = .ok (.invokevirtual 216, 3) := by decide +kernel
theorem d_X5_reach_48 : decode cX5_reach 48 = .ok (.ifCond .eq 5, 3) := by decide +kernel
theorem d_X5_reach_51 : decode cX5_reach 51 = .ok (.iconst 0, 1) := by decide +kernel
theorem d_X5_reach_52 : decode cX5_reach 52 = .ok (.ireturn, 1) := by decide +kernel
theorem d_X5_reach_53 : decode cX5_reach 53 = .ok (.aload_n 0, 1) := by decide +kernel
theorem d_X5_reach_54 : decode cX5_reach 54 = .ok (.iload_n 1, 1) := by decide +kernel
theorem d_X5_reach_55 : decode cX5_reach 55 = .ok (.invokevirtual 280, 3) := by decide +kernel
theorem d_X5_reach_58 : decode cX5_reach 58 = .ok (.istore_n 3, 1) := by decide +kernel
theorem d_X5_reach_59 : decode cX5_reach 59 = .ok (.iconst 0, 1) := by decide +kernel
theorem d_X5_reach_60 : decode cX5_reach 60 = .ok (.istore 4, 2) := by decide +kernel
theorem d_X5_reach_62 : decode cX5_reach 62 = .ok (.iconst 0, 1) := by decide +kernel
theorem d_X5_reach_63 : decode cX5_reach 63 = .ok (.istore 5, 2) := by decide +kernel
theorem d_X5_reach_65 : decode cX5_reach 65 = .ok (.iload 5, 2) := by decide +kernel
theorem d_X5_reach_67 : decode cX5_reach 67 = .ok (.sipush 240, 3) := by decide +kernel
theorem d_X5_reach_70 : decode cX5_reach 70 = .ok (.if_icmp .ge 36, 3) := by decide +kernel
theorem d_X5_reach_73 : decode cX5_reach 73 = .ok (.iload 4, 2) := by decide +kernel
theorem d_X5_reach_75 : decode cX5_reach 75 = .ok (.aload_n 0, 1) := by decide +kernel
theorem d_X5_reach_76 : decode cX5_reach 76 = .ok (.getfield 37, 3) := by decide +kernel
theorem d_X5_reach_79 : decode cX5_reach 79 = .ok (.iload_n 2, 1) := by decide +kernel
theorem d_X5_reach_80 : decode cX5_reach 80 = .ok (.aaload, 1) := by decide +kernel
theorem d_X5_reach_81 : decode cX5_reach 81 = .ok (.iload 5, 2) := by decide +kernel
theorem d_X5_reach_83 : decode cX5_reach 83 = .ok (.iaload, 1) := by decide +kernel
theorem d_X5_reach_84 : decode cX5_reach 84 = .ok (.aload_n 0, 1) := by decide +kernel
theorem d_X5_reach_85 : decode cX5_reach 85 = .ok (.iload_n 1, 1) := by decide +kernel
theorem d_X5_reach_86 : decode cX5_reach 86 = .ok (.invokevirtual 244, 3) := by decide +kernel
theorem d_X5_reach_89 : decode cX5_reach 89 = .ok (.if_icmp .gt 7, 3) := by decide +kernel
theorem d_X5_reach_92 : decode cX5_reach 92 = .ok (.iconst 1, 1) := by decide +kernel
theorem d_X5_reach_93 : decode cX5_reach 93 = .ok (.goto 4, 3) := by decide +kernel
theorem d_X5_reach_96 : decode cX5_reach 96 = .ok (.iconst 0, 1) := by decide +kernel
theorem d_X5_reach_97 : decode cX5_reach 97 = .ok (.iadd, 1) := by decide +kernel
theorem d_X5_reach_98 : decode cX5_reach 98 = .ok (.istore 4, 2) := by decide +kernel
theorem d_X5_reach_100 : decode cX5_reach 100 = .ok (.iinc 5 1, 3) := by decide +kernel
theorem d_X5_reach_103 : decode cX5_reach 103 = .ok (.goto (-38), 3) := by decide +kernel
theorem d_X5_reach_106 : decode cX5_reach 106 = .ok (.iload 4, 2) := by decide +kernel
theorem d_X5_reach_108 : decode cX5_reach 108 = .ok (.ireturn, 1) := by decide +kernel
abbrev rm_X5_reach : Room := { frames := 7, cells := 0, slots := 0, locals := 163 }
set_option maxHeartbeats 4000000 in
set_option maxRecDepth 20000 in
theorem c_X5_reach_65 {x : Cx} {b : Wy} (o : Ok x (wM b) cX5_reach 6 RX5 (some .int) rm_X5_reach) {v1 : Int32} {v2 : Int32} {K : Int32 → Sg → Prop}   : ∀ (n : Nat) (l4 : Int32) (l5 : Int32) (σ : Sg), m_X5_reach_l65 v1 v2 K  n l4 l5 σ → J x (wM b) (FinC x (wM b) (PI K) (0, 0)) 65 [(0, .ref (wB (wM b) + 347)), (1, .int v1), (2, .int v2), (4, .int l4), (5, .int l5)] [] (0, 0) σ := by
  intro n
  induction n with
  | zero =>
    intro l4 l5 σ  h
    exact False.elim h
  | succ n ih =>
    intro l4 l5 σ  h
    unfold m_X5_reach_l65 at h
    refine J_iload o 4 d_X5_reach_65 rfl ?_
    refine J_sipush (v := 240) o d_X5_reach_67 sipush_240 ?_
    refine J_icmp_ge o 106 d_X5_reach_70 rfl (fun c70 => ?_) (fun c70 => ?_)
    · replace h := h.1 c70
      refine J_iload o 3 d_X5_reach_106 rfl ?_
      exact J_iret o d_X5_reach_108 ⟨_, rfl, h⟩
    · replace h := h.2 c70
      refine J_iload o 3 d_X5_reach_73 rfl ?_
      refine J_aload_n o 0 d_X5_reach_75 rfl ?_
      refine J_getR (t := 363) o fl_RX5_37 rfl (Nat.le_of_ble_eq_true rfl) (Nat.le_of_ble_eq_true rfl) rfl rfl d_X5_reach_76 ?_
      refine J_iload_n o 2 d_X5_reach_79 rfl ?_
      have b80 := h.1
      replace h := h.2
      refine J_aald (t := (363 + 1 + v2.toNatClampNeg)) o 2 (by decide) (G_k G_363) (G_lo G_363) (G_hi G_363) (vpc (G_l G_363) b80) (G_t G_363 _) d_X5_reach_80 ?_
      refine J_iload o 4 d_X5_reach_81 rfl ?_
      have b83 := h.1
      replace h := h.2
      refine J_iald o (G_A G_363 b80) (vpc (G_L G_363 b80) b83) d_X5_reach_83 ?_
      refine J_aload_n o 0 d_X5_reach_84 rfl ?_
      refine J_iload_n o 1 d_X5_reach_85 rfl ?_
      refine J_callV (k := 347) (c := 5) o [.int v1] rfl (by decide) (Nat.le_of_ble_eq_true rfl) (Nat.le_of_ble_eq_true rfl) mth_X5_fuelOf iv_X5_fuelOf ml_RX5_244 ⟨Nat.le_of_ble_eq_true rfl, Nat.le_of_ble_eq_true rfl⟩ rfl rfl (Nat.le_of_ble_eq_true rfl) ⟨Nat.le_refl _, Nat.le_refl _⟩ d_X5_reach_86 (w_X5_fuelOf (xL x) b  h) (aI (fun r86 s86 h => ?_))
      refine J_icmp_gt o 96 d_X5_reach_89 rfl (fun c89 => ?_) (fun c89 => ?_)
      · replace h := h.1 c89
        refine J_iconst (v := 0) o d_X5_reach_96 iconst_0 ?_
        refine J_iadd o d_X5_reach_97 ?_
        refine J_top (fun l4_98 el4_98 => ?_)
        replace h := h l4_98 el4_98
        refine J_istore (lv' := [(4, .int l4_98), (0, .ref (wB (wM b) + 347)), (1, .int v1), (2, .int v2), (5, .int l5)]) o d_X5_reach_98 (by decide) rfl ?_
        refine J_iinc (lv' := [(5, .int (l5 + 1)), (4, .int l4_98), (0, .ref (wB (wM b) + 347)), (1, .int v1), (2, .int v2)]) o 4 d_X5_reach_100 (by decide) rfl iconst_1 rfl ?_
        refine J_goto o 65 d_X5_reach_103 rfl ?_
        refine J_sub [2, 3, 4, 1, 0] rfl ?_
        exact ih l4_98 (l5 + 1) s86  h
      · replace h := h.2 c89
        refine J_iconst (v := 1) o d_X5_reach_92 iconst_1 ?_
        refine J_goto o 97 d_X5_reach_93 rfl ?_
        refine J_iadd o d_X5_reach_97 ?_
        refine J_top (fun l4_98 el4_98 => ?_)
        replace h := h l4_98 el4_98
        refine J_istore (lv' := [(4, .int l4_98), (0, .ref (wB (wM b) + 347)), (1, .int v1), (2, .int v2), (5, .int l5)]) o d_X5_reach_98 (by decide) rfl ?_
        refine J_iinc (lv' := [(5, .int (l5 + 1)), (4, .int l4_98), (0, .ref (wB (wM b) + 347)), (1, .int v1), (2, .int v2)]) o 4 d_X5_reach_100 (by decide) rfl iconst_1 rfl ?_
        refine J_goto o 65 d_X5_reach_103 rfl ?_
        refine J_sub [2, 3, 4, 1, 0] rfl ?_
        exact ih l4_98 (l5 + 1) s86  h
set_option maxHeartbeats 4000000 in
set_option maxRecDepth 20000 in
theorem c_X5_reach_43 {x : Cx} {b : Wy} (o : Ok x (wM b) cX5_reach 6 RX5 (some .int) rm_X5_reach) {v1 : Int32} {v2 : Int32} {K : Int32 → Sg → Prop}   : ∀ (k1 : Int32) (σ : Sg), m_X5_reach_j43 v1 v2 K  k1 σ → J x (wM b) (FinC x (wM b) (PI K) (0, 0)) 43 [(0, .ref (wB (wM b) + 347)), (1, .int v1), (2, .int v2)] [.int k1, .ref (wB (wM b) + 347)] (0, 0) σ := by
  intro k1 σ  h
  unfold m_X5_reach_j43 at h
  refine J_iconst (v := 2) o d_X5_reach_43 iconst_2 ?_
  refine J_iconst (v := 1) o d_X5_reach_44 iconst_1 ?_
  refine J_callV (k := 347) (c := 5) o [.int k1, .int 2, .int 1] rfl (by decide) (Nat.le_of_ble_eq_true rfl) (Nat.le_of_ble_eq_true rfl) mth_X5_bad iv_X5_bad ml_RX5_216 ⟨Nat.le_of_ble_eq_true rfl, Nat.le_of_ble_eq_true rfl⟩ rfl rfl (Nat.le_of_ble_eq_true rfl) ⟨Nat.le_refl _, Nat.le_refl _⟩ d_X5_reach_45 (w_X5_bad (xL x) b  h) (aZ (fun r45 s45 hzr45 h => ?_))
  refine J_if_eq o 53 d_X5_reach_48 rfl (fun c48 => ?_) (fun c48 => ?_)
  · replace h := h.1 c48
    refine J_aload_n o 0 d_X5_reach_53 rfl ?_
    refine J_iload_n o 1 d_X5_reach_54 rfl ?_
    refine J_callV (k := 347) (c := 5) o [.int v1] rfl (by decide) (Nat.le_of_ble_eq_true rfl) (Nat.le_of_ble_eq_true rfl) mth_X5_earliest iv_X5_earliest ml_RX5_280 ⟨Nat.le_of_ble_eq_true rfl, Nat.le_of_ble_eq_true rfl⟩ rfl rfl (Nat.le_of_ble_eq_true rfl) ⟨Nat.le_refl _, Nat.le_refl _⟩ d_X5_reach_55 (w_X5_earliest (xL x) b  h) (aI (fun r55 s55 h => ?_))
    refine J_istore_n (lv' := [(3, .int r55), (0, .ref (wB (wM b) + 347)), (1, .int v1), (2, .int v2)]) o d_X5_reach_58 (by decide) rfl ?_
    refine J_iconst (v := 0) o d_X5_reach_59 iconst_0 ?_
    refine J_istore (lv' := [(4, .int 0), (3, .int r55), (0, .ref (wB (wM b) + 347)), (1, .int v1), (2, .int v2)]) o d_X5_reach_60 (by decide) rfl ?_
    refine J_iconst (v := 0) o d_X5_reach_62 iconst_0 ?_
    refine J_istore (lv' := [(5, .int 0), (4, .int 0), (3, .int r55), (0, .ref (wB (wM b) + 347)), (1, .int v1), (2, .int v2)]) o d_X5_reach_63 (by decide) rfl ?_
    refine J_sub [3, 4, 5, 1, 0] rfl ?_
    obtain ⟨n9, h⟩ := h
    exact c_X5_reach_65 o   n9 0 0 s55  h
  · replace h := h.2 c48
    refine J_iconst (v := 0) o d_X5_reach_51 iconst_0 ?_
    exact J_iret o d_X5_reach_52 ⟨_, rfl, h⟩
set_option maxHeartbeats 4000000 in
set_option maxRecDepth 20000 in
theorem c_X5_reach_19 {x : Cx} {b : Wy} (o : Ok x (wM b) cX5_reach 6 RX5 (some .int) rm_X5_reach) {v1 : Int32} {v2 : Int32} {K : Int32 → Sg → Prop}   : ∀ (k1 : Int32) (σ : Sg), m_X5_reach_j19 v1 v2 K  k1 σ → J x (wM b) (FinC x (wM b) (PI K) (0, 0)) 19 [(0, .ref (wB (wM b) + 347)), (1, .int v1), (2, .int v2)] [.int k1, .ref (wB (wM b) + 347)] (0, 0) σ := by
  intro k1 σ  h
  unfold m_X5_reach_j19 at h
  refine J_iconst (v := 1) o d_X5_reach_19 iconst_1 ?_
  refine J_iconst (v := 0) o d_X5_reach_20 iconst_0 ?_
  refine J_callV (k := 347) (c := 5) o [.int k1, .int 1, .int 0] rfl (by decide) (Nat.le_of_ble_eq_true rfl) (Nat.le_of_ble_eq_true rfl) mth_X5_bad iv_X5_bad ml_RX5_216 ⟨Nat.le_of_ble_eq_true rfl, Nat.le_of_ble_eq_true rfl⟩ rfl rfl (Nat.le_of_ble_eq_true rfl) ⟨Nat.le_refl _, Nat.le_refl _⟩ d_X5_reach_21 (w_X5_bad (xL x) b  h) (aZ (fun r21 s21 hzr21 h => ?_))
  refine J_if_ne o 51 d_X5_reach_24 rfl (fun c24 => ?_) (fun c24 => ?_)
  · replace h := h.1 c24
    refine J_iconst (v := 0) o d_X5_reach_51 iconst_0 ?_
    exact J_iret o d_X5_reach_52 ⟨_, rfl, h⟩
  · replace h := h.2 c24
    refine J_aload_n o 0 d_X5_reach_27 rfl ?_
    refine J_iload_n o 2 d_X5_reach_28 rfl ?_
    refine J_iconst (v := 0) o d_X5_reach_29 iconst_0 ?_
    refine J_bipush (v := 60) o d_X5_reach_30 bipush_60 ?_
    refine J_callS o [.int v2, .int 0, .int 60] mth_X5_in st_X5_in ml_RX5_56 ⟨Nat.le_of_ble_eq_true rfl, Nat.le_of_ble_eq_true rfl⟩ rfl rfl (Nat.le_of_ble_eq_true rfl) ⟨Nat.le_refl _, Nat.le_refl _⟩ d_X5_reach_32 (w_X5_in (xL x) b  h) (aZ (fun r32 s32 hzr32 h => ?_))
    refine J_if_ne o 42 d_X5_reach_35 rfl (fun c35 => ?_) (fun c35 => ?_)
    · replace h := h.1 c35
      refine J_iconst (v := 0) o d_X5_reach_42 iconst_0 ?_
      exact c_X5_reach_43 o   0 s32  h
    · replace h := h.2 c35
      refine J_iconst (v := 1) o d_X5_reach_38 iconst_1 ?_
      refine J_goto o 43 d_X5_reach_39 rfl ?_
      exact c_X5_reach_43 o   1 s32  h
set_option maxHeartbeats 4000000 in
set_option maxRecDepth 20000 in
theorem w_X5_reach (l : Launch) (b : Wy) {v1 : Int32} {v2 : Int32} {σ : Sg} {K : Int32 → Sg → Prop}  (h : m_X5_reach v1 v2 σ K) : Ct l (wM b) yX5_reach cX5_reach 6 (some .int) rm_X5_reach [.ref (wB (wM b) + 347), .int v1, .int v2] σ (PI K) := by
  unfold m_X5_reach at h
  refine Ct.of (own := RX5) (by decide +kernel) rfl (Nat.le_of_ble_eq_true rfl) (fun x hx o => ?_)
  subst hx
  show J x (wM b) (FinC x (wM b) (PI K) (0, 0)) 0 [(0, .ref (wB (wM b) + 347)), (1, .int v1), (2, .int v2)] [] (0, 0) σ
  refine J_aload_n o 0 d_X5_reach_0 rfl ?_
  refine J_iconst (v := 0) o d_X5_reach_1 iconst_0 ?_
  refine J_put o fl_RX5_50 la_5 rfl (Nat.le_of_ble_eq_true rfl) (Nat.le_of_ble_eq_true rfl) rfl rfl rfl rfl d_X5_reach_2 ?_
  refine J_nS (fun s2 es2 => ?_)
  replace h := h s2 es2
  refine J_aload_n o 0 d_X5_reach_5 rfl ?_
  refine J_aload_n o 0 d_X5_reach_6 rfl ?_
  refine J_iload_n o 1 d_X5_reach_7 rfl ?_
  refine J_callV (k := 347) (c := 5) o [.int v1] rfl (by decide) (Nat.le_of_ble_eq_true rfl) (Nat.le_of_ble_eq_true rfl) mth_X5_isHelper iv_X5_isHelper ml_RX5_235 ⟨Nat.le_of_ble_eq_true rfl, Nat.le_of_ble_eq_true rfl⟩ rfl rfl (Nat.le_of_ble_eq_true rfl) ⟨Nat.le_refl _, Nat.le_refl _⟩ d_X5_reach_8 (w_X5_isHelper (xL x) b  h) (aZ (fun r8 s8 hzr8 h => ?_))
  refine J_if_ne o 18 d_X5_reach_11 rfl (fun c11 => ?_) (fun c11 => ?_)
  · replace h := h.1 c11
    refine J_iconst (v := 0) o d_X5_reach_18 iconst_0 ?_
    exact c_X5_reach_19 o   0 s8  h
  · replace h := h.2 c11
    refine J_iconst (v := 1) o d_X5_reach_14 iconst_1 ?_
    refine J_goto o 19 d_X5_reach_15 rfl ?_
    exact c_X5_reach_19 o   1 s8  h
theorem d_X5_most_0 : decode cX5_most 0 = .ok (.aload_n 0, 1) := by decide +kernel
theorem d_X5_most_1 : decode cX5_most 1 = .ok (.iconst 0, 1) := by decide +kernel
theorem d_X5_most_2 : decode cX5_most 2 = .ok (.putfield 50, 3) := by decide +kernel
theorem d_X5_most_5 : decode cX5_most 5 = .ok (.aload_n 0, 1) := by decide +kernel
theorem d_X5_most_6 : decode cX5_most 6 = .ok (.aload_n 0, 1) := by decide +kernel
theorem d_X5_most_7 : decode cX5_most 7 = .ok (.iload_n 1, 1) := by decide +kernel
theorem d_X5_most_8 : decode cX5_most 8 = .ok (.invokevirtual 235, 3) := by decide +kernel
theorem d_X5_most_11 : decode cX5_most 11 = .ok (.ifCond .ne 7, 3) := by decide +kernel
theorem d_X5_most_14 : decode cX5_most 14 = .ok (.iconst 1, 1) := by decide +kernel
theorem d_X5_most_15 : decode cX5_most 15 = .ok (.goto 4, 3) := by decide +kernel
theorem d_X5_most_18 : decode cX5_most 18 = .ok (.iconst 0, 1) := by decide +kernel
theorem d_X5_most_19 : decode cX5_most 19 = .ok (.iconst 1, 1) := by decide +kernel
theorem d_X5_most_20 : decode cX5_most 20 = .ok (.iconst 0, 1) := by decide +kernel
theorem d_X5_most_21 : decode cX5_most 21 = .ok (.invokevirtual 216, 3) := by decide +kernel
theorem d_X5_most_24 : decode cX5_most 24 = .ok (.ifCond .ne 40, 3) := by decide +kernel
theorem d_X5_most_27 : decode cX5_most 27 = .ok (.aload_n 0, 1) := by decide +kernel
theorem d_X5_most_28 : decode cX5_most 28 = .ok (.iload_n 2, 1) := by decide +kernel
theorem d_X5_most_29 : decode cX5_most 29 = .ok (.iconst 0, 1) := by decide +kernel
theorem d_X5_most_30 : decode cX5_most 30 = .ok (.bipush 60, 2) := by decide +kernel
theorem d_X5_most_32 : decode cX5_most 32 = .ok (.invokestatic 56, 3) := by decide +kernel
theorem d_X5_most_35 : decode cX5_most 35 = .ok (.ifCond .eq 16, 3) := by decide +kernel
theorem d_X5_most_38 : decode cX5_most 38 = .ok (.aload_n 0, 1) := by decide +kernel
theorem d_X5_most_39 : decode cX5_most 39 = .ok (.getfield 20, 3) := by decide +kernel
theorem d_X5_most_42 : decode cX5_most 42 = .ok (.iload_n 3, 1) := by decide +kernel
theorem d_X5_most_43 : decode cX5_most 43 = .ok (.iload 4, 2) := by decide +kernel
theorem d_X5_most_45 : decode cX5_most 45 = .ok (.invokestatic 67, 3) := by decide +kernel
theorem d_X5_most_48 : decode cX5_most 48 = .ok (.ifCond .ne 7, 3) := by decide +kernel
theorem d_X5_most_51 : decode cX5_most 51 = .ok (.iconst 1, 1) := by decide +kernel
theorem d_X5_most_52 : decode cX5_most 52 = .ok (.goto 4, 3) := by decide +kernel
theorem d_X5_most_55 : decode cX5_most 55 = .ok (.iconst 0, 1) := by decide +kernel
theorem d_X5_most_56 : decode cX5_most 56 = .ok (.iconst 2, 1) := by decide +kernel
theorem d_X5_most_57 : decode cX5_most 57 = .ok (.iconst 1, 1) := by decide +kernel
theorem d_X5_most_58 : decode cX5_most 58 = .ok (.invokevirtual 216, 3) := by decide +kernel
theorem d_X5_most_61 : decode cX5_most 61 = .ok (.ifCond .eq 5, 3) := by decide +kernel
theorem d_X5_most_64 : decode cX5_most 64 = .ok (.iconst 0, 1) := by decide +kernel
theorem d_X5_most_65 : decode cX5_most 65 = .ok (.ireturn, 1) := by decide +kernel
theorem d_X5_most_66 : decode cX5_most 66 = .ok (.aload_n 0, 1) := by decide +kernel
theorem d_X5_most_67 : decode cX5_most 67 = .ok (.iload_n 1, 1) := by decide +kernel
theorem d_X5_most_68 : decode cX5_most 68 = .ok (.invokevirtual 280, 3) := by decide +kernel
theorem d_X5_most_71 : decode cX5_most 71 = .ok (.istore 5, 2) := by decide +kernel
theorem d_X5_most_73 : decode cX5_most 73 = .ok (.aload_n 0, 1) := by decide +kernel
theorem d_X5_most_74 : decode cX5_most 74 = .ok (.getfield 37, 3) := by decide +kernel
theorem d_X5_most_77 : decode cX5_most 77 = .ok (.iload_n 2, 1) := by decide +kernel
theorem d_X5_most_78 : decode cX5_most 78 = .ok (.aaload, 1) := by decide +kernel
theorem d_X5_most_79 : decode cX5_most 79 = .ok (.iload_n 3, 1) := by decide +kernel
theorem d_X5_most_80 : decode cX5_most 80 = .ok (.iload 4, 2) := by decide +kernel
theorem d_X5_most_82 : decode cX5_most 82 = .ok (.invokestatic 71, 3) := by decide +kernel
theorem d_X5_most_85 : decode cX5_most 85 = .ok (.iaload, 1) := by decide +kernel
theorem d_X5_most_86 : decode cX5_most 86 = .ok (.istore 6, 2) := by decide +kernel
theorem d_X5_most_88 : decode cX5_most 88 = .ok (.iload 6, 2) := by decide +kernel
theorem d_X5_most_90 : decode cX5_most 90 = .ok (.aload_n 0, 1) := by decide +kernel
theorem d_X5_most_91 : decode cX5_most 91 = .ok (.iload_n 1, 1) := by decide +kernel
theorem d_X5_most_92 : decode cX5_most 92 = .ok (.invokevirtual 244, 3) := by decide +kernel
theorem d_X5_most_95 : decode cX5_most 95 = .ok (.if_icmp .gt 14, 3) := by decide +kernel
theorem d_X5_most_98 : decode cX5_most 98 = .ok (.aload_n 0, 1) := by decide +kernel
theorem d_X5_most_99 : decode cX5_most 99 = .ok (.iload_n 1, 1) := by decide +kernel
theorem d_X5_most_100 : decode cX5_most 100 = .ok (.invokevirtual 244, 3) := by decide +kernel
theorem d_X5_most_103 : decode cX5_most 103 = .ok (.iload 6, 2) := by decide +kernel
theorem d_X5_most_105 : decode cX5_most 105 = .ok (.isub, 1) := by decide +kernel
theorem d_X5_most_106 : decode cX5_most 106 = .ok (.goto 4, 3) := by decide +kernel
theorem d_X5_most_109 : decode cX5_most 109 = .ok (.iconst (-1), 1) := by decide +kernel
theorem d_X5_most_110 : decode cX5_most 110 = .ok (.ireturn, 1) := by decide +kernel
abbrev rm_X5_most : Room := { frames := 7, cells := 0, slots := 0, locals := 163 }
set_option maxHeartbeats 4000000 in
set_option maxRecDepth 20000 in
theorem c_X5_most_56 {x : Cx} {b : Wy} (o : Ok x (wM b) cX5_most 7 RX5 (some .int) rm_X5_most) {v1 : Int32} {v2 : Int32} {v3 : Int32} {v4 : Int32} {K : Int32 → Sg → Prop}   : ∀ (k1 : Int32) (σ : Sg), m_X5_most_j56 v1 v2 v3 v4 K  k1 σ → J x (wM b) (FinC x (wM b) (PI K) (0, 0)) 56 [(0, .ref (wB (wM b) + 347)), (1, .int v1), (2, .int v2), (3, .int v3), (4, .int v4)] [.int k1, .ref (wB (wM b) + 347)] (0, 0) σ := by
  intro k1 σ  h
  unfold m_X5_most_j56 at h
  refine J_iconst (v := 2) o d_X5_most_56 iconst_2 ?_
  refine J_iconst (v := 1) o d_X5_most_57 iconst_1 ?_
  refine J_callV (k := 347) (c := 5) o [.int k1, .int 2, .int 1] rfl (by decide) (Nat.le_of_ble_eq_true rfl) (Nat.le_of_ble_eq_true rfl) mth_X5_bad iv_X5_bad ml_RX5_216 ⟨Nat.le_of_ble_eq_true rfl, Nat.le_of_ble_eq_true rfl⟩ rfl rfl (Nat.le_of_ble_eq_true rfl) ⟨Nat.le_refl _, Nat.le_refl _⟩ d_X5_most_58 (w_X5_bad (xL x) b  h) (aZ (fun r58 s58 hzr58 h => ?_))
  refine J_if_eq o 66 d_X5_most_61 rfl (fun c61 => ?_) (fun c61 => ?_)
  · replace h := h.1 c61
    refine J_aload_n o 0 d_X5_most_66 rfl ?_
    refine J_iload_n o 1 d_X5_most_67 rfl ?_
    refine J_callV (k := 347) (c := 5) o [.int v1] rfl (by decide) (Nat.le_of_ble_eq_true rfl) (Nat.le_of_ble_eq_true rfl) mth_X5_earliest iv_X5_earliest ml_RX5_280 ⟨Nat.le_of_ble_eq_true rfl, Nat.le_of_ble_eq_true rfl⟩ rfl rfl (Nat.le_of_ble_eq_true rfl) ⟨Nat.le_refl _, Nat.le_refl _⟩ d_X5_most_68 (w_X5_earliest (xL x) b  h) (aI (fun r68 s68 h => ?_))
    refine J_istore (lv' := [(5, .int r68), (0, .ref (wB (wM b) + 347)), (1, .int v1), (2, .int v2), (3, .int v3), (4, .int v4)]) o d_X5_most_71 (by decide) rfl ?_
    refine J_aload_n o 1 d_X5_most_73 rfl ?_
    refine J_getR (t := 363) o fl_RX5_37 rfl (Nat.le_of_ble_eq_true rfl) (Nat.le_of_ble_eq_true rfl) rfl rfl d_X5_most_74 ?_
    refine J_iload_n o 3 d_X5_most_77 rfl ?_
    have b78 := h.1
    replace h := h.2
    refine J_aald (t := (363 + 1 + v2.toNatClampNeg)) o 2 (by decide) (G_k G_363) (G_lo G_363) (G_hi G_363) (vpc (G_l G_363) b78) (G_t G_363 _) d_X5_most_78 ?_
    refine J_iload_n o 4 d_X5_most_79 rfl ?_
    refine J_iload o 5 d_X5_most_80 rfl ?_
    refine J_callS o [.int v3, .int v4] mth_X5_cellAt st_X5_cellAt ml_RX5_71 ⟨Nat.le_of_ble_eq_true rfl, Nat.le_of_ble_eq_true rfl⟩ rfl rfl (Nat.le_of_ble_eq_true rfl) ⟨Nat.le_refl _, Nat.le_refl _⟩ d_X5_most_82 (w_X5_cellAt (xL x) b  h) (aI (fun r82 s82 h => ?_))
    have b85 := h.1
    replace h := h.2
    refine J_iald o (G_A G_363 b78) (vpc (G_L G_363 b78) b85) d_X5_most_85 ?_
    refine J_top (fun l6_86 el6_86 => ?_)
    replace h := h l6_86 el6_86
    refine J_istore (lv' := [(6, .int l6_86), (5, .int r68), (0, .ref (wB (wM b) + 347)), (1, .int v1), (2, .int v2), (3, .int v3), (4, .int v4)]) o d_X5_most_86 (by decide) rfl ?_
    refine J_iload o 0 d_X5_most_88 rfl ?_
    refine J_aload_n o 2 d_X5_most_90 rfl ?_
    refine J_iload_n o 3 d_X5_most_91 rfl ?_
    refine J_callV (k := 347) (c := 5) o [.int v1] rfl (by decide) (Nat.le_of_ble_eq_true rfl) (Nat.le_of_ble_eq_true rfl) mth_X5_fuelOf iv_X5_fuelOf ml_RX5_244 ⟨Nat.le_of_ble_eq_true rfl, Nat.le_of_ble_eq_true rfl⟩ rfl rfl (Nat.le_of_ble_eq_true rfl) ⟨Nat.le_refl _, Nat.le_refl _⟩ d_X5_most_92 (w_X5_fuelOf (xL x) b  h) (aI (fun r92 s92 h => ?_))
    refine J_icmp_gt o 109 d_X5_most_95 rfl (fun c95 => ?_) (fun c95 => ?_)
    · replace h := h.1 c95
      refine J_iconst (v := (-1)) o d_X5_most_109 iconst_m1 ?_
      exact J_iret o d_X5_most_110 ⟨_, rfl, h⟩
    · replace h := h.2 c95
      refine J_aload_n o 2 d_X5_most_98 rfl ?_
      refine J_iload_n o 3 d_X5_most_99 rfl ?_
      refine J_callV (k := 347) (c := 5) o [.int v1] rfl (by decide) (Nat.le_of_ble_eq_true rfl) (Nat.le_of_ble_eq_true rfl) mth_X5_fuelOf iv_X5_fuelOf ml_RX5_244 ⟨Nat.le_of_ble_eq_true rfl, Nat.le_of_ble_eq_true rfl⟩ rfl rfl (Nat.le_of_ble_eq_true rfl) ⟨Nat.le_refl _, Nat.le_refl _⟩ d_X5_most_100 (w_X5_fuelOf (xL x) b  h) (aI (fun r100 s100 h => ?_))
      refine J_iload o 0 d_X5_most_103 rfl ?_
      refine J_isub o d_X5_most_105 ?_
      refine J_goto o 110 d_X5_most_106 rfl ?_
      exact J_iret o d_X5_most_110 ⟨_, rfl, h⟩
  · replace h := h.2 c61
    refine J_iconst (v := 0) o d_X5_most_64 iconst_0 ?_
    exact J_iret o d_X5_most_65 ⟨_, rfl, h⟩
set_option maxHeartbeats 4000000 in
set_option maxRecDepth 20000 in
theorem c_X5_most_19 {x : Cx} {b : Wy} (o : Ok x (wM b) cX5_most 7 RX5 (some .int) rm_X5_most) {v1 : Int32} {v2 : Int32} {v3 : Int32} {v4 : Int32} {K : Int32 → Sg → Prop}   : ∀ (k1 : Int32) (σ : Sg), m_X5_most_j19 v1 v2 v3 v4 K  k1 σ → J x (wM b) (FinC x (wM b) (PI K) (0, 0)) 19 [(0, .ref (wB (wM b) + 347)), (1, .int v1), (2, .int v2), (3, .int v3), (4, .int v4)] [.int k1, .ref (wB (wM b) + 347)] (0, 0) σ := by
  intro k1 σ  h
  unfold m_X5_most_j19 at h
  refine J_iconst (v := 1) o d_X5_most_19 iconst_1 ?_
  refine J_iconst (v := 0) o d_X5_most_20 iconst_0 ?_
  refine J_callV (k := 347) (c := 5) o [.int k1, .int 1, .int 0] rfl (by decide) (Nat.le_of_ble_eq_true rfl) (Nat.le_of_ble_eq_true rfl) mth_X5_bad iv_X5_bad ml_RX5_216 ⟨Nat.le_of_ble_eq_true rfl, Nat.le_of_ble_eq_true rfl⟩ rfl rfl (Nat.le_of_ble_eq_true rfl) ⟨Nat.le_refl _, Nat.le_refl _⟩ d_X5_most_21 (w_X5_bad (xL x) b  h) (aZ (fun r21 s21 hzr21 h => ?_))
  refine J_if_ne o 64 d_X5_most_24 rfl (fun c24 => ?_) (fun c24 => ?_)
  · replace h := h.1 c24
    refine J_iconst (v := 0) o d_X5_most_64 iconst_0 ?_
    exact J_iret o d_X5_most_65 ⟨_, rfl, h⟩
  · replace h := h.2 c24
    refine J_aload_n o 0 d_X5_most_27 rfl ?_
    refine J_iload_n o 2 d_X5_most_28 rfl ?_
    refine J_iconst (v := 0) o d_X5_most_29 iconst_0 ?_
    refine J_bipush (v := 60) o d_X5_most_30 bipush_60 ?_
    refine J_callS o [.int v2, .int 0, .int 60] mth_X5_in st_X5_in ml_RX5_56 ⟨Nat.le_of_ble_eq_true rfl, Nat.le_of_ble_eq_true rfl⟩ rfl rfl (Nat.le_of_ble_eq_true rfl) ⟨Nat.le_refl _, Nat.le_refl _⟩ d_X5_most_32 (w_X5_in (xL x) b  h) (aZ (fun r32 s32 hzr32 h => ?_))
    refine J_if_eq o 51 d_X5_most_35 rfl (fun c35 => ?_) (fun c35 => ?_)
    · replace h := h.1 c35
      refine J_iconst (v := 1) o d_X5_most_51 iconst_1 ?_
      refine J_goto o 56 d_X5_most_52 rfl ?_
      exact c_X5_most_56 o   1 s32  h
    · replace h := h.2 c35
      refine J_aload_n o 0 d_X5_most_38 rfl ?_
      refine J_getR (t := 350) o fl_RX5_20 rfl (Nat.le_of_ble_eq_true rfl) (Nat.le_of_ble_eq_true rfl) rfl rfl d_X5_most_39 ?_
      refine J_iload_n o 3 d_X5_most_42 rfl ?_
      refine J_iload o 4 d_X5_most_43 rfl ?_
      refine J_callS o [.ref (wB (wM b) + 350), .int v3, .int v4] mth_X5_isOn st_X5_isOn ml_RX5_67 ⟨Nat.le_of_ble_eq_true rfl, Nat.le_of_ble_eq_true rfl⟩ rfl rfl (Nat.le_of_ble_eq_true rfl) ⟨Nat.le_refl _, Nat.le_refl _⟩ d_X5_most_45 (w_X5_isOn (xL x) b A_350 h) (aZ (fun r45 s45 hzr45 h => ?_))
      refine J_if_ne o 55 d_X5_most_48 rfl (fun c48 => ?_) (fun c48 => ?_)
      · replace h := h.1 c48
        refine J_iconst (v := 0) o d_X5_most_55 iconst_0 ?_
        exact c_X5_most_56 o   0 s45  h
      · replace h := h.2 c48
        refine J_iconst (v := 1) o d_X5_most_51 iconst_1 ?_
        refine J_goto o 56 d_X5_most_52 rfl ?_
        exact c_X5_most_56 o   1 s45  h
set_option maxHeartbeats 4000000 in
set_option maxRecDepth 20000 in
theorem w_X5_most (l : Launch) (b : Wy) {v1 : Int32} {v2 : Int32} {v3 : Int32} {v4 : Int32} {σ : Sg} {K : Int32 → Sg → Prop}  (h : m_X5_most v1 v2 v3 v4 σ K) : Ct l (wM b) yX5_most cX5_most 7 (some .int) rm_X5_most [.ref (wB (wM b) + 347), .int v1, .int v2, .int v3, .int v4] σ (PI K) := by
  unfold m_X5_most at h
  refine Ct.of (own := RX5) (by decide +kernel) rfl (Nat.le_of_ble_eq_true rfl) (fun x hx o => ?_)
  subst hx
  show J x (wM b) (FinC x (wM b) (PI K) (0, 0)) 0 [(0, .ref (wB (wM b) + 347)), (1, .int v1), (2, .int v2), (3, .int v3), (4, .int v4)] [] (0, 0) σ
  refine J_aload_n o 0 d_X5_most_0 rfl ?_
  refine J_iconst (v := 0) o d_X5_most_1 iconst_0 ?_
  refine J_put o fl_RX5_50 la_5 rfl (Nat.le_of_ble_eq_true rfl) (Nat.le_of_ble_eq_true rfl) rfl rfl rfl rfl d_X5_most_2 ?_
  refine J_nS (fun s2 es2 => ?_)
  replace h := h s2 es2
  refine J_aload_n o 0 d_X5_most_5 rfl ?_
  refine J_aload_n o 0 d_X5_most_6 rfl ?_
  refine J_iload_n o 1 d_X5_most_7 rfl ?_
  refine J_callV (k := 347) (c := 5) o [.int v1] rfl (by decide) (Nat.le_of_ble_eq_true rfl) (Nat.le_of_ble_eq_true rfl) mth_X5_isHelper iv_X5_isHelper ml_RX5_235 ⟨Nat.le_of_ble_eq_true rfl, Nat.le_of_ble_eq_true rfl⟩ rfl rfl (Nat.le_of_ble_eq_true rfl) ⟨Nat.le_refl _, Nat.le_refl _⟩ d_X5_most_8 (w_X5_isHelper (xL x) b  h) (aZ (fun r8 s8 hzr8 h => ?_))
  refine J_if_ne o 18 d_X5_most_11 rfl (fun c11 => ?_) (fun c11 => ?_)
  · replace h := h.1 c11
    refine J_iconst (v := 0) o d_X5_most_18 iconst_0 ?_
    exact c_X5_most_19 o   0 s8  h
  · replace h := h.2 c11
    refine J_iconst (v := 1) o d_X5_most_14 iconst_1 ?_
    refine J_goto o 19 d_X5_most_15 rfl ?_
    exact c_X5_most_19 o   1 s8  h
theorem d_X5_relay_0 : decode cX5_relay 0 = .ok (.aload_n 0, 1) := by decide +kernel
theorem d_X5_relay_1 : decode cX5_relay 1 = .ok (.iconst 0, 1) := by decide +kernel
theorem d_X5_relay_2 : decode cX5_relay 2 = .ok (.putfield 50, 3) := by decide +kernel
theorem d_X5_relay_5 : decode cX5_relay 5 = .ok (.aload_n 0, 1) := by decide +kernel
theorem d_X5_relay_6 : decode cX5_relay 6 = .ok (.aload_n 0, 1) := by decide +kernel
theorem d_X5_relay_7 : decode cX5_relay 7 = .ok (.iload_n 1, 1) := by decide +kernel
theorem d_X5_relay_8 : decode cX5_relay 8 = .ok (.invokevirtual 235, 3) := by decide +kernel
theorem d_X5_relay_11 : decode cX5_relay 11 = .ok (.ifCond .eq 11, 3) := by decide +kernel
theorem d_X5_relay_14 : decode cX5_relay 14 = .ok (.aload_n 0, 1) := by decide +kernel
theorem d_X5_relay_15 : decode cX5_relay 15 = .ok (.iload_n 2, 1) := by decide +kernel
theorem d_X5_relay_16 : decode cX5_relay 16 = .ok (.invokevirtual 235, 3) := by decide +kernel
theorem d_X5_relay_19 : decode cX5_relay 19 = .ok (.ifCond .ne 7, 3) := by decide +kernel
theorem d_X5_relay_22 : decode cX5_relay 22 = .ok (.iconst 1, 1) := by decide +kernel
theorem d_X5_relay_23 : decode cX5_relay 23 = .ok (.goto 4, 3) := by decide +kernel
theorem d_X5_relay_26 : decode cX5_relay 26 = .ok (.iconst 0, 1) := by decide +kernel
theorem d_X5_relay_27 : decode cX5_relay 27 = .ok (.iconst 1, 1) := by decide +kernel
theorem d_X5_relay_28 : decode cX5_relay 28 = .ok (.iconst 0, 1) := by decide +kernel
theorem d_X5_relay_29 : decode cX5_relay 29 = .ok (.invokevirtual 216, 3) := by decide +kernel
theorem d_X5_relay_32 : decode cX5_relay 32 = .ok (.ifCond .ne 22, 3) := by decide +kernel
theorem d_X5_relay_35 : decode cX5_relay 35 = .ok (.aload_n 0, 1) := by decide +kernel
theorem d_X5_relay_36 : decode cX5_relay 36 = .ok (.iload_n 1, 1) := by decide +kernel
theorem d_X5_relay_37 : decode cX5_relay 37 = .ok (.iload_n 2, 1) := by decide +kernel
theorem d_X5_relay_38 : decode cX5_relay 38 = .ok (.if_icmp .ne 7, 3) := by decide +kernel
theorem d_X5_relay_41 : decode cX5_relay 41 = .ok (.iconst 1, 1) := by decide +kernel
theorem d_X5_relay_42 : decode cX5_relay 42 = .ok (.goto 4, 3) := by decide +kernel
theorem d_X5_relay_45 : decode cX5_relay 45 = .ok (.iconst 0, 1) := by decide +kernel
theorem d_X5_relay_46 : decode cX5_relay 46 = .ok (.iconst 2, 1) := by decide +kernel
theorem d_X5_relay_47 : decode cX5_relay 47 = .ok (.iconst 1, 1) := by decide +kernel
theorem d_X5_relay_48 : decode cX5_relay 48 = .ok (.invokevirtual 216, 3) := by decide +kernel
theorem d_X5_relay_51 : decode cX5_relay 51 = .ok (.ifCond .eq 5, 3) := by decide +kernel
theorem d_X5_relay_54 : decode cX5_relay 54 = .ok (.iconst 0, 1) := by decide +kernel
theorem d_X5_relay_55 : decode cX5_relay 55 = .ok (.ireturn, 1) := by decide +kernel
theorem d_X5_relay_56 : decode cX5_relay 56 = .ok (.aload_n 0, 1) := by decide +kernel
theorem d_X5_relay_57 : decode cX5_relay 57 = .ok (.invokevirtual 269, 3) := by decide +kernel
theorem d_X5_relay_60 : decode cX5_relay 60 = .ok (.aload_n 0, 1) := by decide +kernel
theorem d_X5_relay_61 : decode cX5_relay 61 = .ok (.aload_n 0, 1) := by decide +kernel
theorem d_X5_relay_62 : decode cX5_relay 62 = .ok (.getfield 37, 3) := by decide +kernel
theorem d_X5_relay_65 : decode cX5_relay 65 = .ok (.iconst 0, 1) := by decide +kernel
theorem d_X5_relay_66 : decode cX5_relay 66 = .ok (.aload_n 0, 1) := by decide +kernel
theorem d_X5_relay_67 : decode cX5_relay 67 = .ok (.iload_n 1, 1) := by decide +kernel
theorem d_X5_relay_68 : decode cX5_relay 68 = .ok (.invokevirtual 238, 3) := by decide +kernel
theorem d_X5_relay_71 : decode cX5_relay 71 = .ok (.invokevirtual 276, 3) := by decide +kernel
theorem d_X5_relay_74 : decode cX5_relay 74 = .ok (.aload_n 0, 1) := by decide +kernel
theorem d_X5_relay_75 : decode cX5_relay 75 = .ok (.aload_n 0, 1) := by decide +kernel
theorem d_X5_relay_76 : decode cX5_relay 76 = .ok (.getfield 40, 3) := by decide +kernel
theorem d_X5_relay_79 : decode cX5_relay 79 = .ok (.iconst 0, 1) := by decide +kernel
theorem d_X5_relay_80 : decode cX5_relay 80 = .ok (.aload_n 0, 1) := by decide +kernel
theorem d_X5_relay_81 : decode cX5_relay 81 = .ok (.iload_n 2, 1) := by decide +kernel
theorem d_X5_relay_82 : decode cX5_relay 82 = .ok (.invokevirtual 238, 3) := by decide +kernel
theorem d_X5_relay_85 : decode cX5_relay 85 = .ok (.invokevirtual 276, 3) := by decide +kernel
theorem d_X5_relay_88 : decode cX5_relay 88 = .ok (.iconst 0, 1) := by decide +kernel
theorem d_X5_relay_89 : decode cX5_relay 89 = .ok (.istore_n 3, 1) := by decide +kernel
theorem d_X5_relay_90 : decode cX5_relay 90 = .ok (.iload_n 3, 1) := by decide +kernel
theorem d_X5_relay_91 : decode cX5_relay 91 = .ok (.bipush 60, 2) := by decide +kernel
theorem d_X5_relay_93 : decode cX5_relay 93 = .ok (.if_icmp .gt 148, 3) := by decide +kernel
theorem d_X5_relay_96 : decode cX5_relay 96 = .ok (.aload_n 0, 1) := by decide +kernel
theorem d_X5_relay_97 : decode cX5_relay 97 = .ok (.iload_n 3, 1) := by decide +kernel
theorem d_X5_relay_98 : decode cX5_relay 98 = .ok (.aload_n 0, 1) := by decide +kernel
theorem d_X5_relay_99 : decode cX5_relay 99 = .ok (.getfield 31, 3) := by decide +kernel
theorem d_X5_relay_102 : decode cX5_relay 102 = .ok (.iload_n 3, 1) := by decide +kernel
theorem d_X5_relay_103 : decode cX5_relay 103 = .ok (.iaload, 1) := by decide +kernel
theorem d_X5_relay_104 : decode cX5_relay 104 = .ok (.invokevirtual 283, 3) := by decide +kernel
theorem d_X5_relay_107 : decode cX5_relay 107 = .ok (.iconst 0, 1) := by decide +kernel
theorem d_X5_relay_108 : decode cX5_relay 108 = .ok (.istore 4, 2) := by decide +kernel
theorem d_X5_relay_110 : decode cX5_relay 110 = .ok (.iload 4, 2) := by decide +kernel
theorem d_X5_relay_112 : decode cX5_relay 112 = .ok (.iload_n 3, 1) := by decide +kernel
theorem d_X5_relay_113 : decode cX5_relay 113 = .ok (.if_icmp .gt 122, 3) := by decide +kernel
theorem d_X5_relay_116 : decode cX5_relay 116 = .ok (.iconst 0, 1) := by decide +kernel
theorem d_X5_relay_117 : decode cX5_relay 117 = .ok (.istore 5, 2) := by decide +kernel
theorem d_X5_relay_119 : decode cX5_relay 119 = .ok (.iload 5, 2) := by decide +kernel
theorem d_X5_relay_121 : decode cX5_relay 121 = .ok (.sipush 240, 3) := by decide +kernel
theorem d_X5_relay_124 : decode cX5_relay 124 = .ok (.if_icmp .ge 105, 3) := by decide +kernel
theorem d_X5_relay_127 : decode cX5_relay 127 = .ok (.aload_n 0, 1) := by decide +kernel
theorem d_X5_relay_128 : decode cX5_relay 128 = .ok (.getfield 37, 3) := by decide +kernel
theorem d_X5_relay_131 : decode cX5_relay 131 = .ok (.iload 4, 2) := by decide +kernel
theorem d_X5_relay_133 : decode cX5_relay 133 = .ok (.aaload, 1) := by decide +kernel
theorem d_X5_relay_134 : decode cX5_relay 134 = .ok (.iload 5, 2) := by decide +kernel
theorem d_X5_relay_136 : decode cX5_relay 136 = .ok (.iaload, 1) := by decide +kernel
theorem d_X5_relay_137 : decode cX5_relay 137 = .ok (.aload_n 0, 1) := by decide +kernel
theorem d_X5_relay_138 : decode cX5_relay 138 = .ok (.iload_n 1, 1) := by decide +kernel
theorem d_X5_relay_139 : decode cX5_relay 139 = .ok (.invokevirtual 244, 3) := by decide +kernel
theorem d_X5_relay_142 : decode cX5_relay 142 = .ok (.if_icmp .gt 81, 3) := by decide +kernel
theorem d_X5_relay_145 : decode cX5_relay 145 = .ok (.aload_n 0, 1) := by decide +kernel
theorem d_X5_relay_146 : decode cX5_relay 146 = .ok (.getfield 40, 3) := by decide +kernel
theorem d_X5_relay_149 : decode cX5_relay 149 = .ok (.iload 4, 2) := by decide +kernel
theorem d_X5_relay_151 : decode cX5_relay 151 = .ok (.aaload, 1) := by decide +kernel
theorem d_X5_relay_152 : decode cX5_relay 152 = .ok (.iload 5, 2) := by decide +kernel
theorem d_X5_relay_154 : decode cX5_relay 154 = .ok (.iaload, 1) := by decide +kernel
theorem d_X5_relay_155 : decode cX5_relay 155 = .ok (.aload_n 0, 1) := by decide +kernel
theorem d_X5_relay_156 : decode cX5_relay 156 = .ok (.iload_n 2, 1) := by decide +kernel
theorem d_X5_relay_157 : decode cX5_relay 157 = .ok (.invokevirtual 244, 3) := by decide +kernel
theorem d_X5_relay_160 : decode cX5_relay 160 = .ok (.if_icmp .le 6, 3) := by decide +kernel
theorem d_X5_relay_163 : decode cX5_relay 163 = .ok (.goto 60, 3) := by decide +kernel
theorem d_X5_relay_166 : decode cX5_relay 166 = .ok (.aload_n 0, 1) := by decide +kernel
theorem d_X5_relay_167 : decode cX5_relay 167 = .ok (.getfield 43, 3) := by decide +kernel
theorem d_X5_relay_170 : decode cX5_relay 170 = .ok (.iload 4, 2) := by decide +kernel
theorem d_X5_relay_172 : decode cX5_relay 172 = .ok (.aaload, 1) := by decide +kernel
theorem d_X5_relay_173 : decode cX5_relay 173 = .ok (.iload 5, 2) := by decide +kernel
theorem d_X5_relay_175 : decode cX5_relay 175 = .ok (.iaload, 1) := by decide +kernel
theorem d_X5_relay_176 : decode cX5_relay 176 = .ok (.aload_n 0, 1) := by decide +kernel
theorem d_X5_relay_177 : decode cX5_relay 177 = .ok (.getfield 20, 3) := by decide +kernel
theorem d_X5_relay_180 : decode cX5_relay 180 = .ok (.iconst 4, 1) := by decide +kernel
theorem d_X5_relay_181 : decode cX5_relay 181 = .ok (.iaload, 1) := by decide +kernel
theorem d_X5_relay_182 : decode cX5_relay 182 = .ok (.aload_n 0, 1) := by decide +kernel
theorem d_X5_relay_183 : decode cX5_relay 183 = .ok (.iload_n 1, 1) := by decide +kernel
theorem d_X5_relay_184 : decode cX5_relay 184 = .ok (.invokevirtual 244, 3) := by decide +kernel
theorem d_X5_relay_187 : decode cX5_relay 187 = .ok (.aload_n 0, 1) := by decide +kernel
theorem d_X5_relay_188 : decode cX5_relay 188 = .ok (.getfield 37, 3) := by decide +kernel
theorem d_X5_relay_191 : decode cX5_relay 191 = .ok (.iload 4, 2) := by decide +kernel
theorem d_X5_relay_193 : decode cX5_relay 193 = .ok (.aaload, 1) := by decide +kernel
theorem d_X5_relay_194 : decode cX5_relay 194 = .ok (.iload 5, 2) := by decide +kernel
theorem d_X5_relay_196 : decode cX5_relay 196 = .ok (.iaload, 1) := by decide +kernel
theorem d_X5_relay_197 : decode cX5_relay 197 = .ok (.isub, 1) := by decide +kernel
theorem d_X5_relay_198 : decode cX5_relay 198 = .ok (.aload_n 0, 1) := by decide +kernel
theorem d_X5_relay_199 : decode cX5_relay 199 = .ok (.iload_n 2, 1) := by decide +kernel
theorem d_X5_relay_200 : decode cX5_relay 200 = .ok (.invokevirtual 244, 3) := by decide +kernel
theorem d_X5_relay_203 : decode cX5_relay 203 = .ok (.iadd, 1) := by decide +kernel
theorem d_X5_relay_204 : decode cX5_relay 204 = .ok (.aload_n 0, 1) := by decide +kernel
theorem d_X5_relay_205 : decode cX5_relay 205 = .ok (.getfield 40, 3) := by decide +kernel
theorem d_X5_relay_208 : decode cX5_relay 208 = .ok (.iload 4, 2) := by decide +kernel
theorem d_X5_relay_210 : decode cX5_relay 210 = .ok (.aaload, 1) := by decide +kernel
theorem d_X5_relay_211 : decode cX5_relay 211 = .ok (.iload 5, 2) := by decide +kernel
theorem d_X5_relay_213 : decode cX5_relay 213 = .ok (.iaload, 1) := by decide +kernel
theorem d_X5_relay_214 : decode cX5_relay 214 = .ok (.isub, 1) := by decide +kernel
theorem d_X5_relay_215 : decode cX5_relay 215 = .ok (.invokestatic 86, 3) := by decide +kernel
theorem d_X5_relay_218 : decode cX5_relay 218 = .ok (.if_icmp .gt 5, 3) := by decide +kernel
theorem d_X5_relay_221 : decode cX5_relay 221 = .ok (.iload_n 3, 1) := by decide +kernel
theorem d_X5_relay_222 : decode cX5_relay 222 = .ok (.ireturn, 1) := by decide +kernel
theorem d_X5_relay_223 : decode cX5_relay 223 = .ok (.iinc 5 1, 3) := by decide +kernel
theorem d_X5_relay_226 : decode cX5_relay 226 = .ok (.goto (-107), 3) := by decide +kernel
theorem d_X5_relay_229 : decode cX5_relay 229 = .ok (.iinc 4 1, 3) := by decide +kernel
theorem d_X5_relay_232 : decode cX5_relay 232 = .ok (.goto (-122), 3) := by decide +kernel
theorem d_X5_relay_235 : decode cX5_relay 235 = .ok (.iinc 3 1, 3) := by decide +kernel
theorem d_X5_relay_238 : decode cX5_relay 238 = .ok (.goto (-148), 3) := by decide +kernel
theorem d_X5_relay_241 : decode cX5_relay 241 = .ok (.iconst (-1), 1) := by decide +kernel
theorem d_X5_relay_242 : decode cX5_relay 242 = .ok (.ireturn, 1) := by decide +kernel
abbrev rm_X5_relay : Room := { frames := 6, cells := 0, slots := 0, locals := 141 }
set_option maxHeartbeats 4000000 in
set_option maxRecDepth 20000 in
theorem c_X5_relay_119 {x : Cx} {b : Wy} (o : Ok x (wM b) cX5_relay 6 RX5 (some .int) rm_X5_relay) {v1 : Int32} {v2 : Int32} {K : Int32 → Sg → Prop}  {KO90 : Int32 → Sg → Prop} {KO110 : Int32 → Int32 → Sg → Prop}  (hKO90 : ∀ (l3 : Int32) (σ : Sg), KO90 l3 σ → J x (wM b) (FinC x (wM b) (PI K) (0, 0)) 90 [(0, .ref (wB (wM b) + 347)), (1, .int v1), (2, .int v2), (3, .int l3)] [] (0, 0) σ) (hKO110 : ∀ (l3 : Int32) (l4 : Int32) (σ : Sg), KO110 l3 l4 σ → J x (wM b) (FinC x (wM b) (PI K) (0, 0)) 110 [(0, .ref (wB (wM b) + 347)), (1, .int v1), (2, .int v2), (3, .int l3), (4, .int l4)] [] (0, 0) σ) : ∀ (n : Nat) (l3 : Int32) (l4 : Int32) (l5 : Int32) (σ : Sg), m_X5_relay_l119 v1 v2 K KO90 KO110 n l3 l4 l5 σ → J x (wM b) (FinC x (wM b) (PI K) (0, 0)) 119 [(0, .ref (wB (wM b) + 347)), (1, .int v1), (2, .int v2), (3, .int l3), (4, .int l4), (5, .int l5)] [] (0, 0) σ := by
  intro n
  induction n with
  | zero =>
    intro l3 l4 l5 σ  h
    exact False.elim h
  | succ n ih =>
    intro l3 l4 l5 σ  h
    unfold m_X5_relay_l119 at h
    refine J_iload o 5 d_X5_relay_119 rfl ?_
    refine J_sipush (v := 240) o d_X5_relay_121 sipush_240 ?_
    refine J_icmp_ge o 229 d_X5_relay_124 rfl (fun c124 => ?_) (fun c124 => ?_)
    · replace h := h.1 c124
      refine J_iinc (lv' := [(4, .int (l4 + 1)), (0, .ref (wB (wM b) + 347)), (1, .int v1), (2, .int v2), (3, .int l3), (5, .int l5)]) o 4 d_X5_relay_229 (by decide) rfl iconst_1 rfl ?_
      refine J_goto o 110 d_X5_relay_232 rfl ?_
      refine J_sub [1, 2, 3, 4, 0] rfl ?_
      exact hKO110 l3 (l4 + 1) σ  h
    · replace h := h.2 c124
      refine J_aload_n o 0 d_X5_relay_127 rfl ?_
      refine J_getR (t := 363) o fl_RX5_37 rfl (Nat.le_of_ble_eq_true rfl) (Nat.le_of_ble_eq_true rfl) rfl rfl d_X5_relay_128 ?_
      refine J_iload o 4 d_X5_relay_131 rfl ?_
      have b133 := h.1
      replace h := h.2
      refine J_aald (t := (363 + 1 + l4.toNatClampNeg)) o 2 (by decide) (G_k G_363) (G_lo G_363) (G_hi G_363) (vpc (G_l G_363) b133) (G_t G_363 _) d_X5_relay_133 ?_
      refine J_iload o 5 d_X5_relay_134 rfl ?_
      have b136 := h.1
      replace h := h.2
      refine J_iald o (G_A G_363 b133) (vpc (G_L G_363 b133) b136) d_X5_relay_136 ?_
      refine J_aload_n o 0 d_X5_relay_137 rfl ?_
      refine J_iload_n o 1 d_X5_relay_138 rfl ?_
      refine J_callV (k := 347) (c := 5) o [.int v1] rfl (by decide) (Nat.le_of_ble_eq_true rfl) (Nat.le_of_ble_eq_true rfl) mth_X5_fuelOf iv_X5_fuelOf ml_RX5_244 ⟨Nat.le_of_ble_eq_true rfl, Nat.le_of_ble_eq_true rfl⟩ rfl rfl (Nat.le_of_ble_eq_true rfl) ⟨Nat.le_refl _, Nat.le_refl _⟩ d_X5_relay_139 (w_X5_fuelOf (xL x) b  h) (aI (fun r139 s139 h => ?_))
      refine J_icmp_gt o 223 d_X5_relay_142 rfl (fun c142 => ?_) (fun c142 => ?_)
      · replace h := h.1 c142
        refine J_iinc (lv' := [(5, .int (l5 + 1)), (0, .ref (wB (wM b) + 347)), (1, .int v1), (2, .int v2), (3, .int l3), (4, .int l4)]) o 5 d_X5_relay_223 (by decide) rfl iconst_1 rfl ?_
        refine J_goto o 119 d_X5_relay_226 rfl ?_
        refine J_sub [1, 2, 3, 4, 5, 0] rfl ?_
        exact ih l3 l4 (l5 + 1) s139  h
      · replace h := h.2 c142
        refine J_aload_n o 0 d_X5_relay_145 rfl ?_
        refine J_getR (t := 425) o fl_RX5_40 rfl (Nat.le_of_ble_eq_true rfl) (Nat.le_of_ble_eq_true rfl) rfl rfl d_X5_relay_146 ?_
        refine J_iload o 4 d_X5_relay_149 rfl ?_
        have b151 := h.1
        replace h := h.2
        refine J_aald (t := (425 + 1 + l4.toNatClampNeg)) o 2 (by decide) (G_k G_425) (G_lo G_425) (G_hi G_425) (vpc (G_l G_425) b151) (G_t G_425 _) d_X5_relay_151 ?_
        refine J_iload o 5 d_X5_relay_152 rfl ?_
        have b154 := h.1
        replace h := h.2
        refine J_iald o (G_A G_425 b151) (vpc (G_L G_425 b151) b154) d_X5_relay_154 ?_
        refine J_aload_n o 0 d_X5_relay_155 rfl ?_
        refine J_iload_n o 2 d_X5_relay_156 rfl ?_
        refine J_callV (k := 347) (c := 5) o [.int v2] rfl (by decide) (Nat.le_of_ble_eq_true rfl) (Nat.le_of_ble_eq_true rfl) mth_X5_fuelOf iv_X5_fuelOf ml_RX5_244 ⟨Nat.le_of_ble_eq_true rfl, Nat.le_of_ble_eq_true rfl⟩ rfl rfl (Nat.le_of_ble_eq_true rfl) ⟨Nat.le_refl _, Nat.le_refl _⟩ d_X5_relay_157 (w_X5_fuelOf (xL x) b  h) (aI (fun r157 s157 h => ?_))
        refine J_icmp_le o 166 d_X5_relay_160 rfl (fun c160 => ?_) (fun c160 => ?_)
        · replace h := h.1 c160
          refine J_aload_n o 0 d_X5_relay_166 rfl ?_
          refine J_getR (t := 487) o fl_RX5_43 rfl (Nat.le_of_ble_eq_true rfl) (Nat.le_of_ble_eq_true rfl) rfl rfl d_X5_relay_167 ?_
          refine J_iload o 4 d_X5_relay_170 rfl ?_
          have b172 := h.1
          replace h := h.2
          refine J_aald (t := (487 + 1 + l4.toNatClampNeg)) o 2 (by decide) (G_k G_487) (G_lo G_487) (G_hi G_487) (vpc (G_l G_487) b172) (G_t G_487 _) d_X5_relay_172 ?_
          refine J_iload o 5 d_X5_relay_173 rfl ?_
          have b175 := h.1
          replace h := h.2
          refine J_iald o (G_A G_487 b172) (vpc (G_L G_487 b172) b175) d_X5_relay_175 ?_
          refine J_aload_n o 0 d_X5_relay_176 rfl ?_
          refine J_getR (t := 350) o fl_RX5_20 rfl (Nat.le_of_ble_eq_true rfl) (Nat.le_of_ble_eq_true rfl) rfl rfl d_X5_relay_177 ?_
          refine J_iconst (v := 4) o d_X5_relay_180 iconst_4 ?_
          have b181 := h.1
          replace h := h.2
          refine J_iald o A_350 (vpc (rfl : ln 350 = 1098) b181) d_X5_relay_181 ?_
          refine J_aload_n o 0 d_X5_relay_182 rfl ?_
          refine J_iload_n o 1 d_X5_relay_183 rfl ?_
          refine J_callV (k := 347) (c := 5) o [.int v1] rfl (by decide) (Nat.le_of_ble_eq_true rfl) (Nat.le_of_ble_eq_true rfl) mth_X5_fuelOf iv_X5_fuelOf ml_RX5_244 ⟨Nat.le_of_ble_eq_true rfl, Nat.le_of_ble_eq_true rfl⟩ rfl rfl (Nat.le_of_ble_eq_true rfl) ⟨Nat.le_refl _, Nat.le_refl _⟩ d_X5_relay_184 (w_X5_fuelOf (xL x) b  h) (aI (fun r184 s184 h => ?_))
          refine J_aload_n o 0 d_X5_relay_187 rfl ?_
          refine J_getR (t := 363) o fl_RX5_37 rfl (Nat.le_of_ble_eq_true rfl) (Nat.le_of_ble_eq_true rfl) rfl rfl d_X5_relay_188 ?_
          refine J_iload o 4 d_X5_relay_191 rfl ?_
          have b193 := h.1
          replace h := h.2
          refine J_aald (t := (363 + 1 + l4.toNatClampNeg)) o 2 (by decide) (G_k G_363) (G_lo G_363) (G_hi G_363) (vpc (G_l G_363) b193) (G_t G_363 _) d_X5_relay_193 ?_
          refine J_iload o 5 d_X5_relay_194 rfl ?_
          have b196 := h.1
          replace h := h.2
          refine J_iald o (G_A G_363 b193) (vpc (G_L G_363 b193) b196) d_X5_relay_196 ?_
          refine J_isub o d_X5_relay_197 ?_
          refine J_aload_n o 0 d_X5_relay_198 rfl ?_
          refine J_iload_n o 2 d_X5_relay_199 rfl ?_
          refine J_callV (k := 347) (c := 5) o [.int v2] rfl (by decide) (Nat.le_of_ble_eq_true rfl) (Nat.le_of_ble_eq_true rfl) mth_X5_fuelOf iv_X5_fuelOf ml_RX5_244 ⟨Nat.le_of_ble_eq_true rfl, Nat.le_of_ble_eq_true rfl⟩ rfl rfl (Nat.le_of_ble_eq_true rfl) ⟨Nat.le_refl _, Nat.le_refl _⟩ d_X5_relay_200 (w_X5_fuelOf (xL x) b  h) (aI (fun r200 s200 h => ?_))
          refine J_iadd o d_X5_relay_203 ?_
          refine J_aload_n o 0 d_X5_relay_204 rfl ?_
          refine J_getR (t := 425) o fl_RX5_40 rfl (Nat.le_of_ble_eq_true rfl) (Nat.le_of_ble_eq_true rfl) rfl rfl d_X5_relay_205 ?_
          refine J_iload o 4 d_X5_relay_208 rfl ?_
          have b210 := h.1
          replace h := h.2
          refine J_aald (t := (425 + 1 + l4.toNatClampNeg)) o 2 (by decide) (G_k G_425) (G_lo G_425) (G_hi G_425) (vpc (G_l G_425) b210) (G_t G_425 _) d_X5_relay_210 ?_
          refine J_iload o 5 d_X5_relay_211 rfl ?_
          have b213 := h.1
          replace h := h.2
          refine J_iald o (G_A G_425 b210) (vpc (G_L G_425 b210) b213) d_X5_relay_213 ?_
          refine J_isub o d_X5_relay_214 ?_
          refine J_callS o [.int (s157 350 (4 : Int32).toNatClampNeg), .int (((r184 - (s184 (363 + 1 + l4.toNatClampNeg) l5.toNatClampNeg)) + r200) - (s200 (425 + 1 + l4.toNatClampNeg) l5.toNatClampNeg))] mth_X5_less st_X5_less ml_RX5_86 ⟨Nat.le_of_ble_eq_true rfl, Nat.le_of_ble_eq_true rfl⟩ rfl rfl (Nat.le_of_ble_eq_true rfl) ⟨Nat.le_refl _, Nat.le_refl _⟩ d_X5_relay_215 (w_X5_less (xL x) b  h) (aI (fun r215 s215 h => ?_))
          refine J_icmp_gt o 223 d_X5_relay_218 rfl (fun c218 => ?_) (fun c218 => ?_)
          · replace h := h.1 c218
            refine J_iinc (lv' := [(5, .int (l5 + 1)), (0, .ref (wB (wM b) + 347)), (1, .int v1), (2, .int v2), (3, .int l3), (4, .int l4)]) o 5 d_X5_relay_223 (by decide) rfl iconst_1 rfl ?_
            refine J_goto o 119 d_X5_relay_226 rfl ?_
            refine J_sub [1, 2, 3, 4, 5, 0] rfl ?_
            exact ih l3 l4 (l5 + 1) s215  h
          · replace h := h.2 c218
            refine J_iload_n o 3 d_X5_relay_221 rfl ?_
            exact J_iret o d_X5_relay_222 ⟨_, rfl, h⟩
        · replace h := h.2 c160
          refine J_goto o 223 d_X5_relay_163 rfl ?_
          refine J_iinc (lv' := [(5, .int (l5 + 1)), (0, .ref (wB (wM b) + 347)), (1, .int v1), (2, .int v2), (3, .int l3), (4, .int l4)]) o 5 d_X5_relay_223 (by decide) rfl iconst_1 rfl ?_
          refine J_goto o 119 d_X5_relay_226 rfl ?_
          refine J_sub [1, 2, 3, 4, 5, 0] rfl ?_
          exact ih l3 l4 (l5 + 1) s157  h
set_option maxHeartbeats 4000000 in
set_option maxRecDepth 20000 in
theorem c_X5_relay_110 {x : Cx} {b : Wy} (o : Ok x (wM b) cX5_relay 6 RX5 (some .int) rm_X5_relay) {v1 : Int32} {v2 : Int32} {K : Int32 → Sg → Prop}  {KO90 : Int32 → Sg → Prop}  (hKO90 : ∀ (l3 : Int32) (σ : Sg), KO90 l3 σ → J x (wM b) (FinC x (wM b) (PI K) (0, 0)) 90 [(0, .ref (wB (wM b) + 347)), (1, .int v1), (2, .int v2), (3, .int l3)] [] (0, 0) σ) : ∀ (n : Nat) (l3 : Int32) (l4 : Int32) (σ : Sg), m_X5_relay_l110 v1 v2 K KO90 n l3 l4 σ → J x (wM b) (FinC x (wM b) (PI K) (0, 0)) 110 [(0, .ref (wB (wM b) + 347)), (1, .int v1), (2, .int v2), (3, .int l3), (4, .int l4)] [] (0, 0) σ := by
  intro n
  induction n with
  | zero =>
    intro l3 l4 σ  h
    exact False.elim h
  | succ n ih =>
    intro l3 l4 σ  h
    unfold m_X5_relay_l110 at h
    refine J_iload o 4 d_X5_relay_110 rfl ?_
    refine J_iload_n o 3 d_X5_relay_112 rfl ?_
    refine J_icmp_gt o 235 d_X5_relay_113 rfl (fun c113 => ?_) (fun c113 => ?_)
    · replace h := h.1 c113
      refine J_iinc (lv' := [(3, .int (l3 + 1)), (0, .ref (wB (wM b) + 347)), (1, .int v1), (2, .int v2), (4, .int l4)]) o 3 d_X5_relay_235 (by decide) rfl iconst_1 rfl ?_
      refine J_goto o 90 d_X5_relay_238 rfl ?_
      refine J_sub [1, 2, 3, 0] rfl ?_
      exact hKO90 (l3 + 1) σ  h
    · replace h := h.2 c113
      refine J_iconst (v := 0) o d_X5_relay_116 iconst_0 ?_
      refine J_istore (lv' := [(5, .int 0), (0, .ref (wB (wM b) + 347)), (1, .int v1), (2, .int v2), (3, .int l3), (4, .int l4)]) o d_X5_relay_117 (by decide) rfl ?_
      refine J_sub [1, 2, 3, 4, 5, 0] rfl ?_
      obtain ⟨n9, h⟩ := h
      exact c_X5_relay_119 o  hKO90 ih n9 l3 l4 0 σ  h
set_option maxHeartbeats 4000000 in
set_option maxRecDepth 20000 in
theorem c_X5_relay_90 {x : Cx} {b : Wy} (o : Ok x (wM b) cX5_relay 6 RX5 (some .int) rm_X5_relay) {v1 : Int32} {v2 : Int32} {K : Int32 → Sg → Prop}   : ∀ (n : Nat) (l3 : Int32) (σ : Sg), m_X5_relay_l90 v1 v2 K  n l3 σ → J x (wM b) (FinC x (wM b) (PI K) (0, 0)) 90 [(0, .ref (wB (wM b) + 347)), (1, .int v1), (2, .int v2), (3, .int l3)] [] (0, 0) σ := by
  intro n
  induction n with
  | zero =>
    intro l3 σ  h
    exact False.elim h
  | succ n ih =>
    intro l3 σ  h
    unfold m_X5_relay_l90 at h
    refine J_iload_n o 3 d_X5_relay_90 rfl ?_
    refine J_bipush (v := 60) o d_X5_relay_91 bipush_60 ?_
    refine J_icmp_gt o 241 d_X5_relay_93 rfl (fun c93 => ?_) (fun c93 => ?_)
    · replace h := h.1 c93
      refine J_iconst (v := (-1)) o d_X5_relay_241 iconst_m1 ?_
      exact J_iret o d_X5_relay_242 ⟨_, rfl, h⟩
    · replace h := h.2 c93
      refine J_aload_n o 0 d_X5_relay_96 rfl ?_
      refine J_iload_n o 3 d_X5_relay_97 rfl ?_
      refine J_aload_n o 0 d_X5_relay_98 rfl ?_
      refine J_getR (t := 361) o fl_RX5_31 rfl (Nat.le_of_ble_eq_true rfl) (Nat.le_of_ble_eq_true rfl) rfl rfl d_X5_relay_99 ?_
      refine J_iload_n o 3 d_X5_relay_102 rfl ?_
      have b103 := h.1
      replace h := h.2
      refine J_iald o A_361 (vpc (rfl : ln 361 = 61) b103) d_X5_relay_103 ?_
      refine J_callV (k := 347) (c := 5) o [.int l3, .int (σ 361 l3.toNatClampNeg)] rfl (by decide) (Nat.le_of_ble_eq_true rfl) (Nat.le_of_ble_eq_true rfl) mth_X5_leads iv_X5_leads ml_RX5_283 ⟨Nat.le_of_ble_eq_true rfl, Nat.le_of_ble_eq_true rfl⟩ rfl rfl (Nat.le_of_ble_eq_true rfl) ⟨Nat.le_refl _, Nat.le_refl _⟩ d_X5_relay_104 (w_X5_leads (xL x) b  h) (aV (fun s104 h => ?_))
      refine J_iconst (v := 0) o d_X5_relay_107 iconst_0 ?_
      refine J_istore (lv' := [(4, .int 0), (0, .ref (wB (wM b) + 347)), (1, .int v1), (2, .int v2), (3, .int l3)]) o d_X5_relay_108 (by decide) rfl ?_
      refine J_sub [1, 2, 3, 4, 0] rfl ?_
      obtain ⟨n9, h⟩ := h
      exact c_X5_relay_110 o  ih n9 l3 0 s104  h
set_option maxHeartbeats 4000000 in
set_option maxRecDepth 20000 in
theorem c_X5_relay_46 {x : Cx} {b : Wy} (o : Ok x (wM b) cX5_relay 6 RX5 (some .int) rm_X5_relay) {v1 : Int32} {v2 : Int32} {K : Int32 → Sg → Prop}   : ∀ (k1 : Int32) (σ : Sg), m_X5_relay_j46 v1 v2 K  k1 σ → J x (wM b) (FinC x (wM b) (PI K) (0, 0)) 46 [(0, .ref (wB (wM b) + 347)), (1, .int v1), (2, .int v2)] [.int k1, .ref (wB (wM b) + 347)] (0, 0) σ := by
  intro k1 σ  h
  unfold m_X5_relay_j46 at h
  refine J_iconst (v := 2) o d_X5_relay_46 iconst_2 ?_
  refine J_iconst (v := 1) o d_X5_relay_47 iconst_1 ?_
  refine J_callV (k := 347) (c := 5) o [.int k1, .int 2, .int 1] rfl (by decide) (Nat.le_of_ble_eq_true rfl) (Nat.le_of_ble_eq_true rfl) mth_X5_bad iv_X5_bad ml_RX5_216 ⟨Nat.le_of_ble_eq_true rfl, Nat.le_of_ble_eq_true rfl⟩ rfl rfl (Nat.le_of_ble_eq_true rfl) ⟨Nat.le_refl _, Nat.le_refl _⟩ d_X5_relay_48 (w_X5_bad (xL x) b  h) (aZ (fun r48 s48 hzr48 h => ?_))
  refine J_if_eq o 56 d_X5_relay_51 rfl (fun c51 => ?_) (fun c51 => ?_)
  · replace h := h.1 c51
    refine J_aload_n o 0 d_X5_relay_56 rfl ?_
    refine J_callV (k := 347) (c := 5) o [] rfl (by decide) (Nat.le_of_ble_eq_true rfl) (Nat.le_of_ble_eq_true rfl) mth_X5_looksAhead iv_X5_looksAhead ml_RX5_269 ⟨Nat.le_of_ble_eq_true rfl, Nat.le_of_ble_eq_true rfl⟩ rfl rfl (Nat.le_of_ble_eq_true rfl) ⟨Nat.le_refl _, Nat.le_refl _⟩ d_X5_relay_57 (w_X5_looksAhead (xL x) b  h) (aV (fun s57 h => ?_))
    refine J_aload_n o 0 d_X5_relay_60 rfl ?_
    refine J_aload_n o 0 d_X5_relay_61 rfl ?_
    refine J_getR (t := 363) o fl_RX5_37 rfl (Nat.le_of_ble_eq_true rfl) (Nat.le_of_ble_eq_true rfl) rfl rfl d_X5_relay_62 ?_
    refine J_iconst (v := 0) o d_X5_relay_65 iconst_0 ?_
    refine J_aload_n o 0 d_X5_relay_66 rfl ?_
    refine J_iload_n o 1 d_X5_relay_67 rfl ?_
    refine J_callV (k := 347) (c := 5) o [.int v1] rfl (by decide) (Nat.le_of_ble_eq_true rfl) (Nat.le_of_ble_eq_true rfl) mth_X5_helperCell iv_X5_helperCell ml_RX5_238 ⟨Nat.le_of_ble_eq_true rfl, Nat.le_of_ble_eq_true rfl⟩ rfl rfl (Nat.le_of_ble_eq_true rfl) ⟨Nat.le_refl _, Nat.le_refl _⟩ d_X5_relay_68 (w_X5_helperCell (xL x) b  h) (aI (fun r68 s68 h => ?_))
    refine J_callV (k := 347) (c := 5) o [.ref (wB (wM b) + 363), .int 0, .int r68] rfl (by decide) (Nat.le_of_ble_eq_true rfl) (Nat.le_of_ble_eq_true rfl) mth_X5_spreads iv_X5_spreads ml_RX5_276 ⟨Nat.le_of_ble_eq_true rfl, Nat.le_of_ble_eq_true rfl⟩ rfl rfl (Nat.le_of_ble_eq_true rfl) ⟨Nat.le_refl _, Nat.le_refl _⟩ d_X5_relay_71 (w_X5_spreads (xL x) b G_363 h) (aV (fun s71 h => ?_))
    refine J_aload_n o 0 d_X5_relay_74 rfl ?_
    refine J_aload_n o 0 d_X5_relay_75 rfl ?_
    refine J_getR (t := 425) o fl_RX5_40 rfl (Nat.le_of_ble_eq_true rfl) (Nat.le_of_ble_eq_true rfl) rfl rfl d_X5_relay_76 ?_
    refine J_iconst (v := 0) o d_X5_relay_79 iconst_0 ?_
    refine J_aload_n o 0 d_X5_relay_80 rfl ?_
    refine J_iload_n o 2 d_X5_relay_81 rfl ?_
    refine J_callV (k := 347) (c := 5) o [.int v2] rfl (by decide) (Nat.le_of_ble_eq_true rfl) (Nat.le_of_ble_eq_true rfl) mth_X5_helperCell iv_X5_helperCell ml_RX5_238 ⟨Nat.le_of_ble_eq_true rfl, Nat.le_of_ble_eq_true rfl⟩ rfl rfl (Nat.le_of_ble_eq_true rfl) ⟨Nat.le_refl _, Nat.le_refl _⟩ d_X5_relay_82 (w_X5_helperCell (xL x) b  h) (aI (fun r82 s82 h => ?_))
    refine J_callV (k := 347) (c := 5) o [.ref (wB (wM b) + 425), .int 0, .int r82] rfl (by decide) (Nat.le_of_ble_eq_true rfl) (Nat.le_of_ble_eq_true rfl) mth_X5_spreads iv_X5_spreads ml_RX5_276 ⟨Nat.le_of_ble_eq_true rfl, Nat.le_of_ble_eq_true rfl⟩ rfl rfl (Nat.le_of_ble_eq_true rfl) ⟨Nat.le_refl _, Nat.le_refl _⟩ d_X5_relay_85 (w_X5_spreads (xL x) b G_425 h) (aV (fun s85 h => ?_))
    refine J_iconst (v := 0) o d_X5_relay_88 iconst_0 ?_
    refine J_istore_n (lv' := [(3, .int 0), (0, .ref (wB (wM b) + 347)), (1, .int v1), (2, .int v2)]) o d_X5_relay_89 (by decide) rfl ?_
    refine J_sub [1, 2, 3, 0] rfl ?_
    obtain ⟨n9, h⟩ := h
    exact c_X5_relay_90 o   n9 0 s85  h
  · replace h := h.2 c51
    refine J_iconst (v := 0) o d_X5_relay_54 iconst_0 ?_
    exact J_iret o d_X5_relay_55 ⟨_, rfl, h⟩
set_option maxHeartbeats 4000000 in
set_option maxRecDepth 20000 in
theorem c_X5_relay_27 {x : Cx} {b : Wy} (o : Ok x (wM b) cX5_relay 6 RX5 (some .int) rm_X5_relay) {v1 : Int32} {v2 : Int32} {K : Int32 → Sg → Prop}   : ∀ (k1 : Int32) (σ : Sg), m_X5_relay_j27 v1 v2 K  k1 σ → J x (wM b) (FinC x (wM b) (PI K) (0, 0)) 27 [(0, .ref (wB (wM b) + 347)), (1, .int v1), (2, .int v2)] [.int k1, .ref (wB (wM b) + 347)] (0, 0) σ := by
  intro k1 σ  h
  unfold m_X5_relay_j27 at h
  refine J_iconst (v := 1) o d_X5_relay_27 iconst_1 ?_
  refine J_iconst (v := 0) o d_X5_relay_28 iconst_0 ?_
  refine J_callV (k := 347) (c := 5) o [.int k1, .int 1, .int 0] rfl (by decide) (Nat.le_of_ble_eq_true rfl) (Nat.le_of_ble_eq_true rfl) mth_X5_bad iv_X5_bad ml_RX5_216 ⟨Nat.le_of_ble_eq_true rfl, Nat.le_of_ble_eq_true rfl⟩ rfl rfl (Nat.le_of_ble_eq_true rfl) ⟨Nat.le_refl _, Nat.le_refl _⟩ d_X5_relay_29 (w_X5_bad (xL x) b  h) (aZ (fun r29 s29 hzr29 h => ?_))
  refine J_if_ne o 54 d_X5_relay_32 rfl (fun c32 => ?_) (fun c32 => ?_)
  · replace h := h.1 c32
    refine J_iconst (v := 0) o d_X5_relay_54 iconst_0 ?_
    exact J_iret o d_X5_relay_55 ⟨_, rfl, h⟩
  · replace h := h.2 c32
    refine J_aload_n o 0 d_X5_relay_35 rfl ?_
    refine J_iload_n o 1 d_X5_relay_36 rfl ?_
    refine J_iload_n o 2 d_X5_relay_37 rfl ?_
    refine J_icmp_ne o 45 d_X5_relay_38 rfl (fun c38 => ?_) (fun c38 => ?_)
    · replace h := h.1 c38
      refine J_iconst (v := 0) o d_X5_relay_45 iconst_0 ?_
      exact c_X5_relay_46 o   0 s29  h
    · replace h := h.2 c38
      refine J_iconst (v := 1) o d_X5_relay_41 iconst_1 ?_
      refine J_goto o 46 d_X5_relay_42 rfl ?_
      exact c_X5_relay_46 o   1 s29  h
set_option maxHeartbeats 4000000 in
set_option maxRecDepth 20000 in
theorem w_X5_relay (l : Launch) (b : Wy) {v1 : Int32} {v2 : Int32} {σ : Sg} {K : Int32 → Sg → Prop}  (h : m_X5_relay v1 v2 σ K) : Ct l (wM b) yX5_relay cX5_relay 6 (some .int) rm_X5_relay [.ref (wB (wM b) + 347), .int v1, .int v2] σ (PI K) := by
  unfold m_X5_relay at h
  refine Ct.of (own := RX5) (by decide +kernel) rfl (Nat.le_of_ble_eq_true rfl) (fun x hx o => ?_)
  subst hx
  show J x (wM b) (FinC x (wM b) (PI K) (0, 0)) 0 [(0, .ref (wB (wM b) + 347)), (1, .int v1), (2, .int v2)] [] (0, 0) σ
  refine J_aload_n o 0 d_X5_relay_0 rfl ?_
  refine J_iconst (v := 0) o d_X5_relay_1 iconst_0 ?_
  refine J_put o fl_RX5_50 la_5 rfl (Nat.le_of_ble_eq_true rfl) (Nat.le_of_ble_eq_true rfl) rfl rfl rfl rfl d_X5_relay_2 ?_
  refine J_nS (fun s2 es2 => ?_)
  replace h := h s2 es2
  refine J_aload_n o 0 d_X5_relay_5 rfl ?_
  refine J_aload_n o 0 d_X5_relay_6 rfl ?_
  refine J_iload_n o 1 d_X5_relay_7 rfl ?_
  refine J_callV (k := 347) (c := 5) o [.int v1] rfl (by decide) (Nat.le_of_ble_eq_true rfl) (Nat.le_of_ble_eq_true rfl) mth_X5_isHelper iv_X5_isHelper ml_RX5_235 ⟨Nat.le_of_ble_eq_true rfl, Nat.le_of_ble_eq_true rfl⟩ rfl rfl (Nat.le_of_ble_eq_true rfl) ⟨Nat.le_refl _, Nat.le_refl _⟩ d_X5_relay_8 (w_X5_isHelper (xL x) b  h) (aZ (fun r8 s8 hzr8 h => ?_))
  refine J_if_eq o 22 d_X5_relay_11 rfl (fun c11 => ?_) (fun c11 => ?_)
  · replace h := h.1 c11
    refine J_iconst (v := 1) o d_X5_relay_22 iconst_1 ?_
    refine J_goto o 27 d_X5_relay_23 rfl ?_
    exact c_X5_relay_27 o   1 s8  h
  · replace h := h.2 c11
    refine J_aload_n o 0 d_X5_relay_14 rfl ?_
    refine J_iload_n o 2 d_X5_relay_15 rfl ?_
    refine J_callV (k := 347) (c := 5) o [.int v2] rfl (by decide) (Nat.le_of_ble_eq_true rfl) (Nat.le_of_ble_eq_true rfl) mth_X5_isHelper iv_X5_isHelper ml_RX5_235 ⟨Nat.le_of_ble_eq_true rfl, Nat.le_of_ble_eq_true rfl⟩ rfl rfl (Nat.le_of_ble_eq_true rfl) ⟨Nat.le_refl _, Nat.le_refl _⟩ d_X5_relay_16 (w_X5_isHelper (xL x) b  h) (aZ (fun r16 s16 hzr16 h => ?_))
    refine J_if_ne o 26 d_X5_relay_19 rfl (fun c19 => ?_) (fun c19 => ?_)
    · replace h := h.1 c19
      refine J_iconst (v := 0) o d_X5_relay_26 iconst_0 ?_
      exact c_X5_relay_27 o   0 s16  h
    · replace h := h.2 c19
      refine J_iconst (v := 1) o d_X5_relay_22 iconst_1 ?_
      refine J_goto o 27 d_X5_relay_23 rfl ?_
      exact c_X5_relay_27 o   1 s16  h
theorem d_X5_home_0 : decode cX5_home 0 = .ok (.aload_n 0, 1) := by decide +kernel
theorem d_X5_home_1 : decode cX5_home 1 = .ok (.iconst 0, 1) := by decide +kernel
theorem d_X5_home_2 : decode cX5_home 2 = .ok (.putfield 50, 3) := by decide +kernel
theorem d_X5_home_5 : decode cX5_home 5 = .ok (.aload_n 0, 1) := by decide +kernel
theorem d_X5_home_6 : decode cX5_home 6 = .ok (.aload_n 0, 1) := by decide +kernel
theorem d_X5_home_7 : decode cX5_home 7 = .ok (.iload_n 1, 1) := by decide +kernel
theorem d_X5_home_8 : decode cX5_home 8 = .ok (.invokevirtual 235, 3) := by decide +kernel
theorem d_X5_home_11 : decode cX5_home 11 = .ok (.ifCond .ne 7, 3) := by decide +kernel
theorem d_X5_home_14 : decode cX5_home 14 = .ok (.iconst 1, 1) := by decide +kernel
theorem d_X5_home_15 : decode cX5_home 15 = .ok (.goto 4, 3) := by decide +kernel
theorem d_X5_home_18 : decode cX5_home 18 = .ok (.iconst 0, 1) := by decide +kernel
theorem d_X5_home_19 : decode cX5_home 19 = .ok (.iconst 1, 1) := by decide +kernel
theorem d_X5_home_20 : decode cX5_home 20 = .ok (.iconst 0, 1) := by decide +kernel
theorem d_X5_home_21 : decode cX5_home 21 = .ok (.invokevirtual 216, 3) := by decide +kernel
theorem d_X5_home_24 : decode cX5_home 24 = .ok (.ifCond .ne 26, 3) := by decide +kernel
theorem d_X5_home_27 : decode cX5_home 27 = .ok (.aload_n 0, 1) := by decide +kernel
theorem d_X5_home_28 : decode cX5_home 28 = .ok (.iload_n 2, 1) := by decide +kernel
theorem d_X5_home_29 : decode cX5_home 29 = .ok (.iconst 0, 1) := by decide +kernel
theorem d_X5_home_30 : decode cX5_home 30 = .ok (.iconst 1, 1) := by decide +kernel
theorem d_X5_home_31 : decode cX5_home 31 = .ok (.invokestatic 56, 3) := by decide +kernel
theorem d_X5_home_34 : decode cX5_home 34 = .ok (.ifCond .ne 7, 3) := by decide +kernel
theorem d_X5_home_37 : decode cX5_home 37 = .ok (.iconst 1, 1) := by decide +kernel
theorem d_X5_home_38 : decode cX5_home 38 = .ok (.goto 4, 3) := by decide +kernel
theorem d_X5_home_41 : decode cX5_home 41 = .ok (.iconst 0, 1) := by decide +kernel
theorem d_X5_home_42 : decode cX5_home 42 = .ok (.iconst 2, 1) := by decide +kernel
theorem d_X5_home_43 : decode cX5_home 43 = .ok (.iconst 1, 1) := by decide +kernel
theorem d_X5_home_44 : decode cX5_home 44 = .ok (.invokevirtual 216, 3) := by decide +kernel
theorem d_X5_home_47 : decode cX5_home 47 = .ok (.ifCond .eq 5, 3) := by decide +kernel
theorem d_X5_home_50 : decode cX5_home 50 = .ok (.iconst 0, 1) := by decide +kernel
theorem d_X5_home_51 : decode cX5_home 51 = .ok (.ireturn, 1) := by decide +kernel
theorem d_X5_home_52 : decode cX5_home 52 = .ok (.aload_n 0, 1) := by decide +kernel
theorem d_X5_home_53 : decode cX5_home 53 = .ok (.iload_n 1, 1) := by decide +kernel
theorem d_X5_home_54 : decode cX5_home 54 = .ok (.invokevirtual 280, 3) := by decide +kernel
theorem d_X5_home_57 : decode cX5_home 57 = .ok (.istore_n 3, 1) := by decide +kernel
theorem d_X5_home_58 : decode cX5_home 58 = .ok (.iload_n 3, 1) := by decide +kernel
theorem d_X5_home_59 : decode cX5_home 59 = .ok (.iconst (-1), 1) := by decide +kernel
theorem d_X5_home_60 : decode cX5_home 60 = .ok (.if_icmp .ne 5, 3) := by decide +kernel
theorem d_X5_home_63 : decode cX5_home 63 = .ok (.iconst (-1), 1) := by decide +kernel
theorem d_X5_home_64 : decode cX5_home 64 = .ok (.ireturn, 1) := by decide +kernel
theorem d_X5_home_65 : decode cX5_home 65 = .ok (.aload_n 0, 1) := by decide +kernel
theorem d_X5_home_66 : decode cX5_home 66 = .ok (.iload_n 1, 1) := by decide +kernel
theorem d_X5_home_67 : decode cX5_home 67 = .ok (.invokevirtual 244, 3) := by decide +kernel
theorem d_X5_home_70 : decode cX5_home 70 = .ok (.aload_n 0, 1) := by decide +kernel
theorem d_X5_home_71 : decode cX5_home 71 = .ok (.getfield 37, 3) := by decide +kernel
theorem d_X5_home_74 : decode cX5_home 74 = .ok (.iload_n 3, 1) := by decide +kernel
theorem d_X5_home_75 : decode cX5_home 75 = .ok (.aaload, 1) := by decide +kernel
theorem d_X5_home_76 : decode cX5_home 76 = .ok (.aload_n 0, 1) := by decide +kernel
theorem d_X5_home_77 : decode cX5_home 77 = .ok (.getfield 31, 3) := by decide +kernel
theorem d_X5_home_80 : decode cX5_home 80 = .ok (.iload_n 3, 1) := by decide +kernel
theorem d_X5_home_81 : decode cX5_home 81 = .ok (.iaload, 1) := by decide +kernel
theorem d_X5_home_82 : decode cX5_home 82 = .ok (.iaload, 1) := by decide +kernel
theorem d_X5_home_83 : decode cX5_home 83 = .ok (.isub, 1) := by decide +kernel
theorem d_X5_home_84 : decode cX5_home 84 = .ok (.istore 4, 2) := by decide +kernel
theorem d_X5_home_86 : decode cX5_home 86 = .ok (.aload_n 0, 1) := by decide +kernel
theorem d_X5_home_87 : decode cX5_home 87 = .ok (.aload_n 0, 1) := by decide +kernel
theorem d_X5_home_88 : decode cX5_home 88 = .ok (.getfield 40, 3) := by decide +kernel
theorem d_X5_home_91 : decode cX5_home 91 = .ok (.iload_n 3, 1) := by decide +kernel
theorem d_X5_home_92 : decode cX5_home 92 = .ok (.aload_n 0, 1) := by decide +kernel
theorem d_X5_home_93 : decode cX5_home 93 = .ok (.getfield 31, 3) := by decide +kernel
theorem d_X5_home_96 : decode cX5_home 96 = .ok (.iload_n 3, 1) := by decide +kernel
theorem d_X5_home_97 : decode cX5_home 97 = .ok (.iaload, 1) := by decide +kernel
theorem d_X5_home_98 : decode cX5_home 98 = .ok (.invokevirtual 276, 3) := by decide +kernel
theorem d_X5_home_101 : decode cX5_home 101 = .ok (.iload_n 3, 1) := by decide +kernel
theorem d_X5_home_102 : decode cX5_home 102 = .ok (.istore 5, 2) := by decide +kernel
theorem d_X5_home_104 : decode cX5_home 104 = .ok (.iload 5, 2) := by decide +kernel
theorem d_X5_home_106 : decode cX5_home 106 = .ok (.bipush 60, 2) := by decide +kernel
theorem d_X5_home_108 : decode cX5_home 108 = .ok (.if_icmp .gt 61, 3) := by decide +kernel
theorem d_X5_home_111 : decode cX5_home 111 = .ok (.iconst 2, 1) := by decide +kernel
theorem d_X5_home_112 : decode cX5_home 112 = .ok (.aload_n 0, 1) := by decide +kernel
theorem d_X5_home_113 : decode cX5_home 113 = .ok (.getfield 40, 3) := by decide +kernel
theorem d_X5_home_116 : decode cX5_home 116 = .ok (.iload 5, 2) := by decide +kernel
theorem d_X5_home_118 : decode cX5_home 118 = .ok (.aaload, 1) := by decide +kernel
theorem d_X5_home_119 : decode cX5_home 119 = .ok (.aload_n 0, 1) := by decide +kernel
theorem d_X5_home_120 : decode cX5_home 120 = .ok (.getfield 34, 3) := by decide +kernel
theorem d_X5_home_123 : decode cX5_home 123 = .ok (.iload 5, 2) := by decide +kernel
theorem d_X5_home_125 : decode cX5_home 125 = .ok (.iaload, 1) := by decide +kernel
theorem d_X5_home_126 : decode cX5_home 126 = .ok (.iaload, 1) := by decide +kernel
theorem d_X5_home_127 : decode cX5_home 127 = .ok (.imul, 1) := by decide +kernel
theorem d_X5_home_128 : decode cX5_home 128 = .ok (.iload 4, 2) := by decide +kernel
theorem d_X5_home_130 : decode cX5_home 130 = .ok (.if_icmp .gt 33, 3) := by decide +kernel
theorem d_X5_home_133 : decode cX5_home 133 = .ok (.iload_n 2, 1) := by decide +kernel
theorem d_X5_home_134 : decode cX5_home 134 = .ok (.ifCond .ne 8, 3) := by decide +kernel
theorem d_X5_home_137 : decode cX5_home 137 = .ok (.iload 5, 2) := by decide +kernel
theorem d_X5_home_139 : decode cX5_home 139 = .ok (.goto 23, 3) := by decide +kernel
theorem d_X5_home_142 : decode cX5_home 142 = .ok (.iload 4, 2) := by decide +kernel
theorem d_X5_home_144 : decode cX5_home 144 = .ok (.iconst 2, 1) := by decide +kernel
theorem d_X5_home_145 : decode cX5_home 145 = .ok (.aload_n 0, 1) := by decide +kernel
theorem d_X5_home_146 : decode cX5_home 146 = .ok (.getfield 40, 3) := by decide +kernel
theorem d_X5_home_149 : decode cX5_home 149 = .ok (.iload 5, 2) := by decide +kernel
theorem d_X5_home_151 : decode cX5_home 151 = .ok (.aaload, 1) := by decide +kernel
theorem d_X5_home_152 : decode cX5_home 152 = .ok (.aload_n 0, 1) := by decide +kernel
theorem d_X5_home_153 : decode cX5_home 153 = .ok (.getfield 34, 3) := by decide +kernel
theorem d_X5_home_156 : decode cX5_home 156 = .ok (.iload 5, 2) := by decide +kernel
theorem d_X5_home_158 : decode cX5_home 158 = .ok (.iaload, 1) := by decide +kernel
theorem d_X5_home_159 : decode cX5_home 159 = .ok (.iaload, 1) := by decide +kernel
theorem d_X5_home_160 : decode cX5_home 160 = .ok (.imul, 1) := by decide +kernel
theorem d_X5_home_161 : decode cX5_home 161 = .ok (.isub, 1) := by decide +kernel
theorem d_X5_home_162 : decode cX5_home 162 = .ok (.ireturn, 1) := by decide +kernel
theorem d_X5_home_163 : decode cX5_home 163 = .ok (.iinc 5 1, 3) := by decide +kernel
theorem d_X5_home_166 : decode cX5_home 166 = .ok (.goto (-62), 3) := by decide +kernel
theorem d_X5_home_169 : decode cX5_home 169 = .ok (.iconst (-1), 1) := by decide +kernel
theorem d_X5_home_170 : decode cX5_home 170 = .ok (.ireturn, 1) := by decide +kernel
abbrev rm_X5_home : Room := { frames := 7, cells := 0, slots := 0, locals := 163 }
set_option maxHeartbeats 4000000 in
set_option maxRecDepth 20000 in
theorem c_X5_home_104 {x : Cx} {b : Wy} (o : Ok x (wM b) cX5_home 6 RX5 (some .int) rm_X5_home) {v1 : Int32} {v2 : Int32} {K : Int32 → Sg → Prop}   : ∀ (n : Nat) (l4 : Int32) (l5 : Int32) (σ : Sg), m_X5_home_l104 v1 v2 K  n l4 l5 σ → J x (wM b) (FinC x (wM b) (PI K) (0, 0)) 104 [(0, .ref (wB (wM b) + 347)), (2, .int v2), (4, .int l4), (5, .int l5)] [] (0, 0) σ := by
  intro n
  induction n with
  | zero =>
    intro l4 l5 σ  h
    exact False.elim h
  | succ n ih =>
    intro l4 l5 σ  h
    unfold m_X5_home_l104 at h
    refine J_iload o 3 d_X5_home_104 rfl ?_
    refine J_bipush (v := 60) o d_X5_home_106 bipush_60 ?_
    refine J_icmp_gt o 169 d_X5_home_108 rfl (fun c108 => ?_) (fun c108 => ?_)
    · replace h := h.1 c108
      refine J_iconst (v := (-1)) o d_X5_home_169 iconst_m1 ?_
      exact J_iret o d_X5_home_170 ⟨_, rfl, h⟩
    · replace h := h.2 c108
      refine J_iconst (v := 2) o d_X5_home_111 iconst_2 ?_
      refine J_aload_n o 0 d_X5_home_112 rfl ?_
      refine J_getR (t := 425) o fl_RX5_40 rfl (Nat.le_of_ble_eq_true rfl) (Nat.le_of_ble_eq_true rfl) rfl rfl d_X5_home_113 ?_
      refine J_iload o 3 d_X5_home_116 rfl ?_
      have b118 := h.1
      replace h := h.2
      refine J_aald (t := (425 + 1 + l5.toNatClampNeg)) o 2 (by decide) (G_k G_425) (G_lo G_425) (G_hi G_425) (vpc (G_l G_425) b118) (G_t G_425 _) d_X5_home_118 ?_
      refine J_aload_n o 0 d_X5_home_119 rfl ?_
      refine J_getR (t := 362) o fl_RX5_34 rfl (Nat.le_of_ble_eq_true rfl) (Nat.le_of_ble_eq_true rfl) rfl rfl d_X5_home_120 ?_
      refine J_iload o 3 d_X5_home_123 rfl ?_
      have b125 := h.1
      replace h := h.2
      refine J_iald o A_362 (vpc (rfl : ln 362 = 61) b125) d_X5_home_125 ?_
      have b126 := h.1
      replace h := h.2
      refine J_iald o (G_A G_425 b118) (vpc (G_L G_425 b118) b126) d_X5_home_126 ?_
      refine J_imul o d_X5_home_127 ?_
      refine J_iload o 2 d_X5_home_128 rfl ?_
      refine J_icmp_gt o 163 d_X5_home_130 rfl (fun c130 => ?_) (fun c130 => ?_)
      · replace h := h.1 c130
        refine J_iinc (lv' := [(5, .int (l5 + 1)), (0, .ref (wB (wM b) + 347)), (2, .int v2), (4, .int l4)]) o 3 d_X5_home_163 (by decide) rfl iconst_1 rfl ?_
        refine J_goto o 104 d_X5_home_166 rfl ?_
        refine J_sub [1, 2, 3, 0] rfl ?_
        exact ih l4 (l5 + 1) σ  h
      · replace h := h.2 c130
        refine J_iload_n o 1 d_X5_home_133 rfl ?_
        refine J_if_ne o 142 d_X5_home_134 rfl (fun c134 => ?_) (fun c134 => ?_)
        · replace h := h.1 c134
          refine J_iload o 2 d_X5_home_142 rfl ?_
          refine J_iconst (v := 2) o d_X5_home_144 iconst_2 ?_
          refine J_aload_n o 0 d_X5_home_145 rfl ?_
          refine J_getR (t := 425) o fl_RX5_40 rfl (Nat.le_of_ble_eq_true rfl) (Nat.le_of_ble_eq_true rfl) rfl rfl d_X5_home_146 ?_
          refine J_iload o 3 d_X5_home_149 rfl ?_
          have b151 := h.1
          replace h := h.2
          refine J_aald (t := (425 + 1 + l5.toNatClampNeg)) o 2 (by decide) (G_k G_425) (G_lo G_425) (G_hi G_425) (vpc (G_l G_425) b151) (G_t G_425 _) d_X5_home_151 ?_
          refine J_aload_n o 0 d_X5_home_152 rfl ?_
          refine J_getR (t := 362) o fl_RX5_34 rfl (Nat.le_of_ble_eq_true rfl) (Nat.le_of_ble_eq_true rfl) rfl rfl d_X5_home_153 ?_
          refine J_iload o 3 d_X5_home_156 rfl ?_
          have b158 := h.1
          replace h := h.2
          refine J_iald o A_362 (vpc (rfl : ln 362 = 61) b158) d_X5_home_158 ?_
          have b159 := h.1
          replace h := h.2
          refine J_iald o (G_A G_425 b151) (vpc (G_L G_425 b151) b159) d_X5_home_159 ?_
          refine J_imul o d_X5_home_160 ?_
          refine J_isub o d_X5_home_161 ?_
          exact J_iret o d_X5_home_162 ⟨_, rfl, h⟩
        · replace h := h.2 c134
          refine J_iload o 3 d_X5_home_137 rfl ?_
          refine J_goto o 162 d_X5_home_139 rfl ?_
          exact J_iret o d_X5_home_162 ⟨_, rfl, h⟩
set_option maxHeartbeats 4000000 in
set_option maxRecDepth 20000 in
theorem c_X5_home_42 {x : Cx} {b : Wy} (o : Ok x (wM b) cX5_home 6 RX5 (some .int) rm_X5_home) {v1 : Int32} {v2 : Int32} {K : Int32 → Sg → Prop}   : ∀ (k1 : Int32) (σ : Sg), m_X5_home_j42 v1 v2 K  k1 σ → J x (wM b) (FinC x (wM b) (PI K) (0, 0)) 42 [(0, .ref (wB (wM b) + 347)), (1, .int v1), (2, .int v2)] [.int k1, .ref (wB (wM b) + 347)] (0, 0) σ := by
  intro k1 σ  h
  unfold m_X5_home_j42 at h
  refine J_iconst (v := 2) o d_X5_home_42 iconst_2 ?_
  refine J_iconst (v := 1) o d_X5_home_43 iconst_1 ?_
  refine J_callV (k := 347) (c := 5) o [.int k1, .int 2, .int 1] rfl (by decide) (Nat.le_of_ble_eq_true rfl) (Nat.le_of_ble_eq_true rfl) mth_X5_bad iv_X5_bad ml_RX5_216 ⟨Nat.le_of_ble_eq_true rfl, Nat.le_of_ble_eq_true rfl⟩ rfl rfl (Nat.le_of_ble_eq_true rfl) ⟨Nat.le_refl _, Nat.le_refl _⟩ d_X5_home_44 (w_X5_bad (xL x) b  h) (aZ (fun r44 s44 hzr44 h => ?_))
  refine J_if_eq o 52 d_X5_home_47 rfl (fun c47 => ?_) (fun c47 => ?_)
  · replace h := h.1 c47
    refine J_aload_n o 0 d_X5_home_52 rfl ?_
    refine J_iload_n o 1 d_X5_home_53 rfl ?_
    refine J_callV (k := 347) (c := 5) o [.int v1] rfl (by decide) (Nat.le_of_ble_eq_true rfl) (Nat.le_of_ble_eq_true rfl) mth_X5_earliest iv_X5_earliest ml_RX5_280 ⟨Nat.le_of_ble_eq_true rfl, Nat.le_of_ble_eq_true rfl⟩ rfl rfl (Nat.le_of_ble_eq_true rfl) ⟨Nat.le_refl _, Nat.le_refl _⟩ d_X5_home_54 (w_X5_earliest (xL x) b  h) (aI (fun r54 s54 h => ?_))
    refine J_istore_n (lv' := [(3, .int r54), (0, .ref (wB (wM b) + 347)), (1, .int v1), (2, .int v2)]) o d_X5_home_57 (by decide) rfl ?_
    refine J_iload_n o 0 d_X5_home_58 rfl ?_
    refine J_iconst (v := (-1)) o d_X5_home_59 iconst_m1 ?_
    refine J_icmp_ne o 65 d_X5_home_60 rfl (fun c60 => ?_) (fun c60 => ?_)
    · replace h := h.1 c60
      refine J_aload_n o 1 d_X5_home_65 rfl ?_
      refine J_iload_n o 2 d_X5_home_66 rfl ?_
      refine J_callV (k := 347) (c := 5) o [.int v1] rfl (by decide) (Nat.le_of_ble_eq_true rfl) (Nat.le_of_ble_eq_true rfl) mth_X5_fuelOf iv_X5_fuelOf ml_RX5_244 ⟨Nat.le_of_ble_eq_true rfl, Nat.le_of_ble_eq_true rfl⟩ rfl rfl (Nat.le_of_ble_eq_true rfl) ⟨Nat.le_refl _, Nat.le_refl _⟩ d_X5_home_67 (w_X5_fuelOf (xL x) b  h) (aI (fun r67 s67 h => ?_))
      refine J_aload_n o 1 d_X5_home_70 rfl ?_
      refine J_getR (t := 363) o fl_RX5_37 rfl (Nat.le_of_ble_eq_true rfl) (Nat.le_of_ble_eq_true rfl) rfl rfl d_X5_home_71 ?_
      refine J_iload_n o 0 d_X5_home_74 rfl ?_
      have b75 := h.1
      replace h := h.2
      refine J_aald (t := (363 + 1 + r54.toNatClampNeg)) o 2 (by decide) (G_k G_363) (G_lo G_363) (G_hi G_363) (vpc (G_l G_363) b75) (G_t G_363 _) d_X5_home_75 ?_
      refine J_aload_n o 1 d_X5_home_76 rfl ?_
      refine J_getR (t := 361) o fl_RX5_31 rfl (Nat.le_of_ble_eq_true rfl) (Nat.le_of_ble_eq_true rfl) rfl rfl d_X5_home_77 ?_
      refine J_iload_n o 0 d_X5_home_80 rfl ?_
      have b81 := h.1
      replace h := h.2
      refine J_iald o A_361 (vpc (rfl : ln 361 = 61) b81) d_X5_home_81 ?_
      have b82 := h.1
      replace h := h.2
      refine J_iald o (G_A G_363 b75) (vpc (G_L G_363 b75) b82) d_X5_home_82 ?_
      refine J_isub o d_X5_home_83 ?_
      refine J_top (fun l4_84 el4_84 => ?_)
      replace h := h l4_84 el4_84
      refine J_istore (lv' := [(4, .int l4_84), (3, .int r54), (0, .ref (wB (wM b) + 347)), (1, .int v1), (2, .int v2)]) o d_X5_home_84 (by decide) rfl ?_
      refine J_aload_n o 2 d_X5_home_86 rfl ?_
      refine J_aload_n o 2 d_X5_home_87 rfl ?_
      refine J_getR (t := 425) o fl_RX5_40 rfl (Nat.le_of_ble_eq_true rfl) (Nat.le_of_ble_eq_true rfl) rfl rfl d_X5_home_88 ?_
      refine J_iload_n o 1 d_X5_home_91 rfl ?_
      refine J_aload_n o 2 d_X5_home_92 rfl ?_
      refine J_getR (t := 361) o fl_RX5_31 rfl (Nat.le_of_ble_eq_true rfl) (Nat.le_of_ble_eq_true rfl) rfl rfl d_X5_home_93 ?_
      refine J_iload_n o 1 d_X5_home_96 rfl ?_
      have b97 := h.1
      replace h := h.2
      refine J_iald o A_361 (vpc (rfl : ln 361 = 61) b97) d_X5_home_97 ?_
      refine J_callV (k := 347) (c := 5) o [.ref (wB (wM b) + 425), .int r54, .int (s67 361 r54.toNatClampNeg)] rfl (by decide) (Nat.le_of_ble_eq_true rfl) (Nat.le_of_ble_eq_true rfl) mth_X5_spreads iv_X5_spreads ml_RX5_276 ⟨Nat.le_of_ble_eq_true rfl, Nat.le_of_ble_eq_true rfl⟩ rfl rfl (Nat.le_of_ble_eq_true rfl) ⟨Nat.le_refl _, Nat.le_refl _⟩ d_X5_home_98 (w_X5_spreads (xL x) b G_425 h) (aV (fun s98 h => ?_))
      refine J_iload_n o 1 d_X5_home_101 rfl ?_
      refine J_istore (lv' := [(5, .int r54), (4, .int l4_84), (3, .int r54), (0, .ref (wB (wM b) + 347)), (1, .int v1), (2, .int v2)]) o d_X5_home_102 (by decide) rfl ?_
      refine J_sub [3, 5, 1, 0] rfl ?_
      obtain ⟨n9, h⟩ := h
      exact c_X5_home_104 o   n9 l4_84 r54 s98  h
    · replace h := h.2 c60
      refine J_iconst (v := (-1)) o d_X5_home_63 iconst_m1 ?_
      exact J_iret o d_X5_home_64 ⟨_, rfl, h⟩
  · replace h := h.2 c47
    refine J_iconst (v := 0) o d_X5_home_50 iconst_0 ?_
    exact J_iret o d_X5_home_51 ⟨_, rfl, h⟩
set_option maxHeartbeats 4000000 in
set_option maxRecDepth 20000 in
theorem c_X5_home_19 {x : Cx} {b : Wy} (o : Ok x (wM b) cX5_home 6 RX5 (some .int) rm_X5_home) {v1 : Int32} {v2 : Int32} {K : Int32 → Sg → Prop}   : ∀ (k1 : Int32) (σ : Sg), m_X5_home_j19 v1 v2 K  k1 σ → J x (wM b) (FinC x (wM b) (PI K) (0, 0)) 19 [(0, .ref (wB (wM b) + 347)), (1, .int v1), (2, .int v2)] [.int k1, .ref (wB (wM b) + 347)] (0, 0) σ := by
  intro k1 σ  h
  unfold m_X5_home_j19 at h
  refine J_iconst (v := 1) o d_X5_home_19 iconst_1 ?_
  refine J_iconst (v := 0) o d_X5_home_20 iconst_0 ?_
  refine J_callV (k := 347) (c := 5) o [.int k1, .int 1, .int 0] rfl (by decide) (Nat.le_of_ble_eq_true rfl) (Nat.le_of_ble_eq_true rfl) mth_X5_bad iv_X5_bad ml_RX5_216 ⟨Nat.le_of_ble_eq_true rfl, Nat.le_of_ble_eq_true rfl⟩ rfl rfl (Nat.le_of_ble_eq_true rfl) ⟨Nat.le_refl _, Nat.le_refl _⟩ d_X5_home_21 (w_X5_bad (xL x) b  h) (aZ (fun r21 s21 hzr21 h => ?_))
  refine J_if_ne o 50 d_X5_home_24 rfl (fun c24 => ?_) (fun c24 => ?_)
  · replace h := h.1 c24
    refine J_iconst (v := 0) o d_X5_home_50 iconst_0 ?_
    exact J_iret o d_X5_home_51 ⟨_, rfl, h⟩
  · replace h := h.2 c24
    refine J_aload_n o 0 d_X5_home_27 rfl ?_
    refine J_iload_n o 2 d_X5_home_28 rfl ?_
    refine J_iconst (v := 0) o d_X5_home_29 iconst_0 ?_
    refine J_iconst (v := 1) o d_X5_home_30 iconst_1 ?_
    refine J_callS o [.int v2, .int 0, .int 1] mth_X5_in st_X5_in ml_RX5_56 ⟨Nat.le_of_ble_eq_true rfl, Nat.le_of_ble_eq_true rfl⟩ rfl rfl (Nat.le_of_ble_eq_true rfl) ⟨Nat.le_refl _, Nat.le_refl _⟩ d_X5_home_31 (w_X5_in (xL x) b  h) (aZ (fun r31 s31 hzr31 h => ?_))
    refine J_if_ne o 41 d_X5_home_34 rfl (fun c34 => ?_) (fun c34 => ?_)
    · replace h := h.1 c34
      refine J_iconst (v := 0) o d_X5_home_41 iconst_0 ?_
      exact c_X5_home_42 o   0 s31  h
    · replace h := h.2 c34
      refine J_iconst (v := 1) o d_X5_home_37 iconst_1 ?_
      refine J_goto o 42 d_X5_home_38 rfl ?_
      exact c_X5_home_42 o   1 s31  h
set_option maxHeartbeats 4000000 in
set_option maxRecDepth 20000 in
theorem w_X5_home (l : Launch) (b : Wy) {v1 : Int32} {v2 : Int32} {σ : Sg} {K : Int32 → Sg → Prop}  (h : m_X5_home v1 v2 σ K) : Ct l (wM b) yX5_home cX5_home 6 (some .int) rm_X5_home [.ref (wB (wM b) + 347), .int v1, .int v2] σ (PI K) := by
  unfold m_X5_home at h
  refine Ct.of (own := RX5) (by decide +kernel) rfl (Nat.le_of_ble_eq_true rfl) (fun x hx o => ?_)
  subst hx
  show J x (wM b) (FinC x (wM b) (PI K) (0, 0)) 0 [(0, .ref (wB (wM b) + 347)), (1, .int v1), (2, .int v2)] [] (0, 0) σ
  refine J_aload_n o 0 d_X5_home_0 rfl ?_
  refine J_iconst (v := 0) o d_X5_home_1 iconst_0 ?_
  refine J_put o fl_RX5_50 la_5 rfl (Nat.le_of_ble_eq_true rfl) (Nat.le_of_ble_eq_true rfl) rfl rfl rfl rfl d_X5_home_2 ?_
  refine J_nS (fun s2 es2 => ?_)
  replace h := h s2 es2
  refine J_aload_n o 0 d_X5_home_5 rfl ?_
  refine J_aload_n o 0 d_X5_home_6 rfl ?_
  refine J_iload_n o 1 d_X5_home_7 rfl ?_
  refine J_callV (k := 347) (c := 5) o [.int v1] rfl (by decide) (Nat.le_of_ble_eq_true rfl) (Nat.le_of_ble_eq_true rfl) mth_X5_isHelper iv_X5_isHelper ml_RX5_235 ⟨Nat.le_of_ble_eq_true rfl, Nat.le_of_ble_eq_true rfl⟩ rfl rfl (Nat.le_of_ble_eq_true rfl) ⟨Nat.le_refl _, Nat.le_refl _⟩ d_X5_home_8 (w_X5_isHelper (xL x) b  h) (aZ (fun r8 s8 hzr8 h => ?_))
  refine J_if_ne o 18 d_X5_home_11 rfl (fun c11 => ?_) (fun c11 => ?_)
  · replace h := h.1 c11
    refine J_iconst (v := 0) o d_X5_home_18 iconst_0 ?_
    exact c_X5_home_19 o   0 s8  h
  · replace h := h.2 c11
    refine J_iconst (v := 1) o d_X5_home_14 iconst_1 ?_
    refine J_goto o 19 d_X5_home_15 rfl ?_
    exact c_X5_home_19 o   1 s8  h
theorem d_X5_numberOf_0 : decode cX5_numberOf 0 = .ok (.aload_n 0, 1) := by decide +kernel
theorem d_X5_numberOf_1 : decode cX5_numberOf 1 = .ok (.iconst 0, 1) := by decide +kernel
theorem d_X5_numberOf_2 : decode cX5_numberOf 2 = .ok (.iaload, 1) := by decide +kernel
theorem d_X5_numberOf_3 : decode cX5_numberOf 3 = .ok (.iload_n 2, 1) := by decide +kernel
theorem d_X5_numberOf_4 : decode cX5_numberOf 4 = .ok (.imul, 1) := by decide +kernel
theorem d_X5_numberOf_5 : decode cX5_numberOf 5 = .ok (.iload_n 1, 1) := by decide +kernel
theorem d_X5_numberOf_6 : decode cX5_numberOf 6 = .ok (.iadd, 1) := by decide +kernel
theorem d_X5_numberOf_7 : decode cX5_numberOf 7 = .ok (.ireturn, 1) := by decide +kernel
abbrev rm_X5_numberOf : Room := { frames := 0, cells := 0, slots := 0, locals := 0 }
set_option maxHeartbeats 4000000 in
set_option maxRecDepth 20000 in
theorem w_X5_numberOf (l : Launch) (b : Wy) {v0 : Nat} {v1 : Int32} {v2 : Int32} {σ : Sg} {K : Int32 → Sg → Prop} (hv0 : IsA (wM b) v0) (h : m_X5_numberOf v0 v1 v2 σ K) : Ct l (wM b) yX5_numberOf cX5_numberOf 3 (some .int) rm_X5_numberOf [.ref (wB (wM b) + v0), .int v1, .int v2] σ (PI K) := by
  unfold m_X5_numberOf at h
  refine Ct.of (own := RX5) (by decide +kernel) rfl (Nat.le_of_ble_eq_true rfl) (fun x hx o => ?_)
  subst hx
  show J x (wM b) (FinC x (wM b) (PI K) (0, 0)) 0 [(0, .ref (wB (wM b) + v0)), (1, .int v1), (2, .int v2)] [] (0, 0) σ
  refine J_aload_n o 0 d_X5_numberOf_0 rfl ?_
  refine J_iconst (v := 0) o d_X5_numberOf_1 iconst_0 ?_
  have b2 := h.1
  replace h := h.2
  refine J_iald o hv0 (vpc rfl b2) d_X5_numberOf_2 ?_
  refine J_iload_n o 2 d_X5_numberOf_3 rfl ?_
  refine J_imul o d_X5_numberOf_4 ?_
  refine J_iload_n o 1 d_X5_numberOf_5 rfl ?_
  refine J_iadd o d_X5_numberOf_6 ?_
  exact J_iret o d_X5_numberOf_7 ⟨_, rfl, h⟩
theorem d_X5_print_0 : decode cX5_print 0 = .ok (.aload_n 0, 1) := by decide +kernel
theorem d_X5_print_1 : decode cX5_print 1 = .ok (.iconst 0, 1) := by decide +kernel
theorem d_X5_print_2 : decode cX5_print 2 = .ok (.putfield 50, 3) := by decide +kernel
theorem d_X5_print_5 : decode cX5_print 5 = .ok (.ldc2_w 286, 3) := by decide +kernel
theorem d_X5_print_8 : decode cX5_print 8 = .ok (.aload_n 0, 1) := by decide +kernel
theorem d_X5_print_9 : decode cX5_print 9 = .ok (.getfield 20, 3) := by decide +kernel
theorem d_X5_print_12 : decode cX5_print 12 = .ok (.aload_n 0, 1) := by decide +kernel
theorem d_X5_print_13 : decode cX5_print 13 = .ok (.getfield 20, 3) := by decide +kernel
theorem d_X5_print_16 : decode cX5_print 16 = .ok (.bipush 6, 2) := by decide +kernel
theorem d_X5_print_18 : decode cX5_print 18 = .ok (.iaload, 1) := by decide +kernel
theorem d_X5_print_19 : decode cX5_print 19 = .ok (.aload_n 0, 1) := by decide +kernel
theorem d_X5_print_20 : decode cX5_print 20 = .ok (.getfield 20, 3) := by decide +kernel
theorem d_X5_print_23 : decode cX5_print 23 = .ok (.bipush 7, 2) := by decide +kernel
theorem d_X5_print_25 : decode cX5_print 25 = .ok (.iaload, 1) := by decide +kernel
theorem d_X5_print_26 : decode cX5_print 26 = .ok (.invokestatic 288, 3) := by decide +kernel
theorem d_X5_print_29 : decode cX5_print 29 = .ok (.i2l, 1) := by decide +kernel
theorem d_X5_print_30 : decode cX5_print 30 = .ok (.lmul, 1) := by decide +kernel
theorem d_X5_print_31 : decode cX5_print 31 = .ok (.aload_n 0, 1) := by decide +kernel
theorem d_X5_print_32 : decode cX5_print 32 = .ok (.getfield 20, 3) := by decide +kernel
theorem d_X5_print_35 : decode cX5_print 35 = .ok (.aload_n 0, 1) := by decide +kernel
theorem d_X5_print_36 : decode cX5_print 36 = .ok (.getfield 20, 3) := by decide +kernel
theorem d_X5_print_39 : decode cX5_print 39 = .ok (.bipush 8, 2) := by decide +kernel
theorem d_X5_print_41 : decode cX5_print 41 = .ok (.iaload, 1) := by decide +kernel
theorem d_X5_print_42 : decode cX5_print 42 = .ok (.aload_n 0, 1) := by decide +kernel
theorem d_X5_print_43 : decode cX5_print 43 = .ok (.getfield 20, 3) := by decide +kernel
theorem d_X5_print_46 : decode cX5_print 46 = .ok (.bipush 9, 2) := by decide +kernel
theorem d_X5_print_48 : decode cX5_print 48 = .ok (.iaload, 1) := by decide +kernel
theorem d_X5_print_49 : decode cX5_print 49 = .ok (.invokestatic 288, 3) := by decide +kernel
theorem d_X5_print_52 : decode cX5_print 52 = .ok (.i2l, 1) := by decide +kernel
theorem d_X5_print_53 : decode cX5_print 53 = .ok (.ladd, 1) := by decide +kernel
theorem d_X5_print_54 : decode cX5_print 54 = .ok (.lstore_n 1, 1) := by decide +kernel
theorem d_X5_print_55 : decode cX5_print 55 = .ok (.iconst 0, 1) := by decide +kernel
theorem d_X5_print_56 : decode cX5_print 56 = .ok (.istore_n 3, 1) := by decide +kernel
theorem d_X5_print_57 : decode cX5_print 57 = .ok (.iload_n 3, 1) := by decide +kernel
theorem d_X5_print_58 : decode cX5_print 58 = .ok (.aload_n 0, 1) := by decide +kernel
theorem d_X5_print_59 : decode cX5_print 59 = .ok (.getfield 20, 3) := by decide +kernel
theorem d_X5_print_62 : decode cX5_print 62 = .ok (.iconst 3, 1) := by decide +kernel
theorem d_X5_print_63 : decode cX5_print 63 = .ok (.iaload, 1) := by decide +kernel
theorem d_X5_print_64 : decode cX5_print 64 = .ok (.if_icmp .ge 61, 3) := by decide +kernel
theorem d_X5_print_67 : decode cX5_print 67 = .ok (.ldc2_w 286, 3) := by decide +kernel
theorem d_X5_print_70 : decode cX5_print 70 = .ok (.ldc2_w 286, 3) := by decide +kernel
theorem d_X5_print_73 : decode cX5_print 73 = .ok (.lload_n 1, 1) := by decide +kernel
theorem d_X5_print_74 : decode cX5_print 74 = .ok (.lmul, 1) := by decide +kernel
theorem d_X5_print_75 : decode cX5_print 75 = .ok (.aload_n 0, 1) := by decide +kernel
theorem d_X5_print_76 : decode cX5_print 76 = .ok (.getfield 20, 3) := by decide +kernel
theorem d_X5_print_79 : decode cX5_print 79 = .ok (.aload_n 0, 1) := by decide +kernel
theorem d_X5_print_80 : decode cX5_print 80 = .ok (.getfield 20, 3) := by decide +kernel
theorem d_X5_print_83 : decode cX5_print 83 = .ok (.sipush 1089, 3) := by decide +kernel
theorem d_X5_print_86 : decode cX5_print 86 = .ok (.iconst 3, 1) := by decide +kernel
theorem d_X5_print_87 : decode cX5_print 87 = .ok (.iload_n 3, 1) := by decide +kernel
theorem d_X5_print_88 : decode cX5_print 88 = .ok (.imul, 1) := by decide +kernel
theorem d_X5_print_89 : decode cX5_print 89 = .ok (.iadd, 1) := by decide +kernel
theorem d_X5_print_90 : decode cX5_print 90 = .ok (.iaload, 1) := by decide +kernel
theorem d_X5_print_91 : decode cX5_print 91 = .ok (.aload_n 0, 1) := by decide +kernel
theorem d_X5_print_92 : decode cX5_print 92 = .ok (.getfield 20, 3) := by decide +kernel
theorem d_X5_print_95 : decode cX5_print 95 = .ok (.sipush 1089, 3) := by decide +kernel
theorem d_X5_print_98 : decode cX5_print 98 = .ok (.iconst 3, 1) := by decide +kernel
theorem d_X5_print_99 : decode cX5_print 99 = .ok (.iload_n 3, 1) := by decide +kernel
theorem d_X5_print_100 : decode cX5_print 100 = .ok (.imul, 1) := by decide +kernel
theorem d_X5_print_101 : decode cX5_print 101 = .ok (.iadd, 1) := by decide +kernel
theorem d_X5_print_102 : decode cX5_print 102 = .ok (.iconst 1, 1) := by decide +kernel
theorem d_X5_print_103 : decode cX5_print 103 = .ok (.iadd, 1) := by decide +kernel
theorem d_X5_print_104 : decode cX5_print 104 = .ok (.iaload, 1) := by decide +kernel
theorem d_X5_print_105 : decode cX5_print 105 = .ok (.invokestatic 288, 3) := by decide +kernel
theorem d_X5_print_108 : decode cX5_print 108 = .ok (.i2l, 1) := by decide +kernel
theorem d_X5_print_109 : decode cX5_print 109 = .ok (.ladd, 1) := by decide +kernel
theorem d_X5_print_110 : decode cX5_print 110 = .ok (.lmul, 1) := by decide +kernel
theorem d_X5_print_111 : decode cX5_print 111 = .ok (.aload_n 0, 1) := by decide +kernel
theorem d_X5_print_112 : decode cX5_print 112 = .ok (.iload_n 3, 1) := by decide +kernel
theorem d_X5_print_113 : decode cX5_print 113 = .ok (.invokevirtual 244, 3) := by decide +kernel
theorem d_X5_print_116 : decode cX5_print 116 = .ok (.i2l, 1) := by decide +kernel
theorem d_X5_print_117 : decode cX5_print 117 = .ok (.ladd, 1) := by decide +kernel
theorem d_X5_print_118 : decode cX5_print 118 = .ok (.lstore_n 1, 1) := by decide +kernel
theorem d_X5_print_119 : decode cX5_print 119 = .ok (.iinc 3 1, 3) := by decide +kernel
theorem d_X5_print_122 : decode cX5_print 122 = .ok (.goto (-65), 3) := by decide +kernel
theorem d_X5_print_125 : decode cX5_print 125 = .ok (.lload_n 1, 1) := by decide +kernel
theorem d_X5_print_126 : decode cX5_print 126 = .ok (.lreturn, 1) := by decide +kernel
abbrev rm_X5_print : Room := { frames := 1, cells := 0, slots := 0, locals := 22 }
set_option maxHeartbeats 4000000 in
set_option maxRecDepth 20000 in
theorem c_X5_print_57 {x : Cx} {b : Wy} (o : Ok x (wM b) cX5_print 4 RX5 (some .long) rm_X5_print)  {K : Int64 → Sg → Prop}   : ∀ (n : Nat) (l1 : Int64) (l3 : Int32) (σ : Sg), m_X5_print_l57  K  n l1 l3 σ → J x (wM b) (FinC x (wM b) (PL K) (0, 0)) 57 [(0, .ref (wB (wM b) + 347)), (1, .long l1), (3, .int l3)] [] (0, 0) σ := by
  intro n
  induction n with
  | zero =>
    intro l1 l3 σ  h
    exact False.elim h
  | succ n ih =>
    intro l1 l3 σ  h
    unfold m_X5_print_l57 at h
    refine J_iload_n o 2 d_X5_print_57 rfl ?_
    refine J_aload_n o 0 d_X5_print_58 rfl ?_
    refine J_getR (t := 350) o fl_RX5_20 rfl (Nat.le_of_ble_eq_true rfl) (Nat.le_of_ble_eq_true rfl) rfl rfl d_X5_print_59 ?_
    refine J_iconst (v := 3) o d_X5_print_62 iconst_3 ?_
    have b63 := h.1
    replace h := h.2
    refine J_iald o A_350 (vpc (rfl : ln 350 = 1098) b63) d_X5_print_63 ?_
    refine J_icmp_ge o 125 d_X5_print_64 rfl (fun c64 => ?_) (fun c64 => ?_)
    · replace h := h.1 c64
      refine J_lload_n o 1 d_X5_print_125 rfl ?_
      exact J_lret o d_X5_print_126 ⟨_, rfl, h⟩
    · replace h := h.2 c64
      refine J_ldc2 o d_X5_print_67 cl_RX5_286 ?_
      refine J_ldc2 o d_X5_print_70 cl_RX5_286 ?_
      refine J_lload_n o 1 d_X5_print_73 rfl ?_
      refine J_lmul o d_X5_print_74 ?_
      refine J_aload_n o 0 d_X5_print_75 rfl ?_
      refine J_getR (t := 350) o fl_RX5_20 rfl (Nat.le_of_ble_eq_true rfl) (Nat.le_of_ble_eq_true rfl) rfl rfl d_X5_print_76 ?_
      refine J_aload_n o 0 d_X5_print_79 rfl ?_
      refine J_getR (t := 350) o fl_RX5_20 rfl (Nat.le_of_ble_eq_true rfl) (Nat.le_of_ble_eq_true rfl) rfl rfl d_X5_print_80 ?_
      refine J_sipush (v := 1089) o d_X5_print_83 sipush_1089 ?_
      refine J_iconst (v := 3) o d_X5_print_86 iconst_3 ?_
      refine J_iload_n o 2 d_X5_print_87 rfl ?_
      refine J_imul o d_X5_print_88 ?_
      refine J_iadd o d_X5_print_89 ?_
      have b90 := h.1
      replace h := h.2
      refine J_iald o A_350 (vpc (rfl : ln 350 = 1098) b90) d_X5_print_90 ?_
      refine J_aload_n o 0 d_X5_print_91 rfl ?_
      refine J_getR (t := 350) o fl_RX5_20 rfl (Nat.le_of_ble_eq_true rfl) (Nat.le_of_ble_eq_true rfl) rfl rfl d_X5_print_92 ?_
      refine J_sipush (v := 1089) o d_X5_print_95 sipush_1089 ?_
      refine J_iconst (v := 3) o d_X5_print_98 iconst_3 ?_
      refine J_iload_n o 2 d_X5_print_99 rfl ?_
      refine J_imul o d_X5_print_100 ?_
      refine J_iadd o d_X5_print_101 ?_
      refine J_iconst (v := 1) o d_X5_print_102 iconst_1 ?_
      refine J_iadd o d_X5_print_103 ?_
      have b104 := h.1
      replace h := h.2
      refine J_iald o A_350 (vpc (rfl : ln 350 = 1098) b104) d_X5_print_104 ?_
      refine J_callS o [.ref (wB (wM b) + 350), .int (σ 350 (1089 + (3 * l3)).toNatClampNeg), .int (σ 350 ((1089 + (3 * l3)) + 1).toNatClampNeg)] mth_X5_numberOf st_X5_numberOf ml_RX5_288 ⟨Nat.le_of_ble_eq_true rfl, Nat.le_of_ble_eq_true rfl⟩ rfl rfl (Nat.le_of_ble_eq_true rfl) ⟨Nat.le_refl _, Nat.le_refl _⟩ d_X5_print_105 (w_X5_numberOf (xL x) b A_350 h) (aI (fun r105 s105 h => ?_))
      refine J_i2l o d_X5_print_108 ?_
      refine J_ladd o d_X5_print_109 ?_
      refine J_lmul o d_X5_print_110 ?_
      refine J_aload_n o 0 d_X5_print_111 rfl ?_
      refine J_iload_n o 2 d_X5_print_112 rfl ?_
      refine J_callV (k := 347) (c := 5) o [.int l3] rfl (by decide) (Nat.le_of_ble_eq_true rfl) (Nat.le_of_ble_eq_true rfl) mth_X5_fuelOf iv_X5_fuelOf ml_RX5_244 ⟨Nat.le_of_ble_eq_true rfl, Nat.le_of_ble_eq_true rfl⟩ rfl rfl (Nat.le_of_ble_eq_true rfl) ⟨Nat.le_refl _, Nat.le_refl _⟩ d_X5_print_113 (w_X5_fuelOf (xL x) b  h) (aI (fun r113 s113 h => ?_))
      refine J_i2l o d_X5_print_116 ?_
      refine J_ladd o d_X5_print_117 ?_
      refine J_lstore_n (lv' := [(1, .long ((31 * ((31 * l1) + r105.toInt64)) + r113.toInt64)), (0, .ref (wB (wM b) + 347)), (3, .int l3)]) o d_X5_print_118 (by decide) rfl ?_
      refine J_iinc (lv' := [(3, .int (l3 + 1)), (1, .long ((31 * ((31 * l1) + r105.toInt64)) + r113.toInt64)), (0, .ref (wB (wM b) + 347))]) o 2 d_X5_print_119 (by decide) rfl iconst_1 rfl ?_
      refine J_goto o 57 d_X5_print_122 rfl ?_
      refine J_sub [2, 1, 0] rfl ?_
      exact ih ((31 * ((31 * l1) + r105.toInt64)) + r113.toInt64) (l3 + 1) s113  h
set_option maxHeartbeats 4000000 in
set_option maxRecDepth 20000 in
theorem w_X5_print (l : Launch) (b : Wy)  {σ : Sg} {K : Int64 → Sg → Prop}  (h : m_X5_print  σ K) : Ct l (wM b) yX5_print cX5_print 4 (some .long) rm_X5_print [.ref (wB (wM b) + 347)] σ (PL K) := by
  unfold m_X5_print at h
  refine Ct.of (own := RX5) (by decide +kernel) rfl (Nat.le_of_ble_eq_true rfl) (fun x hx o => ?_)
  subst hx
  show J x (wM b) (FinC x (wM b) (PL K) (0, 0)) 0 [(0, .ref (wB (wM b) + 347))] [] (0, 0) σ
  refine J_aload_n o 0 d_X5_print_0 rfl ?_
  refine J_iconst (v := 0) o d_X5_print_1 iconst_0 ?_
  refine J_put o fl_RX5_50 la_5 rfl (Nat.le_of_ble_eq_true rfl) (Nat.le_of_ble_eq_true rfl) rfl rfl rfl rfl d_X5_print_2 ?_
  refine J_nS (fun s2 es2 => ?_)
  replace h := h s2 es2
  refine J_ldc2 o d_X5_print_5 cl_RX5_286 ?_
  refine J_aload_n o 0 d_X5_print_8 rfl ?_
  refine J_getR (t := 350) o fl_RX5_20 rfl (Nat.le_of_ble_eq_true rfl) (Nat.le_of_ble_eq_true rfl) rfl rfl d_X5_print_9 ?_
  refine J_aload_n o 0 d_X5_print_12 rfl ?_
  refine J_getR (t := 350) o fl_RX5_20 rfl (Nat.le_of_ble_eq_true rfl) (Nat.le_of_ble_eq_true rfl) rfl rfl d_X5_print_13 ?_
  refine J_bipush (v := 6) o d_X5_print_16 bipush_6 ?_
  have b18 := h.1
  replace h := h.2
  refine J_iald o A_350 (vpc (rfl : ln 350 = 1098) b18) d_X5_print_18 ?_
  refine J_aload_n o 0 d_X5_print_19 rfl ?_
  refine J_getR (t := 350) o fl_RX5_20 rfl (Nat.le_of_ble_eq_true rfl) (Nat.le_of_ble_eq_true rfl) rfl rfl d_X5_print_20 ?_
  refine J_bipush (v := 7) o d_X5_print_23 bipush_7 ?_
  have b25 := h.1
  replace h := h.2
  refine J_iald o A_350 (vpc (rfl : ln 350 = 1098) b25) d_X5_print_25 ?_
  refine J_callS o [.ref (wB (wM b) + 350), .int (s2 350 (6 : Int32).toNatClampNeg), .int (s2 350 (7 : Int32).toNatClampNeg)] mth_X5_numberOf st_X5_numberOf ml_RX5_288 ⟨Nat.le_of_ble_eq_true rfl, Nat.le_of_ble_eq_true rfl⟩ rfl rfl (Nat.le_of_ble_eq_true rfl) ⟨Nat.le_refl _, Nat.le_refl _⟩ d_X5_print_26 (w_X5_numberOf (xL x) b A_350 h) (aI (fun r26 s26 h => ?_))
  refine J_i2l o d_X5_print_29 ?_
  refine J_lmul o d_X5_print_30 ?_
  refine J_aload_n o 0 d_X5_print_31 rfl ?_
  refine J_getR (t := 350) o fl_RX5_20 rfl (Nat.le_of_ble_eq_true rfl) (Nat.le_of_ble_eq_true rfl) rfl rfl d_X5_print_32 ?_
  refine J_aload_n o 0 d_X5_print_35 rfl ?_
  refine J_getR (t := 350) o fl_RX5_20 rfl (Nat.le_of_ble_eq_true rfl) (Nat.le_of_ble_eq_true rfl) rfl rfl d_X5_print_36 ?_
  refine J_bipush (v := 8) o d_X5_print_39 bipush_8 ?_
  have b41 := h.1
  replace h := h.2
  refine J_iald o A_350 (vpc (rfl : ln 350 = 1098) b41) d_X5_print_41 ?_
  refine J_aload_n o 0 d_X5_print_42 rfl ?_
  refine J_getR (t := 350) o fl_RX5_20 rfl (Nat.le_of_ble_eq_true rfl) (Nat.le_of_ble_eq_true rfl) rfl rfl d_X5_print_43 ?_
  refine J_bipush (v := 9) o d_X5_print_46 bipush_9 ?_
  have b48 := h.1
  replace h := h.2
  refine J_iald o A_350 (vpc (rfl : ln 350 = 1098) b48) d_X5_print_48 ?_
  refine J_callS o [.ref (wB (wM b) + 350), .int (s26 350 (8 : Int32).toNatClampNeg), .int (s26 350 (9 : Int32).toNatClampNeg)] mth_X5_numberOf st_X5_numberOf ml_RX5_288 ⟨Nat.le_of_ble_eq_true rfl, Nat.le_of_ble_eq_true rfl⟩ rfl rfl (Nat.le_of_ble_eq_true rfl) ⟨Nat.le_refl _, Nat.le_refl _⟩ d_X5_print_49 (w_X5_numberOf (xL x) b A_350 h) (aI (fun r49 s49 h => ?_))
  refine J_i2l o d_X5_print_52 ?_
  refine J_ladd o d_X5_print_53 ?_
  refine J_lstore_n (lv' := [(1, .long ((31 * r26.toInt64) + r49.toInt64)), (0, .ref (wB (wM b) + 347))]) o d_X5_print_54 (by decide) rfl ?_
  refine J_iconst (v := 0) o d_X5_print_55 iconst_0 ?_
  refine J_istore_n (lv' := [(3, .int 0), (1, .long ((31 * r26.toInt64) + r49.toInt64)), (0, .ref (wB (wM b) + 347))]) o d_X5_print_56 (by decide) rfl ?_
  refine J_sub [2, 1, 0] rfl ?_
  obtain ⟨n9, h⟩ := h
  exact c_X5_print_57 o   n9 ((31 * r26.toInt64) + r49.toInt64) 0 s49  h
theorem d_X5_status_0 : decode cX5_status 0 = .ok (.aload_n 0, 1) := by decide +kernel
theorem d_X5_status_1 : decode cX5_status 1 = .ok (.iconst 0, 1) := by decide +kernel
theorem d_X5_status_2 : decode cX5_status 2 = .ok (.putfield 50, 3) := by decide +kernel
theorem d_X5_status_5 : decode cX5_status 5 = .ok (.iload_n 1, 1) := by decide +kernel
theorem d_X5_status_6 : decode cX5_status 6 = .ok (.iconst 0, 1) := by decide +kernel
theorem d_X5_status_7 : decode cX5_status 7 = .ok (.iconst 2, 1) := by decide +kernel
theorem d_X5_status_8 : decode cX5_status 8 = .ok (.invokestatic 56, 3) := by decide +kernel
theorem d_X5_status_11 : decode cX5_status 11 = .ok (.ifCond .eq 12, 3) := by decide +kernel
theorem d_X5_status_14 : decode cX5_status 14 = .ok (.aload_n 0, 1) := by decide +kernel
theorem d_X5_status_15 : decode cX5_status 15 = .ok (.getfield 9, 3) := by decide +kernel
theorem d_X5_status_18 : decode cX5_status 18 = .ok (.iload_n 1, 1) := by decide +kernel
theorem d_X5_status_19 : decode cX5_status 19 = .ok (.iaload, 1) := by decide +kernel
theorem d_X5_status_20 : decode cX5_status 20 = .ok (.goto 4, 3) := by decide +kernel
theorem d_X5_status_23 : decode cX5_status 23 = .ok (.iconst (-1), 1) := by decide +kernel
theorem d_X5_status_24 : decode cX5_status 24 = .ok (.ireturn, 1) := by decide +kernel
abbrev rm_X5_status : Room := { frames := 1, cells := 0, slots := 0, locals := 22 }
set_option maxHeartbeats 4000000 in
set_option maxRecDepth 20000 in
theorem w_X5_status (l : Launch) (b : Wy) {v1 : Int32} {σ : Sg} {K : Int32 → Sg → Prop}  (h : m_X5_status v1 σ K) : Ct l (wM b) yX5_status cX5_status 2 (some .int) rm_X5_status [.ref (wB (wM b) + 347), .int v1] σ (PI K) := by
  unfold m_X5_status at h
  refine Ct.of (own := RX5) (by decide +kernel) rfl (Nat.le_of_ble_eq_true rfl) (fun x hx o => ?_)
  subst hx
  show J x (wM b) (FinC x (wM b) (PI K) (0, 0)) 0 [(0, .ref (wB (wM b) + 347)), (1, .int v1)] [] (0, 0) σ
  refine J_aload_n o 0 d_X5_status_0 rfl ?_
  refine J_iconst (v := 0) o d_X5_status_1 iconst_0 ?_
  refine J_put o fl_RX5_50 la_5 rfl (Nat.le_of_ble_eq_true rfl) (Nat.le_of_ble_eq_true rfl) rfl rfl rfl rfl d_X5_status_2 ?_
  refine J_nS (fun s2 es2 => ?_)
  replace h := h s2 es2
  refine J_iload_n o 1 d_X5_status_5 rfl ?_
  refine J_iconst (v := 0) o d_X5_status_6 iconst_0 ?_
  refine J_iconst (v := 2) o d_X5_status_7 iconst_2 ?_
  refine J_callS o [.int v1, .int 0, .int 2] mth_X5_in st_X5_in ml_RX5_56 ⟨Nat.le_of_ble_eq_true rfl, Nat.le_of_ble_eq_true rfl⟩ rfl rfl (Nat.le_of_ble_eq_true rfl) ⟨Nat.le_refl _, Nat.le_refl _⟩ d_X5_status_8 (w_X5_in (xL x) b  h) (aZ (fun r8 s8 hzr8 h => ?_))
  refine J_if_eq o 23 d_X5_status_11 rfl (fun c11 => ?_) (fun c11 => ?_)
  · replace h := h.1 c11
    refine J_iconst (v := (-1)) o d_X5_status_23 iconst_m1 ?_
    exact J_iret o d_X5_status_24 ⟨_, rfl, h⟩
  · replace h := h.2 c11
    refine J_aload_n o 0 d_X5_status_14 rfl ?_
    refine J_getR (t := 348) o fl_RX5_9 rfl (Nat.le_of_ble_eq_true rfl) (Nat.le_of_ble_eq_true rfl) rfl rfl d_X5_status_15 ?_
    refine J_iload_n o 1 d_X5_status_18 rfl ?_
    have b19 := h.1
    replace h := h.2
    refine J_iald o A_348 (vpc (rfl : ln 348 = 3) b19) d_X5_status_19 ?_
    refine J_goto o 24 d_X5_status_20 rfl ?_
    exact J_iret o d_X5_status_24 ⟨_, rfl, h⟩
