/-! the walks, printed by program -/
theorem d_X5_told_0 : decode cX5_told 0 = .ok (.aload_n 0, 1) := by decide +kernel
theorem d_X5_told_1 : decode cX5_told 1 = .ok (.iconst 0, 1) := by decide +kernel
theorem d_X5_told_2 : decode cX5_told 2 = .ok (.putfield 50, 3) := by decide +kernel
theorem d_X5_told_5 : decode cX5_told 5 = .ok (.aload_n 0, 1) := by decide +kernel
theorem d_X5_told_6 : decode cX5_told 6 = .ok (.iload_n 1, 1) := by decide +kernel
theorem d_X5_told_7 : decode cX5_told 7 = .ok (.iconst 0, 1) := by decide +kernel
theorem d_X5_told_8 : decode cX5_told 8 = .ok (.bipush 12, 2) := by decide +kernel
theorem d_X5_told_10 : decode cX5_told 10 = .ok (.invokestatic 56, 3) := by decide +kernel
theorem d_X5_told_13 : decode cX5_told 13 = .ok (.ifCond .ne 7, 3) := by decide +kernel
theorem d_X5_told_16 : decode cX5_told 16 = .ok (.iconst 1, 1) := by decide +kernel
theorem d_X5_told_17 : decode cX5_told 17 = .ok (.goto 4, 3) := by decide +kernel
theorem d_X5_told_20 : decode cX5_told 20 = .ok (.iconst 0, 1) := by decide +kernel
theorem d_X5_told_21 : decode cX5_told 21 = .ok (.iconst 1, 1) := by decide +kernel
theorem d_X5_told_22 : decode cX5_told 22 = .ok (.iconst 1, 1) := by decide +kernel
theorem d_X5_told_23 : decode cX5_told 23 = .ok (.invokevirtual 216, 3) := by decide +kernel
theorem d_X5_told_26 : decode cX5_told 26 = .ok (.ifCond .eq 5, 3) := by decide +kernel
theorem d_X5_told_29 : decode cX5_told 29 = .ok (.iconst 0, 1) := by decide +kernel
theorem d_X5_told_30 : decode cX5_told 30 = .ok (.ireturn, 1) := by decide +kernel
theorem d_X5_told_31 : decode cX5_told 31 = .ok (.iconst 0, 1) := by decide +kernel
theorem d_X5_told_32 : decode cX5_told 32 = .ok (.istore_n 2, 1) := by decide +kernel
theorem d_X5_told_33 : decode cX5_told 33 = .ok (.iconst 0, 1) := by decide +kernel
theorem d_X5_told_34 : decode cX5_told 34 = .ok (.istore_n 3, 1) := by decide +kernel
theorem d_X5_told_35 : decode cX5_told 35 = .ok (.iload_n 3, 1) := by decide +kernel
theorem d_X5_told_36 : decode cX5_told 36 = .ok (.sipush 240, 3) := by decide +kernel
theorem d_X5_told_39 : decode cX5_told 39 = .ok (.if_icmp .ge 22, 3) := by decide +kernel
theorem d_X5_told_42 : decode cX5_told 42 = .ok (.iload_n 2, 1) := by decide +kernel
theorem d_X5_told_43 : decode cX5_told 43 = .ok (.aload_n 0, 1) := by decide +kernel
theorem d_X5_told_44 : decode cX5_told 44 = .ok (.getfield 20, 3) := by decide +kernel
theorem d_X5_told_47 : decode cX5_told 47 = .ok (.sipush 609, 3) := by decide +kernel
theorem d_X5_told_50 : decode cX5_told 50 = .ok (.iload_n 3, 1) := by decide +kernel
theorem d_X5_told_51 : decode cX5_told 51 = .ok (.iadd, 1) := by decide +kernel
theorem d_X5_told_52 : decode cX5_told 52 = .ok (.iaload, 1) := by decide +kernel
theorem d_X5_told_53 : decode cX5_told 53 = .ok (.iadd, 1) := by decide +kernel
theorem d_X5_told_54 : decode cX5_told 54 = .ok (.istore_n 2, 1) := by decide +kernel
theorem d_X5_told_55 : decode cX5_told 55 = .ok (.iinc 3 1, 3) := by decide +kernel
theorem d_X5_told_58 : decode cX5_told 58 = .ok (.goto (-23), 3) := by decide +kernel
theorem d_X5_told_61 : decode cX5_told 61 = .ok (.iload_n 1, 1) := by decide +kernel
theorem d_X5_told_62 : decode cX5_told 62 = .ok (.bipush 6, 2) := by decide +kernel
theorem d_X5_told_64 : decode cX5_told 64 = .ok (.if_icmp .ge 12, 3) := by decide +kernel
theorem d_X5_told_67 : decode cX5_told 67 = .ok (.aload_n 0, 1) := by decide +kernel
theorem d_X5_told_68 : decode cX5_told 68 = .ok (.getfield 20, 3) := by decide +kernel
theorem d_X5_told_71 : decode cX5_told 71 = .ok (.iload_n 1, 1) := by decide +kernel
theorem d_X5_told_72 : decode cX5_told 72 = .ok (.iaload, 1) := by decide +kernel
theorem d_X5_told_73 : decode cX5_told 73 = .ok (.goto 51, 3) := by decide +kernel
theorem d_X5_told_76 : decode cX5_told 76 = .ok (.iload_n 1, 1) := by decide +kernel
theorem d_X5_told_77 : decode cX5_told 77 = .ok (.bipush 6, 2) := by decide +kernel
theorem d_X5_told_79 : decode cX5_told 79 = .ok (.if_icmp .ne 7, 3) := by decide +kernel
theorem d_X5_told_82 : decode cX5_told 82 = .ok (.iload_n 2, 1) := by decide +kernel
theorem d_X5_told_83 : decode cX5_told 83 = .ok (.goto 41, 3) := by decide +kernel
theorem d_X5_told_86 : decode cX5_told 86 = .ok (.iload_n 1, 1) := by decide +kernel
theorem d_X5_told_87 : decode cX5_told 87 = .ok (.bipush 11, 2) := by decide +kernel
theorem d_X5_told_89 : decode cX5_told 89 = .ok (.if_icmp .ge 18, 3) := by decide +kernel
theorem d_X5_told_92 : decode cX5_told 92 = .ok (.aload_n 0, 1) := by decide +kernel
theorem d_X5_told_93 : decode cX5_told 93 = .ok (.getfield 20, 3) := by decide +kernel
theorem d_X5_told_96 : decode cX5_told 96 = .ok (.bipush 6, 2) := by decide +kernel
theorem d_X5_told_98 : decode cX5_told 98 = .ok (.iload_n 1, 1) := by decide +kernel
theorem d_X5_told_99 : decode cX5_told 99 = .ok (.iadd, 1) := by decide +kernel
theorem d_X5_told_100 : decode cX5_told 100 = .ok (.bipush 7, 2) := by decide +kernel
theorem d_X5_told_102 : decode cX5_told 102 = .ok (.isub, 1) := by decide +kernel
theorem d_X5_told_103 : decode cX5_told 103 = .ok (.iaload, 1) := by decide +kernel
theorem d_X5_told_104 : decode cX5_told 104 = .ok (.goto 20, 3) := by decide +kernel
theorem d_X5_told_107 : decode cX5_told 107 = .ok (.iload_n 1, 1) := by decide +kernel
theorem d_X5_told_108 : decode cX5_told 108 = .ok (.bipush 11, 2) := by decide +kernel
theorem d_X5_told_110 : decode cX5_told 110 = .ok (.if_icmp .ne 10, 3) := by decide +kernel
theorem d_X5_told_113 : decode cX5_told 113 = .ok (.aload_n 0, 1) := by decide +kernel
theorem d_X5_told_114 : decode cX5_told 114 = .ok (.getfield 53, 3) := by decide +kernel
theorem d_X5_told_117 : decode cX5_told 117 = .ok (.goto 7, 3) := by decide +kernel
theorem d_X5_told_120 : decode cX5_told 120 = .ok (.aload_n 0, 1) := by decide +kernel
theorem d_X5_told_121 : decode cX5_told 121 = .ok (.getfield 232, 3) := by decide +kernel
theorem d_X5_told_124 : decode cX5_told 124 = .ok (.ireturn, 1) := by decide +kernel
abbrev rm_X5_told : Room := { frames := 1, cells := 0, slots := 0, locals := 23 }
set_option maxHeartbeats 4000000 in
set_option maxRecDepth 20000 in
theorem c_X5_told_35 {x : Cx} {b : Wy} (o : Ok x (wM b) cX5_told 4 RX5 (some .int) rm_X5_told) {v1 : Int32} {K : Int32 → Sg → Prop}   : ∀ (n : Nat) (l2 : Int32) (l3 : Int32) (σ : Sg), m_X5_told_l35 v1 K  n l2 l3 σ → J x (wM b) (FinC x (wM b) (PI K) (0, 0)) 35 [(0, .ref (wB (wM b) + 347)), (1, .int v1), (2, .int l2), (3, .int l3)] [] (0, 0) σ := by
  intro n
  induction n with
  | zero =>
    intro l2 l3 σ  h
    exact False.elim h
  | succ n ih =>
    intro l2 l3 σ  h
    unfold m_X5_told_l35 at h
    refine J_iload_n o 3 d_X5_told_35 rfl ?_
    refine J_sipush (v := 240) o d_X5_told_36 sipush_240 ?_
    refine J_icmp_ge o 61 d_X5_told_39 rfl (fun c39 => ?_) (fun c39 => ?_)
    · replace h := h.1 c39
      refine J_iload_n o 1 d_X5_told_61 rfl ?_
      refine J_bipush (v := 6) o d_X5_told_62 bipush_6 ?_
      refine J_icmp_ge o 76 d_X5_told_64 rfl (fun c64 => ?_) (fun c64 => ?_)
      · replace h := h.1 c64
        refine J_iload_n o 1 d_X5_told_76 rfl ?_
        refine J_bipush (v := 6) o d_X5_told_77 bipush_6 ?_
        refine J_icmp_ne o 86 d_X5_told_79 rfl (fun c79 => ?_) (fun c79 => ?_)
        · replace h := h.1 c79
          refine J_iload_n o 1 d_X5_told_86 rfl ?_
          refine J_bipush (v := 11) o d_X5_told_87 bipush_11 ?_
          refine J_icmp_ge o 107 d_X5_told_89 rfl (fun c89 => ?_) (fun c89 => ?_)
          · replace h := h.1 c89
            refine J_iload_n o 1 d_X5_told_107 rfl ?_
            refine J_bipush (v := 11) o d_X5_told_108 bipush_11 ?_
            refine J_icmp_ne o 120 d_X5_told_110 rfl (fun c110 => ?_) (fun c110 => ?_)
            · replace h := h.1 c110
              refine J_aload_n o 0 d_X5_told_120 rfl ?_
              refine J_getI o fl_RX5_232 rfl (Nat.le_of_ble_eq_true rfl) (Nat.le_of_ble_eq_true rfl) rfl d_X5_told_121 ?_
              exact J_iret o d_X5_told_124 ⟨_, rfl, h⟩
            · replace h := h.2 c110
              refine J_aload_n o 0 d_X5_told_113 rfl ?_
              refine J_getI o fl_RX5_53 rfl (Nat.le_of_ble_eq_true rfl) (Nat.le_of_ble_eq_true rfl) rfl d_X5_told_114 ?_
              refine J_goto o 124 d_X5_told_117 rfl ?_
              exact J_iret o d_X5_told_124 ⟨_, rfl, h⟩
          · replace h := h.2 c89
            refine J_aload_n o 0 d_X5_told_92 rfl ?_
            refine J_getR (t := 350) o fl_RX5_20 rfl (Nat.le_of_ble_eq_true rfl) (Nat.le_of_ble_eq_true rfl) rfl rfl d_X5_told_93 ?_
            refine J_bipush (v := 6) o d_X5_told_96 bipush_6 ?_
            refine J_iload_n o 1 d_X5_told_98 rfl ?_
            refine J_iadd o d_X5_told_99 ?_
            refine J_bipush (v := 7) o d_X5_told_100 bipush_7 ?_
            refine J_isub o d_X5_told_102 ?_
            have b103 := h.1
            replace h := h.2
            refine J_iald o A_350 (vpc (rfl : ln 350 = 1098) b103) d_X5_told_103 ?_
            refine J_goto o 124 d_X5_told_104 rfl ?_
            exact J_iret o d_X5_told_124 ⟨_, rfl, h⟩
        · replace h := h.2 c79
          refine J_iload_n o 2 d_X5_told_82 rfl ?_
          refine J_goto o 124 d_X5_told_83 rfl ?_
          exact J_iret o d_X5_told_124 ⟨_, rfl, h⟩
      · replace h := h.2 c64
        refine J_aload_n o 0 d_X5_told_67 rfl ?_
        refine J_getR (t := 350) o fl_RX5_20 rfl (Nat.le_of_ble_eq_true rfl) (Nat.le_of_ble_eq_true rfl) rfl rfl d_X5_told_68 ?_
        refine J_iload_n o 1 d_X5_told_71 rfl ?_
        have b72 := h.1
        replace h := h.2
        refine J_iald o A_350 (vpc (rfl : ln 350 = 1098) b72) d_X5_told_72 ?_
        refine J_goto o 124 d_X5_told_73 rfl ?_
        exact J_iret o d_X5_told_124 ⟨_, rfl, h⟩
    · replace h := h.2 c39
      refine J_iload_n o 2 d_X5_told_42 rfl ?_
      refine J_aload_n o 0 d_X5_told_43 rfl ?_
      refine J_getR (t := 350) o fl_RX5_20 rfl (Nat.le_of_ble_eq_true rfl) (Nat.le_of_ble_eq_true rfl) rfl rfl d_X5_told_44 ?_
      refine J_sipush (v := 609) o d_X5_told_47 sipush_609 ?_
      refine J_iload_n o 3 d_X5_told_50 rfl ?_
      refine J_iadd o d_X5_told_51 ?_
      have b52 := h.1
      replace h := h.2
      refine J_iald o A_350 (vpc (rfl : ln 350 = 1098) b52) d_X5_told_52 ?_
      refine J_iadd o d_X5_told_53 ?_
      refine J_top (fun l2_54 el2_54 => ?_)
      replace h := h l2_54 el2_54
      refine J_istore_n (lv' := [(2, .int l2_54), (0, .ref (wB (wM b) + 347)), (1, .int v1), (3, .int l3)]) o d_X5_told_54 (by decide) rfl ?_
      refine J_iinc (lv' := [(3, .int (l3 + 1)), (2, .int l2_54), (0, .ref (wB (wM b) + 347)), (1, .int v1)]) o 3 d_X5_told_55 (by decide) rfl iconst_1 rfl ?_
      refine J_goto o 35 d_X5_told_58 rfl ?_
      refine J_sub [2, 3, 1, 0] rfl ?_
      exact ih l2_54 (l3 + 1) σ  h
set_option maxHeartbeats 4000000 in
set_option maxRecDepth 20000 in
theorem c_X5_told_21 {x : Cx} {b : Wy} (o : Ok x (wM b) cX5_told 4 RX5 (some .int) rm_X5_told) {v1 : Int32} {K : Int32 → Sg → Prop}   : ∀ (k1 : Int32) (σ : Sg), m_X5_told_j21 v1 K  k1 σ → J x (wM b) (FinC x (wM b) (PI K) (0, 0)) 21 [(0, .ref (wB (wM b) + 347)), (1, .int v1)] [.int k1, .ref (wB (wM b) + 347)] (0, 0) σ := by
  intro k1 σ  h
  unfold m_X5_told_j21 at h
  refine J_iconst (v := 1) o d_X5_told_21 iconst_1 ?_
  refine J_iconst (v := 1) o d_X5_told_22 iconst_1 ?_
  refine J_callV (k := 347) (c := 5) o [.int k1, .int 1, .int 1] rfl (by decide) (Nat.le_of_ble_eq_true rfl) (Nat.le_of_ble_eq_true rfl) mth_X5_bad iv_X5_bad ml_RX5_216 ⟨Nat.le_of_ble_eq_true rfl, Nat.le_of_ble_eq_true rfl⟩ rfl rfl (Nat.le_of_ble_eq_true rfl) ⟨Nat.le_refl _, Nat.le_refl _⟩ d_X5_told_23 (w_X5_bad (xL x) b  h) (aZ (fun r23 s23 hzr23 h => ?_))
  refine J_if_eq o 31 d_X5_told_26 rfl (fun c26 => ?_) (fun c26 => ?_)
  · replace h := h.1 c26
    refine J_iconst (v := 0) o d_X5_told_31 iconst_0 ?_
    refine J_istore_n (lv' := [(2, .int 0), (0, .ref (wB (wM b) + 347)), (1, .int v1)]) o d_X5_told_32 (by decide) rfl ?_
    refine J_iconst (v := 0) o d_X5_told_33 iconst_0 ?_
    refine J_istore_n (lv' := [(3, .int 0), (2, .int 0), (0, .ref (wB (wM b) + 347)), (1, .int v1)]) o d_X5_told_34 (by decide) rfl ?_
    refine J_sub [2, 3, 1, 0] rfl ?_
    obtain ⟨n9, h⟩ := h
    exact c_X5_told_35 o   n9 0 0 s23  h
  · replace h := h.2 c26
    refine J_iconst (v := 0) o d_X5_told_29 iconst_0 ?_
    exact J_iret o d_X5_told_30 ⟨_, rfl, h⟩
set_option maxHeartbeats 4000000 in
set_option maxRecDepth 20000 in
theorem w_X5_told (l : Launch) (b : Wy) {v1 : Int32} {σ : Sg} {K : Int32 → Sg → Prop}  (h : m_X5_told v1 σ K) : Ct l (wM b) yX5_told cX5_told 4 (some .int) rm_X5_told [.ref (wB (wM b) + 347), .int v1] σ (PI K) := by
  unfold m_X5_told at h
  refine Ct.of (own := RX5) (by decide +kernel) rfl (Nat.le_of_ble_eq_true rfl) (fun x hx o => ?_)
  subst hx
  show J x (wM b) (FinC x (wM b) (PI K) (0, 0)) 0 [(0, .ref (wB (wM b) + 347)), (1, .int v1)] [] (0, 0) σ
  refine J_aload_n o 0 d_X5_told_0 rfl ?_
  refine J_iconst (v := 0) o d_X5_told_1 iconst_0 ?_
  refine J_put o fl_RX5_50 la_5 rfl (Nat.le_of_ble_eq_true rfl) (Nat.le_of_ble_eq_true rfl) rfl rfl rfl rfl d_X5_told_2 ?_
  refine J_nS (fun s2 es2 => ?_)
  replace h := h s2 es2
  refine J_aload_n o 0 d_X5_told_5 rfl ?_
  refine J_iload_n o 1 d_X5_told_6 rfl ?_
  refine J_iconst (v := 0) o d_X5_told_7 iconst_0 ?_
  refine J_bipush (v := 12) o d_X5_told_8 bipush_12 ?_
  refine J_callS o [.int v1, .int 0, .int 12] mth_X5_in st_X5_in ml_RX5_56 ⟨Nat.le_of_ble_eq_true rfl, Nat.le_of_ble_eq_true rfl⟩ rfl rfl (Nat.le_of_ble_eq_true rfl) ⟨Nat.le_refl _, Nat.le_refl _⟩ d_X5_told_10 (w_X5_in (xL x) b  h) (aZ (fun r10 s10 hzr10 h => ?_))
  refine J_if_ne o 20 d_X5_told_13 rfl (fun c13 => ?_) (fun c13 => ?_)
  · replace h := h.1 c13
    refine J_iconst (v := 0) o d_X5_told_20 iconst_0 ?_
    exact c_X5_told_21 o   0 s10  h
  · replace h := h.2 c13
    refine J_iconst (v := 1) o d_X5_told_16 iconst_1 ?_
    refine J_goto o 21 d_X5_told_17 rfl ?_
    exact c_X5_told_21 o   1 s10  h
theorem d_X5_cell_0 : decode cX5_cell 0 = .ok (.aload_n 0, 1) := by decide +kernel
theorem d_X5_cell_1 : decode cX5_cell 1 = .ok (.iconst 0, 1) := by decide +kernel
theorem d_X5_cell_2 : decode cX5_cell 2 = .ok (.putfield 50, 3) := by decide +kernel
theorem d_X5_cell_5 : decode cX5_cell 5 = .ok (.aload_n 0, 1) := by decide +kernel
theorem d_X5_cell_6 : decode cX5_cell 6 = .ok (.aload_n 0, 1) := by decide +kernel
theorem d_X5_cell_7 : decode cX5_cell 7 = .ok (.getfield 20, 3) := by decide +kernel
theorem d_X5_cell_10 : decode cX5_cell 10 = .ok (.iload_n 1, 1) := by decide +kernel
theorem d_X5_cell_11 : decode cX5_cell 11 = .ok (.iload_n 2, 1) := by decide +kernel
theorem d_X5_cell_12 : decode cX5_cell 12 = .ok (.invokestatic 67, 3) := by decide +kernel
theorem d_X5_cell_15 : decode cX5_cell 15 = .ok (.ifCond .eq 12, 3) := by decide +kernel
theorem d_X5_cell_18 : decode cX5_cell 18 = .ok (.iload_n 3, 1) := by decide +kernel
theorem d_X5_cell_19 : decode cX5_cell 19 = .ok (.iconst 0, 1) := by decide +kernel
theorem d_X5_cell_20 : decode cX5_cell 20 = .ok (.iconst 1, 1) := by decide +kernel
theorem d_X5_cell_21 : decode cX5_cell 21 = .ok (.invokestatic 56, 3) := by decide +kernel
theorem d_X5_cell_24 : decode cX5_cell 24 = .ok (.ifCond .ne 7, 3) := by decide +kernel
theorem d_X5_cell_27 : decode cX5_cell 27 = .ok (.iconst 1, 1) := by decide +kernel
theorem d_X5_cell_28 : decode cX5_cell 28 = .ok (.goto 4, 3) := by decide +kernel
theorem d_X5_cell_31 : decode cX5_cell 31 = .ok (.iconst 0, 1) := by decide +kernel
theorem d_X5_cell_32 : decode cX5_cell 32 = .ok (.iconst 1, 1) := by decide +kernel
theorem d_X5_cell_33 : decode cX5_cell 33 = .ok (.iconst 1, 1) := by decide +kernel
theorem d_X5_cell_34 : decode cX5_cell 34 = .ok (.invokevirtual 216, 3) := by decide +kernel
theorem d_X5_cell_37 : decode cX5_cell 37 = .ok (.ifCond .eq 5, 3) := by decide +kernel
theorem d_X5_cell_40 : decode cX5_cell 40 = .ok (.iconst 0, 1) := by decide +kernel
theorem d_X5_cell_41 : decode cX5_cell 41 = .ok (.ireturn, 1) := by decide +kernel
theorem d_X5_cell_42 : decode cX5_cell 42 = .ok (.aload_n 0, 1) := by decide +kernel
theorem d_X5_cell_43 : decode cX5_cell 43 = .ok (.getfield 20, 3) := by decide +kernel
theorem d_X5_cell_46 : decode cX5_cell 46 = .ok (.iload_n 3, 1) := by decide +kernel
theorem d_X5_cell_47 : decode cX5_cell 47 = .ok (.ifCond .ne 9, 3) := by decide +kernel
theorem d_X5_cell_50 : decode cX5_cell 50 = .ok (.sipush 609, 3) := by decide +kernel
theorem d_X5_cell_53 : decode cX5_cell 53 = .ok (.goto 6, 3) := by decide +kernel
theorem d_X5_cell_56 : decode cX5_cell 56 = .ok (.sipush 849, 3) := by decide +kernel
theorem d_X5_cell_59 : decode cX5_cell 59 = .ok (.iload_n 1, 1) := by decide +kernel
theorem d_X5_cell_60 : decode cX5_cell 60 = .ok (.iload_n 2, 1) := by decide +kernel
theorem d_X5_cell_61 : decode cX5_cell 61 = .ok (.invokestatic 71, 3) := by decide +kernel
theorem d_X5_cell_64 : decode cX5_cell 64 = .ok (.iadd, 1) := by decide +kernel
theorem d_X5_cell_65 : decode cX5_cell 65 = .ok (.iaload, 1) := by decide +kernel
theorem d_X5_cell_66 : decode cX5_cell 66 = .ok (.ireturn, 1) := by decide +kernel
abbrev rm_X5_cell : Room := { frames := 2, cells := 0, slots := 0, locals := 44 }
set_option maxHeartbeats 4000000 in
set_option maxRecDepth 20000 in
theorem c_X5_cell_32 {x : Cx} {b : Wy} (o : Ok x (wM b) cX5_cell 4 RX5 (some .int) rm_X5_cell) {v1 : Int32} {v2 : Int32} {v3 : Int32} {K : Int32 → Sg → Prop}   : ∀ (k1 : Int32) (σ : Sg), m_X5_cell_j32 v1 v2 v3 K  k1 σ → J x (wM b) (FinC x (wM b) (PI K) (0, 0)) 32 [(0, .ref (wB (wM b) + 347)), (1, .int v1), (2, .int v2), (3, .int v3)] [.int k1, .ref (wB (wM b) + 347)] (0, 0) σ := by
  intro k1 σ  h
  unfold m_X5_cell_j32 at h
  refine J_iconst (v := 1) o d_X5_cell_32 iconst_1 ?_
  refine J_iconst (v := 1) o d_X5_cell_33 iconst_1 ?_
  refine J_callV (k := 347) (c := 5) o [.int k1, .int 1, .int 1] rfl (by decide) (Nat.le_of_ble_eq_true rfl) (Nat.le_of_ble_eq_true rfl) mth_X5_bad iv_X5_bad ml_RX5_216 ⟨Nat.le_of_ble_eq_true rfl, Nat.le_of_ble_eq_true rfl⟩ rfl rfl (Nat.le_of_ble_eq_true rfl) ⟨Nat.le_refl _, Nat.le_refl _⟩ d_X5_cell_34 (w_X5_bad (xL x) b  h) (aZ (fun r34 s34 hzr34 h => ?_))
  refine J_if_eq o 42 d_X5_cell_37 rfl (fun c37 => ?_) (fun c37 => ?_)
  · replace h := h.1 c37
    refine J_aload_n o 0 d_X5_cell_42 rfl ?_
    refine J_getR (t := 350) o fl_RX5_20 rfl (Nat.le_of_ble_eq_true rfl) (Nat.le_of_ble_eq_true rfl) rfl rfl d_X5_cell_43 ?_
    refine J_iload_n o 3 d_X5_cell_46 rfl ?_
    refine J_if_ne o 56 d_X5_cell_47 rfl (fun c47 => ?_) (fun c47 => ?_)
    · replace h := h.1 c47
      refine J_sipush (v := 849) o d_X5_cell_56 sipush_849 ?_
      refine J_iload_n o 1 d_X5_cell_59 rfl ?_
      refine J_iload_n o 2 d_X5_cell_60 rfl ?_
      refine J_callS o [.int v1, .int v2] mth_X5_cellAt st_X5_cellAt ml_RX5_71 ⟨Nat.le_of_ble_eq_true rfl, Nat.le_of_ble_eq_true rfl⟩ rfl rfl (Nat.le_of_ble_eq_true rfl) ⟨Nat.le_refl _, Nat.le_refl _⟩ d_X5_cell_61 (w_X5_cellAt (xL x) b  h) (aI (fun r61 s61 h => ?_))
      refine J_iadd o d_X5_cell_64 ?_
      have b65 := h.1
      replace h := h.2
      refine J_iald o A_350 (vpc (rfl : ln 350 = 1098) b65) d_X5_cell_65 ?_
      exact J_iret o d_X5_cell_66 ⟨_, rfl, h⟩
    · replace h := h.2 c47
      refine J_sipush (v := 609) o d_X5_cell_50 sipush_609 ?_
      refine J_goto o 59 d_X5_cell_53 rfl ?_
      refine J_iload_n o 1 d_X5_cell_59 rfl ?_
      refine J_iload_n o 2 d_X5_cell_60 rfl ?_
      refine J_callS o [.int v1, .int v2] mth_X5_cellAt st_X5_cellAt ml_RX5_71 ⟨Nat.le_of_ble_eq_true rfl, Nat.le_of_ble_eq_true rfl⟩ rfl rfl (Nat.le_of_ble_eq_true rfl) ⟨Nat.le_refl _, Nat.le_refl _⟩ d_X5_cell_61 (w_X5_cellAt (xL x) b  h) (aI (fun r61 s61 h => ?_))
      refine J_iadd o d_X5_cell_64 ?_
      have b65 := h.1
      replace h := h.2
      refine J_iald o A_350 (vpc (rfl : ln 350 = 1098) b65) d_X5_cell_65 ?_
      exact J_iret o d_X5_cell_66 ⟨_, rfl, h⟩
  · replace h := h.2 c37
    refine J_iconst (v := 0) o d_X5_cell_40 iconst_0 ?_
    exact J_iret o d_X5_cell_41 ⟨_, rfl, h⟩
set_option maxHeartbeats 4000000 in
set_option maxRecDepth 20000 in
theorem w_X5_cell (l : Launch) (b : Wy) {v1 : Int32} {v2 : Int32} {v3 : Int32} {σ : Sg} {K : Int32 → Sg → Prop}  (h : m_X5_cell v1 v2 v3 σ K) : Ct l (wM b) yX5_cell cX5_cell 4 (some .int) rm_X5_cell [.ref (wB (wM b) + 347), .int v1, .int v2, .int v3] σ (PI K) := by
  unfold m_X5_cell at h
  refine Ct.of (own := RX5) (by decide +kernel) rfl (Nat.le_of_ble_eq_true rfl) (fun x hx o => ?_)
  subst hx
  show J x (wM b) (FinC x (wM b) (PI K) (0, 0)) 0 [(0, .ref (wB (wM b) + 347)), (1, .int v1), (2, .int v2), (3, .int v3)] [] (0, 0) σ
  refine J_aload_n o 0 d_X5_cell_0 rfl ?_
  refine J_iconst (v := 0) o d_X5_cell_1 iconst_0 ?_
  refine J_put o fl_RX5_50 la_5 rfl (Nat.le_of_ble_eq_true rfl) (Nat.le_of_ble_eq_true rfl) rfl rfl rfl rfl d_X5_cell_2 ?_
  refine J_nS (fun s2 es2 => ?_)
  replace h := h s2 es2
  refine J_aload_n o 0 d_X5_cell_5 rfl ?_
  refine J_aload_n o 0 d_X5_cell_6 rfl ?_
  refine J_getR (t := 350) o fl_RX5_20 rfl (Nat.le_of_ble_eq_true rfl) (Nat.le_of_ble_eq_true rfl) rfl rfl d_X5_cell_7 ?_
  refine J_iload_n o 1 d_X5_cell_10 rfl ?_
  refine J_iload_n o 2 d_X5_cell_11 rfl ?_
  refine J_callS o [.ref (wB (wM b) + 350), .int v1, .int v2] mth_X5_isOn st_X5_isOn ml_RX5_67 ⟨Nat.le_of_ble_eq_true rfl, Nat.le_of_ble_eq_true rfl⟩ rfl rfl (Nat.le_of_ble_eq_true rfl) ⟨Nat.le_refl _, Nat.le_refl _⟩ d_X5_cell_12 (w_X5_isOn (xL x) b A_350 h) (aZ (fun r12 s12 hzr12 h => ?_))
  refine J_if_eq o 27 d_X5_cell_15 rfl (fun c15 => ?_) (fun c15 => ?_)
  · replace h := h.1 c15
    refine J_iconst (v := 1) o d_X5_cell_27 iconst_1 ?_
    refine J_goto o 32 d_X5_cell_28 rfl ?_
    exact c_X5_cell_32 o   1 s12  h
  · replace h := h.2 c15
    refine J_iload_n o 3 d_X5_cell_18 rfl ?_
    refine J_iconst (v := 0) o d_X5_cell_19 iconst_0 ?_
    refine J_iconst (v := 1) o d_X5_cell_20 iconst_1 ?_
    refine J_callS o [.int v3, .int 0, .int 1] mth_X5_in st_X5_in ml_RX5_56 ⟨Nat.le_of_ble_eq_true rfl, Nat.le_of_ble_eq_true rfl⟩ rfl rfl (Nat.le_of_ble_eq_true rfl) ⟨Nat.le_refl _, Nat.le_refl _⟩ d_X5_cell_21 (w_X5_in (xL x) b  h) (aZ (fun r21 s21 hzr21 h => ?_))
    refine J_if_ne o 31 d_X5_cell_24 rfl (fun c24 => ?_) (fun c24 => ?_)
    · replace h := h.1 c24
      refine J_iconst (v := 0) o d_X5_cell_31 iconst_0 ?_
      exact c_X5_cell_32 o   0 s21  h
    · replace h := h.2 c24
      refine J_iconst (v := 1) o d_X5_cell_27 iconst_1 ?_
      refine J_goto o 32 d_X5_cell_28 rfl ?_
      exact c_X5_cell_32 o   1 s21  h
theorem d_X5_blows_0 : decode cX5_blows 0 = .ok (.aload_n 0, 1) := by decide +kernel
theorem d_X5_blows_1 : decode cX5_blows 1 = .ok (.iconst 0, 1) := by decide +kernel
theorem d_X5_blows_2 : decode cX5_blows 2 = .ok (.putfield 50, 3) := by decide +kernel
theorem d_X5_blows_5 : decode cX5_blows 5 = .ok (.aload_n 0, 1) := by decide +kernel
theorem d_X5_blows_6 : decode cX5_blows 6 = .ok (.iload_n 1, 1) := by decide +kernel
theorem d_X5_blows_7 : decode cX5_blows 7 = .ok (.iconst 0, 1) := by decide +kernel
theorem d_X5_blows_8 : decode cX5_blows 8 = .ok (.sipush 560, 3) := by decide +kernel
theorem d_X5_blows_11 : decode cX5_blows 11 = .ok (.invokestatic 56, 3) := by decide +kernel
theorem d_X5_blows_14 : decode cX5_blows 14 = .ok (.ifCond .ne 7, 3) := by decide +kernel
theorem d_X5_blows_17 : decode cX5_blows 17 = .ok (.iconst 1, 1) := by decide +kernel
theorem d_X5_blows_18 : decode cX5_blows 18 = .ok (.goto 4, 3) := by decide +kernel
theorem d_X5_blows_21 : decode cX5_blows 21 = .ok (.iconst 0, 1) := by decide +kernel
theorem d_X5_blows_22 : decode cX5_blows 22 = .ok (.iconst 1, 1) := by decide +kernel
theorem d_X5_blows_23 : decode cX5_blows 23 = .ok (.iconst 1, 1) := by decide +kernel
theorem d_X5_blows_24 : decode cX5_blows 24 = .ok (.invokevirtual 216, 3) := by decide +kernel
theorem d_X5_blows_27 : decode cX5_blows 27 = .ok (.ifCond .eq 7, 3) := by decide +kernel
theorem d_X5_blows_30 : decode cX5_blows 30 = .ok (.iconst 0, 1) := by decide +kernel
theorem d_X5_blows_31 : decode cX5_blows 31 = .ok (.goto 11, 3) := by decide +kernel
theorem d_X5_blows_34 : decode cX5_blows 34 = .ok (.aload_n 0, 1) := by decide +kernel
theorem d_X5_blows_35 : decode cX5_blows 35 = .ok (.getfield 20, 3) := by decide +kernel
theorem d_X5_blows_38 : decode cX5_blows 38 = .ok (.iload_n 1, 1) := by decide +kernel
theorem d_X5_blows_39 : decode cX5_blows 39 = .ok (.invokestatic 82, 3) := by decide +kernel
theorem d_X5_blows_42 : decode cX5_blows 42 = .ok (.ireturn, 1) := by decide +kernel
abbrev rm_X5_blows : Room := { frames := 1, cells := 0, slots := 0, locals := 23 }
set_option maxHeartbeats 4000000 in
set_option maxRecDepth 20000 in
theorem c_X5_blows_22 {x : Cx} {b : Wy} (o : Ok x (wM b) cX5_blows 2 RX5 (some .int) rm_X5_blows) {v1 : Int32} {K : Int32 → Sg → Prop}   : ∀ (k1 : Int32) (σ : Sg), m_X5_blows_j22 v1 K  k1 σ → J x (wM b) (FinC x (wM b) (PI K) (0, 0)) 22 [(0, .ref (wB (wM b) + 347)), (1, .int v1)] [.int k1, .ref (wB (wM b) + 347)] (0, 0) σ := by
  intro k1 σ  h
  unfold m_X5_blows_j22 at h
  refine J_iconst (v := 1) o d_X5_blows_22 iconst_1 ?_
  refine J_iconst (v := 1) o d_X5_blows_23 iconst_1 ?_
  refine J_callV (k := 347) (c := 5) o [.int k1, .int 1, .int 1] rfl (by decide) (Nat.le_of_ble_eq_true rfl) (Nat.le_of_ble_eq_true rfl) mth_X5_bad iv_X5_bad ml_RX5_216 ⟨Nat.le_of_ble_eq_true rfl, Nat.le_of_ble_eq_true rfl⟩ rfl rfl (Nat.le_of_ble_eq_true rfl) ⟨Nat.le_refl _, Nat.le_refl _⟩ d_X5_blows_24 (w_X5_bad (xL x) b  h) (aZ (fun r24 s24 hzr24 h => ?_))
  refine J_if_eq o 34 d_X5_blows_27 rfl (fun c27 => ?_) (fun c27 => ?_)
  · replace h := h.1 c27
    refine J_aload_n o 0 d_X5_blows_34 rfl ?_
    refine J_getR (t := 350) o fl_RX5_20 rfl (Nat.le_of_ble_eq_true rfl) (Nat.le_of_ble_eq_true rfl) rfl rfl d_X5_blows_35 ?_
    refine J_iload_n o 1 d_X5_blows_38 rfl ?_
    refine J_callS o [.ref (wB (wM b) + 350), .int v1] mth_X5_windOf st_X5_windOf ml_RX5_82 ⟨Nat.le_of_ble_eq_true rfl, Nat.le_of_ble_eq_true rfl⟩ rfl rfl (Nat.le_of_ble_eq_true rfl) ⟨Nat.le_refl _, Nat.le_refl _⟩ d_X5_blows_39 (w_X5_windOf (xL x) b A_350 h) (aI (fun r39 s39 h => ?_))
    exact J_iret o d_X5_blows_42 ⟨_, rfl, h⟩
  · replace h := h.2 c27
    refine J_iconst (v := 0) o d_X5_blows_30 iconst_0 ?_
    refine J_goto o 42 d_X5_blows_31 rfl ?_
    exact J_iret o d_X5_blows_42 ⟨_, rfl, h⟩
set_option maxHeartbeats 4000000 in
set_option maxRecDepth 20000 in
theorem w_X5_blows (l : Launch) (b : Wy) {v1 : Int32} {σ : Sg} {K : Int32 → Sg → Prop}  (h : m_X5_blows v1 σ K) : Ct l (wM b) yX5_blows cX5_blows 2 (some .int) rm_X5_blows [.ref (wB (wM b) + 347), .int v1] σ (PI K) := by
  unfold m_X5_blows at h
  refine Ct.of (own := RX5) (by decide +kernel) rfl (Nat.le_of_ble_eq_true rfl) (fun x hx o => ?_)
  subst hx
  show J x (wM b) (FinC x (wM b) (PI K) (0, 0)) 0 [(0, .ref (wB (wM b) + 347)), (1, .int v1)] [] (0, 0) σ
  refine J_aload_n o 0 d_X5_blows_0 rfl ?_
  refine J_iconst (v := 0) o d_X5_blows_1 iconst_0 ?_
  refine J_put o fl_RX5_50 la_5 rfl (Nat.le_of_ble_eq_true rfl) (Nat.le_of_ble_eq_true rfl) rfl rfl rfl rfl d_X5_blows_2 ?_
  refine J_nS (fun s2 es2 => ?_)
  replace h := h s2 es2
  refine J_aload_n o 0 d_X5_blows_5 rfl ?_
  refine J_iload_n o 1 d_X5_blows_6 rfl ?_
  refine J_iconst (v := 0) o d_X5_blows_7 iconst_0 ?_
  refine J_sipush (v := 560) o d_X5_blows_8 sipush_560 ?_
  refine J_callS o [.int v1, .int 0, .int 560] mth_X5_in st_X5_in ml_RX5_56 ⟨Nat.le_of_ble_eq_true rfl, Nat.le_of_ble_eq_true rfl⟩ rfl rfl (Nat.le_of_ble_eq_true rfl) ⟨Nat.le_refl _, Nat.le_refl _⟩ d_X5_blows_11 (w_X5_in (xL x) b  h) (aZ (fun r11 s11 hzr11 h => ?_))
  refine J_if_ne o 21 d_X5_blows_14 rfl (fun c14 => ?_) (fun c14 => ?_)
  · replace h := h.1 c14
    refine J_iconst (v := 0) o d_X5_blows_21 iconst_0 ?_
    exact c_X5_blows_22 o   0 s11  h
  · replace h := h.2 c14
    refine J_iconst (v := 1) o d_X5_blows_17 iconst_1 ?_
    refine J_goto o 22 d_X5_blows_18 rfl ?_
    exact c_X5_blows_22 o   1 s11  h
theorem d_X5_helper_0 : decode cX5_helper 0 = .ok (.aload_n 0, 1) := by decide +kernel
theorem d_X5_helper_1 : decode cX5_helper 1 = .ok (.iconst 0, 1) := by decide +kernel
theorem d_X5_helper_2 : decode cX5_helper 2 = .ok (.putfield 50, 3) := by decide +kernel
theorem d_X5_helper_5 : decode cX5_helper 5 = .ok (.aload_n 0, 1) := by decide +kernel
theorem d_X5_helper_6 : decode cX5_helper 6 = .ok (.aload_n 0, 1) := by decide +kernel
theorem d_X5_helper_7 : decode cX5_helper 7 = .ok (.iload_n 1, 1) := by decide +kernel
theorem d_X5_helper_8 : decode cX5_helper 8 = .ok (.invokevirtual 235, 3) := by decide +kernel
theorem d_X5_helper_11 : decode cX5_helper 11 = .ok (.ifCond .ne 7, 3) := by decide +kernel
theorem d_X5_helper_14 : decode cX5_helper 14 = .ok (.iconst 1, 1) := by decide +kernel
theorem d_X5_helper_15 : decode cX5_helper 15 = .ok (.goto 4, 3) := by decide +kernel
theorem d_X5_helper_18 : decode cX5_helper 18 = .ok (.iconst 0, 1) := by decide +kernel
theorem d_X5_helper_19 : decode cX5_helper 19 = .ok (.iconst 1, 1) := by decide +kernel
theorem d_X5_helper_20 : decode cX5_helper 20 = .ok (.iconst 0, 1) := by decide +kernel
theorem d_X5_helper_21 : decode cX5_helper 21 = .ok (.invokevirtual 216, 3) := by decide +kernel
theorem d_X5_helper_24 : decode cX5_helper 24 = .ok (.ifCond .ne 26, 3) := by decide +kernel
theorem d_X5_helper_27 : decode cX5_helper 27 = .ok (.aload_n 0, 1) := by decide +kernel
theorem d_X5_helper_28 : decode cX5_helper 28 = .ok (.iload_n 2, 1) := by decide +kernel
theorem d_X5_helper_29 : decode cX5_helper 29 = .ok (.iconst 0, 1) := by decide +kernel
theorem d_X5_helper_30 : decode cX5_helper 30 = .ok (.iconst 3, 1) := by decide +kernel
theorem d_X5_helper_31 : decode cX5_helper 31 = .ok (.invokestatic 56, 3) := by decide +kernel
theorem d_X5_helper_34 : decode cX5_helper 34 = .ok (.ifCond .ne 7, 3) := by decide +kernel
theorem d_X5_helper_37 : decode cX5_helper 37 = .ok (.iconst 1, 1) := by decide +kernel
theorem d_X5_helper_38 : decode cX5_helper 38 = .ok (.goto 4, 3) := by decide +kernel
theorem d_X5_helper_41 : decode cX5_helper 41 = .ok (.iconst 0, 1) := by decide +kernel
theorem d_X5_helper_42 : decode cX5_helper 42 = .ok (.iconst 2, 1) := by decide +kernel
theorem d_X5_helper_43 : decode cX5_helper 43 = .ok (.iconst 1, 1) := by decide +kernel
theorem d_X5_helper_44 : decode cX5_helper 44 = .ok (.invokevirtual 216, 3) := by decide +kernel
theorem d_X5_helper_47 : decode cX5_helper 47 = .ok (.ifCond .eq 5, 3) := by decide +kernel
theorem d_X5_helper_50 : decode cX5_helper 50 = .ok (.iconst 0, 1) := by decide +kernel
theorem d_X5_helper_51 : decode cX5_helper 51 = .ok (.ireturn, 1) := by decide +kernel
theorem d_X5_helper_52 : decode cX5_helper 52 = .ok (.iload_n 2, 1) := by decide +kernel
theorem d_X5_helper_53 : decode cX5_helper 53 = .ok (.iconst 3, 1) := by decide +kernel
theorem d_X5_helper_54 : decode cX5_helper 54 = .ok (.if_icmp .ge 20, 3) := by decide +kernel
theorem d_X5_helper_57 : decode cX5_helper 57 = .ok (.aload_n 0, 1) := by decide +kernel
theorem d_X5_helper_58 : decode cX5_helper 58 = .ok (.getfield 20, 3) := by decide +kernel
theorem d_X5_helper_61 : decode cX5_helper 61 = .ok (.sipush 1089, 3) := by decide +kernel
theorem d_X5_helper_64 : decode cX5_helper 64 = .ok (.iconst 3, 1) := by decide +kernel
theorem d_X5_helper_65 : decode cX5_helper 65 = .ok (.iload_n 1, 1) := by decide +kernel
theorem d_X5_helper_66 : decode cX5_helper 66 = .ok (.imul, 1) := by decide +kernel
theorem d_X5_helper_67 : decode cX5_helper 67 = .ok (.iadd, 1) := by decide +kernel
theorem d_X5_helper_68 : decode cX5_helper 68 = .ok (.iload_n 2, 1) := by decide +kernel
theorem d_X5_helper_69 : decode cX5_helper 69 = .ok (.iadd, 1) := by decide +kernel
theorem d_X5_helper_70 : decode cX5_helper 70 = .ok (.iaload, 1) := by decide +kernel
theorem d_X5_helper_71 : decode cX5_helper 71 = .ok (.goto 20, 3) := by decide +kernel
theorem d_X5_helper_74 : decode cX5_helper 74 = .ok (.aload_n 0, 1) := by decide +kernel
theorem d_X5_helper_75 : decode cX5_helper 75 = .ok (.iload_n 1, 1) := by decide +kernel
theorem d_X5_helper_76 : decode cX5_helper 76 = .ok (.invokevirtual 238, 3) := by decide +kernel
theorem d_X5_helper_79 : decode cX5_helper 79 = .ok (.aload_n 0, 1) := by decide +kernel
theorem d_X5_helper_80 : decode cX5_helper 80 = .ok (.invokevirtual 260, 3) := by decide +kernel
theorem d_X5_helper_83 : decode cX5_helper 83 = .ok (.if_icmp .ne 7, 3) := by decide +kernel
theorem d_X5_helper_86 : decode cX5_helper 86 = .ok (.iconst 1, 1) := by decide +kernel
theorem d_X5_helper_87 : decode cX5_helper 87 = .ok (.goto 4, 3) := by decide +kernel
theorem d_X5_helper_90 : decode cX5_helper 90 = .ok (.iconst 0, 1) := by decide +kernel
theorem d_X5_helper_91 : decode cX5_helper 91 = .ok (.ireturn, 1) := by decide +kernel
abbrev rm_X5_helper : Room := { frames := 2, cells := 0, slots := 0, locals := 43 }
set_option maxHeartbeats 4000000 in
set_option maxRecDepth 20000 in
theorem c_X5_helper_42 {x : Cx} {b : Wy} (o : Ok x (wM b) cX5_helper 3 RX5 (some .int) rm_X5_helper) {v1 : Int32} {v2 : Int32} {K : Int32 → Sg → Prop}   : ∀ (k1 : Int32) (σ : Sg), m_X5_helper_j42 v1 v2 K  k1 σ → J x (wM b) (FinC x (wM b) (PI K) (0, 0)) 42 [(0, .ref (wB (wM b) + 347)), (1, .int v1), (2, .int v2)] [.int k1, .ref (wB (wM b) + 347)] (0, 0) σ := by
  intro k1 σ  h
  unfold m_X5_helper_j42 at h
  refine J_iconst (v := 2) o d_X5_helper_42 iconst_2 ?_
  refine J_iconst (v := 1) o d_X5_helper_43 iconst_1 ?_
  refine J_callV (k := 347) (c := 5) o [.int k1, .int 2, .int 1] rfl (by decide) (Nat.le_of_ble_eq_true rfl) (Nat.le_of_ble_eq_true rfl) mth_X5_bad iv_X5_bad ml_RX5_216 ⟨Nat.le_of_ble_eq_true rfl, Nat.le_of_ble_eq_true rfl⟩ rfl rfl (Nat.le_of_ble_eq_true rfl) ⟨Nat.le_refl _, Nat.le_refl _⟩ d_X5_helper_44 (w_X5_bad (xL x) b  h) (aZ (fun r44 s44 hzr44 h => ?_))
  refine J_if_eq o 52 d_X5_helper_47 rfl (fun c47 => ?_) (fun c47 => ?_)
  · replace h := h.1 c47
    refine J_iload_n o 2 d_X5_helper_52 rfl ?_
    refine J_iconst (v := 3) o d_X5_helper_53 iconst_3 ?_
    refine J_icmp_ge o 74 d_X5_helper_54 rfl (fun c54 => ?_) (fun c54 => ?_)
    · replace h := h.1 c54
      refine J_aload_n o 0 d_X5_helper_74 rfl ?_
      refine J_iload_n o 1 d_X5_helper_75 rfl ?_
      refine J_callV (k := 347) (c := 5) o [.int v1] rfl (by decide) (Nat.le_of_ble_eq_true rfl) (Nat.le_of_ble_eq_true rfl) mth_X5_helperCell iv_X5_helperCell ml_RX5_238 ⟨Nat.le_of_ble_eq_true rfl, Nat.le_of_ble_eq_true rfl⟩ rfl rfl (Nat.le_of_ble_eq_true rfl) ⟨Nat.le_refl _, Nat.le_refl _⟩ d_X5_helper_76 (w_X5_helperCell (xL x) b  h) (aI (fun r76 s76 h => ?_))
      refine J_aload_n o 0 d_X5_helper_79 rfl ?_
      refine J_callV (k := 347) (c := 5) o [] rfl (by decide) (Nat.le_of_ble_eq_true rfl) (Nat.le_of_ble_eq_true rfl) mth_X5_drifterCell iv_X5_drifterCell ml_RX5_260 ⟨Nat.le_of_ble_eq_true rfl, Nat.le_of_ble_eq_true rfl⟩ rfl rfl (Nat.le_of_ble_eq_true rfl) ⟨Nat.le_refl _, Nat.le_refl _⟩ d_X5_helper_80 (w_X5_drifterCell (xL x) b  h) (aI (fun r80 s80 h => ?_))
      refine J_icmp_ne o 90 d_X5_helper_83 rfl (fun c83 => ?_) (fun c83 => ?_)
      · replace h := h.1 c83
        refine J_iconst (v := 0) o d_X5_helper_90 iconst_0 ?_
        exact J_iret o d_X5_helper_91 ⟨_, rfl, h⟩
      · replace h := h.2 c83
        refine J_iconst (v := 1) o d_X5_helper_86 iconst_1 ?_
        refine J_goto o 91 d_X5_helper_87 rfl ?_
        exact J_iret o d_X5_helper_91 ⟨_, rfl, h⟩
    · replace h := h.2 c54
      refine J_aload_n o 0 d_X5_helper_57 rfl ?_
      refine J_getR (t := 350) o fl_RX5_20 rfl (Nat.le_of_ble_eq_true rfl) (Nat.le_of_ble_eq_true rfl) rfl rfl d_X5_helper_58 ?_
      refine J_sipush (v := 1089) o d_X5_helper_61 sipush_1089 ?_
      refine J_iconst (v := 3) o d_X5_helper_64 iconst_3 ?_
      refine J_iload_n o 1 d_X5_helper_65 rfl ?_
      refine J_imul o d_X5_helper_66 ?_
      refine J_iadd o d_X5_helper_67 ?_
      refine J_iload_n o 2 d_X5_helper_68 rfl ?_
      refine J_iadd o d_X5_helper_69 ?_
      have b70 := h.1
      replace h := h.2
      refine J_iald o A_350 (vpc (rfl : ln 350 = 1098) b70) d_X5_helper_70 ?_
      refine J_goto o 91 d_X5_helper_71 rfl ?_
      exact J_iret o d_X5_helper_91 ⟨_, rfl, h⟩
  · replace h := h.2 c47
    refine J_iconst (v := 0) o d_X5_helper_50 iconst_0 ?_
    exact J_iret o d_X5_helper_51 ⟨_, rfl, h⟩
set_option maxHeartbeats 4000000 in
set_option maxRecDepth 20000 in
theorem c_X5_helper_19 {x : Cx} {b : Wy} (o : Ok x (wM b) cX5_helper 3 RX5 (some .int) rm_X5_helper) {v1 : Int32} {v2 : Int32} {K : Int32 → Sg → Prop}   : ∀ (k1 : Int32) (σ : Sg), m_X5_helper_j19 v1 v2 K  k1 σ → J x (wM b) (FinC x (wM b) (PI K) (0, 0)) 19 [(0, .ref (wB (wM b) + 347)), (1, .int v1), (2, .int v2)] [.int k1, .ref (wB (wM b) + 347)] (0, 0) σ := by
  intro k1 σ  h
  unfold m_X5_helper_j19 at h
  refine J_iconst (v := 1) o d_X5_helper_19 iconst_1 ?_
  refine J_iconst (v := 0) o d_X5_helper_20 iconst_0 ?_
  refine J_callV (k := 347) (c := 5) o [.int k1, .int 1, .int 0] rfl (by decide) (Nat.le_of_ble_eq_true rfl) (Nat.le_of_ble_eq_true rfl) mth_X5_bad iv_X5_bad ml_RX5_216 ⟨Nat.le_of_ble_eq_true rfl, Nat.le_of_ble_eq_true rfl⟩ rfl rfl (Nat.le_of_ble_eq_true rfl) ⟨Nat.le_refl _, Nat.le_refl _⟩ d_X5_helper_21 (w_X5_bad (xL x) b  h) (aZ (fun r21 s21 hzr21 h => ?_))
  refine J_if_ne o 50 d_X5_helper_24 rfl (fun c24 => ?_) (fun c24 => ?_)
  · replace h := h.1 c24
    refine J_iconst (v := 0) o d_X5_helper_50 iconst_0 ?_
    exact J_iret o d_X5_helper_51 ⟨_, rfl, h⟩
  · replace h := h.2 c24
    refine J_aload_n o 0 d_X5_helper_27 rfl ?_
    refine J_iload_n o 2 d_X5_helper_28 rfl ?_
    refine J_iconst (v := 0) o d_X5_helper_29 iconst_0 ?_
    refine J_iconst (v := 3) o d_X5_helper_30 iconst_3 ?_
    refine J_callS o [.int v2, .int 0, .int 3] mth_X5_in st_X5_in ml_RX5_56 ⟨Nat.le_of_ble_eq_true rfl, Nat.le_of_ble_eq_true rfl⟩ rfl rfl (Nat.le_of_ble_eq_true rfl) ⟨Nat.le_refl _, Nat.le_refl _⟩ d_X5_helper_31 (w_X5_in (xL x) b  h) (aZ (fun r31 s31 hzr31 h => ?_))
    refine J_if_ne o 41 d_X5_helper_34 rfl (fun c34 => ?_) (fun c34 => ?_)
    · replace h := h.1 c34
      refine J_iconst (v := 0) o d_X5_helper_41 iconst_0 ?_
      exact c_X5_helper_42 o   0 s31  h
    · replace h := h.2 c34
      refine J_iconst (v := 1) o d_X5_helper_37 iconst_1 ?_
      refine J_goto o 42 d_X5_helper_38 rfl ?_
      exact c_X5_helper_42 o   1 s31  h
set_option maxHeartbeats 4000000 in
set_option maxRecDepth 20000 in
theorem w_X5_helper (l : Launch) (b : Wy) {v1 : Int32} {v2 : Int32} {σ : Sg} {K : Int32 → Sg → Prop}  (h : m_X5_helper v1 v2 σ K) : Ct l (wM b) yX5_helper cX5_helper 3 (some .int) rm_X5_helper [.ref (wB (wM b) + 347), .int v1, .int v2] σ (PI K) := by
  unfold m_X5_helper at h
  refine Ct.of (own := RX5) (by decide +kernel) rfl (Nat.le_of_ble_eq_true rfl) (fun x hx o => ?_)
  subst hx
  show J x (wM b) (FinC x (wM b) (PI K) (0, 0)) 0 [(0, .ref (wB (wM b) + 347)), (1, .int v1), (2, .int v2)] [] (0, 0) σ
  refine J_aload_n o 0 d_X5_helper_0 rfl ?_
  refine J_iconst (v := 0) o d_X5_helper_1 iconst_0 ?_
  refine J_put o fl_RX5_50 la_5 rfl (Nat.le_of_ble_eq_true rfl) (Nat.le_of_ble_eq_true rfl) rfl rfl rfl rfl d_X5_helper_2 ?_
  refine J_nS (fun s2 es2 => ?_)
  replace h := h s2 es2
  refine J_aload_n o 0 d_X5_helper_5 rfl ?_
  refine J_aload_n o 0 d_X5_helper_6 rfl ?_
  refine J_iload_n o 1 d_X5_helper_7 rfl ?_
  refine J_callV (k := 347) (c := 5) o [.int v1] rfl (by decide) (Nat.le_of_ble_eq_true rfl) (Nat.le_of_ble_eq_true rfl) mth_X5_isHelper iv_X5_isHelper ml_RX5_235 ⟨Nat.le_of_ble_eq_true rfl, Nat.le_of_ble_eq_true rfl⟩ rfl rfl (Nat.le_of_ble_eq_true rfl) ⟨Nat.le_refl _, Nat.le_refl _⟩ d_X5_helper_8 (w_X5_isHelper (xL x) b  h) (aZ (fun r8 s8 hzr8 h => ?_))
  refine J_if_ne o 18 d_X5_helper_11 rfl (fun c11 => ?_) (fun c11 => ?_)
  · replace h := h.1 c11
    refine J_iconst (v := 0) o d_X5_helper_18 iconst_0 ?_
    exact c_X5_helper_19 o   0 s8  h
  · replace h := h.2 c11
    refine J_iconst (v := 1) o d_X5_helper_14 iconst_1 ?_
    refine J_goto o 19 d_X5_helper_15 rfl ?_
    exact c_X5_helper_19 o   1 s8  h
theorem d_X5_looksAhead_0 : decode cX5_looksAhead 0 = .ok (.aload_n 0, 1) := by decide +kernel
theorem d_X5_looksAhead_1 : decode cX5_looksAhead 1 = .ok (.getfield 31, 3) := by decide +kernel
theorem d_X5_looksAhead_4 : decode cX5_looksAhead 4 = .ok (.iconst 0, 1) := by decide +kernel
theorem d_X5_looksAhead_5 : decode cX5_looksAhead 5 = .ok (.aload_n 0, 1) := by decide +kernel
theorem d_X5_looksAhead_6 : decode cX5_looksAhead 6 = .ok (.invokevirtual 260, 3) := by decide +kernel
theorem d_X5_looksAhead_9 : decode cX5_looksAhead 9 = .ok (.iastore, 1) := by decide +kernel
theorem d_X5_looksAhead_10 : decode cX5_looksAhead 10 = .ok (.aload_n 0, 1) := by decide +kernel
theorem d_X5_looksAhead_11 : decode cX5_looksAhead 11 = .ok (.getfield 34, 3) := by decide +kernel
theorem d_X5_looksAhead_14 : decode cX5_looksAhead 14 = .ok (.iconst 0, 1) := by decide +kernel
theorem d_X5_looksAhead_15 : decode cX5_looksAhead 15 = .ok (.aload_n 0, 1) := by decide +kernel
theorem d_X5_looksAhead_16 : decode cX5_looksAhead 16 = .ok (.getfield 20, 3) := by decide +kernel
theorem d_X5_looksAhead_19 : decode cX5_looksAhead 19 = .ok (.bipush 8, 2) := by decide +kernel
theorem d_X5_looksAhead_21 : decode cX5_looksAhead 21 = .ok (.iaload, 1) := by decide +kernel
theorem d_X5_looksAhead_22 : decode cX5_looksAhead 22 = .ok (.aload_n 0, 1) := by decide +kernel
theorem d_X5_looksAhead_23 : decode cX5_looksAhead 23 = .ok (.getfield 20, 3) := by decide +kernel
theorem d_X5_looksAhead_26 : decode cX5_looksAhead 26 = .ok (.bipush 9, 2) := by decide +kernel
theorem d_X5_looksAhead_28 : decode cX5_looksAhead 28 = .ok (.iaload, 1) := by decide +kernel
theorem d_X5_looksAhead_29 : decode cX5_looksAhead 29 = .ok (.invokestatic 71, 3) := by decide +kernel
theorem d_X5_looksAhead_32 : decode cX5_looksAhead 32 = .ok (.iastore, 1) := by decide +kernel
theorem d_X5_looksAhead_33 : decode cX5_looksAhead 33 = .ok (.iconst 0, 1) := by decide +kernel
theorem d_X5_looksAhead_34 : decode cX5_looksAhead 34 = .ok (.istore_n 1, 1) := by decide +kernel
theorem d_X5_looksAhead_35 : decode cX5_looksAhead 35 = .ok (.iload_n 1, 1) := by decide +kernel
theorem d_X5_looksAhead_36 : decode cX5_looksAhead 36 = .ok (.bipush 60, 2) := by decide +kernel
theorem d_X5_looksAhead_38 : decode cX5_looksAhead 38 = .ok (.if_icmp .ge 67, 3) := by decide +kernel
theorem d_X5_looksAhead_41 : decode cX5_looksAhead 41 = .ok (.aload_n 0, 1) := by decide +kernel
theorem d_X5_looksAhead_42 : decode cX5_looksAhead 42 = .ok (.getfield 31, 3) := by decide +kernel
theorem d_X5_looksAhead_45 : decode cX5_looksAhead 45 = .ok (.iload_n 1, 1) := by decide +kernel
theorem d_X5_looksAhead_46 : decode cX5_looksAhead 46 = .ok (.iconst 1, 1) := by decide +kernel
theorem d_X5_looksAhead_47 : decode cX5_looksAhead 47 = .ok (.iadd, 1) := by decide +kernel
theorem d_X5_looksAhead_48 : decode cX5_looksAhead 48 = .ok (.aload_n 0, 1) := by decide +kernel
theorem d_X5_looksAhead_49 : decode cX5_looksAhead 49 = .ok (.getfield 20, 3) := by decide +kernel
theorem d_X5_looksAhead_52 : decode cX5_looksAhead 52 = .ok (.aload_n 0, 1) := by decide +kernel
theorem d_X5_looksAhead_53 : decode cX5_looksAhead 53 = .ok (.getfield 31, 3) := by decide +kernel
theorem d_X5_looksAhead_56 : decode cX5_looksAhead 56 = .ok (.iload_n 1, 1) := by decide +kernel
theorem d_X5_looksAhead_57 : decode cX5_looksAhead 57 = .ok (.iaload, 1) := by decide +kernel
theorem d_X5_looksAhead_58 : decode cX5_looksAhead 58 = .ok (.aload_n 0, 1) := by decide +kernel
theorem d_X5_looksAhead_59 : decode cX5_looksAhead 59 = .ok (.getfield 20, 3) := by decide +kernel
theorem d_X5_looksAhead_62 : decode cX5_looksAhead 62 = .ok (.iconst 2, 1) := by decide +kernel
theorem d_X5_looksAhead_63 : decode cX5_looksAhead 63 = .ok (.iaload, 1) := by decide +kernel
theorem d_X5_looksAhead_64 : decode cX5_looksAhead 64 = .ok (.iload_n 1, 1) := by decide +kernel
theorem d_X5_looksAhead_65 : decode cX5_looksAhead 65 = .ok (.iadd, 1) := by decide +kernel
theorem d_X5_looksAhead_66 : decode cX5_looksAhead 66 = .ok (.invokestatic 263, 3) := by decide +kernel
theorem d_X5_looksAhead_69 : decode cX5_looksAhead 69 = .ok (.iastore, 1) := by decide +kernel
theorem d_X5_looksAhead_70 : decode cX5_looksAhead 70 = .ok (.aload_n 0, 1) := by decide +kernel
theorem d_X5_looksAhead_71 : decode cX5_looksAhead 71 = .ok (.getfield 34, 3) := by decide +kernel
theorem d_X5_looksAhead_74 : decode cX5_looksAhead 74 = .ok (.iload_n 1, 1) := by decide +kernel
theorem d_X5_looksAhead_75 : decode cX5_looksAhead 75 = .ok (.iconst 1, 1) := by decide +kernel
theorem d_X5_looksAhead_76 : decode cX5_looksAhead 76 = .ok (.iadd, 1) := by decide +kernel
theorem d_X5_looksAhead_77 : decode cX5_looksAhead 77 = .ok (.aload_n 0, 1) := by decide +kernel
theorem d_X5_looksAhead_78 : decode cX5_looksAhead 78 = .ok (.getfield 20, 3) := by decide +kernel
theorem d_X5_looksAhead_81 : decode cX5_looksAhead 81 = .ok (.aload_n 0, 1) := by decide +kernel
theorem d_X5_looksAhead_82 : decode cX5_looksAhead 82 = .ok (.getfield 34, 3) := by decide +kernel
theorem d_X5_looksAhead_85 : decode cX5_looksAhead 85 = .ok (.iload_n 1, 1) := by decide +kernel
theorem d_X5_looksAhead_86 : decode cX5_looksAhead 86 = .ok (.iaload, 1) := by decide +kernel
theorem d_X5_looksAhead_87 : decode cX5_looksAhead 87 = .ok (.aload_n 0, 1) := by decide +kernel
theorem d_X5_looksAhead_88 : decode cX5_looksAhead 88 = .ok (.getfield 20, 3) := by decide +kernel
theorem d_X5_looksAhead_91 : decode cX5_looksAhead 91 = .ok (.iconst 2, 1) := by decide +kernel
theorem d_X5_looksAhead_92 : decode cX5_looksAhead 92 = .ok (.iaload, 1) := by decide +kernel
theorem d_X5_looksAhead_93 : decode cX5_looksAhead 93 = .ok (.iload_n 1, 1) := by decide +kernel
theorem d_X5_looksAhead_94 : decode cX5_looksAhead 94 = .ok (.iadd, 1) := by decide +kernel
theorem d_X5_looksAhead_95 : decode cX5_looksAhead 95 = .ok (.invokestatic 266, 3) := by decide +kernel
theorem d_X5_looksAhead_98 : decode cX5_looksAhead 98 = .ok (.iastore, 1) := by decide +kernel
theorem d_X5_looksAhead_99 : decode cX5_looksAhead 99 = .ok (.iinc 1 1, 3) := by decide +kernel
theorem d_X5_looksAhead_102 : decode cX5_looksAhead 102 = .ok (.goto (-67), 3) := by decide +kernel
theorem d_X5_looksAhead_105 : decode cX5_looksAhead 105 = .ok (.return_, 1) := by decide +kernel
abbrev rm_X5_looksAhead : Room := { frames := 5, cells := 0, slots := 0, locals := 113 }
set_option maxHeartbeats 4000000 in
set_option maxRecDepth 20000 in
theorem c_X5_looksAhead_35 {x : Cx} {b : Wy} (o : Ok x (wM b) cX5_looksAhead 2 RX5 none rm_X5_looksAhead)  {K : Sg → Prop}   : ∀ (n : Nat) (l1 : Int32) (σ : Sg), m_X5_looksAhead_l35  K  n l1 σ → J x (wM b) (FinC x (wM b) (PV K) (0, 0)) 35 [(0, .ref (wB (wM b) + 347)), (1, .int l1)] [] (0, 0) σ := by
  intro n
  induction n with
  | zero =>
    intro l1 σ  h
    exact False.elim h
  | succ n ih =>
    intro l1 σ  h
    unfold m_X5_looksAhead_l35 at h
    refine J_iload_n o 1 d_X5_looksAhead_35 rfl ?_
    refine J_bipush (v := 60) o d_X5_looksAhead_36 bipush_60 ?_
    refine J_icmp_ge o 105 d_X5_looksAhead_38 rfl (fun c38 => ?_) (fun c38 => ?_)
    · replace h := h.1 c38
      exact J_vret o d_X5_looksAhead_105 ⟨rfl, h⟩
    · replace h := h.2 c38
      refine J_aload_n o 0 d_X5_looksAhead_41 rfl ?_
      refine J_getR (t := 361) o fl_RX5_31 rfl (Nat.le_of_ble_eq_true rfl) (Nat.le_of_ble_eq_true rfl) rfl rfl d_X5_looksAhead_42 ?_
      refine J_iload_n o 1 d_X5_looksAhead_45 rfl ?_
      refine J_iconst (v := 1) o d_X5_looksAhead_46 iconst_1 ?_
      refine J_iadd o d_X5_looksAhead_47 ?_
      refine J_aload_n o 0 d_X5_looksAhead_48 rfl ?_
      refine J_getR (t := 350) o fl_RX5_20 rfl (Nat.le_of_ble_eq_true rfl) (Nat.le_of_ble_eq_true rfl) rfl rfl d_X5_looksAhead_49 ?_
      refine J_aload_n o 0 d_X5_looksAhead_52 rfl ?_
      refine J_getR (t := 361) o fl_RX5_31 rfl (Nat.le_of_ble_eq_true rfl) (Nat.le_of_ble_eq_true rfl) rfl rfl d_X5_looksAhead_53 ?_
      refine J_iload_n o 1 d_X5_looksAhead_56 rfl ?_
      have b57 := h.1
      replace h := h.2
      refine J_iald o A_361 (vpc (rfl : ln 361 = 61) b57) d_X5_looksAhead_57 ?_
      refine J_aload_n o 0 d_X5_looksAhead_58 rfl ?_
      refine J_getR (t := 350) o fl_RX5_20 rfl (Nat.le_of_ble_eq_true rfl) (Nat.le_of_ble_eq_true rfl) rfl rfl d_X5_looksAhead_59 ?_
      refine J_iconst (v := 2) o d_X5_looksAhead_62 iconst_2 ?_
      have b63 := h.1
      replace h := h.2
      refine J_iald o A_350 (vpc (rfl : ln 350 = 1098) b63) d_X5_looksAhead_63 ?_
      refine J_iload_n o 1 d_X5_looksAhead_64 rfl ?_
      refine J_iadd o d_X5_looksAhead_65 ?_
      refine J_callS o [.ref (wB (wM b) + 350), .int (σ 361 l1.toNatClampNeg), .int ((σ 350 (2 : Int32).toNatClampNeg) + l1)] mth_X5_drifted st_X5_drifted ml_RX5_263 ⟨Nat.le_of_ble_eq_true rfl, Nat.le_of_ble_eq_true rfl⟩ rfl rfl (Nat.le_of_ble_eq_true rfl) ⟨Nat.le_refl _, Nat.le_refl _⟩ d_X5_looksAhead_66 (w_X5_drifted (xL x) b A_350 h) (aI (fun r66 s66 h => ?_))
      have b69 := h.1
      replace h := h.2
      refine J_iast o A_361 (vpc (rfl : ln 361 = 61) b69) d_X5_looksAhead_69 ?_
      refine J_nS (fun s69 es69 => ?_)
      replace h := h s69 es69
      refine J_aload_n o 0 d_X5_looksAhead_70 rfl ?_
      refine J_getR (t := 362) o fl_RX5_34 rfl (Nat.le_of_ble_eq_true rfl) (Nat.le_of_ble_eq_true rfl) rfl rfl d_X5_looksAhead_71 ?_
      refine J_iload_n o 1 d_X5_looksAhead_74 rfl ?_
      refine J_iconst (v := 1) o d_X5_looksAhead_75 iconst_1 ?_
      refine J_iadd o d_X5_looksAhead_76 ?_
      refine J_aload_n o 0 d_X5_looksAhead_77 rfl ?_
      refine J_getR (t := 350) o fl_RX5_20 rfl (Nat.le_of_ble_eq_true rfl) (Nat.le_of_ble_eq_true rfl) rfl rfl d_X5_looksAhead_78 ?_
      refine J_aload_n o 0 d_X5_looksAhead_81 rfl ?_
      refine J_getR (t := 362) o fl_RX5_34 rfl (Nat.le_of_ble_eq_true rfl) (Nat.le_of_ble_eq_true rfl) rfl rfl d_X5_looksAhead_82 ?_
      refine J_iload_n o 1 d_X5_looksAhead_85 rfl ?_
      have b86 := h.1
      replace h := h.2
      refine J_iald o A_362 (vpc (rfl : ln 362 = 61) b86) d_X5_looksAhead_86 ?_
      refine J_aload_n o 0 d_X5_looksAhead_87 rfl ?_
      refine J_getR (t := 350) o fl_RX5_20 rfl (Nat.le_of_ble_eq_true rfl) (Nat.le_of_ble_eq_true rfl) rfl rfl d_X5_looksAhead_88 ?_
      refine J_iconst (v := 2) o d_X5_looksAhead_91 iconst_2 ?_
      have b92 := h.1
      replace h := h.2
      refine J_iald o A_350 (vpc (rfl : ln 350 = 1098) b92) d_X5_looksAhead_92 ?_
      refine J_iload_n o 1 d_X5_looksAhead_93 rfl ?_
      refine J_iadd o d_X5_looksAhead_94 ?_
      refine J_callS o [.ref (wB (wM b) + 350), .int (s69 362 l1.toNatClampNeg), .int ((s69 350 (2 : Int32).toNatClampNeg) + l1)] mth_X5_portBehind st_X5_portBehind ml_RX5_266 ⟨Nat.le_of_ble_eq_true rfl, Nat.le_of_ble_eq_true rfl⟩ rfl rfl (Nat.le_of_ble_eq_true rfl) ⟨Nat.le_refl _, Nat.le_refl _⟩ d_X5_looksAhead_95 (w_X5_portBehind (xL x) b A_350 h) (aI (fun r95 s95 h => ?_))
      have b98 := h.1
      replace h := h.2
      refine J_iast o A_362 (vpc (rfl : ln 362 = 61) b98) d_X5_looksAhead_98 ?_
      refine J_nS (fun s98 es98 => ?_)
      replace h := h s98 es98
      refine J_iinc (lv' := [(1, .int (l1 + 1)), (0, .ref (wB (wM b) + 347))]) o 1 d_X5_looksAhead_99 (by decide) rfl iconst_1 rfl ?_
      refine J_goto o 35 d_X5_looksAhead_102 rfl ?_
      refine J_sub [1, 0] rfl ?_
      exact ih (l1 + 1) s98  h
set_option maxHeartbeats 4000000 in
set_option maxRecDepth 20000 in
theorem w_X5_looksAhead (l : Launch) (b : Wy)  {σ : Sg} {K : Sg → Prop}  (h : m_X5_looksAhead  σ K) : Ct l (wM b) yX5_looksAhead cX5_looksAhead 2 none rm_X5_looksAhead [.ref (wB (wM b) + 347)] σ (PV K) := by
  unfold m_X5_looksAhead at h
  refine Ct.of (own := RX5) (by decide +kernel) rfl (Nat.le_of_ble_eq_true rfl) (fun x hx o => ?_)
  subst hx
  show J x (wM b) (FinC x (wM b) (PV K) (0, 0)) 0 [(0, .ref (wB (wM b) + 347))] [] (0, 0) σ
  refine J_aload_n o 0 d_X5_looksAhead_0 rfl ?_
  refine J_getR (t := 361) o fl_RX5_31 rfl (Nat.le_of_ble_eq_true rfl) (Nat.le_of_ble_eq_true rfl) rfl rfl d_X5_looksAhead_1 ?_
  refine J_iconst (v := 0) o d_X5_looksAhead_4 iconst_0 ?_
  refine J_aload_n o 0 d_X5_looksAhead_5 rfl ?_
  refine J_callV (k := 347) (c := 5) o [] rfl (by decide) (Nat.le_of_ble_eq_true rfl) (Nat.le_of_ble_eq_true rfl) mth_X5_drifterCell iv_X5_drifterCell ml_RX5_260 ⟨Nat.le_of_ble_eq_true rfl, Nat.le_of_ble_eq_true rfl⟩ rfl rfl (Nat.le_of_ble_eq_true rfl) ⟨Nat.le_refl _, Nat.le_refl _⟩ d_X5_looksAhead_6 (w_X5_drifterCell (xL x) b  h) (aI (fun r6 s6 h => ?_))
  have b9 := h.1
  replace h := h.2
  refine J_iast o A_361 (vpc (rfl : ln 361 = 61) b9) d_X5_looksAhead_9 ?_
  refine J_nS (fun s9 es9 => ?_)
  replace h := h s9 es9
  refine J_aload_n o 0 d_X5_looksAhead_10 rfl ?_
  refine J_getR (t := 362) o fl_RX5_34 rfl (Nat.le_of_ble_eq_true rfl) (Nat.le_of_ble_eq_true rfl) rfl rfl d_X5_looksAhead_11 ?_
  refine J_iconst (v := 0) o d_X5_looksAhead_14 iconst_0 ?_
  refine J_aload_n o 0 d_X5_looksAhead_15 rfl ?_
  refine J_getR (t := 350) o fl_RX5_20 rfl (Nat.le_of_ble_eq_true rfl) (Nat.le_of_ble_eq_true rfl) rfl rfl d_X5_looksAhead_16 ?_
  refine J_bipush (v := 8) o d_X5_looksAhead_19 bipush_8 ?_
  have b21 := h.1
  replace h := h.2
  refine J_iald o A_350 (vpc (rfl : ln 350 = 1098) b21) d_X5_looksAhead_21 ?_
  refine J_aload_n o 0 d_X5_looksAhead_22 rfl ?_
  refine J_getR (t := 350) o fl_RX5_20 rfl (Nat.le_of_ble_eq_true rfl) (Nat.le_of_ble_eq_true rfl) rfl rfl d_X5_looksAhead_23 ?_
  refine J_bipush (v := 9) o d_X5_looksAhead_26 bipush_9 ?_
  have b28 := h.1
  replace h := h.2
  refine J_iald o A_350 (vpc (rfl : ln 350 = 1098) b28) d_X5_looksAhead_28 ?_
  refine J_callS o [.int (s9 350 (8 : Int32).toNatClampNeg), .int (s9 350 (9 : Int32).toNatClampNeg)] mth_X5_cellAt st_X5_cellAt ml_RX5_71 ⟨Nat.le_of_ble_eq_true rfl, Nat.le_of_ble_eq_true rfl⟩ rfl rfl (Nat.le_of_ble_eq_true rfl) ⟨Nat.le_refl _, Nat.le_refl _⟩ d_X5_looksAhead_29 (w_X5_cellAt (xL x) b  h) (aI (fun r29 s29 h => ?_))
  have b32 := h.1
  replace h := h.2
  refine J_iast o A_362 (vpc (rfl : ln 362 = 61) b32) d_X5_looksAhead_32 ?_
  refine J_nS (fun s32 es32 => ?_)
  replace h := h s32 es32
  refine J_iconst (v := 0) o d_X5_looksAhead_33 iconst_0 ?_
  refine J_istore_n (lv' := [(1, .int 0), (0, .ref (wB (wM b) + 347))]) o d_X5_looksAhead_34 (by decide) rfl ?_
  refine J_sub [1, 0] rfl ?_
  obtain ⟨n9, h⟩ := h
  exact c_X5_looksAhead_35 o   n9 0 s32  h
theorem d_X5_drift_0 : decode cX5_drift 0 = .ok (.aload_n 0, 1) := by decide +kernel
theorem d_X5_drift_1 : decode cX5_drift 1 = .ok (.iconst 0, 1) := by decide +kernel
theorem d_X5_drift_2 : decode cX5_drift 2 = .ok (.putfield 50, 3) := by decide +kernel
theorem d_X5_drift_5 : decode cX5_drift 5 = .ok (.aload_n 0, 1) := by decide +kernel
theorem d_X5_drift_6 : decode cX5_drift 6 = .ok (.iload_n 1, 1) := by decide +kernel
theorem d_X5_drift_7 : decode cX5_drift 7 = .ok (.iconst 0, 1) := by decide +kernel
theorem d_X5_drift_8 : decode cX5_drift 8 = .ok (.bipush 60, 2) := by decide +kernel
theorem d_X5_drift_10 : decode cX5_drift 10 = .ok (.invokestatic 56, 3) := by decide +kernel
theorem d_X5_drift_13 : decode cX5_drift 13 = .ok (.ifCond .eq 12, 3) := by decide +kernel
theorem d_X5_drift_16 : decode cX5_drift 16 = .ok (.iload_n 2, 1) := by decide +kernel
theorem d_X5_drift_17 : decode cX5_drift 17 = .ok (.iconst 0, 1) := by decide +kernel
theorem d_X5_drift_18 : decode cX5_drift 18 = .ok (.iconst 3, 1) := by decide +kernel
theorem d_X5_drift_19 : decode cX5_drift 19 = .ok (.invokestatic 56, 3) := by decide +kernel
theorem d_X5_drift_22 : decode cX5_drift 22 = .ok (.ifCond .ne 7, 3) := by decide +kernel
theorem d_X5_drift_25 : decode cX5_drift 25 = .ok (.iconst 1, 1) := by decide +kernel
theorem d_X5_drift_26 : decode cX5_drift 26 = .ok (.goto 4, 3) := by decide +kernel
theorem d_X5_drift_29 : decode cX5_drift 29 = .ok (.iconst 0, 1) := by decide +kernel
theorem d_X5_drift_30 : decode cX5_drift 30 = .ok (.iconst 1, 1) := by decide +kernel
theorem d_X5_drift_31 : decode cX5_drift 31 = .ok (.iconst 1, 1) := by decide +kernel
theorem d_X5_drift_32 : decode cX5_drift 32 = .ok (.invokevirtual 216, 3) := by decide +kernel
theorem d_X5_drift_35 : decode cX5_drift 35 = .ok (.ifCond .eq 5, 3) := by decide +kernel
theorem d_X5_drift_38 : decode cX5_drift 38 = .ok (.iconst 0, 1) := by decide +kernel
theorem d_X5_drift_39 : decode cX5_drift 39 = .ok (.ireturn, 1) := by decide +kernel
theorem d_X5_drift_40 : decode cX5_drift 40 = .ok (.aload_n 0, 1) := by decide +kernel
theorem d_X5_drift_41 : decode cX5_drift 41 = .ok (.invokevirtual 269, 3) := by decide +kernel
theorem d_X5_drift_44 : decode cX5_drift 44 = .ok (.iload_n 2, 1) := by decide +kernel
theorem d_X5_drift_45 : decode cX5_drift 45 = .ok (.iconst 2, 1) := by decide +kernel
theorem d_X5_drift_46 : decode cX5_drift 46 = .ok (.if_icmp .ge 12, 3) := by decide +kernel
theorem d_X5_drift_49 : decode cX5_drift 49 = .ok (.aload_n 0, 1) := by decide +kernel
theorem d_X5_drift_50 : decode cX5_drift 50 = .ok (.getfield 31, 3) := by decide +kernel
theorem d_X5_drift_53 : decode cX5_drift 53 = .ok (.iload_n 1, 1) := by decide +kernel
theorem d_X5_drift_54 : decode cX5_drift 54 = .ok (.iaload, 1) := by decide +kernel
theorem d_X5_drift_55 : decode cX5_drift 55 = .ok (.goto 9, 3) := by decide +kernel
theorem d_X5_drift_58 : decode cX5_drift 58 = .ok (.aload_n 0, 1) := by decide +kernel
theorem d_X5_drift_59 : decode cX5_drift 59 = .ok (.getfield 34, 3) := by decide +kernel
theorem d_X5_drift_62 : decode cX5_drift 62 = .ok (.iload_n 1, 1) := by decide +kernel
theorem d_X5_drift_63 : decode cX5_drift 63 = .ok (.iaload, 1) := by decide +kernel
theorem d_X5_drift_64 : decode cX5_drift 64 = .ok (.istore_n 3, 1) := by decide +kernel
theorem d_X5_drift_65 : decode cX5_drift 65 = .ok (.iload_n 2, 1) := by decide +kernel
theorem d_X5_drift_66 : decode cX5_drift 66 = .ok (.iconst 2, 1) := by decide +kernel
theorem d_X5_drift_67 : decode cX5_drift 67 = .ok (.irem, 1) := by decide +kernel
theorem d_X5_drift_68 : decode cX5_drift 68 = .ok (.ifCond .ne 10, 3) := by decide +kernel
theorem d_X5_drift_71 : decode cX5_drift 71 = .ok (.iload_n 3, 1) := by decide +kernel
theorem d_X5_drift_72 : decode cX5_drift 72 = .ok (.bipush 20, 2) := by decide +kernel
theorem d_X5_drift_74 : decode cX5_drift 74 = .ok (.irem, 1) := by decide +kernel
theorem d_X5_drift_75 : decode cX5_drift 75 = .ok (.goto 7, 3) := by decide +kernel
theorem d_X5_drift_78 : decode cX5_drift 78 = .ok (.iload_n 3, 1) := by decide +kernel
theorem d_X5_drift_79 : decode cX5_drift 79 = .ok (.bipush 20, 2) := by decide +kernel
theorem d_X5_drift_81 : decode cX5_drift 81 = .ok (.idiv, 1) := by decide +kernel
theorem d_X5_drift_82 : decode cX5_drift 82 = .ok (.ireturn, 1) := by decide +kernel
abbrev rm_X5_drift : Room := { frames := 6, cells := 0, slots := 0, locals := 134 }
set_option maxHeartbeats 4000000 in
set_option maxRecDepth 20000 in
theorem c_X5_drift_64 {x : Cx} {b : Wy} (o : Ok x (wM b) cX5_drift 4 RX5 (some .int) rm_X5_drift) {v1 : Int32} {v2 : Int32} {K : Int32 → Sg → Prop}   : ∀ (k0 : Int32) (σ : Sg), m_X5_drift_j64 v1 v2 K  k0 σ → J x (wM b) (FinC x (wM b) (PI K) (0, 0)) 64 [(2, .int v2)] [.int k0] (0, 0) σ := by
  intro k0 σ  h
  unfold m_X5_drift_j64 at h
  refine J_istore_n (lv' := [(3, .int k0), (2, .int v2)]) o d_X5_drift_64 (by decide) rfl ?_
  refine J_iload_n o 1 d_X5_drift_65 rfl ?_
  refine J_iconst (v := 2) o d_X5_drift_66 iconst_2 ?_
  refine J_irem o d_X5_drift_67 (by decide) ?_
  refine J_if_ne o 78 d_X5_drift_68 rfl (fun c68 => ?_) (fun c68 => ?_)
  · replace h := h.1 c68
    refine J_iload_n o 0 d_X5_drift_78 rfl ?_
    refine J_bipush (v := 20) o d_X5_drift_79 bipush_20 ?_
    refine J_idiv o d_X5_drift_81 (by decide) ?_
    exact J_iret o d_X5_drift_82 ⟨_, rfl, h⟩
  · replace h := h.2 c68
    refine J_iload_n o 0 d_X5_drift_71 rfl ?_
    refine J_bipush (v := 20) o d_X5_drift_72 bipush_20 ?_
    refine J_irem o d_X5_drift_74 (by decide) ?_
    refine J_goto o 82 d_X5_drift_75 rfl ?_
    exact J_iret o d_X5_drift_82 ⟨_, rfl, h⟩
set_option maxHeartbeats 4000000 in
set_option maxRecDepth 20000 in
theorem c_X5_drift_30 {x : Cx} {b : Wy} (o : Ok x (wM b) cX5_drift 4 RX5 (some .int) rm_X5_drift) {v1 : Int32} {v2 : Int32} {K : Int32 → Sg → Prop}   : ∀ (k1 : Int32) (σ : Sg), m_X5_drift_j30 v1 v2 K  k1 σ → J x (wM b) (FinC x (wM b) (PI K) (0, 0)) 30 [(0, .ref (wB (wM b) + 347)), (1, .int v1), (2, .int v2)] [.int k1, .ref (wB (wM b) + 347)] (0, 0) σ := by
  intro k1 σ  h
  unfold m_X5_drift_j30 at h
  refine J_iconst (v := 1) o d_X5_drift_30 iconst_1 ?_
  refine J_iconst (v := 1) o d_X5_drift_31 iconst_1 ?_
  refine J_callV (k := 347) (c := 5) o [.int k1, .int 1, .int 1] rfl (by decide) (Nat.le_of_ble_eq_true rfl) (Nat.le_of_ble_eq_true rfl) mth_X5_bad iv_X5_bad ml_RX5_216 ⟨Nat.le_of_ble_eq_true rfl, Nat.le_of_ble_eq_true rfl⟩ rfl rfl (Nat.le_of_ble_eq_true rfl) ⟨Nat.le_refl _, Nat.le_refl _⟩ d_X5_drift_32 (w_X5_bad (xL x) b  h) (aZ (fun r32 s32 hzr32 h => ?_))
  refine J_if_eq o 40 d_X5_drift_35 rfl (fun c35 => ?_) (fun c35 => ?_)
  · replace h := h.1 c35
    refine J_aload_n o 0 d_X5_drift_40 rfl ?_
    refine J_callV (k := 347) (c := 5) o [] rfl (by decide) (Nat.le_of_ble_eq_true rfl) (Nat.le_of_ble_eq_true rfl) mth_X5_looksAhead iv_X5_looksAhead ml_RX5_269 ⟨Nat.le_of_ble_eq_true rfl, Nat.le_of_ble_eq_true rfl⟩ rfl rfl (Nat.le_of_ble_eq_true rfl) ⟨Nat.le_refl _, Nat.le_refl _⟩ d_X5_drift_41 (w_X5_looksAhead (xL x) b  h) (aV (fun s41 h => ?_))
    refine J_iload_n o 2 d_X5_drift_44 rfl ?_
    refine J_iconst (v := 2) o d_X5_drift_45 iconst_2 ?_
    refine J_icmp_ge o 58 d_X5_drift_46 rfl (fun c46 => ?_) (fun c46 => ?_)
    · replace h := h.1 c46
      refine J_aload_n o 0 d_X5_drift_58 rfl ?_
      refine J_getR (t := 362) o fl_RX5_34 rfl (Nat.le_of_ble_eq_true rfl) (Nat.le_of_ble_eq_true rfl) rfl rfl d_X5_drift_59 ?_
      refine J_iload_n o 1 d_X5_drift_62 rfl ?_
      have b63 := h.1
      replace h := h.2
      refine J_iald o A_362 (vpc (rfl : ln 362 = 61) b63) d_X5_drift_63 ?_
      refine J_sub [2] rfl ?_
      exact c_X5_drift_64 o   (s41 362 v1.toNatClampNeg) s41  h
    · replace h := h.2 c46
      refine J_aload_n o 0 d_X5_drift_49 rfl ?_
      refine J_getR (t := 361) o fl_RX5_31 rfl (Nat.le_of_ble_eq_true rfl) (Nat.le_of_ble_eq_true rfl) rfl rfl d_X5_drift_50 ?_
      refine J_iload_n o 1 d_X5_drift_53 rfl ?_
      have b54 := h.1
      replace h := h.2
      refine J_iald o A_361 (vpc (rfl : ln 361 = 61) b54) d_X5_drift_54 ?_
      refine J_goto o 64 d_X5_drift_55 rfl ?_
      refine J_sub [2] rfl ?_
      exact c_X5_drift_64 o   (s41 361 v1.toNatClampNeg) s41  h
  · replace h := h.2 c35
    refine J_iconst (v := 0) o d_X5_drift_38 iconst_0 ?_
    exact J_iret o d_X5_drift_39 ⟨_, rfl, h⟩
set_option maxHeartbeats 4000000 in
set_option maxRecDepth 20000 in
theorem w_X5_drift (l : Launch) (b : Wy) {v1 : Int32} {v2 : Int32} {σ : Sg} {K : Int32 → Sg → Prop}  (h : m_X5_drift v1 v2 σ K) : Ct l (wM b) yX5_drift cX5_drift 4 (some .int) rm_X5_drift [.ref (wB (wM b) + 347), .int v1, .int v2] σ (PI K) := by
  unfold m_X5_drift at h
  refine Ct.of (own := RX5) (by decide +kernel) rfl (Nat.le_of_ble_eq_true rfl) (fun x hx o => ?_)
  subst hx
  show J x (wM b) (FinC x (wM b) (PI K) (0, 0)) 0 [(0, .ref (wB (wM b) + 347)), (1, .int v1), (2, .int v2)] [] (0, 0) σ
  refine J_aload_n o 0 d_X5_drift_0 rfl ?_
  refine J_iconst (v := 0) o d_X5_drift_1 iconst_0 ?_
  refine J_put o fl_RX5_50 la_5 rfl (Nat.le_of_ble_eq_true rfl) (Nat.le_of_ble_eq_true rfl) rfl rfl rfl rfl d_X5_drift_2 ?_
  refine J_nS (fun s2 es2 => ?_)
  replace h := h s2 es2
  refine J_aload_n o 0 d_X5_drift_5 rfl ?_
  refine J_iload_n o 1 d_X5_drift_6 rfl ?_
  refine J_iconst (v := 0) o d_X5_drift_7 iconst_0 ?_
  refine J_bipush (v := 60) o d_X5_drift_8 bipush_60 ?_
  refine J_callS o [.int v1, .int 0, .int 60] mth_X5_in st_X5_in ml_RX5_56 ⟨Nat.le_of_ble_eq_true rfl, Nat.le_of_ble_eq_true rfl⟩ rfl rfl (Nat.le_of_ble_eq_true rfl) ⟨Nat.le_refl _, Nat.le_refl _⟩ d_X5_drift_10 (w_X5_in (xL x) b  h) (aZ (fun r10 s10 hzr10 h => ?_))
  refine J_if_eq o 25 d_X5_drift_13 rfl (fun c13 => ?_) (fun c13 => ?_)
  · replace h := h.1 c13
    refine J_iconst (v := 1) o d_X5_drift_25 iconst_1 ?_
    refine J_goto o 30 d_X5_drift_26 rfl ?_
    exact c_X5_drift_30 o   1 s10  h
  · replace h := h.2 c13
    refine J_iload_n o 2 d_X5_drift_16 rfl ?_
    refine J_iconst (v := 0) o d_X5_drift_17 iconst_0 ?_
    refine J_iconst (v := 3) o d_X5_drift_18 iconst_3 ?_
    refine J_callS o [.int v2, .int 0, .int 3] mth_X5_in st_X5_in ml_RX5_56 ⟨Nat.le_of_ble_eq_true rfl, Nat.le_of_ble_eq_true rfl⟩ rfl rfl (Nat.le_of_ble_eq_true rfl) ⟨Nat.le_refl _, Nat.le_refl _⟩ d_X5_drift_19 (w_X5_in (xL x) b  h) (aZ (fun r19 s19 hzr19 h => ?_))
    refine J_if_ne o 29 d_X5_drift_22 rfl (fun c22 => ?_) (fun c22 => ?_)
    · replace h := h.1 c22
      refine J_iconst (v := 0) o d_X5_drift_29 iconst_0 ?_
      exact c_X5_drift_30 o   0 s19  h
    · replace h := h.2 c22
      refine J_iconst (v := 1) o d_X5_drift_25 iconst_1 ?_
      refine J_goto o 30 d_X5_drift_26 rfl ?_
      exact c_X5_drift_30 o   1 s19  h
theorem d_X5_cost_0 : decode cX5_cost 0 = .ok (.aload_n 0, 1) := by decide +kernel
theorem d_X5_cost_1 : decode cX5_cost 1 = .ok (.iconst 0, 1) := by decide +kernel
theorem d_X5_cost_2 : decode cX5_cost 2 = .ok (.putfield 50, 3) := by decide +kernel
theorem d_X5_cost_5 : decode cX5_cost 5 = .ok (.aload_n 0, 1) := by decide +kernel
theorem d_X5_cost_6 : decode cX5_cost 6 = .ok (.iload_n 1, 1) := by decide +kernel
theorem d_X5_cost_7 : decode cX5_cost 7 = .ok (.iconst 1, 1) := by decide +kernel
theorem d_X5_cost_8 : decode cX5_cost 8 = .ok (.bipush 8, 2) := by decide +kernel
theorem d_X5_cost_10 : decode cX5_cost 10 = .ok (.invokestatic 56, 3) := by decide +kernel
theorem d_X5_cost_13 : decode cX5_cost 13 = .ok (.ifCond .eq 13, 3) := by decide +kernel
theorem d_X5_cost_16 : decode cX5_cost 16 = .ok (.iload_n 2, 1) := by decide +kernel
theorem d_X5_cost_17 : decode cX5_cost 17 = .ok (.iconst 0, 1) := by decide +kernel
theorem d_X5_cost_18 : decode cX5_cost 18 = .ok (.bipush 59, 2) := by decide +kernel
theorem d_X5_cost_20 : decode cX5_cost 20 = .ok (.invokestatic 56, 3) := by decide +kernel
theorem d_X5_cost_23 : decode cX5_cost 23 = .ok (.ifCond .ne 7, 3) := by decide +kernel
theorem d_X5_cost_26 : decode cX5_cost 26 = .ok (.iconst 1, 1) := by decide +kernel
theorem d_X5_cost_27 : decode cX5_cost 27 = .ok (.goto 4, 3) := by decide +kernel
theorem d_X5_cost_30 : decode cX5_cost 30 = .ok (.iconst 0, 1) := by decide +kernel
theorem d_X5_cost_31 : decode cX5_cost 31 = .ok (.iconst 1, 1) := by decide +kernel
theorem d_X5_cost_32 : decode cX5_cost 32 = .ok (.iconst 1, 1) := by decide +kernel
theorem d_X5_cost_33 : decode cX5_cost 33 = .ok (.invokevirtual 216, 3) := by decide +kernel
theorem d_X5_cost_36 : decode cX5_cost 36 = .ok (.ifCond .eq 5, 3) := by decide +kernel
theorem d_X5_cost_39 : decode cX5_cost 39 = .ok (.iconst 0, 1) := by decide +kernel
theorem d_X5_cost_40 : decode cX5_cost 40 = .ok (.ireturn, 1) := by decide +kernel
theorem d_X5_cost_41 : decode cX5_cost 41 = .ok (.iload_n 1, 1) := by decide +kernel
theorem d_X5_cost_42 : decode cX5_cost 42 = .ok (.aload_n 0, 1) := by decide +kernel
theorem d_X5_cost_43 : decode cX5_cost 43 = .ok (.getfield 20, 3) := by decide +kernel
theorem d_X5_cost_46 : decode cX5_cost 46 = .ok (.aload_n 0, 1) := by decide +kernel
theorem d_X5_cost_47 : decode cX5_cost 47 = .ok (.getfield 20, 3) := by decide +kernel
theorem d_X5_cost_50 : decode cX5_cost 50 = .ok (.iconst 2, 1) := by decide +kernel
theorem d_X5_cost_51 : decode cX5_cost 51 = .ok (.iaload, 1) := by decide +kernel
theorem d_X5_cost_52 : decode cX5_cost 52 = .ok (.iload_n 2, 1) := by decide +kernel
theorem d_X5_cost_53 : decode cX5_cost 53 = .ok (.iadd, 1) := by decide +kernel
theorem d_X5_cost_54 : decode cX5_cost 54 = .ok (.invokestatic 82, 3) := by decide +kernel
theorem d_X5_cost_57 : decode cX5_cost 57 = .ok (.invokestatic 241, 3) := by decide +kernel
theorem d_X5_cost_60 : decode cX5_cost 60 = .ok (.ireturn, 1) := by decide +kernel
abbrev rm_X5_cost : Room := { frames := 2, cells := 0, slots := 0, locals := 43 }
set_option maxHeartbeats 4000000 in
set_option maxRecDepth 20000 in
theorem c_X5_cost_31 {x : Cx} {b : Wy} (o : Ok x (wM b) cX5_cost 3 RX5 (some .int) rm_X5_cost) {v1 : Int32} {v2 : Int32} {K : Int32 → Sg → Prop}   : ∀ (k1 : Int32) (σ : Sg), m_X5_cost_j31 v1 v2 K  k1 σ → J x (wM b) (FinC x (wM b) (PI K) (0, 0)) 31 [(0, .ref (wB (wM b) + 347)), (1, .int v1), (2, .int v2)] [.int k1, .ref (wB (wM b) + 347)] (0, 0) σ := by
  intro k1 σ  h
  unfold m_X5_cost_j31 at h
  refine J_iconst (v := 1) o d_X5_cost_31 iconst_1 ?_
  refine J_iconst (v := 1) o d_X5_cost_32 iconst_1 ?_
  refine J_callV (k := 347) (c := 5) o [.int k1, .int 1, .int 1] rfl (by decide) (Nat.le_of_ble_eq_true rfl) (Nat.le_of_ble_eq_true rfl) mth_X5_bad iv_X5_bad ml_RX5_216 ⟨Nat.le_of_ble_eq_true rfl, Nat.le_of_ble_eq_true rfl⟩ rfl rfl (Nat.le_of_ble_eq_true rfl) ⟨Nat.le_refl _, Nat.le_refl _⟩ d_X5_cost_33 (w_X5_bad (xL x) b  h) (aZ (fun r33 s33 hzr33 h => ?_))
  refine J_if_eq o 41 d_X5_cost_36 rfl (fun c36 => ?_) (fun c36 => ?_)
  · replace h := h.1 c36
    refine J_iload_n o 1 d_X5_cost_41 rfl ?_
    refine J_aload_n o 0 d_X5_cost_42 rfl ?_
    refine J_getR (t := 350) o fl_RX5_20 rfl (Nat.le_of_ble_eq_true rfl) (Nat.le_of_ble_eq_true rfl) rfl rfl d_X5_cost_43 ?_
    refine J_aload_n o 0 d_X5_cost_46 rfl ?_
    refine J_getR (t := 350) o fl_RX5_20 rfl (Nat.le_of_ble_eq_true rfl) (Nat.le_of_ble_eq_true rfl) rfl rfl d_X5_cost_47 ?_
    refine J_iconst (v := 2) o d_X5_cost_50 iconst_2 ?_
    have b51 := h.1
    replace h := h.2
    refine J_iald o A_350 (vpc (rfl : ln 350 = 1098) b51) d_X5_cost_51 ?_
    refine J_iload_n o 2 d_X5_cost_52 rfl ?_
    refine J_iadd o d_X5_cost_53 ?_
    refine J_callS o [.ref (wB (wM b) + 350), .int ((s33 350 (2 : Int32).toNatClampNeg) + v2)] mth_X5_windOf st_X5_windOf ml_RX5_82 ⟨Nat.le_of_ble_eq_true rfl, Nat.le_of_ble_eq_true rfl⟩ rfl rfl (Nat.le_of_ble_eq_true rfl) ⟨Nat.le_refl _, Nat.le_refl _⟩ d_X5_cost_54 (w_X5_windOf (xL x) b A_350 h) (aI (fun r54 s54 h => ?_))
    refine J_callS o [.int v1, .int r54] mth_X5_costBy st_X5_costBy ml_RX5_241 ⟨Nat.le_of_ble_eq_true rfl, Nat.le_of_ble_eq_true rfl⟩ rfl rfl (Nat.le_of_ble_eq_true rfl) ⟨Nat.le_refl _, Nat.le_refl _⟩ d_X5_cost_57 (w_X5_costBy (xL x) b  h) (aI (fun r57 s57 h => ?_))
    exact J_iret o d_X5_cost_60 ⟨_, rfl, h⟩
  · replace h := h.2 c36
    refine J_iconst (v := 0) o d_X5_cost_39 iconst_0 ?_
    exact J_iret o d_X5_cost_40 ⟨_, rfl, h⟩
set_option maxHeartbeats 4000000 in
set_option maxRecDepth 20000 in
theorem w_X5_cost (l : Launch) (b : Wy) {v1 : Int32} {v2 : Int32} {σ : Sg} {K : Int32 → Sg → Prop}  (h : m_X5_cost v1 v2 σ K) : Ct l (wM b) yX5_cost cX5_cost 3 (some .int) rm_X5_cost [.ref (wB (wM b) + 347), .int v1, .int v2] σ (PI K) := by
  unfold m_X5_cost at h
  refine Ct.of (own := RX5) (by decide +kernel) rfl (Nat.le_of_ble_eq_true rfl) (fun x hx o => ?_)
  subst hx
  show J x (wM b) (FinC x (wM b) (PI K) (0, 0)) 0 [(0, .ref (wB (wM b) + 347)), (1, .int v1), (2, .int v2)] [] (0, 0) σ
  refine J_aload_n o 0 d_X5_cost_0 rfl ?_
  refine J_iconst (v := 0) o d_X5_cost_1 iconst_0 ?_
  refine J_put o fl_RX5_50 la_5 rfl (Nat.le_of_ble_eq_true rfl) (Nat.le_of_ble_eq_true rfl) rfl rfl rfl rfl d_X5_cost_2 ?_
  refine J_nS (fun s2 es2 => ?_)
  replace h := h s2 es2
  refine J_aload_n o 0 d_X5_cost_5 rfl ?_
  refine J_iload_n o 1 d_X5_cost_6 rfl ?_
  refine J_iconst (v := 1) o d_X5_cost_7 iconst_1 ?_
  refine J_bipush (v := 8) o d_X5_cost_8 bipush_8 ?_
  refine J_callS o [.int v1, .int 1, .int 8] mth_X5_in st_X5_in ml_RX5_56 ⟨Nat.le_of_ble_eq_true rfl, Nat.le_of_ble_eq_true rfl⟩ rfl rfl (Nat.le_of_ble_eq_true rfl) ⟨Nat.le_refl _, Nat.le_refl _⟩ d_X5_cost_10 (w_X5_in (xL x) b  h) (aZ (fun r10 s10 hzr10 h => ?_))
  refine J_if_eq o 26 d_X5_cost_13 rfl (fun c13 => ?_) (fun c13 => ?_)
  · replace h := h.1 c13
    refine J_iconst (v := 1) o d_X5_cost_26 iconst_1 ?_
    refine J_goto o 31 d_X5_cost_27 rfl ?_
    exact c_X5_cost_31 o   1 s10  h
  · replace h := h.2 c13
    refine J_iload_n o 2 d_X5_cost_16 rfl ?_
    refine J_iconst (v := 0) o d_X5_cost_17 iconst_0 ?_
    refine J_bipush (v := 59) o d_X5_cost_18 bipush_59 ?_
    refine J_callS o [.int v2, .int 0, .int 59] mth_X5_in st_X5_in ml_RX5_56 ⟨Nat.le_of_ble_eq_true rfl, Nat.le_of_ble_eq_true rfl⟩ rfl rfl (Nat.le_of_ble_eq_true rfl) ⟨Nat.le_refl _, Nat.le_refl _⟩ d_X5_cost_20 (w_X5_in (xL x) b  h) (aZ (fun r20 s20 hzr20 h => ?_))
    refine J_if_ne o 30 d_X5_cost_23 rfl (fun c23 => ?_) (fun c23 => ?_)
    · replace h := h.1 c23
      refine J_iconst (v := 0) o d_X5_cost_30 iconst_0 ?_
      exact c_X5_cost_31 o   0 s20  h
    · replace h := h.2 c23
      refine J_iconst (v := 1) o d_X5_cost_26 iconst_1 ?_
      refine J_goto o 31 d_X5_cost_27 rfl ?_
      exact c_X5_cost_31 o   1 s20  h
theorem d_X5_empties_0 : decode cX5_empties 0 = .ok (.iconst 0, 1) := by decide +kernel
theorem d_X5_empties_1 : decode cX5_empties 1 = .ok (.istore_n 2, 1) := by decide +kernel
theorem d_X5_empties_2 : decode cX5_empties 2 = .ok (.iload_n 2, 1) := by decide +kernel
theorem d_X5_empties_3 : decode cX5_empties 3 = .ok (.sipush 240, 3) := by decide +kernel
theorem d_X5_empties_6 : decode cX5_empties 6 = .ok (.if_icmp .ge 15, 3) := by decide +kernel
theorem d_X5_empties_9 : decode cX5_empties 9 = .ok (.aload_n 1, 1) := by decide +kernel
theorem d_X5_empties_10 : decode cX5_empties 10 = .ok (.iload_n 2, 1) := by decide +kernel
theorem d_X5_empties_11 : decode cX5_empties 11 = .ok (.ldc_w 272, 3) := by decide +kernel
theorem d_X5_empties_14 : decode cX5_empties 14 = .ok (.iastore, 1) := by decide +kernel
theorem d_X5_empties_15 : decode cX5_empties 15 = .ok (.iinc 2 1, 3) := by decide +kernel
theorem d_X5_empties_18 : decode cX5_empties 18 = .ok (.goto (-16), 3) := by decide +kernel
theorem d_X5_empties_21 : decode cX5_empties 21 = .ok (.return_, 1) := by decide +kernel
abbrev rm_X5_empties : Room := { frames := 0, cells := 0, slots := 0, locals := 0 }
set_option maxHeartbeats 4000000 in
set_option maxRecDepth 20000 in
theorem c_X5_empties_2 {x : Cx} {b : Wy} (o : Ok x (wM b) cX5_empties 3 RX5 none rm_X5_empties) {v1 : Nat} {K : Sg → Prop}  (hv1 : IsA (wM b) v1) : ∀ (n : Nat) (l2 : Int32) (σ : Sg), m_X5_empties_l2 v1 K  n l2 σ → J x (wM b) (FinC x (wM b) (PV K) (0, 0)) 2 [(1, .ref (wB (wM b) + v1)), (2, .int l2)] [] (0, 0) σ := by
  intro n
  induction n with
  | zero =>
    intro l2 σ  h
    exact False.elim h
  | succ n ih =>
    intro l2 σ  h
    unfold m_X5_empties_l2 at h
    refine J_iload_n o 1 d_X5_empties_2 rfl ?_
    refine J_sipush (v := 240) o d_X5_empties_3 sipush_240 ?_
    refine J_icmp_ge o 21 d_X5_empties_6 rfl (fun c6 => ?_) (fun c6 => ?_)
    · replace h := h.1 c6
      exact J_vret o d_X5_empties_21 ⟨rfl, h⟩
    · replace h := h.2 c6
      refine J_aload_n o 0 d_X5_empties_9 rfl ?_
      refine J_iload_n o 1 d_X5_empties_10 rfl ?_
      refine J_ldcw o d_X5_empties_11 ci_RX5_272 ?_
      have b14 := h.1
      replace h := h.2
      refine J_iast o hv1 (vpc rfl b14) d_X5_empties_14 ?_
      refine J_nS (fun s14 es14 => ?_)
      replace h := h s14 es14
      refine J_iinc (lv' := [(2, .int (l2 + 1)), (1, .ref (wB (wM b) + v1))]) o 1 d_X5_empties_15 (by decide) rfl iconst_1 rfl ?_
      refine J_goto o 2 d_X5_empties_18 rfl ?_
      refine J_sub [1, 0] rfl ?_
      exact ih (l2 + 1) s14  h
set_option maxHeartbeats 4000000 in
set_option maxRecDepth 20000 in
theorem w_X5_empties (l : Launch) (b : Wy) {v1 : Nat} {σ : Sg} {K : Sg → Prop} (hv1 : IsA (wM b) v1) (h : m_X5_empties v1 σ K) : Ct l (wM b) yX5_empties cX5_empties 3 none rm_X5_empties [.ref (wB (wM b) + 347), .ref (wB (wM b) + v1)] σ (PV K) := by
  unfold m_X5_empties at h
  refine Ct.of (own := RX5) (by decide +kernel) rfl (Nat.le_of_ble_eq_true rfl) (fun x hx o => ?_)
  subst hx
  show J x (wM b) (FinC x (wM b) (PV K) (0, 0)) 0 [(0, .ref (wB (wM b) + 347)), (1, .ref (wB (wM b) + v1))] [] (0, 0) σ
  refine J_iconst (v := 0) o d_X5_empties_0 iconst_0 ?_
  refine J_istore_n (lv' := [(2, .int 0), (0, .ref (wB (wM b) + 347)), (1, .ref (wB (wM b) + v1))]) o d_X5_empties_1 (by decide) rfl ?_
  refine J_sub [2, 0] rfl ?_
  obtain ⟨n9, h⟩ := h
  exact c_X5_empties_2 o hv1  n9 0 σ  h
theorem d_X5_spreads_0 : decode cX5_spreads 0 = .ok (.iconst 0, 1) := by decide +kernel
theorem d_X5_spreads_1 : decode cX5_spreads 1 = .ok (.istore 4, 2) := by decide +kernel
theorem d_X5_spreads_3 : decode cX5_spreads 3 = .ok (.iload 4, 2) := by decide +kernel
theorem d_X5_spreads_5 : decode cX5_spreads 5 = .ok (.bipush 60, 2) := by decide +kernel
theorem d_X5_spreads_7 : decode cX5_spreads 7 = .ok (.if_icmp .gt 17, 3) := by decide +kernel
theorem d_X5_spreads_10 : decode cX5_spreads 10 = .ok (.aload_n 0, 1) := by decide +kernel
theorem d_X5_spreads_11 : decode cX5_spreads 11 = .ok (.aload_n 1, 1) := by decide +kernel
theorem d_X5_spreads_12 : decode cX5_spreads 12 = .ok (.iload 4, 2) := by decide +kernel
theorem d_X5_spreads_14 : decode cX5_spreads 14 = .ok (.aaload, 1) := by decide +kernel
theorem d_X5_spreads_15 : decode cX5_spreads 15 = .ok (.invokevirtual 273, 3) := by decide +kernel
theorem d_X5_spreads_18 : decode cX5_spreads 18 = .ok (.iinc 4 1, 3) := by decide +kernel
theorem d_X5_spreads_21 : decode cX5_spreads 21 = .ok (.goto (-18), 3) := by decide +kernel
theorem d_X5_spreads_24 : decode cX5_spreads 24 = .ok (.aload_n 1, 1) := by decide +kernel
theorem d_X5_spreads_25 : decode cX5_spreads 25 = .ok (.iload_n 2, 1) := by decide +kernel
theorem d_X5_spreads_26 : decode cX5_spreads 26 = .ok (.aaload, 1) := by decide +kernel
theorem d_X5_spreads_27 : decode cX5_spreads 27 = .ok (.iload_n 3, 1) := by decide +kernel
theorem d_X5_spreads_28 : decode cX5_spreads 28 = .ok (.iconst 0, 1) := by decide +kernel
theorem d_X5_spreads_29 : decode cX5_spreads 29 = .ok (.iastore, 1) := by decide +kernel
theorem d_X5_spreads_30 : decode cX5_spreads 30 = .ok (.iload_n 2, 1) := by decide +kernel
theorem d_X5_spreads_31 : decode cX5_spreads 31 = .ok (.istore 4, 2) := by decide +kernel
theorem d_X5_spreads_33 : decode cX5_spreads 33 = .ok (.iload 4, 2) := by decide +kernel
theorem d_X5_spreads_35 : decode cX5_spreads 35 = .ok (.bipush 60, 2) := by decide +kernel
theorem d_X5_spreads_37 : decode cX5_spreads 37 = .ok (.if_icmp .ge 147, 3) := by decide +kernel
theorem d_X5_spreads_40 : decode cX5_spreads 40 = .ok (.aload_n 0, 1) := by decide +kernel
theorem d_X5_spreads_41 : decode cX5_spreads 41 = .ok (.getfield 20, 3) := by decide +kernel
theorem d_X5_spreads_44 : decode cX5_spreads 44 = .ok (.aload_n 0, 1) := by decide +kernel
theorem d_X5_spreads_45 : decode cX5_spreads 45 = .ok (.getfield 20, 3) := by decide +kernel
theorem d_X5_spreads_48 : decode cX5_spreads 48 = .ok (.iconst 2, 1) := by decide +kernel
theorem d_X5_spreads_49 : decode cX5_spreads 49 = .ok (.iaload, 1) := by decide +kernel
theorem d_X5_spreads_50 : decode cX5_spreads 50 = .ok (.iload 4, 2) := by decide +kernel
theorem d_X5_spreads_52 : decode cX5_spreads 52 = .ok (.iadd, 1) := by decide +kernel
theorem d_X5_spreads_53 : decode cX5_spreads 53 = .ok (.invokestatic 82, 3) := by decide +kernel
theorem d_X5_spreads_56 : decode cX5_spreads 56 = .ok (.istore 5, 2) := by decide +kernel
theorem d_X5_spreads_58 : decode cX5_spreads 58 = .ok (.iconst 0, 1) := by decide +kernel
theorem d_X5_spreads_59 : decode cX5_spreads 59 = .ok (.istore 6, 2) := by decide +kernel
theorem d_X5_spreads_61 : decode cX5_spreads 61 = .ok (.iload 6, 2) := by decide +kernel
theorem d_X5_spreads_63 : decode cX5_spreads 63 = .ok (.sipush 240, 3) := by decide +kernel
theorem d_X5_spreads_66 : decode cX5_spreads 66 = .ok (.if_icmp .ge 112, 3) := by decide +kernel
theorem d_X5_spreads_69 : decode cX5_spreads 69 = .ok (.aload_n 1, 1) := by decide +kernel
theorem d_X5_spreads_70 : decode cX5_spreads 70 = .ok (.iload 4, 2) := by decide +kernel
theorem d_X5_spreads_72 : decode cX5_spreads 72 = .ok (.aaload, 1) := by decide +kernel
theorem d_X5_spreads_73 : decode cX5_spreads 73 = .ok (.iload 6, 2) := by decide +kernel
theorem d_X5_spreads_75 : decode cX5_spreads 75 = .ok (.iaload, 1) := by decide +kernel
theorem d_X5_spreads_76 : decode cX5_spreads 76 = .ok (.ldc_w 272, 3) := by decide +kernel
theorem d_X5_spreads_79 : decode cX5_spreads 79 = .ok (.if_icmp .ne 6, 3) := by decide +kernel
theorem d_X5_spreads_82 : decode cX5_spreads 82 = .ok (.goto 90, 3) := by decide +kernel
theorem d_X5_spreads_85 : decode cX5_spreads 85 = .ok (.iconst 0, 1) := by decide +kernel
theorem d_X5_spreads_86 : decode cX5_spreads 86 = .ok (.istore 7, 2) := by decide +kernel
theorem d_X5_spreads_88 : decode cX5_spreads 88 = .ok (.iload 7, 2) := by decide +kernel
theorem d_X5_spreads_90 : decode cX5_spreads 90 = .ok (.bipush 9, 2) := by decide +kernel
theorem d_X5_spreads_92 : decode cX5_spreads 92 = .ok (.if_icmp .ge 80, 3) := by decide +kernel
theorem d_X5_spreads_95 : decode cX5_spreads 95 = .ok (.iload 7, 2) := by decide +kernel
theorem d_X5_spreads_97 : decode cX5_spreads 97 = .ok (.ifCond .le 20, 3) := by decide +kernel
theorem d_X5_spreads_100 : decode cX5_spreads 100 = .ok (.aload_n 0, 1) := by decide +kernel
theorem d_X5_spreads_101 : decode cX5_spreads 101 = .ok (.getfield 20, 3) := by decide +kernel
theorem d_X5_spreads_104 : decode cX5_spreads 104 = .ok (.iload 6, 2) := by decide +kernel
theorem d_X5_spreads_106 : decode cX5_spreads 106 = .ok (.iload 7, 2) := by decide +kernel
theorem d_X5_spreads_108 : decode cX5_spreads 108 = .ok (.invokestatic 75, 3) := by decide +kernel
theorem d_X5_spreads_111 : decode cX5_spreads 111 = .ok (.ifCond .ne 6, 3) := by decide +kernel
theorem d_X5_spreads_114 : decode cX5_spreads 114 = .ok (.goto 52, 3) := by decide +kernel
theorem d_X5_spreads_117 : decode cX5_spreads 117 = .ok (.aload_n 0, 1) := by decide +kernel
theorem d_X5_spreads_118 : decode cX5_spreads 118 = .ok (.getfield 20, 3) := by decide +kernel
theorem d_X5_spreads_121 : decode cX5_spreads 121 = .ok (.iload 6, 2) := by decide +kernel
theorem d_X5_spreads_123 : decode cX5_spreads 123 = .ok (.iload 7, 2) := by decide +kernel
theorem d_X5_spreads_125 : decode cX5_spreads 125 = .ok (.invokestatic 247, 3) := by decide +kernel
theorem d_X5_spreads_128 : decode cX5_spreads 128 = .ok (.istore 8, 2) := by decide +kernel
theorem d_X5_spreads_130 : decode cX5_spreads 130 = .ok (.aload_n 1, 1) := by decide +kernel
theorem d_X5_spreads_131 : decode cX5_spreads 131 = .ok (.iload 4, 2) := by decide +kernel
theorem d_X5_spreads_133 : decode cX5_spreads 133 = .ok (.iconst 1, 1) := by decide +kernel
theorem d_X5_spreads_134 : decode cX5_spreads 134 = .ok (.iadd, 1) := by decide +kernel
theorem d_X5_spreads_135 : decode cX5_spreads 135 = .ok (.aaload, 1) := by decide +kernel
theorem d_X5_spreads_136 : decode cX5_spreads 136 = .ok (.iload 8, 2) := by decide +kernel
theorem d_X5_spreads_138 : decode cX5_spreads 138 = .ok (.aload_n 1, 1) := by decide +kernel
theorem d_X5_spreads_139 : decode cX5_spreads 139 = .ok (.iload 4, 2) := by decide +kernel
theorem d_X5_spreads_141 : decode cX5_spreads 141 = .ok (.iconst 1, 1) := by decide +kernel
theorem d_X5_spreads_142 : decode cX5_spreads 142 = .ok (.iadd, 1) := by decide +kernel
theorem d_X5_spreads_143 : decode cX5_spreads 143 = .ok (.aaload, 1) := by decide +kernel
theorem d_X5_spreads_144 : decode cX5_spreads 144 = .ok (.iload 8, 2) := by decide +kernel
theorem d_X5_spreads_146 : decode cX5_spreads 146 = .ok (.iaload, 1) := by decide +kernel
theorem d_X5_spreads_147 : decode cX5_spreads 147 = .ok (.aload_n 1, 1) := by decide +kernel
theorem d_X5_spreads_148 : decode cX5_spreads 148 = .ok (.iload 4, 2) := by decide +kernel
theorem d_X5_spreads_150 : decode cX5_spreads 150 = .ok (.aaload, 1) := by decide +kernel
theorem d_X5_spreads_151 : decode cX5_spreads 151 = .ok (.iload 6, 2) := by decide +kernel
theorem d_X5_spreads_153 : decode cX5_spreads 153 = .ok (.iaload, 1) := by decide +kernel
theorem d_X5_spreads_154 : decode cX5_spreads 154 = .ok (.iload 7, 2) := by decide +kernel
theorem d_X5_spreads_156 : decode cX5_spreads 156 = .ok (.iload 5, 2) := by decide +kernel
theorem d_X5_spreads_158 : decode cX5_spreads 158 = .ok (.invokestatic 241, 3) := by decide +kernel
theorem d_X5_spreads_161 : decode cX5_spreads 161 = .ok (.iadd, 1) := by decide +kernel
theorem d_X5_spreads_162 : decode cX5_spreads 162 = .ok (.invokestatic 86, 3) := by decide +kernel
theorem d_X5_spreads_165 : decode cX5_spreads 165 = .ok (.iastore, 1) := by decide +kernel
theorem d_X5_spreads_166 : decode cX5_spreads 166 = .ok (.iinc 7 1, 3) := by decide +kernel
theorem d_X5_spreads_169 : decode cX5_spreads 169 = .ok (.goto (-81), 3) := by decide +kernel
theorem d_X5_spreads_172 : decode cX5_spreads 172 = .ok (.iinc 6 1, 3) := by decide +kernel
theorem d_X5_spreads_175 : decode cX5_spreads 175 = .ok (.goto (-114), 3) := by decide +kernel
theorem d_X5_spreads_178 : decode cX5_spreads 178 = .ok (.iinc 4 1, 3) := by decide +kernel
theorem d_X5_spreads_181 : decode cX5_spreads 181 = .ok (.goto (-148), 3) := by decide +kernel
theorem d_X5_spreads_184 : decode cX5_spreads 184 = .ok (.return_, 1) := by decide +kernel
abbrev rm_X5_spreads : Room := { frames := 5, cells := 0, slots := 0, locals := 113 }
set_option maxHeartbeats 4000000 in
set_option maxRecDepth 20000 in
theorem c_X5_spreads_117 {x : Cx} {b : Wy} (o : Ok x (wM b) cX5_spreads 9 RX5 none rm_X5_spreads) {v1 : Nat} {v2 : Int32} {v3 : Int32} {K : Sg → Prop}  {KO33 : Int32 → Sg → Prop} {KO61 : Int32 → Int32 → Int32 → Sg → Prop} {KO88 : Int32 → Int32 → Int32 → Int32 → Sg → Prop} (hv1 : IsG v1) (hKO33 : ∀ (l4 : Int32) (σ : Sg), KO33 l4 σ → J x (wM b) (FinC x (wM b) (PV K) (0, 0)) 33 [(0, .ref (wB (wM b) + 347)), (1, .ref (wB (wM b) + v1)), (4, .int l4)] [] (0, 0) σ) (hKO61 : ∀ (l4 : Int32) (l5 : Int32) (l6 : Int32) (σ : Sg), KO61 l4 l5 l6 σ → J x (wM b) (FinC x (wM b) (PV K) (0, 0)) 61 [(0, .ref (wB (wM b) + 347)), (1, .ref (wB (wM b) + v1)), (4, .int l4), (5, .int l5), (6, .int l6)] [] (0, 0) σ) (hKO88 : ∀ (l4 : Int32) (l5 : Int32) (l6 : Int32) (l7 : Int32) (σ : Sg), KO88 l4 l5 l6 l7 σ → J x (wM b) (FinC x (wM b) (PV K) (0, 0)) 88 [(0, .ref (wB (wM b) + 347)), (1, .ref (wB (wM b) + v1)), (4, .int l4), (5, .int l5), (6, .int l6), (7, .int l7)] [] (0, 0) σ) : ∀ (l4 : Int32) (l5 : Int32) (l6 : Int32) (l7 : Int32) (σ : Sg), m_X5_spreads_j117 v1 v2 v3 K KO33 KO61 KO88 l4 l5 l6 l7 σ → J x (wM b) (FinC x (wM b) (PV K) (0, 0)) 117 [(0, .ref (wB (wM b) + 347)), (1, .ref (wB (wM b) + v1)), (4, .int l4), (5, .int l5), (6, .int l6), (7, .int l7)] [] (0, 0) σ := by
  intro l4 l5 l6 l7 σ  h
  unfold m_X5_spreads_j117 at h
  refine J_aload_n o 0 d_X5_spreads_117 rfl ?_
  refine J_getR (t := 350) o fl_RX5_20 rfl (Nat.le_of_ble_eq_true rfl) (Nat.le_of_ble_eq_true rfl) rfl rfl d_X5_spreads_118 ?_
  refine J_iload o 4 d_X5_spreads_121 rfl ?_
  refine J_iload o 5 d_X5_spreads_123 rfl ?_
  refine J_callS o [.ref (wB (wM b) + 350), .int l6, .int l7] mth_X5_carried st_X5_carried ml_RX5_247 ⟨Nat.le_of_ble_eq_true rfl, Nat.le_of_ble_eq_true rfl⟩ rfl rfl (Nat.le_of_ble_eq_true rfl) ⟨Nat.le_refl _, Nat.le_refl _⟩ d_X5_spreads_125 (w_X5_carried (xL x) b A_350 h) (aI (fun r125 s125 h => ?_))
  refine J_istore (lv' := [(8, .int r125), (0, .ref (wB (wM b) + 347)), (1, .ref (wB (wM b) + v1)), (4, .int l4), (5, .int l5), (6, .int l6), (7, .int l7)]) o d_X5_spreads_128 (by decide) rfl ?_
  refine J_aload_n o 2 d_X5_spreads_130 rfl ?_
  refine J_iload o 3 d_X5_spreads_131 rfl ?_
  refine J_iconst (v := 1) o d_X5_spreads_133 iconst_1 ?_
  refine J_iadd o d_X5_spreads_134 ?_
  have b135 := h.1
  replace h := h.2
  refine J_aald (t := (v1 + 1 + (l4 + 1).toNatClampNeg)) o 2 (by decide) (G_k hv1) (G_lo hv1) (G_hi hv1) (vpc (G_l hv1) b135) (G_t hv1 _) d_X5_spreads_135 ?_
  refine J_iload o 0 d_X5_spreads_136 rfl ?_
  refine J_aload_n o 2 d_X5_spreads_138 rfl ?_
  refine J_iload o 3 d_X5_spreads_139 rfl ?_
  refine J_iconst (v := 1) o d_X5_spreads_141 iconst_1 ?_
  refine J_iadd o d_X5_spreads_142 ?_
  have b143 := h.1
  replace h := h.2
  refine J_aald (t := (v1 + 1 + (l4 + 1).toNatClampNeg)) o 2 (by decide) (G_k hv1) (G_lo hv1) (G_hi hv1) (vpc (G_l hv1) b143) (G_t hv1 _) d_X5_spreads_143 ?_
  refine J_iload o 0 d_X5_spreads_144 rfl ?_
  have b146 := h.1
  replace h := h.2
  refine J_iald o (G_A hv1 b143) (vpc (G_L hv1 b143) b146) d_X5_spreads_146 ?_
  refine J_aload_n o 2 d_X5_spreads_147 rfl ?_
  refine J_iload o 3 d_X5_spreads_148 rfl ?_
  have b150 := h.1
  replace h := h.2
  refine J_aald (t := (v1 + 1 + l4.toNatClampNeg)) o 2 (by decide) (G_k hv1) (G_lo hv1) (G_hi hv1) (vpc (G_l hv1) b150) (G_t hv1 _) d_X5_spreads_150 ?_
  refine J_iload o 5 d_X5_spreads_151 rfl ?_
  have b153 := h.1
  replace h := h.2
  refine J_iald o (G_A hv1 b150) (vpc (G_L hv1 b150) b153) d_X5_spreads_153 ?_
  refine J_iload o 6 d_X5_spreads_154 rfl ?_
  refine J_iload o 4 d_X5_spreads_156 rfl ?_
  refine J_callS o [.int l7, .int l5] mth_X5_costBy st_X5_costBy ml_RX5_241 ⟨Nat.le_of_ble_eq_true rfl, Nat.le_of_ble_eq_true rfl⟩ rfl rfl (Nat.le_of_ble_eq_true rfl) ⟨Nat.le_refl _, Nat.le_refl _⟩ d_X5_spreads_158 (w_X5_costBy (xL x) b  h) (aI (fun r158 s158 h => ?_))
  refine J_iadd o d_X5_spreads_161 ?_
  refine J_callS o [.int (s125 (v1 + 1 + (l4 + 1).toNatClampNeg) r125.toNatClampNeg), .int ((s125 (v1 + 1 + l4.toNatClampNeg) l6.toNatClampNeg) + r158)] mth_X5_less st_X5_less ml_RX5_86 ⟨Nat.le_of_ble_eq_true rfl, Nat.le_of_ble_eq_true rfl⟩ rfl rfl (Nat.le_of_ble_eq_true rfl) ⟨Nat.le_refl _, Nat.le_refl _⟩ d_X5_spreads_162 (w_X5_less (xL x) b  h) (aI (fun r162 s162 h => ?_))
  have b165 := h.1
  replace h := h.2
  refine J_iast o (G_A hv1 b135) (vpc (G_L hv1 b135) b165) d_X5_spreads_165 ?_
  refine J_nS (fun s165 es165 => ?_)
  replace h := h s165 es165
  refine J_iinc (lv' := [(7, .int (l7 + 1)), (8, .int r125), (0, .ref (wB (wM b) + 347)), (1, .ref (wB (wM b) + v1)), (4, .int l4), (5, .int l5), (6, .int l6)]) o 6 d_X5_spreads_166 (by decide) rfl iconst_1 rfl ?_
  refine J_goto o 88 d_X5_spreads_169 rfl ?_
  refine J_sub [2, 3, 4, 5, 6, 0] rfl ?_
  exact hKO88 l4 l5 l6 (l7 + 1) s165  h
set_option maxHeartbeats 4000000 in
set_option maxRecDepth 20000 in
theorem c_X5_spreads_88 {x : Cx} {b : Wy} (o : Ok x (wM b) cX5_spreads 9 RX5 none rm_X5_spreads) {v1 : Nat} {v2 : Int32} {v3 : Int32} {K : Sg → Prop}  {KO33 : Int32 → Sg → Prop} {KO61 : Int32 → Int32 → Int32 → Sg → Prop} (hv1 : IsG v1) (hKO33 : ∀ (l4 : Int32) (σ : Sg), KO33 l4 σ → J x (wM b) (FinC x (wM b) (PV K) (0, 0)) 33 [(0, .ref (wB (wM b) + 347)), (1, .ref (wB (wM b) + v1)), (4, .int l4)] [] (0, 0) σ) (hKO61 : ∀ (l4 : Int32) (l5 : Int32) (l6 : Int32) (σ : Sg), KO61 l4 l5 l6 σ → J x (wM b) (FinC x (wM b) (PV K) (0, 0)) 61 [(0, .ref (wB (wM b) + 347)), (1, .ref (wB (wM b) + v1)), (4, .int l4), (5, .int l5), (6, .int l6)] [] (0, 0) σ) : ∀ (n : Nat) (l4 : Int32) (l5 : Int32) (l6 : Int32) (l7 : Int32) (σ : Sg), m_X5_spreads_l88 v1 v2 v3 K KO33 KO61 n l4 l5 l6 l7 σ → J x (wM b) (FinC x (wM b) (PV K) (0, 0)) 88 [(0, .ref (wB (wM b) + 347)), (1, .ref (wB (wM b) + v1)), (4, .int l4), (5, .int l5), (6, .int l6), (7, .int l7)] [] (0, 0) σ := by
  intro n
  induction n with
  | zero =>
    intro l4 l5 l6 l7 σ  h
    exact False.elim h
  | succ n ih =>
    intro l4 l5 l6 l7 σ  h
    unfold m_X5_spreads_l88 at h
    refine J_iload o 5 d_X5_spreads_88 rfl ?_
    refine J_bipush (v := 9) o d_X5_spreads_90 bipush_9 ?_
    refine J_icmp_ge o 172 d_X5_spreads_92 rfl (fun c92 => ?_) (fun c92 => ?_)
    · replace h := h.1 c92
      refine J_iinc (lv' := [(6, .int (l6 + 1)), (0, .ref (wB (wM b) + 347)), (1, .ref (wB (wM b) + v1)), (4, .int l4), (5, .int l5), (7, .int l7)]) o 4 d_X5_spreads_172 (by decide) rfl iconst_1 rfl ?_
      refine J_goto o 61 d_X5_spreads_175 rfl ?_
      refine J_sub [1, 2, 3, 4, 0] rfl ?_
      exact hKO61 l4 l5 (l6 + 1) σ  h
    · replace h := h.2 c92
      refine J_iload o 5 d_X5_spreads_95 rfl ?_
      refine J_if_le o 117 d_X5_spreads_97 rfl (fun c97 => ?_) (fun c97 => ?_)
      · replace h := h.1 c97
        exact c_X5_spreads_117 o hv1 hKO33 hKO61 ih l4 l5 l6 l7 σ  h
      · replace h := h.2 c97
        refine J_aload_n o 0 d_X5_spreads_100 rfl ?_
        refine J_getR (t := 350) o fl_RX5_20 rfl (Nat.le_of_ble_eq_true rfl) (Nat.le_of_ble_eq_true rfl) rfl rfl d_X5_spreads_101 ?_
        refine J_iload o 4 d_X5_spreads_104 rfl ?_
        refine J_iload o 5 d_X5_spreads_106 rfl ?_
        refine J_callS o [.ref (wB (wM b) + 350), .int l6, .int l7] mth_X5_goes st_X5_goes ml_RX5_75 ⟨Nat.le_of_ble_eq_true rfl, Nat.le_of_ble_eq_true rfl⟩ rfl rfl (Nat.le_of_ble_eq_true rfl) ⟨Nat.le_refl _, Nat.le_refl _⟩ d_X5_spreads_108 (w_X5_goes (xL x) b A_350 h) (aZ (fun r108 s108 hzr108 h => ?_))
        refine J_if_ne o 117 d_X5_spreads_111 rfl (fun c111 => ?_) (fun c111 => ?_)
        · replace h := h.1 c111
          exact c_X5_spreads_117 o hv1 hKO33 hKO61 ih l4 l5 l6 l7 s108  h
        · replace h := h.2 c111
          refine J_goto o 166 d_X5_spreads_114 rfl ?_
          refine J_iinc (lv' := [(7, .int (l7 + 1)), (0, .ref (wB (wM b) + 347)), (1, .ref (wB (wM b) + v1)), (4, .int l4), (5, .int l5), (6, .int l6)]) o 5 d_X5_spreads_166 (by decide) rfl iconst_1 rfl ?_
          refine J_goto o 88 d_X5_spreads_169 rfl ?_
          refine J_sub [1, 2, 3, 4, 5, 0] rfl ?_
          exact ih l4 l5 l6 (l7 + 1) s108  h
set_option maxHeartbeats 4000000 in
set_option maxRecDepth 20000 in
theorem c_X5_spreads_61 {x : Cx} {b : Wy} (o : Ok x (wM b) cX5_spreads 9 RX5 none rm_X5_spreads) {v1 : Nat} {v2 : Int32} {v3 : Int32} {K : Sg → Prop}  {KO33 : Int32 → Sg → Prop} (hv1 : IsG v1) (hKO33 : ∀ (l4 : Int32) (σ : Sg), KO33 l4 σ → J x (wM b) (FinC x (wM b) (PV K) (0, 0)) 33 [(0, .ref (wB (wM b) + 347)), (1, .ref (wB (wM b) + v1)), (4, .int l4)] [] (0, 0) σ) : ∀ (n : Nat) (l4 : Int32) (l5 : Int32) (l6 : Int32) (σ : Sg), m_X5_spreads_l61 v1 v2 v3 K KO33 n l4 l5 l6 σ → J x (wM b) (FinC x (wM b) (PV K) (0, 0)) 61 [(0, .ref (wB (wM b) + 347)), (1, .ref (wB (wM b) + v1)), (4, .int l4), (5, .int l5), (6, .int l6)] [] (0, 0) σ := by
  intro n
  induction n with
  | zero =>
    intro l4 l5 l6 σ  h
    exact False.elim h
  | succ n ih =>
    intro l4 l5 l6 σ  h
    unfold m_X5_spreads_l61 at h
    refine J_iload o 4 d_X5_spreads_61 rfl ?_
    refine J_sipush (v := 240) o d_X5_spreads_63 sipush_240 ?_
    refine J_icmp_ge o 178 d_X5_spreads_66 rfl (fun c66 => ?_) (fun c66 => ?_)
    · replace h := h.1 c66
      refine J_iinc (lv' := [(4, .int (l4 + 1)), (0, .ref (wB (wM b) + 347)), (1, .ref (wB (wM b) + v1)), (5, .int l5), (6, .int l6)]) o 2 d_X5_spreads_178 (by decide) rfl iconst_1 rfl ?_
      refine J_goto o 33 d_X5_spreads_181 rfl ?_
      refine J_sub [1, 2, 0] rfl ?_
      exact hKO33 (l4 + 1) σ  h
    · replace h := h.2 c66
      refine J_aload_n o 1 d_X5_spreads_69 rfl ?_
      refine J_iload o 2 d_X5_spreads_70 rfl ?_
      have b72 := h.1
      replace h := h.2
      refine J_aald (t := (v1 + 1 + l4.toNatClampNeg)) o 2 (by decide) (G_k hv1) (G_lo hv1) (G_hi hv1) (vpc (G_l hv1) b72) (G_t hv1 _) d_X5_spreads_72 ?_
      refine J_iload o 4 d_X5_spreads_73 rfl ?_
      have b75 := h.1
      replace h := h.2
      refine J_iald o (G_A hv1 b72) (vpc (G_L hv1 b72) b75) d_X5_spreads_75 ?_
      refine J_ldcw o d_X5_spreads_76 ci_RX5_272 ?_
      refine J_icmp_ne o 85 d_X5_spreads_79 rfl (fun c79 => ?_) (fun c79 => ?_)
      · replace h := h.1 c79
        refine J_iconst (v := 0) o d_X5_spreads_85 iconst_0 ?_
        refine J_istore (lv' := [(7, .int 0), (0, .ref (wB (wM b) + 347)), (1, .ref (wB (wM b) + v1)), (4, .int l4), (5, .int l5), (6, .int l6)]) o d_X5_spreads_86 (by decide) rfl ?_
        refine J_sub [1, 2, 3, 4, 5, 0] rfl ?_
        obtain ⟨n9, h⟩ := h
        exact c_X5_spreads_88 o hv1 hKO33 ih n9 l4 l5 l6 0 σ  h
      · replace h := h.2 c79
        refine J_goto o 172 d_X5_spreads_82 rfl ?_
        refine J_iinc (lv' := [(6, .int (l6 + 1)), (0, .ref (wB (wM b) + 347)), (1, .ref (wB (wM b) + v1)), (4, .int l4), (5, .int l5)]) o 4 d_X5_spreads_172 (by decide) rfl iconst_1 rfl ?_
        refine J_goto o 61 d_X5_spreads_175 rfl ?_
        refine J_sub [1, 2, 3, 4, 0] rfl ?_
        exact ih l4 l5 (l6 + 1) σ  h
set_option maxHeartbeats 4000000 in
set_option maxRecDepth 20000 in
theorem c_X5_spreads_33 {x : Cx} {b : Wy} (o : Ok x (wM b) cX5_spreads 9 RX5 none rm_X5_spreads) {v1 : Nat} {v2 : Int32} {v3 : Int32} {K : Sg → Prop}  (hv1 : IsG v1) : ∀ (n : Nat) (l4 : Int32) (σ : Sg), m_X5_spreads_l33 v1 v2 v3 K  n l4 σ → J x (wM b) (FinC x (wM b) (PV K) (0, 0)) 33 [(0, .ref (wB (wM b) + 347)), (1, .ref (wB (wM b) + v1)), (4, .int l4)] [] (0, 0) σ := by
  intro n
  induction n with
  | zero =>
    intro l4 σ  h
    exact False.elim h
  | succ n ih =>
    intro l4 σ  h
    unfold m_X5_spreads_l33 at h
    refine J_iload o 2 d_X5_spreads_33 rfl ?_
    refine J_bipush (v := 60) o d_X5_spreads_35 bipush_60 ?_
    refine J_icmp_ge o 184 d_X5_spreads_37 rfl (fun c37 => ?_) (fun c37 => ?_)
    · replace h := h.1 c37
      exact J_vret o d_X5_spreads_184 ⟨rfl, h⟩
    · replace h := h.2 c37
      refine J_aload_n o 0 d_X5_spreads_40 rfl ?_
      refine J_getR (t := 350) o fl_RX5_20 rfl (Nat.le_of_ble_eq_true rfl) (Nat.le_of_ble_eq_true rfl) rfl rfl d_X5_spreads_41 ?_
      refine J_aload_n o 0 d_X5_spreads_44 rfl ?_
      refine J_getR (t := 350) o fl_RX5_20 rfl (Nat.le_of_ble_eq_true rfl) (Nat.le_of_ble_eq_true rfl) rfl rfl d_X5_spreads_45 ?_
      refine J_iconst (v := 2) o d_X5_spreads_48 iconst_2 ?_
      have b49 := h.1
      replace h := h.2
      refine J_iald o A_350 (vpc (rfl : ln 350 = 1098) b49) d_X5_spreads_49 ?_
      refine J_iload o 2 d_X5_spreads_50 rfl ?_
      refine J_iadd o d_X5_spreads_52 ?_
      refine J_callS o [.ref (wB (wM b) + 350), .int ((σ 350 (2 : Int32).toNatClampNeg) + l4)] mth_X5_windOf st_X5_windOf ml_RX5_82 ⟨Nat.le_of_ble_eq_true rfl, Nat.le_of_ble_eq_true rfl⟩ rfl rfl (Nat.le_of_ble_eq_true rfl) ⟨Nat.le_refl _, Nat.le_refl _⟩ d_X5_spreads_53 (w_X5_windOf (xL x) b A_350 h) (aI (fun r53 s53 h => ?_))
      refine J_istore (lv' := [(5, .int r53), (0, .ref (wB (wM b) + 347)), (1, .ref (wB (wM b) + v1)), (4, .int l4)]) o d_X5_spreads_56 (by decide) rfl ?_
      refine J_iconst (v := 0) o d_X5_spreads_58 iconst_0 ?_
      refine J_istore (lv' := [(6, .int 0), (5, .int r53), (0, .ref (wB (wM b) + 347)), (1, .ref (wB (wM b) + v1)), (4, .int l4)]) o d_X5_spreads_59 (by decide) rfl ?_
      refine J_sub [2, 3, 4, 1, 0] rfl ?_
      obtain ⟨n9, h⟩ := h
      exact c_X5_spreads_61 o hv1 ih n9 l4 r53 0 s53  h
set_option maxHeartbeats 4000000 in
set_option maxRecDepth 20000 in
theorem c_X5_spreads_3 {x : Cx} {b : Wy} (o : Ok x (wM b) cX5_spreads 9 RX5 none rm_X5_spreads) {v1 : Nat} {v2 : Int32} {v3 : Int32} {K : Sg → Prop}  (hv1 : IsG v1) : ∀ (n : Nat) (l4 : Int32) (σ : Sg), m_X5_spreads_l3 v1 v2 v3 K  n l4 σ → J x (wM b) (FinC x (wM b) (PV K) (0, 0)) 3 [(0, .ref (wB (wM b) + 347)), (1, .ref (wB (wM b) + v1)), (2, .int v2), (3, .int v3), (4, .int l4)] [] (0, 0) σ := by
  intro n
  induction n with
  | zero =>
    intro l4 σ  h
    exact False.elim h
  | succ n ih =>
    intro l4 σ  h
    unfold m_X5_spreads_l3 at h
    refine J_iload o 4 d_X5_spreads_3 rfl ?_
    refine J_bipush (v := 60) o d_X5_spreads_5 bipush_60 ?_
    refine J_icmp_gt o 24 d_X5_spreads_7 rfl (fun c7 => ?_) (fun c7 => ?_)
    · replace h := h.1 c7
      refine J_aload_n o 1 d_X5_spreads_24 rfl ?_
      refine J_iload_n o 2 d_X5_spreads_25 rfl ?_
      have b26 := h.1
      replace h := h.2
      refine J_aald (t := (v1 + 1 + v2.toNatClampNeg)) o 2 (by decide) (G_k hv1) (G_lo hv1) (G_hi hv1) (vpc (G_l hv1) b26) (G_t hv1 _) d_X5_spreads_26 ?_
      refine J_iload_n o 3 d_X5_spreads_27 rfl ?_
      refine J_iconst (v := 0) o d_X5_spreads_28 iconst_0 ?_
      have b29 := h.1
      replace h := h.2
      refine J_iast o (G_A hv1 b26) (vpc (G_L hv1 b26) b29) d_X5_spreads_29 ?_
      refine J_nS (fun s29 es29 => ?_)
      replace h := h s29 es29
      refine J_iload_n o 2 d_X5_spreads_30 rfl ?_
      refine J_istore (lv' := [(4, .int v2), (0, .ref (wB (wM b) + 347)), (1, .ref (wB (wM b) + v1)), (2, .int v2), (3, .int v3)]) o d_X5_spreads_31 (by decide) rfl ?_
      refine J_sub [1, 2, 0] rfl ?_
      obtain ⟨n9, h⟩ := h
      exact c_X5_spreads_33 o hv1  n9 v2 s29  h
    · replace h := h.2 c7
      refine J_aload_n o 0 d_X5_spreads_10 rfl ?_
      refine J_aload_n o 1 d_X5_spreads_11 rfl ?_
      refine J_iload o 4 d_X5_spreads_12 rfl ?_
      have b14 := h.1
      replace h := h.2
      refine J_aald (t := (v1 + 1 + l4.toNatClampNeg)) o 2 (by decide) (G_k hv1) (G_lo hv1) (G_hi hv1) (vpc (G_l hv1) b14) (G_t hv1 _) d_X5_spreads_14 ?_
      refine J_callV (k := 347) (c := 5) o [.ref (wB (wM b) + (v1 + 1 + l4.toNatClampNeg))] rfl (by decide) (Nat.le_of_ble_eq_true rfl) (Nat.le_of_ble_eq_true rfl) mth_X5_empties iv_X5_empties ml_RX5_273 ⟨Nat.le_of_ble_eq_true rfl, Nat.le_of_ble_eq_true rfl⟩ rfl rfl (Nat.le_of_ble_eq_true rfl) ⟨Nat.le_refl _, Nat.le_refl _⟩ d_X5_spreads_15 (w_X5_empties (xL x) b (G_A hv1 b14) h) (aV (fun s15 h => ?_))
      refine J_iinc (lv' := [(4, .int (l4 + 1)), (0, .ref (wB (wM b) + 347)), (1, .ref (wB (wM b) + v1)), (2, .int v2), (3, .int v3)]) o 4 d_X5_spreads_18 (by decide) rfl iconst_1 rfl ?_
      refine J_goto o 3 d_X5_spreads_21 rfl ?_
      refine J_sub [1, 2, 3, 4, 0] rfl ?_
      exact ih (l4 + 1) s15  h
set_option maxHeartbeats 4000000 in
set_option maxRecDepth 20000 in
theorem w_X5_spreads (l : Launch) (b : Wy) {v1 : Nat} {v2 : Int32} {v3 : Int32} {σ : Sg} {K : Sg → Prop} (hv1 : IsG v1) (h : m_X5_spreads v1 v2 v3 σ K) : Ct l (wM b) yX5_spreads cX5_spreads 9 none rm_X5_spreads [.ref (wB (wM b) + 347), .ref (wB (wM b) + v1), .int v2, .int v3] σ (PV K) := by
  unfold m_X5_spreads at h
  refine Ct.of (own := RX5) (by decide +kernel) rfl (Nat.le_of_ble_eq_true rfl) (fun x hx o => ?_)
  subst hx
  show J x (wM b) (FinC x (wM b) (PV K) (0, 0)) 0 [(0, .ref (wB (wM b) + 347)), (1, .ref (wB (wM b) + v1)), (2, .int v2), (3, .int v3)] [] (0, 0) σ
  refine J_iconst (v := 0) o d_X5_spreads_0 iconst_0 ?_
  refine J_istore (lv' := [(4, .int 0), (0, .ref (wB (wM b) + 347)), (1, .ref (wB (wM b) + v1)), (2, .int v2), (3, .int v3)]) o d_X5_spreads_1 (by decide) rfl ?_
  refine J_sub [1, 2, 3, 4, 0] rfl ?_
  obtain ⟨n9, h⟩ := h
  exact c_X5_spreads_3 o hv1  n9 0 σ  h
theorem d_X5_earliest_0 : decode cX5_earliest 0 = .ok (.aload_n 0, 1) := by decide +kernel
theorem d_X5_earliest_1 : decode cX5_earliest 1 = .ok (.invokevirtual 269, 3) := by decide +kernel
theorem d_X5_earliest_4 : decode cX5_earliest 4 = .ok (.aload_n 0, 1) := by decide +kernel
theorem d_X5_earliest_5 : decode cX5_earliest 5 = .ok (.aload_n 0, 1) := by decide +kernel
theorem d_X5_earliest_6 : decode cX5_earliest 6 = .ok (.getfield 37, 3) := by decide +kernel
theorem d_X5_earliest_9 : decode cX5_earliest 9 = .ok (.iconst 0, 1) := by decide +kernel
theorem d_X5_earliest_10 : decode cX5_earliest 10 = .ok (.aload_n 0, 1) := by decide +kernel
theorem d_X5_earliest_11 : decode cX5_earliest 11 = .ok (.iload_n 1, 1) := by decide +kernel
theorem d_X5_earliest_12 : decode cX5_earliest 12 = .ok (.invokevirtual 238, 3) := by decide +kernel
theorem d_X5_earliest_15 : decode cX5_earliest 15 = .ok (.invokevirtual 276, 3) := by decide +kernel
theorem d_X5_earliest_18 : decode cX5_earliest 18 = .ok (.iconst 0, 1) := by decide +kernel
theorem d_X5_earliest_19 : decode cX5_earliest 19 = .ok (.istore_n 2, 1) := by decide +kernel
theorem d_X5_earliest_20 : decode cX5_earliest 20 = .ok (.iload_n 2, 1) := by decide +kernel
theorem d_X5_earliest_21 : decode cX5_earliest 21 = .ok (.bipush 60, 2) := by decide +kernel
theorem d_X5_earliest_23 : decode cX5_earliest 23 = .ok (.if_icmp .gt 32, 3) := by decide +kernel
theorem d_X5_earliest_26 : decode cX5_earliest 26 = .ok (.aload_n 0, 1) := by decide +kernel
theorem d_X5_earliest_27 : decode cX5_earliest 27 = .ok (.getfield 37, 3) := by decide +kernel
theorem d_X5_earliest_30 : decode cX5_earliest 30 = .ok (.iload_n 2, 1) := by decide +kernel
theorem d_X5_earliest_31 : decode cX5_earliest 31 = .ok (.aaload, 1) := by decide +kernel
theorem d_X5_earliest_32 : decode cX5_earliest 32 = .ok (.aload_n 0, 1) := by decide +kernel
theorem d_X5_earliest_33 : decode cX5_earliest 33 = .ok (.getfield 31, 3) := by decide +kernel
theorem d_X5_earliest_36 : decode cX5_earliest 36 = .ok (.iload_n 2, 1) := by decide +kernel
theorem d_X5_earliest_37 : decode cX5_earliest 37 = .ok (.iaload, 1) := by decide +kernel
theorem d_X5_earliest_38 : decode cX5_earliest 38 = .ok (.iaload, 1) := by decide +kernel
theorem d_X5_earliest_39 : decode cX5_earliest 39 = .ok (.aload_n 0, 1) := by decide +kernel
theorem d_X5_earliest_40 : decode cX5_earliest 40 = .ok (.iload_n 1, 1) := by decide +kernel
theorem d_X5_earliest_41 : decode cX5_earliest 41 = .ok (.invokevirtual 244, 3) := by decide +kernel
theorem d_X5_earliest_44 : decode cX5_earliest 44 = .ok (.if_icmp .gt 5, 3) := by decide +kernel
theorem d_X5_earliest_47 : decode cX5_earliest 47 = .ok (.iload_n 2, 1) := by decide +kernel
theorem d_X5_earliest_48 : decode cX5_earliest 48 = .ok (.ireturn, 1) := by decide +kernel
theorem d_X5_earliest_49 : decode cX5_earliest 49 = .ok (.iinc 2 1, 3) := by decide +kernel
theorem d_X5_earliest_52 : decode cX5_earliest 52 = .ok (.goto (-32), 3) := by decide +kernel
theorem d_X5_earliest_55 : decode cX5_earliest 55 = .ok (.iconst (-1), 1) := by decide +kernel
theorem d_X5_earliest_56 : decode cX5_earliest 56 = .ok (.ireturn, 1) := by decide +kernel
abbrev rm_X5_earliest : Room := { frames := 6, cells := 0, slots := 0, locals := 141 }
set_option maxHeartbeats 4000000 in
set_option maxRecDepth 20000 in
theorem c_X5_earliest_20 {x : Cx} {b : Wy} (o : Ok x (wM b) cX5_earliest 3 RX5 (some .int) rm_X5_earliest) {v1 : Int32} {K : Int32 → Sg → Prop}   : ∀ (n : Nat) (l2 : Int32) (σ : Sg), m_X5_earliest_l20 v1 K  n l2 σ → J x (wM b) (FinC x (wM b) (PI K) (0, 0)) 20 [(0, .ref (wB (wM b) + 347)), (1, .int v1), (2, .int l2)] [] (0, 0) σ := by
  intro n
  induction n with
  | zero =>
    intro l2 σ  h
    exact False.elim h
  | succ n ih =>
    intro l2 σ  h
    unfold m_X5_earliest_l20 at h
    refine J_iload_n o 2 d_X5_earliest_20 rfl ?_
    refine J_bipush (v := 60) o d_X5_earliest_21 bipush_60 ?_
    refine J_icmp_gt o 55 d_X5_earliest_23 rfl (fun c23 => ?_) (fun c23 => ?_)
    · replace h := h.1 c23
      refine J_iconst (v := (-1)) o d_X5_earliest_55 iconst_m1 ?_
      exact J_iret o d_X5_earliest_56 ⟨_, rfl, h⟩
    · replace h := h.2 c23
      refine J_aload_n o 0 d_X5_earliest_26 rfl ?_
      refine J_getR (t := 363) o fl_RX5_37 rfl (Nat.le_of_ble_eq_true rfl) (Nat.le_of_ble_eq_true rfl) rfl rfl d_X5_earliest_27 ?_
      refine J_iload_n o 2 d_X5_earliest_30 rfl ?_
      have b31 := h.1
      replace h := h.2
      refine J_aald (t := (363 + 1 + l2.toNatClampNeg)) o 2 (by decide) (G_k G_363) (G_lo G_363) (G_hi G_363) (vpc (G_l G_363) b31) (G_t G_363 _) d_X5_earliest_31 ?_
      refine J_aload_n o 0 d_X5_earliest_32 rfl ?_
      refine J_getR (t := 361) o fl_RX5_31 rfl (Nat.le_of_ble_eq_true rfl) (Nat.le_of_ble_eq_true rfl) rfl rfl d_X5_earliest_33 ?_
      refine J_iload_n o 2 d_X5_earliest_36 rfl ?_
      have b37 := h.1
      replace h := h.2
      refine J_iald o A_361 (vpc (rfl : ln 361 = 61) b37) d_X5_earliest_37 ?_
      have b38 := h.1
      replace h := h.2
      refine J_iald o (G_A G_363 b31) (vpc (G_L G_363 b31) b38) d_X5_earliest_38 ?_
      refine J_aload_n o 0 d_X5_earliest_39 rfl ?_
      refine J_iload_n o 1 d_X5_earliest_40 rfl ?_
      refine J_callV (k := 347) (c := 5) o [.int v1] rfl (by decide) (Nat.le_of_ble_eq_true rfl) (Nat.le_of_ble_eq_true rfl) mth_X5_fuelOf iv_X5_fuelOf ml_RX5_244 ⟨Nat.le_of_ble_eq_true rfl, Nat.le_of_ble_eq_true rfl⟩ rfl rfl (Nat.le_of_ble_eq_true rfl) ⟨Nat.le_refl _, Nat.le_refl _⟩ d_X5_earliest_41 (w_X5_fuelOf (xL x) b  h) (aI (fun r41 s41 h => ?_))
      refine J_icmp_gt o 49 d_X5_earliest_44 rfl (fun c44 => ?_) (fun c44 => ?_)
      · replace h := h.1 c44
        refine J_iinc (lv' := [(2, .int (l2 + 1)), (0, .ref (wB (wM b) + 347)), (1, .int v1)]) o 2 d_X5_earliest_49 (by decide) rfl iconst_1 rfl ?_
        refine J_goto o 20 d_X5_earliest_52 rfl ?_
        refine J_sub [1, 2, 0] rfl ?_
        exact ih (l2 + 1) s41  h
      · replace h := h.2 c44
        refine J_iload_n o 2 d_X5_earliest_47 rfl ?_
        exact J_iret o d_X5_earliest_48 ⟨_, rfl, h⟩
set_option maxHeartbeats 4000000 in
set_option maxRecDepth 20000 in
theorem w_X5_earliest (l : Launch) (b : Wy) {v1 : Int32} {σ : Sg} {K : Int32 → Sg → Prop}  (h : m_X5_earliest v1 σ K) : Ct l (wM b) yX5_earliest cX5_earliest 3 (some .int) rm_X5_earliest [.ref (wB (wM b) + 347), .int v1] σ (PI K) := by
  unfold m_X5_earliest at h
  refine Ct.of (own := RX5) (by decide +kernel) rfl (Nat.le_of_ble_eq_true rfl) (fun x hx o => ?_)
  subst hx
  show J x (wM b) (FinC x (wM b) (PI K) (0, 0)) 0 [(0, .ref (wB (wM b) + 347)), (1, .int v1)] [] (0, 0) σ
  refine J_aload_n o 0 d_X5_earliest_0 rfl ?_
  refine J_callV (k := 347) (c := 5) o [] rfl (by decide) (Nat.le_of_ble_eq_true rfl) (Nat.le_of_ble_eq_true rfl) mth_X5_looksAhead iv_X5_looksAhead ml_RX5_269 ⟨Nat.le_of_ble_eq_true rfl, Nat.le_of_ble_eq_true rfl⟩ rfl rfl (Nat.le_of_ble_eq_true rfl) ⟨Nat.le_refl _, Nat.le_refl _⟩ d_X5_earliest_1 (w_X5_looksAhead (xL x) b  h) (aV (fun s1 h => ?_))
  refine J_aload_n o 0 d_X5_earliest_4 rfl ?_
  refine J_aload_n o 0 d_X5_earliest_5 rfl ?_
  refine J_getR (t := 363) o fl_RX5_37 rfl (Nat.le_of_ble_eq_true rfl) (Nat.le_of_ble_eq_true rfl) rfl rfl d_X5_earliest_6 ?_
  refine J_iconst (v := 0) o d_X5_earliest_9 iconst_0 ?_
  refine J_aload_n o 0 d_X5_earliest_10 rfl ?_
  refine J_iload_n o 1 d_X5_earliest_11 rfl ?_
  refine J_callV (k := 347) (c := 5) o [.int v1] rfl (by decide) (Nat.le_of_ble_eq_true rfl) (Nat.le_of_ble_eq_true rfl) mth_X5_helperCell iv_X5_helperCell ml_RX5_238 ⟨Nat.le_of_ble_eq_true rfl, Nat.le_of_ble_eq_true rfl⟩ rfl rfl (Nat.le_of_ble_eq_true rfl) ⟨Nat.le_refl _, Nat.le_refl _⟩ d_X5_earliest_12 (w_X5_helperCell (xL x) b  h) (aI (fun r12 s12 h => ?_))
  refine J_callV (k := 347) (c := 5) o [.ref (wB (wM b) + 363), .int 0, .int r12] rfl (by decide) (Nat.le_of_ble_eq_true rfl) (Nat.le_of_ble_eq_true rfl) mth_X5_spreads iv_X5_spreads ml_RX5_276 ⟨Nat.le_of_ble_eq_true rfl, Nat.le_of_ble_eq_true rfl⟩ rfl rfl (Nat.le_of_ble_eq_true rfl) ⟨Nat.le_refl _, Nat.le_refl _⟩ d_X5_earliest_15 (w_X5_spreads (xL x) b G_363 h) (aV (fun s15 h => ?_))
  refine J_iconst (v := 0) o d_X5_earliest_18 iconst_0 ?_
  refine J_istore_n (lv' := [(2, .int 0), (0, .ref (wB (wM b) + 347)), (1, .int v1)]) o d_X5_earliest_19 (by decide) rfl ?_
  refine J_sub [1, 2, 0] rfl ?_
  obtain ⟨n9, h⟩ := h
  exact c_X5_earliest_20 o   n9 0 s15  h
theorem d_X5_meet_0 : decode cX5_meet 0 = .ok (.aload_n 0, 1) := by decide +kernel
theorem d_X5_meet_1 : decode cX5_meet 1 = .ok (.iconst 0, 1) := by decide +kernel
theorem d_X5_meet_2 : decode cX5_meet 2 = .ok (.putfield 50, 3) := by decide +kernel
theorem d_X5_meet_5 : decode cX5_meet 5 = .ok (.aload_n 0, 1) := by decide +kernel
theorem d_X5_meet_6 : decode cX5_meet 6 = .ok (.aload_n 0, 1) := by decide +kernel
theorem d_X5_meet_7 : decode cX5_meet 7 = .ok (.iload_n 1, 1) := by decide +kernel
theorem d_X5_meet_8 : decode cX5_meet 8 = .ok (.invokevirtual 235, 3) := by decide +kernel
theorem d_X5_meet_11 : decode cX5_meet 11 = .ok (.ifCond .ne 7, 3) := by decide +kernel
theorem d_X5_meet_14 : decode cX5_meet 14 = .ok (.iconst 1, 1) := by decide +kernel
theorem d_X5_meet_15 : decode cX5_meet 15 = .ok (.goto 4, 3) := by decide +kernel
theorem d_X5_meet_18 : decode cX5_meet 18 = .ok (.iconst 0, 1) := by decide +kernel
theorem d_X5_meet_19 : decode cX5_meet 19 = .ok (.iconst 1, 1) := by decide +kernel
theorem d_X5_meet_20 : decode cX5_meet 20 = .ok (.iconst 0, 1) := by decide +kernel
theorem d_X5_meet_21 : decode cX5_meet 21 = .ok (.invokevirtual 216, 3) := by decide +kernel
theorem d_X5_meet_24 : decode cX5_meet 24 = .ok (.ifCond .ne 26, 3) := by decide +kernel
theorem d_X5_meet_27 : decode cX5_meet 27 = .ok (.aload_n 0, 1) := by decide +kernel
theorem d_X5_meet_28 : decode cX5_meet 28 = .ok (.iload_n 2, 1) := by decide +kernel
theorem d_X5_meet_29 : decode cX5_meet 29 = .ok (.iconst 0, 1) := by decide +kernel
theorem d_X5_meet_30 : decode cX5_meet 30 = .ok (.iconst 1, 1) := by decide +kernel
theorem d_X5_meet_31 : decode cX5_meet 31 = .ok (.invokestatic 56, 3) := by decide +kernel
theorem d_X5_meet_34 : decode cX5_meet 34 = .ok (.ifCond .ne 7, 3) := by decide +kernel
theorem d_X5_meet_37 : decode cX5_meet 37 = .ok (.iconst 1, 1) := by decide +kernel
theorem d_X5_meet_38 : decode cX5_meet 38 = .ok (.goto 4, 3) := by decide +kernel
theorem d_X5_meet_41 : decode cX5_meet 41 = .ok (.iconst 0, 1) := by decide +kernel
theorem d_X5_meet_42 : decode cX5_meet 42 = .ok (.iconst 2, 1) := by decide +kernel
theorem d_X5_meet_43 : decode cX5_meet 43 = .ok (.iconst 1, 1) := by decide +kernel
theorem d_X5_meet_44 : decode cX5_meet 44 = .ok (.invokevirtual 216, 3) := by decide +kernel
theorem d_X5_meet_47 : decode cX5_meet 47 = .ok (.ifCond .eq 5, 3) := by decide +kernel
theorem d_X5_meet_50 : decode cX5_meet 50 = .ok (.iconst 0, 1) := by decide +kernel
theorem d_X5_meet_51 : decode cX5_meet 51 = .ok (.ireturn, 1) := by decide +kernel
theorem d_X5_meet_52 : decode cX5_meet 52 = .ok (.aload_n 0, 1) := by decide +kernel
theorem d_X5_meet_53 : decode cX5_meet 53 = .ok (.iload_n 1, 1) := by decide +kernel
theorem d_X5_meet_54 : decode cX5_meet 54 = .ok (.invokevirtual 280, 3) := by decide +kernel
theorem d_X5_meet_57 : decode cX5_meet 57 = .ok (.istore_n 3, 1) := by decide +kernel
theorem d_X5_meet_58 : decode cX5_meet 58 = .ok (.iload_n 3, 1) := by decide +kernel
theorem d_X5_meet_59 : decode cX5_meet 59 = .ok (.iconst (-1), 1) := by decide +kernel
theorem d_X5_meet_60 : decode cX5_meet 60 = .ok (.if_icmp .eq 7, 3) := by decide +kernel
theorem d_X5_meet_63 : decode cX5_meet 63 = .ok (.iload_n 2, 1) := by decide +kernel
theorem d_X5_meet_64 : decode cX5_meet 64 = .ok (.ifCond .ne 7, 3) := by decide +kernel
theorem d_X5_meet_67 : decode cX5_meet 67 = .ok (.iload_n 3, 1) := by decide +kernel
theorem d_X5_meet_68 : decode cX5_meet 68 = .ok (.goto 22, 3) := by decide +kernel
theorem d_X5_meet_71 : decode cX5_meet 71 = .ok (.aload_n 0, 1) := by decide +kernel
theorem d_X5_meet_72 : decode cX5_meet 72 = .ok (.iload_n 1, 1) := by decide +kernel
theorem d_X5_meet_73 : decode cX5_meet 73 = .ok (.invokevirtual 244, 3) := by decide +kernel
theorem d_X5_meet_76 : decode cX5_meet 76 = .ok (.aload_n 0, 1) := by decide +kernel
theorem d_X5_meet_77 : decode cX5_meet 77 = .ok (.getfield 37, 3) := by decide +kernel
theorem d_X5_meet_80 : decode cX5_meet 80 = .ok (.iload_n 3, 1) := by decide +kernel
theorem d_X5_meet_81 : decode cX5_meet 81 = .ok (.aaload, 1) := by decide +kernel
theorem d_X5_meet_82 : decode cX5_meet 82 = .ok (.aload_n 0, 1) := by decide +kernel
theorem d_X5_meet_83 : decode cX5_meet 83 = .ok (.getfield 31, 3) := by decide +kernel
theorem d_X5_meet_86 : decode cX5_meet 86 = .ok (.iload_n 3, 1) := by decide +kernel
theorem d_X5_meet_87 : decode cX5_meet 87 = .ok (.iaload, 1) := by decide +kernel
theorem d_X5_meet_88 : decode cX5_meet 88 = .ok (.iaload, 1) := by decide +kernel
theorem d_X5_meet_89 : decode cX5_meet 89 = .ok (.isub, 1) := by decide +kernel
theorem d_X5_meet_90 : decode cX5_meet 90 = .ok (.ireturn, 1) := by decide +kernel
abbrev rm_X5_meet : Room := { frames := 7, cells := 0, slots := 0, locals := 163 }
set_option maxHeartbeats 4000000 in
set_option maxRecDepth 20000 in
theorem c_X5_meet_42 {x : Cx} {b : Wy} (o : Ok x (wM b) cX5_meet 4 RX5 (some .int) rm_X5_meet) {v1 : Int32} {v2 : Int32} {K : Int32 → Sg → Prop}   : ∀ (k1 : Int32) (σ : Sg), m_X5_meet_j42 v1 v2 K  k1 σ → J x (wM b) (FinC x (wM b) (PI K) (0, 0)) 42 [(0, .ref (wB (wM b) + 347)), (1, .int v1), (2, .int v2)] [.int k1, .ref (wB (wM b) + 347)] (0, 0) σ := by
  intro k1 σ  h
  unfold m_X5_meet_j42 at h
  refine J_iconst (v := 2) o d_X5_meet_42 iconst_2 ?_
  refine J_iconst (v := 1) o d_X5_meet_43 iconst_1 ?_
  refine J_callV (k := 347) (c := 5) o [.int k1, .int 2, .int 1] rfl (by decide) (Nat.le_of_ble_eq_true rfl) (Nat.le_of_ble_eq_true rfl) mth_X5_bad iv_X5_bad ml_RX5_216 ⟨Nat.le_of_ble_eq_true rfl, Nat.le_of_ble_eq_true rfl⟩ rfl rfl (Nat.le_of_ble_eq_true rfl) ⟨Nat.le_refl _, Nat.le_refl _⟩ d_X5_meet_44 (w_X5_bad (xL x) b  h) (aZ (fun r44 s44 hzr44 h => ?_))
  refine J_if_eq o 52 d_X5_meet_47 rfl (fun c47 => ?_) (fun c47 => ?_)
  · replace h := h.1 c47
    refine J_aload_n o 0 d_X5_meet_52 rfl ?_
    refine J_iload_n o 1 d_X5_meet_53 rfl ?_
    refine J_callV (k := 347) (c := 5) o [.int v1] rfl (by decide) (Nat.le_of_ble_eq_true rfl) (Nat.le_of_ble_eq_true rfl) mth_X5_earliest iv_X5_earliest ml_RX5_280 ⟨Nat.le_of_ble_eq_true rfl, Nat.le_of_ble_eq_true rfl⟩ rfl rfl (Nat.le_of_ble_eq_true rfl) ⟨Nat.le_refl _, Nat.le_refl _⟩ d_X5_meet_54 (w_X5_earliest (xL x) b  h) (aI (fun r54 s54 h => ?_))
    refine J_istore_n (lv' := [(3, .int r54), (0, .ref (wB (wM b) + 347)), (1, .int v1), (2, .int v2)]) o d_X5_meet_57 (by decide) rfl ?_
    refine J_iload_n o 0 d_X5_meet_58 rfl ?_
    refine J_iconst (v := (-1)) o d_X5_meet_59 iconst_m1 ?_
    refine J_icmp_eq o 67 d_X5_meet_60 rfl (fun c60 => ?_) (fun c60 => ?_)
    · replace h := h.1 c60
      refine J_iload_n o 0 d_X5_meet_67 rfl ?_
      refine J_goto o 90 d_X5_meet_68 rfl ?_
      exact J_iret o d_X5_meet_90 ⟨_, rfl, h⟩
    · replace h := h.2 c60
      refine J_iload_n o 3 d_X5_meet_63 rfl ?_
      refine J_if_ne o 71 d_X5_meet_64 rfl (fun c64 => ?_) (fun c64 => ?_)
      · replace h := h.1 c64
        refine J_aload_n o 1 d_X5_meet_71 rfl ?_
        refine J_iload_n o 2 d_X5_meet_72 rfl ?_
        refine J_callV (k := 347) (c := 5) o [.int v1] rfl (by decide) (Nat.le_of_ble_eq_true rfl) (Nat.le_of_ble_eq_true rfl) mth_X5_fuelOf iv_X5_fuelOf ml_RX5_244 ⟨Nat.le_of_ble_eq_true rfl, Nat.le_of_ble_eq_true rfl⟩ rfl rfl (Nat.le_of_ble_eq_true rfl) ⟨Nat.le_refl _, Nat.le_refl _⟩ d_X5_meet_73 (w_X5_fuelOf (xL x) b  h) (aI (fun r73 s73 h => ?_))
        refine J_aload_n o 1 d_X5_meet_76 rfl ?_
        refine J_getR (t := 363) o fl_RX5_37 rfl (Nat.le_of_ble_eq_true rfl) (Nat.le_of_ble_eq_true rfl) rfl rfl d_X5_meet_77 ?_
        refine J_iload_n o 0 d_X5_meet_80 rfl ?_
        have b81 := h.1
        replace h := h.2
        refine J_aald (t := (363 + 1 + r54.toNatClampNeg)) o 2 (by decide) (G_k G_363) (G_lo G_363) (G_hi G_363) (vpc (G_l G_363) b81) (G_t G_363 _) d_X5_meet_81 ?_
        refine J_aload_n o 1 d_X5_meet_82 rfl ?_
        refine J_getR (t := 361) o fl_RX5_31 rfl (Nat.le_of_ble_eq_true rfl) (Nat.le_of_ble_eq_true rfl) rfl rfl d_X5_meet_83 ?_
        refine J_iload_n o 0 d_X5_meet_86 rfl ?_
        have b87 := h.1
        replace h := h.2
        refine J_iald o A_361 (vpc (rfl : ln 361 = 61) b87) d_X5_meet_87 ?_
        have b88 := h.1
        replace h := h.2
        refine J_iald o (G_A G_363 b81) (vpc (G_L G_363 b81) b88) d_X5_meet_88 ?_
        refine J_isub o d_X5_meet_89 ?_
        exact J_iret o d_X5_meet_90 ⟨_, rfl, h⟩
      · replace h := h.2 c64
        refine J_iload_n o 0 d_X5_meet_67 rfl ?_
        refine J_goto o 90 d_X5_meet_68 rfl ?_
        exact J_iret o d_X5_meet_90 ⟨_, rfl, h⟩
  · replace h := h.2 c47
    refine J_iconst (v := 0) o d_X5_meet_50 iconst_0 ?_
    exact J_iret o d_X5_meet_51 ⟨_, rfl, h⟩
set_option maxHeartbeats 4000000 in
set_option maxRecDepth 20000 in
theorem c_X5_meet_19 {x : Cx} {b : Wy} (o : Ok x (wM b) cX5_meet 4 RX5 (some .int) rm_X5_meet) {v1 : Int32} {v2 : Int32} {K : Int32 → Sg → Prop}   : ∀ (k1 : Int32) (σ : Sg), m_X5_meet_j19 v1 v2 K  k1 σ → J x (wM b) (FinC x (wM b) (PI K) (0, 0)) 19 [(0, .ref (wB (wM b) + 347)), (1, .int v1), (2, .int v2)] [.int k1, .ref (wB (wM b) + 347)] (0, 0) σ := by
  intro k1 σ  h
  unfold m_X5_meet_j19 at h
  refine J_iconst (v := 1) o d_X5_meet_19 iconst_1 ?_
  refine J_iconst (v := 0) o d_X5_meet_20 iconst_0 ?_
  refine J_callV (k := 347) (c := 5) o [.int k1, .int 1, .int 0] rfl (by decide) (Nat.le_of_ble_eq_true rfl) (Nat.le_of_ble_eq_true rfl) mth_X5_bad iv_X5_bad ml_RX5_216 ⟨Nat.le_of_ble_eq_true rfl, Nat.le_of_ble_eq_true rfl⟩ rfl rfl (Nat.le_of_ble_eq_true rfl) ⟨Nat.le_refl _, Nat.le_refl _⟩ d_X5_meet_21 (w_X5_bad (xL x) b  h) (aZ (fun r21 s21 hzr21 h => ?_))
  refine J_if_ne o 50 d_X5_meet_24 rfl (fun c24 => ?_) (fun c24 => ?_)
  · replace h := h.1 c24
    refine J_iconst (v := 0) o d_X5_meet_50 iconst_0 ?_
    exact J_iret o d_X5_meet_51 ⟨_, rfl, h⟩
  · replace h := h.2 c24
    refine J_aload_n o 0 d_X5_meet_27 rfl ?_
    refine J_iload_n o 2 d_X5_meet_28 rfl ?_
    refine J_iconst (v := 0) o d_X5_meet_29 iconst_0 ?_
    refine J_iconst (v := 1) o d_X5_meet_30 iconst_1 ?_
    refine J_callS o [.int v2, .int 0, .int 1] mth_X5_in st_X5_in ml_RX5_56 ⟨Nat.le_of_ble_eq_true rfl, Nat.le_of_ble_eq_true rfl⟩ rfl rfl (Nat.le_of_ble_eq_true rfl) ⟨Nat.le_refl _, Nat.le_refl _⟩ d_X5_meet_31 (w_X5_in (xL x) b  h) (aZ (fun r31 s31 hzr31 h => ?_))
    refine J_if_ne o 41 d_X5_meet_34 rfl (fun c34 => ?_) (fun c34 => ?_)
    · replace h := h.1 c34
      refine J_iconst (v := 0) o d_X5_meet_41 iconst_0 ?_
      exact c_X5_meet_42 o   0 s31  h
    · replace h := h.2 c34
      refine J_iconst (v := 1) o d_X5_meet_37 iconst_1 ?_
      refine J_goto o 42 d_X5_meet_38 rfl ?_
      exact c_X5_meet_42 o   1 s31  h
set_option maxHeartbeats 4000000 in
set_option maxRecDepth 20000 in
theorem w_X5_meet (l : Launch) (b : Wy) {v1 : Int32} {v2 : Int32} {σ : Sg} {K : Int32 → Sg → Prop}  (h : m_X5_meet v1 v2 σ K) : Ct l (wM b) yX5_meet cX5_meet 4 (some .int) rm_X5_meet [.ref (wB (wM b) + 347), .int v1, .int v2] σ (PI K) := by
  unfold m_X5_meet at h
  refine Ct.of (own := RX5) (by decide +kernel) rfl (Nat.le_of_ble_eq_true rfl) (fun x hx o => ?_)
  subst hx
  show J x (wM b) (FinC x (wM b) (PI K) (0, 0)) 0 [(0, .ref (wB (wM b) + 347)), (1, .int v1), (2, .int v2)] [] (0, 0) σ
  refine J_aload_n o 0 d_X5_meet_0 rfl ?_
  refine J_iconst (v := 0) o d_X5_meet_1 iconst_0 ?_
  refine J_put o fl_RX5_50 la_5 rfl (Nat.le_of_ble_eq_true rfl) (Nat.le_of_ble_eq_true rfl) rfl rfl rfl rfl d_X5_meet_2 ?_
  refine J_nS (fun s2 es2 => ?_)
  replace h := h s2 es2
  refine J_aload_n o 0 d_X5_meet_5 rfl ?_
  refine J_aload_n o 0 d_X5_meet_6 rfl ?_
  refine J_iload_n o 1 d_X5_meet_7 rfl ?_
  refine J_callV (k := 347) (c := 5) o [.int v1] rfl (by decide) (Nat.le_of_ble_eq_true rfl) (Nat.le_of_ble_eq_true rfl) mth_X5_isHelper iv_X5_isHelper ml_RX5_235 ⟨Nat.le_of_ble_eq_true rfl, Nat.le_of_ble_eq_true rfl⟩ rfl rfl (Nat.le_of_ble_eq_true rfl) ⟨Nat.le_refl _, Nat.le_refl _⟩ d_X5_meet_8 (w_X5_isHelper (xL x) b  h) (aZ (fun r8 s8 hzr8 h => ?_))
  refine J_if_ne o 18 d_X5_meet_11 rfl (fun c11 => ?_) (fun c11 => ?_)
  · replace h := h.1 c11
    refine J_iconst (v := 0) o d_X5_meet_18 iconst_0 ?_
    exact c_X5_meet_19 o   0 s8  h
  · replace h := h.2 c11
    refine J_iconst (v := 1) o d_X5_meet_14 iconst_1 ?_
    refine J_goto o 19 d_X5_meet_15 rfl ?_
    exact c_X5_meet_19 o   1 s8  h
theorem d_X5_leads_0 : decode cX5_leads 0 = .ok (.aload_n 0, 1) := by decide +kernel
theorem d_X5_leads_1 : decode cX5_leads 1 = .ok (.aload_n 0, 1) := by decide +kernel
theorem d_X5_leads_2 : decode cX5_leads 2 = .ok (.getfield 43, 3) := by decide +kernel
theorem d_X5_leads_5 : decode cX5_leads 5 = .ok (.iload_n 1, 1) := by decide +kernel
theorem d_X5_leads_6 : decode cX5_leads 6 = .ok (.aaload, 1) := by decide +kernel
theorem d_X5_leads_7 : decode cX5_leads 7 = .ok (.invokevirtual 273, 3) := by decide +kernel
theorem d_X5_leads_10 : decode cX5_leads 10 = .ok (.aload_n 0, 1) := by decide +kernel
theorem d_X5_leads_11 : decode cX5_leads 11 = .ok (.getfield 43, 3) := by decide +kernel
theorem d_X5_leads_14 : decode cX5_leads 14 = .ok (.iload_n 1, 1) := by decide +kernel
theorem d_X5_leads_15 : decode cX5_leads 15 = .ok (.aaload, 1) := by decide +kernel
theorem d_X5_leads_16 : decode cX5_leads 16 = .ok (.iload_n 2, 1) := by decide +kernel
theorem d_X5_leads_17 : decode cX5_leads 17 = .ok (.iconst 0, 1) := by decide +kernel
theorem d_X5_leads_18 : decode cX5_leads 18 = .ok (.iastore, 1) := by decide +kernel
theorem d_X5_leads_19 : decode cX5_leads 19 = .ok (.iload_n 1, 1) := by decide +kernel
theorem d_X5_leads_20 : decode cX5_leads 20 = .ok (.iconst 1, 1) := by decide +kernel
theorem d_X5_leads_21 : decode cX5_leads 21 = .ok (.isub, 1) := by decide +kernel
theorem d_X5_leads_22 : decode cX5_leads 22 = .ok (.istore_n 3, 1) := by decide +kernel
theorem d_X5_leads_23 : decode cX5_leads 23 = .ok (.iload_n 3, 1) := by decide +kernel
theorem d_X5_leads_24 : decode cX5_leads 24 = .ok (.ifCond .lt 178, 3) := by decide +kernel
theorem d_X5_leads_27 : decode cX5_leads 27 = .ok (.aload_n 0, 1) := by decide +kernel
theorem d_X5_leads_28 : decode cX5_leads 28 = .ok (.getfield 20, 3) := by decide +kernel
theorem d_X5_leads_31 : decode cX5_leads 31 = .ok (.aload_n 0, 1) := by decide +kernel
theorem d_X5_leads_32 : decode cX5_leads 32 = .ok (.getfield 20, 3) := by decide +kernel
theorem d_X5_leads_35 : decode cX5_leads 35 = .ok (.iconst 2, 1) := by decide +kernel
theorem d_X5_leads_36 : decode cX5_leads 36 = .ok (.iaload, 1) := by decide +kernel
theorem d_X5_leads_37 : decode cX5_leads 37 = .ok (.iload_n 3, 1) := by decide +kernel
theorem d_X5_leads_38 : decode cX5_leads 38 = .ok (.iadd, 1) := by decide +kernel
theorem d_X5_leads_39 : decode cX5_leads 39 = .ok (.invokestatic 82, 3) := by decide +kernel
theorem d_X5_leads_42 : decode cX5_leads 42 = .ok (.istore 4, 2) := by decide +kernel
theorem d_X5_leads_44 : decode cX5_leads 44 = .ok (.aload_n 0, 1) := by decide +kernel
theorem d_X5_leads_45 : decode cX5_leads 45 = .ok (.aload_n 0, 1) := by decide +kernel
theorem d_X5_leads_46 : decode cX5_leads 46 = .ok (.getfield 43, 3) := by decide +kernel
theorem d_X5_leads_49 : decode cX5_leads 49 = .ok (.iload_n 3, 1) := by decide +kernel
theorem d_X5_leads_50 : decode cX5_leads 50 = .ok (.aaload, 1) := by decide +kernel
theorem d_X5_leads_51 : decode cX5_leads 51 = .ok (.invokevirtual 273, 3) := by decide +kernel
theorem d_X5_leads_54 : decode cX5_leads 54 = .ok (.iconst 0, 1) := by decide +kernel
theorem d_X5_leads_55 : decode cX5_leads 55 = .ok (.istore 5, 2) := by decide +kernel
theorem d_X5_leads_57 : decode cX5_leads 57 = .ok (.iload 5, 2) := by decide +kernel
theorem d_X5_leads_59 : decode cX5_leads 59 = .ok (.sipush 240, 3) := by decide +kernel
theorem d_X5_leads_62 : decode cX5_leads 62 = .ok (.if_icmp .ge 134, 3) := by decide +kernel
theorem d_X5_leads_65 : decode cX5_leads 65 = .ok (.aload_n 0, 1) := by decide +kernel
theorem d_X5_leads_66 : decode cX5_leads 66 = .ok (.getfield 20, 3) := by decide +kernel
theorem d_X5_leads_69 : decode cX5_leads 69 = .ok (.iload 5, 2) := by decide +kernel
theorem d_X5_leads_71 : decode cX5_leads 71 = .ok (.bipush 20, 2) := by decide +kernel
theorem d_X5_leads_73 : decode cX5_leads 73 = .ok (.irem, 1) := by decide +kernel
theorem d_X5_leads_74 : decode cX5_leads 74 = .ok (.iload 5, 2) := by decide +kernel
theorem d_X5_leads_76 : decode cX5_leads 76 = .ok (.bipush 20, 2) := by decide +kernel
theorem d_X5_leads_78 : decode cX5_leads 78 = .ok (.idiv, 1) := by decide +kernel
theorem d_X5_leads_79 : decode cX5_leads 79 = .ok (.invokestatic 67, 3) := by decide +kernel
theorem d_X5_leads_82 : decode cX5_leads 82 = .ok (.ifCond .eq 108, 3) := by decide +kernel
theorem d_X5_leads_85 : decode cX5_leads 85 = .ok (.aload_n 0, 1) := by decide +kernel
theorem d_X5_leads_86 : decode cX5_leads 86 = .ok (.getfield 20, 3) := by decide +kernel
theorem d_X5_leads_89 : decode cX5_leads 89 = .ok (.sipush 609, 3) := by decide +kernel
theorem d_X5_leads_92 : decode cX5_leads 92 = .ok (.iload 5, 2) := by decide +kernel
theorem d_X5_leads_94 : decode cX5_leads 94 = .ok (.iadd, 1) := by decide +kernel
theorem d_X5_leads_95 : decode cX5_leads 95 = .ok (.iaload, 1) := by decide +kernel
theorem d_X5_leads_96 : decode cX5_leads 96 = .ok (.iconst 1, 1) := by decide +kernel
theorem d_X5_leads_97 : decode cX5_leads 97 = .ok (.if_icmp .ne 6, 3) := by decide +kernel
theorem d_X5_leads_100 : decode cX5_leads 100 = .ok (.goto 90, 3) := by decide +kernel
theorem d_X5_leads_103 : decode cX5_leads 103 = .ok (.iconst 0, 1) := by decide +kernel
theorem d_X5_leads_104 : decode cX5_leads 104 = .ok (.istore 6, 2) := by decide +kernel
theorem d_X5_leads_106 : decode cX5_leads 106 = .ok (.iload 6, 2) := by decide +kernel
theorem d_X5_leads_108 : decode cX5_leads 108 = .ok (.bipush 9, 2) := by decide +kernel
theorem d_X5_leads_110 : decode cX5_leads 110 = .ok (.if_icmp .ge 80, 3) := by decide +kernel
theorem d_X5_leads_113 : decode cX5_leads 113 = .ok (.iload 6, 2) := by decide +kernel
theorem d_X5_leads_115 : decode cX5_leads 115 = .ok (.ifCond .le 20, 3) := by decide +kernel
theorem d_X5_leads_118 : decode cX5_leads 118 = .ok (.aload_n 0, 1) := by decide +kernel
theorem d_X5_leads_119 : decode cX5_leads 119 = .ok (.getfield 20, 3) := by decide +kernel
theorem d_X5_leads_122 : decode cX5_leads 122 = .ok (.iload 5, 2) := by decide +kernel
theorem d_X5_leads_124 : decode cX5_leads 124 = .ok (.iload 6, 2) := by decide +kernel
theorem d_X5_leads_126 : decode cX5_leads 126 = .ok (.invokestatic 75, 3) := by decide +kernel
theorem d_X5_leads_129 : decode cX5_leads 129 = .ok (.ifCond .ne 6, 3) := by decide +kernel
theorem d_X5_leads_132 : decode cX5_leads 132 = .ok (.goto 52, 3) := by decide +kernel
theorem d_X5_leads_135 : decode cX5_leads 135 = .ok (.aload_n 0, 1) := by decide +kernel
theorem d_X5_leads_136 : decode cX5_leads 136 = .ok (.getfield 43, 3) := by decide +kernel
theorem d_X5_leads_139 : decode cX5_leads 139 = .ok (.iload_n 3, 1) := by decide +kernel
theorem d_X5_leads_140 : decode cX5_leads 140 = .ok (.aaload, 1) := by decide +kernel
theorem d_X5_leads_141 : decode cX5_leads 141 = .ok (.iload 5, 2) := by decide +kernel
theorem d_X5_leads_143 : decode cX5_leads 143 = .ok (.aload_n 0, 1) := by decide +kernel
theorem d_X5_leads_144 : decode cX5_leads 144 = .ok (.getfield 43, 3) := by decide +kernel
theorem d_X5_leads_147 : decode cX5_leads 147 = .ok (.iload_n 3, 1) := by decide +kernel
theorem d_X5_leads_148 : decode cX5_leads 148 = .ok (.aaload, 1) := by decide +kernel
theorem d_X5_leads_149 : decode cX5_leads 149 = .ok (.iload 5, 2) := by decide +kernel
theorem d_X5_leads_151 : decode cX5_leads 151 = .ok (.iaload, 1) := by decide +kernel
theorem d_X5_leads_152 : decode cX5_leads 152 = .ok (.iload 6, 2) := by decide +kernel
theorem d_X5_leads_154 : decode cX5_leads 154 = .ok (.iload 4, 2) := by decide +kernel
theorem d_X5_leads_156 : decode cX5_leads 156 = .ok (.invokestatic 241, 3) := by decide +kernel
theorem d_X5_leads_159 : decode cX5_leads 159 = .ok (.aload_n 0, 1) := by decide +kernel
theorem d_X5_leads_160 : decode cX5_leads 160 = .ok (.getfield 43, 3) := by decide +kernel
theorem d_X5_leads_163 : decode cX5_leads 163 = .ok (.iload_n 3, 1) := by decide +kernel
theorem d_X5_leads_164 : decode cX5_leads 164 = .ok (.iconst 1, 1) := by decide +kernel
theorem d_X5_leads_165 : decode cX5_leads 165 = .ok (.iadd, 1) := by decide +kernel
theorem d_X5_leads_166 : decode cX5_leads 166 = .ok (.aaload, 1) := by decide +kernel
theorem d_X5_leads_167 : decode cX5_leads 167 = .ok (.aload_n 0, 1) := by decide +kernel
theorem d_X5_leads_168 : decode cX5_leads 168 = .ok (.getfield 20, 3) := by decide +kernel
theorem d_X5_leads_171 : decode cX5_leads 171 = .ok (.iload 5, 2) := by decide +kernel
theorem d_X5_leads_173 : decode cX5_leads 173 = .ok (.iload 6, 2) := by decide +kernel
theorem d_X5_leads_175 : decode cX5_leads 175 = .ok (.invokestatic 247, 3) := by decide +kernel
theorem d_X5_leads_178 : decode cX5_leads 178 = .ok (.iaload, 1) := by decide +kernel
theorem d_X5_leads_179 : decode cX5_leads 179 = .ok (.iadd, 1) := by decide +kernel
theorem d_X5_leads_180 : decode cX5_leads 180 = .ok (.invokestatic 86, 3) := by decide +kernel
theorem d_X5_leads_183 : decode cX5_leads 183 = .ok (.iastore, 1) := by decide +kernel
theorem d_X5_leads_184 : decode cX5_leads 184 = .ok (.iinc 6 1, 3) := by decide +kernel
theorem d_X5_leads_187 : decode cX5_leads 187 = .ok (.goto (-81), 3) := by decide +kernel
theorem d_X5_leads_190 : decode cX5_leads 190 = .ok (.iinc 5 1, 3) := by decide +kernel
theorem d_X5_leads_193 : decode cX5_leads 193 = .ok (.goto (-136), 3) := by decide +kernel
theorem d_X5_leads_196 : decode cX5_leads 196 = .ok (.iinc 3 (-1), 3) := by decide +kernel
theorem d_X5_leads_199 : decode cX5_leads 199 = .ok (.goto (-176), 3) := by decide +kernel
theorem d_X5_leads_202 : decode cX5_leads 202 = .ok (.return_, 1) := by decide +kernel
abbrev rm_X5_leads : Room := { frames := 5, cells := 0, slots := 0, locals := 113 }
set_option maxHeartbeats 4000000 in
set_option maxRecDepth 20000 in
theorem c_X5_leads_135 {x : Cx} {b : Wy} (o : Ok x (wM b) cX5_leads 7 RX5 none rm_X5_leads) {v1 : Int32} {v2 : Int32} {K : Sg → Prop}  {KO23 : Int32 → Sg → Prop} {KO57 : Int32 → Int32 → Int32 → Sg → Prop} {KO106 : Int32 → Int32 → Int32 → Int32 → Sg → Prop}  (hKO23 : ∀ (l3 : Int32) (σ : Sg), KO23 l3 σ → J x (wM b) (FinC x (wM b) (PV K) (0, 0)) 23 [(0, .ref (wB (wM b) + 347)), (3, .int l3)] [] (0, 0) σ) (hKO57 : ∀ (l3 : Int32) (l4 : Int32) (l5 : Int32) (σ : Sg), KO57 l3 l4 l5 σ → J x (wM b) (FinC x (wM b) (PV K) (0, 0)) 57 [(0, .ref (wB (wM b) + 347)), (3, .int l3), (4, .int l4), (5, .int l5)] [] (0, 0) σ) (hKO106 : ∀ (l3 : Int32) (l4 : Int32) (l5 : Int32) (l6 : Int32) (σ : Sg), KO106 l3 l4 l5 l6 σ → J x (wM b) (FinC x (wM b) (PV K) (0, 0)) 106 [(0, .ref (wB (wM b) + 347)), (3, .int l3), (4, .int l4), (5, .int l5), (6, .int l6)] [] (0, 0) σ) : ∀ (l3 : Int32) (l4 : Int32) (l5 : Int32) (l6 : Int32) (σ : Sg), m_X5_leads_j135 v1 v2 K KO23 KO57 KO106 l3 l4 l5 l6 σ → J x (wM b) (FinC x (wM b) (PV K) (0, 0)) 135 [(0, .ref (wB (wM b) + 347)), (3, .int l3), (4, .int l4), (5, .int l5), (6, .int l6)] [] (0, 0) σ := by
  intro l3 l4 l5 l6 σ  h
  unfold m_X5_leads_j135 at h
  refine J_aload_n o 0 d_X5_leads_135 rfl ?_
  refine J_getR (t := 487) o fl_RX5_43 rfl (Nat.le_of_ble_eq_true rfl) (Nat.le_of_ble_eq_true rfl) rfl rfl d_X5_leads_136 ?_
  refine J_iload_n o 1 d_X5_leads_139 rfl ?_
  have b140 := h.1
  replace h := h.2
  refine J_aald (t := (487 + 1 + l3.toNatClampNeg)) o 2 (by decide) (G_k G_487) (G_lo G_487) (G_hi G_487) (vpc (G_l G_487) b140) (G_t G_487 _) d_X5_leads_140 ?_
  refine J_iload o 3 d_X5_leads_141 rfl ?_
  refine J_aload_n o 0 d_X5_leads_143 rfl ?_
  refine J_getR (t := 487) o fl_RX5_43 rfl (Nat.le_of_ble_eq_true rfl) (Nat.le_of_ble_eq_true rfl) rfl rfl d_X5_leads_144 ?_
  refine J_iload_n o 1 d_X5_leads_147 rfl ?_
  have b148 := h.1
  replace h := h.2
  refine J_aald (t := (487 + 1 + l3.toNatClampNeg)) o 2 (by decide) (G_k G_487) (G_lo G_487) (G_hi G_487) (vpc (G_l G_487) b148) (G_t G_487 _) d_X5_leads_148 ?_
  refine J_iload o 3 d_X5_leads_149 rfl ?_
  have b151 := h.1
  replace h := h.2
  refine J_iald o (G_A G_487 b148) (vpc (G_L G_487 b148) b151) d_X5_leads_151 ?_
  refine J_iload o 4 d_X5_leads_152 rfl ?_
  refine J_iload o 2 d_X5_leads_154 rfl ?_
  refine J_callS o [.int l6, .int l4] mth_X5_costBy st_X5_costBy ml_RX5_241 ⟨Nat.le_of_ble_eq_true rfl, Nat.le_of_ble_eq_true rfl⟩ rfl rfl (Nat.le_of_ble_eq_true rfl) ⟨Nat.le_refl _, Nat.le_refl _⟩ d_X5_leads_156 (w_X5_costBy (xL x) b  h) (aI (fun r156 s156 h => ?_))
  refine J_aload_n o 0 d_X5_leads_159 rfl ?_
  refine J_getR (t := 487) o fl_RX5_43 rfl (Nat.le_of_ble_eq_true rfl) (Nat.le_of_ble_eq_true rfl) rfl rfl d_X5_leads_160 ?_
  refine J_iload_n o 1 d_X5_leads_163 rfl ?_
  refine J_iconst (v := 1) o d_X5_leads_164 iconst_1 ?_
  refine J_iadd o d_X5_leads_165 ?_
  have b166 := h.1
  replace h := h.2
  refine J_aald (t := (487 + 1 + (l3 + 1).toNatClampNeg)) o 2 (by decide) (G_k G_487) (G_lo G_487) (G_hi G_487) (vpc (G_l G_487) b166) (G_t G_487 _) d_X5_leads_166 ?_
  refine J_aload_n o 0 d_X5_leads_167 rfl ?_
  refine J_getR (t := 350) o fl_RX5_20 rfl (Nat.le_of_ble_eq_true rfl) (Nat.le_of_ble_eq_true rfl) rfl rfl d_X5_leads_168 ?_
  refine J_iload o 3 d_X5_leads_171 rfl ?_
  refine J_iload o 4 d_X5_leads_173 rfl ?_
  refine J_callS o [.ref (wB (wM b) + 350), .int l5, .int l6] mth_X5_carried st_X5_carried ml_RX5_247 ⟨Nat.le_of_ble_eq_true rfl, Nat.le_of_ble_eq_true rfl⟩ rfl rfl (Nat.le_of_ble_eq_true rfl) ⟨Nat.le_refl _, Nat.le_refl _⟩ d_X5_leads_175 (w_X5_carried (xL x) b A_350 h) (aI (fun r175 s175 h => ?_))
  have b178 := h.1
  replace h := h.2
  refine J_iald o (G_A G_487 b166) (vpc (G_L G_487 b166) b178) d_X5_leads_178 ?_
  refine J_iadd o d_X5_leads_179 ?_
  refine J_callS o [.int (σ (487 + 1 + l3.toNatClampNeg) l5.toNatClampNeg), .int (r156 + (s175 (487 + 1 + (l3 + 1).toNatClampNeg) r175.toNatClampNeg))] mth_X5_less st_X5_less ml_RX5_86 ⟨Nat.le_of_ble_eq_true rfl, Nat.le_of_ble_eq_true rfl⟩ rfl rfl (Nat.le_of_ble_eq_true rfl) ⟨Nat.le_refl _, Nat.le_refl _⟩ d_X5_leads_180 (w_X5_less (xL x) b  h) (aI (fun r180 s180 h => ?_))
  have b183 := h.1
  replace h := h.2
  refine J_iast o (G_A G_487 b140) (vpc (G_L G_487 b140) b183) d_X5_leads_183 ?_
  refine J_nS (fun s183 es183 => ?_)
  replace h := h s183 es183
  refine J_iinc (lv' := [(6, .int (l6 + 1)), (0, .ref (wB (wM b) + 347)), (3, .int l3), (4, .int l4), (5, .int l5)]) o 4 d_X5_leads_184 (by decide) rfl iconst_1 rfl ?_
  refine J_goto o 106 d_X5_leads_187 rfl ?_
  refine J_sub [1, 2, 3, 4, 0] rfl ?_
  exact hKO106 l3 l4 l5 (l6 + 1) s183  h
set_option maxHeartbeats 4000000 in
set_option maxRecDepth 20000 in
theorem c_X5_leads_106 {x : Cx} {b : Wy} (o : Ok x (wM b) cX5_leads 7 RX5 none rm_X5_leads) {v1 : Int32} {v2 : Int32} {K : Sg → Prop}  {KO23 : Int32 → Sg → Prop} {KO57 : Int32 → Int32 → Int32 → Sg → Prop}  (hKO23 : ∀ (l3 : Int32) (σ : Sg), KO23 l3 σ → J x (wM b) (FinC x (wM b) (PV K) (0, 0)) 23 [(0, .ref (wB (wM b) + 347)), (3, .int l3)] [] (0, 0) σ) (hKO57 : ∀ (l3 : Int32) (l4 : Int32) (l5 : Int32) (σ : Sg), KO57 l3 l4 l5 σ → J x (wM b) (FinC x (wM b) (PV K) (0, 0)) 57 [(0, .ref (wB (wM b) + 347)), (3, .int l3), (4, .int l4), (5, .int l5)] [] (0, 0) σ) : ∀ (n : Nat) (l3 : Int32) (l4 : Int32) (l5 : Int32) (l6 : Int32) (σ : Sg), m_X5_leads_l106 v1 v2 K KO23 KO57 n l3 l4 l5 l6 σ → J x (wM b) (FinC x (wM b) (PV K) (0, 0)) 106 [(0, .ref (wB (wM b) + 347)), (3, .int l3), (4, .int l4), (5, .int l5), (6, .int l6)] [] (0, 0) σ := by
  intro n
  induction n with
  | zero =>
    intro l3 l4 l5 l6 σ  h
    exact False.elim h
  | succ n ih =>
    intro l3 l4 l5 l6 σ  h
    unfold m_X5_leads_l106 at h
    refine J_iload o 4 d_X5_leads_106 rfl ?_
    refine J_bipush (v := 9) o d_X5_leads_108 bipush_9 ?_
    refine J_icmp_ge o 190 d_X5_leads_110 rfl (fun c110 => ?_) (fun c110 => ?_)
    · replace h := h.1 c110
      refine J_iinc (lv' := [(5, .int (l5 + 1)), (0, .ref (wB (wM b) + 347)), (3, .int l3), (4, .int l4), (6, .int l6)]) o 3 d_X5_leads_190 (by decide) rfl iconst_1 rfl ?_
      refine J_goto o 57 d_X5_leads_193 rfl ?_
      refine J_sub [1, 2, 3, 0] rfl ?_
      exact hKO57 l3 l4 (l5 + 1) σ  h
    · replace h := h.2 c110
      refine J_iload o 4 d_X5_leads_113 rfl ?_
      refine J_if_le o 135 d_X5_leads_115 rfl (fun c115 => ?_) (fun c115 => ?_)
      · replace h := h.1 c115
        exact c_X5_leads_135 o  hKO23 hKO57 ih l3 l4 l5 l6 σ  h
      · replace h := h.2 c115
        refine J_aload_n o 0 d_X5_leads_118 rfl ?_
        refine J_getR (t := 350) o fl_RX5_20 rfl (Nat.le_of_ble_eq_true rfl) (Nat.le_of_ble_eq_true rfl) rfl rfl d_X5_leads_119 ?_
        refine J_iload o 3 d_X5_leads_122 rfl ?_
        refine J_iload o 4 d_X5_leads_124 rfl ?_
        refine J_callS o [.ref (wB (wM b) + 350), .int l5, .int l6] mth_X5_goes st_X5_goes ml_RX5_75 ⟨Nat.le_of_ble_eq_true rfl, Nat.le_of_ble_eq_true rfl⟩ rfl rfl (Nat.le_of_ble_eq_true rfl) ⟨Nat.le_refl _, Nat.le_refl _⟩ d_X5_leads_126 (w_X5_goes (xL x) b A_350 h) (aZ (fun r126 s126 hzr126 h => ?_))
        refine J_if_ne o 135 d_X5_leads_129 rfl (fun c129 => ?_) (fun c129 => ?_)
        · replace h := h.1 c129
          exact c_X5_leads_135 o  hKO23 hKO57 ih l3 l4 l5 l6 s126  h
        · replace h := h.2 c129
          refine J_goto o 184 d_X5_leads_132 rfl ?_
          refine J_iinc (lv' := [(6, .int (l6 + 1)), (0, .ref (wB (wM b) + 347)), (3, .int l3), (4, .int l4), (5, .int l5)]) o 4 d_X5_leads_184 (by decide) rfl iconst_1 rfl ?_
          refine J_goto o 106 d_X5_leads_187 rfl ?_
          refine J_sub [1, 2, 3, 4, 0] rfl ?_
          exact ih l3 l4 l5 (l6 + 1) s126  h
set_option maxHeartbeats 4000000 in
set_option maxRecDepth 20000 in
theorem c_X5_leads_57 {x : Cx} {b : Wy} (o : Ok x (wM b) cX5_leads 7 RX5 none rm_X5_leads) {v1 : Int32} {v2 : Int32} {K : Sg → Prop}  {KO23 : Int32 → Sg → Prop}  (hKO23 : ∀ (l3 : Int32) (σ : Sg), KO23 l3 σ → J x (wM b) (FinC x (wM b) (PV K) (0, 0)) 23 [(0, .ref (wB (wM b) + 347)), (3, .int l3)] [] (0, 0) σ) : ∀ (n : Nat) (l3 : Int32) (l4 : Int32) (l5 : Int32) (σ : Sg), m_X5_leads_l57 v1 v2 K KO23 n l3 l4 l5 σ → J x (wM b) (FinC x (wM b) (PV K) (0, 0)) 57 [(0, .ref (wB (wM b) + 347)), (3, .int l3), (4, .int l4), (5, .int l5)] [] (0, 0) σ := by
  intro n
  induction n with
  | zero =>
    intro l3 l4 l5 σ  h
    exact False.elim h
  | succ n ih =>
    intro l3 l4 l5 σ  h
    unfold m_X5_leads_l57 at h
    refine J_iload o 3 d_X5_leads_57 rfl ?_
    refine J_sipush (v := 240) o d_X5_leads_59 sipush_240 ?_
    refine J_icmp_ge o 196 d_X5_leads_62 rfl (fun c62 => ?_) (fun c62 => ?_)
    · replace h := h.1 c62
      refine J_iinc (lv' := [(3, .int (l3 + (-1))), (0, .ref (wB (wM b) + 347)), (4, .int l4), (5, .int l5)]) o 1 d_X5_leads_196 (by decide) rfl iconst_m1 rfl ?_
      refine J_goto o 23 d_X5_leads_199 rfl ?_
      refine J_sub [1, 0] rfl ?_
      exact hKO23 (l3 + (-1)) σ  h
    · replace h := h.2 c62
      refine J_aload_n o 0 d_X5_leads_65 rfl ?_
      refine J_getR (t := 350) o fl_RX5_20 rfl (Nat.le_of_ble_eq_true rfl) (Nat.le_of_ble_eq_true rfl) rfl rfl d_X5_leads_66 ?_
      refine J_iload o 3 d_X5_leads_69 rfl ?_
      refine J_bipush (v := 20) o d_X5_leads_71 bipush_20 ?_
      refine J_irem o d_X5_leads_73 (by decide) ?_
      refine J_iload o 3 d_X5_leads_74 rfl ?_
      refine J_bipush (v := 20) o d_X5_leads_76 bipush_20 ?_
      refine J_idiv o d_X5_leads_78 (by decide) ?_
      refine J_callS o [.ref (wB (wM b) + 350), .int (l5 - l5 / 20 * 20), .int (l5 / 20)] mth_X5_isOn st_X5_isOn ml_RX5_67 ⟨Nat.le_of_ble_eq_true rfl, Nat.le_of_ble_eq_true rfl⟩ rfl rfl (Nat.le_of_ble_eq_true rfl) ⟨Nat.le_refl _, Nat.le_refl _⟩ d_X5_leads_79 (w_X5_isOn (xL x) b A_350 h) (aZ (fun r79 s79 hzr79 h => ?_))
      refine J_if_eq o 190 d_X5_leads_82 rfl (fun c82 => ?_) (fun c82 => ?_)
      · replace h := h.1 c82
        refine J_iinc (lv' := [(5, .int (l5 + 1)), (0, .ref (wB (wM b) + 347)), (3, .int l3), (4, .int l4)]) o 3 d_X5_leads_190 (by decide) rfl iconst_1 rfl ?_
        refine J_goto o 57 d_X5_leads_193 rfl ?_
        refine J_sub [1, 2, 3, 0] rfl ?_
        exact ih l3 l4 (l5 + 1) s79  h
      · replace h := h.2 c82
        refine J_aload_n o 0 d_X5_leads_85 rfl ?_
        refine J_getR (t := 350) o fl_RX5_20 rfl (Nat.le_of_ble_eq_true rfl) (Nat.le_of_ble_eq_true rfl) rfl rfl d_X5_leads_86 ?_
        refine J_sipush (v := 609) o d_X5_leads_89 sipush_609 ?_
        refine J_iload o 3 d_X5_leads_92 rfl ?_
        refine J_iadd o d_X5_leads_94 ?_
        have b95 := h.1
        replace h := h.2
        refine J_iald o A_350 (vpc (rfl : ln 350 = 1098) b95) d_X5_leads_95 ?_
        refine J_iconst (v := 1) o d_X5_leads_96 iconst_1 ?_
        refine J_icmp_ne o 103 d_X5_leads_97 rfl (fun c97 => ?_) (fun c97 => ?_)
        · replace h := h.1 c97
          refine J_iconst (v := 0) o d_X5_leads_103 iconst_0 ?_
          refine J_istore (lv' := [(6, .int 0), (0, .ref (wB (wM b) + 347)), (3, .int l3), (4, .int l4), (5, .int l5)]) o d_X5_leads_104 (by decide) rfl ?_
          refine J_sub [1, 2, 3, 4, 0] rfl ?_
          obtain ⟨n9, h⟩ := h
          exact c_X5_leads_106 o  hKO23 ih n9 l3 l4 l5 0 s79  h
        · replace h := h.2 c97
          refine J_goto o 190 d_X5_leads_100 rfl ?_
          refine J_iinc (lv' := [(5, .int (l5 + 1)), (0, .ref (wB (wM b) + 347)), (3, .int l3), (4, .int l4)]) o 3 d_X5_leads_190 (by decide) rfl iconst_1 rfl ?_
          refine J_goto o 57 d_X5_leads_193 rfl ?_
          refine J_sub [1, 2, 3, 0] rfl ?_
          exact ih l3 l4 (l5 + 1) s79  h
set_option maxHeartbeats 4000000 in
set_option maxRecDepth 20000 in
theorem c_X5_leads_23 {x : Cx} {b : Wy} (o : Ok x (wM b) cX5_leads 7 RX5 none rm_X5_leads) {v1 : Int32} {v2 : Int32} {K : Sg → Prop}   : ∀ (n : Nat) (l3 : Int32) (σ : Sg), m_X5_leads_l23 v1 v2 K  n l3 σ → J x (wM b) (FinC x (wM b) (PV K) (0, 0)) 23 [(0, .ref (wB (wM b) + 347)), (3, .int l3)] [] (0, 0) σ := by
  intro n
  induction n with
  | zero =>
    intro l3 σ  h
    exact False.elim h
  | succ n ih =>
    intro l3 σ  h
    unfold m_X5_leads_l23 at h
    refine J_iload_n o 1 d_X5_leads_23 rfl ?_
    refine J_if_lt o 202 d_X5_leads_24 rfl (fun c24 => ?_) (fun c24 => ?_)
    · replace h := h.1 c24
      exact J_vret o d_X5_leads_202 ⟨rfl, h⟩
    · replace h := h.2 c24
      refine J_aload_n o 0 d_X5_leads_27 rfl ?_
      refine J_getR (t := 350) o fl_RX5_20 rfl (Nat.le_of_ble_eq_true rfl) (Nat.le_of_ble_eq_true rfl) rfl rfl d_X5_leads_28 ?_
      refine J_aload_n o 0 d_X5_leads_31 rfl ?_
      refine J_getR (t := 350) o fl_RX5_20 rfl (Nat.le_of_ble_eq_true rfl) (Nat.le_of_ble_eq_true rfl) rfl rfl d_X5_leads_32 ?_
      refine J_iconst (v := 2) o d_X5_leads_35 iconst_2 ?_
      have b36 := h.1
      replace h := h.2
      refine J_iald o A_350 (vpc (rfl : ln 350 = 1098) b36) d_X5_leads_36 ?_
      refine J_iload_n o 1 d_X5_leads_37 rfl ?_
      refine J_iadd o d_X5_leads_38 ?_
      refine J_callS o [.ref (wB (wM b) + 350), .int ((σ 350 (2 : Int32).toNatClampNeg) + l3)] mth_X5_windOf st_X5_windOf ml_RX5_82 ⟨Nat.le_of_ble_eq_true rfl, Nat.le_of_ble_eq_true rfl⟩ rfl rfl (Nat.le_of_ble_eq_true rfl) ⟨Nat.le_refl _, Nat.le_refl _⟩ d_X5_leads_39 (w_X5_windOf (xL x) b A_350 h) (aI (fun r39 s39 h => ?_))
      refine J_istore (lv' := [(4, .int r39), (0, .ref (wB (wM b) + 347)), (3, .int l3)]) o d_X5_leads_42 (by decide) rfl ?_
      refine J_aload_n o 1 d_X5_leads_44 rfl ?_
      refine J_aload_n o 1 d_X5_leads_45 rfl ?_
      refine J_getR (t := 487) o fl_RX5_43 rfl (Nat.le_of_ble_eq_true rfl) (Nat.le_of_ble_eq_true rfl) rfl rfl d_X5_leads_46 ?_
      refine J_iload_n o 2 d_X5_leads_49 rfl ?_
      have b50 := h.1
      replace h := h.2
      refine J_aald (t := (487 + 1 + l3.toNatClampNeg)) o 2 (by decide) (G_k G_487) (G_lo G_487) (G_hi G_487) (vpc (G_l G_487) b50) (G_t G_487 _) d_X5_leads_50 ?_
      refine J_callV (k := 347) (c := 5) o [.ref (wB (wM b) + (487 + 1 + l3.toNatClampNeg))] rfl (by decide) (Nat.le_of_ble_eq_true rfl) (Nat.le_of_ble_eq_true rfl) mth_X5_empties iv_X5_empties ml_RX5_273 ⟨Nat.le_of_ble_eq_true rfl, Nat.le_of_ble_eq_true rfl⟩ rfl rfl (Nat.le_of_ble_eq_true rfl) ⟨Nat.le_refl _, Nat.le_refl _⟩ d_X5_leads_51 (w_X5_empties (xL x) b (G_A G_487 b50) h) (aV (fun s51 h => ?_))
      refine J_iconst (v := 0) o d_X5_leads_54 iconst_0 ?_
      refine J_istore (lv' := [(5, .int 0), (4, .int r39), (0, .ref (wB (wM b) + 347)), (3, .int l3)]) o d_X5_leads_55 (by decide) rfl ?_
      refine J_sub [2, 3, 1, 0] rfl ?_
      obtain ⟨n9, h⟩ := h
      exact c_X5_leads_57 o  ih n9 l3 r39 0 s51  h
set_option maxHeartbeats 4000000 in
set_option maxRecDepth 20000 in
theorem w_X5_leads (l : Launch) (b : Wy) {v1 : Int32} {v2 : Int32} {σ : Sg} {K : Sg → Prop}  (h : m_X5_leads v1 v2 σ K) : Ct l (wM b) yX5_leads cX5_leads 7 none rm_X5_leads [.ref (wB (wM b) + 347), .int v1, .int v2] σ (PV K) := by
  unfold m_X5_leads at h
  refine Ct.of (own := RX5) (by decide +kernel) rfl (Nat.le_of_ble_eq_true rfl) (fun x hx o => ?_)
  subst hx
  show J x (wM b) (FinC x (wM b) (PV K) (0, 0)) 0 [(0, .ref (wB (wM b) + 347)), (1, .int v1), (2, .int v2)] [] (0, 0) σ
  refine J_aload_n o 0 d_X5_leads_0 rfl ?_
  refine J_aload_n o 0 d_X5_leads_1 rfl ?_
  refine J_getR (t := 487) o fl_RX5_43 rfl (Nat.le_of_ble_eq_true rfl) (Nat.le_of_ble_eq_true rfl) rfl rfl d_X5_leads_2 ?_
  refine J_iload_n o 1 d_X5_leads_5 rfl ?_
  have b6 := h.1
  replace h := h.2
  refine J_aald (t := (487 + 1 + v1.toNatClampNeg)) o 2 (by decide) (G_k G_487) (G_lo G_487) (G_hi G_487) (vpc (G_l G_487) b6) (G_t G_487 _) d_X5_leads_6 ?_
  refine J_callV (k := 347) (c := 5) o [.ref (wB (wM b) + (487 + 1 + v1.toNatClampNeg))] rfl (by decide) (Nat.le_of_ble_eq_true rfl) (Nat.le_of_ble_eq_true rfl) mth_X5_empties iv_X5_empties ml_RX5_273 ⟨Nat.le_of_ble_eq_true rfl, Nat.le_of_ble_eq_true rfl⟩ rfl rfl (Nat.le_of_ble_eq_true rfl) ⟨Nat.le_refl _, Nat.le_refl _⟩ d_X5_leads_7 (w_X5_empties (xL x) b (G_A G_487 b6) h) (aV (fun s7 h => ?_))
  refine J_aload_n o 0 d_X5_leads_10 rfl ?_
  refine J_getR (t := 487) o fl_RX5_43 rfl (Nat.le_of_ble_eq_true rfl) (Nat.le_of_ble_eq_true rfl) rfl rfl d_X5_leads_11 ?_
  refine J_iload_n o 1 d_X5_leads_14 rfl ?_
  have b15 := h.1
  replace h := h.2
  refine J_aald (t := (487 + 1 + v1.toNatClampNeg)) o 2 (by decide) (G_k G_487) (G_lo G_487) (G_hi G_487) (vpc (G_l G_487) b15) (G_t G_487 _) d_X5_leads_15 ?_
  refine J_iload_n o 2 d_X5_leads_16 rfl ?_
  refine J_iconst (v := 0) o d_X5_leads_17 iconst_0 ?_
  have b18 := h.1
  replace h := h.2
  refine J_iast o (G_A G_487 b15) (vpc (G_L G_487 b15) b18) d_X5_leads_18 ?_
  refine J_nS (fun s18 es18 => ?_)
  replace h := h s18 es18
  refine J_iload_n o 1 d_X5_leads_19 rfl ?_
  refine J_iconst (v := 1) o d_X5_leads_20 iconst_1 ?_
  refine J_isub o d_X5_leads_21 ?_
  refine J_top (fun l3_22 el3_22 => ?_)
  replace h := h l3_22 el3_22
  refine J_istore_n (lv' := [(3, .int l3_22), (0, .ref (wB (wM b) + 347)), (1, .int v1), (2, .int v2)]) o d_X5_leads_22 (by decide) rfl ?_
  refine J_sub [1, 0] rfl ?_
  obtain ⟨n9, h⟩ := h
  exact c_X5_leads_23 o   n9 l3_22 s18  h
theorem d_X5_route_0 : decode cX5_route 0 = .ok (.aload_n 0, 1) := by decide +kernel
theorem d_X5_route_1 : decode cX5_route 1 = .ok (.iconst 0, 1) := by decide +kernel
theorem d_X5_route_2 : decode cX5_route 2 = .ok (.putfield 50, 3) := by decide +kernel
theorem d_X5_route_5 : decode cX5_route 5 = .ok (.aload_n 0, 1) := by decide +kernel
theorem d_X5_route_6 : decode cX5_route 6 = .ok (.aload_n 0, 1) := by decide +kernel
theorem d_X5_route_7 : decode cX5_route 7 = .ok (.iload_n 1, 1) := by decide +kernel
theorem d_X5_route_8 : decode cX5_route 8 = .ok (.invokevirtual 235, 3) := by decide +kernel
theorem d_X5_route_11 : decode cX5_route 11 = .ok (.ifCond .ne 7, 3) := by decide +kernel
theorem d_X5_route_14 : decode cX5_route 14 = .ok (.iconst 1, 1) := by decide +kernel
theorem d_X5_route_15 : decode cX5_route 15 = .ok (.goto 4, 3) := by decide +kernel
theorem d_X5_route_18 : decode cX5_route 18 = .ok (.iconst 0, 1) := by decide +kernel
theorem d_X5_route_19 : decode cX5_route 19 = .ok (.iconst 1, 1) := by decide +kernel
theorem d_X5_route_20 : decode cX5_route 20 = .ok (.iconst 0, 1) := by decide +kernel
theorem d_X5_route_21 : decode cX5_route 21 = .ok (.invokevirtual 216, 3) := by decide +kernel
theorem d_X5_route_24 : decode cX5_route 24 = .ok (.ifCond .eq 5, 3) := by decide +kernel
theorem d_X5_route_27 : decode cX5_route 27 = .ok (.iconst 0, 1) := by decide +kernel
theorem d_X5_route_28 : decode cX5_route 28 = .ok (.ireturn, 1) := by decide +kernel
theorem d_X5_route_29 : decode cX5_route 29 = .ok (.aload_n 0, 1) := by decide +kernel
theorem d_X5_route_30 : decode cX5_route 30 = .ok (.iload_n 1, 1) := by decide +kernel
theorem d_X5_route_31 : decode cX5_route 31 = .ok (.invokevirtual 280, 3) := by decide +kernel
theorem d_X5_route_34 : decode cX5_route 34 = .ok (.istore_n 3, 1) := by decide +kernel
theorem d_X5_route_35 : decode cX5_route 35 = .ok (.iload_n 3, 1) := by decide +kernel
theorem d_X5_route_36 : decode cX5_route 36 = .ok (.iconst (-1), 1) := by decide +kernel
theorem d_X5_route_37 : decode cX5_route 37 = .ok (.if_icmp .eq 14, 3) := by decide +kernel
theorem d_X5_route_40 : decode cX5_route 40 = .ok (.iload_n 2, 1) := by decide +kernel
theorem d_X5_route_41 : decode cX5_route 41 = .ok (.iconst 0, 1) := by decide +kernel
theorem d_X5_route_42 : decode cX5_route 42 = .ok (.iload_n 3, 1) := by decide +kernel
theorem d_X5_route_43 : decode cX5_route 43 = .ok (.iconst 1, 1) := by decide +kernel
theorem d_X5_route_44 : decode cX5_route 44 = .ok (.isub, 1) := by decide +kernel
theorem d_X5_route_45 : decode cX5_route 45 = .ok (.invokestatic 56, 3) := by decide +kernel
theorem d_X5_route_48 : decode cX5_route 48 = .ok (.ifCond .ne 5, 3) := by decide +kernel
theorem d_X5_route_51 : decode cX5_route 51 = .ok (.iconst (-1), 1) := by decide +kernel
theorem d_X5_route_52 : decode cX5_route 52 = .ok (.ireturn, 1) := by decide +kernel
theorem d_X5_route_53 : decode cX5_route 53 = .ok (.aload_n 0, 1) := by decide +kernel
theorem d_X5_route_54 : decode cX5_route 54 = .ok (.iload_n 3, 1) := by decide +kernel
theorem d_X5_route_55 : decode cX5_route 55 = .ok (.aload_n 0, 1) := by decide +kernel
theorem d_X5_route_56 : decode cX5_route 56 = .ok (.getfield 31, 3) := by decide +kernel
theorem d_X5_route_59 : decode cX5_route 59 = .ok (.iload_n 3, 1) := by decide +kernel
theorem d_X5_route_60 : decode cX5_route 60 = .ok (.iaload, 1) := by decide +kernel
theorem d_X5_route_61 : decode cX5_route 61 = .ok (.invokevirtual 283, 3) := by decide +kernel
theorem d_X5_route_64 : decode cX5_route 64 = .ok (.aload_n 0, 1) := by decide +kernel
theorem d_X5_route_65 : decode cX5_route 65 = .ok (.iload_n 1, 1) := by decide +kernel
theorem d_X5_route_66 : decode cX5_route 66 = .ok (.invokevirtual 238, 3) := by decide +kernel
theorem d_X5_route_69 : decode cX5_route 69 = .ok (.istore 4, 2) := by decide +kernel
theorem d_X5_route_71 : decode cX5_route 71 = .ok (.iconst 0, 1) := by decide +kernel
theorem d_X5_route_72 : decode cX5_route 72 = .ok (.istore 5, 2) := by decide +kernel
theorem d_X5_route_74 : decode cX5_route 74 = .ok (.iconst 0, 1) := by decide +kernel
theorem d_X5_route_75 : decode cX5_route 75 = .ok (.istore 6, 2) := by decide +kernel
theorem d_X5_route_77 : decode cX5_route 77 = .ok (.iload 6, 2) := by decide +kernel
theorem d_X5_route_79 : decode cX5_route 79 = .ok (.iload_n 2, 1) := by decide +kernel
theorem d_X5_route_80 : decode cX5_route 80 = .ok (.if_icmp .gt 110, 3) := by decide +kernel
theorem d_X5_route_83 : decode cX5_route 83 = .ok (.aload_n 0, 1) := by decide +kernel
theorem d_X5_route_84 : decode cX5_route 84 = .ok (.getfield 20, 3) := by decide +kernel
theorem d_X5_route_87 : decode cX5_route 87 = .ok (.aload_n 0, 1) := by decide +kernel
theorem d_X5_route_88 : decode cX5_route 88 = .ok (.getfield 20, 3) := by decide +kernel
theorem d_X5_route_91 : decode cX5_route 91 = .ok (.iconst 2, 1) := by decide +kernel
theorem d_X5_route_92 : decode cX5_route 92 = .ok (.iaload, 1) := by decide +kernel
theorem d_X5_route_93 : decode cX5_route 93 = .ok (.iload 6, 2) := by decide +kernel
theorem d_X5_route_95 : decode cX5_route 95 = .ok (.iadd, 1) := by decide +kernel
theorem d_X5_route_96 : decode cX5_route 96 = .ok (.invokestatic 82, 3) := by decide +kernel
theorem d_X5_route_99 : decode cX5_route 99 = .ok (.istore 7, 2) := by decide +kernel
theorem d_X5_route_101 : decode cX5_route 101 = .ok (.iconst 0, 1) := by decide +kernel
theorem d_X5_route_102 : decode cX5_route 102 = .ok (.istore 5, 2) := by decide +kernel
theorem d_X5_route_104 : decode cX5_route 104 = .ok (.iload 5, 2) := by decide +kernel
theorem d_X5_route_106 : decode cX5_route 106 = .ok (.ifCond .le 17, 3) := by decide +kernel
theorem d_X5_route_109 : decode cX5_route 109 = .ok (.aload_n 0, 1) := by decide +kernel
theorem d_X5_route_110 : decode cX5_route 110 = .ok (.getfield 20, 3) := by decide +kernel
theorem d_X5_route_113 : decode cX5_route 113 = .ok (.iload 4, 2) := by decide +kernel
theorem d_X5_route_115 : decode cX5_route 115 = .ok (.iload 5, 2) := by decide +kernel
theorem d_X5_route_117 : decode cX5_route 117 = .ok (.invokestatic 75, 3) := by decide +kernel
theorem d_X5_route_120 : decode cX5_route 120 = .ok (.ifCond .eq 45, 3) := by decide +kernel
theorem d_X5_route_123 : decode cX5_route 123 = .ok (.iload 5, 2) := by decide +kernel
theorem d_X5_route_125 : decode cX5_route 125 = .ok (.iload 7, 2) := by decide +kernel
theorem d_X5_route_127 : decode cX5_route 127 = .ok (.invokestatic 241, 3) := by decide +kernel
theorem d_X5_route_130 : decode cX5_route 130 = .ok (.aload_n 0, 1) := by decide +kernel
theorem d_X5_route_131 : decode cX5_route 131 = .ok (.getfield 43, 3) := by decide +kernel
theorem d_X5_route_134 : decode cX5_route 134 = .ok (.iload 6, 2) := by decide +kernel
theorem d_X5_route_136 : decode cX5_route 136 = .ok (.iconst 1, 1) := by decide +kernel
theorem d_X5_route_137 : decode cX5_route 137 = .ok (.iadd, 1) := by decide +kernel
theorem d_X5_route_138 : decode cX5_route 138 = .ok (.aaload, 1) := by decide +kernel
theorem d_X5_route_139 : decode cX5_route 139 = .ok (.aload_n 0, 1) := by decide +kernel
theorem d_X5_route_140 : decode cX5_route 140 = .ok (.getfield 20, 3) := by decide +kernel
theorem d_X5_route_143 : decode cX5_route 143 = .ok (.iload 4, 2) := by decide +kernel
theorem d_X5_route_145 : decode cX5_route 145 = .ok (.iload 5, 2) := by decide +kernel
theorem d_X5_route_147 : decode cX5_route 147 = .ok (.invokestatic 247, 3) := by decide +kernel
theorem d_X5_route_150 : decode cX5_route 150 = .ok (.iaload, 1) := by decide +kernel
theorem d_X5_route_151 : decode cX5_route 151 = .ok (.iadd, 1) := by decide +kernel
theorem d_X5_route_152 : decode cX5_route 152 = .ok (.aload_n 0, 1) := by decide +kernel
theorem d_X5_route_153 : decode cX5_route 153 = .ok (.getfield 43, 3) := by decide +kernel
theorem d_X5_route_156 : decode cX5_route 156 = .ok (.iload 6, 2) := by decide +kernel
theorem d_X5_route_158 : decode cX5_route 158 = .ok (.aaload, 1) := by decide +kernel
theorem d_X5_route_159 : decode cX5_route 159 = .ok (.iload 4, 2) := by decide +kernel
theorem d_X5_route_161 : decode cX5_route 161 = .ok (.iaload, 1) := by decide +kernel
theorem d_X5_route_162 : decode cX5_route 162 = .ok (.if_icmp .eq 9, 3) := by decide +kernel
theorem d_X5_route_165 : decode cX5_route 165 = .ok (.iinc 5 1, 3) := by decide +kernel
theorem d_X5_route_168 : decode cX5_route 168 = .ok (.goto (-64), 3) := by decide +kernel
theorem d_X5_route_171 : decode cX5_route 171 = .ok (.aload_n 0, 1) := by decide +kernel
theorem d_X5_route_172 : decode cX5_route 172 = .ok (.getfield 20, 3) := by decide +kernel
theorem d_X5_route_175 : decode cX5_route 175 = .ok (.iload 4, 2) := by decide +kernel
theorem d_X5_route_177 : decode cX5_route 177 = .ok (.iload 5, 2) := by decide +kernel
theorem d_X5_route_179 : decode cX5_route 179 = .ok (.invokestatic 247, 3) := by decide +kernel
theorem d_X5_route_182 : decode cX5_route 182 = .ok (.istore 4, 2) := by decide +kernel
theorem d_X5_route_184 : decode cX5_route 184 = .ok (.iinc 6 1, 3) := by decide +kernel
theorem d_X5_route_187 : decode cX5_route 187 = .ok (.goto (-110), 3) := by decide +kernel
theorem d_X5_route_190 : decode cX5_route 190 = .ok (.iload 5, 2) := by decide +kernel
theorem d_X5_route_192 : decode cX5_route 192 = .ok (.ireturn, 1) := by decide +kernel
abbrev rm_X5_route : Room := { frames := 7, cells := 0, slots := 0, locals := 163 }
set_option maxHeartbeats 4000000 in
set_option maxRecDepth 20000 in
theorem c_X5_route_123 {x : Cx} {b : Wy} (o : Ok x (wM b) cX5_route 8 RX5 (some .int) rm_X5_route) {v1 : Int32} {v2 : Int32} {K : Int32 → Sg → Prop}  {KO77 : Int32 → Int32 → Int32 → Sg → Prop} {KO104 : Int32 → Int32 → Int32 → Int32 → Sg → Prop}  (hKO77 : ∀ (l4 : Int32) (l5 : Int32) (l6 : Int32) (σ : Sg), KO77 l4 l5 l6 σ → J x (wM b) (FinC x (wM b) (PI K) (0, 0)) 77 [(0, .ref (wB (wM b) + 347)), (2, .int v2), (4, .int l4), (5, .int l5), (6, .int l6)] [] (0, 0) σ) (hKO104 : ∀ (l4 : Int32) (l5 : Int32) (l6 : Int32) (l7 : Int32) (σ : Sg), KO104 l4 l5 l6 l7 σ → J x (wM b) (FinC x (wM b) (PI K) (0, 0)) 104 [(0, .ref (wB (wM b) + 347)), (2, .int v2), (4, .int l4), (5, .int l5), (6, .int l6), (7, .int l7)] [] (0, 0) σ) : ∀ (l4 : Int32) (l5 : Int32) (l6 : Int32) (l7 : Int32) (σ : Sg), m_X5_route_j123 v1 v2 K KO77 KO104 l4 l5 l6 l7 σ → J x (wM b) (FinC x (wM b) (PI K) (0, 0)) 123 [(0, .ref (wB (wM b) + 347)), (2, .int v2), (4, .int l4), (5, .int l5), (6, .int l6), (7, .int l7)] [] (0, 0) σ := by
  intro l4 l5 l6 l7 σ  h
  unfold m_X5_route_j123 at h
  refine J_iload o 3 d_X5_route_123 rfl ?_
  refine J_iload o 5 d_X5_route_125 rfl ?_
  refine J_callS o [.int l5, .int l7] mth_X5_costBy st_X5_costBy ml_RX5_241 ⟨Nat.le_of_ble_eq_true rfl, Nat.le_of_ble_eq_true rfl⟩ rfl rfl (Nat.le_of_ble_eq_true rfl) ⟨Nat.le_refl _, Nat.le_refl _⟩ d_X5_route_127 (w_X5_costBy (xL x) b  h) (aI (fun r127 s127 h => ?_))
  refine J_aload_n o 0 d_X5_route_130 rfl ?_
  refine J_getR (t := 487) o fl_RX5_43 rfl (Nat.le_of_ble_eq_true rfl) (Nat.le_of_ble_eq_true rfl) rfl rfl d_X5_route_131 ?_
  refine J_iload o 4 d_X5_route_134 rfl ?_
  refine J_iconst (v := 1) o d_X5_route_136 iconst_1 ?_
  refine J_iadd o d_X5_route_137 ?_
  have b138 := h.1
  replace h := h.2
  refine J_aald (t := (487 + 1 + (l6 + 1).toNatClampNeg)) o 2 (by decide) (G_k G_487) (G_lo G_487) (G_hi G_487) (vpc (G_l G_487) b138) (G_t G_487 _) d_X5_route_138 ?_
  refine J_aload_n o 0 d_X5_route_139 rfl ?_
  refine J_getR (t := 350) o fl_RX5_20 rfl (Nat.le_of_ble_eq_true rfl) (Nat.le_of_ble_eq_true rfl) rfl rfl d_X5_route_140 ?_
  refine J_iload o 2 d_X5_route_143 rfl ?_
  refine J_iload o 3 d_X5_route_145 rfl ?_
  refine J_callS o [.ref (wB (wM b) + 350), .int l4, .int l5] mth_X5_carried st_X5_carried ml_RX5_247 ⟨Nat.le_of_ble_eq_true rfl, Nat.le_of_ble_eq_true rfl⟩ rfl rfl (Nat.le_of_ble_eq_true rfl) ⟨Nat.le_refl _, Nat.le_refl _⟩ d_X5_route_147 (w_X5_carried (xL x) b A_350 h) (aI (fun r147 s147 h => ?_))
  have b150 := h.1
  replace h := h.2
  refine J_iald o (G_A G_487 b138) (vpc (G_L G_487 b138) b150) d_X5_route_150 ?_
  refine J_iadd o d_X5_route_151 ?_
  refine J_aload_n o 0 d_X5_route_152 rfl ?_
  refine J_getR (t := 487) o fl_RX5_43 rfl (Nat.le_of_ble_eq_true rfl) (Nat.le_of_ble_eq_true rfl) rfl rfl d_X5_route_153 ?_
  refine J_iload o 4 d_X5_route_156 rfl ?_
  have b158 := h.1
  replace h := h.2
  refine J_aald (t := (487 + 1 + l6.toNatClampNeg)) o 2 (by decide) (G_k G_487) (G_lo G_487) (G_hi G_487) (vpc (G_l G_487) b158) (G_t G_487 _) d_X5_route_158 ?_
  refine J_iload o 2 d_X5_route_159 rfl ?_
  have b161 := h.1
  replace h := h.2
  refine J_iald o (G_A G_487 b158) (vpc (G_L G_487 b158) b161) d_X5_route_161 ?_
  refine J_icmp_eq o 171 d_X5_route_162 rfl (fun c162 => ?_) (fun c162 => ?_)
  · replace h := h.1 c162
    refine J_aload_n o 0 d_X5_route_171 rfl ?_
    refine J_getR (t := 350) o fl_RX5_20 rfl (Nat.le_of_ble_eq_true rfl) (Nat.le_of_ble_eq_true rfl) rfl rfl d_X5_route_172 ?_
    refine J_iload o 2 d_X5_route_175 rfl ?_
    refine J_iload o 3 d_X5_route_177 rfl ?_
    refine J_callS o [.ref (wB (wM b) + 350), .int l4, .int l5] mth_X5_carried st_X5_carried ml_RX5_247 ⟨Nat.le_of_ble_eq_true rfl, Nat.le_of_ble_eq_true rfl⟩ rfl rfl (Nat.le_of_ble_eq_true rfl) ⟨Nat.le_refl _, Nat.le_refl _⟩ d_X5_route_179 (w_X5_carried (xL x) b A_350 h) (aI (fun r179 s179 h => ?_))
    refine J_istore (lv' := [(4, .int r179), (0, .ref (wB (wM b) + 347)), (2, .int v2), (5, .int l5), (6, .int l6), (7, .int l7)]) o d_X5_route_182 (by decide) rfl ?_
    refine J_iinc (lv' := [(6, .int (l6 + 1)), (4, .int r179), (0, .ref (wB (wM b) + 347)), (2, .int v2), (5, .int l5), (7, .int l7)]) o 4 d_X5_route_184 (by decide) rfl iconst_1 rfl ?_
    refine J_goto o 77 d_X5_route_187 rfl ?_
    refine J_sub [2, 3, 1, 4, 0] rfl ?_
    exact hKO77 r179 l5 (l6 + 1) s179  h
  · replace h := h.2 c162
    refine J_iinc (lv' := [(5, .int (l5 + 1)), (0, .ref (wB (wM b) + 347)), (2, .int v2), (4, .int l4), (6, .int l6), (7, .int l7)]) o 3 d_X5_route_165 (by decide) rfl iconst_1 rfl ?_
    refine J_goto o 104 d_X5_route_168 rfl ?_
    refine J_sub [1, 2, 3, 0, 4, 5] rfl ?_
    exact hKO104 l4 (l5 + 1) l6 l7 s147  h
set_option maxHeartbeats 4000000 in
set_option maxRecDepth 20000 in
theorem c_X5_route_104 {x : Cx} {b : Wy} (o : Ok x (wM b) cX5_route 8 RX5 (some .int) rm_X5_route) {v1 : Int32} {v2 : Int32} {K : Int32 → Sg → Prop}  {KO77 : Int32 → Int32 → Int32 → Sg → Prop}  (hKO77 : ∀ (l4 : Int32) (l5 : Int32) (l6 : Int32) (σ : Sg), KO77 l4 l5 l6 σ → J x (wM b) (FinC x (wM b) (PI K) (0, 0)) 77 [(0, .ref (wB (wM b) + 347)), (2, .int v2), (4, .int l4), (5, .int l5), (6, .int l6)] [] (0, 0) σ) : ∀ (n : Nat) (l4 : Int32) (l5 : Int32) (l6 : Int32) (l7 : Int32) (σ : Sg), m_X5_route_l104 v1 v2 K KO77 n l4 l5 l6 l7 σ → J x (wM b) (FinC x (wM b) (PI K) (0, 0)) 104 [(0, .ref (wB (wM b) + 347)), (2, .int v2), (4, .int l4), (5, .int l5), (6, .int l6), (7, .int l7)] [] (0, 0) σ := by
  intro n
  induction n with
  | zero =>
    intro l4 l5 l6 l7 σ  h
    exact False.elim h
  | succ n ih =>
    intro l4 l5 l6 l7 σ  h
    unfold m_X5_route_l104 at h
    refine J_iload o 3 d_X5_route_104 rfl ?_
    refine J_if_le o 123 d_X5_route_106 rfl (fun c106 => ?_) (fun c106 => ?_)
    · replace h := h.1 c106
      exact c_X5_route_123 o  hKO77 ih l4 l5 l6 l7 σ  h
    · replace h := h.2 c106
      refine J_aload_n o 0 d_X5_route_109 rfl ?_
      refine J_getR (t := 350) o fl_RX5_20 rfl (Nat.le_of_ble_eq_true rfl) (Nat.le_of_ble_eq_true rfl) rfl rfl d_X5_route_110 ?_
      refine J_iload o 2 d_X5_route_113 rfl ?_
      refine J_iload o 3 d_X5_route_115 rfl ?_
      refine J_callS o [.ref (wB (wM b) + 350), .int l4, .int l5] mth_X5_goes st_X5_goes ml_RX5_75 ⟨Nat.le_of_ble_eq_true rfl, Nat.le_of_ble_eq_true rfl⟩ rfl rfl (Nat.le_of_ble_eq_true rfl) ⟨Nat.le_refl _, Nat.le_refl _⟩ d_X5_route_117 (w_X5_goes (xL x) b A_350 h) (aZ (fun r117 s117 hzr117 h => ?_))
      refine J_if_eq o 165 d_X5_route_120 rfl (fun c120 => ?_) (fun c120 => ?_)
      · replace h := h.1 c120
        refine J_iinc (lv' := [(5, .int (l5 + 1)), (0, .ref (wB (wM b) + 347)), (2, .int v2), (4, .int l4), (6, .int l6), (7, .int l7)]) o 3 d_X5_route_165 (by decide) rfl iconst_1 rfl ?_
        refine J_goto o 104 d_X5_route_168 rfl ?_
        refine J_sub [1, 2, 3, 0, 4, 5] rfl ?_
        exact ih l4 (l5 + 1) l6 l7 s117  h
      · replace h := h.2 c120
        exact c_X5_route_123 o  hKO77 ih l4 l5 l6 l7 s117  h
set_option maxHeartbeats 4000000 in
set_option maxRecDepth 20000 in
theorem c_X5_route_77 {x : Cx} {b : Wy} (o : Ok x (wM b) cX5_route 8 RX5 (some .int) rm_X5_route) {v1 : Int32} {v2 : Int32} {K : Int32 → Sg → Prop}   : ∀ (n : Nat) (l4 : Int32) (l5 : Int32) (l6 : Int32) (σ : Sg), m_X5_route_l77 v1 v2 K  n l4 l5 l6 σ → J x (wM b) (FinC x (wM b) (PI K) (0, 0)) 77 [(0, .ref (wB (wM b) + 347)), (2, .int v2), (4, .int l4), (5, .int l5), (6, .int l6)] [] (0, 0) σ := by
  intro n
  induction n with
  | zero =>
    intro l4 l5 l6 σ  h
    exact False.elim h
  | succ n ih =>
    intro l4 l5 l6 σ  h
    unfold m_X5_route_l77 at h
    refine J_iload o 4 d_X5_route_77 rfl ?_
    refine J_iload_n o 1 d_X5_route_79 rfl ?_
    refine J_icmp_gt o 190 d_X5_route_80 rfl (fun c80 => ?_) (fun c80 => ?_)
    · replace h := h.1 c80
      refine J_iload o 3 d_X5_route_190 rfl ?_
      exact J_iret o d_X5_route_192 ⟨_, rfl, h⟩
    · replace h := h.2 c80
      refine J_aload_n o 0 d_X5_route_83 rfl ?_
      refine J_getR (t := 350) o fl_RX5_20 rfl (Nat.le_of_ble_eq_true rfl) (Nat.le_of_ble_eq_true rfl) rfl rfl d_X5_route_84 ?_
      refine J_aload_n o 0 d_X5_route_87 rfl ?_
      refine J_getR (t := 350) o fl_RX5_20 rfl (Nat.le_of_ble_eq_true rfl) (Nat.le_of_ble_eq_true rfl) rfl rfl d_X5_route_88 ?_
      refine J_iconst (v := 2) o d_X5_route_91 iconst_2 ?_
      have b92 := h.1
      replace h := h.2
      refine J_iald o A_350 (vpc (rfl : ln 350 = 1098) b92) d_X5_route_92 ?_
      refine J_iload o 4 d_X5_route_93 rfl ?_
      refine J_iadd o d_X5_route_95 ?_
      refine J_callS o [.ref (wB (wM b) + 350), .int ((σ 350 (2 : Int32).toNatClampNeg) + l6)] mth_X5_windOf st_X5_windOf ml_RX5_82 ⟨Nat.le_of_ble_eq_true rfl, Nat.le_of_ble_eq_true rfl⟩ rfl rfl (Nat.le_of_ble_eq_true rfl) ⟨Nat.le_refl _, Nat.le_refl _⟩ d_X5_route_96 (w_X5_windOf (xL x) b A_350 h) (aI (fun r96 s96 h => ?_))
      refine J_istore (lv' := [(7, .int r96), (0, .ref (wB (wM b) + 347)), (2, .int v2), (4, .int l4), (5, .int l5), (6, .int l6)]) o d_X5_route_99 (by decide) rfl ?_
      refine J_iconst (v := 0) o d_X5_route_101 iconst_0 ?_
      refine J_istore (lv' := [(5, .int 0), (7, .int r96), (0, .ref (wB (wM b) + 347)), (2, .int v2), (4, .int l4), (6, .int l6)]) o d_X5_route_102 (by decide) rfl ?_
      refine J_sub [2, 3, 4, 0, 5, 1] rfl ?_
      obtain ⟨n9, h⟩ := h
      exact c_X5_route_104 o  ih n9 l4 0 l6 r96 s96  h
set_option maxHeartbeats 4000000 in
set_option maxRecDepth 20000 in
theorem c_X5_route_19 {x : Cx} {b : Wy} (o : Ok x (wM b) cX5_route 8 RX5 (some .int) rm_X5_route) {v1 : Int32} {v2 : Int32} {K : Int32 → Sg → Prop}   : ∀ (k1 : Int32) (σ : Sg), m_X5_route_j19 v1 v2 K  k1 σ → J x (wM b) (FinC x (wM b) (PI K) (0, 0)) 19 [(0, .ref (wB (wM b) + 347)), (1, .int v1), (2, .int v2)] [.int k1, .ref (wB (wM b) + 347)] (0, 0) σ := by
  intro k1 σ  h
  unfold m_X5_route_j19 at h
  refine J_iconst (v := 1) o d_X5_route_19 iconst_1 ?_
  refine J_iconst (v := 0) o d_X5_route_20 iconst_0 ?_
  refine J_callV (k := 347) (c := 5) o [.int k1, .int 1, .int 0] rfl (by decide) (Nat.le_of_ble_eq_true rfl) (Nat.le_of_ble_eq_true rfl) mth_X5_bad iv_X5_bad ml_RX5_216 ⟨Nat.le_of_ble_eq_true rfl, Nat.le_of_ble_eq_true rfl⟩ rfl rfl (Nat.le_of_ble_eq_true rfl) ⟨Nat.le_refl _, Nat.le_refl _⟩ d_X5_route_21 (w_X5_bad (xL x) b  h) (aZ (fun r21 s21 hzr21 h => ?_))
  refine J_if_eq o 29 d_X5_route_24 rfl (fun c24 => ?_) (fun c24 => ?_)
  · replace h := h.1 c24
    refine J_aload_n o 0 d_X5_route_29 rfl ?_
    refine J_iload_n o 1 d_X5_route_30 rfl ?_
    refine J_callV (k := 347) (c := 5) o [.int v1] rfl (by decide) (Nat.le_of_ble_eq_true rfl) (Nat.le_of_ble_eq_true rfl) mth_X5_earliest iv_X5_earliest ml_RX5_280 ⟨Nat.le_of_ble_eq_true rfl, Nat.le_of_ble_eq_true rfl⟩ rfl rfl (Nat.le_of_ble_eq_true rfl) ⟨Nat.le_refl _, Nat.le_refl _⟩ d_X5_route_31 (w_X5_earliest (xL x) b  h) (aI (fun r31 s31 h => ?_))
    refine J_istore_n (lv' := [(3, .int r31), (0, .ref (wB (wM b) + 347)), (1, .int v1), (2, .int v2)]) o d_X5_route_34 (by decide) rfl ?_
    refine J_iload_n o 0 d_X5_route_35 rfl ?_
    refine J_iconst (v := (-1)) o d_X5_route_36 iconst_m1 ?_
    refine J_icmp_eq o 51 d_X5_route_37 rfl (fun c37 => ?_) (fun c37 => ?_)
    · replace h := h.1 c37
      refine J_iconst (v := (-1)) o d_X5_route_51 iconst_m1 ?_
      exact J_iret o d_X5_route_52 ⟨_, rfl, h⟩
    · replace h := h.2 c37
      refine J_iload_n o 3 d_X5_route_40 rfl ?_
      refine J_iconst (v := 0) o d_X5_route_41 iconst_0 ?_
      refine J_iload_n o 0 d_X5_route_42 rfl ?_
      refine J_iconst (v := 1) o d_X5_route_43 iconst_1 ?_
      refine J_isub o d_X5_route_44 ?_
      refine J_callS o [.int v2, .int 0, .int (r31 - 1)] mth_X5_in st_X5_in ml_RX5_56 ⟨Nat.le_of_ble_eq_true rfl, Nat.le_of_ble_eq_true rfl⟩ rfl rfl (Nat.le_of_ble_eq_true rfl) ⟨Nat.le_refl _, Nat.le_refl _⟩ d_X5_route_45 (w_X5_in (xL x) b  h) (aZ (fun r45 s45 hzr45 h => ?_))
      refine J_if_ne o 53 d_X5_route_48 rfl (fun c48 => ?_) (fun c48 => ?_)
      · replace h := h.1 c48
        refine J_aload_n o 1 d_X5_route_53 rfl ?_
        refine J_iload_n o 0 d_X5_route_54 rfl ?_
        refine J_aload_n o 1 d_X5_route_55 rfl ?_
        refine J_getR (t := 361) o fl_RX5_31 rfl (Nat.le_of_ble_eq_true rfl) (Nat.le_of_ble_eq_true rfl) rfl rfl d_X5_route_56 ?_
        refine J_iload_n o 0 d_X5_route_59 rfl ?_
        have b60 := h.1
        replace h := h.2
        refine J_iald o A_361 (vpc (rfl : ln 361 = 61) b60) d_X5_route_60 ?_
        refine J_callV (k := 347) (c := 5) o [.int r31, .int (s45 361 r31.toNatClampNeg)] rfl (by decide) (Nat.le_of_ble_eq_true rfl) (Nat.le_of_ble_eq_true rfl) mth_X5_leads iv_X5_leads ml_RX5_283 ⟨Nat.le_of_ble_eq_true rfl, Nat.le_of_ble_eq_true rfl⟩ rfl rfl (Nat.le_of_ble_eq_true rfl) ⟨Nat.le_refl _, Nat.le_refl _⟩ d_X5_route_61 (w_X5_leads (xL x) b  h) (aV (fun s61 h => ?_))
        refine J_aload_n o 1 d_X5_route_64 rfl ?_
        refine J_iload_n o 2 d_X5_route_65 rfl ?_
        refine J_callV (k := 347) (c := 5) o [.int v1] rfl (by decide) (Nat.le_of_ble_eq_true rfl) (Nat.le_of_ble_eq_true rfl) mth_X5_helperCell iv_X5_helperCell ml_RX5_238 ⟨Nat.le_of_ble_eq_true rfl, Nat.le_of_ble_eq_true rfl⟩ rfl rfl (Nat.le_of_ble_eq_true rfl) ⟨Nat.le_refl _, Nat.le_refl _⟩ d_X5_route_66 (w_X5_helperCell (xL x) b  h) (aI (fun r66 s66 h => ?_))
        refine J_istore (lv' := [(4, .int r66), (3, .int r31), (0, .ref (wB (wM b) + 347)), (1, .int v1), (2, .int v2)]) o d_X5_route_69 (by decide) rfl ?_
        refine J_iconst (v := 0) o d_X5_route_71 iconst_0 ?_
        refine J_istore (lv' := [(5, .int 0), (4, .int r66), (3, .int r31), (0, .ref (wB (wM b) + 347)), (1, .int v1), (2, .int v2)]) o d_X5_route_72 (by decide) rfl ?_
        refine J_iconst (v := 0) o d_X5_route_74 iconst_0 ?_
        refine J_istore (lv' := [(6, .int 0), (5, .int 0), (4, .int r66), (3, .int r31), (0, .ref (wB (wM b) + 347)), (1, .int v1), (2, .int v2)]) o d_X5_route_75 (by decide) rfl ?_
        refine J_sub [4, 6, 2, 1, 0] rfl ?_
        obtain ⟨n9, h⟩ := h
        exact c_X5_route_77 o   n9 r66 0 0 s66  h
      · replace h := h.2 c48
        refine J_iconst (v := (-1)) o d_X5_route_51 iconst_m1 ?_
        exact J_iret o d_X5_route_52 ⟨_, rfl, h⟩
  · replace h := h.2 c24
    refine J_iconst (v := 0) o d_X5_route_27 iconst_0 ?_
    exact J_iret o d_X5_route_28 ⟨_, rfl, h⟩
set_option maxHeartbeats 4000000 in
set_option maxRecDepth 20000 in
theorem w_X5_route (l : Launch) (b : Wy) {v1 : Int32} {v2 : Int32} {σ : Sg} {K : Int32 → Sg → Prop}  (h : m_X5_route v1 v2 σ K) : Ct l (wM b) yX5_route cX5_route 8 (some .int) rm_X5_route [.ref (wB (wM b) + 347), .int v1, .int v2] σ (PI K) := by
  unfold m_X5_route at h
  refine Ct.of (own := RX5) (by decide +kernel) rfl (Nat.le_of_ble_eq_true rfl) (fun x hx o => ?_)
  subst hx
  show J x (wM b) (FinC x (wM b) (PI K) (0, 0)) 0 [(0, .ref (wB (wM b) + 347)), (1, .int v1), (2, .int v2)] [] (0, 0) σ
  refine J_aload_n o 0 d_X5_route_0 rfl ?_
  refine J_iconst (v := 0) o d_X5_route_1 iconst_0 ?_
  refine J_put o fl_RX5_50 la_5 rfl (Nat.le_of_ble_eq_true rfl) (Nat.le_of_ble_eq_true rfl) rfl rfl rfl rfl d_X5_route_2 ?_
  refine J_nS (fun s2 es2 => ?_)
  replace h := h s2 es2
  refine J_aload_n o 0 d_X5_route_5 rfl ?_
  refine J_aload_n o 0 d_X5_route_6 rfl ?_
  refine J_iload_n o 1 d_X5_route_7 rfl ?_
  refine J_callV (k := 347) (c := 5) o [.int v1] rfl (by decide) (Nat.le_of_ble_eq_true rfl) (Nat.le_of_ble_eq_true rfl) mth_X5_isHelper iv_X5_isHelper ml_RX5_235 ⟨Nat.le_of_ble_eq_true rfl, Nat.le_of_ble_eq_true rfl⟩ rfl rfl (Nat.le_of_ble_eq_true rfl) ⟨Nat.le_refl _, Nat.le_refl _⟩ d_X5_route_8 (w_X5_isHelper (xL x) b  h) (aZ (fun r8 s8 hzr8 h => ?_))
  refine J_if_ne o 18 d_X5_route_11 rfl (fun c11 => ?_) (fun c11 => ?_)
  · replace h := h.1 c11
    refine J_iconst (v := 0) o d_X5_route_18 iconst_0 ?_
    exact c_X5_route_19 o   0 s8  h
  · replace h := h.2 c11
    refine J_iconst (v := 1) o d_X5_route_14 iconst_1 ?_
    refine J_goto o 19 d_X5_route_15 rfl ?_
    exact c_X5_route_19 o   1 s8  h
theorem d_X5_first_0 : decode cX5_first 0 = .ok (.aload_n 0, 1) := by decide +kernel
theorem d_X5_first_1 : decode cX5_first 1 = .ok (.iconst 0, 1) := by decide +kernel
theorem d_X5_first_2 : decode cX5_first 2 = .ok (.putfield 50, 3) := by decide +kernel
theorem d_X5_first_5 : decode cX5_first 5 = .ok (.iconst (-1), 1) := by decide +kernel
theorem d_X5_first_6 : decode cX5_first 6 = .ok (.istore_n 1, 1) := by decide +kernel
theorem d_X5_first_7 : decode cX5_first 7 = .ok (.iconst 0, 1) := by decide +kernel
theorem d_X5_first_8 : decode cX5_first 8 = .ok (.istore_n 2, 1) := by decide +kernel
theorem d_X5_first_9 : decode cX5_first 9 = .ok (.iconst 0, 1) := by decide +kernel
theorem d_X5_first_10 : decode cX5_first 10 = .ok (.istore_n 3, 1) := by decide +kernel
theorem d_X5_first_11 : decode cX5_first 11 = .ok (.iload_n 3, 1) := by decide +kernel
theorem d_X5_first_12 : decode cX5_first 12 = .ok (.aload_n 0, 1) := by decide +kernel
theorem d_X5_first_13 : decode cX5_first 13 = .ok (.getfield 20, 3) := by decide +kernel
theorem d_X5_first_16 : decode cX5_first 16 = .ok (.iconst 3, 1) := by decide +kernel
theorem d_X5_first_17 : decode cX5_first 17 = .ok (.iaload, 1) := by decide +kernel
theorem d_X5_first_18 : decode cX5_first 18 = .ok (.if_icmp .ge 41, 3) := by decide +kernel
theorem d_X5_first_21 : decode cX5_first 21 = .ok (.aload_n 0, 1) := by decide +kernel
theorem d_X5_first_22 : decode cX5_first 22 = .ok (.iload_n 3, 1) := by decide +kernel
theorem d_X5_first_23 : decode cX5_first 23 = .ok (.invokevirtual 280, 3) := by decide +kernel
theorem d_X5_first_26 : decode cX5_first 26 = .ok (.istore 4, 2) := by decide +kernel
theorem d_X5_first_28 : decode cX5_first 28 = .ok (.iload 4, 2) := by decide +kernel
theorem d_X5_first_30 : decode cX5_first 30 = .ok (.iconst (-1), 1) := by decide +kernel
theorem d_X5_first_31 : decode cX5_first 31 = .ok (.if_icmp .eq 22, 3) := by decide +kernel
theorem d_X5_first_34 : decode cX5_first 34 = .ok (.iload_n 1, 1) := by decide +kernel
theorem d_X5_first_35 : decode cX5_first 35 = .ok (.iconst (-1), 1) := by decide +kernel
theorem d_X5_first_36 : decode cX5_first 36 = .ok (.if_icmp .eq 12, 3) := by decide +kernel
theorem d_X5_first_39 : decode cX5_first 39 = .ok (.iload 4, 2) := by decide +kernel
theorem d_X5_first_41 : decode cX5_first 41 = .ok (.iload_n 2, 1) := by decide +kernel
theorem d_X5_first_42 : decode cX5_first 42 = .ok (.if_icmp .lt 6, 3) := by decide +kernel
theorem d_X5_first_45 : decode cX5_first 45 = .ok (.goto 8, 3) := by decide +kernel
theorem d_X5_first_48 : decode cX5_first 48 = .ok (.iload_n 3, 1) := by decide +kernel
theorem d_X5_first_49 : decode cX5_first 49 = .ok (.istore_n 1, 1) := by decide +kernel
theorem d_X5_first_50 : decode cX5_first 50 = .ok (.iload 4, 2) := by decide +kernel
theorem d_X5_first_52 : decode cX5_first 52 = .ok (.istore_n 2, 1) := by decide +kernel
theorem d_X5_first_53 : decode cX5_first 53 = .ok (.iinc 3 1, 3) := by decide +kernel
theorem d_X5_first_56 : decode cX5_first 56 = .ok (.goto (-45), 3) := by decide +kernel
theorem d_X5_first_59 : decode cX5_first 59 = .ok (.iload_n 1, 1) := by decide +kernel
theorem d_X5_first_60 : decode cX5_first 60 = .ok (.ireturn, 1) := by decide +kernel
abbrev rm_X5_first : Room := { frames := 7, cells := 0, slots := 0, locals := 163 }
set_option maxHeartbeats 4000000 in
set_option maxRecDepth 20000 in
theorem c_X5_first_11 {x : Cx} {b : Wy} (o : Ok x (wM b) cX5_first 5 RX5 (some .int) rm_X5_first)  {K : Int32 → Sg → Prop}   : ∀ (n : Nat) (l1 : Int32) (l2 : Int32) (l3 : Int32) (σ : Sg), m_X5_first_l11  K  n l1 l2 l3 σ → J x (wM b) (FinC x (wM b) (PI K) (0, 0)) 11 [(0, .ref (wB (wM b) + 347)), (1, .int l1), (2, .int l2), (3, .int l3)] [] (0, 0) σ := by
  intro n
  induction n with
  | zero =>
    intro l1 l2 l3 σ  h
    exact False.elim h
  | succ n ih =>
    intro l1 l2 l3 σ  h
    unfold m_X5_first_l11 at h
    refine J_iload_n o 3 d_X5_first_11 rfl ?_
    refine J_aload_n o 0 d_X5_first_12 rfl ?_
    refine J_getR (t := 350) o fl_RX5_20 rfl (Nat.le_of_ble_eq_true rfl) (Nat.le_of_ble_eq_true rfl) rfl rfl d_X5_first_13 ?_
    refine J_iconst (v := 3) o d_X5_first_16 iconst_3 ?_
    have b17 := h.1
    replace h := h.2
    refine J_iald o A_350 (vpc (rfl : ln 350 = 1098) b17) d_X5_first_17 ?_
    refine J_icmp_ge o 59 d_X5_first_18 rfl (fun c18 => ?_) (fun c18 => ?_)
    · replace h := h.1 c18
      refine J_iload_n o 1 d_X5_first_59 rfl ?_
      exact J_iret o d_X5_first_60 ⟨_, rfl, h⟩
    · replace h := h.2 c18
      refine J_aload_n o 0 d_X5_first_21 rfl ?_
      refine J_iload_n o 3 d_X5_first_22 rfl ?_
      refine J_callV (k := 347) (c := 5) o [.int l3] rfl (by decide) (Nat.le_of_ble_eq_true rfl) (Nat.le_of_ble_eq_true rfl) mth_X5_earliest iv_X5_earliest ml_RX5_280 ⟨Nat.le_of_ble_eq_true rfl, Nat.le_of_ble_eq_true rfl⟩ rfl rfl (Nat.le_of_ble_eq_true rfl) ⟨Nat.le_refl _, Nat.le_refl _⟩ d_X5_first_23 (w_X5_earliest (xL x) b  h) (aI (fun r23 s23 h => ?_))
      refine J_istore (lv' := [(4, .int r23), (0, .ref (wB (wM b) + 347)), (1, .int l1), (2, .int l2), (3, .int l3)]) o d_X5_first_26 (by decide) rfl ?_
      refine J_iload o 0 d_X5_first_28 rfl ?_
      refine J_iconst (v := (-1)) o d_X5_first_30 iconst_m1 ?_
      refine J_icmp_eq o 53 d_X5_first_31 rfl (fun c31 => ?_) (fun c31 => ?_)
      · replace h := h.1 c31
        refine J_iinc (lv' := [(3, .int (l3 + 1)), (4, .int r23), (0, .ref (wB (wM b) + 347)), (1, .int l1), (2, .int l2)]) o 4 d_X5_first_53 (by decide) rfl iconst_1 rfl ?_
        refine J_goto o 11 d_X5_first_56 rfl ?_
        refine J_sub [2, 3, 4, 0] rfl ?_
        exact ih l1 l2 (l3 + 1) s23  h
      · replace h := h.2 c31
        refine J_iload_n o 2 d_X5_first_34 rfl ?_
        refine J_iconst (v := (-1)) o d_X5_first_35 iconst_m1 ?_
        refine J_icmp_eq o 48 d_X5_first_36 rfl (fun c36 => ?_) (fun c36 => ?_)
        · replace h := h.1 c36
          refine J_iload_n o 4 d_X5_first_48 rfl ?_
          refine J_istore_n (lv' := [(1, .int l3), (4, .int r23), (0, .ref (wB (wM b) + 347)), (2, .int l2), (3, .int l3)]) o d_X5_first_49 (by decide) rfl ?_
          refine J_iload o 1 d_X5_first_50 rfl ?_
          refine J_istore_n (lv' := [(2, .int r23), (1, .int l3), (4, .int r23), (0, .ref (wB (wM b) + 347)), (3, .int l3)]) o d_X5_first_52 (by decide) rfl ?_
          refine J_iinc (lv' := [(3, .int (l3 + 1)), (2, .int r23), (1, .int l3), (4, .int r23), (0, .ref (wB (wM b) + 347))]) o 4 d_X5_first_53 (by decide) rfl iconst_1 rfl ?_
          refine J_goto o 11 d_X5_first_56 rfl ?_
          refine J_sub [4, 2, 1, 0] rfl ?_
          exact ih l3 r23 (l3 + 1) s23  h
        · replace h := h.2 c36
          refine J_iload o 0 d_X5_first_39 rfl ?_
          refine J_iload_n o 3 d_X5_first_41 rfl ?_
          refine J_icmp_lt o 48 d_X5_first_42 rfl (fun c42 => ?_) (fun c42 => ?_)
          · replace h := h.1 c42
            refine J_iload_n o 4 d_X5_first_48 rfl ?_
            refine J_istore_n (lv' := [(1, .int l3), (4, .int r23), (0, .ref (wB (wM b) + 347)), (2, .int l2), (3, .int l3)]) o d_X5_first_49 (by decide) rfl ?_
            refine J_iload o 1 d_X5_first_50 rfl ?_
            refine J_istore_n (lv' := [(2, .int r23), (1, .int l3), (4, .int r23), (0, .ref (wB (wM b) + 347)), (3, .int l3)]) o d_X5_first_52 (by decide) rfl ?_
            refine J_iinc (lv' := [(3, .int (l3 + 1)), (2, .int r23), (1, .int l3), (4, .int r23), (0, .ref (wB (wM b) + 347))]) o 4 d_X5_first_53 (by decide) rfl iconst_1 rfl ?_
            refine J_goto o 11 d_X5_first_56 rfl ?_
            refine J_sub [4, 2, 1, 0] rfl ?_
            exact ih l3 r23 (l3 + 1) s23  h
          · replace h := h.2 c42
            refine J_goto o 53 d_X5_first_45 rfl ?_
            refine J_iinc (lv' := [(3, .int (l3 + 1)), (4, .int r23), (0, .ref (wB (wM b) + 347)), (1, .int l1), (2, .int l2)]) o 4 d_X5_first_53 (by decide) rfl iconst_1 rfl ?_
            refine J_goto o 11 d_X5_first_56 rfl ?_
            refine J_sub [2, 3, 4, 0] rfl ?_
            exact ih l1 l2 (l3 + 1) s23  h
set_option maxHeartbeats 4000000 in
set_option maxRecDepth 20000 in
theorem w_X5_first (l : Launch) (b : Wy)  {σ : Sg} {K : Int32 → Sg → Prop}  (h : m_X5_first  σ K) : Ct l (wM b) yX5_first cX5_first 5 (some .int) rm_X5_first [.ref (wB (wM b) + 347)] σ (PI K) := by
  unfold m_X5_first at h
  refine Ct.of (own := RX5) (by decide +kernel) rfl (Nat.le_of_ble_eq_true rfl) (fun x hx o => ?_)
  subst hx
  show J x (wM b) (FinC x (wM b) (PI K) (0, 0)) 0 [(0, .ref (wB (wM b) + 347))] [] (0, 0) σ
  refine J_aload_n o 0 d_X5_first_0 rfl ?_
  refine J_iconst (v := 0) o d_X5_first_1 iconst_0 ?_
  refine J_put o fl_RX5_50 la_5 rfl (Nat.le_of_ble_eq_true rfl) (Nat.le_of_ble_eq_true rfl) rfl rfl rfl rfl d_X5_first_2 ?_
  refine J_nS (fun s2 es2 => ?_)
  replace h := h s2 es2
  refine J_iconst (v := (-1)) o d_X5_first_5 iconst_m1 ?_
  refine J_istore_n (lv' := [(1, .int (-1)), (0, .ref (wB (wM b) + 347))]) o d_X5_first_6 (by decide) rfl ?_
  refine J_iconst (v := 0) o d_X5_first_7 iconst_0 ?_
  refine J_istore_n (lv' := [(2, .int 0), (1, .int (-1)), (0, .ref (wB (wM b) + 347))]) o d_X5_first_8 (by decide) rfl ?_
  refine J_iconst (v := 0) o d_X5_first_9 iconst_0 ?_
  refine J_istore_n (lv' := [(3, .int 0), (2, .int 0), (1, .int (-1)), (0, .ref (wB (wM b) + 347))]) o d_X5_first_10 (by decide) rfl ?_
  refine J_sub [3, 2, 1, 0] rfl ?_
  obtain ⟨n9, h⟩ := h
  exact c_X5_first_11 o   n9 (-1) 0 0 s2  h
theorem d_X5_least_0 : decode cX5_least 0 = .ok (.aload_n 0, 1) := by decide +kernel
theorem d_X5_least_1 : decode cX5_least 1 = .ok (.iconst 0, 1) := by decide +kernel
theorem d_X5_least_2 : decode cX5_least 2 = .ok (.putfield 50, 3) := by decide +kernel
theorem d_X5_least_5 : decode cX5_least 5 = .ok (.aload_n 0, 1) := by decide +kernel
theorem d_X5_least_6 : decode cX5_least 6 = .ok (.aload_n 0, 1) := by decide +kernel
theorem d_X5_least_7 : decode cX5_least 7 = .ok (.iload_n 1, 1) := by decide +kernel
theorem d_X5_least_8 : decode cX5_least 8 = .ok (.invokevirtual 235, 3) := by decide +kernel
theorem d_X5_least_11 : decode cX5_least 11 = .ok (.ifCond .ne 7, 3) := by decide +kernel
theorem d_X5_least_14 : decode cX5_least 14 = .ok (.iconst 1, 1) := by decide +kernel
theorem d_X5_least_15 : decode cX5_least 15 = .ok (.goto 4, 3) := by decide +kernel
theorem d_X5_least_18 : decode cX5_least 18 = .ok (.iconst 0, 1) := by decide +kernel
theorem d_X5_least_19 : decode cX5_least 19 = .ok (.iconst 1, 1) := by decide +kernel
theorem d_X5_least_20 : decode cX5_least 20 = .ok (.iconst 0, 1) := by decide +kernel
theorem d_X5_least_21 : decode cX5_least 21 = .ok (.invokevirtual 216, 3) := by decide +kernel
theorem d_X5_least_24 : decode cX5_least 24 = .ok (.ifCond .ne 27, 3) := by decide +kernel
theorem d_X5_least_27 : decode cX5_least 27 = .ok (.aload_n 0, 1) := by decide +kernel
theorem d_X5_least_28 : decode cX5_least 28 = .ok (.iload_n 2, 1) := by decide +kernel
theorem d_X5_least_29 : decode cX5_least 29 = .ok (.iconst 0, 1) := by decide +kernel
theorem d_X5_least_30 : decode cX5_least 30 = .ok (.bipush 60, 2) := by decide +kernel
theorem d_X5_least_32 : decode cX5_least 32 = .ok (.invokestatic 56, 3) := by decide +kernel
theorem d_X5_least_35 : decode cX5_least 35 = .ok (.ifCond .ne 7, 3) := by decide +kernel
theorem d_X5_least_38 : decode cX5_least 38 = .ok (.iconst 1, 1) := by decide +kernel
theorem d_X5_least_39 : decode cX5_least 39 = .ok (.goto 4, 3) := by decide +kernel
theorem d_X5_least_42 : decode cX5_least 42 = .ok (.iconst 0, 1) := by decide +kernel
theorem d_X5_least_43 : decode cX5_least 43 = .ok (.iconst 2, 1) := by decide +kernel
theorem d_X5_least_44 : decode cX5_least 44 = .ok (.iconst 1, 1) := by decide +kernel
theorem d_X5_least_45 : decode cX5_least 45 = .ok (.invokevirtual 216, 3) := by decide +kernel
theorem d_X5_least_48 : decode cX5_least 48 = .ok (.ifCond .eq 5, 3) := by decide +kernel
theorem d_X5_least_51 : decode cX5_least 51 = .ok (.iconst 0, 1) := by decide +kernel
theorem d_X5_least_52 : decode cX5_least 52 = .ok (.ireturn, 1) := by decide +kernel
theorem d_X5_least_53 : decode cX5_least 53 = .ok (.aload_n 0, 1) := by decide +kernel
theorem d_X5_least_54 : decode cX5_least 54 = .ok (.iload_n 1, 1) := by decide +kernel
theorem d_X5_least_55 : decode cX5_least 55 = .ok (.invokevirtual 280, 3) := by decide +kernel
theorem d_X5_least_58 : decode cX5_least 58 = .ok (.istore_n 3, 1) := by decide +kernel
theorem d_X5_least_59 : decode cX5_least 59 = .ok (.ldc_w 272, 3) := by decide +kernel
theorem d_X5_least_62 : decode cX5_least 62 = .ok (.istore 4, 2) := by decide +kernel
theorem d_X5_least_64 : decode cX5_least 64 = .ok (.iconst 0, 1) := by decide +kernel
theorem d_X5_least_65 : decode cX5_least 65 = .ok (.istore 5, 2) := by decide +kernel
theorem d_X5_least_67 : decode cX5_least 67 = .ok (.iload 5, 2) := by decide +kernel
theorem d_X5_least_69 : decode cX5_least 69 = .ok (.iload_n 2, 1) := by decide +kernel
theorem d_X5_least_70 : decode cX5_least 70 = .ok (.if_icmp .gt 31, 3) := by decide +kernel
theorem d_X5_least_73 : decode cX5_least 73 = .ok (.iload 4, 2) := by decide +kernel
theorem d_X5_least_75 : decode cX5_least 75 = .ok (.aload_n 0, 1) := by decide +kernel
theorem d_X5_least_76 : decode cX5_least 76 = .ok (.getfield 37, 3) := by decide +kernel
theorem d_X5_least_79 : decode cX5_least 79 = .ok (.iload 5, 2) := by decide +kernel
theorem d_X5_least_81 : decode cX5_least 81 = .ok (.aaload, 1) := by decide +kernel
theorem d_X5_least_82 : decode cX5_least 82 = .ok (.aload_n 0, 1) := by decide +kernel
theorem d_X5_least_83 : decode cX5_least 83 = .ok (.getfield 31, 3) := by decide +kernel
theorem d_X5_least_86 : decode cX5_least 86 = .ok (.iload 5, 2) := by decide +kernel
theorem d_X5_least_88 : decode cX5_least 88 = .ok (.iaload, 1) := by decide +kernel
theorem d_X5_least_89 : decode cX5_least 89 = .ok (.iaload, 1) := by decide +kernel
theorem d_X5_least_90 : decode cX5_least 90 = .ok (.invokestatic 86, 3) := by decide +kernel
theorem d_X5_least_93 : decode cX5_least 93 = .ok (.istore 4, 2) := by decide +kernel
theorem d_X5_least_95 : decode cX5_least 95 = .ok (.iinc 5 1, 3) := by decide +kernel
theorem d_X5_least_98 : decode cX5_least 98 = .ok (.goto (-31), 3) := by decide +kernel
theorem d_X5_least_101 : decode cX5_least 101 = .ok (.iload 4, 2) := by decide +kernel
theorem d_X5_least_103 : decode cX5_least 103 = .ok (.ldc_w 272, 3) := by decide +kernel
theorem d_X5_least_106 : decode cX5_least 106 = .ok (.if_icmp .ne 7, 3) := by decide +kernel
theorem d_X5_least_109 : decode cX5_least 109 = .ok (.iconst (-1), 1) := by decide +kernel
theorem d_X5_least_110 : decode cX5_least 110 = .ok (.goto 5, 3) := by decide +kernel
theorem d_X5_least_113 : decode cX5_least 113 = .ok (.iload 4, 2) := by decide +kernel
theorem d_X5_least_115 : decode cX5_least 115 = .ok (.ireturn, 1) := by decide +kernel
abbrev rm_X5_least : Room := { frames := 7, cells := 0, slots := 0, locals := 163 }
set_option maxHeartbeats 4000000 in
set_option maxRecDepth 20000 in
theorem c_X5_least_67 {x : Cx} {b : Wy} (o : Ok x (wM b) cX5_least 6 RX5 (some .int) rm_X5_least) {v1 : Int32} {v2 : Int32} {K : Int32 → Sg → Prop}   : ∀ (n : Nat) (l4 : Int32) (l5 : Int32) (σ : Sg), m_X5_least_l67 v1 v2 K  n l4 l5 σ → J x (wM b) (FinC x (wM b) (PI K) (0, 0)) 67 [(0, .ref (wB (wM b) + 347)), (2, .int v2), (4, .int l4), (5, .int l5)] [] (0, 0) σ := by
  intro n
  induction n with
  | zero =>
    intro l4 l5 σ  h
    exact False.elim h
  | succ n ih =>
    intro l4 l5 σ  h
    unfold m_X5_least_l67 at h
    refine J_iload o 3 d_X5_least_67 rfl ?_
    refine J_iload_n o 1 d_X5_least_69 rfl ?_
    refine J_icmp_gt o 101 d_X5_least_70 rfl (fun c70 => ?_) (fun c70 => ?_)
    · replace h := h.1 c70
      refine J_iload o 2 d_X5_least_101 rfl ?_
      refine J_ldcw o d_X5_least_103 ci_RX5_272 ?_
      refine J_icmp_ne o 113 d_X5_least_106 rfl (fun c106 => ?_) (fun c106 => ?_)
      · replace h := h.1 c106
        refine J_iload o 2 d_X5_least_113 rfl ?_
        exact J_iret o d_X5_least_115 ⟨_, rfl, h⟩
      · replace h := h.2 c106
        refine J_iconst (v := (-1)) o d_X5_least_109 iconst_m1 ?_
        refine J_goto o 115 d_X5_least_110 rfl ?_
        exact J_iret o d_X5_least_115 ⟨_, rfl, h⟩
    · replace h := h.2 c70
      refine J_iload o 2 d_X5_least_73 rfl ?_
      refine J_aload_n o 0 d_X5_least_75 rfl ?_
      refine J_getR (t := 363) o fl_RX5_37 rfl (Nat.le_of_ble_eq_true rfl) (Nat.le_of_ble_eq_true rfl) rfl rfl d_X5_least_76 ?_
      refine J_iload o 3 d_X5_least_79 rfl ?_
      have b81 := h.1
      replace h := h.2
      refine J_aald (t := (363 + 1 + l5.toNatClampNeg)) o 2 (by decide) (G_k G_363) (G_lo G_363) (G_hi G_363) (vpc (G_l G_363) b81) (G_t G_363 _) d_X5_least_81 ?_
      refine J_aload_n o 0 d_X5_least_82 rfl ?_
      refine J_getR (t := 361) o fl_RX5_31 rfl (Nat.le_of_ble_eq_true rfl) (Nat.le_of_ble_eq_true rfl) rfl rfl d_X5_least_83 ?_
      refine J_iload o 3 d_X5_least_86 rfl ?_
      have b88 := h.1
      replace h := h.2
      refine J_iald o A_361 (vpc (rfl : ln 361 = 61) b88) d_X5_least_88 ?_
      have b89 := h.1
      replace h := h.2
      refine J_iald o (G_A G_363 b81) (vpc (G_L G_363 b81) b89) d_X5_least_89 ?_
      refine J_callS o [.int l4, .int (σ (363 + 1 + l5.toNatClampNeg) (σ 361 l5.toNatClampNeg).toNatClampNeg)] mth_X5_less st_X5_less ml_RX5_86 ⟨Nat.le_of_ble_eq_true rfl, Nat.le_of_ble_eq_true rfl⟩ rfl rfl (Nat.le_of_ble_eq_true rfl) ⟨Nat.le_refl _, Nat.le_refl _⟩ d_X5_least_90 (w_X5_less (xL x) b  h) (aI (fun r90 s90 h => ?_))
      refine J_istore (lv' := [(4, .int r90), (0, .ref (wB (wM b) + 347)), (2, .int v2), (5, .int l5)]) o d_X5_least_93 (by decide) rfl ?_
      refine J_iinc (lv' := [(5, .int (l5 + 1)), (4, .int r90), (0, .ref (wB (wM b) + 347)), (2, .int v2)]) o 3 d_X5_least_95 (by decide) rfl iconst_1 rfl ?_
      refine J_goto o 67 d_X5_least_98 rfl ?_
      refine J_sub [2, 3, 1, 0] rfl ?_
      exact ih r90 (l5 + 1) s90  h
set_option maxHeartbeats 4000000 in
set_option maxRecDepth 20000 in
theorem c_X5_least_43 {x : Cx} {b : Wy} (o : Ok x (wM b) cX5_least 6 RX5 (some .int) rm_X5_least) {v1 : Int32} {v2 : Int32} {K : Int32 → Sg → Prop}   : ∀ (k1 : Int32) (σ : Sg), m_X5_least_j43 v1 v2 K  k1 σ → J x (wM b) (FinC x (wM b) (PI K) (0, 0)) 43 [(0, .ref (wB (wM b) + 347)), (1, .int v1), (2, .int v2)] [.int k1, .ref (wB (wM b) + 347)] (0, 0) σ := by
  intro k1 σ  h
  unfold m_X5_least_j43 at h
  refine J_iconst (v := 2) o d_X5_least_43 iconst_2 ?_
  refine J_iconst (v := 1) o d_X5_least_44 iconst_1 ?_
  refine J_callV (k := 347) (c := 5) o [.int k1, .int 2, .int 1] rfl (by decide) (Nat.le_of_ble_eq_true rfl) (Nat.le_of_ble_eq_true rfl) mth_X5_bad iv_X5_bad ml_RX5_216 ⟨Nat.le_of_ble_eq_true rfl, Nat.le_of_ble_eq_true rfl⟩ rfl rfl (Nat.le_of_ble_eq_true rfl) ⟨Nat.le_refl _, Nat.le_refl _⟩ d_X5_least_45 (w_X5_bad (xL x) b  h) (aZ (fun r45 s45 hzr45 h => ?_))
  refine J_if_eq o 53 d_X5_least_48 rfl (fun c48 => ?_) (fun c48 => ?_)
  · replace h := h.1 c48
    refine J_aload_n o 0 d_X5_least_53 rfl ?_
    refine J_iload_n o 1 d_X5_least_54 rfl ?_
    refine J_callV (k := 347) (c := 5) o [.int v1] rfl (by decide) (Nat.le_of_ble_eq_true rfl) (Nat.le_of_ble_eq_true rfl) mth_X5_earliest iv_X5_earliest ml_RX5_280 ⟨Nat.le_of_ble_eq_true rfl, Nat.le_of_ble_eq_true rfl⟩ rfl rfl (Nat.le_of_ble_eq_true rfl) ⟨Nat.le_refl _, Nat.le_refl _⟩ d_X5_least_55 (w_X5_earliest (xL x) b  h) (aI (fun r55 s55 h => ?_))
    refine J_istore_n (lv' := [(3, .int r55), (0, .ref (wB (wM b) + 347)), (1, .int v1), (2, .int v2)]) o d_X5_least_58 (by decide) rfl ?_
    refine J_ldcw o d_X5_least_59 ci_RX5_272 ?_
    refine J_istore (lv' := [(4, .int 1048576), (3, .int r55), (0, .ref (wB (wM b) + 347)), (1, .int v1), (2, .int v2)]) o d_X5_least_62 (by decide) rfl ?_
    refine J_iconst (v := 0) o d_X5_least_64 iconst_0 ?_
    refine J_istore (lv' := [(5, .int 0), (4, .int 1048576), (3, .int r55), (0, .ref (wB (wM b) + 347)), (1, .int v1), (2, .int v2)]) o d_X5_least_65 (by decide) rfl ?_
    refine J_sub [3, 5, 1, 0] rfl ?_
    obtain ⟨n9, h⟩ := h
    exact c_X5_least_67 o   n9 1048576 0 s55  h
  · replace h := h.2 c48
    refine J_iconst (v := 0) o d_X5_least_51 iconst_0 ?_
    exact J_iret o d_X5_least_52 ⟨_, rfl, h⟩
set_option maxHeartbeats 4000000 in
set_option maxRecDepth 20000 in
theorem c_X5_least_19 {x : Cx} {b : Wy} (o : Ok x (wM b) cX5_least 6 RX5 (some .int) rm_X5_least) {v1 : Int32} {v2 : Int32} {K : Int32 → Sg → Prop}   : ∀ (k1 : Int32) (σ : Sg), m_X5_least_j19 v1 v2 K  k1 σ → J x (wM b) (FinC x (wM b) (PI K) (0, 0)) 19 [(0, .ref (wB (wM b) + 347)), (1, .int v1), (2, .int v2)] [.int k1, .ref (wB (wM b) + 347)] (0, 0) σ := by
  intro k1 σ  h
  unfold m_X5_least_j19 at h
  refine J_iconst (v := 1) o d_X5_least_19 iconst_1 ?_
  refine J_iconst (v := 0) o d_X5_least_20 iconst_0 ?_
  refine J_callV (k := 347) (c := 5) o [.int k1, .int 1, .int 0] rfl (by decide) (Nat.le_of_ble_eq_true rfl) (Nat.le_of_ble_eq_true rfl) mth_X5_bad iv_X5_bad ml_RX5_216 ⟨Nat.le_of_ble_eq_true rfl, Nat.le_of_ble_eq_true rfl⟩ rfl rfl (Nat.le_of_ble_eq_true rfl) ⟨Nat.le_refl _, Nat.le_refl _⟩ d_X5_least_21 (w_X5_bad (xL x) b  h) (aZ (fun r21 s21 hzr21 h => ?_))
  refine J_if_ne o 51 d_X5_least_24 rfl (fun c24 => ?_) (fun c24 => ?_)
  · replace h := h.1 c24
    refine J_iconst (v := 0) o d_X5_least_51 iconst_0 ?_
    exact J_iret o d_X5_least_52 ⟨_, rfl, h⟩
  · replace h := h.2 c24
    refine J_aload_n o 0 d_X5_least_27 rfl ?_
    refine J_iload_n o 2 d_X5_least_28 rfl ?_
    refine J_iconst (v := 0) o d_X5_least_29 iconst_0 ?_
    refine J_bipush (v := 60) o d_X5_least_30 bipush_60 ?_
    refine J_callS o [.int v2, .int 0, .int 60] mth_X5_in st_X5_in ml_RX5_56 ⟨Nat.le_of_ble_eq_true rfl, Nat.le_of_ble_eq_true rfl⟩ rfl rfl (Nat.le_of_ble_eq_true rfl) ⟨Nat.le_refl _, Nat.le_refl _⟩ d_X5_least_32 (w_X5_in (xL x) b  h) (aZ (fun r32 s32 hzr32 h => ?_))
    refine J_if_ne o 42 d_X5_least_35 rfl (fun c35 => ?_) (fun c35 => ?_)
    · replace h := h.1 c35
      refine J_iconst (v := 0) o d_X5_least_42 iconst_0 ?_
      exact c_X5_least_43 o   0 s32  h
    · replace h := h.2 c35
      refine J_iconst (v := 1) o d_X5_least_38 iconst_1 ?_
      refine J_goto o 43 d_X5_least_39 rfl ?_
      exact c_X5_least_43 o   1 s32  h
set_option maxHeartbeats 4000000 in
set_option maxRecDepth 20000 in
theorem w_X5_least (l : Launch) (b : Wy) {v1 : Int32} {v2 : Int32} {σ : Sg} {K : Int32 → Sg → Prop}  (h : m_X5_least v1 v2 σ K) : Ct l (wM b) yX5_least cX5_least 6 (some .int) rm_X5_least [.ref (wB (wM b) + 347), .int v1, .int v2] σ (PI K) := by
  unfold m_X5_least at h
  refine Ct.of (own := RX5) (by decide +kernel) rfl (Nat.le_of_ble_eq_true rfl) (fun x hx o => ?_)
  subst hx
  show J x (wM b) (FinC x (wM b) (PI K) (0, 0)) 0 [(0, .ref (wB (wM b) + 347)), (1, .int v1), (2, .int v2)] [] (0, 0) σ
  refine J_aload_n o 0 d_X5_least_0 rfl ?_
  refine J_iconst (v := 0) o d_X5_least_1 iconst_0 ?_
  refine J_put o fl_RX5_50 la_5 rfl (Nat.le_of_ble_eq_true rfl) (Nat.le_of_ble_eq_true rfl) rfl rfl rfl rfl d_X5_least_2 ?_
  refine J_nS (fun s2 es2 => ?_)
  replace h := h s2 es2
  refine J_aload_n o 0 d_X5_least_5 rfl ?_
  refine J_aload_n o 0 d_X5_least_6 rfl ?_
  refine J_iload_n o 1 d_X5_least_7 rfl ?_
  refine J_callV (k := 347) (c := 5) o [.int v1] rfl (by decide) (Nat.le_of_ble_eq_true rfl) (Nat.le_of_ble_eq_true rfl) mth_X5_isHelper iv_X5_isHelper ml_RX5_235 ⟨Nat.le_of_ble_eq_true rfl, Nat.le_of_ble_eq_true rfl⟩ rfl rfl (Nat.le_of_ble_eq_true rfl) ⟨Nat.le_refl _, Nat.le_refl _⟩ d_X5_least_8 (w_X5_isHelper (xL x) b  h) (aZ (fun r8 s8 hzr8 h => ?_))
  refine J_if_ne o 18 d_X5_least_11 rfl (fun c11 => ?_) (fun c11 => ?_)
  · replace h := h.1 c11
    refine J_iconst (v := 0) o d_X5_least_18 iconst_0 ?_
    exact c_X5_least_19 o   0 s8  h
  · replace h := h.2 c11
    refine J_iconst (v := 1) o d_X5_least_14 iconst_1 ?_
    refine J_goto o 19 d_X5_least_15 rfl ?_
    exact c_X5_least_19 o   1 s8  h
