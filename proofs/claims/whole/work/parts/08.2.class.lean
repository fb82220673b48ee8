/-! the walks, printed by program -/
theorem d_X2_readTank_0 : decode cX2_readTank 0 = .ok (.aload_n 0, 1) := by decide +kernel
theorem d_X2_readTank_1 : decode cX2_readTank 1 = .ok (.getfield 49, 3) := by decide +kernel
theorem d_X2_readTank_4 : decode cX2_readTank 4 = .ok (.ifCond .eq 13, 3) := by decide +kernel
theorem d_X2_readTank_7 : decode cX2_readTank 7 = .ok (.aload_n 0, 1) := by decide +kernel
theorem d_X2_readTank_8 : decode cX2_readTank 8 = .ok (.iconst 1, 1) := by decide +kernel
theorem d_X2_readTank_9 : decode cX2_readTank 9 = .ok (.aload_n 0, 1) := by decide +kernel
theorem d_X2_readTank_10 : decode cX2_readTank 10 = .ok (.getfield 18, 3) := by decide +kernel
theorem d_X2_readTank_13 : decode cX2_readTank 13 = .ok (.invokevirtual 79, 3) := by decide +kernel
theorem d_X2_readTank_16 : decode cX2_readTank 16 = .ok (.ireturn, 1) := by decide +kernel
theorem d_X2_readTank_17 : decode cX2_readTank 17 = .ok (.aload_n 0, 1) := by decide +kernel
theorem d_X2_readTank_18 : decode cX2_readTank 18 = .ok (.iconst 1, 1) := by decide +kernel
theorem d_X2_readTank_19 : decode cX2_readTank 19 = .ok (.putfield 49, 3) := by decide +kernel
theorem d_X2_readTank_22 : decode cX2_readTank 22 = .ok (.aload_n 0, 1) := by decide +kernel
theorem d_X2_readTank_23 : decode cX2_readTank 23 = .ok (.iconst 1, 1) := by decide +kernel
theorem d_X2_readTank_24 : decode cX2_readTank 24 = .ok (.sipush 999, 3) := by decide +kernel
theorem d_X2_readTank_27 : decode cX2_readTank 27 = .ok (.invokevirtual 101, 3) := by decide +kernel
theorem d_X2_readTank_30 : decode cX2_readTank 30 = .ok (.ifCond .ne 5, 3) := by decide +kernel
theorem d_X2_readTank_33 : decode cX2_readTank 33 = .ok (.iconst 0, 1) := by decide +kernel
theorem d_X2_readTank_34 : decode cX2_readTank 34 = .ok (.ireturn, 1) := by decide +kernel
theorem d_X2_readTank_35 : decode cX2_readTank 35 = .ok (.aload_n 0, 1) := by decide +kernel
theorem d_X2_readTank_36 : decode cX2_readTank 36 = .ok (.getfield 56, 3) := by decide +kernel
theorem d_X2_readTank_39 : decode cX2_readTank 39 = .ok (.aload_n 0, 1) := by decide +kernel
theorem d_X2_readTank_40 : decode cX2_readTank 40 = .ok (.getfield 21, 3) := by decide +kernel
theorem d_X2_readTank_43 : decode cX2_readTank 43 = .ok (.putfield 198, 3) := by decide +kernel
theorem d_X2_readTank_46 : decode cX2_readTank 46 = .ok (.aload_n 0, 1) := by decide +kernel
theorem d_X2_readTank_47 : decode cX2_readTank 47 = .ok (.invokevirtual 110, 3) := by decide +kernel
theorem d_X2_readTank_50 : decode cX2_readTank 50 = .ok (.ireturn, 1) := by decide +kernel
abbrev rm_X2_readTank : Room := { frames := 3, cells := 0, slots := 0, locals := 61 }
set_option maxHeartbeats 4000000 in
set_option maxRecDepth 20000 in
theorem w_X2_readTank (l : Launch) (b : Wy)  {σ : Sg} {K : Int32 → Sg → Prop}  (h : m_X2_readTank  σ K) : Ct l (wC b) yX2_readTank cX2_readTank 1 (some .boolean) rm_X2_readTank [.ref (wB (wC b) + 18)] σ (PZ K) := by
  unfold m_X2_readTank at h
  refine Ct.of (own := RX2) (by decide +kernel) rfl (Nat.le_of_ble_eq_true rfl) (fun x hx o => ?_)
  subst hx
  show J x (wC b) (FinC x (wC b) (PZ K) (0, 0)) 0 [(0, .ref (wB (wC b) + 18))] [] (0, 0) σ
  refine J_aload_n o 0 d_X2_readTank_0 rfl ?_
  refine J_getI o fl_RX2_49 rfl (Nat.le_of_ble_eq_true rfl) (Nat.le_of_ble_eq_true rfl) rfl d_X2_readTank_1 ?_
  refine J_if_eq o 17 d_X2_readTank_4 rfl (fun c4 => ?_) (fun c4 => ?_)
  · replace h := h.1 c4
    refine J_aload_n o 0 d_X2_readTank_17 rfl ?_
    refine J_iconst (v := 1) o d_X2_readTank_18 iconst_1 ?_
    refine J_put o fl_RX2_49 la_2 rfl (Nat.le_of_ble_eq_true rfl) (Nat.le_of_ble_eq_true rfl) rfl rfl rfl rfl d_X2_readTank_19 ?_
    refine J_nS (fun s19 es19 => ?_)
    replace h := h s19 es19
    refine J_aload_n o 0 d_X2_readTank_22 rfl ?_
    refine J_iconst (v := 1) o d_X2_readTank_23 iconst_1 ?_
    refine J_sipush (v := 999) o d_X2_readTank_24 sipush_999 ?_
    refine J_callV (k := 18) (c := 2) o [.int 1, .int 999] rfl (by decide) (Nat.le_of_ble_eq_true rfl) (Nat.le_of_ble_eq_true rfl) mth_X2_readNumber iv_X2_readNumber ml_RX2_101 ⟨Nat.le_of_ble_eq_true rfl, Nat.le_of_ble_eq_true rfl⟩ rfl rfl (Nat.le_of_ble_eq_true rfl) ⟨Nat.le_refl _, Nat.le_refl _⟩ d_X2_readTank_27 (w_X2_readNumber (xL x) b  h) (aZ (fun r27 s27 hzr27 h => ?_))
    refine J_if_ne o 35 d_X2_readTank_30 rfl (fun c30 => ?_) (fun c30 => ?_)
    · replace h := h.1 c30
      refine J_aload_n o 0 d_X2_readTank_35 rfl ?_
      refine J_getR (t := 10) o fl_RX2_56 rfl (Nat.le_of_ble_eq_true rfl) (Nat.le_of_ble_eq_true rfl) rfl rfl d_X2_readTank_36 ?_
      refine J_aload_n o 0 d_X2_readTank_39 rfl ?_
      refine J_getI o fl_RX2_21 rfl (Nat.le_of_ble_eq_true rfl) (Nat.le_of_ble_eq_true rfl) rfl d_X2_readTank_40 ?_
      refine J_put o fl_RX2_198 la_3 (W_kd W_10) (Nat.zero_le _) (W_hi W_10) rfl rfl rfl rfl d_X2_readTank_43 ?_
      refine J_nS (fun s43 es43 => ?_)
      replace h := h s43 es43
      refine J_aload_n o 0 d_X2_readTank_46 rfl ?_
      refine J_callV (k := 18) (c := 2) o [] rfl (by decide) (Nat.le_of_ble_eq_true rfl) (Nat.le_of_ble_eq_true rfl) mth_X2_readEnd iv_X2_readEnd ml_RX2_110 ⟨Nat.le_of_ble_eq_true rfl, Nat.le_of_ble_eq_true rfl⟩ rfl rfl (Nat.le_of_ble_eq_true rfl) ⟨Nat.le_refl _, Nat.le_refl _⟩ d_X2_readTank_47 (w_X2_readEnd (xL x) b  h) (aZ (fun r47 s47 hzr47 h => ?_))
      exact J_zret o hzr47 d_X2_readTank_50 ⟨_, rfl, hzr47, h⟩
    · replace h := h.2 c30
      refine J_iconst (v := 0) o d_X2_readTank_33 iconst_0 ?_
      exact J_zret o (Or.inl rfl) d_X2_readTank_34 ⟨_, rfl, (Or.inl rfl), h⟩
  · replace h := h.2 c4
    refine J_aload_n o 0 d_X2_readTank_7 rfl ?_
    refine J_iconst (v := 1) o d_X2_readTank_8 iconst_1 ?_
    refine J_aload_n o 0 d_X2_readTank_9 rfl ?_
    refine J_getI o fl_RX2_18 rfl (Nat.le_of_ble_eq_true rfl) (Nat.le_of_ble_eq_true rfl) rfl d_X2_readTank_10 ?_
    refine J_callV (k := 18) (c := 2) o [.int 1, .int (σ 18 4)] rfl (by decide) (Nat.le_of_ble_eq_true rfl) (Nat.le_of_ble_eq_true rfl) mth_X2_fail iv_X2_fail ml_RX2_79 ⟨Nat.le_of_ble_eq_true rfl, Nat.le_of_ble_eq_true rfl⟩ rfl rfl (Nat.le_of_ble_eq_true rfl) ⟨Nat.le_refl _, Nat.le_refl _⟩ d_X2_readTank_13 (w_X2_fail (xL x) b  h) (aZ (fun r13 s13 hzr13 h => ?_))
    exact J_zret o hzr13 d_X2_readTank_16 ⟨_, rfl, hzr13, h⟩
theorem d_X2_readSentence_0 : decode cX2_readSentence 0 = .ok (.aload_n 0, 1) := by decide +kernel
theorem d_X2_readSentence_1 : decode cX2_readSentence 1 = .ok (.invokevirtual 92, 3) := by decide +kernel
theorem d_X2_readSentence_4 : decode cX2_readSentence 4 = .ok (.ifCond .ne 5, 3) := by decide +kernel
theorem d_X2_readSentence_7 : decode cX2_readSentence 7 = .ok (.iconst 0, 1) := by decide +kernel
theorem d_X2_readSentence_8 : decode cX2_readSentence 8 = .ok (.ireturn, 1) := by decide +kernel
theorem d_X2_readSentence_9 : decode cX2_readSentence 9 = .ok (.aload_n 0, 1) := by decide +kernel
theorem d_X2_readSentence_10 : decode cX2_readSentence 10 = .ok (.ldc 113, 2) := by decide +kernel
theorem d_X2_readSentence_12 : decode cX2_readSentence 12 = .ok (.invokevirtual 97, 3) := by decide +kernel
theorem d_X2_readSentence_15 : decode cX2_readSentence 15 = .ok (.ifCond .eq 8, 3) := by decide +kernel
theorem d_X2_readSentence_18 : decode cX2_readSentence 18 = .ok (.aload_n 0, 1) := by decide +kernel
theorem d_X2_readSentence_19 : decode cX2_readSentence 19 = .ok (.invokevirtual 115, 3) := by decide +kernel
theorem d_X2_readSentence_22 : decode cX2_readSentence 22 = .ok (.ireturn, 1) := by decide +kernel
theorem d_X2_readSentence_23 : decode cX2_readSentence 23 = .ok (.aload_n 0, 1) := by decide +kernel
theorem d_X2_readSentence_24 : decode cX2_readSentence 24 = .ok (.ldc 118, 2) := by decide +kernel
theorem d_X2_readSentence_26 : decode cX2_readSentence 26 = .ok (.invokevirtual 97, 3) := by decide +kernel
theorem d_X2_readSentence_29 : decode cX2_readSentence 29 = .ok (.ifCond .eq 8, 3) := by decide +kernel
theorem d_X2_readSentence_32 : decode cX2_readSentence 32 = .ok (.aload_n 0, 1) := by decide +kernel
theorem d_X2_readSentence_33 : decode cX2_readSentence 33 = .ok (.invokevirtual 120, 3) := by decide +kernel
theorem d_X2_readSentence_36 : decode cX2_readSentence 36 = .ok (.ireturn, 1) := by decide +kernel
theorem d_X2_readSentence_37 : decode cX2_readSentence 37 = .ok (.aload_n 0, 1) := by decide +kernel
theorem d_X2_readSentence_38 : decode cX2_readSentence 38 = .ok (.ldc 123, 2) := by decide +kernel
theorem d_X2_readSentence_40 : decode cX2_readSentence 40 = .ok (.invokevirtual 97, 3) := by decide +kernel
theorem d_X2_readSentence_43 : decode cX2_readSentence 43 = .ok (.ifCond .eq 8, 3) := by decide +kernel
theorem d_X2_readSentence_46 : decode cX2_readSentence 46 = .ok (.aload_n 0, 1) := by decide +kernel
theorem d_X2_readSentence_47 : decode cX2_readSentence 47 = .ok (.invokevirtual 125, 3) := by decide +kernel
theorem d_X2_readSentence_50 : decode cX2_readSentence 50 = .ok (.ireturn, 1) := by decide +kernel
theorem d_X2_readSentence_51 : decode cX2_readSentence 51 = .ok (.aload_n 0, 1) := by decide +kernel
theorem d_X2_readSentence_52 : decode cX2_readSentence 52 = .ok (.ldc 128, 2) := by decide +kernel
theorem d_X2_readSentence_54 : decode cX2_readSentence 54 = .ok (.invokevirtual 97, 3) := by decide +kernel
theorem d_X2_readSentence_57 : decode cX2_readSentence 57 = .ok (.ifCond .eq 8, 3) := by decide +kernel
theorem d_X2_readSentence_60 : decode cX2_readSentence 60 = .ok (.aload_n 0, 1) := by decide +kernel
theorem d_X2_readSentence_61 : decode cX2_readSentence 61 = .ok (.invokevirtual 130, 3) := by decide +kernel
theorem d_X2_readSentence_64 : decode cX2_readSentence 64 = .ok (.ireturn, 1) := by decide +kernel
theorem d_X2_readSentence_65 : decode cX2_readSentence 65 = .ok (.aload_n 0, 1) := by decide +kernel
theorem d_X2_readSentence_66 : decode cX2_readSentence 66 = .ok (.ldc 133, 2) := by decide +kernel
theorem d_X2_readSentence_68 : decode cX2_readSentence 68 = .ok (.invokevirtual 97, 3) := by decide +kernel
theorem d_X2_readSentence_71 : decode cX2_readSentence 71 = .ok (.ifCond .eq 8, 3) := by decide +kernel
theorem d_X2_readSentence_74 : decode cX2_readSentence 74 = .ok (.aload_n 0, 1) := by decide +kernel
theorem d_X2_readSentence_75 : decode cX2_readSentence 75 = .ok (.invokevirtual 135, 3) := by decide +kernel
theorem d_X2_readSentence_78 : decode cX2_readSentence 78 = .ok (.ireturn, 1) := by decide +kernel
theorem d_X2_readSentence_79 : decode cX2_readSentence 79 = .ok (.aload_n 0, 1) := by decide +kernel
theorem d_X2_readSentence_80 : decode cX2_readSentence 80 = .ok (.ldc 138, 2) := by decide +kernel
theorem d_X2_readSentence_82 : decode cX2_readSentence 82 = .ok (.invokevirtual 97, 3) := by decide +kernel
theorem d_X2_readSentence_85 : decode cX2_readSentence 85 = .ok (.ifCond .eq 8, 3) := by decide +kernel
theorem d_X2_readSentence_88 : decode cX2_readSentence 88 = .ok (.aload_n 0, 1) := by decide +kernel
theorem d_X2_readSentence_89 : decode cX2_readSentence 89 = .ok (.invokevirtual 140, 3) := by decide +kernel
theorem d_X2_readSentence_92 : decode cX2_readSentence 92 = .ok (.ireturn, 1) := by decide +kernel
theorem d_X2_readSentence_93 : decode cX2_readSentence 93 = .ok (.aload_n 0, 1) := by decide +kernel
theorem d_X2_readSentence_94 : decode cX2_readSentence 94 = .ok (.ldc 143, 2) := by decide +kernel
theorem d_X2_readSentence_96 : decode cX2_readSentence 96 = .ok (.invokevirtual 97, 3) := by decide +kernel
theorem d_X2_readSentence_99 : decode cX2_readSentence 99 = .ok (.ifCond .eq 8, 3) := by decide +kernel
theorem d_X2_readSentence_102 : decode cX2_readSentence 102 = .ok (.aload_n 0, 1) := by decide +kernel
theorem d_X2_readSentence_103 : decode cX2_readSentence 103 = .ok (.invokevirtual 145, 3) := by decide +kernel
theorem d_X2_readSentence_106 : decode cX2_readSentence 106 = .ok (.ireturn, 1) := by decide +kernel
theorem d_X2_readSentence_107 : decode cX2_readSentence 107 = .ok (.aload_n 0, 1) := by decide +kernel
theorem d_X2_readSentence_108 : decode cX2_readSentence 108 = .ok (.iconst 1, 1) := by decide +kernel
theorem d_X2_readSentence_109 : decode cX2_readSentence 109 = .ok (.aload_n 0, 1) := by decide +kernel
theorem d_X2_readSentence_110 : decode cX2_readSentence 110 = .ok (.getfield 18, 3) := by decide +kernel
theorem d_X2_readSentence_113 : decode cX2_readSentence 113 = .ok (.invokevirtual 79, 3) := by decide +kernel
theorem d_X2_readSentence_116 : decode cX2_readSentence 116 = .ok (.ireturn, 1) := by decide +kernel
abbrev rm_X2_readSentence : Room := { frames := 8, cells := 0, slots := 0, locals := 172 }
set_option maxHeartbeats 4000000 in
set_option maxRecDepth 20000 in
theorem w_X2_readSentence (l : Launch) (b : Wy)  {σ : Sg} {K : Int32 → Sg → Prop}  (h : m_X2_readSentence  σ K) : Ct l (wC b) yX2_readSentence cX2_readSentence 1 (some .boolean) rm_X2_readSentence [.ref (wB (wC b) + 18)] σ (PZ K) := by
  unfold m_X2_readSentence at h
  refine Ct.of (own := RX2) (by decide +kernel) rfl (Nat.le_of_ble_eq_true rfl) (fun x hx o => ?_)
  subst hx
  show J x (wC b) (FinC x (wC b) (PZ K) (0, 0)) 0 [(0, .ref (wB (wC b) + 18))] [] (0, 0) σ
  refine J_aload_n o 0 d_X2_readSentence_0 rfl ?_
  refine J_callV (k := 18) (c := 2) o [] rfl (by decide) (Nat.le_of_ble_eq_true rfl) (Nat.le_of_ble_eq_true rfl) mth_X2_readWord iv_X2_readWord ml_RX2_92 ⟨Nat.le_of_ble_eq_true rfl, Nat.le_of_ble_eq_true rfl⟩ rfl rfl (Nat.le_of_ble_eq_true rfl) ⟨Nat.le_refl _, Nat.le_refl _⟩ d_X2_readSentence_1 (w_X2_readWord (xL x) b  h) (aZ (fun r1 s1 hzr1 h => ?_))
  refine J_if_ne o 9 d_X2_readSentence_4 rfl (fun c4 => ?_) (fun c4 => ?_)
  · replace h := h.1 c4
    refine J_aload_n o 0 d_X2_readSentence_9 rfl ?_
    refine J_ldcS (i := 2) (tx := "land") o (List.mem_of_getElem? (i := 2) rfl) d_X2_readSentence_10 ?_
    refine J_callV (k := 18) (c := 2) o [.ref (wK (wC b) 2)] rfl (by decide) (Nat.le_of_ble_eq_true rfl) (Nat.le_of_ble_eq_true rfl) mth_X2_isWord iv_X2_isWord ml_RX2_97 ⟨Nat.le_of_ble_eq_true rfl, Nat.le_of_ble_eq_true rfl⟩ rfl rfl (Nat.le_of_ble_eq_true rfl) ⟨Nat.le_refl _, Nat.le_refl _⟩ d_X2_readSentence_12 (w_X2_isWord (xL x) b (Nat.le_of_ble_eq_true rfl) h) (aZ (fun r12 s12 hzr12 h => ?_))
    refine J_if_eq o 23 d_X2_readSentence_15 rfl (fun c15 => ?_) (fun c15 => ?_)
    · replace h := h.1 c15
      refine J_aload_n o 0 d_X2_readSentence_23 rfl ?_
      refine J_ldcS (i := 3) (tx := "current") o (List.mem_of_getElem? (i := 3) rfl) d_X2_readSentence_24 ?_
      refine J_callV (k := 18) (c := 2) o [.ref (wK (wC b) 3)] rfl (by decide) (Nat.le_of_ble_eq_true rfl) (Nat.le_of_ble_eq_true rfl) mth_X2_isWord iv_X2_isWord ml_RX2_97 ⟨Nat.le_of_ble_eq_true rfl, Nat.le_of_ble_eq_true rfl⟩ rfl rfl (Nat.le_of_ble_eq_true rfl) ⟨Nat.le_refl _, Nat.le_refl _⟩ d_X2_readSentence_26 (w_X2_isWord (xL x) b (Nat.le_of_ble_eq_true rfl) h) (aZ (fun r26 s26 hzr26 h => ?_))
      refine J_if_eq o 37 d_X2_readSentence_29 rfl (fun c29 => ?_) (fun c29 => ?_)
      · replace h := h.1 c29
        refine J_aload_n o 0 d_X2_readSentence_37 rfl ?_
        refine J_ldcS (i := 13) (tx := "wind") o (List.mem_of_getElem? (i := 13) rfl) d_X2_readSentence_38 ?_
        refine J_callV (k := 18) (c := 2) o [.ref (wK (wC b) 13)] rfl (by decide) (Nat.le_of_ble_eq_true rfl) (Nat.le_of_ble_eq_true rfl) mth_X2_isWord iv_X2_isWord ml_RX2_97 ⟨Nat.le_of_ble_eq_true rfl, Nat.le_of_ble_eq_true rfl⟩ rfl rfl (Nat.le_of_ble_eq_true rfl) ⟨Nat.le_refl _, Nat.le_refl _⟩ d_X2_readSentence_40 (w_X2_isWord (xL x) b (Nat.le_of_ble_eq_true rfl) h) (aZ (fun r40 s40 hzr40 h => ?_))
        refine J_if_eq o 51 d_X2_readSentence_43 rfl (fun c43 => ?_) (fun c43 => ?_)
        · replace h := h.1 c43
          refine J_aload_n o 0 d_X2_readSentence_51 rfl ?_
          refine J_ldcS (i := 14) (tx := "drifter") o (List.mem_of_getElem? (i := 14) rfl) d_X2_readSentence_52 ?_
          refine J_callV (k := 18) (c := 2) o [.ref (wK (wC b) 14)] rfl (by decide) (Nat.le_of_ble_eq_true rfl) (Nat.le_of_ble_eq_true rfl) mth_X2_isWord iv_X2_isWord ml_RX2_97 ⟨Nat.le_of_ble_eq_true rfl, Nat.le_of_ble_eq_true rfl⟩ rfl rfl (Nat.le_of_ble_eq_true rfl) ⟨Nat.le_refl _, Nat.le_refl _⟩ d_X2_readSentence_54 (w_X2_isWord (xL x) b (Nat.le_of_ble_eq_true rfl) h) (aZ (fun r54 s54 hzr54 h => ?_))
          refine J_if_eq o 65 d_X2_readSentence_57 rfl (fun c57 => ?_) (fun c57 => ?_)
          · replace h := h.1 c57
            refine J_aload_n o 0 d_X2_readSentence_65 rfl ?_
            refine J_ldcS (i := 15) (tx := "helper") o (List.mem_of_getElem? (i := 15) rfl) d_X2_readSentence_66 ?_
            refine J_callV (k := 18) (c := 2) o [.ref (wK (wC b) 15)] rfl (by decide) (Nat.le_of_ble_eq_true rfl) (Nat.le_of_ble_eq_true rfl) mth_X2_isWord iv_X2_isWord ml_RX2_97 ⟨Nat.le_of_ble_eq_true rfl, Nat.le_of_ble_eq_true rfl⟩ rfl rfl (Nat.le_of_ble_eq_true rfl) ⟨Nat.le_refl _, Nat.le_refl _⟩ d_X2_readSentence_68 (w_X2_isWord (xL x) b (Nat.le_of_ble_eq_true rfl) h) (aZ (fun r68 s68 hzr68 h => ?_))
            refine J_if_eq o 79 d_X2_readSentence_71 rfl (fun c71 => ?_) (fun c71 => ?_)
            · replace h := h.1 c71
              refine J_aload_n o 0 d_X2_readSentence_79 rfl ?_
              refine J_ldcS (i := 16) (tx := "port") o (List.mem_of_getElem? (i := 16) rfl) d_X2_readSentence_80 ?_
              refine J_callV (k := 18) (c := 2) o [.ref (wK (wC b) 16)] rfl (by decide) (Nat.le_of_ble_eq_true rfl) (Nat.le_of_ble_eq_true rfl) mth_X2_isWord iv_X2_isWord ml_RX2_97 ⟨Nat.le_of_ble_eq_true rfl, Nat.le_of_ble_eq_true rfl⟩ rfl rfl (Nat.le_of_ble_eq_true rfl) ⟨Nat.le_refl _, Nat.le_refl _⟩ d_X2_readSentence_82 (w_X2_isWord (xL x) b (Nat.le_of_ble_eq_true rfl) h) (aZ (fun r82 s82 hzr82 h => ?_))
              refine J_if_eq o 93 d_X2_readSentence_85 rfl (fun c85 => ?_) (fun c85 => ?_)
              · replace h := h.1 c85
                refine J_aload_n o 0 d_X2_readSentence_93 rfl ?_
                refine J_ldcS (i := 17) (tx := "tank") o (List.mem_of_getElem? (i := 17) rfl) d_X2_readSentence_94 ?_
                refine J_callV (k := 18) (c := 2) o [.ref (wK (wC b) 17)] rfl (by decide) (Nat.le_of_ble_eq_true rfl) (Nat.le_of_ble_eq_true rfl) mth_X2_isWord iv_X2_isWord ml_RX2_97 ⟨Nat.le_of_ble_eq_true rfl, Nat.le_of_ble_eq_true rfl⟩ rfl rfl (Nat.le_of_ble_eq_true rfl) ⟨Nat.le_refl _, Nat.le_refl _⟩ d_X2_readSentence_96 (w_X2_isWord (xL x) b (Nat.le_of_ble_eq_true rfl) h) (aZ (fun r96 s96 hzr96 h => ?_))
                refine J_if_eq o 107 d_X2_readSentence_99 rfl (fun c99 => ?_) (fun c99 => ?_)
                · replace h := h.1 c99
                  refine J_aload_n o 0 d_X2_readSentence_107 rfl ?_
                  refine J_iconst (v := 1) o d_X2_readSentence_108 iconst_1 ?_
                  refine J_aload_n o 0 d_X2_readSentence_109 rfl ?_
                  refine J_getI o fl_RX2_18 rfl (Nat.le_of_ble_eq_true rfl) (Nat.le_of_ble_eq_true rfl) rfl d_X2_readSentence_110 ?_
                  refine J_callV (k := 18) (c := 2) o [.int 1, .int (s96 18 4)] rfl (by decide) (Nat.le_of_ble_eq_true rfl) (Nat.le_of_ble_eq_true rfl) mth_X2_fail iv_X2_fail ml_RX2_79 ⟨Nat.le_of_ble_eq_true rfl, Nat.le_of_ble_eq_true rfl⟩ rfl rfl (Nat.le_of_ble_eq_true rfl) ⟨Nat.le_refl _, Nat.le_refl _⟩ d_X2_readSentence_113 (w_X2_fail (xL x) b  h) (aZ (fun r113 s113 hzr113 h => ?_))
                  exact J_zret o hzr113 d_X2_readSentence_116 ⟨_, rfl, hzr113, h⟩
                · replace h := h.2 c99
                  refine J_aload_n o 0 d_X2_readSentence_102 rfl ?_
                  refine J_callV (k := 18) (c := 2) o [] rfl (by decide) (Nat.le_of_ble_eq_true rfl) (Nat.le_of_ble_eq_true rfl) mth_X2_readTank iv_X2_readTank ml_RX2_145 ⟨Nat.le_of_ble_eq_true rfl, Nat.le_of_ble_eq_true rfl⟩ rfl rfl (Nat.le_of_ble_eq_true rfl) ⟨Nat.le_refl _, Nat.le_refl _⟩ d_X2_readSentence_103 (w_X2_readTank (xL x) b  h) (aZ (fun r103 s103 hzr103 h => ?_))
                  exact J_zret o hzr103 d_X2_readSentence_106 ⟨_, rfl, hzr103, h⟩
              · replace h := h.2 c85
                refine J_aload_n o 0 d_X2_readSentence_88 rfl ?_
                refine J_callV (k := 18) (c := 2) o [] rfl (by decide) (Nat.le_of_ble_eq_true rfl) (Nat.le_of_ble_eq_true rfl) mth_X2_readPort iv_X2_readPort ml_RX2_140 ⟨Nat.le_of_ble_eq_true rfl, Nat.le_of_ble_eq_true rfl⟩ rfl rfl (Nat.le_of_ble_eq_true rfl) ⟨Nat.le_refl _, Nat.le_refl _⟩ d_X2_readSentence_89 (w_X2_readPort (xL x) b  h) (aZ (fun r89 s89 hzr89 h => ?_))
                exact J_zret o hzr89 d_X2_readSentence_92 ⟨_, rfl, hzr89, h⟩
            · replace h := h.2 c71
              refine J_aload_n o 0 d_X2_readSentence_74 rfl ?_
              refine J_callV (k := 18) (c := 2) o [] rfl (by decide) (Nat.le_of_ble_eq_true rfl) (Nat.le_of_ble_eq_true rfl) mth_X2_readHelper iv_X2_readHelper ml_RX2_135 ⟨Nat.le_of_ble_eq_true rfl, Nat.le_of_ble_eq_true rfl⟩ rfl rfl (Nat.le_of_ble_eq_true rfl) ⟨Nat.le_refl _, Nat.le_refl _⟩ d_X2_readSentence_75 (w_X2_readHelper (xL x) b  h) (aZ (fun r75 s75 hzr75 h => ?_))
              exact J_zret o hzr75 d_X2_readSentence_78 ⟨_, rfl, hzr75, h⟩
          · replace h := h.2 c57
            refine J_aload_n o 0 d_X2_readSentence_60 rfl ?_
            refine J_callV (k := 18) (c := 2) o [] rfl (by decide) (Nat.le_of_ble_eq_true rfl) (Nat.le_of_ble_eq_true rfl) mth_X2_readDrifter iv_X2_readDrifter ml_RX2_130 ⟨Nat.le_of_ble_eq_true rfl, Nat.le_of_ble_eq_true rfl⟩ rfl rfl (Nat.le_of_ble_eq_true rfl) ⟨Nat.le_refl _, Nat.le_refl _⟩ d_X2_readSentence_61 (w_X2_readDrifter (xL x) b  h) (aZ (fun r61 s61 hzr61 h => ?_))
            exact J_zret o hzr61 d_X2_readSentence_64 ⟨_, rfl, hzr61, h⟩
        · replace h := h.2 c43
          refine J_aload_n o 0 d_X2_readSentence_46 rfl ?_
          refine J_callV (k := 18) (c := 2) o [] rfl (by decide) (Nat.le_of_ble_eq_true rfl) (Nat.le_of_ble_eq_true rfl) mth_X2_readWind iv_X2_readWind ml_RX2_125 ⟨Nat.le_of_ble_eq_true rfl, Nat.le_of_ble_eq_true rfl⟩ rfl rfl (Nat.le_of_ble_eq_true rfl) ⟨Nat.le_refl _, Nat.le_refl _⟩ d_X2_readSentence_47 (w_X2_readWind (xL x) b  h) (aZ (fun r47 s47 hzr47 h => ?_))
          exact J_zret o hzr47 d_X2_readSentence_50 ⟨_, rfl, hzr47, h⟩
      · replace h := h.2 c29
        refine J_aload_n o 0 d_X2_readSentence_32 rfl ?_
        refine J_callV (k := 18) (c := 2) o [] rfl (by decide) (Nat.le_of_ble_eq_true rfl) (Nat.le_of_ble_eq_true rfl) mth_X2_readCurrent iv_X2_readCurrent ml_RX2_120 ⟨Nat.le_of_ble_eq_true rfl, Nat.le_of_ble_eq_true rfl⟩ rfl rfl (Nat.le_of_ble_eq_true rfl) ⟨Nat.le_refl _, Nat.le_refl _⟩ d_X2_readSentence_33 (w_X2_readCurrent (xL x) b  h) (aZ (fun r33 s33 hzr33 h => ?_))
        exact J_zret o hzr33 d_X2_readSentence_36 ⟨_, rfl, hzr33, h⟩
    · replace h := h.2 c15
      refine J_aload_n o 0 d_X2_readSentence_18 rfl ?_
      refine J_callV (k := 18) (c := 2) o [] rfl (by decide) (Nat.le_of_ble_eq_true rfl) (Nat.le_of_ble_eq_true rfl) mth_X2_readLand iv_X2_readLand ml_RX2_115 ⟨Nat.le_of_ble_eq_true rfl, Nat.le_of_ble_eq_true rfl⟩ rfl rfl (Nat.le_of_ble_eq_true rfl) ⟨Nat.le_refl _, Nat.le_refl _⟩ d_X2_readSentence_19 (w_X2_readLand (xL x) b  h) (aZ (fun r19 s19 hzr19 h => ?_))
      exact J_zret o hzr19 d_X2_readSentence_22 ⟨_, rfl, hzr19, h⟩
  · replace h := h.2 c4
    refine J_iconst (v := 0) o d_X2_readSentence_7 iconst_0 ?_
    exact J_zret o (Or.inl rfl) d_X2_readSentence_8 ⟨_, rfl, (Or.inl rfl), h⟩
theorem d_X2_readText_0 : decode cX2_readText 0 = .ok (.aload_n 0, 1) := by decide +kernel
theorem d_X2_readText_1 : decode cX2_readText 1 = .ok (.iload_n 1, 1) := by decide +kernel
theorem d_X2_readText_2 : decode cX2_readText 2 = .ok (.invokevirtual 60, 3) := by decide +kernel
theorem d_X2_readText_5 : decode cX2_readText 5 = .ok (.aload_n 0, 1) := by decide +kernel
theorem d_X2_readText_6 : decode cX2_readText 6 = .ok (.invokevirtual 64, 3) := by decide +kernel
theorem d_X2_readText_9 : decode cX2_readText 9 = .ok (.istore_n 2, 1) := by decide +kernel
theorem d_X2_readText_10 : decode cX2_readText 10 = .ok (.iconst 0, 1) := by decide +kernel
theorem d_X2_readText_11 : decode cX2_readText 11 = .ok (.istore_n 3, 1) := by decide +kernel
theorem d_X2_readText_12 : decode cX2_readText 12 = .ok (.iload_n 3, 1) := by decide +kernel
theorem d_X2_readText_13 : decode cX2_readText 13 = .ok (.aload_n 0, 1) := by decide +kernel
theorem d_X2_readText_14 : decode cX2_readText 14 = .ok (.getfield 9, 3) := by decide +kernel
theorem d_X2_readText_17 : decode cX2_readText 17 = .ok (.if_icmp .ge 25, 3) := by decide +kernel
theorem d_X2_readText_20 : decode cX2_readText 20 = .ok (.iload_n 2, 1) := by decide +kernel
theorem d_X2_readText_21 : decode cX2_readText 21 = .ok (.ifCond .eq 21, 3) := by decide +kernel
theorem d_X2_readText_24 : decode cX2_readText 24 = .ok (.aload_n 0, 1) := by decide +kernel
theorem d_X2_readText_25 : decode cX2_readText 25 = .ok (.invokevirtual 68, 3) := by decide +kernel
theorem d_X2_readText_28 : decode cX2_readText 28 = .ok (.ifCond .eq 14, 3) := by decide +kernel
theorem d_X2_readText_31 : decode cX2_readText 31 = .ok (.aload_n 0, 1) := by decide +kernel
theorem d_X2_readText_32 : decode cX2_readText 32 = .ok (.invokevirtual 71, 3) := by decide +kernel
theorem d_X2_readText_35 : decode cX2_readText 35 = .ok (.istore_n 2, 1) := by decide +kernel
theorem d_X2_readText_36 : decode cX2_readText 36 = .ok (.iinc 3 1, 3) := by decide +kernel
theorem d_X2_readText_39 : decode cX2_readText 39 = .ok (.goto (-27), 3) := by decide +kernel
theorem d_X2_readText_42 : decode cX2_readText 42 = .ok (.iload_n 2, 1) := by decide +kernel
theorem d_X2_readText_43 : decode cX2_readText 43 = .ok (.ifCond .eq 37, 3) := by decide +kernel
theorem d_X2_readText_46 : decode cX2_readText 46 = .ok (.aload_n 0, 1) := by decide +kernel
theorem d_X2_readText_47 : decode cX2_readText 47 = .ok (.getfield 39, 3) := by decide +kernel
theorem d_X2_readText_50 : decode cX2_readText 50 = .ok (.ifCond .eq 20, 3) := by decide +kernel
theorem d_X2_readText_53 : decode cX2_readText 53 = .ok (.aload_n 0, 1) := by decide +kernel
theorem d_X2_readText_54 : decode cX2_readText 54 = .ok (.getfield 43, 3) := by decide +kernel
theorem d_X2_readText_57 : decode cX2_readText 57 = .ok (.ifCond .eq 13, 3) := by decide +kernel
theorem d_X2_readText_60 : decode cX2_readText 60 = .ok (.aload_n 0, 1) := by decide +kernel
theorem d_X2_readText_61 : decode cX2_readText 61 = .ok (.getfield 56, 3) := by decide +kernel
theorem d_X2_readText_64 : decode cX2_readText 64 = .ok (.getfield 74, 3) := by decide +kernel
theorem d_X2_readText_67 : decode cX2_readText 67 = .ok (.ifCond .gt 13, 3) := by decide +kernel
theorem d_X2_readText_70 : decode cX2_readText 70 = .ok (.aload_n 0, 1) := by decide +kernel
theorem d_X2_readText_71 : decode cX2_readText 71 = .ok (.iconst 5, 1) := by decide +kernel
theorem d_X2_readText_72 : decode cX2_readText 72 = .ok (.aload_n 0, 1) := by decide +kernel
theorem d_X2_readText_73 : decode cX2_readText 73 = .ok (.getfield 9, 3) := by decide +kernel
theorem d_X2_readText_76 : decode cX2_readText 76 = .ok (.invokevirtual 79, 3) := by decide +kernel
theorem d_X2_readText_79 : decode cX2_readText 79 = .ok (.pop, 1) := by decide +kernel
theorem d_X2_readText_80 : decode cX2_readText 80 = .ok (.aload_n 0, 1) := by decide +kernel
theorem d_X2_readText_81 : decode cX2_readText 81 = .ok (.getfield 33, 3) := by decide +kernel
theorem d_X2_readText_84 : decode cX2_readText 84 = .ok (.ireturn, 1) := by decide +kernel
abbrev rm_X2_readText : Room := { frames := 9, cells := 0, slots := 0, locals := 192 }
set_option maxHeartbeats 4000000 in
set_option maxRecDepth 20000 in
theorem c_X2_readText_42 {x : Cx} {b : Wy} (o : Ok x (wC b) cX2_readText 4 RX2 (some .int) rm_X2_readText) {v1 : Int32} {K : Int32 → Sg → Prop}   : ∀ (l2 : Int32) (σ : Sg), m_X2_readText_j42 v1 K  l2 σ → J x (wC b) (FinC x (wC b) (PI K) (0, 0)) 42 [(0, .ref (wB (wC b) + 18)), (2, .int l2)] [] (0, 0) σ := by
  intro l2 σ  h
  unfold m_X2_readText_j42 at h
  refine J_iload_n o 1 d_X2_readText_42 rfl ?_
  refine J_if_eq o 80 d_X2_readText_43 rfl (fun c43 => ?_) (fun c43 => ?_)
  · replace h := h.1 c43
    refine J_aload_n o 0 d_X2_readText_80 rfl ?_
    refine J_getI o fl_RX2_33 rfl (Nat.le_of_ble_eq_true rfl) (Nat.le_of_ble_eq_true rfl) rfl d_X2_readText_81 ?_
    exact J_iret o d_X2_readText_84 ⟨_, rfl, h⟩
  · replace h := h.2 c43
    refine J_aload_n o 0 d_X2_readText_46 rfl ?_
    refine J_getI o fl_RX2_39 rfl (Nat.le_of_ble_eq_true rfl) (Nat.le_of_ble_eq_true rfl) rfl d_X2_readText_47 ?_
    refine J_if_eq o 70 d_X2_readText_50 rfl (fun c50 => ?_) (fun c50 => ?_)
    · replace h := h.1 c50
      refine J_aload_n o 0 d_X2_readText_70 rfl ?_
      refine J_iconst (v := 5) o d_X2_readText_71 iconst_5 ?_
      refine J_aload_n o 0 d_X2_readText_72 rfl ?_
      refine J_getI o fl_RX2_9 rfl (Nat.le_of_ble_eq_true rfl) (Nat.le_of_ble_eq_true rfl) rfl d_X2_readText_73 ?_
      refine J_callV (k := 18) (c := 2) o [.int 5, .int (σ 18 2)] rfl (by decide) (Nat.le_of_ble_eq_true rfl) (Nat.le_of_ble_eq_true rfl) mth_X2_fail iv_X2_fail ml_RX2_79 ⟨Nat.le_of_ble_eq_true rfl, Nat.le_of_ble_eq_true rfl⟩ rfl rfl (Nat.le_of_ble_eq_true rfl) ⟨Nat.le_refl _, Nat.le_refl _⟩ d_X2_readText_76 (w_X2_fail (xL x) b  h) (aZ (fun r76 s76 hzr76 h => ?_))
      refine J_pop o d_X2_readText_79 rfl ?_
      refine J_aload_n o 0 d_X2_readText_80 rfl ?_
      refine J_getI o fl_RX2_33 rfl (Nat.le_of_ble_eq_true rfl) (Nat.le_of_ble_eq_true rfl) rfl d_X2_readText_81 ?_
      exact J_iret o d_X2_readText_84 ⟨_, rfl, h⟩
    · replace h := h.2 c50
      refine J_aload_n o 0 d_X2_readText_53 rfl ?_
      refine J_getI o fl_RX2_43 rfl (Nat.le_of_ble_eq_true rfl) (Nat.le_of_ble_eq_true rfl) rfl d_X2_readText_54 ?_
      refine J_if_eq o 70 d_X2_readText_57 rfl (fun c57 => ?_) (fun c57 => ?_)
      · replace h := h.1 c57
        refine J_aload_n o 0 d_X2_readText_70 rfl ?_
        refine J_iconst (v := 5) o d_X2_readText_71 iconst_5 ?_
        refine J_aload_n o 0 d_X2_readText_72 rfl ?_
        refine J_getI o fl_RX2_9 rfl (Nat.le_of_ble_eq_true rfl) (Nat.le_of_ble_eq_true rfl) rfl d_X2_readText_73 ?_
        refine J_callV (k := 18) (c := 2) o [.int 5, .int (σ 18 2)] rfl (by decide) (Nat.le_of_ble_eq_true rfl) (Nat.le_of_ble_eq_true rfl) mth_X2_fail iv_X2_fail ml_RX2_79 ⟨Nat.le_of_ble_eq_true rfl, Nat.le_of_ble_eq_true rfl⟩ rfl rfl (Nat.le_of_ble_eq_true rfl) ⟨Nat.le_refl _, Nat.le_refl _⟩ d_X2_readText_76 (w_X2_fail (xL x) b  h) (aZ (fun r76 s76 hzr76 h => ?_))
        refine J_pop o d_X2_readText_79 rfl ?_
        refine J_aload_n o 0 d_X2_readText_80 rfl ?_
        refine J_getI o fl_RX2_33 rfl (Nat.le_of_ble_eq_true rfl) (Nat.le_of_ble_eq_true rfl) rfl d_X2_readText_81 ?_
        exact J_iret o d_X2_readText_84 ⟨_, rfl, h⟩
      · replace h := h.2 c57
        refine J_aload_n o 0 d_X2_readText_60 rfl ?_
        refine J_getR (t := 10) o fl_RX2_56 rfl (Nat.le_of_ble_eq_true rfl) (Nat.le_of_ble_eq_true rfl) rfl rfl d_X2_readText_61 ?_
        refine J_getI o fl_RX2_74 (W_kd W_10) (Nat.zero_le _) (W_hi W_10) rfl d_X2_readText_64 ?_
        refine J_if_gt o 80 d_X2_readText_67 rfl (fun c67 => ?_) (fun c67 => ?_)
        · replace h := h.1 c67
          refine J_aload_n o 0 d_X2_readText_80 rfl ?_
          refine J_getI o fl_RX2_33 rfl (Nat.le_of_ble_eq_true rfl) (Nat.le_of_ble_eq_true rfl) rfl d_X2_readText_81 ?_
          exact J_iret o d_X2_readText_84 ⟨_, rfl, h⟩
        · replace h := h.2 c67
          refine J_aload_n o 0 d_X2_readText_70 rfl ?_
          refine J_iconst (v := 5) o d_X2_readText_71 iconst_5 ?_
          refine J_aload_n o 0 d_X2_readText_72 rfl ?_
          refine J_getI o fl_RX2_9 rfl (Nat.le_of_ble_eq_true rfl) (Nat.le_of_ble_eq_true rfl) rfl d_X2_readText_73 ?_
          refine J_callV (k := 18) (c := 2) o [.int 5, .int (σ 18 2)] rfl (by decide) (Nat.le_of_ble_eq_true rfl) (Nat.le_of_ble_eq_true rfl) mth_X2_fail iv_X2_fail ml_RX2_79 ⟨Nat.le_of_ble_eq_true rfl, Nat.le_of_ble_eq_true rfl⟩ rfl rfl (Nat.le_of_ble_eq_true rfl) ⟨Nat.le_refl _, Nat.le_refl _⟩ d_X2_readText_76 (w_X2_fail (xL x) b  h) (aZ (fun r76 s76 hzr76 h => ?_))
          refine J_pop o d_X2_readText_79 rfl ?_
          refine J_aload_n o 0 d_X2_readText_80 rfl ?_
          refine J_getI o fl_RX2_33 rfl (Nat.le_of_ble_eq_true rfl) (Nat.le_of_ble_eq_true rfl) rfl d_X2_readText_81 ?_
          exact J_iret o d_X2_readText_84 ⟨_, rfl, h⟩
set_option maxHeartbeats 4000000 in
set_option maxRecDepth 20000 in
theorem c_X2_readText_12 {x : Cx} {b : Wy} (o : Ok x (wC b) cX2_readText 4 RX2 (some .int) rm_X2_readText) {v1 : Int32} {K : Int32 → Sg → Prop}   : ∀ (n : Nat) (l2 : Int32) (l3 : Int32) (σ : Sg), m_X2_readText_l12 v1 K  n l2 l3 σ → J x (wC b) (FinC x (wC b) (PI K) (0, 0)) 12 [(0, .ref (wB (wC b) + 18)), (2, .int l2), (3, .int l3)] [] (0, 0) σ := by
  intro n
  induction n with
  | zero =>
    intro l2 l3 σ  h
    exact False.elim h
  | succ n ih =>
    intro l2 l3 σ  h
    unfold m_X2_readText_l12 at h
    refine J_iload_n o 2 d_X2_readText_12 rfl ?_
    refine J_aload_n o 0 d_X2_readText_13 rfl ?_
    refine J_getI o fl_RX2_9 rfl (Nat.le_of_ble_eq_true rfl) (Nat.le_of_ble_eq_true rfl) rfl d_X2_readText_14 ?_
    refine J_icmp_ge o 42 d_X2_readText_17 rfl (fun c17 => ?_) (fun c17 => ?_)
    · replace h := h.1 c17
      refine J_sub [0, 1] rfl ?_
      exact c_X2_readText_42 o   l2 σ  h
    · replace h := h.2 c17
      refine J_iload_n o 1 d_X2_readText_20 rfl ?_
      refine J_if_eq o 42 d_X2_readText_21 rfl (fun c21 => ?_) (fun c21 => ?_)
      · replace h := h.1 c21
        refine J_sub [0, 1] rfl ?_
        exact c_X2_readText_42 o   l2 σ  h
      · replace h := h.2 c21
        refine J_aload_n o 0 d_X2_readText_24 rfl ?_
        refine J_callV (k := 18) (c := 2) o [] rfl (by decide) (Nat.le_of_ble_eq_true rfl) (Nat.le_of_ble_eq_true rfl) mth_X2_isMore iv_X2_isMore ml_RX2_68 ⟨Nat.le_of_ble_eq_true rfl, Nat.le_of_ble_eq_true rfl⟩ rfl rfl (Nat.le_of_ble_eq_true rfl) ⟨Nat.le_refl _, Nat.le_refl _⟩ d_X2_readText_25 (w_X2_isMore (xL x) b  h) (aZ (fun r25 s25 hzr25 h => ?_))
        refine J_if_eq o 42 d_X2_readText_28 rfl (fun c28 => ?_) (fun c28 => ?_)
        · replace h := h.1 c28
          refine J_sub [0, 1] rfl ?_
          exact c_X2_readText_42 o   l2 s25  h
        · replace h := h.2 c28
          refine J_aload_n o 0 d_X2_readText_31 rfl ?_
          refine J_callV (k := 18) (c := 2) o [] rfl (by decide) (Nat.le_of_ble_eq_true rfl) (Nat.le_of_ble_eq_true rfl) mth_X2_readSentence iv_X2_readSentence ml_RX2_71 ⟨Nat.le_of_ble_eq_true rfl, Nat.le_of_ble_eq_true rfl⟩ rfl rfl (Nat.le_of_ble_eq_true rfl) ⟨Nat.le_refl _, Nat.le_refl _⟩ d_X2_readText_32 (w_X2_readSentence (xL x) b  h) (aZ (fun r32 s32 hzr32 h => ?_))
          refine J_istore_n (lv' := [(2, .int r32), (0, .ref (wB (wC b) + 18)), (3, .int l3)]) o d_X2_readText_35 (by decide) rfl ?_
          refine J_iinc (lv' := [(3, .int (l3 + 1)), (2, .int r32), (0, .ref (wB (wC b) + 18))]) o 2 d_X2_readText_36 (by decide) rfl iconst_1 rfl ?_
          refine J_goto o 12 d_X2_readText_39 rfl ?_
          refine J_sub [2, 1, 0] rfl ?_
          exact ih r32 (l3 + 1) s32  h
set_option maxHeartbeats 4000000 in
set_option maxRecDepth 20000 in
theorem w_X2_readText (l : Launch) (b : Wy) {v1 : Int32} {σ : Sg} {K : Int32 → Sg → Prop}  (h : m_X2_readText v1 σ K) : Ct l (wC b) yX2_readText cX2_readText 4 (some .int) rm_X2_readText [.ref (wB (wC b) + 18), .int v1] σ (PI K) := by
  unfold m_X2_readText at h
  refine Ct.of (own := RX2) (by decide +kernel) rfl (Nat.le_of_ble_eq_true rfl) (fun x hx o => ?_)
  subst hx
  show J x (wC b) (FinC x (wC b) (PI K) (0, 0)) 0 [(0, .ref (wB (wC b) + 18)), (1, .int v1)] [] (0, 0) σ
  refine J_aload_n o 0 d_X2_readText_0 rfl ?_
  refine J_iload_n o 1 d_X2_readText_1 rfl ?_
  refine J_callV (k := 18) (c := 2) o [.int v1] rfl (by decide) (Nat.le_of_ble_eq_true rfl) (Nat.le_of_ble_eq_true rfl) mth_X2_begin iv_X2_begin ml_RX2_60 ⟨Nat.le_of_ble_eq_true rfl, Nat.le_of_ble_eq_true rfl⟩ rfl rfl (Nat.le_of_ble_eq_true rfl) ⟨Nat.le_refl _, Nat.le_refl _⟩ d_X2_readText_2 (w_X2_begin (xL x) b  h) (aV (fun s2 h => ?_))
  refine J_aload_n o 0 d_X2_readText_5 rfl ?_
  refine J_callV (k := 18) (c := 2) o [] rfl (by decide) (Nat.le_of_ble_eq_true rfl) (Nat.le_of_ble_eq_true rfl) mth_X2_readSea iv_X2_readSea ml_RX2_64 ⟨Nat.le_of_ble_eq_true rfl, Nat.le_of_ble_eq_true rfl⟩ rfl rfl (Nat.le_of_ble_eq_true rfl) ⟨Nat.le_refl _, Nat.le_refl _⟩ d_X2_readText_6 (w_X2_readSea (xL x) b  h) (aZ (fun r6 s6 hzr6 h => ?_))
  refine J_istore_n (lv' := [(2, .int r6), (0, .ref (wB (wC b) + 18)), (1, .int v1)]) o d_X2_readText_9 (by decide) rfl ?_
  refine J_iconst (v := 0) o d_X2_readText_10 iconst_0 ?_
  refine J_istore_n (lv' := [(3, .int 0), (2, .int r6), (0, .ref (wB (wC b) + 18)), (1, .int v1)]) o d_X2_readText_11 (by decide) rfl ?_
  refine J_sub [2, 1, 0] rfl ?_
  obtain ⟨n9, h⟩ := h
  exact c_X2_readText_12 o   n9 r6 0 s6  h
theorem d_X4_keepWorld_0 : decode cX4_keepWorld 0 = .ok (.aload_n 0, 1) := by decide +kernel
theorem d_X4_keepWorld_1 : decode cX4_keepWorld 1 = .ok (.aload_n 0, 1) := by decide +kernel
theorem d_X4_keepWorld_2 : decode cX4_keepWorld 2 = .ok (.getfield 52, 3) := by decide +kernel
theorem d_X4_keepWorld_5 : decode cX4_keepWorld 5 = .ok (.invokevirtual 143, 3) := by decide +kernel
theorem d_X4_keepWorld_8 : decode cX4_keepWorld 8 = .ok (.aload_n 0, 1) := by decide +kernel
theorem d_X4_keepWorld_9 : decode cX4_keepWorld 9 = .ok (.getfield 16, 3) := by decide +kernel
theorem d_X4_keepWorld_12 : decode cX4_keepWorld 12 = .ok (.invokevirtual 90, 3) := by decide +kernel
theorem d_X4_keepWorld_15 : decode cX4_keepWorld 15 = .ok (.aload_n 0, 1) := by decide +kernel
theorem d_X4_keepWorld_16 : decode cX4_keepWorld 16 = .ok (.aload_n 0, 1) := by decide +kernel
theorem d_X4_keepWorld_17 : decode cX4_keepWorld 17 = .ok (.getfield 52, 3) := by decide +kernel
theorem d_X4_keepWorld_20 : decode cX4_keepWorld 20 = .ok (.iconst 1, 1) := by decide +kernel
theorem d_X4_keepWorld_21 : decode cX4_keepWorld 21 = .ok (.iadd, 1) := by decide +kernel
theorem d_X4_keepWorld_22 : decode cX4_keepWorld 22 = .ok (.bipush 8, 2) := by decide +kernel
theorem d_X4_keepWorld_24 : decode cX4_keepWorld 24 = .ok (.irem, 1) := by decide +kernel
theorem d_X4_keepWorld_25 : decode cX4_keepWorld 25 = .ok (.putfield 52, 3) := by decide +kernel
theorem d_X4_keepWorld_28 : decode cX4_keepWorld 28 = .ok (.aload_n 0, 1) := by decide +kernel
theorem d_X4_keepWorld_29 : decode cX4_keepWorld 29 = .ok (.aload_n 0, 1) := by decide +kernel
theorem d_X4_keepWorld_30 : decode cX4_keepWorld 30 = .ok (.getfield 55, 3) := by decide +kernel
theorem d_X4_keepWorld_33 : decode cX4_keepWorld 33 = .ok (.iconst 1, 1) := by decide +kernel
theorem d_X4_keepWorld_34 : decode cX4_keepWorld 34 = .ok (.iadd, 1) := by decide +kernel
theorem d_X4_keepWorld_35 : decode cX4_keepWorld 35 = .ok (.bipush 8, 2) := by decide +kernel
theorem d_X4_keepWorld_37 : decode cX4_keepWorld 37 = .ok (.invokestatic 246, 3) := by decide +kernel
theorem d_X4_keepWorld_40 : decode cX4_keepWorld 40 = .ok (.putfield 55, 3) := by decide +kernel
theorem d_X4_keepWorld_43 : decode cX4_keepWorld 43 = .ok (.aload_n 0, 1) := by decide +kernel
theorem d_X4_keepWorld_44 : decode cX4_keepWorld 44 = .ok (.getfield 37, 3) := by decide +kernel
theorem d_X4_keepWorld_47 : decode cX4_keepWorld 47 = .ok (.invokevirtual 147, 3) := by decide +kernel
theorem d_X4_keepWorld_50 : decode cX4_keepWorld 50 = .ok (.return_, 1) := by decide +kernel
abbrev rm_X4_keepWorld : Room := { frames := 3, cells := 0, slots := 0, locals := 82 }
set_option maxHeartbeats 4000000 in
set_option maxRecDepth 20000 in
theorem w_X4_keepWorld (l : Launch) (b : Wy)  {σ : Sg} {K : Sg → Prop}  (h : m_X4_keepWorld  σ K) : Ct l (wC b) yX4_keepWorld cX4_keepWorld 1 none rm_X4_keepWorld [.ref (wB (wC b) + 0)] σ (PV K) := by
  unfold m_X4_keepWorld at h
  refine Ct.of (own := RX4) (by decide +kernel) rfl (Nat.le_of_ble_eq_true rfl) (fun x hx o => ?_)
  subst hx
  show J x (wC b) (FinC x (wC b) (PV K) (0, 0)) 0 [(0, .ref (wB (wC b) + 0))] [] (0, 0) σ
  refine J_aload_n o 0 d_X4_keepWorld_0 rfl ?_
  refine J_aload_n o 0 d_X4_keepWorld_1 rfl ?_
  refine J_getI o fl_RX4_52 rfl (Nat.le_of_ble_eq_true rfl) (Nat.le_of_ble_eq_true rfl) rfl d_X4_keepWorld_2 ?_
  refine J_callV (k := 0) (c := 4) o [.int (σ 0 8)] rfl (by decide) (Nat.le_of_ble_eq_true rfl) (Nat.le_of_ble_eq_true rfl) mth_X4_keptAt iv_X4_keptAt ml_RX4_143 ⟨Nat.le_of_ble_eq_true rfl, Nat.le_of_ble_eq_true rfl⟩ rfl rfl (Nat.le_of_ble_eq_true rfl) ⟨Nat.le_refl _, Nat.le_refl _⟩ d_X4_keepWorld_5 (w_X4_keptAt (xL x) b  h) (aA (fun r5 s5 hr5 h => ?_))
  refine J_aload_n o 0 d_X4_keepWorld_8 rfl ?_
  refine J_getR (t := 2) o fl_RX4_16 rfl (Nat.le_of_ble_eq_true rfl) (Nat.le_of_ble_eq_true rfl) rfl rfl d_X4_keepWorld_9 ?_
  refine J_callV (k := r5) (c := 3) o [.ref (wB (wC b) + 2)] (W_kd hr5) (by decide) (Nat.zero_le _) (W_hi hr5) mth_X3_become iv_X3_become ml_RX4_90 ⟨Nat.le_of_ble_eq_true rfl, Nat.le_of_ble_eq_true rfl⟩ rfl rfl (Nat.le_of_ble_eq_true rfl) ⟨Nat.le_refl _, Nat.le_refl _⟩ d_X4_keepWorld_12 (w_X3_become (xL x) b hr5 W_2 h) (aV (fun s12 h => ?_))
  refine J_aload_n o 0 d_X4_keepWorld_15 rfl ?_
  refine J_aload_n o 0 d_X4_keepWorld_16 rfl ?_
  refine J_getI o fl_RX4_52 rfl (Nat.le_of_ble_eq_true rfl) (Nat.le_of_ble_eq_true rfl) rfl d_X4_keepWorld_17 ?_
  refine J_iconst (v := 1) o d_X4_keepWorld_20 iconst_1 ?_
  refine J_iadd o d_X4_keepWorld_21 ?_
  refine J_bipush (v := 8) o d_X4_keepWorld_22 bipush_8 ?_
  refine J_irem o d_X4_keepWorld_24 (by decide) ?_
  refine J_put o fl_RX4_52 la_4 rfl (Nat.le_of_ble_eq_true rfl) (Nat.le_of_ble_eq_true rfl) rfl rfl rfl rfl d_X4_keepWorld_25 ?_
  refine J_nS (fun s25 es25 => ?_)
  replace h := h s25 es25
  refine J_aload_n o 0 d_X4_keepWorld_28 rfl ?_
  refine J_aload_n o 0 d_X4_keepWorld_29 rfl ?_
  refine J_getI o fl_RX4_55 rfl (Nat.le_of_ble_eq_true rfl) (Nat.le_of_ble_eq_true rfl) rfl d_X4_keepWorld_30 ?_
  refine J_iconst (v := 1) o d_X4_keepWorld_33 iconst_1 ?_
  refine J_iadd o d_X4_keepWorld_34 ?_
  refine J_bipush (v := 8) o d_X4_keepWorld_35 bipush_8 ?_
  refine J_min o mm_RX4_246 ms_min mi_math mc_min ⟨Nat.le_of_ble_eq_true rfl, Nat.le_of_ble_eq_true rfl, Nat.le_of_ble_eq_true rfl, Nat.le_of_ble_eq_true rfl⟩ d_X4_keepWorld_37 ?_
  refine J_put o fl_RX4_55 la_4 rfl (Nat.le_of_ble_eq_true rfl) (Nat.le_of_ble_eq_true rfl) rfl rfl rfl rfl d_X4_keepWorld_40 ?_
  refine J_nS (fun s40 es40 => ?_)
  replace h := h s40 es40
  refine J_aload_n o 0 d_X4_keepWorld_43 rfl ?_
  refine J_getR (t := 19) o fl_RX4_37 rfl (Nat.le_of_ble_eq_true rfl) (Nat.le_of_ble_eq_true rfl) rfl rfl d_X4_keepWorld_44 ?_
  refine J_callV (k := 19) (c := 0) o [] rfl (by decide) (Nat.le_of_ble_eq_true rfl) (Nat.le_of_ble_eq_true rfl) mth_X0_forget iv_X0_forget ml_RX4_147 ⟨Nat.le_of_ble_eq_true rfl, Nat.le_of_ble_eq_true rfl⟩ rfl rfl (Nat.le_of_ble_eq_true rfl) ⟨Nat.le_refl _, Nat.le_refl _⟩ d_X4_keepWorld_47 (w_X0_forget (xL x) b  h) (aV (fun s47 h => ?_))
  exact J_vret o d_X4_keepWorld_50 ⟨rfl, h⟩
theorem d_X4_isCourseOf_0 : decode cX4_isCourseOf 0 = .ok (.iload_n 1, 1) := by decide +kernel
theorem d_X4_isCourseOf_1 : decode cX4_isCourseOf 1 = .ok (.aload_n 0, 1) := by decide +kernel
theorem d_X4_isCourseOf_2 : decode cX4_isCourseOf 2 = .ok (.getfield 16, 3) := by decide +kernel
theorem d_X4_isCourseOf_5 : decode cX4_isCourseOf 5 = .ok (.getfield 93, 3) := by decide +kernel
theorem d_X4_isCourseOf_8 : decode cX4_isCourseOf 8 = .ok (.if_icmp .ge 13, 3) := by decide +kernel
theorem d_X4_isCourseOf_11 : decode cX4_isCourseOf 11 = .ok (.iload_n 2, 1) := by decide +kernel
theorem d_X4_isCourseOf_12 : decode cX4_isCourseOf 12 = .ok (.iconst 0, 1) := by decide +kernel
theorem d_X4_isCourseOf_13 : decode cX4_isCourseOf 13 = .ok (.bipush 8, 2) := by decide +kernel
theorem d_X4_isCourseOf_15 : decode cX4_isCourseOf 15 = .ok (.invokestatic 74, 3) := by decide +kernel
theorem d_X4_isCourseOf_18 : decode cX4_isCourseOf 18 = .ok (.goto 12, 3) := by decide +kernel
theorem d_X4_isCourseOf_21 : decode cX4_isCourseOf 21 = .ok (.iload_n 2, 1) := by decide +kernel
theorem d_X4_isCourseOf_22 : decode cX4_isCourseOf 22 = .ok (.ifCond .ne 7, 3) := by decide +kernel
theorem d_X4_isCourseOf_25 : decode cX4_isCourseOf 25 = .ok (.iconst 1, 1) := by decide +kernel
theorem d_X4_isCourseOf_26 : decode cX4_isCourseOf 26 = .ok (.goto 4, 3) := by decide +kernel
theorem d_X4_isCourseOf_29 : decode cX4_isCourseOf 29 = .ok (.iconst 0, 1) := by decide +kernel
theorem d_X4_isCourseOf_30 : decode cX4_isCourseOf 30 = .ok (.ireturn, 1) := by decide +kernel
abbrev rm_X4_isCourseOf : Room := { frames := 1, cells := 0, slots := 0, locals := 22 }
set_option maxHeartbeats 4000000 in
set_option maxRecDepth 20000 in
theorem w_X4_isCourseOf (l : Launch) (b : Wy) {v1 : Int32} {v2 : Int32} {σ : Sg} {K : Int32 → Sg → Prop}  (h : m_X4_isCourseOf v1 v2 σ K) : Ct l (wC b) yX4_isCourseOf cX4_isCourseOf 3 (some .boolean) rm_X4_isCourseOf [.ref (wB (wC b) + 0), .int v1, .int v2] σ (PZ K) := by
  unfold m_X4_isCourseOf at h
  refine Ct.of (own := RX4) (by decide +kernel) rfl (Nat.le_of_ble_eq_true rfl) (fun x hx o => ?_)
  subst hx
  show J x (wC b) (FinC x (wC b) (PZ K) (0, 0)) 0 [(0, .ref (wB (wC b) + 0)), (1, .int v1), (2, .int v2)] [] (0, 0) σ
  refine J_iload_n o 1 d_X4_isCourseOf_0 rfl ?_
  refine J_aload_n o 0 d_X4_isCourseOf_1 rfl ?_
  refine J_getR (t := 2) o fl_RX4_16 rfl (Nat.le_of_ble_eq_true rfl) (Nat.le_of_ble_eq_true rfl) rfl rfl d_X4_isCourseOf_2 ?_
  refine J_getI o fl_RX4_93 (W_kd W_2) (Nat.zero_le _) (W_hi W_2) rfl d_X4_isCourseOf_5 ?_
  refine J_icmp_ge o 21 d_X4_isCourseOf_8 rfl (fun c8 => ?_) (fun c8 => ?_)
  · replace h := h.1 c8
    refine J_iload_n o 2 d_X4_isCourseOf_21 rfl ?_
    refine J_if_ne o 29 d_X4_isCourseOf_22 rfl (fun c22 => ?_) (fun c22 => ?_)
    · replace h := h.1 c22
      refine J_iconst (v := 0) o d_X4_isCourseOf_29 iconst_0 ?_
      exact J_zret o (Or.inl rfl) d_X4_isCourseOf_30 ⟨_, rfl, (Or.inl rfl), h⟩
    · replace h := h.2 c22
      refine J_iconst (v := 1) o d_X4_isCourseOf_25 iconst_1 ?_
      refine J_goto o 30 d_X4_isCourseOf_26 rfl ?_
      exact J_zret o (Or.inr rfl) d_X4_isCourseOf_30 ⟨_, rfl, (Or.inr rfl), h⟩
  · replace h := h.2 c8
    refine J_iload_n o 2 d_X4_isCourseOf_11 rfl ?_
    refine J_iconst (v := 0) o d_X4_isCourseOf_12 iconst_0 ?_
    refine J_bipush (v := 8) o d_X4_isCourseOf_13 bipush_8 ?_
    refine J_callS o [.int v2, .int 0, .int 8] mth_X4_isIn st_X4_isIn ml_RX4_74 ⟨Nat.le_of_ble_eq_true rfl, Nat.le_of_ble_eq_true rfl⟩ rfl rfl (Nat.le_of_ble_eq_true rfl) ⟨Nat.le_refl _, Nat.le_refl _⟩ d_X4_isCourseOf_15 (w_X4_isIn (xL x) b  h) (aZ (fun r15 s15 hzr15 h => ?_))
    refine J_goto o 30 d_X4_isCourseOf_18 rfl ?_
    exact J_zret o hzr15 d_X4_isCourseOf_30 ⟨_, rfl, hzr15, h⟩
theorem d_X3_canSail_0 : decode cX3_canSail 0 = .ok (.iload_n 2, 1) := by decide +kernel
theorem d_X3_canSail_1 : decode cX3_canSail 1 = .ok (.ifCond .ne 5, 3) := by decide +kernel
theorem d_X3_canSail_4 : decode cX3_canSail 4 = .ok (.iconst 1, 1) := by decide +kernel
theorem d_X3_canSail_5 : decode cX3_canSail 5 = .ok (.ireturn, 1) := by decide +kernel
theorem d_X3_canSail_6 : decode cX3_canSail 6 = .ok (.aload_n 0, 1) := by decide +kernel
theorem d_X3_canSail_7 : decode cX3_canSail 7 = .ok (.iload_n 2, 1) := by decide +kernel
theorem d_X3_canSail_8 : decode cX3_canSail 8 = .ok (.aload_n 0, 1) := by decide +kernel
theorem d_X3_canSail_9 : decode cX3_canSail 9 = .ok (.getfield 18, 3) := by decide +kernel
theorem d_X3_canSail_12 : decode cX3_canSail 12 = .ok (.invokevirtual 133, 3) := by decide +kernel
theorem d_X3_canSail_15 : decode cX3_canSail 15 = .ok (.aload_n 0, 1) := by decide +kernel
theorem d_X3_canSail_16 : decode cX3_canSail 16 = .ok (.getfield 46, 3) := by decide +kernel
theorem d_X3_canSail_19 : decode cX3_canSail 19 = .ok (.iload_n 1, 1) := by decide +kernel
theorem d_X3_canSail_20 : decode cX3_canSail 20 = .ok (.invokestatic 117, 3) := by decide +kernel
theorem d_X3_canSail_23 : decode cX3_canSail 23 = .ok (.if_icmp .gt 7, 3) := by decide +kernel
theorem d_X3_canSail_26 : decode cX3_canSail 26 = .ok (.iconst 1, 1) := by decide +kernel
theorem d_X3_canSail_27 : decode cX3_canSail 27 = .ok (.goto 4, 3) := by decide +kernel
theorem d_X3_canSail_30 : decode cX3_canSail 30 = .ok (.iconst 0, 1) := by decide +kernel
theorem d_X3_canSail_31 : decode cX3_canSail 31 = .ok (.istore_n 3, 1) := by decide +kernel
theorem d_X3_canSail_32 : decode cX3_canSail 32 = .ok (.iload_n 3, 1) := by decide +kernel
theorem d_X3_canSail_33 : decode cX3_canSail 33 = .ok (.ifCond .eq 24, 3) := by decide +kernel
theorem d_X3_canSail_36 : decode cX3_canSail 36 = .ok (.aload_n 0, 1) := by decide +kernel
theorem d_X3_canSail_37 : decode cX3_canSail 37 = .ok (.aload_n 0, 1) := by decide +kernel
theorem d_X3_canSail_38 : decode cX3_canSail 38 = .ok (.getfield 42, 3) := by decide +kernel
theorem d_X3_canSail_41 : decode cX3_canSail 41 = .ok (.iload_n 1, 1) := by decide +kernel
theorem d_X3_canSail_42 : decode cX3_canSail 42 = .ok (.invokestatic 117, 3) := by decide +kernel
theorem d_X3_canSail_45 : decode cX3_canSail 45 = .ok (.iload_n 2, 1) := by decide +kernel
theorem d_X3_canSail_46 : decode cX3_canSail 46 = .ok (.invokevirtual 136, 3) := by decide +kernel
theorem d_X3_canSail_49 : decode cX3_canSail 49 = .ok (.iconst (-1), 1) := by decide +kernel
theorem d_X3_canSail_50 : decode cX3_canSail 50 = .ok (.if_icmp .eq 7, 3) := by decide +kernel
theorem d_X3_canSail_53 : decode cX3_canSail 53 = .ok (.iconst 1, 1) := by decide +kernel
theorem d_X3_canSail_54 : decode cX3_canSail 54 = .ok (.goto 4, 3) := by decide +kernel
theorem d_X3_canSail_57 : decode cX3_canSail 57 = .ok (.iconst 0, 1) := by decide +kernel
theorem d_X3_canSail_58 : decode cX3_canSail 58 = .ok (.ireturn, 1) := by decide +kernel
abbrev rm_X3_canSail : Room := { frames := 4, cells := 0, slots := 0, locals := 93 }
set_option maxHeartbeats 4000000 in
set_option maxRecDepth 20000 in
theorem c_X3_canSail_31 {x : Cx} {b : Wy} (o : Ok x (wC b) cX3_canSail 4 RX3 (some .boolean) rm_X3_canSail) {v0 : Nat} {v1 : Int32} {v2 : Int32} {K : Int32 → Sg → Prop}  (hv0 : IsW v0) : ∀ (k0 : Int32) (σ : Sg), m_X3_canSail_j31 v0 v1 v2 K  k0 σ → J x (wC b) (FinC x (wC b) (PZ K) (0, 0)) 31 [(0, .ref (wB (wC b) + v0)), (1, .int v1), (2, .int v2)] [.int k0] (0, 0) σ := by
  intro k0 σ  h
  unfold m_X3_canSail_j31 at h
  refine J_istore_n (lv' := [(3, .int k0), (0, .ref (wB (wC b) + v0)), (1, .int v1), (2, .int v2)]) o d_X3_canSail_31 (by decide) rfl ?_
  refine J_iload_n o 0 d_X3_canSail_32 rfl ?_
  refine J_if_eq o 57 d_X3_canSail_33 rfl (fun c33 => ?_) (fun c33 => ?_)
  · replace h := h.1 c33
    refine J_iconst (v := 0) o d_X3_canSail_57 iconst_0 ?_
    exact J_zret o (Or.inl rfl) d_X3_canSail_58 ⟨_, rfl, (Or.inl rfl), h⟩
  · replace h := h.2 c33
    refine J_aload_n o 1 d_X3_canSail_36 rfl ?_
    refine J_aload_n o 1 d_X3_canSail_37 rfl ?_
    refine J_getR (t := (v0 + 1)) o fl_RX3_42 (W_kd hv0) (Nat.zero_le _) (W_hi hv0) rfl (W_t hv0 10 (by decide)) d_X3_canSail_38 ?_
    refine J_iload_n o 2 d_X3_canSail_41 rfl ?_
    refine J_callSN o [.ref (wB (wC b) + (v0 + 1)), .int v1] mth_X4_read st_X4_read mn_RX3_117 ⟨Nat.le_of_ble_eq_true rfl, Nat.le_of_ble_eq_true rfl⟩ rfl rfl (Nat.le_of_ble_eq_true rfl) ⟨Nat.le_refl _, Nat.le_refl _⟩ d_X3_canSail_42 (w_X4_read (xL x) b (W_A1 hv0) h) (aI (fun r42 s42 h => ?_))
    refine J_iload_n o 3 d_X3_canSail_45 rfl ?_
    refine J_callV (k := v0) (c := 3) o [.int r42, .int v2] (W_kd hv0) (by decide) (Nat.zero_le _) (W_hi hv0) mth_X3_helperBehind iv_X3_helperBehind ml_RX3_136 ⟨Nat.le_of_ble_eq_true rfl, Nat.le_of_ble_eq_true rfl⟩ rfl rfl (Nat.le_of_ble_eq_true rfl) ⟨Nat.le_refl _, Nat.le_refl _⟩ d_X3_canSail_46 (w_X3_helperBehind (xL x) b hv0 h) (aI (fun r46 s46 h => ?_))
    refine J_iconst (v := (-1)) o d_X3_canSail_49 iconst_m1 ?_
    refine J_icmp_eq o 57 d_X3_canSail_50 rfl (fun c50 => ?_) (fun c50 => ?_)
    · replace h := h.1 c50
      refine J_iconst (v := 0) o d_X3_canSail_57 iconst_0 ?_
      exact J_zret o (Or.inl rfl) d_X3_canSail_58 ⟨_, rfl, (Or.inl rfl), h⟩
    · replace h := h.2 c50
      refine J_iconst (v := 1) o d_X3_canSail_53 iconst_1 ?_
      refine J_goto o 58 d_X3_canSail_54 rfl ?_
      exact J_zret o (Or.inr rfl) d_X3_canSail_58 ⟨_, rfl, (Or.inr rfl), h⟩
set_option maxHeartbeats 4000000 in
set_option maxRecDepth 20000 in
theorem w_X3_canSail (l : Launch) (b : Wy) {v0 : Nat} {v1 : Int32} {v2 : Int32} {σ : Sg} {K : Int32 → Sg → Prop} (hv0 : IsW v0) (h : m_X3_canSail v0 v1 v2 σ K) : Ct l (wC b) yX3_canSail cX3_canSail 4 (some .boolean) rm_X3_canSail [.ref (wB (wC b) + v0), .int v1, .int v2] σ (PZ K) := by
  unfold m_X3_canSail at h
  refine Ct.of (own := RX3) (by decide +kernel) rfl (Nat.le_of_ble_eq_true rfl) (fun x hx o => ?_)
  subst hx
  show J x (wC b) (FinC x (wC b) (PZ K) (0, 0)) 0 [(0, .ref (wB (wC b) + v0)), (1, .int v1), (2, .int v2)] [] (0, 0) σ
  refine J_iload_n o 2 d_X3_canSail_0 rfl ?_
  refine J_if_ne o 6 d_X3_canSail_1 rfl (fun c1 => ?_) (fun c1 => ?_)
  · replace h := h.1 c1
    refine J_aload_n o 0 d_X3_canSail_6 rfl ?_
    refine J_iload_n o 2 d_X3_canSail_7 rfl ?_
    refine J_aload_n o 0 d_X3_canSail_8 rfl ?_
    refine J_getI o fl_RX3_18 (W_kd hv0) (Nat.zero_le _) (W_hi hv0) rfl d_X3_canSail_9 ?_
    refine J_callV (k := v0) (c := 3) o [.int v2, .int (σ v0 2)] (W_kd hv0) (by decide) (Nat.zero_le _) (W_hi hv0) mth_X3_priceOf iv_X3_priceOf ml_RX3_133 ⟨Nat.le_of_ble_eq_true rfl, Nat.le_of_ble_eq_true rfl⟩ rfl rfl (Nat.le_of_ble_eq_true rfl) ⟨Nat.le_refl _, Nat.le_refl _⟩ d_X3_canSail_12 (w_X3_priceOf (xL x) b hv0 h) (aI (fun r12 s12 h => ?_))
    refine J_aload_n o 0 d_X3_canSail_15 rfl ?_
    refine J_getR (t := (v0 + 2)) o fl_RX3_46 (W_kd hv0) (Nat.zero_le _) (W_hi hv0) rfl (W_t hv0 11 (by decide)) d_X3_canSail_16 ?_
    refine J_iload_n o 1 d_X3_canSail_19 rfl ?_
    refine J_callSN o [.ref (wB (wC b) + (v0 + 2)), .int v1] mth_X4_read st_X4_read mn_RX3_117 ⟨Nat.le_of_ble_eq_true rfl, Nat.le_of_ble_eq_true rfl⟩ rfl rfl (Nat.le_of_ble_eq_true rfl) ⟨Nat.le_refl _, Nat.le_refl _⟩ d_X3_canSail_20 (w_X4_read (xL x) b (W_A2 hv0) h) (aI (fun r20 s20 h => ?_))
    refine J_icmp_gt o 30 d_X3_canSail_23 rfl (fun c23 => ?_) (fun c23 => ?_)
    · replace h := h.1 c23
      refine J_iconst (v := 0) o d_X3_canSail_30 iconst_0 ?_
      exact c_X3_canSail_31 o hv0  0 s20  h
    · replace h := h.2 c23
      refine J_iconst (v := 1) o d_X3_canSail_26 iconst_1 ?_
      refine J_goto o 31 d_X3_canSail_27 rfl ?_
      exact c_X3_canSail_31 o hv0  1 s20  h
  · replace h := h.2 c1
    refine J_iconst (v := 1) o d_X3_canSail_4 iconst_1 ?_
    exact J_zret o (Or.inr rfl) d_X3_canSail_5 ⟨_, rfl, (Or.inr rfl), h⟩
theorem d_X3_sail_0 : decode cX3_sail 0 = .ok (.iload_n 1, 1) := by decide +kernel
theorem d_X3_sail_1 : decode cX3_sail 1 = .ok (.aload_n 0, 1) := by decide +kernel
theorem d_X3_sail_2 : decode cX3_sail 2 = .ok (.getfield 33, 3) := by decide +kernel
theorem d_X3_sail_5 : decode cX3_sail 5 = .ok (.if_icmp .lt 4, 3) := by decide +kernel
theorem d_X3_sail_8 : decode cX3_sail 8 = .ok (.return_, 1) := by decide +kernel
theorem d_X3_sail_9 : decode cX3_sail 9 = .ok (.aload_n 0, 1) := by decide +kernel
theorem d_X3_sail_10 : decode cX3_sail 10 = .ok (.getfield 46, 3) := by decide +kernel
theorem d_X3_sail_13 : decode cX3_sail 13 = .ok (.iload_n 1, 1) := by decide +kernel
theorem d_X3_sail_14 : decode cX3_sail 14 = .ok (.aload_n 0, 1) := by decide +kernel
theorem d_X3_sail_15 : decode cX3_sail 15 = .ok (.getfield 46, 3) := by decide +kernel
theorem d_X3_sail_18 : decode cX3_sail 18 = .ok (.iload_n 1, 1) := by decide +kernel
theorem d_X3_sail_19 : decode cX3_sail 19 = .ok (.invokestatic 117, 3) := by decide +kernel
theorem d_X3_sail_22 : decode cX3_sail 22 = .ok (.aload_n 0, 1) := by decide +kernel
theorem d_X3_sail_23 : decode cX3_sail 23 = .ok (.iload_n 2, 1) := by decide +kernel
theorem d_X3_sail_24 : decode cX3_sail 24 = .ok (.aload_n 0, 1) := by decide +kernel
theorem d_X3_sail_25 : decode cX3_sail 25 = .ok (.getfield 18, 3) := by decide +kernel
theorem d_X3_sail_28 : decode cX3_sail 28 = .ok (.invokevirtual 133, 3) := by decide +kernel
theorem d_X3_sail_31 : decode cX3_sail 31 = .ok (.isub, 1) := by decide +kernel
theorem d_X3_sail_32 : decode cX3_sail 32 = .ok (.invokestatic 96, 3) := by decide +kernel
theorem d_X3_sail_35 : decode cX3_sail 35 = .ok (.aload_n 0, 1) := by decide +kernel
theorem d_X3_sail_36 : decode cX3_sail 36 = .ok (.getfield 42, 3) := by decide +kernel
theorem d_X3_sail_39 : decode cX3_sail 39 = .ok (.iload_n 1, 1) := by decide +kernel
theorem d_X3_sail_40 : decode cX3_sail 40 = .ok (.aload_n 0, 1) := by decide +kernel
theorem d_X3_sail_41 : decode cX3_sail 41 = .ok (.aload_n 0, 1) := by decide +kernel
theorem d_X3_sail_42 : decode cX3_sail 42 = .ok (.getfield 42, 3) := by decide +kernel
theorem d_X3_sail_45 : decode cX3_sail 45 = .ok (.iload_n 1, 1) := by decide +kernel
theorem d_X3_sail_46 : decode cX3_sail 46 = .ok (.invokestatic 117, 3) := by decide +kernel
theorem d_X3_sail_49 : decode cX3_sail 49 = .ok (.iload_n 2, 1) := by decide +kernel
theorem d_X3_sail_50 : decode cX3_sail 50 = .ok (.invokevirtual 136, 3) := by decide +kernel
theorem d_X3_sail_53 : decode cX3_sail 53 = .ok (.invokestatic 96, 3) := by decide +kernel
theorem d_X3_sail_56 : decode cX3_sail 56 = .ok (.return_, 1) := by decide +kernel
abbrev rm_X3_sail : Room := { frames := 4, cells := 0, slots := 0, locals := 93 }
set_option maxHeartbeats 4000000 in
set_option maxRecDepth 20000 in
theorem w_X3_sail (l : Launch) (b : Wy) {v0 : Nat} {v1 : Int32} {v2 : Int32} {σ : Sg} {K : Sg → Prop} (hv0 : IsW v0) (h : m_X3_sail v0 v1 v2 σ K) : Ct l (wC b) yX3_sail cX3_sail 3 none rm_X3_sail [.ref (wB (wC b) + v0), .int v1, .int v2] σ (PV K) := by
  unfold m_X3_sail at h
  refine Ct.of (own := RX3) (by decide +kernel) rfl (Nat.le_of_ble_eq_true rfl) (fun x hx o => ?_)
  subst hx
  show J x (wC b) (FinC x (wC b) (PV K) (0, 0)) 0 [(0, .ref (wB (wC b) + v0)), (1, .int v1), (2, .int v2)] [] (0, 0) σ
  refine J_iload_n o 1 d_X3_sail_0 rfl ?_
  refine J_aload_n o 0 d_X3_sail_1 rfl ?_
  refine J_getI o fl_RX3_33 (W_kd hv0) (Nat.zero_le _) (W_hi hv0) rfl d_X3_sail_2 ?_
  refine J_icmp_lt o 9 d_X3_sail_5 rfl (fun c5 => ?_) (fun c5 => ?_)
  · replace h := h.1 c5
    refine J_aload_n o 0 d_X3_sail_9 rfl ?_
    refine J_getR (t := (v0 + 2)) o fl_RX3_46 (W_kd hv0) (Nat.zero_le _) (W_hi hv0) rfl (W_t hv0 11 (by decide)) d_X3_sail_10 ?_
    refine J_iload_n o 1 d_X3_sail_13 rfl ?_
    refine J_aload_n o 0 d_X3_sail_14 rfl ?_
    refine J_getR (t := (v0 + 2)) o fl_RX3_46 (W_kd hv0) (Nat.zero_le _) (W_hi hv0) rfl (W_t hv0 11 (by decide)) d_X3_sail_15 ?_
    refine J_iload_n o 1 d_X3_sail_18 rfl ?_
    refine J_callSN o [.ref (wB (wC b) + (v0 + 2)), .int v1] mth_X4_read st_X4_read mn_RX3_117 ⟨Nat.le_of_ble_eq_true rfl, Nat.le_of_ble_eq_true rfl⟩ rfl rfl (Nat.le_of_ble_eq_true rfl) ⟨Nat.le_refl _, Nat.le_refl _⟩ d_X3_sail_19 (w_X4_read (xL x) b (W_A2 hv0) h) (aI (fun r19 s19 h => ?_))
    refine J_aload_n o 0 d_X3_sail_22 rfl ?_
    refine J_iload_n o 2 d_X3_sail_23 rfl ?_
    refine J_aload_n o 0 d_X3_sail_24 rfl ?_
    refine J_getI o fl_RX3_18 (W_kd hv0) (Nat.zero_le _) (W_hi hv0) rfl d_X3_sail_25 ?_
    refine J_callV (k := v0) (c := 3) o [.int v2, .int (s19 v0 2)] (W_kd hv0) (by decide) (Nat.zero_le _) (W_hi hv0) mth_X3_priceOf iv_X3_priceOf ml_RX3_133 ⟨Nat.le_of_ble_eq_true rfl, Nat.le_of_ble_eq_true rfl⟩ rfl rfl (Nat.le_of_ble_eq_true rfl) ⟨Nat.le_refl _, Nat.le_refl _⟩ d_X3_sail_28 (w_X3_priceOf (xL x) b hv0 h) (aI (fun r28 s28 h => ?_))
    refine J_isub o d_X3_sail_31 ?_
    refine J_callSN o [.ref (wB (wC b) + (v0 + 2)), .int v1, .int (r19 - r28)] mth_X4_write st_X4_write mn_RX3_96 ⟨Nat.le_of_ble_eq_true rfl, Nat.le_of_ble_eq_true rfl⟩ rfl rfl (Nat.le_of_ble_eq_true rfl) ⟨Nat.le_refl _, Nat.le_refl _⟩ d_X3_sail_32 (w_X4_write (xL x) b (W_A2 hv0) h) (aV (fun s32 h => ?_))
    refine J_aload_n o 0 d_X3_sail_35 rfl ?_
    refine J_getR (t := (v0 + 1)) o fl_RX3_42 (W_kd hv0) (Nat.zero_le _) (W_hi hv0) rfl (W_t hv0 10 (by decide)) d_X3_sail_36 ?_
    refine J_iload_n o 1 d_X3_sail_39 rfl ?_
    refine J_aload_n o 0 d_X3_sail_40 rfl ?_
    refine J_aload_n o 0 d_X3_sail_41 rfl ?_
    refine J_getR (t := (v0 + 1)) o fl_RX3_42 (W_kd hv0) (Nat.zero_le _) (W_hi hv0) rfl (W_t hv0 10 (by decide)) d_X3_sail_42 ?_
    refine J_iload_n o 1 d_X3_sail_45 rfl ?_
    refine J_callSN o [.ref (wB (wC b) + (v0 + 1)), .int v1] mth_X4_read st_X4_read mn_RX3_117 ⟨Nat.le_of_ble_eq_true rfl, Nat.le_of_ble_eq_true rfl⟩ rfl rfl (Nat.le_of_ble_eq_true rfl) ⟨Nat.le_refl _, Nat.le_refl _⟩ d_X3_sail_46 (w_X4_read (xL x) b (W_A1 hv0) h) (aI (fun r46 s46 h => ?_))
    refine J_iload_n o 2 d_X3_sail_49 rfl ?_
    refine J_callV (k := v0) (c := 3) o [.int r46, .int v2] (W_kd hv0) (by decide) (Nat.zero_le _) (W_hi hv0) mth_X3_helperBehind iv_X3_helperBehind ml_RX3_136 ⟨Nat.le_of_ble_eq_true rfl, Nat.le_of_ble_eq_true rfl⟩ rfl rfl (Nat.le_of_ble_eq_true rfl) ⟨Nat.le_refl _, Nat.le_refl _⟩ d_X3_sail_50 (w_X3_helperBehind (xL x) b hv0 h) (aI (fun r50 s50 h => ?_))
    refine J_callSN o [.ref (wB (wC b) + (v0 + 1)), .int v1, .int r50] mth_X4_write st_X4_write mn_RX3_96 ⟨Nat.le_of_ble_eq_true rfl, Nat.le_of_ble_eq_true rfl⟩ rfl rfl (Nat.le_of_ble_eq_true rfl) ⟨Nat.le_refl _, Nat.le_refl _⟩ d_X3_sail_53 (w_X4_write (xL x) b (W_A1 hv0) h) (aV (fun s53 h => ?_))
    exact J_vret o d_X3_sail_56 ⟨rfl, h⟩
  · replace h := h.2 c5
    exact J_vret o d_X3_sail_8 ⟨rfl, h⟩
theorem d_X3_passHour_0 : decode cX3_passHour 0 = .ok (.aload_n 0, 1) := by decide +kernel
theorem d_X3_passHour_1 : decode cX3_passHour 1 = .ok (.aload_n 0, 1) := by decide +kernel
theorem d_X3_passHour_2 : decode cX3_passHour 2 = .ok (.aload_n 0, 1) := by decide +kernel
theorem d_X3_passHour_3 : decode cX3_passHour 3 = .ok (.getfield 27, 3) := by decide +kernel
theorem d_X3_passHour_6 : decode cX3_passHour 6 = .ok (.aload_n 0, 1) := by decide +kernel
theorem d_X3_passHour_7 : decode cX3_passHour 7 = .ok (.getfield 18, 3) := by decide +kernel
theorem d_X3_passHour_10 : decode cX3_passHour 10 = .ok (.invokevirtual 139, 3) := by decide +kernel
theorem d_X3_passHour_13 : decode cX3_passHour 13 = .ok (.putfield 27, 3) := by decide +kernel
theorem d_X3_passHour_16 : decode cX3_passHour 16 = .ok (.aload_n 0, 1) := by decide +kernel
theorem d_X3_passHour_17 : decode cX3_passHour 17 = .ok (.aload_n 0, 1) := by decide +kernel
theorem d_X3_passHour_18 : decode cX3_passHour 18 = .ok (.aload_n 0, 1) := by decide +kernel
theorem d_X3_passHour_19 : decode cX3_passHour 19 = .ok (.getfield 30, 3) := by decide +kernel
theorem d_X3_passHour_22 : decode cX3_passHour 22 = .ok (.aload_n 0, 1) := by decide +kernel
theorem d_X3_passHour_23 : decode cX3_passHour 23 = .ok (.getfield 18, 3) := by decide +kernel
theorem d_X3_passHour_26 : decode cX3_passHour 26 = .ok (.invokevirtual 142, 3) := by decide +kernel
theorem d_X3_passHour_29 : decode cX3_passHour 29 = .ok (.putfield 30, 3) := by decide +kernel
theorem d_X3_passHour_32 : decode cX3_passHour 32 = .ok (.aload_n 0, 1) := by decide +kernel
theorem d_X3_passHour_33 : decode cX3_passHour 33 = .ok (.dup, 1) := by decide +kernel
theorem d_X3_passHour_34 : decode cX3_passHour 34 = .ok (.getfield 18, 3) := by decide +kernel
theorem d_X3_passHour_37 : decode cX3_passHour 37 = .ok (.iconst 1, 1) := by decide +kernel
theorem d_X3_passHour_38 : decode cX3_passHour 38 = .ok (.iadd, 1) := by decide +kernel
theorem d_X3_passHour_39 : decode cX3_passHour 39 = .ok (.putfield 18, 3) := by decide +kernel
theorem d_X3_passHour_42 : decode cX3_passHour 42 = .ok (.return_, 1) := by decide +kernel
abbrev rm_X3_passHour : Room := { frames := 4, cells := 0, slots := 0, locals := 94 }
set_option maxHeartbeats 4000000 in
set_option maxRecDepth 20000 in
theorem w_X3_passHour (l : Launch) (b : Wy) {v0 : Nat} {σ : Sg} {K : Sg → Prop} (hv0 : IsW v0) (h : m_X3_passHour v0 σ K) : Ct l (wC b) yX3_passHour cX3_passHour 1 none rm_X3_passHour [.ref (wB (wC b) + v0)] σ (PV K) := by
  unfold m_X3_passHour at h
  refine Ct.of (own := RX3) (by decide +kernel) rfl (Nat.le_of_ble_eq_true rfl) (fun x hx o => ?_)
  subst hx
  show J x (wC b) (FinC x (wC b) (PV K) (0, 0)) 0 [(0, .ref (wB (wC b) + v0))] [] (0, 0) σ
  refine J_aload_n o 0 d_X3_passHour_0 rfl ?_
  refine J_aload_n o 0 d_X3_passHour_1 rfl ?_
  refine J_aload_n o 0 d_X3_passHour_2 rfl ?_
  refine J_getI o fl_RX3_27 (W_kd hv0) (Nat.zero_le _) (W_hi hv0) rfl d_X3_passHour_3 ?_
  refine J_aload_n o 0 d_X3_passHour_6 rfl ?_
  refine J_getI o fl_RX3_18 (W_kd hv0) (Nat.zero_le _) (W_hi hv0) rfl d_X3_passHour_7 ?_
  refine J_callV (k := v0) (c := 3) o [.int (σ v0 5), .int (σ v0 2)] (W_kd hv0) (by decide) (Nat.zero_le _) (W_hi hv0) mth_X3_drifterBehind iv_X3_drifterBehind ml_RX3_139 ⟨Nat.le_of_ble_eq_true rfl, Nat.le_of_ble_eq_true rfl⟩ rfl rfl (Nat.le_of_ble_eq_true rfl) ⟨Nat.le_refl _, Nat.le_refl _⟩ d_X3_passHour_10 (w_X3_drifterBehind (xL x) b hv0 h) (aI (fun r10 s10 h => ?_))
  refine J_put o fl_RX3_27 la_3 (W_kd hv0) (Nat.zero_le _) (W_hi hv0) rfl rfl rfl rfl d_X3_passHour_13 ?_
  refine J_nS (fun s13 es13 => ?_)
  replace h := h s13 es13
  refine J_aload_n o 0 d_X3_passHour_16 rfl ?_
  refine J_aload_n o 0 d_X3_passHour_17 rfl ?_
  refine J_aload_n o 0 d_X3_passHour_18 rfl ?_
  refine J_getI o fl_RX3_30 (W_kd hv0) (Nat.zero_le _) (W_hi hv0) rfl d_X3_passHour_19 ?_
  refine J_aload_n o 0 d_X3_passHour_22 rfl ?_
  refine J_getI o fl_RX3_18 (W_kd hv0) (Nat.zero_le _) (W_hi hv0) rfl d_X3_passHour_23 ?_
  refine J_callV (k := v0) (c := 3) o [.int (s13 v0 6), .int (s13 v0 2)] (W_kd hv0) (by decide) (Nat.zero_le _) (W_hi hv0) mth_X3_portBehind iv_X3_portBehind ml_RX3_142 ⟨Nat.le_of_ble_eq_true rfl, Nat.le_of_ble_eq_true rfl⟩ rfl rfl (Nat.le_of_ble_eq_true rfl) ⟨Nat.le_refl _, Nat.le_refl _⟩ d_X3_passHour_26 (w_X3_portBehind (xL x) b hv0 h) (aI (fun r26 s26 h => ?_))
  refine J_put o fl_RX3_30 la_3 (W_kd hv0) (Nat.zero_le _) (W_hi hv0) rfl rfl rfl rfl d_X3_passHour_29 ?_
  refine J_nS (fun s29 es29 => ?_)
  replace h := h s29 es29
  refine J_aload_n o 0 d_X3_passHour_32 rfl ?_
  refine J_dup o d_X3_passHour_33 rfl ?_
  refine J_getI o fl_RX3_18 (W_kd hv0) (Nat.zero_le _) (W_hi hv0) rfl d_X3_passHour_34 ?_
  refine J_iconst (v := 1) o d_X3_passHour_37 iconst_1 ?_
  refine J_iadd o d_X3_passHour_38 ?_
  refine J_put o fl_RX3_18 la_3 (W_kd hv0) (Nat.zero_le _) (W_hi hv0) rfl rfl rfl rfl d_X3_passHour_39 ?_
  refine J_nS (fun s39 es39 => ?_)
  replace h := h s39 es39
  exact J_vret o d_X3_passHour_42 ⟨rfl, h⟩
theorem d_X3_meetingBits_0 : decode cX3_meetingBits 0 = .ok (.iconst 0, 1) := by decide +kernel
theorem d_X3_meetingBits_1 : decode cX3_meetingBits 1 = .ok (.istore_n 1, 1) := by decide +kernel
theorem d_X3_meetingBits_2 : decode cX3_meetingBits 2 = .ok (.iconst 0, 1) := by decide +kernel
theorem d_X3_meetingBits_3 : decode cX3_meetingBits 3 = .ok (.istore_n 2, 1) := by decide +kernel
theorem d_X3_meetingBits_4 : decode cX3_meetingBits 4 = .ok (.iload_n 2, 1) := by decide +kernel
theorem d_X3_meetingBits_5 : decode cX3_meetingBits 5 = .ok (.aload_n 0, 1) := by decide +kernel
theorem d_X3_meetingBits_6 : decode cX3_meetingBits 6 = .ok (.getfield 33, 3) := by decide +kernel
theorem d_X3_meetingBits_9 : decode cX3_meetingBits 9 = .ok (.if_icmp .ge 30, 3) := by decide +kernel
theorem d_X3_meetingBits_12 : decode cX3_meetingBits 12 = .ok (.aload_n 0, 1) := by decide +kernel
theorem d_X3_meetingBits_13 : decode cX3_meetingBits 13 = .ok (.getfield 42, 3) := by decide +kernel
theorem d_X3_meetingBits_16 : decode cX3_meetingBits 16 = .ok (.iload_n 2, 1) := by decide +kernel
theorem d_X3_meetingBits_17 : decode cX3_meetingBits 17 = .ok (.invokestatic 117, 3) := by decide +kernel
theorem d_X3_meetingBits_20 : decode cX3_meetingBits 20 = .ok (.aload_n 0, 1) := by decide +kernel
theorem d_X3_meetingBits_21 : decode cX3_meetingBits 21 = .ok (.getfield 27, 3) := by decide +kernel
theorem d_X3_meetingBits_24 : decode cX3_meetingBits 24 = .ok (.if_icmp .ne 9, 3) := by decide +kernel
theorem d_X3_meetingBits_27 : decode cX3_meetingBits 27 = .ok (.iload_n 1, 1) := by decide +kernel
theorem d_X3_meetingBits_28 : decode cX3_meetingBits 28 = .ok (.iconst 1, 1) := by decide +kernel
theorem d_X3_meetingBits_29 : decode cX3_meetingBits 29 = .ok (.iload_n 2, 1) := by decide +kernel
theorem d_X3_meetingBits_30 : decode cX3_meetingBits 30 = .ok (.ishl, 1) := by decide +kernel
theorem d_X3_meetingBits_31 : decode cX3_meetingBits 31 = .ok (.ior, 1) := by decide +kernel
theorem d_X3_meetingBits_32 : decode cX3_meetingBits 32 = .ok (.istore_n 1, 1) := by decide +kernel
theorem d_X3_meetingBits_33 : decode cX3_meetingBits 33 = .ok (.iinc 2 1, 3) := by decide +kernel
theorem d_X3_meetingBits_36 : decode cX3_meetingBits 36 = .ok (.goto (-32), 3) := by decide +kernel
theorem d_X3_meetingBits_39 : decode cX3_meetingBits 39 = .ok (.iload_n 1, 1) := by decide +kernel
theorem d_X3_meetingBits_40 : decode cX3_meetingBits 40 = .ok (.ireturn, 1) := by decide +kernel
abbrev rm_X3_meetingBits : Room := { frames := 1, cells := 0, slots := 0, locals := 21 }
set_option maxHeartbeats 4000000 in
set_option maxRecDepth 20000 in
theorem c_X3_meetingBits_4 {x : Cx} {b : Wy} (o : Ok x (wC b) cX3_meetingBits 3 RX3 (some .int) rm_X3_meetingBits) {v0 : Nat} {K : Int32 → Sg → Prop}  (hv0 : IsW v0) : ∀ (n : Nat) (l1 : Int32) (l2 : Int32) (σ : Sg), m_X3_meetingBits_l4 v0 K  n l1 l2 σ → J x (wC b) (FinC x (wC b) (PI K) (0, 0)) 4 [(0, .ref (wB (wC b) + v0)), (1, .int l1), (2, .int l2)] [] (0, 0) σ := by
  intro n
  induction n with
  | zero =>
    intro l1 l2 σ  h
    exact False.elim h
  | succ n ih =>
    intro l1 l2 σ  h
    unfold m_X3_meetingBits_l4 at h
    refine J_iload_n o 2 d_X3_meetingBits_4 rfl ?_
    refine J_aload_n o 0 d_X3_meetingBits_5 rfl ?_
    refine J_getI o fl_RX3_33 (W_kd hv0) (Nat.zero_le _) (W_hi hv0) rfl d_X3_meetingBits_6 ?_
    refine J_icmp_ge o 39 d_X3_meetingBits_9 rfl (fun c9 => ?_) (fun c9 => ?_)
    · replace h := h.1 c9
      refine J_iload_n o 1 d_X3_meetingBits_39 rfl ?_
      exact J_iret o d_X3_meetingBits_40 ⟨_, rfl, h⟩
    · replace h := h.2 c9
      refine J_aload_n o 0 d_X3_meetingBits_12 rfl ?_
      refine J_getR (t := (v0 + 1)) o fl_RX3_42 (W_kd hv0) (Nat.zero_le _) (W_hi hv0) rfl (W_t hv0 10 (by decide)) d_X3_meetingBits_13 ?_
      refine J_iload_n o 2 d_X3_meetingBits_16 rfl ?_
      refine J_callSN o [.ref (wB (wC b) + (v0 + 1)), .int l2] mth_X4_read st_X4_read mn_RX3_117 ⟨Nat.le_of_ble_eq_true rfl, Nat.le_of_ble_eq_true rfl⟩ rfl rfl (Nat.le_of_ble_eq_true rfl) ⟨Nat.le_refl _, Nat.le_refl _⟩ d_X3_meetingBits_17 (w_X4_read (xL x) b (W_A1 hv0) h) (aI (fun r17 s17 h => ?_))
      refine J_aload_n o 0 d_X3_meetingBits_20 rfl ?_
      refine J_getI o fl_RX3_27 (W_kd hv0) (Nat.zero_le _) (W_hi hv0) rfl d_X3_meetingBits_21 ?_
      refine J_icmp_ne o 33 d_X3_meetingBits_24 rfl (fun c24 => ?_) (fun c24 => ?_)
      · replace h := h.1 c24
        refine J_iinc (lv' := [(2, .int (l2 + 1)), (0, .ref (wB (wC b) + v0)), (1, .int l1)]) o 2 d_X3_meetingBits_33 (by decide) rfl iconst_1 rfl ?_
        refine J_goto o 4 d_X3_meetingBits_36 rfl ?_
        refine J_sub [1, 2, 0] rfl ?_
        exact ih l1 (l2 + 1) s17  h
      · replace h := h.2 c24
        refine J_iload_n o 1 d_X3_meetingBits_27 rfl ?_
        refine J_iconst (v := 1) o d_X3_meetingBits_28 iconst_1 ?_
        refine J_iload_n o 2 d_X3_meetingBits_29 rfl ?_
        refine J_ishl o d_X3_meetingBits_30 ?_
        refine J_ior o d_X3_meetingBits_31 ?_
        refine J_top (fun l1_32 el1_32 => ?_)
        replace h := h l1_32 el1_32
        refine J_istore_n (lv' := [(1, .int l1_32), (0, .ref (wB (wC b) + v0)), (2, .int l2)]) o d_X3_meetingBits_32 (by decide) rfl ?_
        refine J_iinc (lv' := [(2, .int (l2 + 1)), (1, .int l1_32), (0, .ref (wB (wC b) + v0))]) o 2 d_X3_meetingBits_33 (by decide) rfl iconst_1 rfl ?_
        refine J_goto o 4 d_X3_meetingBits_36 rfl ?_
        refine J_sub [2, 1, 0] rfl ?_
        exact ih l1_32 (l2 + 1) s17  h
set_option maxHeartbeats 4000000 in
set_option maxRecDepth 20000 in
theorem w_X3_meetingBits (l : Launch) (b : Wy) {v0 : Nat} {σ : Sg} {K : Int32 → Sg → Prop} (hv0 : IsW v0) (h : m_X3_meetingBits v0 σ K) : Ct l (wC b) yX3_meetingBits cX3_meetingBits 3 (some .int) rm_X3_meetingBits [.ref (wB (wC b) + v0)] σ (PI K) := by
  unfold m_X3_meetingBits at h
  refine Ct.of (own := RX3) (by decide +kernel) rfl (Nat.le_of_ble_eq_true rfl) (fun x hx o => ?_)
  subst hx
  show J x (wC b) (FinC x (wC b) (PI K) (0, 0)) 0 [(0, .ref (wB (wC b) + v0))] [] (0, 0) σ
  refine J_iconst (v := 0) o d_X3_meetingBits_0 iconst_0 ?_
  refine J_istore_n (lv' := [(1, .int 0), (0, .ref (wB (wC b) + v0))]) o d_X3_meetingBits_1 (by decide) rfl ?_
  refine J_iconst (v := 0) o d_X3_meetingBits_2 iconst_0 ?_
  refine J_istore_n (lv' := [(2, .int 0), (1, .int 0), (0, .ref (wB (wC b) + v0))]) o d_X3_meetingBits_3 (by decide) rfl ?_
  refine J_sub [2, 1, 0] rfl ?_
  obtain ⟨n9, h⟩ := h
  exact c_X3_meetingBits_4 o hv0  n9 0 0 σ  h
theorem d_X3_countLand_0 : decode cX3_countLand 0 = .ok (.iconst 0, 1) := by decide +kernel
theorem d_X3_countLand_1 : decode cX3_countLand 1 = .ok (.istore_n 1, 1) := by decide +kernel
theorem d_X3_countLand_2 : decode cX3_countLand 2 = .ok (.iconst 0, 1) := by decide +kernel
theorem d_X3_countLand_3 : decode cX3_countLand 3 = .ok (.istore_n 2, 1) := by decide +kernel
theorem d_X3_countLand_4 : decode cX3_countLand 4 = .ok (.iload_n 2, 1) := by decide +kernel
theorem d_X3_countLand_5 : decode cX3_countLand 5 = .ok (.aload_n 0, 1) := by decide +kernel
theorem d_X3_countLand_6 : decode cX3_countLand 6 = .ok (.getfield 49, 3) := by decide +kernel
theorem d_X3_countLand_9 : decode cX3_countLand 9 = .ok (.arraylength, 1) := by decide +kernel
theorem d_X3_countLand_10 : decode cX3_countLand 10 = .ok (.if_icmp .ge 18, 3) := by decide +kernel
theorem d_X3_countLand_13 : decode cX3_countLand 13 = .ok (.iload_n 1, 1) := by decide +kernel
theorem d_X3_countLand_14 : decode cX3_countLand 14 = .ok (.aload_n 0, 1) := by decide +kernel
theorem d_X3_countLand_15 : decode cX3_countLand 15 = .ok (.getfield 49, 3) := by decide +kernel
theorem d_X3_countLand_18 : decode cX3_countLand 18 = .ok (.iload_n 2, 1) := by decide +kernel
theorem d_X3_countLand_19 : decode cX3_countLand 19 = .ok (.iaload, 1) := by decide +kernel
theorem d_X3_countLand_20 : decode cX3_countLand 20 = .ok (.iadd, 1) := by decide +kernel
theorem d_X3_countLand_21 : decode cX3_countLand 21 = .ok (.istore_n 1, 1) := by decide +kernel
theorem d_X3_countLand_22 : decode cX3_countLand 22 = .ok (.iinc 2 1, 3) := by decide +kernel
theorem d_X3_countLand_25 : decode cX3_countLand 25 = .ok (.goto (-21), 3) := by decide +kernel
theorem d_X3_countLand_28 : decode cX3_countLand 28 = .ok (.iload_n 1, 1) := by decide +kernel
theorem d_X3_countLand_29 : decode cX3_countLand 29 = .ok (.ireturn, 1) := by decide +kernel
abbrev rm_X3_countLand : Room := { frames := 0, cells := 0, slots := 0, locals := 0 }
set_option maxHeartbeats 4000000 in
set_option maxRecDepth 20000 in
theorem c_X3_countLand_4 {x : Cx} {b : Wy} (o : Ok x (wC b) cX3_countLand 3 RX3 (some .int) rm_X3_countLand) {v0 : Nat} {K : Int32 → Sg → Prop}  (hv0 : IsW v0) : ∀ (n : Nat) (l1 : Int32) (l2 : Int32) (σ : Sg), m_X3_countLand_l4 v0 K  n l1 l2 σ → J x (wC b) (FinC x (wC b) (PI K) (0, 0)) 4 [(0, .ref (wB (wC b) + v0)), (1, .int l1), (2, .int l2)] [] (0, 0) σ := by
  intro n
  induction n with
  | zero =>
    intro l1 l2 σ  h
    exact False.elim h
  | succ n ih =>
    intro l1 l2 σ  h
    unfold m_X3_countLand_l4 at h
    refine J_iload_n o 2 d_X3_countLand_4 rfl ?_
    refine J_aload_n o 0 d_X3_countLand_5 rfl ?_
    refine J_getR (t := (v0 + 3)) o fl_RX3_49 (W_kd hv0) (Nat.zero_le _) (W_hi hv0) rfl (W_t hv0 12 (by decide)) d_X3_countLand_6 ?_
    refine J_alenL o (W_A3 hv0) (W_L3 hv0) d_X3_countLand_9 ?_
    refine J_icmp_ge o 28 d_X3_countLand_10 rfl (fun c10 => ?_) (fun c10 => ?_)
    · replace h := h.1 c10
      refine J_iload_n o 1 d_X3_countLand_28 rfl ?_
      exact J_iret o d_X3_countLand_29 ⟨_, rfl, h⟩
    · replace h := h.2 c10
      refine J_iload_n o 1 d_X3_countLand_13 rfl ?_
      refine J_aload_n o 0 d_X3_countLand_14 rfl ?_
      refine J_getR (t := (v0 + 3)) o fl_RX3_49 (W_kd hv0) (Nat.zero_le _) (W_hi hv0) rfl (W_t hv0 12 (by decide)) d_X3_countLand_15 ?_
      refine J_iload_n o 2 d_X3_countLand_18 rfl ?_
      have b19 := h.1
      replace h := h.2
      refine J_iald o (W_A3 hv0) (vpc (W_L3 hv0) b19) d_X3_countLand_19 ?_
      refine J_iadd o d_X3_countLand_20 ?_
      refine J_top (fun l1_21 el1_21 => ?_)
      replace h := h l1_21 el1_21
      refine J_istore_n (lv' := [(1, .int l1_21), (0, .ref (wB (wC b) + v0)), (2, .int l2)]) o d_X3_countLand_21 (by decide) rfl ?_
      refine J_iinc (lv' := [(2, .int (l2 + 1)), (1, .int l1_21), (0, .ref (wB (wC b) + v0))]) o 2 d_X3_countLand_22 (by decide) rfl iconst_1 rfl ?_
      refine J_goto o 4 d_X3_countLand_25 rfl ?_
      refine J_sub [2, 1, 0] rfl ?_
      exact ih l1_21 (l2 + 1) σ  h
set_option maxHeartbeats 4000000 in
set_option maxRecDepth 20000 in
theorem w_X3_countLand (l : Launch) (b : Wy) {v0 : Nat} {σ : Sg} {K : Int32 → Sg → Prop} (hv0 : IsW v0) (h : m_X3_countLand v0 σ K) : Ct l (wC b) yX3_countLand cX3_countLand 3 (some .int) rm_X3_countLand [.ref (wB (wC b) + v0)] σ (PI K) := by
  unfold m_X3_countLand at h
  refine Ct.of (own := RX3) (by decide +kernel) rfl (Nat.le_of_ble_eq_true rfl) (fun x hx o => ?_)
  subst hx
  show J x (wC b) (FinC x (wC b) (PI K) (0, 0)) 0 [(0, .ref (wB (wC b) + v0))] [] (0, 0) σ
  refine J_iconst (v := 0) o d_X3_countLand_0 iconst_0 ?_
  refine J_istore_n (lv' := [(1, .int 0), (0, .ref (wB (wC b) + v0))]) o d_X3_countLand_1 (by decide) rfl ?_
  refine J_iconst (v := 0) o d_X3_countLand_2 iconst_0 ?_
  refine J_istore_n (lv' := [(2, .int 0), (1, .int 0), (0, .ref (wB (wC b) + v0))]) o d_X3_countLand_3 (by decide) rfl ?_
  refine J_sub [2, 1, 0] rfl ?_
  obtain ⟨n9, h⟩ := h
  exact c_X3_countLand_4 o hv0  n9 0 0 σ  h
theorem d_X0_drifterIn_0 : decode cX0_drifterIn 0 = .ok (.aload_n 0, 1) := by decide +kernel
theorem d_X0_drifterIn_1 : decode cX0_drifterIn 1 = .ok (.getfield 9, 3) := by decide +kernel
theorem d_X0_drifterIn_4 : decode cX0_drifterIn 4 = .ok (.iload_n 1, 1) := by decide +kernel
theorem d_X0_drifterIn_5 : decode cX0_drifterIn 5 = .ok (.invokestatic 98, 3) := by decide +kernel
theorem d_X0_drifterIn_8 : decode cX0_drifterIn 8 = .ok (.ireturn, 1) := by decide +kernel
abbrev rm_X0_drifterIn : Room := { frames := 1, cells := 0, slots := 0, locals := 21 }
set_option maxHeartbeats 4000000 in
set_option maxRecDepth 20000 in
theorem w_X0_drifterIn (l : Launch) (b : Wy) {v1 : Int32} {σ : Sg} {K : Int32 → Sg → Prop}  (h : m_X0_drifterIn v1 σ K) : Ct l (wC b) yX0_drifterIn cX0_drifterIn 2 (some .int) rm_X0_drifterIn [.ref (wB (wC b) + 19), .int v1] σ (PI K) := by
  unfold m_X0_drifterIn at h
  refine Ct.of (own := RX0) (by decide +kernel) rfl (Nat.le_of_ble_eq_true rfl) (fun x hx o => ?_)
  subst hx
  show J x (wC b) (FinC x (wC b) (PI K) (0, 0)) 0 [(0, .ref (wB (wC b) + 19)), (1, .int v1)] [] (0, 0) σ
  refine J_aload_n o 0 d_X0_drifterIn_0 rfl ?_
  refine J_getR (t := 20) o fl_RX0_9 rfl (Nat.le_of_ble_eq_true rfl) (Nat.le_of_ble_eq_true rfl) rfl rfl d_X0_drifterIn_1 ?_
  refine J_iload_n o 1 d_X0_drifterIn_4 rfl ?_
  refine J_callSN o [.ref (wB (wC b) + 20), .int v1] mth_X4_read st_X4_read mn_RX0_98 ⟨Nat.le_of_ble_eq_true rfl, Nat.le_of_ble_eq_true rfl⟩ rfl rfl (Nat.le_of_ble_eq_true rfl) ⟨Nat.le_refl _, Nat.le_refl _⟩ d_X0_drifterIn_5 (w_X4_read (xL x) b A_20 h) (aI (fun r5 s5 h => ?_))
  exact J_iret o d_X0_drifterIn_8 ⟨_, rfl, h⟩
theorem d_X0_portIn_0 : decode cX0_portIn 0 = .ok (.aload_n 0, 1) := by decide +kernel
theorem d_X0_portIn_1 : decode cX0_portIn 1 = .ok (.getfield 15, 3) := by decide +kernel
theorem d_X0_portIn_4 : decode cX0_portIn 4 = .ok (.iload_n 1, 1) := by decide +kernel
theorem d_X0_portIn_5 : decode cX0_portIn 5 = .ok (.invokestatic 98, 3) := by decide +kernel
theorem d_X0_portIn_8 : decode cX0_portIn 8 = .ok (.ireturn, 1) := by decide +kernel
abbrev rm_X0_portIn : Room := { frames := 1, cells := 0, slots := 0, locals := 21 }
set_option maxHeartbeats 4000000 in
set_option maxRecDepth 20000 in
theorem w_X0_portIn (l : Launch) (b : Wy) {v1 : Int32} {σ : Sg} {K : Int32 → Sg → Prop}  (h : m_X0_portIn v1 σ K) : Ct l (wC b) yX0_portIn cX0_portIn 2 (some .int) rm_X0_portIn [.ref (wB (wC b) + 19), .int v1] σ (PI K) := by
  unfold m_X0_portIn at h
  refine Ct.of (own := RX0) (by decide +kernel) rfl (Nat.le_of_ble_eq_true rfl) (fun x hx o => ?_)
  subst hx
  show J x (wC b) (FinC x (wC b) (PI K) (0, 0)) 0 [(0, .ref (wB (wC b) + 19)), (1, .int v1)] [] (0, 0) σ
  refine J_aload_n o 0 d_X0_portIn_0 rfl ?_
  refine J_getR (t := 21) o fl_RX0_15 rfl (Nat.le_of_ble_eq_true rfl) (Nat.le_of_ble_eq_true rfl) rfl rfl d_X0_portIn_1 ?_
  refine J_iload_n o 1 d_X0_portIn_4 rfl ?_
  refine J_callSN o [.ref (wB (wC b) + 21), .int v1] mth_X4_read st_X4_read mn_RX0_98 ⟨Nat.le_of_ble_eq_true rfl, Nat.le_of_ble_eq_true rfl⟩ rfl rfl (Nat.le_of_ble_eq_true rfl) ⟨Nat.le_refl _, Nat.le_refl _⟩ d_X0_portIn_5 (w_X4_read (xL x) b A_21 h) (aI (fun r5 s5 h => ?_))
  exact J_iret o d_X0_portIn_8 ⟨_, rfl, h⟩
theorem d_X0_mostMeeting_0 : decode cX0_mostMeeting 0 = .ok (.iload_n 2, 1) := by decide +kernel
theorem d_X0_mostMeeting_1 : decode cX0_mostMeeting 1 = .ok (.iconst (-1), 1) := by decide +kernel
theorem d_X0_mostMeeting_2 : decode cX0_mostMeeting 2 = .ok (.if_icmp .ne 7, 3) := by decide +kernel
theorem d_X0_mostMeeting_5 : decode cX0_mostMeeting 5 = .ok (.iconst (-1), 1) := by decide +kernel
theorem d_X0_mostMeeting_6 : decode cX0_mostMeeting 6 = .ok (.goto 17, 3) := by decide +kernel
theorem d_X0_mostMeeting_9 : decode cX0_mostMeeting 9 = .ok (.aload_n 0, 1) := by decide +kernel
theorem d_X0_mostMeeting_10 : decode cX0_mostMeeting 10 = .ok (.iload_n 1, 1) := by decide +kernel
theorem d_X0_mostMeeting_11 : decode cX0_mostMeeting 11 = .ok (.iload_n 2, 1) := by decide +kernel
theorem d_X0_mostMeeting_12 : decode cX0_mostMeeting 12 = .ok (.invokevirtual 102, 3) := by decide +kernel
theorem d_X0_mostMeeting_15 : decode cX0_mostMeeting 15 = .ok (.aload_n 0, 1) := by decide +kernel
theorem d_X0_mostMeeting_16 : decode cX0_mostMeeting 16 = .ok (.iload_n 2, 1) := by decide +kernel
theorem d_X0_mostMeeting_17 : decode cX0_mostMeeting 17 = .ok (.invokevirtual 106, 3) := by decide +kernel
theorem d_X0_mostMeeting_20 : decode cX0_mostMeeting 20 = .ok (.invokestatic 98, 3) := by decide +kernel
theorem d_X0_mostMeeting_23 : decode cX0_mostMeeting 23 = .ok (.ireturn, 1) := by decide +kernel
abbrev rm_X0_mostMeeting : Room := { frames := 3, cells := 0, slots := 0, locals := 79 }
set_option maxHeartbeats 4000000 in
set_option maxRecDepth 20000 in
theorem w_X0_mostMeeting (l : Launch) (b : Wy) {v1 : Int32} {v2 : Int32} {σ : Sg} {K : Int32 → Sg → Prop}  (h : m_X0_mostMeeting v1 v2 σ K) : Ct l (wC b) yX0_mostMeeting cX0_mostMeeting 3 (some .int) rm_X0_mostMeeting [.ref (wB (wC b) + 19), .int v1, .int v2] σ (PI K) := by
  unfold m_X0_mostMeeting at h
  refine Ct.of (own := RX0) (by decide +kernel) rfl (Nat.le_of_ble_eq_true rfl) (fun x hx o => ?_)
  subst hx
  show J x (wC b) (FinC x (wC b) (PI K) (0, 0)) 0 [(0, .ref (wB (wC b) + 19)), (1, .int v1), (2, .int v2)] [] (0, 0) σ
  refine J_iload_n o 2 d_X0_mostMeeting_0 rfl ?_
  refine J_iconst (v := (-1)) o d_X0_mostMeeting_1 iconst_m1 ?_
  refine J_icmp_ne o 9 d_X0_mostMeeting_2 rfl (fun c2 => ?_) (fun c2 => ?_)
  · replace h := h.1 c2
    refine J_aload_n o 0 d_X0_mostMeeting_9 rfl ?_
    refine J_iload_n o 1 d_X0_mostMeeting_10 rfl ?_
    refine J_iload_n o 2 d_X0_mostMeeting_11 rfl ?_
    refine J_callV (k := 19) (c := 0) o [.int v1, .int v2] rfl (by decide) (Nat.le_of_ble_eq_true rfl) (Nat.le_of_ble_eq_true rfl) mth_X0_mostsOf iv_X0_mostsOf ml_RX0_102 ⟨Nat.le_of_ble_eq_true rfl, Nat.le_of_ble_eq_true rfl⟩ rfl rfl (Nat.le_of_ble_eq_true rfl) ⟨Nat.le_refl _, Nat.le_refl _⟩ d_X0_mostMeeting_12 (w_X0_mostsOf (xL x) b  h) (aA (fun r12 s12 hr12 h => ?_))
    refine J_aload_n o 0 d_X0_mostMeeting_15 rfl ?_
    refine J_iload_n o 2 d_X0_mostMeeting_16 rfl ?_
    refine J_callV (k := 19) (c := 0) o [.int v2] rfl (by decide) (Nat.le_of_ble_eq_true rfl) (Nat.le_of_ble_eq_true rfl) mth_X0_drifterIn iv_X0_drifterIn ml_RX0_106 ⟨Nat.le_of_ble_eq_true rfl, Nat.le_of_ble_eq_true rfl⟩ rfl rfl (Nat.le_of_ble_eq_true rfl) ⟨Nat.le_refl _, Nat.le_refl _⟩ d_X0_mostMeeting_17 (w_X0_drifterIn (xL x) b  h) (aI (fun r17 s17 h => ?_))
    refine J_callSN o [.ref (wB (wC b) + r12), .int r17] mth_X4_read st_X4_read mn_RX0_98 ⟨Nat.le_of_ble_eq_true rfl, Nat.le_of_ble_eq_true rfl⟩ rfl rfl (Nat.le_of_ble_eq_true rfl) ⟨Nat.le_refl _, Nat.le_refl _⟩ d_X0_mostMeeting_20 (w_X4_read (xL x) b hr12 h) (aI (fun r20 s20 h => ?_))
    exact J_iret o d_X0_mostMeeting_23 ⟨_, rfl, h⟩
  · replace h := h.2 c2
    refine J_iconst (v := (-1)) o d_X0_mostMeeting_5 iconst_m1 ?_
    refine J_goto o 23 d_X0_mostMeeting_6 rfl ?_
    exact J_iret o d_X0_mostMeeting_23 ⟨_, rfl, h⟩
theorem d_X0_needBy_0 : decode cX0_needBy 0 = .ok (.iload_n 3, 1) := by decide +kernel
theorem d_X0_needBy_1 : decode cX0_needBy 1 = .ok (.ifCond .lt 9, 3) := by decide +kernel
theorem d_X0_needBy_4 : decode cX0_needBy 4 = .ok (.iload_n 3, 1) := by decide +kernel
theorem d_X0_needBy_5 : decode cX0_needBy 5 = .ok (.bipush 60, 2) := by decide +kernel
theorem d_X0_needBy_7 : decode cX0_needBy 7 = .ok (.if_icmp .lt 5, 3) := by decide +kernel
theorem d_X0_needBy_10 : decode cX0_needBy 10 = .ok (.iconst (-1), 1) := by decide +kernel
theorem d_X0_needBy_11 : decode cX0_needBy 11 = .ok (.ireturn, 1) := by decide +kernel
theorem d_X0_needBy_12 : decode cX0_needBy 12 = .ok (.aload_n 0, 1) := by decide +kernel
theorem d_X0_needBy_13 : decode cX0_needBy 13 = .ok (.getfield 32, 3) := by decide +kernel
theorem d_X0_needBy_16 : decode cX0_needBy 16 = .ok (.iload_n 3, 1) := by decide +kernel
theorem d_X0_needBy_17 : decode cX0_needBy 17 = .ok (.iconst 1, 1) := by decide +kernel
theorem d_X0_needBy_18 : decode cX0_needBy 18 = .ok (.iadd, 1) := by decide +kernel
theorem d_X0_needBy_19 : decode cX0_needBy 19 = .ok (.aaload, 1) := by decide +kernel
theorem d_X0_needBy_20 : decode cX0_needBy 20 = .ok (.aload_n 0, 1) := by decide +kernel
theorem d_X0_needBy_21 : decode cX0_needBy 21 = .ok (.getfield 18, 3) := by decide +kernel
theorem d_X0_needBy_24 : decode cX0_needBy 24 = .ok (.iload_n 1, 1) := by decide +kernel
theorem d_X0_needBy_25 : decode cX0_needBy 25 = .ok (.bipush 9, 2) := by decide +kernel
theorem d_X0_needBy_27 : decode cX0_needBy 27 = .ok (.imul, 1) := by decide +kernel
theorem d_X0_needBy_28 : decode cX0_needBy 28 = .ok (.iload_n 2, 1) := by decide +kernel
theorem d_X0_needBy_29 : decode cX0_needBy 29 = .ok (.iadd, 1) := by decide +kernel
theorem d_X0_needBy_30 : decode cX0_needBy 30 = .ok (.invokestatic 98, 3) := by decide +kernel
theorem d_X0_needBy_33 : decode cX0_needBy 33 = .ok (.invokestatic 98, 3) := by decide +kernel
theorem d_X0_needBy_36 : decode cX0_needBy 36 = .ok (.istore 4, 2) := by decide +kernel
theorem d_X0_needBy_38 : decode cX0_needBy 38 = .ok (.iload 4, 2) := by decide +kernel
theorem d_X0_needBy_40 : decode cX0_needBy 40 = .ok (.iconst (-1), 1) := by decide +kernel
theorem d_X0_needBy_41 : decode cX0_needBy 41 = .ok (.if_icmp .ne 7, 3) := by decide +kernel
theorem d_X0_needBy_44 : decode cX0_needBy 44 = .ok (.iconst (-1), 1) := by decide +kernel
theorem d_X0_needBy_45 : decode cX0_needBy 45 = .ok (.goto 19, 3) := by decide +kernel
theorem d_X0_needBy_48 : decode cX0_needBy 48 = .ok (.iload 4, 2) := by decide +kernel
theorem d_X0_needBy_50 : decode cX0_needBy 50 = .ok (.aload_n 0, 1) := by decide +kernel
theorem d_X0_needBy_51 : decode cX0_needBy 51 = .ok (.getfield 21, 3) := by decide +kernel
theorem d_X0_needBy_54 : decode cX0_needBy 54 = .ok (.iload_n 3, 1) := by decide +kernel
theorem d_X0_needBy_55 : decode cX0_needBy 55 = .ok (.bipush 9, 2) := by decide +kernel
theorem d_X0_needBy_57 : decode cX0_needBy 57 = .ok (.imul, 1) := by decide +kernel
theorem d_X0_needBy_58 : decode cX0_needBy 58 = .ok (.iload_n 2, 1) := by decide +kernel
theorem d_X0_needBy_59 : decode cX0_needBy 59 = .ok (.iadd, 1) := by decide +kernel
theorem d_X0_needBy_60 : decode cX0_needBy 60 = .ok (.invokestatic 98, 3) := by decide +kernel
theorem d_X0_needBy_63 : decode cX0_needBy 63 = .ok (.iadd, 1) := by decide +kernel
theorem d_X0_needBy_64 : decode cX0_needBy 64 = .ok (.ireturn, 1) := by decide +kernel
abbrev rm_X0_needBy : Room := { frames := 1, cells := 0, slots := 0, locals := 21 }
set_option maxHeartbeats 4000000 in
set_option maxRecDepth 20000 in
theorem w_X0_needBy (l : Launch) (b : Wy) {v1 : Int32} {v2 : Int32} {v3 : Int32} {σ : Sg} {K : Int32 → Sg → Prop}  (h : m_X0_needBy v1 v2 v3 σ K) : Ct l (wC b) yX0_needBy cX0_needBy 5 (some .int) rm_X0_needBy [.ref (wB (wC b) + 19), .int v1, .int v2, .int v3] σ (PI K) := by
  unfold m_X0_needBy at h
  refine Ct.of (own := RX0) (by decide +kernel) rfl (Nat.le_of_ble_eq_true rfl) (fun x hx o => ?_)
  subst hx
  show J x (wC b) (FinC x (wC b) (PI K) (0, 0)) 0 [(0, .ref (wB (wC b) + 19)), (1, .int v1), (2, .int v2), (3, .int v3)] [] (0, 0) σ
  refine J_iload_n o 3 d_X0_needBy_0 rfl ?_
  refine J_if_lt o 10 d_X0_needBy_1 rfl (fun c1 => ?_) (fun c1 => ?_)
  · replace h := h.1 c1
    refine J_iconst (v := (-1)) o d_X0_needBy_10 iconst_m1 ?_
    exact J_iret o d_X0_needBy_11 ⟨_, rfl, h⟩
  · replace h := h.2 c1
    refine J_iload_n o 3 d_X0_needBy_4 rfl ?_
    refine J_bipush (v := 60) o d_X0_needBy_5 bipush_60 ?_
    refine J_icmp_lt o 12 d_X0_needBy_7 rfl (fun c7 => ?_) (fun c7 => ?_)
    · replace h := h.1 c7
      refine J_aload_n o 0 d_X0_needBy_12 rfl ?_
      refine J_getR (t := 25) o fl_RX0_32 rfl (Nat.le_of_ble_eq_true rfl) (Nat.le_of_ble_eq_true rfl) rfl rfl d_X0_needBy_13 ?_
      refine J_iload_n o 3 d_X0_needBy_16 rfl ?_
      refine J_iconst (v := 1) o d_X0_needBy_17 iconst_1 ?_
      refine J_iadd o d_X0_needBy_18 ?_
      have b19 := h.1
      replace h := h.2
      refine J_aald (t := (26 + (v3 + 1).toNatClampNeg)) o 2 (by decide) rfl (Nat.le_of_ble_eq_true rfl) (Nat.le_of_ble_eq_true rfl) (vpc rfl b19) rfl d_X0_needBy_19 ?_
      refine J_aload_n o 0 d_X0_needBy_20 rfl ?_
      refine J_getR (t := 22) o fl_RX0_18 rfl (Nat.le_of_ble_eq_true rfl) (Nat.le_of_ble_eq_true rfl) rfl rfl d_X0_needBy_21 ?_
      refine J_iload_n o 1 d_X0_needBy_24 rfl ?_
      refine J_bipush (v := 9) o d_X0_needBy_25 bipush_9 ?_
      refine J_imul o d_X0_needBy_27 ?_
      refine J_iload_n o 2 d_X0_needBy_28 rfl ?_
      refine J_iadd o d_X0_needBy_29 ?_
      refine J_callSN o [.ref (wB (wC b) + 22), .int ((v1 * 9) + v2)] mth_X4_read st_X4_read mn_RX0_98 ⟨Nat.le_of_ble_eq_true rfl, Nat.le_of_ble_eq_true rfl⟩ rfl rfl (Nat.le_of_ble_eq_true rfl) ⟨Nat.le_refl _, Nat.le_refl _⟩ d_X0_needBy_30 (w_X4_read (xL x) b A_22 h) (aI (fun r30 s30 h => ?_))
      refine J_callSN o [.ref (wB (wC b) + (26 + (v3 + 1).toNatClampNeg)), .int r30] mth_X4_read st_X4_read mn_RX0_98 ⟨Nat.le_of_ble_eq_true rfl, Nat.le_of_ble_eq_true rfl⟩ rfl rfl (Nat.le_of_ble_eq_true rfl) ⟨Nat.le_refl _, Nat.le_refl _⟩ d_X0_needBy_33 (w_X4_read (xL x) b (N_A b19) h) (aI (fun r33 s33 h => ?_))
      refine J_istore (lv' := [(4, .int r33), (0, .ref (wB (wC b) + 19)), (1, .int v1), (2, .int v2), (3, .int v3)]) o d_X0_needBy_36 (by decide) rfl ?_
      refine J_iload o 0 d_X0_needBy_38 rfl ?_
      refine J_iconst (v := (-1)) o d_X0_needBy_40 iconst_m1 ?_
      refine J_icmp_ne o 48 d_X0_needBy_41 rfl (fun c41 => ?_) (fun c41 => ?_)
      · replace h := h.1 c41
        refine J_iload o 0 d_X0_needBy_48 rfl ?_
        refine J_aload_n o 1 d_X0_needBy_50 rfl ?_
        refine J_getR (t := 23) o fl_RX0_21 rfl (Nat.le_of_ble_eq_true rfl) (Nat.le_of_ble_eq_true rfl) rfl rfl d_X0_needBy_51 ?_
        refine J_iload_n o 4 d_X0_needBy_54 rfl ?_
        refine J_bipush (v := 9) o d_X0_needBy_55 bipush_9 ?_
        refine J_imul o d_X0_needBy_57 ?_
        refine J_iload_n o 3 d_X0_needBy_58 rfl ?_
        refine J_iadd o d_X0_needBy_59 ?_
        refine J_callSN o [.ref (wB (wC b) + 23), .int ((v3 * 9) + v2)] mth_X4_read st_X4_read mn_RX0_98 ⟨Nat.le_of_ble_eq_true rfl, Nat.le_of_ble_eq_true rfl⟩ rfl rfl (Nat.le_of_ble_eq_true rfl) ⟨Nat.le_refl _, Nat.le_refl _⟩ d_X0_needBy_60 (w_X4_read (xL x) b A_23 h) (aI (fun r60 s60 h => ?_))
        refine J_iadd o d_X0_needBy_63 ?_
        exact J_iret o d_X0_needBy_64 ⟨_, rfl, h⟩
      · replace h := h.2 c41
        refine J_iconst (v := (-1)) o d_X0_needBy_44 iconst_m1 ?_
        refine J_goto o 64 d_X0_needBy_45 rfl ?_
        exact J_iret o d_X0_needBy_64 ⟨_, rfl, h⟩
    · replace h := h.2 c7
      refine J_iconst (v := (-1)) o d_X0_needBy_10 iconst_m1 ?_
      exact J_iret o d_X0_needBy_11 ⟨_, rfl, h⟩
theorem d_X0_needFrom_0 : decode cX0_needFrom 0 = .ok (.iconst (-1), 1) := by decide +kernel
theorem d_X0_needFrom_1 : decode cX0_needFrom 1 = .ok (.istore_n 3, 1) := by decide +kernel
theorem d_X0_needFrom_2 : decode cX0_needFrom 2 = .ok (.iconst 0, 1) := by decide +kernel
theorem d_X0_needFrom_3 : decode cX0_needFrom 3 = .ok (.istore 4, 2) := by decide +kernel
theorem d_X0_needFrom_5 : decode cX0_needFrom 5 = .ok (.iload 4, 2) := by decide +kernel
theorem d_X0_needFrom_7 : decode cX0_needFrom 7 = .ok (.bipush 9, 2) := by decide +kernel
theorem d_X0_needFrom_9 : decode cX0_needFrom 9 = .ok (.if_icmp .ge 39, 3) := by decide +kernel
theorem d_X0_needFrom_12 : decode cX0_needFrom 12 = .ok (.aload_n 0, 1) := by decide +kernel
theorem d_X0_needFrom_13 : decode cX0_needFrom 13 = .ok (.iload_n 1, 1) := by decide +kernel
theorem d_X0_needFrom_14 : decode cX0_needFrom 14 = .ok (.iload 4, 2) := by decide +kernel
theorem d_X0_needFrom_16 : decode cX0_needFrom 16 = .ok (.iload_n 2, 1) := by decide +kernel
theorem d_X0_needFrom_17 : decode cX0_needFrom 17 = .ok (.invokevirtual 169, 3) := by decide +kernel
theorem d_X0_needFrom_20 : decode cX0_needFrom 20 = .ok (.istore 5, 2) := by decide +kernel
theorem d_X0_needFrom_22 : decode cX0_needFrom 22 = .ok (.iload 5, 2) := by decide +kernel
theorem d_X0_needFrom_24 : decode cX0_needFrom 24 = .ok (.iconst (-1), 1) := by decide +kernel
theorem d_X0_needFrom_25 : decode cX0_needFrom 25 = .ok (.if_icmp .eq 17, 3) := by decide +kernel
theorem d_X0_needFrom_28 : decode cX0_needFrom 28 = .ok (.iload_n 3, 1) := by decide +kernel
theorem d_X0_needFrom_29 : decode cX0_needFrom 29 = .ok (.iconst (-1), 1) := by decide +kernel
theorem d_X0_needFrom_30 : decode cX0_needFrom 30 = .ok (.if_icmp .eq 9, 3) := by decide +kernel
theorem d_X0_needFrom_33 : decode cX0_needFrom 33 = .ok (.iload 5, 2) := by decide +kernel
theorem d_X0_needFrom_35 : decode cX0_needFrom 35 = .ok (.iload_n 3, 1) := by decide +kernel
theorem d_X0_needFrom_36 : decode cX0_needFrom 36 = .ok (.if_icmp .ge 6, 3) := by decide +kernel
theorem d_X0_needFrom_39 : decode cX0_needFrom 39 = .ok (.iload 5, 2) := by decide +kernel
theorem d_X0_needFrom_41 : decode cX0_needFrom 41 = .ok (.istore_n 3, 1) := by decide +kernel
theorem d_X0_needFrom_42 : decode cX0_needFrom 42 = .ok (.iinc 4 1, 3) := by decide +kernel
theorem d_X0_needFrom_45 : decode cX0_needFrom 45 = .ok (.goto (-40), 3) := by decide +kernel
theorem d_X0_needFrom_48 : decode cX0_needFrom 48 = .ok (.iload_n 3, 1) := by decide +kernel
theorem d_X0_needFrom_49 : decode cX0_needFrom 49 = .ok (.ireturn, 1) := by decide +kernel
abbrev rm_X0_needFrom : Room := { frames := 2, cells := 0, slots := 0, locals := 45 }
set_option maxHeartbeats 4000000 in
set_option maxRecDepth 20000 in
theorem c_X0_needFrom_5 {x : Cx} {b : Wy} (o : Ok x (wC b) cX0_needFrom 6 RX0 (some .int) rm_X0_needFrom) {v1 : Int32} {v2 : Int32} {K : Int32 → Sg → Prop}   : ∀ (n : Nat) (l3 : Int32) (l4 : Int32) (σ : Sg), m_X0_needFrom_l5 v1 v2 K  n l3 l4 σ → J x (wC b) (FinC x (wC b) (PI K) (0, 0)) 5 [(0, .ref (wB (wC b) + 19)), (1, .int v1), (2, .int v2), (3, .int l3), (4, .int l4)] [] (0, 0) σ := by
  intro n
  induction n with
  | zero =>
    intro l3 l4 σ  h
    exact False.elim h
  | succ n ih =>
    intro l3 l4 σ  h
    unfold m_X0_needFrom_l5 at h
    refine J_iload o 4 d_X0_needFrom_5 rfl ?_
    refine J_bipush (v := 9) o d_X0_needFrom_7 bipush_9 ?_
    refine J_icmp_ge o 48 d_X0_needFrom_9 rfl (fun c9 => ?_) (fun c9 => ?_)
    · replace h := h.1 c9
      refine J_iload_n o 3 d_X0_needFrom_48 rfl ?_
      exact J_iret o d_X0_needFrom_49 ⟨_, rfl, h⟩
    · replace h := h.2 c9
      refine J_aload_n o 0 d_X0_needFrom_12 rfl ?_
      refine J_iload_n o 1 d_X0_needFrom_13 rfl ?_
      refine J_iload o 4 d_X0_needFrom_14 rfl ?_
      refine J_iload_n o 2 d_X0_needFrom_16 rfl ?_
      refine J_callV (k := 19) (c := 0) o [.int v1, .int l4, .int v2] rfl (by decide) (Nat.le_of_ble_eq_true rfl) (Nat.le_of_ble_eq_true rfl) mth_X0_needBy iv_X0_needBy ml_RX0_169 ⟨Nat.le_of_ble_eq_true rfl, Nat.le_of_ble_eq_true rfl⟩ rfl rfl (Nat.le_of_ble_eq_true rfl) ⟨Nat.le_refl _, Nat.le_refl _⟩ d_X0_needFrom_17 (w_X0_needBy (xL x) b  h) (aI (fun r17 s17 h => ?_))
      refine J_istore (lv' := [(5, .int r17), (0, .ref (wB (wC b) + 19)), (1, .int v1), (2, .int v2), (3, .int l3), (4, .int l4)]) o d_X0_needFrom_20 (by decide) rfl ?_
      refine J_iload o 0 d_X0_needFrom_22 rfl ?_
      refine J_iconst (v := (-1)) o d_X0_needFrom_24 iconst_m1 ?_
      refine J_icmp_eq o 42 d_X0_needFrom_25 rfl (fun c25 => ?_) (fun c25 => ?_)
      · replace h := h.1 c25
        refine J_iinc (lv' := [(4, .int (l4 + 1)), (5, .int r17), (0, .ref (wB (wC b) + 19)), (1, .int v1), (2, .int v2), (3, .int l3)]) o 5 d_X0_needFrom_42 (by decide) rfl iconst_1 rfl ?_
        refine J_goto o 5 d_X0_needFrom_45 rfl ?_
        refine J_sub [2, 3, 4, 5, 0] rfl ?_
        exact ih l3 (l4 + 1) s17  h
      · replace h := h.2 c25
        refine J_iload_n o 4 d_X0_needFrom_28 rfl ?_
        refine J_iconst (v := (-1)) o d_X0_needFrom_29 iconst_m1 ?_
        refine J_icmp_eq o 39 d_X0_needFrom_30 rfl (fun c30 => ?_) (fun c30 => ?_)
        · replace h := h.1 c30
          refine J_iload o 0 d_X0_needFrom_39 rfl ?_
          refine J_istore_n (lv' := [(3, .int r17), (5, .int r17), (0, .ref (wB (wC b) + 19)), (1, .int v1), (2, .int v2), (4, .int l4)]) o d_X0_needFrom_41 (by decide) rfl ?_
          refine J_iinc (lv' := [(4, .int (l4 + 1)), (3, .int r17), (5, .int r17), (0, .ref (wB (wC b) + 19)), (1, .int v1), (2, .int v2)]) o 5 d_X0_needFrom_42 (by decide) rfl iconst_1 rfl ?_
          refine J_goto o 5 d_X0_needFrom_45 rfl ?_
          refine J_sub [3, 4, 5, 1, 0] rfl ?_
          exact ih r17 (l4 + 1) s17  h
        · replace h := h.2 c30
          refine J_iload o 0 d_X0_needFrom_33 rfl ?_
          refine J_iload_n o 4 d_X0_needFrom_35 rfl ?_
          refine J_icmp_ge o 42 d_X0_needFrom_36 rfl (fun c36 => ?_) (fun c36 => ?_)
          · replace h := h.1 c36
            refine J_iinc (lv' := [(4, .int (l4 + 1)), (5, .int r17), (0, .ref (wB (wC b) + 19)), (1, .int v1), (2, .int v2), (3, .int l3)]) o 5 d_X0_needFrom_42 (by decide) rfl iconst_1 rfl ?_
            refine J_goto o 5 d_X0_needFrom_45 rfl ?_
            refine J_sub [2, 3, 4, 5, 0] rfl ?_
            exact ih l3 (l4 + 1) s17  h
          · replace h := h.2 c36
            refine J_iload o 0 d_X0_needFrom_39 rfl ?_
            refine J_istore_n (lv' := [(3, .int r17), (5, .int r17), (0, .ref (wB (wC b) + 19)), (1, .int v1), (2, .int v2), (4, .int l4)]) o d_X0_needFrom_41 (by decide) rfl ?_
            refine J_iinc (lv' := [(4, .int (l4 + 1)), (3, .int r17), (5, .int r17), (0, .ref (wB (wC b) + 19)), (1, .int v1), (2, .int v2)]) o 5 d_X0_needFrom_42 (by decide) rfl iconst_1 rfl ?_
            refine J_goto o 5 d_X0_needFrom_45 rfl ?_
            refine J_sub [3, 4, 5, 1, 0] rfl ?_
            exact ih r17 (l4 + 1) s17  h
set_option maxHeartbeats 4000000 in
set_option maxRecDepth 20000 in
theorem w_X0_needFrom (l : Launch) (b : Wy) {v1 : Int32} {v2 : Int32} {σ : Sg} {K : Int32 → Sg → Prop}  (h : m_X0_needFrom v1 v2 σ K) : Ct l (wC b) yX0_needFrom cX0_needFrom 6 (some .int) rm_X0_needFrom [.ref (wB (wC b) + 19), .int v1, .int v2] σ (PI K) := by
  unfold m_X0_needFrom at h
  refine Ct.of (own := RX0) (by decide +kernel) rfl (Nat.le_of_ble_eq_true rfl) (fun x hx o => ?_)
  subst hx
  show J x (wC b) (FinC x (wC b) (PI K) (0, 0)) 0 [(0, .ref (wB (wC b) + 19)), (1, .int v1), (2, .int v2)] [] (0, 0) σ
  refine J_iconst (v := (-1)) o d_X0_needFrom_0 iconst_m1 ?_
  refine J_istore_n (lv' := [(3, .int (-1)), (0, .ref (wB (wC b) + 19)), (1, .int v1), (2, .int v2)]) o d_X0_needFrom_1 (by decide) rfl ?_
  refine J_iconst (v := 0) o d_X0_needFrom_2 iconst_0 ?_
  refine J_istore (lv' := [(4, .int 0), (3, .int (-1)), (0, .ref (wB (wC b) + 19)), (1, .int v1), (2, .int v2)]) o d_X0_needFrom_3 (by decide) rfl ?_
  refine J_sub [2, 3, 4, 1, 0] rfl ?_
  obtain ⟨n9, h⟩ := h
  exact c_X0_needFrom_5 o   n9 (-1) 0 σ  h
theorem d_X0_lookAtNeeds_0 : decode cX0_lookAtNeeds 0 = .ok (.iload_n 1, 1) := by decide +kernel
theorem d_X0_lookAtNeeds_1 : decode cX0_lookAtNeeds 1 = .ok (.ifCond .lt 9, 3) := by decide +kernel
theorem d_X0_lookAtNeeds_4 : decode cX0_lookAtNeeds 4 = .ok (.iload_n 1, 1) := by decide +kernel
theorem d_X0_lookAtNeeds_5 : decode cX0_lookAtNeeds 5 = .ok (.bipush 60, 2) := by decide +kernel
theorem d_X0_lookAtNeeds_7 : decode cX0_lookAtNeeds 7 = .ok (.if_icmp .le 4, 3) := by decide +kernel
theorem d_X0_lookAtNeeds_10 : decode cX0_lookAtNeeds 10 = .ok (.return_, 1) := by decide +kernel
theorem d_X0_lookAtNeeds_11 : decode cX0_lookAtNeeds 11 = .ok (.aload_n 0, 1) := by decide +kernel
theorem d_X0_lookAtNeeds_12 : decode cX0_lookAtNeeds 12 = .ok (.getfield 32, 3) := by decide +kernel
theorem d_X0_lookAtNeeds_15 : decode cX0_lookAtNeeds 15 = .ok (.iload_n 1, 1) := by decide +kernel
theorem d_X0_lookAtNeeds_16 : decode cX0_lookAtNeeds 16 = .ok (.aaload, 1) := by decide +kernel
theorem d_X0_lookAtNeeds_17 : decode cX0_lookAtNeeds 17 = .ok (.aload_n 0, 1) := by decide +kernel
theorem d_X0_lookAtNeeds_18 : decode cX0_lookAtNeeds 18 = .ok (.getfield 9, 3) := by decide +kernel
theorem d_X0_lookAtNeeds_21 : decode cX0_lookAtNeeds 21 = .ok (.iload_n 1, 1) := by decide +kernel
theorem d_X0_lookAtNeeds_22 : decode cX0_lookAtNeeds 22 = .ok (.iaload, 1) := by decide +kernel
theorem d_X0_lookAtNeeds_23 : decode cX0_lookAtNeeds 23 = .ok (.iconst 0, 1) := by decide +kernel
theorem d_X0_lookAtNeeds_24 : decode cX0_lookAtNeeds 24 = .ok (.invokestatic 129, 3) := by decide +kernel
theorem d_X0_lookAtNeeds_27 : decode cX0_lookAtNeeds 27 = .ok (.iload_n 1, 1) := by decide +kernel
theorem d_X0_lookAtNeeds_28 : decode cX0_lookAtNeeds 28 = .ok (.iconst 1, 1) := by decide +kernel
theorem d_X0_lookAtNeeds_29 : decode cX0_lookAtNeeds 29 = .ok (.isub, 1) := by decide +kernel
theorem d_X0_lookAtNeeds_30 : decode cX0_lookAtNeeds 30 = .ok (.istore_n 2, 1) := by decide +kernel
theorem d_X0_lookAtNeeds_31 : decode cX0_lookAtNeeds 31 = .ok (.iload_n 2, 1) := by decide +kernel
theorem d_X0_lookAtNeeds_32 : decode cX0_lookAtNeeds 32 = .ok (.ifCond .lt 46, 3) := by decide +kernel
theorem d_X0_lookAtNeeds_35 : decode cX0_lookAtNeeds 35 = .ok (.iconst 0, 1) := by decide +kernel
theorem d_X0_lookAtNeeds_36 : decode cX0_lookAtNeeds 36 = .ok (.istore_n 3, 1) := by decide +kernel
theorem d_X0_lookAtNeeds_37 : decode cX0_lookAtNeeds 37 = .ok (.iload_n 3, 1) := by decide +kernel
theorem d_X0_lookAtNeeds_38 : decode cX0_lookAtNeeds 38 = .ok (.aload_n 0, 1) := by decide +kernel
theorem d_X0_lookAtNeeds_39 : decode cX0_lookAtNeeds 39 = .ok (.getfield 38, 3) := by decide +kernel
theorem d_X0_lookAtNeeds_42 : decode cX0_lookAtNeeds 42 = .ok (.if_icmp .ge 30, 3) := by decide +kernel
theorem d_X0_lookAtNeeds_45 : decode cX0_lookAtNeeds 45 = .ok (.iload_n 3, 1) := by decide +kernel
theorem d_X0_lookAtNeeds_46 : decode cX0_lookAtNeeds 46 = .ok (.sipush 240, 3) := by decide +kernel
theorem d_X0_lookAtNeeds_49 : decode cX0_lookAtNeeds 49 = .ok (.if_icmp .ge 23, 3) := by decide +kernel
theorem d_X0_lookAtNeeds_52 : decode cX0_lookAtNeeds 52 = .ok (.aload_n 0, 1) := by decide +kernel
theorem d_X0_lookAtNeeds_53 : decode cX0_lookAtNeeds 53 = .ok (.getfield 32, 3) := by decide +kernel
theorem d_X0_lookAtNeeds_56 : decode cX0_lookAtNeeds 56 = .ok (.iload_n 2, 1) := by decide +kernel
theorem d_X0_lookAtNeeds_57 : decode cX0_lookAtNeeds 57 = .ok (.aaload, 1) := by decide +kernel
theorem d_X0_lookAtNeeds_58 : decode cX0_lookAtNeeds 58 = .ok (.iload_n 3, 1) := by decide +kernel
theorem d_X0_lookAtNeeds_59 : decode cX0_lookAtNeeds 59 = .ok (.aload_n 0, 1) := by decide +kernel
theorem d_X0_lookAtNeeds_60 : decode cX0_lookAtNeeds 60 = .ok (.iload_n 3, 1) := by decide +kernel
theorem d_X0_lookAtNeeds_61 : decode cX0_lookAtNeeds 61 = .ok (.iload_n 2, 1) := by decide +kernel
theorem d_X0_lookAtNeeds_62 : decode cX0_lookAtNeeds 62 = .ok (.invokevirtual 166, 3) := by decide +kernel
theorem d_X0_lookAtNeeds_65 : decode cX0_lookAtNeeds 65 = .ok (.iastore, 1) := by decide +kernel
theorem d_X0_lookAtNeeds_66 : decode cX0_lookAtNeeds 66 = .ok (.iinc 3 1, 3) := by decide +kernel
theorem d_X0_lookAtNeeds_69 : decode cX0_lookAtNeeds 69 = .ok (.goto (-32), 3) := by decide +kernel
theorem d_X0_lookAtNeeds_72 : decode cX0_lookAtNeeds 72 = .ok (.iinc 2 (-1), 3) := by decide +kernel
theorem d_X0_lookAtNeeds_75 : decode cX0_lookAtNeeds 75 = .ok (.goto (-44), 3) := by decide +kernel
theorem d_X0_lookAtNeeds_78 : decode cX0_lookAtNeeds 78 = .ok (.return_, 1) := by decide +kernel
abbrev rm_X0_lookAtNeeds : Room := { frames := 3, cells := 0, slots := 0, locals := 70 }
set_option maxHeartbeats 4000000 in
set_option maxRecDepth 20000 in
theorem c_X0_lookAtNeeds_37 {x : Cx} {b : Wy} (o : Ok x (wC b) cX0_lookAtNeeds 4 RX0 none rm_X0_lookAtNeeds) {v1 : Int32} {K : Sg → Prop}  {KO31 : Int32 → Sg → Prop}  (hKO31 : ∀ (l2 : Int32) (σ : Sg), KO31 l2 σ → J x (wC b) (FinC x (wC b) (PV K) (0, 0)) 31 [(0, .ref (wB (wC b) + 19)), (2, .int l2)] [] (0, 0) σ) : ∀ (n : Nat) (l2 : Int32) (l3 : Int32) (σ : Sg), m_X0_lookAtNeeds_l37 v1 K KO31 n l2 l3 σ → J x (wC b) (FinC x (wC b) (PV K) (0, 0)) 37 [(0, .ref (wB (wC b) + 19)), (2, .int l2), (3, .int l3)] [] (0, 0) σ := by
  intro n
  induction n with
  | zero =>
    intro l2 l3 σ  h
    exact False.elim h
  | succ n ih =>
    intro l2 l3 σ  h
    unfold m_X0_lookAtNeeds_l37 at h
    refine J_iload_n o 2 d_X0_lookAtNeeds_37 rfl ?_
    refine J_aload_n o 0 d_X0_lookAtNeeds_38 rfl ?_
    refine J_getI o fl_RX0_38 rfl (Nat.le_of_ble_eq_true rfl) (Nat.le_of_ble_eq_true rfl) rfl d_X0_lookAtNeeds_39 ?_
    refine J_icmp_ge o 72 d_X0_lookAtNeeds_42 rfl (fun c42 => ?_) (fun c42 => ?_)
    · replace h := h.1 c42
      refine J_iinc (lv' := [(2, .int (l2 + (-1))), (0, .ref (wB (wC b) + 19)), (3, .int l3)]) o 1 d_X0_lookAtNeeds_72 (by decide) rfl iconst_m1 rfl ?_
      refine J_goto o 31 d_X0_lookAtNeeds_75 rfl ?_
      refine J_sub [1, 0] rfl ?_
      exact hKO31 (l2 + (-1)) σ  h
    · replace h := h.2 c42
      refine J_iload_n o 2 d_X0_lookAtNeeds_45 rfl ?_
      refine J_sipush (v := 240) o d_X0_lookAtNeeds_46 sipush_240 ?_
      refine J_icmp_ge o 72 d_X0_lookAtNeeds_49 rfl (fun c49 => ?_) (fun c49 => ?_)
      · replace h := h.1 c49
        refine J_iinc (lv' := [(2, .int (l2 + (-1))), (0, .ref (wB (wC b) + 19)), (3, .int l3)]) o 1 d_X0_lookAtNeeds_72 (by decide) rfl iconst_m1 rfl ?_
        refine J_goto o 31 d_X0_lookAtNeeds_75 rfl ?_
        refine J_sub [1, 0] rfl ?_
        exact hKO31 (l2 + (-1)) σ  h
      · replace h := h.2 c49
        refine J_aload_n o 0 d_X0_lookAtNeeds_52 rfl ?_
        refine J_getR (t := 25) o fl_RX0_32 rfl (Nat.le_of_ble_eq_true rfl) (Nat.le_of_ble_eq_true rfl) rfl rfl d_X0_lookAtNeeds_53 ?_
        refine J_iload_n o 1 d_X0_lookAtNeeds_56 rfl ?_
        have b57 := h.1
        replace h := h.2
        refine J_aald (t := (26 + l2.toNatClampNeg)) o 2 (by decide) rfl (Nat.le_of_ble_eq_true rfl) (Nat.le_of_ble_eq_true rfl) (vpc rfl b57) rfl d_X0_lookAtNeeds_57 ?_
        refine J_iload_n o 2 d_X0_lookAtNeeds_58 rfl ?_
        refine J_aload_n o 0 d_X0_lookAtNeeds_59 rfl ?_
        refine J_iload_n o 2 d_X0_lookAtNeeds_60 rfl ?_
        refine J_iload_n o 1 d_X0_lookAtNeeds_61 rfl ?_
        refine J_callV (k := 19) (c := 0) o [.int l3, .int l2] rfl (by decide) (Nat.le_of_ble_eq_true rfl) (Nat.le_of_ble_eq_true rfl) mth_X0_needFrom iv_X0_needFrom ml_RX0_166 ⟨Nat.le_of_ble_eq_true rfl, Nat.le_of_ble_eq_true rfl⟩ rfl rfl (Nat.le_of_ble_eq_true rfl) ⟨Nat.le_refl _, Nat.le_refl _⟩ d_X0_lookAtNeeds_62 (w_X0_needFrom (xL x) b  h) (aI (fun r62 s62 h => ?_))
        have b65 := h.1
        replace h := h.2
        refine J_iast o (N_A b57) (vpc (N_L b57) b65) d_X0_lookAtNeeds_65 ?_
        refine J_nS (fun s65 es65 => ?_)
        replace h := h s65 es65
        refine J_iinc (lv' := [(3, .int (l3 + 1)), (0, .ref (wB (wC b) + 19)), (2, .int l2)]) o 2 d_X0_lookAtNeeds_66 (by decide) rfl iconst_1 rfl ?_
        refine J_goto o 37 d_X0_lookAtNeeds_69 rfl ?_
        refine J_sub [1, 2, 0] rfl ?_
        exact ih l2 (l3 + 1) s65  h
set_option maxHeartbeats 4000000 in
set_option maxRecDepth 20000 in
theorem c_X0_lookAtNeeds_31 {x : Cx} {b : Wy} (o : Ok x (wC b) cX0_lookAtNeeds 4 RX0 none rm_X0_lookAtNeeds) {v1 : Int32} {K : Sg → Prop}   : ∀ (n : Nat) (l2 : Int32) (σ : Sg), m_X0_lookAtNeeds_l31 v1 K  n l2 σ → J x (wC b) (FinC x (wC b) (PV K) (0, 0)) 31 [(0, .ref (wB (wC b) + 19)), (2, .int l2)] [] (0, 0) σ := by
  intro n
  induction n with
  | zero =>
    intro l2 σ  h
    exact False.elim h
  | succ n ih =>
    intro l2 σ  h
    unfold m_X0_lookAtNeeds_l31 at h
    refine J_iload_n o 1 d_X0_lookAtNeeds_31 rfl ?_
    refine J_if_lt o 78 d_X0_lookAtNeeds_32 rfl (fun c32 => ?_) (fun c32 => ?_)
    · replace h := h.1 c32
      exact J_vret o d_X0_lookAtNeeds_78 ⟨rfl, h⟩
    · replace h := h.2 c32
      refine J_iconst (v := 0) o d_X0_lookAtNeeds_35 iconst_0 ?_
      refine J_istore_n (lv' := [(3, .int 0), (0, .ref (wB (wC b) + 19)), (2, .int l2)]) o d_X0_lookAtNeeds_36 (by decide) rfl ?_
      refine J_sub [1, 2, 0] rfl ?_
      obtain ⟨n9, h⟩ := h
      exact c_X0_lookAtNeeds_37 o  ih n9 l2 0 σ  h
set_option maxHeartbeats 4000000 in
set_option maxRecDepth 20000 in
theorem w_X0_lookAtNeeds (l : Launch) (b : Wy) {v1 : Int32} {σ : Sg} {K : Sg → Prop}  (h : m_X0_lookAtNeeds v1 σ K) : Ct l (wC b) yX0_lookAtNeeds cX0_lookAtNeeds 4 none rm_X0_lookAtNeeds [.ref (wB (wC b) + 19), .int v1] σ (PV K) := by
  unfold m_X0_lookAtNeeds at h
  refine Ct.of (own := RX0) (by decide +kernel) rfl (Nat.le_of_ble_eq_true rfl) (fun x hx o => ?_)
  subst hx
  show J x (wC b) (FinC x (wC b) (PV K) (0, 0)) 0 [(0, .ref (wB (wC b) + 19)), (1, .int v1)] [] (0, 0) σ
  refine J_iload_n o 1 d_X0_lookAtNeeds_0 rfl ?_
  refine J_if_lt o 10 d_X0_lookAtNeeds_1 rfl (fun c1 => ?_) (fun c1 => ?_)
  · replace h := h.1 c1
    exact J_vret o d_X0_lookAtNeeds_10 ⟨rfl, h⟩
  · replace h := h.2 c1
    refine J_iload_n o 1 d_X0_lookAtNeeds_4 rfl ?_
    refine J_bipush (v := 60) o d_X0_lookAtNeeds_5 bipush_60 ?_
    refine J_icmp_le o 11 d_X0_lookAtNeeds_7 rfl (fun c7 => ?_) (fun c7 => ?_)
    · replace h := h.1 c7
      refine J_aload_n o 0 d_X0_lookAtNeeds_11 rfl ?_
      refine J_getR (t := 25) o fl_RX0_32 rfl (Nat.le_of_ble_eq_true rfl) (Nat.le_of_ble_eq_true rfl) rfl rfl d_X0_lookAtNeeds_12 ?_
      refine J_iload_n o 1 d_X0_lookAtNeeds_15 rfl ?_
      have b16 := h.1
      replace h := h.2
      refine J_aald (t := (26 + v1.toNatClampNeg)) o 2 (by decide) rfl (Nat.le_of_ble_eq_true rfl) (Nat.le_of_ble_eq_true rfl) (vpc rfl b16) rfl d_X0_lookAtNeeds_16 ?_
      refine J_aload_n o 0 d_X0_lookAtNeeds_17 rfl ?_
      refine J_getR (t := 20) o fl_RX0_9 rfl (Nat.le_of_ble_eq_true rfl) (Nat.le_of_ble_eq_true rfl) rfl rfl d_X0_lookAtNeeds_18 ?_
      refine J_iload_n o 1 d_X0_lookAtNeeds_21 rfl ?_
      have b22 := h.1
      replace h := h.2
      refine J_iald o A_20 (vpc (rfl : ln 20 = 61) b22) d_X0_lookAtNeeds_22 ?_
      refine J_iconst (v := 0) o d_X0_lookAtNeeds_23 iconst_0 ?_
      refine J_callS o [.ref (wB (wC b) + (26 + v1.toNatClampNeg)), .int (σ 20 v1.toNatClampNeg), .int 0] mth_X0_begin st_X0_begin ml_RX0_129 ⟨Nat.le_of_ble_eq_true rfl, Nat.le_of_ble_eq_true rfl⟩ rfl rfl (Nat.le_of_ble_eq_true rfl) ⟨Nat.le_refl _, Nat.le_refl _⟩ d_X0_lookAtNeeds_24 (w_X0_begin (xL x) b (N_A b16) h) (aV (fun s24 h => ?_))
      refine J_iload_n o 1 d_X0_lookAtNeeds_27 rfl ?_
      refine J_iconst (v := 1) o d_X0_lookAtNeeds_28 iconst_1 ?_
      refine J_isub o d_X0_lookAtNeeds_29 ?_
      refine J_top (fun l2_30 el2_30 => ?_)
      replace h := h l2_30 el2_30
      refine J_istore_n (lv' := [(2, .int l2_30), (0, .ref (wB (wC b) + 19)), (1, .int v1)]) o d_X0_lookAtNeeds_30 (by decide) rfl ?_
      refine J_sub [1, 0] rfl ?_
      obtain ⟨n9, h⟩ := h
      exact c_X0_lookAtNeeds_31 o   n9 l2_30 s24  h
    · replace h := h.2 c7
      exact J_vret o d_X0_lookAtNeeds_10 ⟨rfl, h⟩
theorem d_X0_firstNeeding_0 : decode cX0_firstNeeding 0 = .ok (.iconst 0, 1) := by decide +kernel
theorem d_X0_firstNeeding_1 : decode cX0_firstNeeding 1 = .ok (.istore 4, 2) := by decide +kernel
theorem d_X0_firstNeeding_3 : decode cX0_firstNeeding 3 = .ok (.iload 4, 2) := by decide +kernel
theorem d_X0_firstNeeding_5 : decode cX0_firstNeeding 5 = .ok (.bipush 9, 2) := by decide +kernel
theorem d_X0_firstNeeding_7 : decode cX0_firstNeeding 7 = .ok (.if_icmp .ge 24, 3) := by decide +kernel
theorem d_X0_firstNeeding_10 : decode cX0_firstNeeding 10 = .ok (.aload_n 0, 1) := by decide +kernel
theorem d_X0_firstNeeding_11 : decode cX0_firstNeeding 11 = .ok (.iload_n 2, 1) := by decide +kernel
theorem d_X0_firstNeeding_12 : decode cX0_firstNeeding 12 = .ok (.iload 4, 2) := by decide +kernel
theorem d_X0_firstNeeding_14 : decode cX0_firstNeeding 14 = .ok (.iload_n 3, 1) := by decide +kernel
theorem d_X0_firstNeeding_15 : decode cX0_firstNeeding 15 = .ok (.invokevirtual 169, 3) := by decide +kernel
theorem d_X0_firstNeeding_18 : decode cX0_firstNeeding 18 = .ok (.iload_n 1, 1) := by decide +kernel
theorem d_X0_firstNeeding_19 : decode cX0_firstNeeding 19 = .ok (.if_icmp .ne 6, 3) := by decide +kernel
theorem d_X0_firstNeeding_22 : decode cX0_firstNeeding 22 = .ok (.iload 4, 2) := by decide +kernel
theorem d_X0_firstNeeding_24 : decode cX0_firstNeeding 24 = .ok (.ireturn, 1) := by decide +kernel
theorem d_X0_firstNeeding_25 : decode cX0_firstNeeding 25 = .ok (.iinc 4 1, 3) := by decide +kernel
theorem d_X0_firstNeeding_28 : decode cX0_firstNeeding 28 = .ok (.goto (-25), 3) := by decide +kernel
theorem d_X0_firstNeeding_31 : decode cX0_firstNeeding 31 = .ok (.iconst 0, 1) := by decide +kernel
theorem d_X0_firstNeeding_32 : decode cX0_firstNeeding 32 = .ok (.ireturn, 1) := by decide +kernel
abbrev rm_X0_firstNeeding : Room := { frames := 2, cells := 0, slots := 0, locals := 45 }
set_option maxHeartbeats 4000000 in
set_option maxRecDepth 20000 in
theorem c_X0_firstNeeding_3 {x : Cx} {b : Wy} (o : Ok x (wC b) cX0_firstNeeding 5 RX0 (some .int) rm_X0_firstNeeding) {v1 : Int32} {v2 : Int32} {v3 : Int32} {K : Int32 → Sg → Prop}   : ∀ (n : Nat) (l4 : Int32) (σ : Sg), m_X0_firstNeeding_l3 v1 v2 v3 K  n l4 σ → J x (wC b) (FinC x (wC b) (PI K) (0, 0)) 3 [(0, .ref (wB (wC b) + 19)), (1, .int v1), (2, .int v2), (3, .int v3), (4, .int l4)] [] (0, 0) σ := by
  intro n
  induction n with
  | zero =>
    intro l4 σ  h
    exact False.elim h
  | succ n ih =>
    intro l4 σ  h
    unfold m_X0_firstNeeding_l3 at h
    refine J_iload o 4 d_X0_firstNeeding_3 rfl ?_
    refine J_bipush (v := 9) o d_X0_firstNeeding_5 bipush_9 ?_
    refine J_icmp_ge o 31 d_X0_firstNeeding_7 rfl (fun c7 => ?_) (fun c7 => ?_)
    · replace h := h.1 c7
      refine J_iconst (v := 0) o d_X0_firstNeeding_31 iconst_0 ?_
      exact J_iret o d_X0_firstNeeding_32 ⟨_, rfl, h⟩
    · replace h := h.2 c7
      refine J_aload_n o 0 d_X0_firstNeeding_10 rfl ?_
      refine J_iload_n o 2 d_X0_firstNeeding_11 rfl ?_
      refine J_iload o 4 d_X0_firstNeeding_12 rfl ?_
      refine J_iload_n o 3 d_X0_firstNeeding_14 rfl ?_
      refine J_callV (k := 19) (c := 0) o [.int v2, .int l4, .int v3] rfl (by decide) (Nat.le_of_ble_eq_true rfl) (Nat.le_of_ble_eq_true rfl) mth_X0_needBy iv_X0_needBy ml_RX0_169 ⟨Nat.le_of_ble_eq_true rfl, Nat.le_of_ble_eq_true rfl⟩ rfl rfl (Nat.le_of_ble_eq_true rfl) ⟨Nat.le_refl _, Nat.le_refl _⟩ d_X0_firstNeeding_15 (w_X0_needBy (xL x) b  h) (aI (fun r15 s15 h => ?_))
      refine J_iload_n o 1 d_X0_firstNeeding_18 rfl ?_
      refine J_icmp_ne o 25 d_X0_firstNeeding_19 rfl (fun c19 => ?_) (fun c19 => ?_)
      · replace h := h.1 c19
        refine J_iinc (lv' := [(4, .int (l4 + 1)), (0, .ref (wB (wC b) + 19)), (1, .int v1), (2, .int v2), (3, .int v3)]) o 4 d_X0_firstNeeding_25 (by decide) rfl iconst_1 rfl ?_
        refine J_goto o 3 d_X0_firstNeeding_28 rfl ?_
        refine J_sub [1, 2, 3, 4, 0] rfl ?_
        exact ih (l4 + 1) s15  h
      · replace h := h.2 c19
        refine J_iload o 4 d_X0_firstNeeding_22 rfl ?_
        exact J_iret o d_X0_firstNeeding_24 ⟨_, rfl, h⟩
set_option maxHeartbeats 4000000 in
set_option maxRecDepth 20000 in
theorem w_X0_firstNeeding (l : Launch) (b : Wy) {v1 : Int32} {v2 : Int32} {v3 : Int32} {σ : Sg} {K : Int32 → Sg → Prop}  (h : m_X0_firstNeeding v1 v2 v3 σ K) : Ct l (wC b) yX0_firstNeeding cX0_firstNeeding 5 (some .int) rm_X0_firstNeeding [.ref (wB (wC b) + 19), .int v1, .int v2, .int v3] σ (PI K) := by
  unfold m_X0_firstNeeding at h
  refine Ct.of (own := RX0) (by decide +kernel) rfl (Nat.le_of_ble_eq_true rfl) (fun x hx o => ?_)
  subst hx
  show J x (wC b) (FinC x (wC b) (PI K) (0, 0)) 0 [(0, .ref (wB (wC b) + 19)), (1, .int v1), (2, .int v2), (3, .int v3)] [] (0, 0) σ
  refine J_iconst (v := 0) o d_X0_firstNeeding_0 iconst_0 ?_
  refine J_istore (lv' := [(4, .int 0), (0, .ref (wB (wC b) + 19)), (1, .int v1), (2, .int v2), (3, .int v3)]) o d_X0_firstNeeding_1 (by decide) rfl ?_
  refine J_sub [1, 2, 3, 4, 0] rfl ?_
  obtain ⟨n9, h⟩ := h
  exact c_X0_firstNeeding_3 o   n9 0 σ  h
theorem d_X0_walk_0 : decode cX0_walk 0 = .ok (.iload_n 2, 1) := by decide +kernel
theorem d_X0_walk_1 : decode cX0_walk 1 = .ok (.istore 4, 2) := by decide +kernel
theorem d_X0_walk_3 : decode cX0_walk 3 = .ok (.iconst 0, 1) := by decide +kernel
theorem d_X0_walk_4 : decode cX0_walk 4 = .ok (.istore 5, 2) := by decide +kernel
theorem d_X0_walk_6 : decode cX0_walk 6 = .ok (.iload 5, 2) := by decide +kernel
theorem d_X0_walk_8 : decode cX0_walk 8 = .ok (.iload_n 3, 1) := by decide +kernel
theorem d_X0_walk_9 : decode cX0_walk 9 = .ok (.if_icmp .ge 59, 3) := by decide +kernel
theorem d_X0_walk_12 : decode cX0_walk 12 = .ok (.iload 5, 2) := by decide +kernel
theorem d_X0_walk_14 : decode cX0_walk 14 = .ok (.aload_n 1, 1) := by decide +kernel
theorem d_X0_walk_15 : decode cX0_walk 15 = .ok (.arraylength, 1) := by decide +kernel
theorem d_X0_walk_16 : decode cX0_walk 16 = .ok (.if_icmp .ge 52, 3) := by decide +kernel
theorem d_X0_walk_19 : decode cX0_walk 19 = .ok (.aload_n 1, 1) := by decide +kernel
theorem d_X0_walk_20 : decode cX0_walk 20 = .ok (.iload 5, 2) := by decide +kernel
theorem d_X0_walk_22 : decode cX0_walk 22 = .ok (.aload_n 0, 1) := by decide +kernel
theorem d_X0_walk_23 : decode cX0_walk 23 = .ok (.aload_n 0, 1) := by decide +kernel
theorem d_X0_walk_24 : decode cX0_walk 24 = .ok (.getfield 32, 3) := by decide +kernel
theorem d_X0_walk_27 : decode cX0_walk 27 = .ok (.iload 5, 2) := by decide +kernel
theorem d_X0_walk_29 : decode cX0_walk 29 = .ok (.aaload, 1) := by decide +kernel
theorem d_X0_walk_30 : decode cX0_walk 30 = .ok (.iload 4, 2) := by decide +kernel
theorem d_X0_walk_32 : decode cX0_walk 32 = .ok (.invokestatic 98, 3) := by decide +kernel
theorem d_X0_walk_35 : decode cX0_walk 35 = .ok (.iload 4, 2) := by decide +kernel
theorem d_X0_walk_37 : decode cX0_walk 37 = .ok (.iload 5, 2) := by decide +kernel
theorem d_X0_walk_39 : decode cX0_walk 39 = .ok (.invokevirtual 173, 3) := by decide +kernel
theorem d_X0_walk_42 : decode cX0_walk 42 = .ok (.iastore, 1) := by decide +kernel
theorem d_X0_walk_43 : decode cX0_walk 43 = .ok (.aload_n 0, 1) := by decide +kernel
theorem d_X0_walk_44 : decode cX0_walk 44 = .ok (.getfield 18, 3) := by decide +kernel
theorem d_X0_walk_47 : decode cX0_walk 47 = .ok (.iload 4, 2) := by decide +kernel
theorem d_X0_walk_49 : decode cX0_walk 49 = .ok (.bipush 9, 2) := by decide +kernel
theorem d_X0_walk_51 : decode cX0_walk 51 = .ok (.imul, 1) := by decide +kernel
theorem d_X0_walk_52 : decode cX0_walk 52 = .ok (.aload_n 1, 1) := by decide +kernel
theorem d_X0_walk_53 : decode cX0_walk 53 = .ok (.iload 5, 2) := by decide +kernel
theorem d_X0_walk_55 : decode cX0_walk 55 = .ok (.iaload, 1) := by decide +kernel
theorem d_X0_walk_56 : decode cX0_walk 56 = .ok (.iadd, 1) := by decide +kernel
theorem d_X0_walk_57 : decode cX0_walk 57 = .ok (.invokestatic 98, 3) := by decide +kernel
theorem d_X0_walk_60 : decode cX0_walk 60 = .ok (.istore 4, 2) := by decide +kernel
theorem d_X0_walk_62 : decode cX0_walk 62 = .ok (.iinc 5 1, 3) := by decide +kernel
theorem d_X0_walk_65 : decode cX0_walk 65 = .ok (.goto (-59), 3) := by decide +kernel
theorem d_X0_walk_68 : decode cX0_walk 68 = .ok (.return_, 1) := by decide +kernel
abbrev rm_X0_walk : Room := { frames := 3, cells := 0, slots := 0, locals := 69 }
set_option maxHeartbeats 4000000 in
set_option maxRecDepth 20000 in
theorem c_X0_walk_6 {x : Cx} {b : Wy} (o : Ok x (wC b) cX0_walk 6 RX0 none rm_X0_walk) {v1 : Nat} {v2 : Int32} {v3 : Int32} {K : Sg → Prop}  (hv1 : IsA (wC b) v1) : ∀ (n : Nat) (l4 : Int32) (l5 : Int32) (σ : Sg), m_X0_walk_l6 v1 v2 v3 K  n l4 l5 σ → J x (wC b) (FinC x (wC b) (PV K) (0, 0)) 6 [(0, .ref (wB (wC b) + 19)), (1, .ref (wB (wC b) + v1)), (3, .int v3), (4, .int l4), (5, .int l5)] [] (0, 0) σ := by
  intro n
  induction n with
  | zero =>
    intro l4 l5 σ  h
    exact False.elim h
  | succ n ih =>
    intro l4 l5 σ  h
    unfold m_X0_walk_l6 at h
    refine J_iload o 4 d_X0_walk_6 rfl ?_
    refine J_iload_n o 2 d_X0_walk_8 rfl ?_
    refine J_icmp_ge o 68 d_X0_walk_9 rfl (fun c9 => ?_) (fun c9 => ?_)
    · replace h := h.1 c9
      exact J_vret o d_X0_walk_68 ⟨rfl, h⟩
    · replace h := h.2 c9
      refine J_iload o 4 d_X0_walk_12 rfl ?_
      refine J_aload_n o 1 d_X0_walk_14 rfl ?_
      refine J_alenL o hv1 rfl d_X0_walk_15 ?_
      refine J_icmp_ge o 68 d_X0_walk_16 rfl (fun c16 => ?_) (fun c16 => ?_)
      · replace h := h.1 c16
        exact J_vret o d_X0_walk_68 ⟨rfl, h⟩
      · replace h := h.2 c16
        refine J_aload_n o 1 d_X0_walk_19 rfl ?_
        refine J_iload o 4 d_X0_walk_20 rfl ?_
        refine J_aload_n o 0 d_X0_walk_22 rfl ?_
        refine J_aload_n o 0 d_X0_walk_23 rfl ?_
        refine J_getR (t := 25) o fl_RX0_32 rfl (Nat.le_of_ble_eq_true rfl) (Nat.le_of_ble_eq_true rfl) rfl rfl d_X0_walk_24 ?_
        refine J_iload o 4 d_X0_walk_27 rfl ?_
        have b29 := h.1
        replace h := h.2
        refine J_aald (t := (26 + l5.toNatClampNeg)) o 2 (by decide) rfl (Nat.le_of_ble_eq_true rfl) (Nat.le_of_ble_eq_true rfl) (vpc rfl b29) rfl d_X0_walk_29 ?_
        refine J_iload o 3 d_X0_walk_30 rfl ?_
        refine J_callSN o [.ref (wB (wC b) + (26 + l5.toNatClampNeg)), .int l4] mth_X4_read st_X4_read mn_RX0_98 ⟨Nat.le_of_ble_eq_true rfl, Nat.le_of_ble_eq_true rfl⟩ rfl rfl (Nat.le_of_ble_eq_true rfl) ⟨Nat.le_refl _, Nat.le_refl _⟩ d_X0_walk_32 (w_X4_read (xL x) b (N_A b29) h) (aI (fun r32 s32 h => ?_))
        refine J_iload o 3 d_X0_walk_35 rfl ?_
        refine J_iload o 4 d_X0_walk_37 rfl ?_
        refine J_callV (k := 19) (c := 0) o [.int r32, .int l4, .int l5] rfl (by decide) (Nat.le_of_ble_eq_true rfl) (Nat.le_of_ble_eq_true rfl) mth_X0_firstNeeding iv_X0_firstNeeding ml_RX0_173 ⟨Nat.le_of_ble_eq_true rfl, Nat.le_of_ble_eq_true rfl⟩ rfl rfl (Nat.le_of_ble_eq_true rfl) ⟨Nat.le_refl _, Nat.le_refl _⟩ d_X0_walk_39 (w_X0_firstNeeding (xL x) b  h) (aI (fun r39 s39 h => ?_))
        have b42 := h.1
        replace h := h.2
        refine J_iast o hv1 (vpc rfl b42) d_X0_walk_42 ?_
        refine J_nS (fun s42 es42 => ?_)
        replace h := h s42 es42
        refine J_aload_n o 0 d_X0_walk_43 rfl ?_
        refine J_getR (t := 22) o fl_RX0_18 rfl (Nat.le_of_ble_eq_true rfl) (Nat.le_of_ble_eq_true rfl) rfl rfl d_X0_walk_44 ?_
        refine J_iload o 3 d_X0_walk_47 rfl ?_
        refine J_bipush (v := 9) o d_X0_walk_49 bipush_9 ?_
        refine J_imul o d_X0_walk_51 ?_
        refine J_aload_n o 1 d_X0_walk_52 rfl ?_
        refine J_iload o 4 d_X0_walk_53 rfl ?_
        have b55 := h.1
        replace h := h.2
        refine J_iald o hv1 (vpc rfl b55) d_X0_walk_55 ?_
        refine J_iadd o d_X0_walk_56 ?_
        refine J_callSN o [.ref (wB (wC b) + 22), .int ((l4 * 9) + (s42 v1 l5.toNatClampNeg))] mth_X4_read st_X4_read mn_RX0_98 ⟨Nat.le_of_ble_eq_true rfl, Nat.le_of_ble_eq_true rfl⟩ rfl rfl (Nat.le_of_ble_eq_true rfl) ⟨Nat.le_refl _, Nat.le_refl _⟩ d_X0_walk_57 (w_X4_read (xL x) b A_22 h) (aI (fun r57 s57 h => ?_))
        refine J_istore (lv' := [(4, .int r57), (0, .ref (wB (wC b) + 19)), (1, .ref (wB (wC b) + v1)), (3, .int v3), (5, .int l5)]) o d_X0_walk_60 (by decide) rfl ?_
        refine J_iinc (lv' := [(5, .int (l5 + 1)), (4, .int r57), (0, .ref (wB (wC b) + 19)), (1, .ref (wB (wC b) + v1)), (3, .int v3)]) o 4 d_X0_walk_62 (by decide) rfl iconst_1 rfl ?_
        refine J_goto o 6 d_X0_walk_65 rfl ?_
        refine J_sub [2, 3, 4, 1, 0] rfl ?_
        exact ih r57 (l5 + 1) s57  h
set_option maxHeartbeats 4000000 in
set_option maxRecDepth 20000 in
theorem w_X0_walk (l : Launch) (b : Wy) {v1 : Nat} {v2 : Int32} {v3 : Int32} {σ : Sg} {K : Sg → Prop} (hv1 : IsA (wC b) v1) (h : m_X0_walk v1 v2 v3 σ K) : Ct l (wC b) yX0_walk cX0_walk 6 none rm_X0_walk [.ref (wB (wC b) + 19), .ref (wB (wC b) + v1), .int v2, .int v3] σ (PV K) := by
  unfold m_X0_walk at h
  refine Ct.of (own := RX0) (by decide +kernel) rfl (Nat.le_of_ble_eq_true rfl) (fun x hx o => ?_)
  subst hx
  show J x (wC b) (FinC x (wC b) (PV K) (0, 0)) 0 [(0, .ref (wB (wC b) + 19)), (1, .ref (wB (wC b) + v1)), (2, .int v2), (3, .int v3)] [] (0, 0) σ
  refine J_iload_n o 2 d_X0_walk_0 rfl ?_
  refine J_istore (lv' := [(4, .int v2), (0, .ref (wB (wC b) + 19)), (1, .ref (wB (wC b) + v1)), (2, .int v2), (3, .int v3)]) o d_X0_walk_1 (by decide) rfl ?_
  refine J_iconst (v := 0) o d_X0_walk_3 iconst_0 ?_
  refine J_istore (lv' := [(5, .int 0), (4, .int v2), (0, .ref (wB (wC b) + 19)), (1, .ref (wB (wC b) + v1)), (2, .int v2), (3, .int v3)]) o d_X0_walk_4 (by decide) rfl ?_
  refine J_sub [2, 3, 5, 1, 0] rfl ?_
  obtain ⟨n9, h⟩ := h
  exact c_X0_walk_6 o hv1  n9 v2 0 σ  h
theorem d_X0_courseOf_0 : decode cX0_courseOf 0 = .ok (.aload_n 0, 1) := by decide +kernel
theorem d_X0_courseOf_1 : decode cX0_courseOf 1 = .ok (.iload_n 1, 1) := by decide +kernel
theorem d_X0_courseOf_2 : decode cX0_courseOf 2 = .ok (.invokevirtual 150, 3) := by decide +kernel
theorem d_X0_courseOf_5 : decode cX0_courseOf 5 = .ok (.istore_n 3, 1) := by decide +kernel
theorem d_X0_courseOf_6 : decode cX0_courseOf 6 = .ok (.iload_n 2, 1) := by decide +kernel
theorem d_X0_courseOf_7 : decode cX0_courseOf 7 = .ok (.ifCond .lt 8, 3) := by decide +kernel
theorem d_X0_courseOf_10 : decode cX0_courseOf 10 = .ok (.iload_n 2, 1) := by decide +kernel
theorem d_X0_courseOf_11 : decode cX0_courseOf 11 = .ok (.iload_n 3, 1) := by decide +kernel
theorem d_X0_courseOf_12 : decode cX0_courseOf 12 = .ok (.if_icmp .lt 5, 3) := by decide +kernel
theorem d_X0_courseOf_15 : decode cX0_courseOf 15 = .ok (.iconst (-1), 1) := by decide +kernel
theorem d_X0_courseOf_16 : decode cX0_courseOf 16 = .ok (.ireturn, 1) := by decide +kernel
theorem d_X0_courseOf_17 : decode cX0_courseOf 17 = .ok (.aload_n 0, 1) := by decide +kernel
theorem d_X0_courseOf_18 : decode cX0_courseOf 18 = .ok (.iload_n 1, 1) := by decide +kernel
theorem d_X0_courseOf_19 : decode cX0_courseOf 19 = .ok (.invokevirtual 110, 3) := by decide +kernel
theorem d_X0_courseOf_22 : decode cX0_courseOf 22 = .ok (.astore 4, 2) := by decide +kernel
theorem d_X0_courseOf_24 : decode cX0_courseOf 24 = .ok (.aload 4, 2) := by decide +kernel
theorem d_X0_courseOf_26 : decode cX0_courseOf 26 = .ok (.getfield 153, 3) := by decide +kernel
theorem d_X0_courseOf_29 : decode cX0_courseOf 29 = .ok (.ifCond .ne 35, 3) := by decide +kernel
theorem d_X0_courseOf_32 : decode cX0_courseOf 32 = .ok (.aload_n 0, 1) := by decide +kernel
theorem d_X0_courseOf_33 : decode cX0_courseOf 33 = .ok (.iload_n 3, 1) := by decide +kernel
theorem d_X0_courseOf_34 : decode cX0_courseOf 34 = .ok (.invokevirtual 156, 3) := by decide +kernel
theorem d_X0_courseOf_37 : decode cX0_courseOf 37 = .ok (.aload_n 0, 1) := by decide +kernel
theorem d_X0_courseOf_38 : decode cX0_courseOf 38 = .ok (.aload 4, 2) := by decide +kernel
theorem d_X0_courseOf_40 : decode cX0_courseOf 40 = .ok (.getfield 160, 3) := by decide +kernel
theorem d_X0_courseOf_43 : decode cX0_courseOf 43 = .ok (.aload_n 0, 1) := by decide +kernel
theorem d_X0_courseOf_44 : decode cX0_courseOf 44 = .ok (.getfield 46, 3) := by decide +kernel
theorem d_X0_courseOf_47 : decode cX0_courseOf 47 = .ok (.getfield 123, 3) := by decide +kernel
theorem d_X0_courseOf_50 : decode cX0_courseOf 50 = .ok (.iload_n 1, 1) := by decide +kernel
theorem d_X0_courseOf_51 : decode cX0_courseOf 51 = .ok (.invokestatic 98, 3) := by decide +kernel
theorem d_X0_courseOf_54 : decode cX0_courseOf 54 = .ok (.iload_n 3, 1) := by decide +kernel
theorem d_X0_courseOf_55 : decode cX0_courseOf 55 = .ok (.invokevirtual 163, 3) := by decide +kernel
theorem d_X0_courseOf_58 : decode cX0_courseOf 58 = .ok (.aload 4, 2) := by decide +kernel
theorem d_X0_courseOf_60 : decode cX0_courseOf 60 = .ok (.iconst 1, 1) := by decide +kernel
theorem d_X0_courseOf_61 : decode cX0_courseOf 61 = .ok (.putfield 153, 3) := by decide +kernel
theorem d_X0_courseOf_64 : decode cX0_courseOf 64 = .ok (.aload 4, 2) := by decide +kernel
theorem d_X0_courseOf_66 : decode cX0_courseOf 66 = .ok (.getfield 160, 3) := by decide +kernel
theorem d_X0_courseOf_69 : decode cX0_courseOf 69 = .ok (.iload_n 2, 1) := by decide +kernel
theorem d_X0_courseOf_70 : decode cX0_courseOf 70 = .ok (.invokestatic 98, 3) := by decide +kernel
theorem d_X0_courseOf_73 : decode cX0_courseOf 73 = .ok (.ireturn, 1) := by decide +kernel
abbrev rm_X0_courseOf : Room := { frames := 4, cells := 0, slots := 0, locals := 101 }
set_option maxHeartbeats 4000000 in
set_option maxRecDepth 20000 in
theorem w_X0_courseOf (l : Launch) (b : Wy) {v1 : Int32} {v2 : Int32} {σ : Sg} {K : Int32 → Sg → Prop}  (h : m_X0_courseOf v1 v2 σ K) : Ct l (wC b) yX0_courseOf cX0_courseOf 5 (some .int) rm_X0_courseOf [.ref (wB (wC b) + 19), .int v1, .int v2] σ (PI K) := by
  unfold m_X0_courseOf at h
  refine Ct.of (own := RX0) (by decide +kernel) rfl (Nat.le_of_ble_eq_true rfl) (fun x hx o => ?_)
  subst hx
  show J x (wC b) (FinC x (wC b) (PI K) (0, 0)) 0 [(0, .ref (wB (wC b) + 19)), (1, .int v1), (2, .int v2)] [] (0, 0) σ
  refine J_aload_n o 0 d_X0_courseOf_0 rfl ?_
  refine J_iload_n o 1 d_X0_courseOf_1 rfl ?_
  refine J_callV (k := 19) (c := 0) o [.int v1] rfl (by decide) (Nat.le_of_ble_eq_true rfl) (Nat.le_of_ble_eq_true rfl) mth_X0_earliestOf iv_X0_earliestOf ml_RX0_150 ⟨Nat.le_of_ble_eq_true rfl, Nat.le_of_ble_eq_true rfl⟩ rfl rfl (Nat.le_of_ble_eq_true rfl) ⟨Nat.le_refl _, Nat.le_refl _⟩ d_X0_courseOf_2 (w_X0_earliestOf (xL x) b  h) (aI (fun r2 s2 h => ?_))
  refine J_istore_n (lv' := [(3, .int r2), (0, .ref (wB (wC b) + 19)), (1, .int v1), (2, .int v2)]) o d_X0_courseOf_5 (by decide) rfl ?_
  refine J_iload_n o 3 d_X0_courseOf_6 rfl ?_
  refine J_if_lt o 15 d_X0_courseOf_7 rfl (fun c7 => ?_) (fun c7 => ?_)
  · replace h := h.1 c7
    refine J_iconst (v := (-1)) o d_X0_courseOf_15 iconst_m1 ?_
    exact J_iret o d_X0_courseOf_16 ⟨_, rfl, h⟩
  · replace h := h.2 c7
    refine J_iload_n o 3 d_X0_courseOf_10 rfl ?_
    refine J_iload_n o 0 d_X0_courseOf_11 rfl ?_
    refine J_icmp_lt o 17 d_X0_courseOf_12 rfl (fun c12 => ?_) (fun c12 => ?_)
    · replace h := h.1 c12
      refine J_aload_n o 1 d_X0_courseOf_17 rfl ?_
      refine J_iload_n o 2 d_X0_courseOf_18 rfl ?_
      refine J_callV (k := 19) (c := 0) o [.int v1] rfl (by decide) (Nat.le_of_ble_eq_true rfl) (Nat.le_of_ble_eq_true rfl) mth_X0_sailingOf iv_X0_sailingOf ml_RX0_110 ⟨Nat.le_of_ble_eq_true rfl, Nat.le_of_ble_eq_true rfl⟩ rfl rfl (Nat.le_of_ble_eq_true rfl) ⟨Nat.le_refl _, Nat.le_refl _⟩ d_X0_courseOf_19 (w_X0_sailingOf (xL x) b  h) (aA (fun r19 s19 hr19 h => ?_))
      refine J_astore (lv' := [(4, .ref (wB (wC b) + r19)), (3, .int r2), (0, .ref (wB (wC b) + 19)), (1, .int v1), (2, .int v2)]) o d_X0_courseOf_22 (by decide) rfl ?_
      refine J_aload o 0 d_X0_courseOf_24 rfl ?_
      refine J_getI o fl_RX0_153 (S_kd hr19) (Nat.zero_le _) (S_hi hr19) rfl d_X0_courseOf_26 ?_
      refine J_if_ne o 64 d_X0_courseOf_29 rfl (fun c29 => ?_) (fun c29 => ?_)
      · replace h := h.1 c29
        refine J_aload o 0 d_X0_courseOf_64 rfl ?_
        refine J_getR (t := (r19 + 63)) o fl_RX0_160 (S_kd hr19) (Nat.zero_le _) (S_hi hr19) rfl (S_t1 hr19) d_X0_courseOf_66 ?_
        refine J_iload_n o 4 d_X0_courseOf_69 rfl ?_
        refine J_callSN o [.ref (wB (wC b) + (r19 + 63)), .int v2] mth_X4_read st_X4_read mn_RX0_98 ⟨Nat.le_of_ble_eq_true rfl, Nat.le_of_ble_eq_true rfl⟩ rfl rfl (Nat.le_of_ble_eq_true rfl) ⟨Nat.le_refl _, Nat.le_refl _⟩ d_X0_courseOf_70 (w_X4_read (xL x) b (S_cA hr19) h) (aI (fun r70 s70 h => ?_))
        exact J_iret o d_X0_courseOf_73 ⟨_, rfl, h⟩
      · replace h := h.2 c29
        refine J_aload_n o 2 d_X0_courseOf_32 rfl ?_
        refine J_iload_n o 1 d_X0_courseOf_33 rfl ?_
        refine J_callV (k := 19) (c := 0) o [.int r2] rfl (by decide) (Nat.le_of_ble_eq_true rfl) (Nat.le_of_ble_eq_true rfl) mth_X0_lookAtNeeds iv_X0_lookAtNeeds ml_RX0_156 ⟨Nat.le_of_ble_eq_true rfl, Nat.le_of_ble_eq_true rfl⟩ rfl rfl (Nat.le_of_ble_eq_true rfl) ⟨Nat.le_refl _, Nat.le_refl _⟩ d_X0_courseOf_34 (w_X0_lookAtNeeds (xL x) b  h) (aV (fun s34 h => ?_))
        refine J_aload_n o 2 d_X0_courseOf_37 rfl ?_
        refine J_aload o 0 d_X0_courseOf_38 rfl ?_
        refine J_getR (t := (r19 + 63)) o fl_RX0_160 (S_kd hr19) (Nat.zero_le _) (S_hi hr19) rfl (S_t1 hr19) d_X0_courseOf_40 ?_
        refine J_aload_n o 2 d_X0_courseOf_43 rfl ?_
        refine J_getR (t := 2) o fl_RX0_46 rfl (Nat.le_of_ble_eq_true rfl) (Nat.le_of_ble_eq_true rfl) rfl rfl d_X0_courseOf_44 ?_
        refine J_getR (t := (2 + 1)) o fl_RX0_123 (W_kd W_2) (Nat.zero_le _) (W_hi W_2) rfl (W_t W_2 10 (by decide)) d_X0_courseOf_47 ?_
        refine J_iload_n o 3 d_X0_courseOf_50 rfl ?_
        refine J_callSN o [.ref (wB (wC b) + (2 + 1)), .int v1] mth_X4_read st_X4_read mn_RX0_98 ⟨Nat.le_of_ble_eq_true rfl, Nat.le_of_ble_eq_true rfl⟩ rfl rfl (Nat.le_of_ble_eq_true rfl) ⟨Nat.le_refl _, Nat.le_refl _⟩ d_X0_courseOf_51 (w_X4_read (xL x) b (W_A1 W_2) h) (aI (fun r51 s51 h => ?_))
        refine J_iload_n o 1 d_X0_courseOf_54 rfl ?_
        refine J_callV (k := 19) (c := 0) o [.ref (wB (wC b) + (r19 + 63)), .int r51, .int r2] rfl (by decide) (Nat.le_of_ble_eq_true rfl) (Nat.le_of_ble_eq_true rfl) mth_X0_walk iv_X0_walk ml_RX0_163 ⟨Nat.le_of_ble_eq_true rfl, Nat.le_of_ble_eq_true rfl⟩ rfl rfl (Nat.le_of_ble_eq_true rfl) ⟨Nat.le_refl _, Nat.le_refl _⟩ d_X0_courseOf_55 (w_X0_walk (xL x) b (S_cA hr19) h) (aV (fun s55 h => ?_))
        refine J_aload o 0 d_X0_courseOf_58 rfl ?_
        refine J_iconst (v := 1) o d_X0_courseOf_60 iconst_1 ?_
        refine J_put o fl_RX0_153 la_1 (S_kd hr19) (Nat.zero_le _) (S_hi hr19) rfl rfl rfl rfl d_X0_courseOf_61 ?_
        refine J_nS (fun s61 es61 => ?_)
        replace h := h s61 es61
        refine J_aload o 0 d_X0_courseOf_64 rfl ?_
        refine J_getR (t := (r19 + 63)) o fl_RX0_160 (S_kd hr19) (Nat.zero_le _) (S_hi hr19) rfl (S_t1 hr19) d_X0_courseOf_66 ?_
        refine J_iload_n o 4 d_X0_courseOf_69 rfl ?_
        refine J_callSN o [.ref (wB (wC b) + (r19 + 63)), .int v2] mth_X4_read st_X4_read mn_RX0_98 ⟨Nat.le_of_ble_eq_true rfl, Nat.le_of_ble_eq_true rfl⟩ rfl rfl (Nat.le_of_ble_eq_true rfl) ⟨Nat.le_refl _, Nat.le_refl _⟩ d_X0_courseOf_70 (w_X4_read (xL x) b (S_cA hr19) h) (aI (fun r70 s70 h => ?_))
        exact J_iret o d_X0_courseOf_73 ⟨_, rfl, h⟩
    · replace h := h.2 c12
      refine J_iconst (v := (-1)) o d_X0_courseOf_15 iconst_m1 ?_
      exact J_iret o d_X0_courseOf_16 ⟨_, rfl, h⟩
theorem d_X0_leastOf_0 : decode cX0_leastOf 0 = .ok (.iconst (-1), 1) := by decide +kernel
theorem d_X0_leastOf_1 : decode cX0_leastOf 1 = .ok (.istore_n 3, 1) := by decide +kernel
theorem d_X0_leastOf_2 : decode cX0_leastOf 2 = .ok (.aload_n 0, 1) := by decide +kernel
theorem d_X0_leastOf_3 : decode cX0_leastOf 3 = .ok (.getfield 35, 3) := by decide +kernel
theorem d_X0_leastOf_6 : decode cX0_leastOf 6 = .ok (.iconst 0, 1) := by decide +kernel
theorem d_X0_leastOf_7 : decode cX0_leastOf 7 = .ok (.aaload, 1) := by decide +kernel
theorem d_X0_leastOf_8 : decode cX0_leastOf 8 = .ok (.aload_n 0, 1) := by decide +kernel
theorem d_X0_leastOf_9 : decode cX0_leastOf 9 = .ok (.getfield 46, 3) := by decide +kernel
theorem d_X0_leastOf_12 : decode cX0_leastOf 12 = .ok (.getfield 123, 3) := by decide +kernel
theorem d_X0_leastOf_15 : decode cX0_leastOf 15 = .ok (.iload_n 1, 1) := by decide +kernel
theorem d_X0_leastOf_16 : decode cX0_leastOf 16 = .ok (.invokestatic 98, 3) := by decide +kernel
theorem d_X0_leastOf_19 : decode cX0_leastOf 19 = .ok (.sipush 1000, 3) := by decide +kernel
theorem d_X0_leastOf_22 : decode cX0_leastOf 22 = .ok (.invokestatic 129, 3) := by decide +kernel
theorem d_X0_leastOf_25 : decode cX0_leastOf 25 = .ok (.iconst 0, 1) := by decide +kernel
theorem d_X0_leastOf_26 : decode cX0_leastOf 26 = .ok (.istore 4, 2) := by decide +kernel
theorem d_X0_leastOf_28 : decode cX0_leastOf 28 = .ok (.iload 4, 2) := by decide +kernel
theorem d_X0_leastOf_30 : decode cX0_leastOf 30 = .ok (.iload_n 2, 1) := by decide +kernel
theorem d_X0_leastOf_31 : decode cX0_leastOf 31 = .ok (.if_icmp .gt 103, 3) := by decide +kernel
theorem d_X0_leastOf_34 : decode cX0_leastOf 34 = .ok (.iload 4, 2) := by decide +kernel
theorem d_X0_leastOf_36 : decode cX0_leastOf 36 = .ok (.bipush 60, 2) := by decide +kernel
theorem d_X0_leastOf_38 : decode cX0_leastOf 38 = .ok (.if_icmp .gt 96, 3) := by decide +kernel
theorem d_X0_leastOf_41 : decode cX0_leastOf 41 = .ok (.iload_n 3, 1) := by decide +kernel
theorem d_X0_leastOf_42 : decode cX0_leastOf 42 = .ok (.ifCond .eq 92, 3) := by decide +kernel
theorem d_X0_leastOf_45 : decode cX0_leastOf 45 = .ok (.iload 4, 2) := by decide +kernel
theorem d_X0_leastOf_47 : decode cX0_leastOf 47 = .ok (.ifCond .le 32, 3) := by decide +kernel
theorem d_X0_leastOf_50 : decode cX0_leastOf 50 = .ok (.aload_n 0, 1) := by decide +kernel
theorem d_X0_leastOf_51 : decode cX0_leastOf 51 = .ok (.aload_n 0, 1) := by decide +kernel
theorem d_X0_leastOf_52 : decode cX0_leastOf 52 = .ok (.getfield 35, 3) := by decide +kernel
theorem d_X0_leastOf_55 : decode cX0_leastOf 55 = .ok (.iload 4, 2) := by decide +kernel
theorem d_X0_leastOf_57 : decode cX0_leastOf 57 = .ok (.iconst 1, 1) := by decide +kernel
theorem d_X0_leastOf_58 : decode cX0_leastOf 58 = .ok (.isub, 1) := by decide +kernel
theorem d_X0_leastOf_59 : decode cX0_leastOf 59 = .ok (.iconst 2, 1) := by decide +kernel
theorem d_X0_leastOf_60 : decode cX0_leastOf 60 = .ok (.irem, 1) := by decide +kernel
theorem d_X0_leastOf_61 : decode cX0_leastOf 61 = .ok (.aaload, 1) := by decide +kernel
theorem d_X0_leastOf_62 : decode cX0_leastOf 62 = .ok (.aload_n 0, 1) := by decide +kernel
theorem d_X0_leastOf_63 : decode cX0_leastOf 63 = .ok (.getfield 35, 3) := by decide +kernel
theorem d_X0_leastOf_66 : decode cX0_leastOf 66 = .ok (.iload 4, 2) := by decide +kernel
theorem d_X0_leastOf_68 : decode cX0_leastOf 68 = .ok (.iconst 2, 1) := by decide +kernel
theorem d_X0_leastOf_69 : decode cX0_leastOf 69 = .ok (.irem, 1) := by decide +kernel
theorem d_X0_leastOf_70 : decode cX0_leastOf 70 = .ok (.aaload, 1) := by decide +kernel
theorem d_X0_leastOf_71 : decode cX0_leastOf 71 = .ok (.iload 4, 2) := by decide +kernel
theorem d_X0_leastOf_73 : decode cX0_leastOf 73 = .ok (.iconst 1, 1) := by decide +kernel
theorem d_X0_leastOf_74 : decode cX0_leastOf 74 = .ok (.isub, 1) := by decide +kernel
theorem d_X0_leastOf_75 : decode cX0_leastOf 75 = .ok (.iconst 1, 1) := by decide +kernel
theorem d_X0_leastOf_76 : decode cX0_leastOf 76 = .ok (.invokevirtual 133, 3) := by decide +kernel
theorem d_X0_leastOf_79 : decode cX0_leastOf 79 = .ok (.aload_n 0, 1) := by decide +kernel
theorem d_X0_leastOf_80 : decode cX0_leastOf 80 = .ok (.getfield 35, 3) := by decide +kernel
theorem d_X0_leastOf_83 : decode cX0_leastOf 83 = .ok (.iload 4, 2) := by decide +kernel
theorem d_X0_leastOf_85 : decode cX0_leastOf 85 = .ok (.iconst 2, 1) := by decide +kernel
theorem d_X0_leastOf_86 : decode cX0_leastOf 86 = .ok (.irem, 1) := by decide +kernel
theorem d_X0_leastOf_87 : decode cX0_leastOf 87 = .ok (.aaload, 1) := by decide +kernel
theorem d_X0_leastOf_88 : decode cX0_leastOf 88 = .ok (.aload_n 0, 1) := by decide +kernel
theorem d_X0_leastOf_89 : decode cX0_leastOf 89 = .ok (.getfield 9, 3) := by decide +kernel
theorem d_X0_leastOf_92 : decode cX0_leastOf 92 = .ok (.iload 4, 2) := by decide +kernel
theorem d_X0_leastOf_94 : decode cX0_leastOf 94 = .ok (.iaload, 1) := by decide +kernel
theorem d_X0_leastOf_95 : decode cX0_leastOf 95 = .ok (.invokestatic 98, 3) := by decide +kernel
theorem d_X0_leastOf_98 : decode cX0_leastOf 98 = .ok (.istore 5, 2) := by decide +kernel
theorem d_X0_leastOf_100 : decode cX0_leastOf 100 = .ok (.iload 5, 2) := by decide +kernel
theorem d_X0_leastOf_102 : decode cX0_leastOf 102 = .ok (.iconst (-1), 1) := by decide +kernel
theorem d_X0_leastOf_103 : decode cX0_leastOf 103 = .ok (.if_icmp .eq 25, 3) := by decide +kernel
theorem d_X0_leastOf_106 : decode cX0_leastOf 106 = .ok (.iload_n 3, 1) := by decide +kernel
theorem d_X0_leastOf_107 : decode cX0_leastOf 107 = .ok (.iconst (-1), 1) := by decide +kernel
theorem d_X0_leastOf_108 : decode cX0_leastOf 108 = .ok (.if_icmp .eq 13, 3) := by decide +kernel
theorem d_X0_leastOf_111 : decode cX0_leastOf 111 = .ok (.sipush 1000, 3) := by decide +kernel
theorem d_X0_leastOf_114 : decode cX0_leastOf 114 = .ok (.iload 5, 2) := by decide +kernel
theorem d_X0_leastOf_116 : decode cX0_leastOf 116 = .ok (.isub, 1) := by decide +kernel
theorem d_X0_leastOf_117 : decode cX0_leastOf 117 = .ok (.iload_n 3, 1) := by decide +kernel
theorem d_X0_leastOf_118 : decode cX0_leastOf 118 = .ok (.if_icmp .ge 10, 3) := by decide +kernel
theorem d_X0_leastOf_121 : decode cX0_leastOf 121 = .ok (.sipush 1000, 3) := by decide +kernel
theorem d_X0_leastOf_124 : decode cX0_leastOf 124 = .ok (.iload 5, 2) := by decide +kernel
theorem d_X0_leastOf_126 : decode cX0_leastOf 126 = .ok (.isub, 1) := by decide +kernel
theorem d_X0_leastOf_127 : decode cX0_leastOf 127 = .ok (.istore_n 3, 1) := by decide +kernel
theorem d_X0_leastOf_128 : decode cX0_leastOf 128 = .ok (.iinc 4 1, 3) := by decide +kernel
theorem d_X0_leastOf_131 : decode cX0_leastOf 131 = .ok (.goto (-103), 3) := by decide +kernel
theorem d_X0_leastOf_134 : decode cX0_leastOf 134 = .ok (.iload_n 3, 1) := by decide +kernel
theorem d_X0_leastOf_135 : decode cX0_leastOf 135 = .ok (.ireturn, 1) := by decide +kernel
abbrev rm_X0_leastOf : Room := { frames := 2, cells := 0, slots := 0, locals := 55 }
set_option maxHeartbeats 4000000 in
set_option maxRecDepth 20000 in
theorem c_X0_leastOf_79 {x : Cx} {b : Wy} (o : Ok x (wC b) cX0_leastOf 6 RX0 (some .int) rm_X0_leastOf) {v1 : Int32} {v2 : Int32} {K : Int32 → Sg → Prop}  {KO28 : Int32 → Int32 → Sg → Prop}  (hKO28 : ∀ (l3 : Int32) (l4 : Int32) (σ : Sg), KO28 l3 l4 σ → J x (wC b) (FinC x (wC b) (PI K) (0, 0)) 28 [(0, .ref (wB (wC b) + 19)), (2, .int v2), (3, .int l3), (4, .int l4)] [] (0, 0) σ) : ∀ (l3 : Int32) (l4 : Int32) (σ : Sg), m_X0_leastOf_j79 v1 v2 K KO28 l3 l4 σ → J x (wC b) (FinC x (wC b) (PI K) (0, 0)) 79 [(0, .ref (wB (wC b) + 19)), (2, .int v2), (3, .int l3), (4, .int l4)] [] (0, 0) σ := by
  intro l3 l4 σ  h
  unfold m_X0_leastOf_j79 at h
  refine J_aload_n o 0 d_X0_leastOf_79 rfl ?_
  refine J_getR (t := 87) o fl_RX0_35 rfl (Nat.le_of_ble_eq_true rfl) (Nat.le_of_ble_eq_true rfl) rfl rfl d_X0_leastOf_80 ?_
  refine J_iload o 3 d_X0_leastOf_83 rfl ?_
  refine J_iconst (v := 2) o d_X0_leastOf_85 iconst_2 ?_
  refine J_irem o d_X0_leastOf_86 (by decide) ?_
  have b87 := h.1
  replace h := h.2
  refine J_aald (t := (88 + (l4 - l4 / 2 * 2).toNatClampNeg)) o 2 (by decide) rfl (Nat.le_of_ble_eq_true rfl) (Nat.le_of_ble_eq_true rfl) (vpc rfl b87) rfl d_X0_leastOf_87 ?_
  refine J_aload_n o 0 d_X0_leastOf_88 rfl ?_
  refine J_getR (t := 20) o fl_RX0_9 rfl (Nat.le_of_ble_eq_true rfl) (Nat.le_of_ble_eq_true rfl) rfl rfl d_X0_leastOf_89 ?_
  refine J_iload o 3 d_X0_leastOf_92 rfl ?_
  have b94 := h.1
  replace h := h.2
  refine J_iald o A_20 (vpc (rfl : ln 20 = 61) b94) d_X0_leastOf_94 ?_
  refine J_callSN o [.ref (wB (wC b) + (88 + (l4 - l4 / 2 * 2).toNatClampNeg)), .int (σ 20 l4.toNatClampNeg)] mth_X4_read st_X4_read mn_RX0_98 ⟨Nat.le_of_ble_eq_true rfl, Nat.le_of_ble_eq_true rfl⟩ rfl rfl (Nat.le_of_ble_eq_true rfl) ⟨Nat.le_refl _, Nat.le_refl _⟩ d_X0_leastOf_95 (w_X4_read (xL x) b (U_A b87) h) (aI (fun r95 s95 h => ?_))
  refine J_istore (lv' := [(5, .int r95), (0, .ref (wB (wC b) + 19)), (2, .int v2), (3, .int l3), (4, .int l4)]) o d_X0_leastOf_98 (by decide) rfl ?_
  refine J_iload o 0 d_X0_leastOf_100 rfl ?_
  refine J_iconst (v := (-1)) o d_X0_leastOf_102 iconst_m1 ?_
  refine J_icmp_eq o 128 d_X0_leastOf_103 rfl (fun c103 => ?_) (fun c103 => ?_)
  · replace h := h.1 c103
    refine J_iinc (lv' := [(4, .int (l4 + 1)), (5, .int r95), (0, .ref (wB (wC b) + 19)), (2, .int v2), (3, .int l3)]) o 4 d_X0_leastOf_128 (by decide) rfl iconst_1 rfl ?_
    refine J_goto o 28 d_X0_leastOf_131 rfl ?_
    refine J_sub [2, 3, 4, 0] rfl ?_
    exact hKO28 l3 (l4 + 1) s95  h
  · replace h := h.2 c103
    refine J_iload_n o 3 d_X0_leastOf_106 rfl ?_
    refine J_iconst (v := (-1)) o d_X0_leastOf_107 iconst_m1 ?_
    refine J_icmp_eq o 121 d_X0_leastOf_108 rfl (fun c108 => ?_) (fun c108 => ?_)
    · replace h := h.1 c108
      refine J_sipush (v := 1000) o d_X0_leastOf_121 sipush_1000 ?_
      refine J_iload o 0 d_X0_leastOf_124 rfl ?_
      refine J_isub o d_X0_leastOf_126 ?_
      refine J_top (fun l3_127 el3_127 => ?_)
      replace h := h l3_127 el3_127
      refine J_istore_n (lv' := [(3, .int l3_127), (5, .int r95), (0, .ref (wB (wC b) + 19)), (2, .int v2), (4, .int l4)]) o d_X0_leastOf_127 (by decide) rfl ?_
      refine J_iinc (lv' := [(4, .int (l4 + 1)), (3, .int l3_127), (5, .int r95), (0, .ref (wB (wC b) + 19)), (2, .int v2)]) o 4 d_X0_leastOf_128 (by decide) rfl iconst_1 rfl ?_
      refine J_goto o 28 d_X0_leastOf_131 rfl ?_
      refine J_sub [3, 4, 1, 0] rfl ?_
      exact hKO28 l3_127 (l4 + 1) s95  h
    · replace h := h.2 c108
      refine J_sipush (v := 1000) o d_X0_leastOf_111 sipush_1000 ?_
      refine J_iload o 0 d_X0_leastOf_114 rfl ?_
      refine J_isub o d_X0_leastOf_116 ?_
      refine J_iload_n o 3 d_X0_leastOf_117 rfl ?_
      refine J_icmp_ge o 128 d_X0_leastOf_118 rfl (fun c118 => ?_) (fun c118 => ?_)
      · replace h := h.1 c118
        refine J_iinc (lv' := [(4, .int (l4 + 1)), (5, .int r95), (0, .ref (wB (wC b) + 19)), (2, .int v2), (3, .int l3)]) o 4 d_X0_leastOf_128 (by decide) rfl iconst_1 rfl ?_
        refine J_goto o 28 d_X0_leastOf_131 rfl ?_
        refine J_sub [2, 3, 4, 0] rfl ?_
        exact hKO28 l3 (l4 + 1) s95  h
      · replace h := h.2 c118
        refine J_sipush (v := 1000) o d_X0_leastOf_121 sipush_1000 ?_
        refine J_iload o 0 d_X0_leastOf_124 rfl ?_
        refine J_isub o d_X0_leastOf_126 ?_
        refine J_top (fun l3_127 el3_127 => ?_)
        replace h := h l3_127 el3_127
        refine J_istore_n (lv' := [(3, .int l3_127), (5, .int r95), (0, .ref (wB (wC b) + 19)), (2, .int v2), (4, .int l4)]) o d_X0_leastOf_127 (by decide) rfl ?_
        refine J_iinc (lv' := [(4, .int (l4 + 1)), (3, .int l3_127), (5, .int r95), (0, .ref (wB (wC b) + 19)), (2, .int v2)]) o 4 d_X0_leastOf_128 (by decide) rfl iconst_1 rfl ?_
        refine J_goto o 28 d_X0_leastOf_131 rfl ?_
        refine J_sub [3, 4, 1, 0] rfl ?_
        exact hKO28 l3_127 (l4 + 1) s95  h
set_option maxHeartbeats 4000000 in
set_option maxRecDepth 20000 in
theorem c_X0_leastOf_28 {x : Cx} {b : Wy} (o : Ok x (wC b) cX0_leastOf 6 RX0 (some .int) rm_X0_leastOf) {v1 : Int32} {v2 : Int32} {K : Int32 → Sg → Prop}   : ∀ (n : Nat) (l3 : Int32) (l4 : Int32) (σ : Sg), m_X0_leastOf_l28 v1 v2 K  n l3 l4 σ → J x (wC b) (FinC x (wC b) (PI K) (0, 0)) 28 [(0, .ref (wB (wC b) + 19)), (2, .int v2), (3, .int l3), (4, .int l4)] [] (0, 0) σ := by
  intro n
  induction n with
  | zero =>
    intro l3 l4 σ  h
    exact False.elim h
  | succ n ih =>
    intro l3 l4 σ  h
    unfold m_X0_leastOf_l28 at h
    refine J_iload o 3 d_X0_leastOf_28 rfl ?_
    refine J_iload_n o 1 d_X0_leastOf_30 rfl ?_
    refine J_icmp_gt o 134 d_X0_leastOf_31 rfl (fun c31 => ?_) (fun c31 => ?_)
    · replace h := h.1 c31
      refine J_iload_n o 2 d_X0_leastOf_134 rfl ?_
      exact J_iret o d_X0_leastOf_135 ⟨_, rfl, h⟩
    · replace h := h.2 c31
      refine J_iload o 3 d_X0_leastOf_34 rfl ?_
      refine J_bipush (v := 60) o d_X0_leastOf_36 bipush_60 ?_
      refine J_icmp_gt o 134 d_X0_leastOf_38 rfl (fun c38 => ?_) (fun c38 => ?_)
      · replace h := h.1 c38
        refine J_iload_n o 2 d_X0_leastOf_134 rfl ?_
        exact J_iret o d_X0_leastOf_135 ⟨_, rfl, h⟩
      · replace h := h.2 c38
        refine J_iload_n o 2 d_X0_leastOf_41 rfl ?_
        refine J_if_eq o 134 d_X0_leastOf_42 rfl (fun c42 => ?_) (fun c42 => ?_)
        · replace h := h.1 c42
          refine J_iload_n o 2 d_X0_leastOf_134 rfl ?_
          exact J_iret o d_X0_leastOf_135 ⟨_, rfl, h⟩
        · replace h := h.2 c42
          refine J_iload o 3 d_X0_leastOf_45 rfl ?_
          refine J_if_le o 79 d_X0_leastOf_47 rfl (fun c47 => ?_) (fun c47 => ?_)
          · replace h := h.1 c47
            exact c_X0_leastOf_79 o  ih l3 l4 σ  h
          · replace h := h.2 c47
            refine J_aload_n o 0 d_X0_leastOf_50 rfl ?_
            refine J_aload_n o 0 d_X0_leastOf_51 rfl ?_
            refine J_getR (t := 87) o fl_RX0_35 rfl (Nat.le_of_ble_eq_true rfl) (Nat.le_of_ble_eq_true rfl) rfl rfl d_X0_leastOf_52 ?_
            refine J_iload o 3 d_X0_leastOf_55 rfl ?_
            refine J_iconst (v := 1) o d_X0_leastOf_57 iconst_1 ?_
            refine J_isub o d_X0_leastOf_58 ?_
            refine J_iconst (v := 2) o d_X0_leastOf_59 iconst_2 ?_
            refine J_irem o d_X0_leastOf_60 (by decide) ?_
            have b61 := h.1
            replace h := h.2
            refine J_aald (t := (88 + ((l4 - 1) - (l4 - 1) / 2 * 2).toNatClampNeg)) o 2 (by decide) rfl (Nat.le_of_ble_eq_true rfl) (Nat.le_of_ble_eq_true rfl) (vpc rfl b61) rfl d_X0_leastOf_61 ?_
            refine J_aload_n o 0 d_X0_leastOf_62 rfl ?_
            refine J_getR (t := 87) o fl_RX0_35 rfl (Nat.le_of_ble_eq_true rfl) (Nat.le_of_ble_eq_true rfl) rfl rfl d_X0_leastOf_63 ?_
            refine J_iload o 3 d_X0_leastOf_66 rfl ?_
            refine J_iconst (v := 2) o d_X0_leastOf_68 iconst_2 ?_
            refine J_irem o d_X0_leastOf_69 (by decide) ?_
            have b70 := h.1
            replace h := h.2
            refine J_aald (t := (88 + (l4 - l4 / 2 * 2).toNatClampNeg)) o 2 (by decide) rfl (Nat.le_of_ble_eq_true rfl) (Nat.le_of_ble_eq_true rfl) (vpc rfl b70) rfl d_X0_leastOf_70 ?_
            refine J_iload o 3 d_X0_leastOf_71 rfl ?_
            refine J_iconst (v := 1) o d_X0_leastOf_73 iconst_1 ?_
            refine J_isub o d_X0_leastOf_74 ?_
            refine J_iconst (v := 1) o d_X0_leastOf_75 iconst_1 ?_
            refine J_callV (k := 19) (c := 0) o [.ref (wB (wC b) + (88 + ((l4 - 1) - (l4 - 1) / 2 * 2).toNatClampNeg)), .ref (wB (wC b) + (88 + (l4 - l4 / 2 * 2).toNatClampNeg)), .int (l4 - 1), .int 1] rfl (by decide) (Nat.le_of_ble_eq_true rfl) (Nat.le_of_ble_eq_true rfl) mth_X0_sailHour iv_X0_sailHour ml_RX0_133 ⟨Nat.le_of_ble_eq_true rfl, Nat.le_of_ble_eq_true rfl⟩ rfl rfl (Nat.le_of_ble_eq_true rfl) ⟨Nat.le_refl _, Nat.le_refl _⟩ d_X0_leastOf_76 (w_X0_sailHour (xL x) b (U_A b61) (U_A b70) h) (aV (fun s76 h => ?_))
            exact c_X0_leastOf_79 o  ih l3 l4 s76  h
set_option maxHeartbeats 4000000 in
set_option maxRecDepth 20000 in
theorem w_X0_leastOf (l : Launch) (b : Wy) {v1 : Int32} {v2 : Int32} {σ : Sg} {K : Int32 → Sg → Prop}  (h : m_X0_leastOf v1 v2 σ K) : Ct l (wC b) yX0_leastOf cX0_leastOf 6 (some .int) rm_X0_leastOf [.ref (wB (wC b) + 19), .int v1, .int v2] σ (PI K) := by
  unfold m_X0_leastOf at h
  refine Ct.of (own := RX0) (by decide +kernel) rfl (Nat.le_of_ble_eq_true rfl) (fun x hx o => ?_)
  subst hx
  show J x (wC b) (FinC x (wC b) (PI K) (0, 0)) 0 [(0, .ref (wB (wC b) + 19)), (1, .int v1), (2, .int v2)] [] (0, 0) σ
  refine J_iconst (v := (-1)) o d_X0_leastOf_0 iconst_m1 ?_
  refine J_istore_n (lv' := [(3, .int (-1)), (0, .ref (wB (wC b) + 19)), (1, .int v1), (2, .int v2)]) o d_X0_leastOf_1 (by decide) rfl ?_
  refine J_aload_n o 1 d_X0_leastOf_2 rfl ?_
  refine J_getR (t := 87) o fl_RX0_35 rfl (Nat.le_of_ble_eq_true rfl) (Nat.le_of_ble_eq_true rfl) rfl rfl d_X0_leastOf_3 ?_
  refine J_iconst (v := 0) o d_X0_leastOf_6 iconst_0 ?_
  have b7 := h.1
  replace h := h.2
  refine J_aald (t := (88 + (0 : Int32).toNatClampNeg)) o 2 (by decide) rfl (Nat.le_of_ble_eq_true rfl) (Nat.le_of_ble_eq_true rfl) (vpc rfl b7) rfl d_X0_leastOf_7 ?_
  refine J_aload_n o 1 d_X0_leastOf_8 rfl ?_
  refine J_getR (t := 2) o fl_RX0_46 rfl (Nat.le_of_ble_eq_true rfl) (Nat.le_of_ble_eq_true rfl) rfl rfl d_X0_leastOf_9 ?_
  refine J_getR (t := (2 + 1)) o fl_RX0_123 (W_kd W_2) (Nat.zero_le _) (W_hi W_2) rfl (W_t W_2 10 (by decide)) d_X0_leastOf_12 ?_
  refine J_iload_n o 2 d_X0_leastOf_15 rfl ?_
  refine J_callSN o [.ref (wB (wC b) + (2 + 1)), .int v1] mth_X4_read st_X4_read mn_RX0_98 ⟨Nat.le_of_ble_eq_true rfl, Nat.le_of_ble_eq_true rfl⟩ rfl rfl (Nat.le_of_ble_eq_true rfl) ⟨Nat.le_refl _, Nat.le_refl _⟩ d_X0_leastOf_16 (w_X4_read (xL x) b (W_A1 W_2) h) (aI (fun r16 s16 h => ?_))
  refine J_sipush (v := 1000) o d_X0_leastOf_19 sipush_1000 ?_
  refine J_callS o [.ref (wB (wC b) + (88 + (0 : Int32).toNatClampNeg)), .int r16, .int 1000] mth_X0_begin st_X0_begin ml_RX0_129 ⟨Nat.le_of_ble_eq_true rfl, Nat.le_of_ble_eq_true rfl⟩ rfl rfl (Nat.le_of_ble_eq_true rfl) ⟨Nat.le_refl _, Nat.le_refl _⟩ d_X0_leastOf_22 (w_X0_begin (xL x) b (U_A b7) h) (aV (fun s22 h => ?_))
  refine J_iconst (v := 0) o d_X0_leastOf_25 iconst_0 ?_
  refine J_istore (lv' := [(4, .int 0), (3, .int (-1)), (0, .ref (wB (wC b) + 19)), (1, .int v1), (2, .int v2)]) o d_X0_leastOf_26 (by decide) rfl ?_
  refine J_sub [2, 4, 1, 0] rfl ?_
  obtain ⟨n9, h⟩ := h
  exact c_X0_leastOf_28 o   n9 (-1) 0 s22  h
theorem d_X0_reachOf_0 : decode cX0_reachOf 0 = .ok (.aload_n 0, 1) := by decide +kernel
theorem d_X0_reachOf_1 : decode cX0_reachOf 1 = .ok (.iload_n 1, 1) := by decide +kernel
theorem d_X0_reachOf_2 : decode cX0_reachOf 2 = .ok (.iload_n 2, 1) := by decide +kernel
theorem d_X0_reachOf_3 : decode cX0_reachOf 3 = .ok (.invokevirtual 102, 3) := by decide +kernel
theorem d_X0_reachOf_6 : decode cX0_reachOf 6 = .ok (.astore_n 3, 1) := by decide +kernel
theorem d_X0_reachOf_7 : decode cX0_reachOf 7 = .ok (.iconst 0, 1) := by decide +kernel
theorem d_X0_reachOf_8 : decode cX0_reachOf 8 = .ok (.istore 4, 2) := by decide +kernel
theorem d_X0_reachOf_10 : decode cX0_reachOf 10 = .ok (.iconst 0, 1) := by decide +kernel
theorem d_X0_reachOf_11 : decode cX0_reachOf 11 = .ok (.istore 5, 2) := by decide +kernel
theorem d_X0_reachOf_13 : decode cX0_reachOf 13 = .ok (.iload 5, 2) := by decide +kernel
theorem d_X0_reachOf_15 : decode cX0_reachOf 15 = .ok (.aload_n 0, 1) := by decide +kernel
theorem d_X0_reachOf_16 : decode cX0_reachOf 16 = .ok (.getfield 38, 3) := by decide +kernel
theorem d_X0_reachOf_19 : decode cX0_reachOf 19 = .ok (.if_icmp .ge 27, 3) := by decide +kernel
theorem d_X0_reachOf_22 : decode cX0_reachOf 22 = .ok (.iload 5, 2) := by decide +kernel
theorem d_X0_reachOf_24 : decode cX0_reachOf 24 = .ok (.aload_n 3, 1) := by decide +kernel
theorem d_X0_reachOf_25 : decode cX0_reachOf 25 = .ok (.arraylength, 1) := by decide +kernel
theorem d_X0_reachOf_26 : decode cX0_reachOf 26 = .ok (.if_icmp .ge 20, 3) := by decide +kernel
theorem d_X0_reachOf_29 : decode cX0_reachOf 29 = .ok (.aload_n 3, 1) := by decide +kernel
theorem d_X0_reachOf_30 : decode cX0_reachOf 30 = .ok (.iload 5, 2) := by decide +kernel
theorem d_X0_reachOf_32 : decode cX0_reachOf 32 = .ok (.iaload, 1) := by decide +kernel
theorem d_X0_reachOf_33 : decode cX0_reachOf 33 = .ok (.iconst (-1), 1) := by decide +kernel
theorem d_X0_reachOf_34 : decode cX0_reachOf 34 = .ok (.if_icmp .eq 6, 3) := by decide +kernel
theorem d_X0_reachOf_37 : decode cX0_reachOf 37 = .ok (.iinc 4 1, 3) := by decide +kernel
theorem d_X0_reachOf_40 : decode cX0_reachOf 40 = .ok (.iinc 5 1, 3) := by decide +kernel
theorem d_X0_reachOf_43 : decode cX0_reachOf 43 = .ok (.goto (-30), 3) := by decide +kernel
theorem d_X0_reachOf_46 : decode cX0_reachOf 46 = .ok (.iload 4, 2) := by decide +kernel
theorem d_X0_reachOf_48 : decode cX0_reachOf 48 = .ok (.ireturn, 1) := by decide +kernel
abbrev rm_X0_reachOf : Room := { frames := 3, cells := 0, slots := 0, locals := 79 }
set_option maxHeartbeats 4000000 in
set_option maxRecDepth 20000 in
theorem c_X0_reachOf_13 {x : Cx} {b : Wy} (o : Ok x (wC b) cX0_reachOf 6 RX0 (some .int) rm_X0_reachOf) {v1 : Int32} {v2 : Int32} {K : Int32 → Sg → Prop}   : ∀ (n : Nat) (l3 : Nat) (l4 : Int32) (l5 : Int32) (σ : Sg), IsA (wC b) l3 → m_X0_reachOf_l13 v1 v2 K  n l3 l4 l5 σ → J x (wC b) (FinC x (wC b) (PI K) (0, 0)) 13 [(0, .ref (wB (wC b) + 19)), (3, .ref (wB (wC b) + l3)), (4, .int l4), (5, .int l5)] [] (0, 0) σ := by
  intro n
  induction n with
  | zero =>
    intro l3 l4 l5 σ hl3 h
    exact False.elim h
  | succ n ih =>
    intro l3 l4 l5 σ hl3 h
    unfold m_X0_reachOf_l13 at h
    refine J_iload o 3 d_X0_reachOf_13 rfl ?_
    refine J_aload_n o 0 d_X0_reachOf_15 rfl ?_
    refine J_getI o fl_RX0_38 rfl (Nat.le_of_ble_eq_true rfl) (Nat.le_of_ble_eq_true rfl) rfl d_X0_reachOf_16 ?_
    refine J_icmp_ge o 46 d_X0_reachOf_19 rfl (fun c19 => ?_) (fun c19 => ?_)
    · replace h := h.1 c19
      refine J_iload o 2 d_X0_reachOf_46 rfl ?_
      exact J_iret o d_X0_reachOf_48 ⟨_, rfl, h⟩
    · replace h := h.2 c19
      refine J_iload o 3 d_X0_reachOf_22 rfl ?_
      refine J_aload_n o 1 d_X0_reachOf_24 rfl ?_
      refine J_alenL o hl3 rfl d_X0_reachOf_25 ?_
      refine J_icmp_ge o 46 d_X0_reachOf_26 rfl (fun c26 => ?_) (fun c26 => ?_)
      · replace h := h.1 c26
        refine J_iload o 2 d_X0_reachOf_46 rfl ?_
        exact J_iret o d_X0_reachOf_48 ⟨_, rfl, h⟩
      · replace h := h.2 c26
        refine J_aload_n o 1 d_X0_reachOf_29 rfl ?_
        refine J_iload o 3 d_X0_reachOf_30 rfl ?_
        have b32 := h.1
        replace h := h.2
        refine J_iald o hl3 (vpc rfl b32) d_X0_reachOf_32 ?_
        refine J_iconst (v := (-1)) o d_X0_reachOf_33 iconst_m1 ?_
        refine J_icmp_eq o 40 d_X0_reachOf_34 rfl (fun c34 => ?_) (fun c34 => ?_)
        · replace h := h.1 c34
          refine J_iinc (lv' := [(5, .int (l5 + 1)), (0, .ref (wB (wC b) + 19)), (3, .ref (wB (wC b) + l3)), (4, .int l4)]) o 3 d_X0_reachOf_40 (by decide) rfl iconst_1 rfl ?_
          refine J_goto o 13 d_X0_reachOf_43 rfl ?_
          refine J_sub [1, 2, 3, 0] rfl ?_
          exact ih l3 l4 (l5 + 1) σ hl3 h
        · replace h := h.2 c34
          refine J_iinc (lv' := [(4, .int (l4 + 1)), (0, .ref (wB (wC b) + 19)), (3, .ref (wB (wC b) + l3)), (5, .int l5)]) o 2 d_X0_reachOf_37 (by decide) rfl iconst_1 rfl ?_
          refine J_iinc (lv' := [(5, .int (l5 + 1)), (4, .int (l4 + 1)), (0, .ref (wB (wC b) + 19)), (3, .ref (wB (wC b) + l3))]) o 3 d_X0_reachOf_40 (by decide) rfl iconst_1 rfl ?_
          refine J_goto o 13 d_X0_reachOf_43 rfl ?_
          refine J_sub [2, 3, 1, 0] rfl ?_
          exact ih l3 (l4 + 1) (l5 + 1) σ hl3 h
set_option maxHeartbeats 4000000 in
set_option maxRecDepth 20000 in
theorem w_X0_reachOf (l : Launch) (b : Wy) {v1 : Int32} {v2 : Int32} {σ : Sg} {K : Int32 → Sg → Prop}  (h : m_X0_reachOf v1 v2 σ K) : Ct l (wC b) yX0_reachOf cX0_reachOf 6 (some .int) rm_X0_reachOf [.ref (wB (wC b) + 19), .int v1, .int v2] σ (PI K) := by
  unfold m_X0_reachOf at h
  refine Ct.of (own := RX0) (by decide +kernel) rfl (Nat.le_of_ble_eq_true rfl) (fun x hx o => ?_)
  subst hx
  show J x (wC b) (FinC x (wC b) (PI K) (0, 0)) 0 [(0, .ref (wB (wC b) + 19)), (1, .int v1), (2, .int v2)] [] (0, 0) σ
  refine J_aload_n o 0 d_X0_reachOf_0 rfl ?_
  refine J_iload_n o 1 d_X0_reachOf_1 rfl ?_
  refine J_iload_n o 2 d_X0_reachOf_2 rfl ?_
  refine J_callV (k := 19) (c := 0) o [.int v1, .int v2] rfl (by decide) (Nat.le_of_ble_eq_true rfl) (Nat.le_of_ble_eq_true rfl) mth_X0_mostsOf iv_X0_mostsOf ml_RX0_102 ⟨Nat.le_of_ble_eq_true rfl, Nat.le_of_ble_eq_true rfl⟩ rfl rfl (Nat.le_of_ble_eq_true rfl) ⟨Nat.le_refl _, Nat.le_refl _⟩ d_X0_reachOf_3 (w_X0_mostsOf (xL x) b  h) (aA (fun r3 s3 hr3 h => ?_))
  refine J_astore_n (lv' := [(3, .ref (wB (wC b) + r3)), (0, .ref (wB (wC b) + 19)), (1, .int v1), (2, .int v2)]) o d_X0_reachOf_6 (by decide) rfl ?_
  refine J_iconst (v := 0) o d_X0_reachOf_7 iconst_0 ?_
  refine J_istore (lv' := [(4, .int 0), (3, .ref (wB (wC b) + r3)), (0, .ref (wB (wC b) + 19)), (1, .int v1), (2, .int v2)]) o d_X0_reachOf_8 (by decide) rfl ?_
  refine J_iconst (v := 0) o d_X0_reachOf_10 iconst_0 ?_
  refine J_istore (lv' := [(5, .int 0), (4, .int 0), (3, .ref (wB (wC b) + r3)), (0, .ref (wB (wC b) + 19)), (1, .int v1), (2, .int v2)]) o d_X0_reachOf_11 (by decide) rfl ?_
  refine J_sub [3, 2, 1, 0] rfl ?_
  obtain ⟨n9, h⟩ := h
  exact c_X0_reachOf_13 o   n9 r3 0 0 s3 hr3 h
theorem d_X0_mostOf_0 : decode cX0_mostOf 0 = .ok (.aload_n 0, 1) := by decide +kernel
theorem d_X0_mostOf_1 : decode cX0_mostOf 1 = .ok (.iload_n 1, 1) := by decide +kernel
theorem d_X0_mostOf_2 : decode cX0_mostOf 2 = .ok (.iload_n 2, 1) := by decide +kernel
theorem d_X0_mostOf_3 : decode cX0_mostOf 3 = .ok (.invokevirtual 102, 3) := by decide +kernel
theorem d_X0_mostOf_6 : decode cX0_mostOf 6 = .ok (.iload_n 3, 1) := by decide +kernel
theorem d_X0_mostOf_7 : decode cX0_mostOf 7 = .ok (.invokestatic 98, 3) := by decide +kernel
theorem d_X0_mostOf_10 : decode cX0_mostOf 10 = .ok (.ireturn, 1) := by decide +kernel
abbrev rm_X0_mostOf : Room := { frames := 3, cells := 0, slots := 0, locals := 79 }
set_option maxHeartbeats 4000000 in
set_option maxRecDepth 20000 in
theorem w_X0_mostOf (l : Launch) (b : Wy) {v1 : Int32} {v2 : Int32} {v3 : Int32} {σ : Sg} {K : Int32 → Sg → Prop}  (h : m_X0_mostOf v1 v2 v3 σ K) : Ct l (wC b) yX0_mostOf cX0_mostOf 4 (some .int) rm_X0_mostOf [.ref (wB (wC b) + 19), .int v1, .int v2, .int v3] σ (PI K) := by
  unfold m_X0_mostOf at h
  refine Ct.of (own := RX0) (by decide +kernel) rfl (Nat.le_of_ble_eq_true rfl) (fun x hx o => ?_)
  subst hx
  show J x (wC b) (FinC x (wC b) (PI K) (0, 0)) 0 [(0, .ref (wB (wC b) + 19)), (1, .int v1), (2, .int v2), (3, .int v3)] [] (0, 0) σ
  refine J_aload_n o 0 d_X0_mostOf_0 rfl ?_
  refine J_iload_n o 1 d_X0_mostOf_1 rfl ?_
  refine J_iload_n o 2 d_X0_mostOf_2 rfl ?_
  refine J_callV (k := 19) (c := 0) o [.int v1, .int v2] rfl (by decide) (Nat.le_of_ble_eq_true rfl) (Nat.le_of_ble_eq_true rfl) mth_X0_mostsOf iv_X0_mostsOf ml_RX0_102 ⟨Nat.le_of_ble_eq_true rfl, Nat.le_of_ble_eq_true rfl⟩ rfl rfl (Nat.le_of_ble_eq_true rfl) ⟨Nat.le_refl _, Nat.le_refl _⟩ d_X0_mostOf_3 (w_X0_mostsOf (xL x) b  h) (aA (fun r3 s3 hr3 h => ?_))
  refine J_iload_n o 3 d_X0_mostOf_6 rfl ?_
  refine J_callSN o [.ref (wB (wC b) + r3), .int v3] mth_X4_read st_X4_read mn_RX0_98 ⟨Nat.le_of_ble_eq_true rfl, Nat.le_of_ble_eq_true rfl⟩ rfl rfl (Nat.le_of_ble_eq_true rfl) ⟨Nat.le_refl _, Nat.le_refl _⟩ d_X0_mostOf_7 (w_X4_read (xL x) b hr3 h) (aI (fun r7 s7 h => ?_))
  exact J_iret o d_X0_mostOf_10 ⟨_, rfl, h⟩
theorem d_X0_giveFuel_0 : decode cX0_giveFuel 0 = .ok (.iconst 0, 1) := by decide +kernel
theorem d_X0_giveFuel_1 : decode cX0_giveFuel 1 = .ok (.istore 4, 2) := by decide +kernel
theorem d_X0_giveFuel_3 : decode cX0_giveFuel 3 = .ok (.iload 4, 2) := by decide +kernel
theorem d_X0_giveFuel_5 : decode cX0_giveFuel 5 = .ok (.aload_n 0, 1) := by decide +kernel
theorem d_X0_giveFuel_6 : decode cX0_giveFuel 6 = .ok (.getfield 38, 3) := by decide +kernel
theorem d_X0_giveFuel_9 : decode cX0_giveFuel 9 = .ok (.if_icmp .ge 71, 3) := by decide +kernel
theorem d_X0_giveFuel_12 : decode cX0_giveFuel 12 = .ok (.aload_n 1, 1) := by decide +kernel
theorem d_X0_giveFuel_13 : decode cX0_giveFuel 13 = .ok (.iload 4, 2) := by decide +kernel
theorem d_X0_giveFuel_15 : decode cX0_giveFuel 15 = .ok (.invokestatic 98, 3) := by decide +kernel
theorem d_X0_giveFuel_18 : decode cX0_giveFuel 18 = .ok (.istore 5, 2) := by decide +kernel
theorem d_X0_giveFuel_20 : decode cX0_giveFuel 20 = .ok (.aload_n 2, 1) := by decide +kernel
theorem d_X0_giveFuel_21 : decode cX0_giveFuel 21 = .ok (.iload 4, 2) := by decide +kernel
theorem d_X0_giveFuel_23 : decode cX0_giveFuel 23 = .ok (.invokestatic 98, 3) := by decide +kernel
theorem d_X0_giveFuel_26 : decode cX0_giveFuel 26 = .ok (.istore 6, 2) := by decide +kernel
theorem d_X0_giveFuel_28 : decode cX0_giveFuel 28 = .ok (.iload 5, 2) := by decide +kernel
theorem d_X0_giveFuel_30 : decode cX0_giveFuel 30 = .ok (.iconst (-1), 1) := by decide +kernel
theorem d_X0_giveFuel_31 : decode cX0_giveFuel 31 = .ok (.if_icmp .eq 43, 3) := by decide +kernel
theorem d_X0_giveFuel_34 : decode cX0_giveFuel 34 = .ok (.iload 6, 2) := by decide +kernel
theorem d_X0_giveFuel_36 : decode cX0_giveFuel 36 = .ok (.iconst (-1), 1) := by decide +kernel
theorem d_X0_giveFuel_37 : decode cX0_giveFuel 37 = .ok (.if_icmp .eq 37, 3) := by decide +kernel
theorem d_X0_giveFuel_40 : decode cX0_giveFuel 40 = .ok (.iload 5, 2) := by decide +kernel
theorem d_X0_giveFuel_42 : decode cX0_giveFuel 42 = .ok (.iload 6, 2) := by decide +kernel
theorem d_X0_giveFuel_44 : decode cX0_giveFuel 44 = .ok (.iadd, 1) := by decide +kernel
theorem d_X0_giveFuel_45 : decode cX0_giveFuel 45 = .ok (.aload_n 0, 1) := by decide +kernel
theorem d_X0_giveFuel_46 : decode cX0_giveFuel 46 = .ok (.getfield 46, 3) := by decide +kernel
theorem d_X0_giveFuel_49 : decode cX0_giveFuel 49 = .ok (.getfield 180, 3) := by decide +kernel
theorem d_X0_giveFuel_52 : decode cX0_giveFuel 52 = .ok (.invokestatic 59, 3) := by decide +kernel
theorem d_X0_giveFuel_55 : decode cX0_giveFuel 55 = .ok (.istore 7, 2) := by decide +kernel
theorem d_X0_giveFuel_57 : decode cX0_giveFuel 57 = .ok (.aload_n 3, 1) := by decide +kernel
theorem d_X0_giveFuel_58 : decode cX0_giveFuel 58 = .ok (.iload 4, 2) := by decide +kernel
theorem d_X0_giveFuel_60 : decode cX0_giveFuel 60 = .ok (.aload_n 3, 1) := by decide +kernel
theorem d_X0_giveFuel_61 : decode cX0_giveFuel 61 = .ok (.iload 4, 2) := by decide +kernel
theorem d_X0_giveFuel_63 : decode cX0_giveFuel 63 = .ok (.invokestatic 98, 3) := by decide +kernel
theorem d_X0_giveFuel_66 : decode cX0_giveFuel 66 = .ok (.iload 7, 2) := by decide +kernel
theorem d_X0_giveFuel_68 : decode cX0_giveFuel 68 = .ok (.invokestatic 117, 3) := by decide +kernel
theorem d_X0_giveFuel_71 : decode cX0_giveFuel 71 = .ok (.invokestatic 143, 3) := by decide +kernel
theorem d_X0_giveFuel_74 : decode cX0_giveFuel 74 = .ok (.iinc 4 1, 3) := by decide +kernel
theorem d_X0_giveFuel_77 : decode cX0_giveFuel 77 = .ok (.goto (-74), 3) := by decide +kernel
theorem d_X0_giveFuel_80 : decode cX0_giveFuel 80 = .ok (.return_, 1) := by decide +kernel
abbrev rm_X0_giveFuel : Room := { frames := 1, cells := 0, slots := 0, locals := 22 }
set_option maxHeartbeats 4000000 in
set_option maxRecDepth 20000 in
theorem c_X0_giveFuel_3 {x : Cx} {b : Wy} (o : Ok x (wC b) cX0_giveFuel 8 RX0 none rm_X0_giveFuel) {v1 : Nat} {v2 : Nat} {v3 : Nat} {K : Sg → Prop}  (hv1 : IsA (wC b) v1) (hv2 : IsA (wC b) v2) (hv3 : IsA (wC b) v3) : ∀ (n : Nat) (l4 : Int32) (σ : Sg), m_X0_giveFuel_l3 v1 v2 v3 K  n l4 σ → J x (wC b) (FinC x (wC b) (PV K) (0, 0)) 3 [(0, .ref (wB (wC b) + 19)), (1, .ref (wB (wC b) + v1)), (2, .ref (wB (wC b) + v2)), (3, .ref (wB (wC b) + v3)), (4, .int l4)] [] (0, 0) σ := by
  intro n
  induction n with
  | zero =>
    intro l4 σ  h
    exact False.elim h
  | succ n ih =>
    intro l4 σ  h
    unfold m_X0_giveFuel_l3 at h
    refine J_iload o 4 d_X0_giveFuel_3 rfl ?_
    refine J_aload_n o 0 d_X0_giveFuel_5 rfl ?_
    refine J_getI o fl_RX0_38 rfl (Nat.le_of_ble_eq_true rfl) (Nat.le_of_ble_eq_true rfl) rfl d_X0_giveFuel_6 ?_
    refine J_icmp_ge o 80 d_X0_giveFuel_9 rfl (fun c9 => ?_) (fun c9 => ?_)
    · replace h := h.1 c9
      exact J_vret o d_X0_giveFuel_80 ⟨rfl, h⟩
    · replace h := h.2 c9
      refine J_aload_n o 1 d_X0_giveFuel_12 rfl ?_
      refine J_iload o 4 d_X0_giveFuel_13 rfl ?_
      refine J_callSN o [.ref (wB (wC b) + v1), .int l4] mth_X4_read st_X4_read mn_RX0_98 ⟨Nat.le_of_ble_eq_true rfl, Nat.le_of_ble_eq_true rfl⟩ rfl rfl (Nat.le_of_ble_eq_true rfl) ⟨Nat.le_refl _, Nat.le_refl _⟩ d_X0_giveFuel_15 (w_X4_read (xL x) b hv1 h) (aI (fun r15 s15 h => ?_))
      refine J_istore (lv' := [(5, .int r15), (0, .ref (wB (wC b) + 19)), (1, .ref (wB (wC b) + v1)), (2, .ref (wB (wC b) + v2)), (3, .ref (wB (wC b) + v3)), (4, .int l4)]) o d_X0_giveFuel_18 (by decide) rfl ?_
      refine J_aload_n o 3 d_X0_giveFuel_20 rfl ?_
      refine J_iload o 5 d_X0_giveFuel_21 rfl ?_
      refine J_callSN o [.ref (wB (wC b) + v2), .int l4] mth_X4_read st_X4_read mn_RX0_98 ⟨Nat.le_of_ble_eq_true rfl, Nat.le_of_ble_eq_true rfl⟩ rfl rfl (Nat.le_of_ble_eq_true rfl) ⟨Nat.le_refl _, Nat.le_refl _⟩ d_X0_giveFuel_23 (w_X4_read (xL x) b hv2 h) (aI (fun r23 s23 h => ?_))
      refine J_istore (lv' := [(6, .int r23), (5, .int r15), (0, .ref (wB (wC b) + 19)), (1, .ref (wB (wC b) + v1)), (2, .ref (wB (wC b) + v2)), (3, .ref (wB (wC b) + v3)), (4, .int l4)]) o d_X0_giveFuel_26 (by decide) rfl ?_
      refine J_iload o 1 d_X0_giveFuel_28 rfl ?_
      refine J_iconst (v := (-1)) o d_X0_giveFuel_30 iconst_m1 ?_
      refine J_icmp_eq o 74 d_X0_giveFuel_31 rfl (fun c31 => ?_) (fun c31 => ?_)
      · replace h := h.1 c31
        refine J_iinc (lv' := [(4, .int (l4 + 1)), (6, .int r23), (5, .int r15), (0, .ref (wB (wC b) + 19)), (1, .ref (wB (wC b) + v1)), (2, .ref (wB (wC b) + v2)), (3, .ref (wB (wC b) + v3))]) o 6 d_X0_giveFuel_74 (by decide) rfl iconst_1 rfl ?_
        refine J_goto o 3 d_X0_giveFuel_77 rfl ?_
        refine J_sub [3, 4, 5, 6, 0] rfl ?_
        exact ih (l4 + 1) s23  h
      · replace h := h.2 c31
        refine J_iload o 0 d_X0_giveFuel_34 rfl ?_
        refine J_iconst (v := (-1)) o d_X0_giveFuel_36 iconst_m1 ?_
        refine J_icmp_eq o 74 d_X0_giveFuel_37 rfl (fun c37 => ?_) (fun c37 => ?_)
        · replace h := h.1 c37
          refine J_iinc (lv' := [(4, .int (l4 + 1)), (6, .int r23), (5, .int r15), (0, .ref (wB (wC b) + 19)), (1, .ref (wB (wC b) + v1)), (2, .ref (wB (wC b) + v2)), (3, .ref (wB (wC b) + v3))]) o 6 d_X0_giveFuel_74 (by decide) rfl iconst_1 rfl ?_
          refine J_goto o 3 d_X0_giveFuel_77 rfl ?_
          refine J_sub [3, 4, 5, 6, 0] rfl ?_
          exact ih (l4 + 1) s23  h
        · replace h := h.2 c37
          refine J_iload o 1 d_X0_giveFuel_40 rfl ?_
          refine J_iload o 0 d_X0_giveFuel_42 rfl ?_
          refine J_iadd o d_X0_giveFuel_44 ?_
          refine J_aload_n o 2 d_X0_giveFuel_45 rfl ?_
          refine J_getR (t := 2) o fl_RX0_46 rfl (Nat.le_of_ble_eq_true rfl) (Nat.le_of_ble_eq_true rfl) rfl rfl d_X0_giveFuel_46 ?_
          refine J_getI o fl_RX0_180 (W_kd W_2) (Nat.zero_le _) (W_hi W_2) rfl d_X0_giveFuel_49 ?_
          refine J_min o mm_RX0_59 ms_min mi_math mc_min ⟨Nat.le_of_ble_eq_true rfl, Nat.le_of_ble_eq_true rfl, Nat.le_of_ble_eq_true rfl, Nat.le_of_ble_eq_true rfl⟩ d_X0_giveFuel_52 ?_
          refine J_top (fun l7_55 el7_55 => ?_)
          replace h := h l7_55 el7_55
          refine J_istore (lv' := [(7, .int l7_55), (6, .int r23), (5, .int r15), (0, .ref (wB (wC b) + 19)), (1, .ref (wB (wC b) + v1)), (2, .ref (wB (wC b) + v2)), (3, .ref (wB (wC b) + v3)), (4, .int l4)]) o d_X0_giveFuel_55 (by decide) rfl ?_
          refine J_aload_n o 6 d_X0_giveFuel_57 rfl ?_
          refine J_iload o 7 d_X0_giveFuel_58 rfl ?_
          refine J_aload_n o 6 d_X0_giveFuel_60 rfl ?_
          refine J_iload o 7 d_X0_giveFuel_61 rfl ?_
          refine J_callSN o [.ref (wB (wC b) + v3), .int l4] mth_X4_read st_X4_read mn_RX0_98 ⟨Nat.le_of_ble_eq_true rfl, Nat.le_of_ble_eq_true rfl⟩ rfl rfl (Nat.le_of_ble_eq_true rfl) ⟨Nat.le_refl _, Nat.le_refl _⟩ d_X0_giveFuel_63 (w_X4_read (xL x) b hv3 h) (aI (fun r63 s63 h => ?_))
          refine J_iload o 0 d_X0_giveFuel_66 rfl ?_
          refine J_max o mm_RX0_117 ms_max mi_math mc_max ⟨Nat.le_of_ble_eq_true rfl, Nat.le_of_ble_eq_true rfl, Nat.le_of_ble_eq_true rfl, Nat.le_of_ble_eq_true rfl⟩ d_X0_giveFuel_68 ?_
          refine J_callSN o [.ref (wB (wC b) + v3), .int l4, .int (if r63 < l7_55 then l7_55 else r63)] mth_X4_write st_X4_write mn_RX0_143 ⟨Nat.le_of_ble_eq_true rfl, Nat.le_of_ble_eq_true rfl⟩ rfl rfl (Nat.le_of_ble_eq_true rfl) ⟨Nat.le_refl _, Nat.le_refl _⟩ d_X0_giveFuel_71 (w_X4_write (xL x) b hv3 h) (aV (fun s71 h => ?_))
          refine J_iinc (lv' := [(4, .int (l4 + 1)), (7, .int l7_55), (6, .int r23), (5, .int r15), (0, .ref (wB (wC b) + 19)), (1, .ref (wB (wC b) + v1)), (2, .ref (wB (wC b) + v2)), (3, .ref (wB (wC b) + v3))]) o 7 d_X0_giveFuel_74 (by decide) rfl iconst_1 rfl ?_
          refine J_goto o 3 d_X0_giveFuel_77 rfl ?_
          refine J_sub [4, 5, 6, 7, 0] rfl ?_
          exact ih (l4 + 1) s71  h
set_option maxHeartbeats 4000000 in
set_option maxRecDepth 20000 in
theorem w_X0_giveFuel (l : Launch) (b : Wy) {v1 : Nat} {v2 : Nat} {v3 : Nat} {σ : Sg} {K : Sg → Prop} (hv1 : IsA (wC b) v1) (hv2 : IsA (wC b) v2) (hv3 : IsA (wC b) v3) (h : m_X0_giveFuel v1 v2 v3 σ K) : Ct l (wC b) yX0_giveFuel cX0_giveFuel 8 none rm_X0_giveFuel [.ref (wB (wC b) + 19), .ref (wB (wC b) + v1), .ref (wB (wC b) + v2), .ref (wB (wC b) + v3)] σ (PV K) := by
  unfold m_X0_giveFuel at h
  refine Ct.of (own := RX0) (by decide +kernel) rfl (Nat.le_of_ble_eq_true rfl) (fun x hx o => ?_)
  subst hx
  show J x (wC b) (FinC x (wC b) (PV K) (0, 0)) 0 [(0, .ref (wB (wC b) + 19)), (1, .ref (wB (wC b) + v1)), (2, .ref (wB (wC b) + v2)), (3, .ref (wB (wC b) + v3))] [] (0, 0) σ
  refine J_iconst (v := 0) o d_X0_giveFuel_0 iconst_0 ?_
  refine J_istore (lv' := [(4, .int 0), (0, .ref (wB (wC b) + 19)), (1, .ref (wB (wC b) + v1)), (2, .ref (wB (wC b) + v2)), (3, .ref (wB (wC b) + v3))]) o d_X0_giveFuel_1 (by decide) rfl ?_
  refine J_sub [1, 2, 3, 4, 0] rfl ?_
  obtain ⟨n9, h⟩ := h
  exact c_X0_giveFuel_3 o hv1 hv2 hv3  n9 0 σ  h
theorem d_X0_relayOf_0 : decode cX0_relayOf 0 = .ok (.aload_n 0, 1) := by decide +kernel
theorem d_X0_relayOf_1 : decode cX0_relayOf 1 = .ok (.getfield 35, 3) := by decide +kernel
theorem d_X0_relayOf_4 : decode cX0_relayOf 4 = .ok (.iconst 0, 1) := by decide +kernel
theorem d_X0_relayOf_5 : decode cX0_relayOf 5 = .ok (.aaload, 1) := by decide +kernel
theorem d_X0_relayOf_6 : decode cX0_relayOf 6 = .ok (.iconst (-1), 1) := by decide +kernel
theorem d_X0_relayOf_7 : decode cX0_relayOf 7 = .ok (.invokestatic 137, 3) := by decide +kernel
theorem d_X0_relayOf_10 : decode cX0_relayOf 10 = .ok (.iconst 0, 1) := by decide +kernel
theorem d_X0_relayOf_11 : decode cX0_relayOf 11 = .ok (.istore_n 3, 1) := by decide +kernel
theorem d_X0_relayOf_12 : decode cX0_relayOf 12 = .ok (.iload_n 3, 1) := by decide +kernel
theorem d_X0_relayOf_13 : decode cX0_relayOf 13 = .ok (.bipush 60, 2) := by decide +kernel
theorem d_X0_relayOf_15 : decode cX0_relayOf 15 = .ok (.if_icmp .gt 78, 3) := by decide +kernel
theorem d_X0_relayOf_18 : decode cX0_relayOf 18 = .ok (.aload_n 0, 1) := by decide +kernel
theorem d_X0_relayOf_19 : decode cX0_relayOf 19 = .ok (.getfield 35, 3) := by decide +kernel
theorem d_X0_relayOf_22 : decode cX0_relayOf 22 = .ok (.iload_n 3, 1) := by decide +kernel
theorem d_X0_relayOf_23 : decode cX0_relayOf 23 = .ok (.iconst 2, 1) := by decide +kernel
theorem d_X0_relayOf_24 : decode cX0_relayOf 24 = .ok (.irem, 1) := by decide +kernel
theorem d_X0_relayOf_25 : decode cX0_relayOf 25 = .ok (.aaload, 1) := by decide +kernel
theorem d_X0_relayOf_26 : decode cX0_relayOf 26 = .ok (.astore 4, 2) := by decide +kernel
theorem d_X0_relayOf_28 : decode cX0_relayOf 28 = .ok (.iload_n 3, 1) := by decide +kernel
theorem d_X0_relayOf_29 : decode cX0_relayOf 29 = .ok (.ifCond .le 23, 3) := by decide +kernel
theorem d_X0_relayOf_32 : decode cX0_relayOf 32 = .ok (.aload_n 0, 1) := by decide +kernel
theorem d_X0_relayOf_33 : decode cX0_relayOf 33 = .ok (.aload_n 0, 1) := by decide +kernel
theorem d_X0_relayOf_34 : decode cX0_relayOf 34 = .ok (.getfield 35, 3) := by decide +kernel
theorem d_X0_relayOf_37 : decode cX0_relayOf 37 = .ok (.iload_n 3, 1) := by decide +kernel
theorem d_X0_relayOf_38 : decode cX0_relayOf 38 = .ok (.iconst 1, 1) := by decide +kernel
theorem d_X0_relayOf_39 : decode cX0_relayOf 39 = .ok (.isub, 1) := by decide +kernel
theorem d_X0_relayOf_40 : decode cX0_relayOf 40 = .ok (.iconst 2, 1) := by decide +kernel
theorem d_X0_relayOf_41 : decode cX0_relayOf 41 = .ok (.irem, 1) := by decide +kernel
theorem d_X0_relayOf_42 : decode cX0_relayOf 42 = .ok (.aaload, 1) := by decide +kernel
theorem d_X0_relayOf_43 : decode cX0_relayOf 43 = .ok (.aload 4, 2) := by decide +kernel
theorem d_X0_relayOf_45 : decode cX0_relayOf 45 = .ok (.iload_n 3, 1) := by decide +kernel
theorem d_X0_relayOf_46 : decode cX0_relayOf 46 = .ok (.iconst 1, 1) := by decide +kernel
theorem d_X0_relayOf_47 : decode cX0_relayOf 47 = .ok (.isub, 1) := by decide +kernel
theorem d_X0_relayOf_48 : decode cX0_relayOf 48 = .ok (.iconst 1, 1) := by decide +kernel
theorem d_X0_relayOf_49 : decode cX0_relayOf 49 = .ok (.invokevirtual 133, 3) := by decide +kernel
theorem d_X0_relayOf_52 : decode cX0_relayOf 52 = .ok (.aload_n 0, 1) := by decide +kernel
theorem d_X0_relayOf_53 : decode cX0_relayOf 53 = .ok (.aload_n 0, 1) := by decide +kernel
theorem d_X0_relayOf_54 : decode cX0_relayOf 54 = .ok (.iload_n 1, 1) := by decide +kernel
theorem d_X0_relayOf_55 : decode cX0_relayOf 55 = .ok (.iload_n 3, 1) := by decide +kernel
theorem d_X0_relayOf_56 : decode cX0_relayOf 56 = .ok (.invokevirtual 102, 3) := by decide +kernel
theorem d_X0_relayOf_59 : decode cX0_relayOf 59 = .ok (.aload_n 0, 1) := by decide +kernel
theorem d_X0_relayOf_60 : decode cX0_relayOf 60 = .ok (.iload_n 2, 1) := by decide +kernel
theorem d_X0_relayOf_61 : decode cX0_relayOf 61 = .ok (.iload_n 3, 1) := by decide +kernel
theorem d_X0_relayOf_62 : decode cX0_relayOf 62 = .ok (.invokevirtual 102, 3) := by decide +kernel
theorem d_X0_relayOf_65 : decode cX0_relayOf 65 = .ok (.aload 4, 2) := by decide +kernel
theorem d_X0_relayOf_67 : decode cX0_relayOf 67 = .ok (.invokevirtual 176, 3) := by decide +kernel
theorem d_X0_relayOf_70 : decode cX0_relayOf 70 = .ok (.aload 4, 2) := by decide +kernel
theorem d_X0_relayOf_72 : decode cX0_relayOf 72 = .ok (.aload_n 0, 1) := by decide +kernel
theorem d_X0_relayOf_73 : decode cX0_relayOf 73 = .ok (.getfield 9, 3) := by decide +kernel
theorem d_X0_relayOf_76 : decode cX0_relayOf 76 = .ok (.iload_n 3, 1) := by decide +kernel
theorem d_X0_relayOf_77 : decode cX0_relayOf 77 = .ok (.iaload, 1) := by decide +kernel
theorem d_X0_relayOf_78 : decode cX0_relayOf 78 = .ok (.invokestatic 98, 3) := by decide +kernel
theorem d_X0_relayOf_81 : decode cX0_relayOf 81 = .ok (.iconst (-1), 1) := by decide +kernel
theorem d_X0_relayOf_82 : decode cX0_relayOf 82 = .ok (.if_icmp .eq 5, 3) := by decide +kernel
theorem d_X0_relayOf_85 : decode cX0_relayOf 85 = .ok (.iload_n 3, 1) := by decide +kernel
theorem d_X0_relayOf_86 : decode cX0_relayOf 86 = .ok (.ireturn, 1) := by decide +kernel
theorem d_X0_relayOf_87 : decode cX0_relayOf 87 = .ok (.iinc 3 1, 3) := by decide +kernel
theorem d_X0_relayOf_90 : decode cX0_relayOf 90 = .ok (.goto (-78), 3) := by decide +kernel
theorem d_X0_relayOf_93 : decode cX0_relayOf 93 = .ok (.iconst (-1), 1) := by decide +kernel
theorem d_X0_relayOf_94 : decode cX0_relayOf 94 = .ok (.ireturn, 1) := by decide +kernel
abbrev rm_X0_relayOf : Room := { frames := 3, cells := 0, slots := 0, locals := 79 }
set_option maxHeartbeats 4000000 in
set_option maxRecDepth 20000 in
theorem c_X0_relayOf_52 {x : Cx} {b : Wy} (o : Ok x (wC b) cX0_relayOf 5 RX0 (some .int) rm_X0_relayOf) {v1 : Int32} {v2 : Int32} {K : Int32 → Sg → Prop}  {KO12 : Int32 → Sg → Prop}  (hKO12 : ∀ (l3 : Int32) (σ : Sg), KO12 l3 σ → J x (wC b) (FinC x (wC b) (PI K) (0, 0)) 12 [(0, .ref (wB (wC b) + 19)), (1, .int v1), (2, .int v2), (3, .int l3)] [] (0, 0) σ) : ∀ (l3 : Int32) (l4 : Nat) (σ : Sg), IsA (wC b) l4 → m_X0_relayOf_j52 v1 v2 K KO12 l3 l4 σ → J x (wC b) (FinC x (wC b) (PI K) (0, 0)) 52 [(0, .ref (wB (wC b) + 19)), (1, .int v1), (2, .int v2), (3, .int l3), (4, .ref (wB (wC b) + l4))] [] (0, 0) σ := by
  intro l3 l4 σ hl4 h
  unfold m_X0_relayOf_j52 at h
  refine J_aload_n o 0 d_X0_relayOf_52 rfl ?_
  refine J_aload_n o 0 d_X0_relayOf_53 rfl ?_
  refine J_iload_n o 1 d_X0_relayOf_54 rfl ?_
  refine J_iload_n o 3 d_X0_relayOf_55 rfl ?_
  refine J_callV (k := 19) (c := 0) o [.int v1, .int l3] rfl (by decide) (Nat.le_of_ble_eq_true rfl) (Nat.le_of_ble_eq_true rfl) mth_X0_mostsOf iv_X0_mostsOf ml_RX0_102 ⟨Nat.le_of_ble_eq_true rfl, Nat.le_of_ble_eq_true rfl⟩ rfl rfl (Nat.le_of_ble_eq_true rfl) ⟨Nat.le_refl _, Nat.le_refl _⟩ d_X0_relayOf_56 (w_X0_mostsOf (xL x) b  h) (aA (fun r56 s56 hr56 h => ?_))
  refine J_aload_n o 0 d_X0_relayOf_59 rfl ?_
  refine J_iload_n o 2 d_X0_relayOf_60 rfl ?_
  refine J_iload_n o 3 d_X0_relayOf_61 rfl ?_
  refine J_callV (k := 19) (c := 0) o [.int v2, .int l3] rfl (by decide) (Nat.le_of_ble_eq_true rfl) (Nat.le_of_ble_eq_true rfl) mth_X0_mostsOf iv_X0_mostsOf ml_RX0_102 ⟨Nat.le_of_ble_eq_true rfl, Nat.le_of_ble_eq_true rfl⟩ rfl rfl (Nat.le_of_ble_eq_true rfl) ⟨Nat.le_refl _, Nat.le_refl _⟩ d_X0_relayOf_62 (w_X0_mostsOf (xL x) b  h) (aA (fun r62 s62 hr62 h => ?_))
  refine J_aload o 4 d_X0_relayOf_65 rfl ?_
  refine J_callV (k := 19) (c := 0) o [.ref (wB (wC b) + r56), .ref (wB (wC b) + r62), .ref (wB (wC b) + l4)] rfl (by decide) (Nat.le_of_ble_eq_true rfl) (Nat.le_of_ble_eq_true rfl) mth_X0_giveFuel iv_X0_giveFuel ml_RX0_176 ⟨Nat.le_of_ble_eq_true rfl, Nat.le_of_ble_eq_true rfl⟩ rfl rfl (Nat.le_of_ble_eq_true rfl) ⟨Nat.le_refl _, Nat.le_refl _⟩ d_X0_relayOf_67 (w_X0_giveFuel (xL x) b hr56 hr62 hl4 h) (aV (fun s67 h => ?_))
  refine J_aload o 4 d_X0_relayOf_70 rfl ?_
  refine J_aload_n o 0 d_X0_relayOf_72 rfl ?_
  refine J_getR (t := 20) o fl_RX0_9 rfl (Nat.le_of_ble_eq_true rfl) (Nat.le_of_ble_eq_true rfl) rfl rfl d_X0_relayOf_73 ?_
  refine J_iload_n o 3 d_X0_relayOf_76 rfl ?_
  have b77 := h.1
  replace h := h.2
  refine J_iald o A_20 (vpc (rfl : ln 20 = 61) b77) d_X0_relayOf_77 ?_
  refine J_callSN o [.ref (wB (wC b) + l4), .int (s67 20 l3.toNatClampNeg)] mth_X4_read st_X4_read mn_RX0_98 ⟨Nat.le_of_ble_eq_true rfl, Nat.le_of_ble_eq_true rfl⟩ rfl rfl (Nat.le_of_ble_eq_true rfl) ⟨Nat.le_refl _, Nat.le_refl _⟩ d_X0_relayOf_78 (w_X4_read (xL x) b hl4 h) (aI (fun r78 s78 h => ?_))
  refine J_iconst (v := (-1)) o d_X0_relayOf_81 iconst_m1 ?_
  refine J_icmp_eq o 87 d_X0_relayOf_82 rfl (fun c82 => ?_) (fun c82 => ?_)
  · replace h := h.1 c82
    refine J_iinc (lv' := [(3, .int (l3 + 1)), (0, .ref (wB (wC b) + 19)), (1, .int v1), (2, .int v2), (4, .ref (wB (wC b) + l4))]) o 3 d_X0_relayOf_87 (by decide) rfl iconst_1 rfl ?_
    refine J_goto o 12 d_X0_relayOf_90 rfl ?_
    refine J_sub [1, 2, 3, 0] rfl ?_
    exact hKO12 (l3 + 1) s78  h
  · replace h := h.2 c82
    refine J_iload_n o 3 d_X0_relayOf_85 rfl ?_
    exact J_iret o d_X0_relayOf_86 ⟨_, rfl, h⟩
set_option maxHeartbeats 4000000 in
set_option maxRecDepth 20000 in
theorem c_X0_relayOf_12 {x : Cx} {b : Wy} (o : Ok x (wC b) cX0_relayOf 5 RX0 (some .int) rm_X0_relayOf) {v1 : Int32} {v2 : Int32} {K : Int32 → Sg → Prop}   : ∀ (n : Nat) (l3 : Int32) (σ : Sg), m_X0_relayOf_l12 v1 v2 K  n l3 σ → J x (wC b) (FinC x (wC b) (PI K) (0, 0)) 12 [(0, .ref (wB (wC b) + 19)), (1, .int v1), (2, .int v2), (3, .int l3)] [] (0, 0) σ := by
  intro n
  induction n with
  | zero =>
    intro l3 σ  h
    exact False.elim h
  | succ n ih =>
    intro l3 σ  h
    unfold m_X0_relayOf_l12 at h
    refine J_iload_n o 3 d_X0_relayOf_12 rfl ?_
    refine J_bipush (v := 60) o d_X0_relayOf_13 bipush_60 ?_
    refine J_icmp_gt o 93 d_X0_relayOf_15 rfl (fun c15 => ?_) (fun c15 => ?_)
    · replace h := h.1 c15
      refine J_iconst (v := (-1)) o d_X0_relayOf_93 iconst_m1 ?_
      exact J_iret o d_X0_relayOf_94 ⟨_, rfl, h⟩
    · replace h := h.2 c15
      refine J_aload_n o 0 d_X0_relayOf_18 rfl ?_
      refine J_getR (t := 87) o fl_RX0_35 rfl (Nat.le_of_ble_eq_true rfl) (Nat.le_of_ble_eq_true rfl) rfl rfl d_X0_relayOf_19 ?_
      refine J_iload_n o 3 d_X0_relayOf_22 rfl ?_
      refine J_iconst (v := 2) o d_X0_relayOf_23 iconst_2 ?_
      refine J_irem o d_X0_relayOf_24 (by decide) ?_
      have b25 := h.1
      replace h := h.2
      refine J_aald (t := (88 + (l3 - l3 / 2 * 2).toNatClampNeg)) o 2 (by decide) rfl (Nat.le_of_ble_eq_true rfl) (Nat.le_of_ble_eq_true rfl) (vpc rfl b25) rfl d_X0_relayOf_25 ?_
      refine J_astore (lv' := [(4, .ref (wB (wC b) + (88 + (l3 - l3 / 2 * 2).toNatClampNeg))), (0, .ref (wB (wC b) + 19)), (1, .int v1), (2, .int v2), (3, .int l3)]) o d_X0_relayOf_26 (by decide) rfl ?_
      refine J_iload_n o 4 d_X0_relayOf_28 rfl ?_
      refine J_if_le o 52 d_X0_relayOf_29 rfl (fun c29 => ?_) (fun c29 => ?_)
      · replace h := h.1 c29
        refine J_sub [1, 2, 3, 4, 0] rfl ?_
        exact c_X0_relayOf_52 o  ih l3 (88 + (l3 - l3 / 2 * 2).toNatClampNeg) σ (U_A b25) h
      · replace h := h.2 c29
        refine J_aload_n o 1 d_X0_relayOf_32 rfl ?_
        refine J_aload_n o 1 d_X0_relayOf_33 rfl ?_
        refine J_getR (t := 87) o fl_RX0_35 rfl (Nat.le_of_ble_eq_true rfl) (Nat.le_of_ble_eq_true rfl) rfl rfl d_X0_relayOf_34 ?_
        refine J_iload_n o 4 d_X0_relayOf_37 rfl ?_
        refine J_iconst (v := 1) o d_X0_relayOf_38 iconst_1 ?_
        refine J_isub o d_X0_relayOf_39 ?_
        refine J_iconst (v := 2) o d_X0_relayOf_40 iconst_2 ?_
        refine J_irem o d_X0_relayOf_41 (by decide) ?_
        have b42 := h.1
        replace h := h.2
        refine J_aald (t := (88 + ((l3 - 1) - (l3 - 1) / 2 * 2).toNatClampNeg)) o 2 (by decide) rfl (Nat.le_of_ble_eq_true rfl) (Nat.le_of_ble_eq_true rfl) (vpc rfl b42) rfl d_X0_relayOf_42 ?_
        refine J_aload o 0 d_X0_relayOf_43 rfl ?_
        refine J_iload_n o 4 d_X0_relayOf_45 rfl ?_
        refine J_iconst (v := 1) o d_X0_relayOf_46 iconst_1 ?_
        refine J_isub o d_X0_relayOf_47 ?_
        refine J_iconst (v := 1) o d_X0_relayOf_48 iconst_1 ?_
        refine J_callV (k := 19) (c := 0) o [.ref (wB (wC b) + (88 + ((l3 - 1) - (l3 - 1) / 2 * 2).toNatClampNeg)), .ref (wB (wC b) + (88 + (l3 - l3 / 2 * 2).toNatClampNeg)), .int (l3 - 1), .int 1] rfl (by decide) (Nat.le_of_ble_eq_true rfl) (Nat.le_of_ble_eq_true rfl) mth_X0_sailHour iv_X0_sailHour ml_RX0_133 ⟨Nat.le_of_ble_eq_true rfl, Nat.le_of_ble_eq_true rfl⟩ rfl rfl (Nat.le_of_ble_eq_true rfl) ⟨Nat.le_refl _, Nat.le_refl _⟩ d_X0_relayOf_49 (w_X0_sailHour (xL x) b (U_A b42) (U_A b25) h) (aV (fun s49 h => ?_))
        refine J_sub [1, 2, 3, 4, 0] rfl ?_
        exact c_X0_relayOf_52 o  ih l3 (88 + (l3 - l3 / 2 * 2).toNatClampNeg) s49 (U_A b25) h
set_option maxHeartbeats 4000000 in
set_option maxRecDepth 20000 in
theorem w_X0_relayOf (l : Launch) (b : Wy) {v1 : Int32} {v2 : Int32} {σ : Sg} {K : Int32 → Sg → Prop}  (h : m_X0_relayOf v1 v2 σ K) : Ct l (wC b) yX0_relayOf cX0_relayOf 5 (some .int) rm_X0_relayOf [.ref (wB (wC b) + 19), .int v1, .int v2] σ (PI K) := by
  unfold m_X0_relayOf at h
  refine Ct.of (own := RX0) (by decide +kernel) rfl (Nat.le_of_ble_eq_true rfl) (fun x hx o => ?_)
  subst hx
  show J x (wC b) (FinC x (wC b) (PI K) (0, 0)) 0 [(0, .ref (wB (wC b) + 19)), (1, .int v1), (2, .int v2)] [] (0, 0) σ
  refine J_aload_n o 0 d_X0_relayOf_0 rfl ?_
  refine J_getR (t := 87) o fl_RX0_35 rfl (Nat.le_of_ble_eq_true rfl) (Nat.le_of_ble_eq_true rfl) rfl rfl d_X0_relayOf_1 ?_
  refine J_iconst (v := 0) o d_X0_relayOf_4 iconst_0 ?_
  have b5 := h.1
  replace h := h.2
  refine J_aald (t := (88 + (0 : Int32).toNatClampNeg)) o 2 (by decide) rfl (Nat.le_of_ble_eq_true rfl) (Nat.le_of_ble_eq_true rfl) (vpc rfl b5) rfl d_X0_relayOf_5 ?_
  refine J_iconst (v := (-1)) o d_X0_relayOf_6 iconst_m1 ?_
  refine J_callS o [.ref (wB (wC b) + (88 + (0 : Int32).toNatClampNeg)), .int (-1)] mth_J7_fill_53178 st_J7_fill_53178 ml_RX0_137 ⟨Nat.le_of_ble_eq_true rfl, Nat.le_of_ble_eq_true rfl⟩ rfl rfl (Nat.le_of_ble_eq_true rfl) ⟨Nat.le_refl _, Nat.le_refl _⟩ d_X0_relayOf_7 (w_J7_fill_53178 (xL x) b (U_A b5) h) (aV (fun s7 h => ?_))
  refine J_iconst (v := 0) o d_X0_relayOf_10 iconst_0 ?_
  refine J_istore_n (lv' := [(3, .int 0), (0, .ref (wB (wC b) + 19)), (1, .int v1), (2, .int v2)]) o d_X0_relayOf_11 (by decide) rfl ?_
  refine J_sub [1, 2, 3, 0] rfl ?_
  obtain ⟨n9, h⟩ := h
  exact c_X0_relayOf_12 o   n9 0 s7  h
theorem d_X0_homeOf_0 : decode cX0_homeOf 0 = .ok (.aload_n 0, 1) := by decide +kernel
theorem d_X0_homeOf_1 : decode cX0_homeOf 1 = .ok (.iload_n 1, 1) := by decide +kernel
theorem d_X0_homeOf_2 : decode cX0_homeOf 2 = .ok (.invokevirtual 150, 3) := by decide +kernel
theorem d_X0_homeOf_5 : decode cX0_homeOf 5 = .ok (.istore_n 3, 1) := by decide +kernel
theorem d_X0_homeOf_6 : decode cX0_homeOf 6 = .ok (.iload_n 3, 1) := by decide +kernel
theorem d_X0_homeOf_7 : decode cX0_homeOf 7 = .ok (.ifCond .ge 5, 3) := by decide +kernel
theorem d_X0_homeOf_10 : decode cX0_homeOf 10 = .ok (.iconst (-1), 1) := by decide +kernel
theorem d_X0_homeOf_11 : decode cX0_homeOf 11 = .ok (.ireturn, 1) := by decide +kernel
theorem d_X0_homeOf_12 : decode cX0_homeOf 12 = .ok (.aload_n 0, 1) := by decide +kernel
theorem d_X0_homeOf_13 : decode cX0_homeOf 13 = .ok (.getfield 35, 3) := by decide +kernel
theorem d_X0_homeOf_16 : decode cX0_homeOf 16 = .ok (.iload_n 3, 1) := by decide +kernel
theorem d_X0_homeOf_17 : decode cX0_homeOf 17 = .ok (.iconst 2, 1) := by decide +kernel
theorem d_X0_homeOf_18 : decode cX0_homeOf 18 = .ok (.irem, 1) := by decide +kernel
theorem d_X0_homeOf_19 : decode cX0_homeOf 19 = .ok (.aaload, 1) := by decide +kernel
theorem d_X0_homeOf_20 : decode cX0_homeOf 20 = .ok (.aload_n 0, 1) := by decide +kernel
theorem d_X0_homeOf_21 : decode cX0_homeOf 21 = .ok (.iload_n 3, 1) := by decide +kernel
theorem d_X0_homeOf_22 : decode cX0_homeOf 22 = .ok (.invokevirtual 106, 3) := by decide +kernel
theorem d_X0_homeOf_25 : decode cX0_homeOf 25 = .ok (.aload_n 0, 1) := by decide +kernel
theorem d_X0_homeOf_26 : decode cX0_homeOf 26 = .ok (.iload_n 1, 1) := by decide +kernel
theorem d_X0_homeOf_27 : decode cX0_homeOf 27 = .ok (.iload_n 3, 1) := by decide +kernel
theorem d_X0_homeOf_28 : decode cX0_homeOf 28 = .ok (.invokevirtual 183, 3) := by decide +kernel
theorem d_X0_homeOf_31 : decode cX0_homeOf 31 = .ok (.invokestatic 129, 3) := by decide +kernel
theorem d_X0_homeOf_34 : decode cX0_homeOf 34 = .ok (.iload_n 3, 1) := by decide +kernel
theorem d_X0_homeOf_35 : decode cX0_homeOf 35 = .ok (.istore 4, 2) := by decide +kernel
theorem d_X0_homeOf_37 : decode cX0_homeOf 37 = .ok (.iload 4, 2) := by decide +kernel
theorem d_X0_homeOf_39 : decode cX0_homeOf 39 = .ok (.bipush 60, 2) := by decide +kernel
theorem d_X0_homeOf_41 : decode cX0_homeOf 41 = .ok (.if_icmp .gt 82, 3) := by decide +kernel
theorem d_X0_homeOf_44 : decode cX0_homeOf 44 = .ok (.iload 4, 2) := by decide +kernel
theorem d_X0_homeOf_46 : decode cX0_homeOf 46 = .ok (.iload_n 3, 1) := by decide +kernel
theorem d_X0_homeOf_47 : decode cX0_homeOf 47 = .ok (.if_icmp .le 32, 3) := by decide +kernel
theorem d_X0_homeOf_50 : decode cX0_homeOf 50 = .ok (.aload_n 0, 1) := by decide +kernel
theorem d_X0_homeOf_51 : decode cX0_homeOf 51 = .ok (.aload_n 0, 1) := by decide +kernel
theorem d_X0_homeOf_52 : decode cX0_homeOf 52 = .ok (.getfield 35, 3) := by decide +kernel
theorem d_X0_homeOf_55 : decode cX0_homeOf 55 = .ok (.iload 4, 2) := by decide +kernel
theorem d_X0_homeOf_57 : decode cX0_homeOf 57 = .ok (.iconst 1, 1) := by decide +kernel
theorem d_X0_homeOf_58 : decode cX0_homeOf 58 = .ok (.isub, 1) := by decide +kernel
theorem d_X0_homeOf_59 : decode cX0_homeOf 59 = .ok (.iconst 2, 1) := by decide +kernel
theorem d_X0_homeOf_60 : decode cX0_homeOf 60 = .ok (.irem, 1) := by decide +kernel
theorem d_X0_homeOf_61 : decode cX0_homeOf 61 = .ok (.aaload, 1) := by decide +kernel
theorem d_X0_homeOf_62 : decode cX0_homeOf 62 = .ok (.aload_n 0, 1) := by decide +kernel
theorem d_X0_homeOf_63 : decode cX0_homeOf 63 = .ok (.getfield 35, 3) := by decide +kernel
theorem d_X0_homeOf_66 : decode cX0_homeOf 66 = .ok (.iload 4, 2) := by decide +kernel
theorem d_X0_homeOf_68 : decode cX0_homeOf 68 = .ok (.iconst 2, 1) := by decide +kernel
theorem d_X0_homeOf_69 : decode cX0_homeOf 69 = .ok (.irem, 1) := by decide +kernel
theorem d_X0_homeOf_70 : decode cX0_homeOf 70 = .ok (.aaload, 1) := by decide +kernel
theorem d_X0_homeOf_71 : decode cX0_homeOf 71 = .ok (.iload 4, 2) := by decide +kernel
theorem d_X0_homeOf_73 : decode cX0_homeOf 73 = .ok (.iconst 1, 1) := by decide +kernel
theorem d_X0_homeOf_74 : decode cX0_homeOf 74 = .ok (.isub, 1) := by decide +kernel
theorem d_X0_homeOf_75 : decode cX0_homeOf 75 = .ok (.iconst 2, 1) := by decide +kernel
theorem d_X0_homeOf_76 : decode cX0_homeOf 76 = .ok (.invokevirtual 133, 3) := by decide +kernel
theorem d_X0_homeOf_79 : decode cX0_homeOf 79 = .ok (.aload_n 0, 1) := by decide +kernel
theorem d_X0_homeOf_80 : decode cX0_homeOf 80 = .ok (.getfield 35, 3) := by decide +kernel
theorem d_X0_homeOf_83 : decode cX0_homeOf 83 = .ok (.iload 4, 2) := by decide +kernel
theorem d_X0_homeOf_85 : decode cX0_homeOf 85 = .ok (.iconst 2, 1) := by decide +kernel
theorem d_X0_homeOf_86 : decode cX0_homeOf 86 = .ok (.irem, 1) := by decide +kernel
theorem d_X0_homeOf_87 : decode cX0_homeOf 87 = .ok (.aaload, 1) := by decide +kernel
theorem d_X0_homeOf_88 : decode cX0_homeOf 88 = .ok (.aload_n 0, 1) := by decide +kernel
theorem d_X0_homeOf_89 : decode cX0_homeOf 89 = .ok (.iload 4, 2) := by decide +kernel
theorem d_X0_homeOf_91 : decode cX0_homeOf 91 = .ok (.invokevirtual 186, 3) := by decide +kernel
theorem d_X0_homeOf_94 : decode cX0_homeOf 94 = .ok (.invokestatic 98, 3) := by decide +kernel
theorem d_X0_homeOf_97 : decode cX0_homeOf 97 = .ok (.istore 5, 2) := by decide +kernel
theorem d_X0_homeOf_99 : decode cX0_homeOf 99 = .ok (.iload 5, 2) := by decide +kernel
theorem d_X0_homeOf_101 : decode cX0_homeOf 101 = .ok (.iconst (-1), 1) := by decide +kernel
theorem d_X0_homeOf_102 : decode cX0_homeOf 102 = .ok (.if_icmp .eq 15, 3) := by decide +kernel
theorem d_X0_homeOf_105 : decode cX0_homeOf 105 = .ok (.iload_n 2, 1) := by decide +kernel
theorem d_X0_homeOf_106 : decode cX0_homeOf 106 = .ok (.ifCond .ne 8, 3) := by decide +kernel
theorem d_X0_homeOf_109 : decode cX0_homeOf 109 = .ok (.iload 4, 2) := by decide +kernel
theorem d_X0_homeOf_111 : decode cX0_homeOf 111 = .ok (.goto 5, 3) := by decide +kernel
theorem d_X0_homeOf_114 : decode cX0_homeOf 114 = .ok (.iload 5, 2) := by decide +kernel
theorem d_X0_homeOf_116 : decode cX0_homeOf 116 = .ok (.ireturn, 1) := by decide +kernel
theorem d_X0_homeOf_117 : decode cX0_homeOf 117 = .ok (.iinc 4 1, 3) := by decide +kernel
theorem d_X0_homeOf_120 : decode cX0_homeOf 120 = .ok (.goto (-83), 3) := by decide +kernel
theorem d_X0_homeOf_123 : decode cX0_homeOf 123 = .ok (.iconst (-1), 1) := by decide +kernel
theorem d_X0_homeOf_124 : decode cX0_homeOf 124 = .ok (.ireturn, 1) := by decide +kernel
abbrev rm_X0_homeOf : Room := { frames := 4, cells := 0, slots := 0, locals := 101 }
set_option maxHeartbeats 4000000 in
set_option maxRecDepth 20000 in
theorem c_X0_homeOf_79 {x : Cx} {b : Wy} (o : Ok x (wC b) cX0_homeOf 6 RX0 (some .int) rm_X0_homeOf) {v1 : Int32} {v2 : Int32} {K : Int32 → Sg → Prop}  {KO37 : Int32 → Int32 → Sg → Prop}  (hKO37 : ∀ (l3 : Int32) (l4 : Int32) (σ : Sg), KO37 l3 l4 σ → J x (wC b) (FinC x (wC b) (PI K) (0, 0)) 37 [(0, .ref (wB (wC b) + 19)), (2, .int v2), (3, .int l3), (4, .int l4)] [] (0, 0) σ) : ∀ (l3 : Int32) (l4 : Int32) (σ : Sg), m_X0_homeOf_j79 v1 v2 K KO37 l3 l4 σ → J x (wC b) (FinC x (wC b) (PI K) (0, 0)) 79 [(0, .ref (wB (wC b) + 19)), (2, .int v2), (3, .int l3), (4, .int l4)] [] (0, 0) σ := by
  intro l3 l4 σ  h
  unfold m_X0_homeOf_j79 at h
  refine J_aload_n o 0 d_X0_homeOf_79 rfl ?_
  refine J_getR (t := 87) o fl_RX0_35 rfl (Nat.le_of_ble_eq_true rfl) (Nat.le_of_ble_eq_true rfl) rfl rfl d_X0_homeOf_80 ?_
  refine J_iload o 3 d_X0_homeOf_83 rfl ?_
  refine J_iconst (v := 2) o d_X0_homeOf_85 iconst_2 ?_
  refine J_irem o d_X0_homeOf_86 (by decide) ?_
  have b87 := h.1
  replace h := h.2
  refine J_aald (t := (88 + (l4 - l4 / 2 * 2).toNatClampNeg)) o 2 (by decide) rfl (Nat.le_of_ble_eq_true rfl) (Nat.le_of_ble_eq_true rfl) (vpc rfl b87) rfl d_X0_homeOf_87 ?_
  refine J_aload_n o 0 d_X0_homeOf_88 rfl ?_
  refine J_iload o 3 d_X0_homeOf_89 rfl ?_
  refine J_callV (k := 19) (c := 0) o [.int l4] rfl (by decide) (Nat.le_of_ble_eq_true rfl) (Nat.le_of_ble_eq_true rfl) mth_X0_portIn iv_X0_portIn ml_RX0_186 ⟨Nat.le_of_ble_eq_true rfl, Nat.le_of_ble_eq_true rfl⟩ rfl rfl (Nat.le_of_ble_eq_true rfl) ⟨Nat.le_refl _, Nat.le_refl _⟩ d_X0_homeOf_91 (w_X0_portIn (xL x) b  h) (aI (fun r91 s91 h => ?_))
  refine J_callSN o [.ref (wB (wC b) + (88 + (l4 - l4 / 2 * 2).toNatClampNeg)), .int r91] mth_X4_read st_X4_read mn_RX0_98 ⟨Nat.le_of_ble_eq_true rfl, Nat.le_of_ble_eq_true rfl⟩ rfl rfl (Nat.le_of_ble_eq_true rfl) ⟨Nat.le_refl _, Nat.le_refl _⟩ d_X0_homeOf_94 (w_X4_read (xL x) b (U_A b87) h) (aI (fun r94 s94 h => ?_))
  refine J_istore (lv' := [(5, .int r94), (0, .ref (wB (wC b) + 19)), (2, .int v2), (3, .int l3), (4, .int l4)]) o d_X0_homeOf_97 (by decide) rfl ?_
  refine J_iload o 0 d_X0_homeOf_99 rfl ?_
  refine J_iconst (v := (-1)) o d_X0_homeOf_101 iconst_m1 ?_
  refine J_icmp_eq o 117 d_X0_homeOf_102 rfl (fun c102 => ?_) (fun c102 => ?_)
  · replace h := h.1 c102
    refine J_iinc (lv' := [(4, .int (l4 + 1)), (5, .int r94), (0, .ref (wB (wC b) + 19)), (2, .int v2), (3, .int l3)]) o 4 d_X0_homeOf_117 (by decide) rfl iconst_1 rfl ?_
    refine J_goto o 37 d_X0_homeOf_120 rfl ?_
    refine J_sub [2, 3, 4, 0] rfl ?_
    exact hKO37 l3 (l4 + 1) s94  h
  · replace h := h.2 c102
    refine J_iload_n o 2 d_X0_homeOf_105 rfl ?_
    refine J_if_ne o 114 d_X0_homeOf_106 rfl (fun c106 => ?_) (fun c106 => ?_)
    · replace h := h.1 c106
      refine J_iload o 0 d_X0_homeOf_114 rfl ?_
      exact J_iret o d_X0_homeOf_116 ⟨_, rfl, h⟩
    · replace h := h.2 c106
      refine J_iload o 4 d_X0_homeOf_109 rfl ?_
      refine J_goto o 116 d_X0_homeOf_111 rfl ?_
      exact J_iret o d_X0_homeOf_116 ⟨_, rfl, h⟩
set_option maxHeartbeats 4000000 in
set_option maxRecDepth 20000 in
theorem c_X0_homeOf_37 {x : Cx} {b : Wy} (o : Ok x (wC b) cX0_homeOf 6 RX0 (some .int) rm_X0_homeOf) {v1 : Int32} {v2 : Int32} {K : Int32 → Sg → Prop}   : ∀ (n : Nat) (l3 : Int32) (l4 : Int32) (σ : Sg), m_X0_homeOf_l37 v1 v2 K  n l3 l4 σ → J x (wC b) (FinC x (wC b) (PI K) (0, 0)) 37 [(0, .ref (wB (wC b) + 19)), (2, .int v2), (3, .int l3), (4, .int l4)] [] (0, 0) σ := by
  intro n
  induction n with
  | zero =>
    intro l3 l4 σ  h
    exact False.elim h
  | succ n ih =>
    intro l3 l4 σ  h
    unfold m_X0_homeOf_l37 at h
    refine J_iload o 3 d_X0_homeOf_37 rfl ?_
    refine J_bipush (v := 60) o d_X0_homeOf_39 bipush_60 ?_
    refine J_icmp_gt o 123 d_X0_homeOf_41 rfl (fun c41 => ?_) (fun c41 => ?_)
    · replace h := h.1 c41
      refine J_iconst (v := (-1)) o d_X0_homeOf_123 iconst_m1 ?_
      exact J_iret o d_X0_homeOf_124 ⟨_, rfl, h⟩
    · replace h := h.2 c41
      refine J_iload o 3 d_X0_homeOf_44 rfl ?_
      refine J_iload_n o 2 d_X0_homeOf_46 rfl ?_
      refine J_icmp_le o 79 d_X0_homeOf_47 rfl (fun c47 => ?_) (fun c47 => ?_)
      · replace h := h.1 c47
        exact c_X0_homeOf_79 o  ih l3 l4 σ  h
      · replace h := h.2 c47
        refine J_aload_n o 0 d_X0_homeOf_50 rfl ?_
        refine J_aload_n o 0 d_X0_homeOf_51 rfl ?_
        refine J_getR (t := 87) o fl_RX0_35 rfl (Nat.le_of_ble_eq_true rfl) (Nat.le_of_ble_eq_true rfl) rfl rfl d_X0_homeOf_52 ?_
        refine J_iload o 3 d_X0_homeOf_55 rfl ?_
        refine J_iconst (v := 1) o d_X0_homeOf_57 iconst_1 ?_
        refine J_isub o d_X0_homeOf_58 ?_
        refine J_iconst (v := 2) o d_X0_homeOf_59 iconst_2 ?_
        refine J_irem o d_X0_homeOf_60 (by decide) ?_
        have b61 := h.1
        replace h := h.2
        refine J_aald (t := (88 + ((l4 - 1) - (l4 - 1) / 2 * 2).toNatClampNeg)) o 2 (by decide) rfl (Nat.le_of_ble_eq_true rfl) (Nat.le_of_ble_eq_true rfl) (vpc rfl b61) rfl d_X0_homeOf_61 ?_
        refine J_aload_n o 0 d_X0_homeOf_62 rfl ?_
        refine J_getR (t := 87) o fl_RX0_35 rfl (Nat.le_of_ble_eq_true rfl) (Nat.le_of_ble_eq_true rfl) rfl rfl d_X0_homeOf_63 ?_
        refine J_iload o 3 d_X0_homeOf_66 rfl ?_
        refine J_iconst (v := 2) o d_X0_homeOf_68 iconst_2 ?_
        refine J_irem o d_X0_homeOf_69 (by decide) ?_
        have b70 := h.1
        replace h := h.2
        refine J_aald (t := (88 + (l4 - l4 / 2 * 2).toNatClampNeg)) o 2 (by decide) rfl (Nat.le_of_ble_eq_true rfl) (Nat.le_of_ble_eq_true rfl) (vpc rfl b70) rfl d_X0_homeOf_70 ?_
        refine J_iload o 3 d_X0_homeOf_71 rfl ?_
        refine J_iconst (v := 1) o d_X0_homeOf_73 iconst_1 ?_
        refine J_isub o d_X0_homeOf_74 ?_
        refine J_iconst (v := 2) o d_X0_homeOf_75 iconst_2 ?_
        refine J_callV (k := 19) (c := 0) o [.ref (wB (wC b) + (88 + ((l4 - 1) - (l4 - 1) / 2 * 2).toNatClampNeg)), .ref (wB (wC b) + (88 + (l4 - l4 / 2 * 2).toNatClampNeg)), .int (l4 - 1), .int 2] rfl (by decide) (Nat.le_of_ble_eq_true rfl) (Nat.le_of_ble_eq_true rfl) mth_X0_sailHour iv_X0_sailHour ml_RX0_133 ⟨Nat.le_of_ble_eq_true rfl, Nat.le_of_ble_eq_true rfl⟩ rfl rfl (Nat.le_of_ble_eq_true rfl) ⟨Nat.le_refl _, Nat.le_refl _⟩ d_X0_homeOf_76 (w_X0_sailHour (xL x) b (U_A b61) (U_A b70) h) (aV (fun s76 h => ?_))
        exact c_X0_homeOf_79 o  ih l3 l4 s76  h
set_option maxHeartbeats 4000000 in
set_option maxRecDepth 20000 in
theorem w_X0_homeOf (l : Launch) (b : Wy) {v1 : Int32} {v2 : Int32} {σ : Sg} {K : Int32 → Sg → Prop}  (h : m_X0_homeOf v1 v2 σ K) : Ct l (wC b) yX0_homeOf cX0_homeOf 6 (some .int) rm_X0_homeOf [.ref (wB (wC b) + 19), .int v1, .int v2] σ (PI K) := by
  unfold m_X0_homeOf at h
  refine Ct.of (own := RX0) (by decide +kernel) rfl (Nat.le_of_ble_eq_true rfl) (fun x hx o => ?_)
  subst hx
  show J x (wC b) (FinC x (wC b) (PI K) (0, 0)) 0 [(0, .ref (wB (wC b) + 19)), (1, .int v1), (2, .int v2)] [] (0, 0) σ
  refine J_aload_n o 0 d_X0_homeOf_0 rfl ?_
  refine J_iload_n o 1 d_X0_homeOf_1 rfl ?_
  refine J_callV (k := 19) (c := 0) o [.int v1] rfl (by decide) (Nat.le_of_ble_eq_true rfl) (Nat.le_of_ble_eq_true rfl) mth_X0_earliestOf iv_X0_earliestOf ml_RX0_150 ⟨Nat.le_of_ble_eq_true rfl, Nat.le_of_ble_eq_true rfl⟩ rfl rfl (Nat.le_of_ble_eq_true rfl) ⟨Nat.le_refl _, Nat.le_refl _⟩ d_X0_homeOf_2 (w_X0_earliestOf (xL x) b  h) (aI (fun r2 s2 h => ?_))
  refine J_istore_n (lv' := [(3, .int r2), (0, .ref (wB (wC b) + 19)), (1, .int v1), (2, .int v2)]) o d_X0_homeOf_5 (by decide) rfl ?_
  refine J_iload_n o 0 d_X0_homeOf_6 rfl ?_
  refine J_if_ge o 12 d_X0_homeOf_7 rfl (fun c7 => ?_) (fun c7 => ?_)
  · replace h := h.1 c7
    refine J_aload_n o 1 d_X0_homeOf_12 rfl ?_
    refine J_getR (t := 87) o fl_RX0_35 rfl (Nat.le_of_ble_eq_true rfl) (Nat.le_of_ble_eq_true rfl) rfl rfl d_X0_homeOf_13 ?_
    refine J_iload_n o 0 d_X0_homeOf_16 rfl ?_
    refine J_iconst (v := 2) o d_X0_homeOf_17 iconst_2 ?_
    refine J_irem o d_X0_homeOf_18 (by decide) ?_
    have b19 := h.1
    replace h := h.2
    refine J_aald (t := (88 + (r2 - r2 / 2 * 2).toNatClampNeg)) o 2 (by decide) rfl (Nat.le_of_ble_eq_true rfl) (Nat.le_of_ble_eq_true rfl) (vpc rfl b19) rfl d_X0_homeOf_19 ?_
    refine J_aload_n o 1 d_X0_homeOf_20 rfl ?_
    refine J_iload_n o 0 d_X0_homeOf_21 rfl ?_
    refine J_callV (k := 19) (c := 0) o [.int r2] rfl (by decide) (Nat.le_of_ble_eq_true rfl) (Nat.le_of_ble_eq_true rfl) mth_X0_drifterIn iv_X0_drifterIn ml_RX0_106 ⟨Nat.le_of_ble_eq_true rfl, Nat.le_of_ble_eq_true rfl⟩ rfl rfl (Nat.le_of_ble_eq_true rfl) ⟨Nat.le_refl _, Nat.le_refl _⟩ d_X0_homeOf_22 (w_X0_drifterIn (xL x) b  h) (aI (fun r22 s22 h => ?_))
    refine J_aload_n o 1 d_X0_homeOf_25 rfl ?_
    refine J_iload_n o 2 d_X0_homeOf_26 rfl ?_
    refine J_iload_n o 0 d_X0_homeOf_27 rfl ?_
    refine J_callV (k := 19) (c := 0) o [.int v1, .int r2] rfl (by decide) (Nat.le_of_ble_eq_true rfl) (Nat.le_of_ble_eq_true rfl) mth_X0_mostMeeting iv_X0_mostMeeting ml_RX0_183 ⟨Nat.le_of_ble_eq_true rfl, Nat.le_of_ble_eq_true rfl⟩ rfl rfl (Nat.le_of_ble_eq_true rfl) ⟨Nat.le_refl _, Nat.le_refl _⟩ d_X0_homeOf_28 (w_X0_mostMeeting (xL x) b  h) (aI (fun r28 s28 h => ?_))
    refine J_callS o [.ref (wB (wC b) + (88 + (r2 - r2 / 2 * 2).toNatClampNeg)), .int r22, .int r28] mth_X0_begin st_X0_begin ml_RX0_129 ⟨Nat.le_of_ble_eq_true rfl, Nat.le_of_ble_eq_true rfl⟩ rfl rfl (Nat.le_of_ble_eq_true rfl) ⟨Nat.le_refl _, Nat.le_refl _⟩ d_X0_homeOf_31 (w_X0_begin (xL x) b (U_A b19) h) (aV (fun s31 h => ?_))
    refine J_iload_n o 0 d_X0_homeOf_34 rfl ?_
    refine J_istore (lv' := [(4, .int r2), (3, .int r2), (0, .ref (wB (wC b) + 19)), (1, .int v1), (2, .int v2)]) o d_X0_homeOf_35 (by decide) rfl ?_
    refine J_sub [2, 4, 1, 0] rfl ?_
    obtain ⟨n9, h⟩ := h
    exact c_X0_homeOf_37 o   n9 r2 r2 s31  h
  · replace h := h.2 c7
    refine J_iconst (v := (-1)) o d_X0_homeOf_10 iconst_m1 ?_
    exact J_iret o d_X0_homeOf_11 ⟨_, rfl, h⟩
