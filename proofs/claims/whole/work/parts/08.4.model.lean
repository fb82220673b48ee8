/-! the walks, printed by program -/
theorem d_X5_copies_0 : decode cX5_copies 0 = .ok (.iconst 0, 1) := by decide +kernel
theorem d_X5_copies_1 : decode cX5_copies 1 = .ok (.istore_n 2, 1) := by decide +kernel
theorem d_X5_copies_2 : decode cX5_copies 2 = .ok (.iload_n 2, 1) := by decide +kernel
theorem d_X5_copies_3 : decode cX5_copies 3 = .ok (.sipush 1098, 3) := by decide +kernel
theorem d_X5_copies_6 : decode cX5_copies 6 = .ok (.if_icmp .ge 15, 3) := by decide +kernel
theorem d_X5_copies_9 : decode cX5_copies 9 = .ok (.aload_n 1, 1) := by decide +kernel
theorem d_X5_copies_10 : decode cX5_copies 10 = .ok (.iload_n 2, 1) := by decide +kernel
theorem d_X5_copies_11 : decode cX5_copies 11 = .ok (.aload_n 0, 1) := by decide +kernel
theorem d_X5_copies_12 : decode cX5_copies 12 = .ok (.iload_n 2, 1) := by decide +kernel
theorem d_X5_copies_13 : decode cX5_copies 13 = .ok (.iaload, 1) := by decide +kernel
theorem d_X5_copies_14 : decode cX5_copies 14 = .ok (.iastore, 1) := by decide +kernel
theorem d_X5_copies_15 : decode cX5_copies 15 = .ok (.iinc 2 1, 3) := by decide +kernel
theorem d_X5_copies_18 : decode cX5_copies 18 = .ok (.goto (-16), 3) := by decide +kernel
theorem d_X5_copies_21 : decode cX5_copies 21 = .ok (.return_, 1) := by decide +kernel
abbrev rm_X5_copies : Room := { frames := 0, cells := 0, slots := 0, locals := 0 }
set_option maxHeartbeats 4000000 in
set_option maxRecDepth 20000 in
theorem c_X5_copies_2 {x : Cx} {b : Wy} (o : Ok x (wM b) cX5_copies 3 RX5 none rm_X5_copies) {v0 : Nat} {v1 : Nat} {K : Sg → Prop}  (hv0 : IsA (wM b) v0) (hv1 : IsA (wM b) v1) : ∀ (n : Nat) (l2 : Int32) (σ : Sg), m_X5_copies_l2 v0 v1 K  n l2 σ → J x (wM b) (FinC x (wM b) (PV K) (0, 0)) 2 [(0, .ref (wB (wM b) + v0)), (1, .ref (wB (wM b) + v1)), (2, .int l2)] [] (0, 0) σ := by
  intro n
  induction n with
  | zero =>
    intro l2 σ  h
    exact False.elim h
  | succ n ih =>
    intro l2 σ  h
    unfold m_X5_copies_l2 at h
    refine J_iload_n o 2 d_X5_copies_2 rfl ?_
    refine J_sipush (v := 1098) o d_X5_copies_3 sipush_1098 ?_
    refine J_icmp_ge o 21 d_X5_copies_6 rfl (fun c6 => ?_) (fun c6 => ?_)
    · replace h := h.1 c6
      exact J_vret o d_X5_copies_21 ⟨rfl, h⟩
    · replace h := h.2 c6
      refine J_aload_n o 1 d_X5_copies_9 rfl ?_
      refine J_iload_n o 2 d_X5_copies_10 rfl ?_
      refine J_aload_n o 0 d_X5_copies_11 rfl ?_
      refine J_iload_n o 2 d_X5_copies_12 rfl ?_
      have b13 := h.1
      replace h := h.2
      refine J_iald o hv0 (vpc rfl b13) d_X5_copies_13 ?_
      have b14 := h.1
      replace h := h.2
      refine J_iast o hv1 (vpc rfl b14) d_X5_copies_14 ?_
      refine J_nS (fun s14 es14 => ?_)
      replace h := h s14 es14
      refine J_iinc (lv' := [(2, .int (l2 + 1)), (0, .ref (wB (wM b) + v0)), (1, .ref (wB (wM b) + v1))]) o 2 d_X5_copies_15 (by decide) rfl iconst_1 rfl ?_
      refine J_goto o 2 d_X5_copies_18 rfl ?_
      refine J_sub [1, 2, 0] rfl ?_
      exact ih (l2 + 1) s14  h
set_option maxHeartbeats 4000000 in
set_option maxRecDepth 20000 in
theorem w_X5_copies (l : Launch) (b : Wy) {v0 : Nat} {v1 : Nat} {σ : Sg} {K : Sg → Prop} (hv0 : IsA (wM b) v0) (hv1 : IsA (wM b) v1) (h : m_X5_copies v0 v1 σ K) : Ct l (wM b) yX5_copies cX5_copies 3 none rm_X5_copies [.ref (wB (wM b) + v0), .ref (wB (wM b) + v1)] σ (PV K) := by
  unfold m_X5_copies at h
  refine Ct.of (own := RX5) (by decide +kernel) rfl (Nat.le_of_ble_eq_true rfl) (fun x hx o => ?_)
  subst hx
  show J x (wM b) (FinC x (wM b) (PV K) (0, 0)) 0 [(0, .ref (wB (wM b) + v0)), (1, .ref (wB (wM b) + v1))] [] (0, 0) σ
  refine J_iconst (v := 0) o d_X5_copies_0 iconst_0 ?_
  refine J_istore_n (lv' := [(2, .int 0), (0, .ref (wB (wM b) + v0)), (1, .ref (wB (wM b) + v1))]) o d_X5_copies_1 (by decide) rfl ?_
  refine J_sub [1, 2, 0] rfl ?_
  obtain ⟨n9, h⟩ := h
  exact c_X5_copies_2 o hv0 hv1  n9 0 σ  h
theorem d_X5_remembers_0 : decode cX5_remembers 0 = .ok (.aload_n 0, 1) := by decide +kernel
theorem d_X5_remembers_1 : decode cX5_remembers 1 = .ok (.getfield 232, 3) := by decide +kernel
theorem d_X5_remembers_4 : decode cX5_remembers 4 = .ok (.bipush 8, 2) := by decide +kernel
theorem d_X5_remembers_6 : decode cX5_remembers 6 = .ok (.if_icmp .ne 44, 3) := by decide +kernel
theorem d_X5_remembers_9 : decode cX5_remembers 9 = .ok (.iconst 1, 1) := by decide +kernel
theorem d_X5_remembers_10 : decode cX5_remembers 10 = .ok (.istore_n 1, 1) := by decide +kernel
theorem d_X5_remembers_11 : decode cX5_remembers 11 = .ok (.iload_n 1, 1) := by decide +kernel
theorem d_X5_remembers_12 : decode cX5_remembers 12 = .ok (.bipush 8, 2) := by decide +kernel
theorem d_X5_remembers_14 : decode cX5_remembers 14 = .ok (.if_icmp .ge 26, 3) := by decide +kernel
theorem d_X5_remembers_17 : decode cX5_remembers 17 = .ok (.aload_n 0, 1) := by decide +kernel
theorem d_X5_remembers_18 : decode cX5_remembers 18 = .ok (.getfield 28, 3) := by decide +kernel
theorem d_X5_remembers_21 : decode cX5_remembers 21 = .ok (.iload_n 1, 1) := by decide +kernel
theorem d_X5_remembers_22 : decode cX5_remembers 22 = .ok (.aaload, 1) := by decide +kernel
theorem d_X5_remembers_23 : decode cX5_remembers 23 = .ok (.aload_n 0, 1) := by decide +kernel
theorem d_X5_remembers_24 : decode cX5_remembers 24 = .ok (.getfield 28, 3) := by decide +kernel
theorem d_X5_remembers_27 : decode cX5_remembers 27 = .ok (.iload_n 1, 1) := by decide +kernel
theorem d_X5_remembers_28 : decode cX5_remembers 28 = .ok (.iconst 1, 1) := by decide +kernel
theorem d_X5_remembers_29 : decode cX5_remembers 29 = .ok (.isub, 1) := by decide +kernel
theorem d_X5_remembers_30 : decode cX5_remembers 30 = .ok (.aaload, 1) := by decide +kernel
theorem d_X5_remembers_31 : decode cX5_remembers 31 = .ok (.invokestatic 228, 3) := by decide +kernel
theorem d_X5_remembers_34 : decode cX5_remembers 34 = .ok (.iinc 1 1, 3) := by decide +kernel
theorem d_X5_remembers_37 : decode cX5_remembers 37 = .ok (.goto (-26), 3) := by decide +kernel
theorem d_X5_remembers_40 : decode cX5_remembers 40 = .ok (.aload_n 0, 1) := by decide +kernel
theorem d_X5_remembers_41 : decode cX5_remembers 41 = .ok (.dup, 1) := by decide +kernel
theorem d_X5_remembers_42 : decode cX5_remembers 42 = .ok (.getfield 232, 3) := by decide +kernel
theorem d_X5_remembers_45 : decode cX5_remembers 45 = .ok (.iconst 1, 1) := by decide +kernel
theorem d_X5_remembers_46 : decode cX5_remembers 46 = .ok (.isub, 1) := by decide +kernel
theorem d_X5_remembers_47 : decode cX5_remembers 47 = .ok (.putfield 232, 3) := by decide +kernel
theorem d_X5_remembers_50 : decode cX5_remembers 50 = .ok (.aload_n 0, 1) := by decide +kernel
theorem d_X5_remembers_51 : decode cX5_remembers 51 = .ok (.getfield 20, 3) := by decide +kernel
theorem d_X5_remembers_54 : decode cX5_remembers 54 = .ok (.aload_n 0, 1) := by decide +kernel
theorem d_X5_remembers_55 : decode cX5_remembers 55 = .ok (.getfield 28, 3) := by decide +kernel
theorem d_X5_remembers_58 : decode cX5_remembers 58 = .ok (.aload_n 0, 1) := by decide +kernel
theorem d_X5_remembers_59 : decode cX5_remembers 59 = .ok (.getfield 232, 3) := by decide +kernel
theorem d_X5_remembers_62 : decode cX5_remembers 62 = .ok (.aaload, 1) := by decide +kernel
theorem d_X5_remembers_63 : decode cX5_remembers 63 = .ok (.invokestatic 228, 3) := by decide +kernel
theorem d_X5_remembers_66 : decode cX5_remembers 66 = .ok (.aload_n 0, 1) := by decide +kernel
theorem d_X5_remembers_67 : decode cX5_remembers 67 = .ok (.dup, 1) := by decide +kernel
theorem d_X5_remembers_68 : decode cX5_remembers 68 = .ok (.getfield 232, 3) := by decide +kernel
theorem d_X5_remembers_71 : decode cX5_remembers 71 = .ok (.iconst 1, 1) := by decide +kernel
theorem d_X5_remembers_72 : decode cX5_remembers 72 = .ok (.iadd, 1) := by decide +kernel
theorem d_X5_remembers_73 : decode cX5_remembers 73 = .ok (.putfield 232, 3) := by decide +kernel
theorem d_X5_remembers_76 : decode cX5_remembers 76 = .ok (.return_, 1) := by decide +kernel
abbrev rm_X5_remembers : Room := { frames := 1, cells := 0, slots := 0, locals := 22 }
set_option maxHeartbeats 4000000 in
set_option maxRecDepth 20000 in
theorem c_X5_remembers_50 {x : Cx} {b : Wy} (o : Ok x (wM b) cX5_remembers 2 RX5 none rm_X5_remembers)  {K : Sg → Prop}   : ∀  (σ : Sg), m_X5_remembers_j50  K   σ → J x (wM b) (FinC x (wM b) (PV K) (0, 0)) 50 [(0, .ref (wB (wM b) + 347))] [] (0, 0) σ := by
  intro  σ  h
  unfold m_X5_remembers_j50 at h
  refine J_aload_n o 0 d_X5_remembers_50 rfl ?_
  refine J_getR (t := 350) o fl_RX5_20 rfl (Nat.le_of_ble_eq_true rfl) (Nat.le_of_ble_eq_true rfl) rfl rfl d_X5_remembers_51 ?_
  refine J_aload_n o 0 d_X5_remembers_54 rfl ?_
  refine J_getR (t := 352) o fl_RX5_28 rfl (Nat.le_of_ble_eq_true rfl) (Nat.le_of_ble_eq_true rfl) rfl rfl d_X5_remembers_55 ?_
  refine J_aload_n o 0 d_X5_remembers_58 rfl ?_
  refine J_getI o fl_RX5_232 rfl (Nat.le_of_ble_eq_true rfl) (Nat.le_of_ble_eq_true rfl) rfl d_X5_remembers_59 ?_
  have b62 := h.1
  replace h := h.2
  refine J_aald (t := (353 + (σ 347 12).toNatClampNeg)) o 2 (by decide) rfl (Nat.le_of_ble_eq_true rfl) (Nat.le_of_ble_eq_true rfl) (vpc rfl b62) rfl d_X5_remembers_62 ?_
  refine J_callS o [.ref (wB (wM b) + 350), .ref (wB (wM b) + (353 + (σ 347 12).toNatClampNeg))] mth_X5_copies st_X5_copies ml_RX5_228 ⟨Nat.le_of_ble_eq_true rfl, Nat.le_of_ble_eq_true rfl⟩ rfl rfl (Nat.le_of_ble_eq_true rfl) ⟨Nat.le_refl _, Nat.le_refl _⟩ d_X5_remembers_63 (w_X5_copies (xL x) b A_350 (P_A b62) h) (aV (fun s63 h => ?_))
  refine J_aload_n o 0 d_X5_remembers_66 rfl ?_
  refine J_dup o d_X5_remembers_67 rfl ?_
  refine J_getI o fl_RX5_232 rfl (Nat.le_of_ble_eq_true rfl) (Nat.le_of_ble_eq_true rfl) rfl d_X5_remembers_68 ?_
  refine J_iconst (v := 1) o d_X5_remembers_71 iconst_1 ?_
  refine J_iadd o d_X5_remembers_72 ?_
  refine J_put o fl_RX5_232 la_5 rfl (Nat.le_of_ble_eq_true rfl) (Nat.le_of_ble_eq_true rfl) rfl rfl rfl rfl d_X5_remembers_73 ?_
  refine J_nS (fun s73 es73 => ?_)
  replace h := h s73 es73
  exact J_vret o d_X5_remembers_76 ⟨rfl, h⟩
set_option maxHeartbeats 4000000 in
set_option maxRecDepth 20000 in
theorem c_X5_remembers_11 {x : Cx} {b : Wy} (o : Ok x (wM b) cX5_remembers 2 RX5 none rm_X5_remembers)  {K : Sg → Prop}   : ∀ (n : Nat) (l1 : Int32) (σ : Sg), m_X5_remembers_l11  K  n l1 σ → J x (wM b) (FinC x (wM b) (PV K) (0, 0)) 11 [(0, .ref (wB (wM b) + 347)), (1, .int l1)] [] (0, 0) σ := by
  intro n
  induction n with
  | zero =>
    intro l1 σ  h
    exact False.elim h
  | succ n ih =>
    intro l1 σ  h
    unfold m_X5_remembers_l11 at h
    refine J_iload_n o 1 d_X5_remembers_11 rfl ?_
    refine J_bipush (v := 8) o d_X5_remembers_12 bipush_8 ?_
    refine J_icmp_ge o 40 d_X5_remembers_14 rfl (fun c14 => ?_) (fun c14 => ?_)
    · replace h := h.1 c14
      refine J_aload_n o 0 d_X5_remembers_40 rfl ?_
      refine J_dup o d_X5_remembers_41 rfl ?_
      refine J_getI o fl_RX5_232 rfl (Nat.le_of_ble_eq_true rfl) (Nat.le_of_ble_eq_true rfl) rfl d_X5_remembers_42 ?_
      refine J_iconst (v := 1) o d_X5_remembers_45 iconst_1 ?_
      refine J_isub o d_X5_remembers_46 ?_
      refine J_put o fl_RX5_232 la_5 rfl (Nat.le_of_ble_eq_true rfl) (Nat.le_of_ble_eq_true rfl) rfl rfl rfl rfl d_X5_remembers_47 ?_
      refine J_nS (fun s47 es47 => ?_)
      replace h := h s47 es47
      refine J_sub [0] rfl ?_
      exact c_X5_remembers_50 o   s47  h
    · replace h := h.2 c14
      refine J_aload_n o 0 d_X5_remembers_17 rfl ?_
      refine J_getR (t := 352) o fl_RX5_28 rfl (Nat.le_of_ble_eq_true rfl) (Nat.le_of_ble_eq_true rfl) rfl rfl d_X5_remembers_18 ?_
      refine J_iload_n o 1 d_X5_remembers_21 rfl ?_
      have b22 := h.1
      replace h := h.2
      refine J_aald (t := (353 + l1.toNatClampNeg)) o 2 (by decide) rfl (Nat.le_of_ble_eq_true rfl) (Nat.le_of_ble_eq_true rfl) (vpc rfl b22) rfl d_X5_remembers_22 ?_
      refine J_aload_n o 0 d_X5_remembers_23 rfl ?_
      refine J_getR (t := 352) o fl_RX5_28 rfl (Nat.le_of_ble_eq_true rfl) (Nat.le_of_ble_eq_true rfl) rfl rfl d_X5_remembers_24 ?_
      refine J_iload_n o 1 d_X5_remembers_27 rfl ?_
      refine J_iconst (v := 1) o d_X5_remembers_28 iconst_1 ?_
      refine J_isub o d_X5_remembers_29 ?_
      have b30 := h.1
      replace h := h.2
      refine J_aald (t := (353 + (l1 - 1).toNatClampNeg)) o 2 (by decide) rfl (Nat.le_of_ble_eq_true rfl) (Nat.le_of_ble_eq_true rfl) (vpc rfl b30) rfl d_X5_remembers_30 ?_
      refine J_callS o [.ref (wB (wM b) + (353 + l1.toNatClampNeg)), .ref (wB (wM b) + (353 + (l1 - 1).toNatClampNeg))] mth_X5_copies st_X5_copies ml_RX5_228 ⟨Nat.le_of_ble_eq_true rfl, Nat.le_of_ble_eq_true rfl⟩ rfl rfl (Nat.le_of_ble_eq_true rfl) ⟨Nat.le_refl _, Nat.le_refl _⟩ d_X5_remembers_31 (w_X5_copies (xL x) b (P_A b22) (P_A b30) h) (aV (fun s31 h => ?_))
      refine J_iinc (lv' := [(1, .int (l1 + 1)), (0, .ref (wB (wM b) + 347))]) o 1 d_X5_remembers_34 (by decide) rfl iconst_1 rfl ?_
      refine J_goto o 11 d_X5_remembers_37 rfl ?_
      refine J_sub [1, 0] rfl ?_
      exact ih (l1 + 1) s31  h
set_option maxHeartbeats 4000000 in
set_option maxRecDepth 20000 in
theorem w_X5_remembers (l : Launch) (b : Wy)  {σ : Sg} {K : Sg → Prop}  (h : m_X5_remembers  σ K) : Ct l (wM b) yX5_remembers cX5_remembers 2 none rm_X5_remembers [.ref (wB (wM b) + 347)] σ (PV K) := by
  unfold m_X5_remembers at h
  refine Ct.of (own := RX5) (by decide +kernel) rfl (Nat.le_of_ble_eq_true rfl) (fun x hx o => ?_)
  subst hx
  show J x (wM b) (FinC x (wM b) (PV K) (0, 0)) 0 [(0, .ref (wB (wM b) + 347))] [] (0, 0) σ
  refine J_aload_n o 0 d_X5_remembers_0 rfl ?_
  refine J_getI o fl_RX5_232 rfl (Nat.le_of_ble_eq_true rfl) (Nat.le_of_ble_eq_true rfl) rfl d_X5_remembers_1 ?_
  refine J_bipush (v := 8) o d_X5_remembers_4 bipush_8 ?_
  refine J_icmp_ne o 50 d_X5_remembers_6 rfl (fun c6 => ?_) (fun c6 => ?_)
  · replace h := h.1 c6
    exact c_X5_remembers_50 o   σ  h
  · replace h := h.2 c6
    refine J_iconst (v := 1) o d_X5_remembers_9 iconst_1 ?_
    refine J_istore_n (lv' := [(1, .int 1), (0, .ref (wB (wM b) + 347))]) o d_X5_remembers_10 (by decide) rfl ?_
    refine J_sub [1, 0] rfl ?_
    obtain ⟨n9, h⟩ := h
    exact c_X5_remembers_11 o   n9 1 σ  h
theorem d_X5_text_0 : decode cX5_text 0 = .ok (.aload_n 0, 1) := by decide +kernel
theorem d_X5_text_1 : decode cX5_text 1 = .ok (.iconst 0, 1) := by decide +kernel
theorem d_X5_text_2 : decode cX5_text 2 = .ok (.putfield 50, 3) := by decide +kernel
theorem d_X5_text_5 : decode cX5_text 5 = .ok (.aload_n 0, 1) := by decide +kernel
theorem d_X5_text_6 : decode cX5_text 6 = .ok (.iload_n 1, 1) := by decide +kernel
theorem d_X5_text_7 : decode cX5_text 7 = .ok (.iconst 0, 1) := by decide +kernel
theorem d_X5_text_8 : decode cX5_text 8 = .ok (.aload_n 0, 1) := by decide +kernel
theorem d_X5_text_9 : decode cX5_text 9 = .ok (.getfield 53, 3) := by decide +kernel
theorem d_X5_text_12 : decode cX5_text 12 = .ok (.invokestatic 56, 3) := by decide +kernel
theorem d_X5_text_15 : decode cX5_text 15 = .ok (.ifCond .ne 7, 3) := by decide +kernel
theorem d_X5_text_18 : decode cX5_text 18 = .ok (.iconst 1, 1) := by decide +kernel
theorem d_X5_text_19 : decode cX5_text 19 = .ok (.goto 4, 3) := by decide +kernel
theorem d_X5_text_22 : decode cX5_text 22 = .ok (.iconst 0, 1) := by decide +kernel
theorem d_X5_text_23 : decode cX5_text 23 = .ok (.iconst 1, 1) := by decide +kernel
theorem d_X5_text_24 : decode cX5_text 24 = .ok (.iconst 1, 1) := by decide +kernel
theorem d_X5_text_25 : decode cX5_text 25 = .ok (.invokevirtual 216, 3) := by decide +kernel
theorem d_X5_text_28 : decode cX5_text 28 = .ok (.ifCond .eq 5, 3) := by decide +kernel
theorem d_X5_text_31 : decode cX5_text 31 = .ok (.iconst 0, 1) := by decide +kernel
theorem d_X5_text_32 : decode cX5_text 32 = .ok (.ireturn, 1) := by decide +kernel
theorem d_X5_text_33 : decode cX5_text 33 = .ok (.aload_n 0, 1) := by decide +kernel
theorem d_X5_text_34 : decode cX5_text 34 = .ok (.iconst 0, 1) := by decide +kernel
theorem d_X5_text_35 : decode cX5_text 35 = .ok (.putfield 53, 3) := by decide +kernel
theorem d_X5_text_38 : decode cX5_text 38 = .ok (.aload_n 0, 1) := by decide +kernel
theorem d_X5_text_39 : decode cX5_text 39 = .ok (.iload_n 1, 1) := by decide +kernel
theorem d_X5_text_40 : decode cX5_text 40 = .ok (.putfield 89, 3) := by decide +kernel
theorem d_X5_text_43 : decode cX5_text 43 = .ok (.aload_n 0, 1) := by decide +kernel
theorem d_X5_text_44 : decode cX5_text 44 = .ok (.iconst 0, 1) := by decide +kernel
theorem d_X5_text_45 : decode cX5_text 45 = .ok (.putfield 92, 3) := by decide +kernel
theorem d_X5_text_48 : decode cX5_text 48 = .ok (.aload_n 0, 1) := by decide +kernel
theorem d_X5_text_49 : decode cX5_text 49 = .ok (.iconst 0, 1) := by decide +kernel
theorem d_X5_text_50 : decode cX5_text 50 = .ok (.putfield 98, 3) := by decide +kernel
theorem d_X5_text_53 : decode cX5_text 53 = .ok (.aload_n 0, 1) := by decide +kernel
theorem d_X5_text_54 : decode cX5_text 54 = .ok (.iconst (-1), 1) := by decide +kernel
theorem d_X5_text_55 : decode cX5_text 55 = .ok (.putfield 101, 3) := by decide +kernel
theorem d_X5_text_58 : decode cX5_text 58 = .ok (.aload_n 0, 1) := by decide +kernel
theorem d_X5_text_59 : decode cX5_text 59 = .ok (.iconst 0, 1) := by decide +kernel
theorem d_X5_text_60 : decode cX5_text 60 = .ok (.putfield 171, 3) := by decide +kernel
theorem d_X5_text_63 : decode cX5_text 63 = .ok (.aload_n 0, 1) := by decide +kernel
theorem d_X5_text_64 : decode cX5_text 64 = .ok (.getfield 23, 3) := by decide +kernel
theorem d_X5_text_67 : decode cX5_text 67 = .ok (.invokestatic 46, 3) := by decide +kernel
theorem d_X5_text_70 : decode cX5_text 70 = .ok (.aload_n 0, 1) := by decide +kernel
theorem d_X5_text_71 : decode cX5_text 71 = .ok (.ldc 220, 2) := by decide +kernel
theorem d_X5_text_73 : decode cX5_text 73 = .ok (.invokevirtual 159, 3) := by decide +kernel
theorem d_X5_text_76 : decode cX5_text 76 = .ok (.ifCond .ne 12, 3) := by decide +kernel
theorem d_X5_text_79 : decode cX5_text 79 = .ok (.aload_n 0, 1) := by decide +kernel
theorem d_X5_text_80 : decode cX5_text 80 = .ok (.iconst 1, 1) := by decide +kernel
theorem d_X5_text_81 : decode cX5_text 81 = .ok (.aload_n 0, 1) := by decide +kernel
theorem d_X5_text_82 : decode cX5_text 82 = .ok (.getfield 92, 3) := by decide +kernel
theorem d_X5_text_85 : decode cX5_text 85 = .ok (.invokevirtual 132, 3) := by decide +kernel
theorem d_X5_text_88 : decode cX5_text 88 = .ok (.aload_n 0, 1) := by decide +kernel
theorem d_X5_text_89 : decode cX5_text 89 = .ok (.getfield 23, 3) := by decide +kernel
theorem d_X5_text_92 : decode cX5_text 92 = .ok (.iconst 0, 1) := by decide +kernel
theorem d_X5_text_93 : decode cX5_text 93 = .ok (.aload_n 0, 1) := by decide +kernel
theorem d_X5_text_94 : decode cX5_text 94 = .ok (.iconst 3, 1) := by decide +kernel
theorem d_X5_text_95 : decode cX5_text 95 = .ok (.bipush 20, 2) := by decide +kernel
theorem d_X5_text_97 : decode cX5_text 97 = .ok (.invokevirtual 165, 3) := by decide +kernel
theorem d_X5_text_100 : decode cX5_text 100 = .ok (.iastore, 1) := by decide +kernel
theorem d_X5_text_101 : decode cX5_text 101 = .ok (.aload_n 0, 1) := by decide +kernel
theorem d_X5_text_102 : decode cX5_text 102 = .ok (.getfield 23, 3) := by decide +kernel
theorem d_X5_text_105 : decode cX5_text 105 = .ok (.iconst 1, 1) := by decide +kernel
theorem d_X5_text_106 : decode cX5_text 106 = .ok (.aload_n 0, 1) := by decide +kernel
theorem d_X5_text_107 : decode cX5_text 107 = .ok (.iconst 3, 1) := by decide +kernel
theorem d_X5_text_108 : decode cX5_text 108 = .ok (.bipush 12, 2) := by decide +kernel
theorem d_X5_text_110 : decode cX5_text 110 = .ok (.invokevirtual 165, 3) := by decide +kernel
theorem d_X5_text_113 : decode cX5_text 113 = .ok (.iastore, 1) := by decide +kernel
theorem d_X5_text_114 : decode cX5_text 114 = .ok (.aload_n 0, 1) := by decide +kernel
theorem d_X5_text_115 : decode cX5_text 115 = .ok (.bipush 59, 2) := by decide +kernel
theorem d_X5_text_117 : decode cX5_text 117 = .ok (.invokevirtual 213, 3) := by decide +kernel
theorem d_X5_text_120 : decode cX5_text 120 = .ok (.aload_n 0, 1) := by decide +kernel
theorem d_X5_text_121 : decode cX5_text 121 = .ok (.invokevirtual 121, 3) := by decide +kernel
theorem d_X5_text_124 : decode cX5_text 124 = .ok (.ifCond .eq 18, 3) := by decide +kernel
theorem d_X5_text_127 : decode cX5_text 127 = .ok (.aload_n 0, 1) := by decide +kernel
theorem d_X5_text_128 : decode cX5_text 128 = .ok (.invokevirtual 104, 3) := by decide +kernel
theorem d_X5_text_131 : decode cX5_text 131 = .ok (.iconst (-1), 1) := by decide +kernel
theorem d_X5_text_132 : decode cX5_text 132 = .ok (.if_icmp .eq 10, 3) := by decide +kernel
theorem d_X5_text_135 : decode cX5_text 135 = .ok (.aload_n 0, 1) := by decide +kernel
theorem d_X5_text_136 : decode cX5_text 136 = .ok (.invokevirtual 222, 3) := by decide +kernel
theorem d_X5_text_139 : decode cX5_text 139 = .ok (.goto (-19), 3) := by decide +kernel
theorem d_X5_text_142 : decode cX5_text 142 = .ok (.aload_n 0, 1) := by decide +kernel
theorem d_X5_text_143 : decode cX5_text 143 = .ok (.invokevirtual 121, 3) := by decide +kernel
theorem d_X5_text_146 : decode cX5_text 146 = .ok (.ifCond .eq 37, 3) := by decide +kernel
theorem d_X5_text_149 : decode cX5_text 149 = .ok (.aload_n 0, 1) := by decide +kernel
theorem d_X5_text_150 : decode cX5_text 150 = .ok (.iconst 1, 1) := by decide +kernel
theorem d_X5_text_151 : decode cX5_text 151 = .ok (.invokevirtual 178, 3) := by decide +kernel
theorem d_X5_text_154 : decode cX5_text 154 = .ok (.ifCond .eq 20, 3) := by decide +kernel
theorem d_X5_text_157 : decode cX5_text 157 = .ok (.aload_n 0, 1) := by decide +kernel
theorem d_X5_text_158 : decode cX5_text 158 = .ok (.iconst 2, 1) := by decide +kernel
theorem d_X5_text_159 : decode cX5_text 159 = .ok (.invokevirtual 178, 3) := by decide +kernel
theorem d_X5_text_162 : decode cX5_text 162 = .ok (.ifCond .eq 12, 3) := by decide +kernel
theorem d_X5_text_165 : decode cX5_text 165 = .ok (.aload_n 0, 1) := by decide +kernel
theorem d_X5_text_166 : decode cX5_text 166 = .ok (.getfield 23, 3) := by decide +kernel
theorem d_X5_text_169 : decode cX5_text 169 = .ok (.iconst 3, 1) := by decide +kernel
theorem d_X5_text_170 : decode cX5_text 170 = .ok (.iaload, 1) := by decide +kernel
theorem d_X5_text_171 : decode cX5_text 171 = .ok (.ifCond .ne 12, 3) := by decide +kernel
theorem d_X5_text_174 : decode cX5_text 174 = .ok (.aload_n 0, 1) := by decide +kernel
theorem d_X5_text_175 : decode cX5_text 175 = .ok (.iconst 5, 1) := by decide +kernel
theorem d_X5_text_176 : decode cX5_text 176 = .ok (.aload_n 0, 1) := by decide +kernel
theorem d_X5_text_177 : decode cX5_text 177 = .ok (.getfield 89, 3) := by decide +kernel
theorem d_X5_text_180 : decode cX5_text 180 = .ok (.invokevirtual 132, 3) := by decide +kernel
theorem d_X5_text_183 : decode cX5_text 183 = .ok (.aload_n 0, 1) := by decide +kernel
theorem d_X5_text_184 : decode cX5_text 184 = .ok (.aload_n 0, 1) := by decide +kernel
theorem d_X5_text_185 : decode cX5_text 185 = .ok (.getfield 101, 3) := by decide +kernel
theorem d_X5_text_188 : decode cX5_text 188 = .ok (.putfield 13, 3) := by decide +kernel
theorem d_X5_text_191 : decode cX5_text 191 = .ok (.aload_n 0, 1) := by decide +kernel
theorem d_X5_text_192 : decode cX5_text 192 = .ok (.invokevirtual 121, 3) := by decide +kernel
theorem d_X5_text_195 : decode cX5_text 195 = .ok (.ifCond .ne 11, 3) := by decide +kernel
theorem d_X5_text_198 : decode cX5_text 198 = .ok (.aload_n 0, 1) := by decide +kernel
theorem d_X5_text_199 : decode cX5_text 199 = .ok (.getfield 98, 3) := by decide +kernel
theorem d_X5_text_202 : decode cX5_text 202 = .ok (.bipush 10, 2) := by decide +kernel
theorem d_X5_text_204 : decode cX5_text 204 = .ok (.isub, 1) := by decide +kernel
theorem d_X5_text_205 : decode cX5_text 205 = .ok (.ireturn, 1) := by decide +kernel
theorem d_X5_text_206 : decode cX5_text 206 = .ok (.aload_n 0, 1) := by decide +kernel
theorem d_X5_text_207 : decode cX5_text 207 = .ok (.invokevirtual 225, 3) := by decide +kernel
theorem d_X5_text_210 : decode cX5_text 210 = .ok (.aload_n 0, 1) := by decide +kernel
theorem d_X5_text_211 : decode cX5_text 211 = .ok (.getfield 23, 3) := by decide +kernel
theorem d_X5_text_214 : decode cX5_text 214 = .ok (.aload_n 0, 1) := by decide +kernel
theorem d_X5_text_215 : decode cX5_text 215 = .ok (.getfield 20, 3) := by decide +kernel
theorem d_X5_text_218 : decode cX5_text 218 = .ok (.invokestatic 228, 3) := by decide +kernel
theorem d_X5_text_221 : decode cX5_text 221 = .ok (.aload_n 0, 1) := by decide +kernel
theorem d_X5_text_222 : decode cX5_text 222 = .ok (.getfield 20, 3) := by decide +kernel
theorem d_X5_text_225 : decode cX5_text 225 = .ok (.iconst 3, 1) := by decide +kernel
theorem d_X5_text_226 : decode cX5_text 226 = .ok (.iaload, 1) := by decide +kernel
theorem d_X5_text_227 : decode cX5_text 227 = .ok (.ireturn, 1) := by decide +kernel
abbrev rm_X5_text : Room := { frames := 9, cells := 0, slots := 0, locals := 197 }
set_option maxHeartbeats 4000000 in
set_option maxRecDepth 20000 in
theorem c_X5_text_183 {x : Cx} {b : Wy} (o : Ok x (wM b) cX5_text 2 RX5 (some .int) rm_X5_text) {v1 : Int32} {K : Int32 → Sg → Prop}   : ∀  (σ : Sg), m_X5_text_j183 v1 K   σ → J x (wM b) (FinC x (wM b) (PI K) (0, 0)) 183 [(0, .ref (wB (wM b) + 347))] [] (0, 0) σ := by
  intro  σ  h
  unfold m_X5_text_j183 at h
  refine J_aload_n o 0 d_X5_text_183 rfl ?_
  refine J_aload_n o 0 d_X5_text_184 rfl ?_
  refine J_getI o fl_RX5_101 rfl (Nat.le_of_ble_eq_true rfl) (Nat.le_of_ble_eq_true rfl) rfl d_X5_text_185 ?_
  refine J_put o fl_RX5_13 la_5 rfl (Nat.le_of_ble_eq_true rfl) (Nat.le_of_ble_eq_true rfl) rfl rfl rfl rfl d_X5_text_188 ?_
  refine J_nS (fun s188 es188 => ?_)
  replace h := h s188 es188
  refine J_aload_n o 0 d_X5_text_191 rfl ?_
  refine J_callV (k := 347) (c := 5) o [] rfl (by decide) (Nat.le_of_ble_eq_true rfl) (Nat.le_of_ble_eq_true rfl) mth_X5_fine iv_X5_fine ml_RX5_121 ⟨Nat.le_of_ble_eq_true rfl, Nat.le_of_ble_eq_true rfl⟩ rfl rfl (Nat.le_of_ble_eq_true rfl) ⟨Nat.le_refl _, Nat.le_refl _⟩ d_X5_text_192 (w_X5_fine (xL x) b  h) (aZ (fun r192 s192 hzr192 h => ?_))
  refine J_if_ne o 206 d_X5_text_195 rfl (fun c195 => ?_) (fun c195 => ?_)
  · replace h := h.1 c195
    refine J_aload_n o 0 d_X5_text_206 rfl ?_
    refine J_callV (k := 347) (c := 5) o [] rfl (by decide) (Nat.le_of_ble_eq_true rfl) (Nat.le_of_ble_eq_true rfl) mth_X5_remembers iv_X5_remembers ml_RX5_225 ⟨Nat.le_of_ble_eq_true rfl, Nat.le_of_ble_eq_true rfl⟩ rfl rfl (Nat.le_of_ble_eq_true rfl) ⟨Nat.le_refl _, Nat.le_refl _⟩ d_X5_text_207 (w_X5_remembers (xL x) b  h) (aV (fun s207 h => ?_))
    refine J_aload_n o 0 d_X5_text_210 rfl ?_
    refine J_getR (t := 351) o fl_RX5_23 rfl (Nat.le_of_ble_eq_true rfl) (Nat.le_of_ble_eq_true rfl) rfl rfl d_X5_text_211 ?_
    refine J_aload_n o 0 d_X5_text_214 rfl ?_
    refine J_getR (t := 350) o fl_RX5_20 rfl (Nat.le_of_ble_eq_true rfl) (Nat.le_of_ble_eq_true rfl) rfl rfl d_X5_text_215 ?_
    refine J_callS o [.ref (wB (wM b) + 351), .ref (wB (wM b) + 350)] mth_X5_copies st_X5_copies ml_RX5_228 ⟨Nat.le_of_ble_eq_true rfl, Nat.le_of_ble_eq_true rfl⟩ rfl rfl (Nat.le_of_ble_eq_true rfl) ⟨Nat.le_refl _, Nat.le_refl _⟩ d_X5_text_218 (w_X5_copies (xL x) b A_351 A_350 h) (aV (fun s218 h => ?_))
    refine J_aload_n o 0 d_X5_text_221 rfl ?_
    refine J_getR (t := 350) o fl_RX5_20 rfl (Nat.le_of_ble_eq_true rfl) (Nat.le_of_ble_eq_true rfl) rfl rfl d_X5_text_222 ?_
    refine J_iconst (v := 3) o d_X5_text_225 iconst_3 ?_
    have b226 := h.1
    replace h := h.2
    refine J_iald o A_350 (vpc (rfl : ln 350 = 1098) b226) d_X5_text_226 ?_
    exact J_iret o d_X5_text_227 ⟨_, rfl, h⟩
  · replace h := h.2 c195
    refine J_aload_n o 0 d_X5_text_198 rfl ?_
    refine J_getI o fl_RX5_98 rfl (Nat.le_of_ble_eq_true rfl) (Nat.le_of_ble_eq_true rfl) rfl d_X5_text_199 ?_
    refine J_bipush (v := 10) o d_X5_text_202 bipush_10 ?_
    refine J_isub o d_X5_text_204 ?_
    exact J_iret o d_X5_text_205 ⟨_, rfl, h⟩
set_option maxHeartbeats 4000000 in
set_option maxRecDepth 20000 in
theorem c_X5_text_142 {x : Cx} {b : Wy} (o : Ok x (wM b) cX5_text 2 RX5 (some .int) rm_X5_text) {v1 : Int32} {K : Int32 → Sg → Prop}   : ∀  (σ : Sg), m_X5_text_j142 v1 K   σ → J x (wM b) (FinC x (wM b) (PI K) (0, 0)) 142 [(0, .ref (wB (wM b) + 347))] [] (0, 0) σ := by
  intro  σ  h
  unfold m_X5_text_j142 at h
  refine J_aload_n o 0 d_X5_text_142 rfl ?_
  refine J_callV (k := 347) (c := 5) o [] rfl (by decide) (Nat.le_of_ble_eq_true rfl) (Nat.le_of_ble_eq_true rfl) mth_X5_fine iv_X5_fine ml_RX5_121 ⟨Nat.le_of_ble_eq_true rfl, Nat.le_of_ble_eq_true rfl⟩ rfl rfl (Nat.le_of_ble_eq_true rfl) ⟨Nat.le_refl _, Nat.le_refl _⟩ d_X5_text_143 (w_X5_fine (xL x) b  h) (aZ (fun r143 s143 hzr143 h => ?_))
  refine J_if_eq o 183 d_X5_text_146 rfl (fun c146 => ?_) (fun c146 => ?_)
  · replace h := h.1 c146
    exact c_X5_text_183 o   s143  h
  · replace h := h.2 c146
    refine J_aload_n o 0 d_X5_text_149 rfl ?_
    refine J_iconst (v := 1) o d_X5_text_150 iconst_1 ?_
    refine J_callV (k := 347) (c := 5) o [.int 1] rfl (by decide) (Nat.le_of_ble_eq_true rfl) (Nat.le_of_ble_eq_true rfl) mth_X5_isTold iv_X5_isTold ml_RX5_178 ⟨Nat.le_of_ble_eq_true rfl, Nat.le_of_ble_eq_true rfl⟩ rfl rfl (Nat.le_of_ble_eq_true rfl) ⟨Nat.le_refl _, Nat.le_refl _⟩ d_X5_text_151 (w_X5_isTold (xL x) b  h) (aZ (fun r151 s151 hzr151 h => ?_))
    refine J_if_eq o 174 d_X5_text_154 rfl (fun c154 => ?_) (fun c154 => ?_)
    · replace h := h.1 c154
      refine J_aload_n o 0 d_X5_text_174 rfl ?_
      refine J_iconst (v := 5) o d_X5_text_175 iconst_5 ?_
      refine J_aload_n o 0 d_X5_text_176 rfl ?_
      refine J_getI o fl_RX5_89 rfl (Nat.le_of_ble_eq_true rfl) (Nat.le_of_ble_eq_true rfl) rfl d_X5_text_177 ?_
      refine J_callV (k := 347) (c := 5) o [.int 5, .int (s151 347 3)] rfl (by decide) (Nat.le_of_ble_eq_true rfl) (Nat.le_of_ble_eq_true rfl) mth_X5_wrong iv_X5_wrong ml_RX5_132 ⟨Nat.le_of_ble_eq_true rfl, Nat.le_of_ble_eq_true rfl⟩ rfl rfl (Nat.le_of_ble_eq_true rfl) ⟨Nat.le_refl _, Nat.le_refl _⟩ d_X5_text_180 (w_X5_wrong (xL x) b  h) (aV (fun s180 h => ?_))
      exact c_X5_text_183 o   s180  h
    · replace h := h.2 c154
      refine J_aload_n o 0 d_X5_text_157 rfl ?_
      refine J_iconst (v := 2) o d_X5_text_158 iconst_2 ?_
      refine J_callV (k := 347) (c := 5) o [.int 2] rfl (by decide) (Nat.le_of_ble_eq_true rfl) (Nat.le_of_ble_eq_true rfl) mth_X5_isTold iv_X5_isTold ml_RX5_178 ⟨Nat.le_of_ble_eq_true rfl, Nat.le_of_ble_eq_true rfl⟩ rfl rfl (Nat.le_of_ble_eq_true rfl) ⟨Nat.le_refl _, Nat.le_refl _⟩ d_X5_text_159 (w_X5_isTold (xL x) b  h) (aZ (fun r159 s159 hzr159 h => ?_))
      refine J_if_eq o 174 d_X5_text_162 rfl (fun c162 => ?_) (fun c162 => ?_)
      · replace h := h.1 c162
        refine J_aload_n o 0 d_X5_text_174 rfl ?_
        refine J_iconst (v := 5) o d_X5_text_175 iconst_5 ?_
        refine J_aload_n o 0 d_X5_text_176 rfl ?_
        refine J_getI o fl_RX5_89 rfl (Nat.le_of_ble_eq_true rfl) (Nat.le_of_ble_eq_true rfl) rfl d_X5_text_177 ?_
        refine J_callV (k := 347) (c := 5) o [.int 5, .int (s159 347 3)] rfl (by decide) (Nat.le_of_ble_eq_true rfl) (Nat.le_of_ble_eq_true rfl) mth_X5_wrong iv_X5_wrong ml_RX5_132 ⟨Nat.le_of_ble_eq_true rfl, Nat.le_of_ble_eq_true rfl⟩ rfl rfl (Nat.le_of_ble_eq_true rfl) ⟨Nat.le_refl _, Nat.le_refl _⟩ d_X5_text_180 (w_X5_wrong (xL x) b  h) (aV (fun s180 h => ?_))
        exact c_X5_text_183 o   s180  h
      · replace h := h.2 c162
        refine J_aload_n o 0 d_X5_text_165 rfl ?_
        refine J_getR (t := 351) o fl_RX5_23 rfl (Nat.le_of_ble_eq_true rfl) (Nat.le_of_ble_eq_true rfl) rfl rfl d_X5_text_166 ?_
        refine J_iconst (v := 3) o d_X5_text_169 iconst_3 ?_
        have b170 := h.1
        replace h := h.2
        refine J_iald o A_351 (vpc (rfl : ln 351 = 1098) b170) d_X5_text_170 ?_
        refine J_if_ne o 183 d_X5_text_171 rfl (fun c171 => ?_) (fun c171 => ?_)
        · replace h := h.1 c171
          exact c_X5_text_183 o   s159  h
        · replace h := h.2 c171
          refine J_aload_n o 0 d_X5_text_174 rfl ?_
          refine J_iconst (v := 5) o d_X5_text_175 iconst_5 ?_
          refine J_aload_n o 0 d_X5_text_176 rfl ?_
          refine J_getI o fl_RX5_89 rfl (Nat.le_of_ble_eq_true rfl) (Nat.le_of_ble_eq_true rfl) rfl d_X5_text_177 ?_
          refine J_callV (k := 347) (c := 5) o [.int 5, .int (s159 347 3)] rfl (by decide) (Nat.le_of_ble_eq_true rfl) (Nat.le_of_ble_eq_true rfl) mth_X5_wrong iv_X5_wrong ml_RX5_132 ⟨Nat.le_of_ble_eq_true rfl, Nat.le_of_ble_eq_true rfl⟩ rfl rfl (Nat.le_of_ble_eq_true rfl) ⟨Nat.le_refl _, Nat.le_refl _⟩ d_X5_text_180 (w_X5_wrong (xL x) b  h) (aV (fun s180 h => ?_))
          exact c_X5_text_183 o   s180  h
set_option maxHeartbeats 4000000 in
set_option maxRecDepth 20000 in
theorem c_X5_text_120 {x : Cx} {b : Wy} (o : Ok x (wM b) cX5_text 2 RX5 (some .int) rm_X5_text) {v1 : Int32} {K : Int32 → Sg → Prop}   : ∀ (n : Nat)  (σ : Sg), m_X5_text_l120 v1 K  n  σ → J x (wM b) (FinC x (wM b) (PI K) (0, 0)) 120 [(0, .ref (wB (wM b) + 347))] [] (0, 0) σ := by
  intro n
  induction n with
  | zero =>
    intro  σ  h
    exact False.elim h
  | succ n ih =>
    intro  σ  h
    unfold m_X5_text_l120 at h
    refine J_aload_n o 0 d_X5_text_120 rfl ?_
    refine J_callV (k := 347) (c := 5) o [] rfl (by decide) (Nat.le_of_ble_eq_true rfl) (Nat.le_of_ble_eq_true rfl) mth_X5_fine iv_X5_fine ml_RX5_121 ⟨Nat.le_of_ble_eq_true rfl, Nat.le_of_ble_eq_true rfl⟩ rfl rfl (Nat.le_of_ble_eq_true rfl) ⟨Nat.le_refl _, Nat.le_refl _⟩ d_X5_text_121 (w_X5_fine (xL x) b  h) (aZ (fun r121 s121 hzr121 h => ?_))
    refine J_if_eq o 142 d_X5_text_124 rfl (fun c124 => ?_) (fun c124 => ?_)
    · replace h := h.1 c124
      exact c_X5_text_142 o   s121  h
    · replace h := h.2 c124
      refine J_aload_n o 0 d_X5_text_127 rfl ?_
      refine J_callV (k := 347) (c := 5) o [] rfl (by decide) (Nat.le_of_ble_eq_true rfl) (Nat.le_of_ble_eq_true rfl) mth_X5_here iv_X5_here ml_RX5_104 ⟨Nat.le_of_ble_eq_true rfl, Nat.le_of_ble_eq_true rfl⟩ rfl rfl (Nat.le_of_ble_eq_true rfl) ⟨Nat.le_refl _, Nat.le_refl _⟩ d_X5_text_128 (w_X5_here (xL x) b  h) (aI (fun r128 s128 h => ?_))
      refine J_iconst (v := (-1)) o d_X5_text_131 iconst_m1 ?_
      refine J_icmp_eq o 142 d_X5_text_132 rfl (fun c132 => ?_) (fun c132 => ?_)
      · replace h := h.1 c132
        exact c_X5_text_142 o   s128  h
      · replace h := h.2 c132
        refine J_aload_n o 0 d_X5_text_135 rfl ?_
        refine J_callV (k := 347) (c := 5) o [] rfl (by decide) (Nat.le_of_ble_eq_true rfl) (Nat.le_of_ble_eq_true rfl) mth_X5_readsLine iv_X5_readsLine ml_RX5_222 ⟨Nat.le_of_ble_eq_true rfl, Nat.le_of_ble_eq_true rfl⟩ rfl rfl (Nat.le_of_ble_eq_true rfl) ⟨Nat.le_refl _, Nat.le_refl _⟩ d_X5_text_136 (w_X5_readsLine (xL x) b  h) (aV (fun s136 h => ?_))
        refine J_goto o 120 d_X5_text_139 rfl ?_
        exact ih s136  h
set_option maxHeartbeats 4000000 in
set_option maxRecDepth 20000 in
theorem c_X5_text_88 {x : Cx} {b : Wy} (o : Ok x (wM b) cX5_text 2 RX5 (some .int) rm_X5_text) {v1 : Int32} {K : Int32 → Sg → Prop}   : ∀  (σ : Sg), m_X5_text_j88 v1 K   σ → J x (wM b) (FinC x (wM b) (PI K) (0, 0)) 88 [(0, .ref (wB (wM b) + 347))] [] (0, 0) σ := by
  intro  σ  h
  unfold m_X5_text_j88 at h
  refine J_aload_n o 0 d_X5_text_88 rfl ?_
  refine J_getR (t := 351) o fl_RX5_23 rfl (Nat.le_of_ble_eq_true rfl) (Nat.le_of_ble_eq_true rfl) rfl rfl d_X5_text_89 ?_
  refine J_iconst (v := 0) o d_X5_text_92 iconst_0 ?_
  refine J_aload_n o 0 d_X5_text_93 rfl ?_
  refine J_iconst (v := 3) o d_X5_text_94 iconst_3 ?_
  refine J_bipush (v := 20) o d_X5_text_95 bipush_20 ?_
  refine J_callV (k := 347) (c := 5) o [.int 3, .int 20] rfl (by decide) (Nat.le_of_ble_eq_true rfl) (Nat.le_of_ble_eq_true rfl) mth_X5_number iv_X5_number ml_RX5_165 ⟨Nat.le_of_ble_eq_true rfl, Nat.le_of_ble_eq_true rfl⟩ rfl rfl (Nat.le_of_ble_eq_true rfl) ⟨Nat.le_refl _, Nat.le_refl _⟩ d_X5_text_97 (w_X5_number (xL x) b  h) (aI (fun r97 s97 h => ?_))
  have b100 := h.1
  replace h := h.2
  refine J_iast o A_351 (vpc (rfl : ln 351 = 1098) b100) d_X5_text_100 ?_
  refine J_nS (fun s100 es100 => ?_)
  replace h := h s100 es100
  refine J_aload_n o 0 d_X5_text_101 rfl ?_
  refine J_getR (t := 351) o fl_RX5_23 rfl (Nat.le_of_ble_eq_true rfl) (Nat.le_of_ble_eq_true rfl) rfl rfl d_X5_text_102 ?_
  refine J_iconst (v := 1) o d_X5_text_105 iconst_1 ?_
  refine J_aload_n o 0 d_X5_text_106 rfl ?_
  refine J_iconst (v := 3) o d_X5_text_107 iconst_3 ?_
  refine J_bipush (v := 12) o d_X5_text_108 bipush_12 ?_
  refine J_callV (k := 347) (c := 5) o [.int 3, .int 12] rfl (by decide) (Nat.le_of_ble_eq_true rfl) (Nat.le_of_ble_eq_true rfl) mth_X5_number iv_X5_number ml_RX5_165 ⟨Nat.le_of_ble_eq_true rfl, Nat.le_of_ble_eq_true rfl⟩ rfl rfl (Nat.le_of_ble_eq_true rfl) ⟨Nat.le_refl _, Nat.le_refl _⟩ d_X5_text_110 (w_X5_number (xL x) b  h) (aI (fun r110 s110 h => ?_))
  have b113 := h.1
  replace h := h.2
  refine J_iast o A_351 (vpc (rfl : ln 351 = 1098) b113) d_X5_text_113 ?_
  refine J_nS (fun s113 es113 => ?_)
  replace h := h s113 es113
  refine J_aload_n o 0 d_X5_text_114 rfl ?_
  refine J_bipush (v := 59) o d_X5_text_115 bipush_59 ?_
  refine J_callV (k := 347) (c := 5) o [.int 59] rfl (by decide) (Nat.le_of_ble_eq_true rfl) (Nat.le_of_ble_eq_true rfl) mth_X5_must iv_X5_must ml_RX5_213 ⟨Nat.le_of_ble_eq_true rfl, Nat.le_of_ble_eq_true rfl⟩ rfl rfl (Nat.le_of_ble_eq_true rfl) ⟨Nat.le_refl _, Nat.le_refl _⟩ d_X5_text_117 (w_X5_must (xL x) b  h) (aV (fun s117 h => ?_))
  obtain ⟨n9, h⟩ := h
  exact c_X5_text_120 o   n9 s117  h
set_option maxHeartbeats 4000000 in
set_option maxRecDepth 20000 in
theorem c_X5_text_23 {x : Cx} {b : Wy} (o : Ok x (wM b) cX5_text 2 RX5 (some .int) rm_X5_text) {v1 : Int32} {K : Int32 → Sg → Prop}   : ∀ (k1 : Int32) (σ : Sg), m_X5_text_j23 v1 K  k1 σ → J x (wM b) (FinC x (wM b) (PI K) (0, 0)) 23 [(0, .ref (wB (wM b) + 347)), (1, .int v1)] [.int k1, .ref (wB (wM b) + 347)] (0, 0) σ := by
  intro k1 σ  h
  unfold m_X5_text_j23 at h
  refine J_iconst (v := 1) o d_X5_text_23 iconst_1 ?_
  refine J_iconst (v := 1) o d_X5_text_24 iconst_1 ?_
  refine J_callV (k := 347) (c := 5) o [.int k1, .int 1, .int 1] rfl (by decide) (Nat.le_of_ble_eq_true rfl) (Nat.le_of_ble_eq_true rfl) mth_X5_bad iv_X5_bad ml_RX5_216 ⟨Nat.le_of_ble_eq_true rfl, Nat.le_of_ble_eq_true rfl⟩ rfl rfl (Nat.le_of_ble_eq_true rfl) ⟨Nat.le_refl _, Nat.le_refl _⟩ d_X5_text_25 (w_X5_bad (xL x) b  h) (aZ (fun r25 s25 hzr25 h => ?_))
  refine J_if_eq o 33 d_X5_text_28 rfl (fun c28 => ?_) (fun c28 => ?_)
  · replace h := h.1 c28
    refine J_aload_n o 0 d_X5_text_33 rfl ?_
    refine J_iconst (v := 0) o d_X5_text_34 iconst_0 ?_
    refine J_put o fl_RX5_53 la_5 rfl (Nat.le_of_ble_eq_true rfl) (Nat.le_of_ble_eq_true rfl) rfl rfl rfl rfl d_X5_text_35 ?_
    refine J_nS (fun s35 es35 => ?_)
    replace h := h s35 es35
    refine J_aload_n o 0 d_X5_text_38 rfl ?_
    refine J_iload_n o 1 d_X5_text_39 rfl ?_
    refine J_put o fl_RX5_89 la_5 rfl (Nat.le_of_ble_eq_true rfl) (Nat.le_of_ble_eq_true rfl) rfl rfl rfl rfl d_X5_text_40 ?_
    refine J_nS (fun s40 es40 => ?_)
    replace h := h s40 es40
    refine J_aload_n o 0 d_X5_text_43 rfl ?_
    refine J_iconst (v := 0) o d_X5_text_44 iconst_0 ?_
    refine J_put o fl_RX5_92 la_5 rfl (Nat.le_of_ble_eq_true rfl) (Nat.le_of_ble_eq_true rfl) rfl rfl rfl rfl d_X5_text_45 ?_
    refine J_nS (fun s45 es45 => ?_)
    replace h := h s45 es45
    refine J_aload_n o 0 d_X5_text_48 rfl ?_
    refine J_iconst (v := 0) o d_X5_text_49 iconst_0 ?_
    refine J_put o fl_RX5_98 la_5 rfl (Nat.le_of_ble_eq_true rfl) (Nat.le_of_ble_eq_true rfl) rfl rfl rfl rfl d_X5_text_50 ?_
    refine J_nS (fun s50 es50 => ?_)
    replace h := h s50 es50
    refine J_aload_n o 0 d_X5_text_53 rfl ?_
    refine J_iconst (v := (-1)) o d_X5_text_54 iconst_m1 ?_
    refine J_put o fl_RX5_101 la_5 rfl (Nat.le_of_ble_eq_true rfl) (Nat.le_of_ble_eq_true rfl) rfl rfl rfl rfl d_X5_text_55 ?_
    refine J_nS (fun s55 es55 => ?_)
    replace h := h s55 es55
    refine J_aload_n o 0 d_X5_text_58 rfl ?_
    refine J_iconst (v := 0) o d_X5_text_59 iconst_0 ?_
    refine J_put o fl_RX5_171 la_5 rfl (Nat.le_of_ble_eq_true rfl) (Nat.le_of_ble_eq_true rfl) rfl rfl rfl rfl d_X5_text_60 ?_
    refine J_nS (fun s60 es60 => ?_)
    replace h := h s60 es60
    refine J_aload_n o 0 d_X5_text_63 rfl ?_
    refine J_getR (t := 351) o fl_RX5_23 rfl (Nat.le_of_ble_eq_true rfl) (Nat.le_of_ble_eq_true rfl) rfl rfl d_X5_text_64 ?_
    refine J_callS o [.ref (wB (wM b) + 351)] mth_X5_begins st_X5_begins ml_RX5_46 ⟨Nat.le_of_ble_eq_true rfl, Nat.le_of_ble_eq_true rfl⟩ rfl rfl (Nat.le_of_ble_eq_true rfl) ⟨Nat.le_refl _, Nat.le_refl _⟩ d_X5_text_67 (w_X5_begins (xL x) b A_351 h) (aV (fun s67 h => ?_))
    refine J_aload_n o 0 d_X5_text_70 rfl ?_
    refine J_ldcS (i := 20) (tx := "sea") o (List.mem_of_getElem? (i := 20) rfl) d_X5_text_71 ?_
    refine J_callV (k := 347) (c := 5) o [.ref (wK (wM b) 20)] rfl (by decide) (Nat.le_of_ble_eq_true rfl) (Nat.le_of_ble_eq_true rfl) mth_X5_takes iv_X5_takes ml_RX5_159 ⟨Nat.le_of_ble_eq_true rfl, Nat.le_of_ble_eq_true rfl⟩ rfl rfl (Nat.le_of_ble_eq_true rfl) ⟨Nat.le_refl _, Nat.le_refl _⟩ d_X5_text_73 (w_X5_takes (xL x) b (Nat.le_of_ble_eq_true rfl) h) (aZ (fun r73 s73 hzr73 h => ?_))
    refine J_if_ne o 88 d_X5_text_76 rfl (fun c76 => ?_) (fun c76 => ?_)
    · replace h := h.1 c76
      refine J_sub [0] rfl ?_
      exact c_X5_text_88 o   s73  h
    · replace h := h.2 c76
      refine J_aload_n o 0 d_X5_text_79 rfl ?_
      refine J_iconst (v := 1) o d_X5_text_80 iconst_1 ?_
      refine J_aload_n o 0 d_X5_text_81 rfl ?_
      refine J_getI o fl_RX5_92 rfl (Nat.le_of_ble_eq_true rfl) (Nat.le_of_ble_eq_true rfl) rfl d_X5_text_82 ?_
      refine J_callV (k := 347) (c := 5) o [.int 1, .int (s73 347 4)] rfl (by decide) (Nat.le_of_ble_eq_true rfl) (Nat.le_of_ble_eq_true rfl) mth_X5_wrong iv_X5_wrong ml_RX5_132 ⟨Nat.le_of_ble_eq_true rfl, Nat.le_of_ble_eq_true rfl⟩ rfl rfl (Nat.le_of_ble_eq_true rfl) ⟨Nat.le_refl _, Nat.le_refl _⟩ d_X5_text_85 (w_X5_wrong (xL x) b  h) (aV (fun s85 h => ?_))
      refine J_sub [0] rfl ?_
      exact c_X5_text_88 o   s85  h
  · replace h := h.2 c28
    refine J_iconst (v := 0) o d_X5_text_31 iconst_0 ?_
    exact J_iret o d_X5_text_32 ⟨_, rfl, h⟩
set_option maxHeartbeats 4000000 in
set_option maxRecDepth 20000 in
theorem w_X5_text (l : Launch) (b : Wy) {v1 : Int32} {σ : Sg} {K : Int32 → Sg → Prop}  (h : m_X5_text v1 σ K) : Ct l (wM b) yX5_text cX5_text 2 (some .int) rm_X5_text [.ref (wB (wM b) + 347), .int v1] σ (PI K) := by
  unfold m_X5_text at h
  refine Ct.of (own := RX5) (by decide +kernel) rfl (Nat.le_of_ble_eq_true rfl) (fun x hx o => ?_)
  subst hx
  show J x (wM b) (FinC x (wM b) (PI K) (0, 0)) 0 [(0, .ref (wB (wM b) + 347)), (1, .int v1)] [] (0, 0) σ
  refine J_aload_n o 0 d_X5_text_0 rfl ?_
  refine J_iconst (v := 0) o d_X5_text_1 iconst_0 ?_
  refine J_put o fl_RX5_50 la_5 rfl (Nat.le_of_ble_eq_true rfl) (Nat.le_of_ble_eq_true rfl) rfl rfl rfl rfl d_X5_text_2 ?_
  refine J_nS (fun s2 es2 => ?_)
  replace h := h s2 es2
  refine J_aload_n o 0 d_X5_text_5 rfl ?_
  refine J_iload_n o 1 d_X5_text_6 rfl ?_
  refine J_iconst (v := 0) o d_X5_text_7 iconst_0 ?_
  refine J_aload_n o 0 d_X5_text_8 rfl ?_
  refine J_getI o fl_RX5_53 rfl (Nat.le_of_ble_eq_true rfl) (Nat.le_of_ble_eq_true rfl) rfl d_X5_text_9 ?_
  refine J_callS o [.int v1, .int 0, .int (s2 347 2)] mth_X5_in st_X5_in ml_RX5_56 ⟨Nat.le_of_ble_eq_true rfl, Nat.le_of_ble_eq_true rfl⟩ rfl rfl (Nat.le_of_ble_eq_true rfl) ⟨Nat.le_refl _, Nat.le_refl _⟩ d_X5_text_12 (w_X5_in (xL x) b  h) (aZ (fun r12 s12 hzr12 h => ?_))
  refine J_if_ne o 22 d_X5_text_15 rfl (fun c15 => ?_) (fun c15 => ?_)
  · replace h := h.1 c15
    refine J_iconst (v := 0) o d_X5_text_22 iconst_0 ?_
    exact c_X5_text_23 o   0 s12  h
  · replace h := h.2 c15
    refine J_iconst (v := 1) o d_X5_text_18 iconst_1 ?_
    refine J_goto o 23 d_X5_text_19 rfl ?_
    exact c_X5_text_23 o   1 s12  h
theorem d_X5_fault_0 : decode cX5_fault 0 = .ok (.aload_n 0, 1) := by decide +kernel
theorem d_X5_fault_1 : decode cX5_fault 1 = .ok (.iconst 0, 1) := by decide +kernel
theorem d_X5_fault_2 : decode cX5_fault 2 = .ok (.putfield 50, 3) := by decide +kernel
theorem d_X5_fault_5 : decode cX5_fault 5 = .ok (.aload_n 0, 1) := by decide +kernel
theorem d_X5_fault_6 : decode cX5_fault 6 = .ok (.getfield 13, 3) := by decide +kernel
theorem d_X5_fault_9 : decode cX5_fault 9 = .ok (.ireturn, 1) := by decide +kernel
abbrev rm_X5_fault : Room := { frames := 0, cells := 0, slots := 0, locals := 0 }
set_option maxHeartbeats 4000000 in
set_option maxRecDepth 20000 in
theorem w_X5_fault (l : Launch) (b : Wy)  {σ : Sg} {K : Int32 → Sg → Prop}  (h : m_X5_fault  σ K) : Ct l (wM b) yX5_fault cX5_fault 1 (some .int) rm_X5_fault [.ref (wB (wM b) + 347)] σ (PI K) := by
  unfold m_X5_fault at h
  refine Ct.of (own := RX5) (by decide +kernel) rfl (Nat.le_of_ble_eq_true rfl) (fun x hx o => ?_)
  subst hx
  show J x (wM b) (FinC x (wM b) (PI K) (0, 0)) 0 [(0, .ref (wB (wM b) + 347))] [] (0, 0) σ
  refine J_aload_n o 0 d_X5_fault_0 rfl ?_
  refine J_iconst (v := 0) o d_X5_fault_1 iconst_0 ?_
  refine J_put o fl_RX5_50 la_5 rfl (Nat.le_of_ble_eq_true rfl) (Nat.le_of_ble_eq_true rfl) rfl rfl rfl rfl d_X5_fault_2 ?_
  refine J_nS (fun s2 es2 => ?_)
  replace h := h s2 es2
  refine J_aload_n o 0 d_X5_fault_5 rfl ?_
  refine J_getI o fl_RX5_13 rfl (Nat.le_of_ble_eq_true rfl) (Nat.le_of_ble_eq_true rfl) rfl d_X5_fault_6 ?_
  exact J_iret o d_X5_fault_9 ⟨_, rfl, h⟩
theorem d_X5_undo_0 : decode cX5_undo 0 = .ok (.aload_n 0, 1) := by decide +kernel
theorem d_X5_undo_1 : decode cX5_undo 1 = .ok (.iconst 0, 1) := by decide +kernel
theorem d_X5_undo_2 : decode cX5_undo 2 = .ok (.putfield 50, 3) := by decide +kernel
theorem d_X5_undo_5 : decode cX5_undo 5 = .ok (.aload_n 0, 1) := by decide +kernel
theorem d_X5_undo_6 : decode cX5_undo 6 = .ok (.getfield 232, 3) := by decide +kernel
theorem d_X5_undo_9 : decode cX5_undo 9 = .ok (.ifCond .ne 5, 3) := by decide +kernel
theorem d_X5_undo_12 : decode cX5_undo 12 = .ok (.iconst (-1), 1) := by decide +kernel
theorem d_X5_undo_13 : decode cX5_undo 13 = .ok (.ireturn, 1) := by decide +kernel
theorem d_X5_undo_14 : decode cX5_undo 14 = .ok (.aload_n 0, 1) := by decide +kernel
theorem d_X5_undo_15 : decode cX5_undo 15 = .ok (.dup, 1) := by decide +kernel
theorem d_X5_undo_16 : decode cX5_undo 16 = .ok (.getfield 232, 3) := by decide +kernel
theorem d_X5_undo_19 : decode cX5_undo 19 = .ok (.iconst 1, 1) := by decide +kernel
theorem d_X5_undo_20 : decode cX5_undo 20 = .ok (.isub, 1) := by decide +kernel
theorem d_X5_undo_21 : decode cX5_undo 21 = .ok (.putfield 232, 3) := by decide +kernel
theorem d_X5_undo_24 : decode cX5_undo 24 = .ok (.aload_n 0, 1) := by decide +kernel
theorem d_X5_undo_25 : decode cX5_undo 25 = .ok (.getfield 28, 3) := by decide +kernel
theorem d_X5_undo_28 : decode cX5_undo 28 = .ok (.aload_n 0, 1) := by decide +kernel
theorem d_X5_undo_29 : decode cX5_undo 29 = .ok (.getfield 232, 3) := by decide +kernel
theorem d_X5_undo_32 : decode cX5_undo 32 = .ok (.aaload, 1) := by decide +kernel
theorem d_X5_undo_33 : decode cX5_undo 33 = .ok (.aload_n 0, 1) := by decide +kernel
theorem d_X5_undo_34 : decode cX5_undo 34 = .ok (.getfield 20, 3) := by decide +kernel
theorem d_X5_undo_37 : decode cX5_undo 37 = .ok (.invokestatic 228, 3) := by decide +kernel
theorem d_X5_undo_40 : decode cX5_undo 40 = .ok (.aload_n 0, 1) := by decide +kernel
theorem d_X5_undo_41 : decode cX5_undo 41 = .ok (.getfield 232, 3) := by decide +kernel
theorem d_X5_undo_44 : decode cX5_undo 44 = .ok (.ireturn, 1) := by decide +kernel
abbrev rm_X5_undo : Room := { frames := 1, cells := 0, slots := 0, locals := 22 }
set_option maxHeartbeats 4000000 in
set_option maxRecDepth 20000 in
theorem w_X5_undo (l : Launch) (b : Wy)  {σ : Sg} {K : Int32 → Sg → Prop}  (h : m_X5_undo  σ K) : Ct l (wM b) yX5_undo cX5_undo 1 (some .int) rm_X5_undo [.ref (wB (wM b) + 347)] σ (PI K) := by
  unfold m_X5_undo at h
  refine Ct.of (own := RX5) (by decide +kernel) rfl (Nat.le_of_ble_eq_true rfl) (fun x hx o => ?_)
  subst hx
  show J x (wM b) (FinC x (wM b) (PI K) (0, 0)) 0 [(0, .ref (wB (wM b) + 347))] [] (0, 0) σ
  refine J_aload_n o 0 d_X5_undo_0 rfl ?_
  refine J_iconst (v := 0) o d_X5_undo_1 iconst_0 ?_
  refine J_put o fl_RX5_50 la_5 rfl (Nat.le_of_ble_eq_true rfl) (Nat.le_of_ble_eq_true rfl) rfl rfl rfl rfl d_X5_undo_2 ?_
  refine J_nS (fun s2 es2 => ?_)
  replace h := h s2 es2
  refine J_aload_n o 0 d_X5_undo_5 rfl ?_
  refine J_getI o fl_RX5_232 rfl (Nat.le_of_ble_eq_true rfl) (Nat.le_of_ble_eq_true rfl) rfl d_X5_undo_6 ?_
  refine J_if_ne o 14 d_X5_undo_9 rfl (fun c9 => ?_) (fun c9 => ?_)
  · replace h := h.1 c9
    refine J_aload_n o 0 d_X5_undo_14 rfl ?_
    refine J_dup o d_X5_undo_15 rfl ?_
    refine J_getI o fl_RX5_232 rfl (Nat.le_of_ble_eq_true rfl) (Nat.le_of_ble_eq_true rfl) rfl d_X5_undo_16 ?_
    refine J_iconst (v := 1) o d_X5_undo_19 iconst_1 ?_
    refine J_isub o d_X5_undo_20 ?_
    refine J_put o fl_RX5_232 la_5 rfl (Nat.le_of_ble_eq_true rfl) (Nat.le_of_ble_eq_true rfl) rfl rfl rfl rfl d_X5_undo_21 ?_
    refine J_nS (fun s21 es21 => ?_)
    replace h := h s21 es21
    refine J_aload_n o 0 d_X5_undo_24 rfl ?_
    refine J_getR (t := 352) o fl_RX5_28 rfl (Nat.le_of_ble_eq_true rfl) (Nat.le_of_ble_eq_true rfl) rfl rfl d_X5_undo_25 ?_
    refine J_aload_n o 0 d_X5_undo_28 rfl ?_
    refine J_getI o fl_RX5_232 rfl (Nat.le_of_ble_eq_true rfl) (Nat.le_of_ble_eq_true rfl) rfl d_X5_undo_29 ?_
    have b32 := h.1
    replace h := h.2
    refine J_aald (t := (353 + (s21 347 12).toNatClampNeg)) o 2 (by decide) rfl (Nat.le_of_ble_eq_true rfl) (Nat.le_of_ble_eq_true rfl) (vpc rfl b32) rfl d_X5_undo_32 ?_
    refine J_aload_n o 0 d_X5_undo_33 rfl ?_
    refine J_getR (t := 350) o fl_RX5_20 rfl (Nat.le_of_ble_eq_true rfl) (Nat.le_of_ble_eq_true rfl) rfl rfl d_X5_undo_34 ?_
    refine J_callS o [.ref (wB (wM b) + (353 + (s21 347 12).toNatClampNeg)), .ref (wB (wM b) + 350)] mth_X5_copies st_X5_copies ml_RX5_228 ⟨Nat.le_of_ble_eq_true rfl, Nat.le_of_ble_eq_true rfl⟩ rfl rfl (Nat.le_of_ble_eq_true rfl) ⟨Nat.le_refl _, Nat.le_refl _⟩ d_X5_undo_37 (w_X5_copies (xL x) b (P_A b32) A_350 h) (aV (fun s37 h => ?_))
    refine J_aload_n o 0 d_X5_undo_40 rfl ?_
    refine J_getI o fl_RX5_232 rfl (Nat.le_of_ble_eq_true rfl) (Nat.le_of_ble_eq_true rfl) rfl d_X5_undo_41 ?_
    exact J_iret o d_X5_undo_44 ⟨_, rfl, h⟩
  · replace h := h.2 c9
    refine J_iconst (v := (-1)) o d_X5_undo_12 iconst_m1 ?_
    exact J_iret o d_X5_undo_13 ⟨_, rfl, h⟩
theorem d_X5_isHelper_0 : decode cX5_isHelper 0 = .ok (.iload_n 1, 1) := by decide +kernel
theorem d_X5_isHelper_1 : decode cX5_isHelper 1 = .ok (.iconst 0, 1) := by decide +kernel
theorem d_X5_isHelper_2 : decode cX5_isHelper 2 = .ok (.aload_n 0, 1) := by decide +kernel
theorem d_X5_isHelper_3 : decode cX5_isHelper 3 = .ok (.getfield 20, 3) := by decide +kernel
theorem d_X5_isHelper_6 : decode cX5_isHelper 6 = .ok (.iconst 3, 1) := by decide +kernel
theorem d_X5_isHelper_7 : decode cX5_isHelper 7 = .ok (.iaload, 1) := by decide +kernel
theorem d_X5_isHelper_8 : decode cX5_isHelper 8 = .ok (.iconst 1, 1) := by decide +kernel
theorem d_X5_isHelper_9 : decode cX5_isHelper 9 = .ok (.isub, 1) := by decide +kernel
theorem d_X5_isHelper_10 : decode cX5_isHelper 10 = .ok (.invokestatic 56, 3) := by decide +kernel
theorem d_X5_isHelper_13 : decode cX5_isHelper 13 = .ok (.ireturn, 1) := by decide +kernel
abbrev rm_X5_isHelper : Room := { frames := 1, cells := 0, slots := 0, locals := 22 }
set_option maxHeartbeats 4000000 in
set_option maxRecDepth 20000 in
theorem w_X5_isHelper (l : Launch) (b : Wy) {v1 : Int32} {σ : Sg} {K : Int32 → Sg → Prop}  (h : m_X5_isHelper v1 σ K) : Ct l (wM b) yX5_isHelper cX5_isHelper 2 (some .boolean) rm_X5_isHelper [.ref (wB (wM b) + 347), .int v1] σ (PZ K) := by
  unfold m_X5_isHelper at h
  refine Ct.of (own := RX5) (by decide +kernel) rfl (Nat.le_of_ble_eq_true rfl) (fun x hx o => ?_)
  subst hx
  show J x (wM b) (FinC x (wM b) (PZ K) (0, 0)) 0 [(0, .ref (wB (wM b) + 347)), (1, .int v1)] [] (0, 0) σ
  refine J_iload_n o 1 d_X5_isHelper_0 rfl ?_
  refine J_iconst (v := 0) o d_X5_isHelper_1 iconst_0 ?_
  refine J_aload_n o 0 d_X5_isHelper_2 rfl ?_
  refine J_getR (t := 350) o fl_RX5_20 rfl (Nat.le_of_ble_eq_true rfl) (Nat.le_of_ble_eq_true rfl) rfl rfl d_X5_isHelper_3 ?_
  refine J_iconst (v := 3) o d_X5_isHelper_6 iconst_3 ?_
  have b7 := h.1
  replace h := h.2
  refine J_iald o A_350 (vpc (rfl : ln 350 = 1098) b7) d_X5_isHelper_7 ?_
  refine J_iconst (v := 1) o d_X5_isHelper_8 iconst_1 ?_
  refine J_isub o d_X5_isHelper_9 ?_
  refine J_callS o [.int v1, .int 0, .int ((σ 350 (3 : Int32).toNatClampNeg) - 1)] mth_X5_in st_X5_in ml_RX5_56 ⟨Nat.le_of_ble_eq_true rfl, Nat.le_of_ble_eq_true rfl⟩ rfl rfl (Nat.le_of_ble_eq_true rfl) ⟨Nat.le_refl _, Nat.le_refl _⟩ d_X5_isHelper_10 (w_X5_in (xL x) b  h) (aZ (fun r10 s10 hzr10 h => ?_))
  exact J_zret o hzr10 d_X5_isHelper_13 ⟨_, rfl, hzr10, h⟩
theorem d_X5_isCourse_0 : decode cX5_isCourse 0 = .ok (.iload_n 2, 1) := by decide +kernel
theorem d_X5_isCourse_1 : decode cX5_isCourse 1 = .ok (.iconst 0, 1) := by decide +kernel
theorem d_X5_isCourse_2 : decode cX5_isCourse 2 = .ok (.aload_n 0, 1) := by decide +kernel
theorem d_X5_isCourse_3 : decode cX5_isCourse 3 = .ok (.iload_n 1, 1) := by decide +kernel
theorem d_X5_isCourse_4 : decode cX5_isCourse 4 = .ok (.invokevirtual 235, 3) := by decide +kernel
theorem d_X5_isCourse_7 : decode cX5_isCourse 7 = .ok (.ifCond .eq 8, 3) := by decide +kernel
theorem d_X5_isCourse_10 : decode cX5_isCourse 10 = .ok (.bipush 8, 2) := by decide +kernel
theorem d_X5_isCourse_12 : decode cX5_isCourse 12 = .ok (.goto 4, 3) := by decide +kernel
theorem d_X5_isCourse_15 : decode cX5_isCourse 15 = .ok (.iconst 0, 1) := by decide +kernel
theorem d_X5_isCourse_16 : decode cX5_isCourse 16 = .ok (.invokestatic 56, 3) := by decide +kernel
theorem d_X5_isCourse_19 : decode cX5_isCourse 19 = .ok (.ireturn, 1) := by decide +kernel
abbrev rm_X5_isCourse : Room := { frames := 2, cells := 0, slots := 0, locals := 43 }
set_option maxHeartbeats 4000000 in
set_option maxRecDepth 20000 in
theorem w_X5_isCourse (l : Launch) (b : Wy) {v1 : Int32} {v2 : Int32} {σ : Sg} {K : Int32 → Sg → Prop}  (h : m_X5_isCourse v1 v2 σ K) : Ct l (wM b) yX5_isCourse cX5_isCourse 3 (some .boolean) rm_X5_isCourse [.ref (wB (wM b) + 347), .int v1, .int v2] σ (PZ K) := by
  unfold m_X5_isCourse at h
  refine Ct.of (own := RX5) (by decide +kernel) rfl (Nat.le_of_ble_eq_true rfl) (fun x hx o => ?_)
  subst hx
  show J x (wM b) (FinC x (wM b) (PZ K) (0, 0)) 0 [(0, .ref (wB (wM b) + 347)), (1, .int v1), (2, .int v2)] [] (0, 0) σ
  refine J_iload_n o 2 d_X5_isCourse_0 rfl ?_
  refine J_iconst (v := 0) o d_X5_isCourse_1 iconst_0 ?_
  refine J_aload_n o 0 d_X5_isCourse_2 rfl ?_
  refine J_iload_n o 1 d_X5_isCourse_3 rfl ?_
  refine J_callV (k := 347) (c := 5) o [.int v1] rfl (by decide) (Nat.le_of_ble_eq_true rfl) (Nat.le_of_ble_eq_true rfl) mth_X5_isHelper iv_X5_isHelper ml_RX5_235 ⟨Nat.le_of_ble_eq_true rfl, Nat.le_of_ble_eq_true rfl⟩ rfl rfl (Nat.le_of_ble_eq_true rfl) ⟨Nat.le_refl _, Nat.le_refl _⟩ d_X5_isCourse_4 (w_X5_isHelper (xL x) b  h) (aZ (fun r4 s4 hzr4 h => ?_))
  refine J_if_eq o 15 d_X5_isCourse_7 rfl (fun c7 => ?_) (fun c7 => ?_)
  · replace h := h.1 c7
    refine J_iconst (v := 0) o d_X5_isCourse_15 iconst_0 ?_
    refine J_callS o [.int v2, .int 0, .int 0] mth_X5_in st_X5_in ml_RX5_56 ⟨Nat.le_of_ble_eq_true rfl, Nat.le_of_ble_eq_true rfl⟩ rfl rfl (Nat.le_of_ble_eq_true rfl) ⟨Nat.le_refl _, Nat.le_refl _⟩ d_X5_isCourse_16 (w_X5_in (xL x) b  h) (aZ (fun r16 s16 hzr16 h => ?_))
    exact J_zret o hzr16 d_X5_isCourse_19 ⟨_, rfl, hzr16, h⟩
  · replace h := h.2 c7
    refine J_bipush (v := 8) o d_X5_isCourse_10 bipush_8 ?_
    refine J_goto o 16 d_X5_isCourse_12 rfl ?_
    refine J_callS o [.int v2, .int 0, .int 8] mth_X5_in st_X5_in ml_RX5_56 ⟨Nat.le_of_ble_eq_true rfl, Nat.le_of_ble_eq_true rfl⟩ rfl rfl (Nat.le_of_ble_eq_true rfl) ⟨Nat.le_refl _, Nat.le_refl _⟩ d_X5_isCourse_16 (w_X5_in (xL x) b  h) (aZ (fun r16 s16 hzr16 h => ?_))
    exact J_zret o hzr16 d_X5_isCourse_19 ⟨_, rfl, hzr16, h⟩
theorem d_X5_helperCell_0 : decode cX5_helperCell 0 = .ok (.aload_n 0, 1) := by decide +kernel
theorem d_X5_helperCell_1 : decode cX5_helperCell 1 = .ok (.getfield 20, 3) := by decide +kernel
theorem d_X5_helperCell_4 : decode cX5_helperCell 4 = .ok (.sipush 1089, 3) := by decide +kernel
theorem d_X5_helperCell_7 : decode cX5_helperCell 7 = .ok (.iconst 3, 1) := by decide +kernel
theorem d_X5_helperCell_8 : decode cX5_helperCell 8 = .ok (.iload_n 1, 1) := by decide +kernel
theorem d_X5_helperCell_9 : decode cX5_helperCell 9 = .ok (.imul, 1) := by decide +kernel
theorem d_X5_helperCell_10 : decode cX5_helperCell 10 = .ok (.iadd, 1) := by decide +kernel
theorem d_X5_helperCell_11 : decode cX5_helperCell 11 = .ok (.iaload, 1) := by decide +kernel
theorem d_X5_helperCell_12 : decode cX5_helperCell 12 = .ok (.aload_n 0, 1) := by decide +kernel
theorem d_X5_helperCell_13 : decode cX5_helperCell 13 = .ok (.getfield 20, 3) := by decide +kernel
theorem d_X5_helperCell_16 : decode cX5_helperCell 16 = .ok (.sipush 1089, 3) := by decide +kernel
theorem d_X5_helperCell_19 : decode cX5_helperCell 19 = .ok (.iconst 3, 1) := by decide +kernel
theorem d_X5_helperCell_20 : decode cX5_helperCell 20 = .ok (.iload_n 1, 1) := by decide +kernel
theorem d_X5_helperCell_21 : decode cX5_helperCell 21 = .ok (.imul, 1) := by decide +kernel
theorem d_X5_helperCell_22 : decode cX5_helperCell 22 = .ok (.iadd, 1) := by decide +kernel
theorem d_X5_helperCell_23 : decode cX5_helperCell 23 = .ok (.iconst 1, 1) := by decide +kernel
theorem d_X5_helperCell_24 : decode cX5_helperCell 24 = .ok (.iadd, 1) := by decide +kernel
theorem d_X5_helperCell_25 : decode cX5_helperCell 25 = .ok (.iaload, 1) := by decide +kernel
theorem d_X5_helperCell_26 : decode cX5_helperCell 26 = .ok (.invokestatic 71, 3) := by decide +kernel
theorem d_X5_helperCell_29 : decode cX5_helperCell 29 = .ok (.ireturn, 1) := by decide +kernel
abbrev rm_X5_helperCell : Room := { frames := 1, cells := 0, slots := 0, locals := 21 }
set_option maxHeartbeats 4000000 in
set_option maxRecDepth 20000 in
theorem w_X5_helperCell (l : Launch) (b : Wy) {v1 : Int32} {σ : Sg} {K : Int32 → Sg → Prop}  (h : m_X5_helperCell v1 σ K) : Ct l (wM b) yX5_helperCell cX5_helperCell 2 (some .int) rm_X5_helperCell [.ref (wB (wM b) + 347), .int v1] σ (PI K) := by
  unfold m_X5_helperCell at h
  refine Ct.of (own := RX5) (by decide +kernel) rfl (Nat.le_of_ble_eq_true rfl) (fun x hx o => ?_)
  subst hx
  show J x (wM b) (FinC x (wM b) (PI K) (0, 0)) 0 [(0, .ref (wB (wM b) + 347)), (1, .int v1)] [] (0, 0) σ
  refine J_aload_n o 0 d_X5_helperCell_0 rfl ?_
  refine J_getR (t := 350) o fl_RX5_20 rfl (Nat.le_of_ble_eq_true rfl) (Nat.le_of_ble_eq_true rfl) rfl rfl d_X5_helperCell_1 ?_
  refine J_sipush (v := 1089) o d_X5_helperCell_4 sipush_1089 ?_
  refine J_iconst (v := 3) o d_X5_helperCell_7 iconst_3 ?_
  refine J_iload_n o 1 d_X5_helperCell_8 rfl ?_
  refine J_imul o d_X5_helperCell_9 ?_
  refine J_iadd o d_X5_helperCell_10 ?_
  have b11 := h.1
  replace h := h.2
  refine J_iald o A_350 (vpc (rfl : ln 350 = 1098) b11) d_X5_helperCell_11 ?_
  refine J_aload_n o 0 d_X5_helperCell_12 rfl ?_
  refine J_getR (t := 350) o fl_RX5_20 rfl (Nat.le_of_ble_eq_true rfl) (Nat.le_of_ble_eq_true rfl) rfl rfl d_X5_helperCell_13 ?_
  refine J_sipush (v := 1089) o d_X5_helperCell_16 sipush_1089 ?_
  refine J_iconst (v := 3) o d_X5_helperCell_19 iconst_3 ?_
  refine J_iload_n o 1 d_X5_helperCell_20 rfl ?_
  refine J_imul o d_X5_helperCell_21 ?_
  refine J_iadd o d_X5_helperCell_22 ?_
  refine J_iconst (v := 1) o d_X5_helperCell_23 iconst_1 ?_
  refine J_iadd o d_X5_helperCell_24 ?_
  have b25 := h.1
  replace h := h.2
  refine J_iald o A_350 (vpc (rfl : ln 350 = 1098) b25) d_X5_helperCell_25 ?_
  refine J_callS o [.int (σ 350 (1089 + (3 * v1)).toNatClampNeg), .int (σ 350 ((1089 + (3 * v1)) + 1).toNatClampNeg)] mth_X5_cellAt st_X5_cellAt ml_RX5_71 ⟨Nat.le_of_ble_eq_true rfl, Nat.le_of_ble_eq_true rfl⟩ rfl rfl (Nat.le_of_ble_eq_true rfl) ⟨Nat.le_refl _, Nat.le_refl _⟩ d_X5_helperCell_26 (w_X5_cellAt (xL x) b  h) (aI (fun r26 s26 h => ?_))
  exact J_iret o d_X5_helperCell_29 ⟨_, rfl, h⟩
theorem d_X5_eastOf_0 : decode cX5_eastOf 0 = .ok (.iload_n 0, 1) := by decide +kernel
theorem d_X5_eastOf_1 : decode cX5_eastOf 1 = .ok (.ifCond .eq 13, 3) := by decide +kernel
theorem d_X5_eastOf_4 : decode cX5_eastOf 4 = .ok (.iload_n 0, 1) := by decide +kernel
theorem d_X5_eastOf_5 : decode cX5_eastOf 5 = .ok (.iconst 1, 1) := by decide +kernel
theorem d_X5_eastOf_6 : decode cX5_eastOf 6 = .ok (.if_icmp .eq 8, 3) := by decide +kernel
theorem d_X5_eastOf_9 : decode cX5_eastOf 9 = .ok (.iload_n 0, 1) := by decide +kernel
theorem d_X5_eastOf_10 : decode cX5_eastOf 10 = .ok (.iconst 5, 1) := by decide +kernel
theorem d_X5_eastOf_11 : decode cX5_eastOf 11 = .ok (.if_icmp .ne 7, 3) := by decide +kernel
theorem d_X5_eastOf_14 : decode cX5_eastOf 14 = .ok (.iconst 0, 1) := by decide +kernel
theorem d_X5_eastOf_15 : decode cX5_eastOf 15 = .ok (.goto 13, 3) := by decide +kernel
theorem d_X5_eastOf_18 : decode cX5_eastOf 18 = .ok (.iload_n 0, 1) := by decide +kernel
theorem d_X5_eastOf_19 : decode cX5_eastOf 19 = .ok (.iconst 5, 1) := by decide +kernel
theorem d_X5_eastOf_20 : decode cX5_eastOf 20 = .ok (.if_icmp .ge 7, 3) := by decide +kernel
theorem d_X5_eastOf_23 : decode cX5_eastOf 23 = .ok (.iconst 1, 1) := by decide +kernel
theorem d_X5_eastOf_24 : decode cX5_eastOf 24 = .ok (.goto 4, 3) := by decide +kernel
theorem d_X5_eastOf_27 : decode cX5_eastOf 27 = .ok (.iconst (-1), 1) := by decide +kernel
theorem d_X5_eastOf_28 : decode cX5_eastOf 28 = .ok (.ireturn, 1) := by decide +kernel
abbrev rm_X5_eastOf : Room := { frames := 0, cells := 0, slots := 0, locals := 0 }
set_option maxHeartbeats 4000000 in
set_option maxRecDepth 20000 in
theorem w_X5_eastOf (l : Launch) (b : Wy) {v0 : Int32} {σ : Sg} {K : Int32 → Sg → Prop}  (h : m_X5_eastOf v0 σ K) : Ct l (wM b) yX5_eastOf cX5_eastOf 1 (some .int) rm_X5_eastOf [.int v0] σ (PI K) := by
  unfold m_X5_eastOf at h
  refine Ct.of (own := RX5) (by decide +kernel) rfl (Nat.le_of_ble_eq_true rfl) (fun x hx o => ?_)
  subst hx
  show J x (wM b) (FinC x (wM b) (PI K) (0, 0)) 0 [(0, .int v0)] [] (0, 0) σ
  refine J_iload_n o 0 d_X5_eastOf_0 rfl ?_
  refine J_if_eq o 14 d_X5_eastOf_1 rfl (fun c1 => ?_) (fun c1 => ?_)
  · replace h := h.1 c1
    refine J_iconst (v := 0) o d_X5_eastOf_14 iconst_0 ?_
    refine J_goto o 28 d_X5_eastOf_15 rfl ?_
    exact J_iret o d_X5_eastOf_28 ⟨_, rfl, h⟩
  · replace h := h.2 c1
    refine J_iload_n o 0 d_X5_eastOf_4 rfl ?_
    refine J_iconst (v := 1) o d_X5_eastOf_5 iconst_1 ?_
    refine J_icmp_eq o 14 d_X5_eastOf_6 rfl (fun c6 => ?_) (fun c6 => ?_)
    · replace h := h.1 c6
      refine J_iconst (v := 0) o d_X5_eastOf_14 iconst_0 ?_
      refine J_goto o 28 d_X5_eastOf_15 rfl ?_
      exact J_iret o d_X5_eastOf_28 ⟨_, rfl, h⟩
    · replace h := h.2 c6
      refine J_iload_n o 0 d_X5_eastOf_9 rfl ?_
      refine J_iconst (v := 5) o d_X5_eastOf_10 iconst_5 ?_
      refine J_icmp_ne o 18 d_X5_eastOf_11 rfl (fun c11 => ?_) (fun c11 => ?_)
      · replace h := h.1 c11
        refine J_iload_n o 0 d_X5_eastOf_18 rfl ?_
        refine J_iconst (v := 5) o d_X5_eastOf_19 iconst_5 ?_
        refine J_icmp_ge o 27 d_X5_eastOf_20 rfl (fun c20 => ?_) (fun c20 => ?_)
        · replace h := h.1 c20
          refine J_iconst (v := (-1)) o d_X5_eastOf_27 iconst_m1 ?_
          exact J_iret o d_X5_eastOf_28 ⟨_, rfl, h⟩
        · replace h := h.2 c20
          refine J_iconst (v := 1) o d_X5_eastOf_23 iconst_1 ?_
          refine J_goto o 28 d_X5_eastOf_24 rfl ?_
          exact J_iret o d_X5_eastOf_28 ⟨_, rfl, h⟩
      · replace h := h.2 c11
        refine J_iconst (v := 0) o d_X5_eastOf_14 iconst_0 ?_
        refine J_goto o 28 d_X5_eastOf_15 rfl ?_
        exact J_iret o d_X5_eastOf_28 ⟨_, rfl, h⟩
theorem d_X5_northOf_0 : decode cX5_northOf 0 = .ok (.iload_n 0, 1) := by decide +kernel
theorem d_X5_northOf_1 : decode cX5_northOf 1 = .ok (.ifCond .eq 14, 3) := by decide +kernel
theorem d_X5_northOf_4 : decode cX5_northOf 4 = .ok (.iload_n 0, 1) := by decide +kernel
theorem d_X5_northOf_5 : decode cX5_northOf 5 = .ok (.iconst 3, 1) := by decide +kernel
theorem d_X5_northOf_6 : decode cX5_northOf 6 = .ok (.if_icmp .eq 9, 3) := by decide +kernel
theorem d_X5_northOf_9 : decode cX5_northOf 9 = .ok (.iload_n 0, 1) := by decide +kernel
theorem d_X5_northOf_10 : decode cX5_northOf 10 = .ok (.bipush 7, 2) := by decide +kernel
theorem d_X5_northOf_12 : decode cX5_northOf 12 = .ok (.if_icmp .ne 7, 3) := by decide +kernel
theorem d_X5_northOf_15 : decode cX5_northOf 15 = .ok (.iconst 0, 1) := by decide +kernel
theorem d_X5_northOf_16 : decode cX5_northOf 16 = .ok (.goto 19, 3) := by decide +kernel
theorem d_X5_northOf_19 : decode cX5_northOf 19 = .ok (.iload_n 0, 1) := by decide +kernel
theorem d_X5_northOf_20 : decode cX5_northOf 20 = .ok (.iconst 3, 1) := by decide +kernel
theorem d_X5_northOf_21 : decode cX5_northOf 21 = .ok (.if_icmp .le 13, 3) := by decide +kernel
theorem d_X5_northOf_24 : decode cX5_northOf 24 = .ok (.iload_n 0, 1) := by decide +kernel
theorem d_X5_northOf_25 : decode cX5_northOf 25 = .ok (.bipush 7, 2) := by decide +kernel
theorem d_X5_northOf_27 : decode cX5_northOf 27 = .ok (.if_icmp .ge 7, 3) := by decide +kernel
theorem d_X5_northOf_30 : decode cX5_northOf 30 = .ok (.iconst (-1), 1) := by decide +kernel
theorem d_X5_northOf_31 : decode cX5_northOf 31 = .ok (.goto 4, 3) := by decide +kernel
theorem d_X5_northOf_34 : decode cX5_northOf 34 = .ok (.iconst 1, 1) := by decide +kernel
theorem d_X5_northOf_35 : decode cX5_northOf 35 = .ok (.ireturn, 1) := by decide +kernel
abbrev rm_X5_northOf : Room := { frames := 0, cells := 0, slots := 0, locals := 0 }
set_option maxHeartbeats 4000000 in
set_option maxRecDepth 20000 in
theorem w_X5_northOf (l : Launch) (b : Wy) {v0 : Int32} {σ : Sg} {K : Int32 → Sg → Prop}  (h : m_X5_northOf v0 σ K) : Ct l (wM b) yX5_northOf cX5_northOf 1 (some .int) rm_X5_northOf [.int v0] σ (PI K) := by
  unfold m_X5_northOf at h
  refine Ct.of (own := RX5) (by decide +kernel) rfl (Nat.le_of_ble_eq_true rfl) (fun x hx o => ?_)
  subst hx
  show J x (wM b) (FinC x (wM b) (PI K) (0, 0)) 0 [(0, .int v0)] [] (0, 0) σ
  refine J_iload_n o 0 d_X5_northOf_0 rfl ?_
  refine J_if_eq o 15 d_X5_northOf_1 rfl (fun c1 => ?_) (fun c1 => ?_)
  · replace h := h.1 c1
    refine J_iconst (v := 0) o d_X5_northOf_15 iconst_0 ?_
    refine J_goto o 35 d_X5_northOf_16 rfl ?_
    exact J_iret o d_X5_northOf_35 ⟨_, rfl, h⟩
  · replace h := h.2 c1
    refine J_iload_n o 0 d_X5_northOf_4 rfl ?_
    refine J_iconst (v := 3) o d_X5_northOf_5 iconst_3 ?_
    refine J_icmp_eq o 15 d_X5_northOf_6 rfl (fun c6 => ?_) (fun c6 => ?_)
    · replace h := h.1 c6
      refine J_iconst (v := 0) o d_X5_northOf_15 iconst_0 ?_
      refine J_goto o 35 d_X5_northOf_16 rfl ?_
      exact J_iret o d_X5_northOf_35 ⟨_, rfl, h⟩
    · replace h := h.2 c6
      refine J_iload_n o 0 d_X5_northOf_9 rfl ?_
      refine J_bipush (v := 7) o d_X5_northOf_10 bipush_7 ?_
      refine J_icmp_ne o 19 d_X5_northOf_12 rfl (fun c12 => ?_) (fun c12 => ?_)
      · replace h := h.1 c12
        refine J_iload_n o 0 d_X5_northOf_19 rfl ?_
        refine J_iconst (v := 3) o d_X5_northOf_20 iconst_3 ?_
        refine J_icmp_le o 34 d_X5_northOf_21 rfl (fun c21 => ?_) (fun c21 => ?_)
        · replace h := h.1 c21
          refine J_iconst (v := 1) o d_X5_northOf_34 iconst_1 ?_
          exact J_iret o d_X5_northOf_35 ⟨_, rfl, h⟩
        · replace h := h.2 c21
          refine J_iload_n o 0 d_X5_northOf_24 rfl ?_
          refine J_bipush (v := 7) o d_X5_northOf_25 bipush_7 ?_
          refine J_icmp_ge o 34 d_X5_northOf_27 rfl (fun c27 => ?_) (fun c27 => ?_)
          · replace h := h.1 c27
            refine J_iconst (v := 1) o d_X5_northOf_34 iconst_1 ?_
            exact J_iret o d_X5_northOf_35 ⟨_, rfl, h⟩
          · replace h := h.2 c27
            refine J_iconst (v := (-1)) o d_X5_northOf_30 iconst_m1 ?_
            refine J_goto o 35 d_X5_northOf_31 rfl ?_
            exact J_iret o d_X5_northOf_35 ⟨_, rfl, h⟩
      · replace h := h.2 c12
        refine J_iconst (v := 0) o d_X5_northOf_15 iconst_0 ?_
        refine J_goto o 35 d_X5_northOf_16 rfl ?_
        exact J_iret o d_X5_northOf_35 ⟨_, rfl, h⟩
theorem d_X5_isOn_0 : decode cX5_isOn 0 = .ok (.iload_n 1, 1) := by decide +kernel
theorem d_X5_isOn_1 : decode cX5_isOn 1 = .ok (.iconst 0, 1) := by decide +kernel
theorem d_X5_isOn_2 : decode cX5_isOn 2 = .ok (.aload_n 0, 1) := by decide +kernel
theorem d_X5_isOn_3 : decode cX5_isOn 3 = .ok (.iconst 0, 1) := by decide +kernel
theorem d_X5_isOn_4 : decode cX5_isOn 4 = .ok (.iaload, 1) := by decide +kernel
theorem d_X5_isOn_5 : decode cX5_isOn 5 = .ok (.iconst 1, 1) := by decide +kernel
theorem d_X5_isOn_6 : decode cX5_isOn 6 = .ok (.isub, 1) := by decide +kernel
theorem d_X5_isOn_7 : decode cX5_isOn 7 = .ok (.invokestatic 56, 3) := by decide +kernel
theorem d_X5_isOn_10 : decode cX5_isOn 10 = .ok (.ifCond .eq 20, 3) := by decide +kernel
theorem d_X5_isOn_13 : decode cX5_isOn 13 = .ok (.iload_n 2, 1) := by decide +kernel
theorem d_X5_isOn_14 : decode cX5_isOn 14 = .ok (.iconst 0, 1) := by decide +kernel
theorem d_X5_isOn_15 : decode cX5_isOn 15 = .ok (.aload_n 0, 1) := by decide +kernel
theorem d_X5_isOn_16 : decode cX5_isOn 16 = .ok (.iconst 1, 1) := by decide +kernel
theorem d_X5_isOn_17 : decode cX5_isOn 17 = .ok (.iaload, 1) := by decide +kernel
theorem d_X5_isOn_18 : decode cX5_isOn 18 = .ok (.iconst 1, 1) := by decide +kernel
theorem d_X5_isOn_19 : decode cX5_isOn 19 = .ok (.isub, 1) := by decide +kernel
theorem d_X5_isOn_20 : decode cX5_isOn 20 = .ok (.invokestatic 56, 3) := by decide +kernel
theorem d_X5_isOn_23 : decode cX5_isOn 23 = .ok (.ifCond .eq 7, 3) := by decide +kernel
theorem d_X5_isOn_26 : decode cX5_isOn 26 = .ok (.iconst 1, 1) := by decide +kernel
theorem d_X5_isOn_27 : decode cX5_isOn 27 = .ok (.goto 4, 3) := by decide +kernel
theorem d_X5_isOn_30 : decode cX5_isOn 30 = .ok (.iconst 0, 1) := by decide +kernel
theorem d_X5_isOn_31 : decode cX5_isOn 31 = .ok (.ireturn, 1) := by decide +kernel
abbrev rm_X5_isOn : Room := { frames := 1, cells := 0, slots := 0, locals := 22 }
set_option maxHeartbeats 4000000 in
set_option maxRecDepth 20000 in
theorem w_X5_isOn (l : Launch) (b : Wy) {v0 : Nat} {v1 : Int32} {v2 : Int32} {σ : Sg} {K : Int32 → Sg → Prop} (hv0 : IsA (wM b) v0) (h : m_X5_isOn v0 v1 v2 σ K) : Ct l (wM b) yX5_isOn cX5_isOn 3 (some .boolean) rm_X5_isOn [.ref (wB (wM b) + v0), .int v1, .int v2] σ (PZ K) := by
  unfold m_X5_isOn at h
  refine Ct.of (own := RX5) (by decide +kernel) rfl (Nat.le_of_ble_eq_true rfl) (fun x hx o => ?_)
  subst hx
  show J x (wM b) (FinC x (wM b) (PZ K) (0, 0)) 0 [(0, .ref (wB (wM b) + v0)), (1, .int v1), (2, .int v2)] [] (0, 0) σ
  refine J_iload_n o 1 d_X5_isOn_0 rfl ?_
  refine J_iconst (v := 0) o d_X5_isOn_1 iconst_0 ?_
  refine J_aload_n o 0 d_X5_isOn_2 rfl ?_
  refine J_iconst (v := 0) o d_X5_isOn_3 iconst_0 ?_
  have b4 := h.1
  replace h := h.2
  refine J_iald o hv0 (vpc rfl b4) d_X5_isOn_4 ?_
  refine J_iconst (v := 1) o d_X5_isOn_5 iconst_1 ?_
  refine J_isub o d_X5_isOn_6 ?_
  refine J_callS o [.int v1, .int 0, .int ((σ v0 (0 : Int32).toNatClampNeg) - 1)] mth_X5_in st_X5_in ml_RX5_56 ⟨Nat.le_of_ble_eq_true rfl, Nat.le_of_ble_eq_true rfl⟩ rfl rfl (Nat.le_of_ble_eq_true rfl) ⟨Nat.le_refl _, Nat.le_refl _⟩ d_X5_isOn_7 (w_X5_in (xL x) b  h) (aZ (fun r7 s7 hzr7 h => ?_))
  refine J_if_eq o 30 d_X5_isOn_10 rfl (fun c10 => ?_) (fun c10 => ?_)
  · replace h := h.1 c10
    refine J_iconst (v := 0) o d_X5_isOn_30 iconst_0 ?_
    exact J_zret o (Or.inl rfl) d_X5_isOn_31 ⟨_, rfl, (Or.inl rfl), h⟩
  · replace h := h.2 c10
    refine J_iload_n o 2 d_X5_isOn_13 rfl ?_
    refine J_iconst (v := 0) o d_X5_isOn_14 iconst_0 ?_
    refine J_aload_n o 0 d_X5_isOn_15 rfl ?_
    refine J_iconst (v := 1) o d_X5_isOn_16 iconst_1 ?_
    have b17 := h.1
    replace h := h.2
    refine J_iald o hv0 (vpc rfl b17) d_X5_isOn_17 ?_
    refine J_iconst (v := 1) o d_X5_isOn_18 iconst_1 ?_
    refine J_isub o d_X5_isOn_19 ?_
    refine J_callS o [.int v2, .int 0, .int ((s7 v0 (1 : Int32).toNatClampNeg) - 1)] mth_X5_in st_X5_in ml_RX5_56 ⟨Nat.le_of_ble_eq_true rfl, Nat.le_of_ble_eq_true rfl⟩ rfl rfl (Nat.le_of_ble_eq_true rfl) ⟨Nat.le_refl _, Nat.le_refl _⟩ d_X5_isOn_20 (w_X5_in (xL x) b  h) (aZ (fun r20 s20 hzr20 h => ?_))
    refine J_if_eq o 30 d_X5_isOn_23 rfl (fun c23 => ?_) (fun c23 => ?_)
    · replace h := h.1 c23
      refine J_iconst (v := 0) o d_X5_isOn_30 iconst_0 ?_
      exact J_zret o (Or.inl rfl) d_X5_isOn_31 ⟨_, rfl, (Or.inl rfl), h⟩
    · replace h := h.2 c23
      refine J_iconst (v := 1) o d_X5_isOn_26 iconst_1 ?_
      refine J_goto o 31 d_X5_isOn_27 rfl ?_
      exact J_zret o (Or.inr rfl) d_X5_isOn_31 ⟨_, rfl, (Or.inr rfl), h⟩
theorem d_X5_goes_0 : decode cX5_goes 0 = .ok (.iload_n 1, 1) := by decide +kernel
theorem d_X5_goes_1 : decode cX5_goes 1 = .ok (.bipush 20, 2) := by decide +kernel
theorem d_X5_goes_3 : decode cX5_goes 3 = .ok (.irem, 1) := by decide +kernel
theorem d_X5_goes_4 : decode cX5_goes 4 = .ok (.iload_n 2, 1) := by decide +kernel
theorem d_X5_goes_5 : decode cX5_goes 5 = .ok (.invokestatic 60, 3) := by decide +kernel
theorem d_X5_goes_8 : decode cX5_goes 8 = .ok (.iadd, 1) := by decide +kernel
theorem d_X5_goes_9 : decode cX5_goes 9 = .ok (.istore_n 3, 1) := by decide +kernel
theorem d_X5_goes_10 : decode cX5_goes 10 = .ok (.iload_n 1, 1) := by decide +kernel
theorem d_X5_goes_11 : decode cX5_goes 11 = .ok (.bipush 20, 2) := by decide +kernel
theorem d_X5_goes_13 : decode cX5_goes 13 = .ok (.idiv, 1) := by decide +kernel
theorem d_X5_goes_14 : decode cX5_goes 14 = .ok (.iload_n 2, 1) := by decide +kernel
theorem d_X5_goes_15 : decode cX5_goes 15 = .ok (.invokestatic 64, 3) := by decide +kernel
theorem d_X5_goes_18 : decode cX5_goes 18 = .ok (.iadd, 1) := by decide +kernel
theorem d_X5_goes_19 : decode cX5_goes 19 = .ok (.istore 4, 2) := by decide +kernel
theorem d_X5_goes_21 : decode cX5_goes 21 = .ok (.iload_n 2, 1) := by decide +kernel
theorem d_X5_goes_22 : decode cX5_goes 22 = .ok (.ifCond .le 32, 3) := by decide +kernel
theorem d_X5_goes_25 : decode cX5_goes 25 = .ok (.aload_n 0, 1) := by decide +kernel
theorem d_X5_goes_26 : decode cX5_goes 26 = .ok (.iload_n 3, 1) := by decide +kernel
theorem d_X5_goes_27 : decode cX5_goes 27 = .ok (.iload 4, 2) := by decide +kernel
theorem d_X5_goes_29 : decode cX5_goes 29 = .ok (.invokestatic 67, 3) := by decide +kernel
theorem d_X5_goes_32 : decode cX5_goes 32 = .ok (.ifCond .eq 22, 3) := by decide +kernel
theorem d_X5_goes_35 : decode cX5_goes 35 = .ok (.aload_n 0, 1) := by decide +kernel
theorem d_X5_goes_36 : decode cX5_goes 36 = .ok (.sipush 609, 3) := by decide +kernel
theorem d_X5_goes_39 : decode cX5_goes 39 = .ok (.iload_n 3, 1) := by decide +kernel
theorem d_X5_goes_40 : decode cX5_goes 40 = .ok (.iload 4, 2) := by decide +kernel
theorem d_X5_goes_42 : decode cX5_goes 42 = .ok (.invokestatic 71, 3) := by decide +kernel
theorem d_X5_goes_45 : decode cX5_goes 45 = .ok (.iadd, 1) := by decide +kernel
theorem d_X5_goes_46 : decode cX5_goes 46 = .ok (.iaload, 1) := by decide +kernel
theorem d_X5_goes_47 : decode cX5_goes 47 = .ok (.ifCond .ne 7, 3) := by decide +kernel
theorem d_X5_goes_50 : decode cX5_goes 50 = .ok (.iconst 1, 1) := by decide +kernel
theorem d_X5_goes_51 : decode cX5_goes 51 = .ok (.goto 4, 3) := by decide +kernel
theorem d_X5_goes_54 : decode cX5_goes 54 = .ok (.iconst 0, 1) := by decide +kernel
theorem d_X5_goes_55 : decode cX5_goes 55 = .ok (.ireturn, 1) := by decide +kernel
abbrev rm_X5_goes : Room := { frames := 2, cells := 0, slots := 0, locals := 44 }
set_option maxHeartbeats 4000000 in
set_option maxRecDepth 20000 in
theorem w_X5_goes (l : Launch) (b : Wy) {v0 : Nat} {v1 : Int32} {v2 : Int32} {σ : Sg} {K : Int32 → Sg → Prop} (hv0 : IsA (wM b) v0) (h : m_X5_goes v0 v1 v2 σ K) : Ct l (wM b) yX5_goes cX5_goes 5 (some .boolean) rm_X5_goes [.ref (wB (wM b) + v0), .int v1, .int v2] σ (PZ K) := by
  unfold m_X5_goes at h
  refine Ct.of (own := RX5) (by decide +kernel) rfl (Nat.le_of_ble_eq_true rfl) (fun x hx o => ?_)
  subst hx
  show J x (wM b) (FinC x (wM b) (PZ K) (0, 0)) 0 [(0, .ref (wB (wM b) + v0)), (1, .int v1), (2, .int v2)] [] (0, 0) σ
  refine J_iload_n o 1 d_X5_goes_0 rfl ?_
  refine J_bipush (v := 20) o d_X5_goes_1 bipush_20 ?_
  refine J_irem o d_X5_goes_3 (by decide) ?_
  refine J_iload_n o 2 d_X5_goes_4 rfl ?_
  refine J_callS o [.int v2] mth_X5_eastOf st_X5_eastOf ml_RX5_60 ⟨Nat.le_of_ble_eq_true rfl, Nat.le_of_ble_eq_true rfl⟩ rfl rfl (Nat.le_of_ble_eq_true rfl) ⟨Nat.le_refl _, Nat.le_refl _⟩ d_X5_goes_5 (w_X5_eastOf (xL x) b  h) (aI (fun r5 s5 h => ?_))
  refine J_iadd o d_X5_goes_8 ?_
  refine J_top (fun l3_9 el3_9 => ?_)
  replace h := h l3_9 el3_9
  refine J_istore_n (lv' := [(3, .int l3_9), (0, .ref (wB (wM b) + v0)), (1, .int v1), (2, .int v2)]) o d_X5_goes_9 (by decide) rfl ?_
  refine J_iload_n o 2 d_X5_goes_10 rfl ?_
  refine J_bipush (v := 20) o d_X5_goes_11 bipush_20 ?_
  refine J_idiv o d_X5_goes_13 (by decide) ?_
  refine J_iload_n o 3 d_X5_goes_14 rfl ?_
  refine J_callS o [.int v2] mth_X5_northOf st_X5_northOf ml_RX5_64 ⟨Nat.le_of_ble_eq_true rfl, Nat.le_of_ble_eq_true rfl⟩ rfl rfl (Nat.le_of_ble_eq_true rfl) ⟨Nat.le_refl _, Nat.le_refl _⟩ d_X5_goes_15 (w_X5_northOf (xL x) b  h) (aI (fun r15 s15 h => ?_))
  refine J_iadd o d_X5_goes_18 ?_
  refine J_top (fun l4_19 el4_19 => ?_)
  replace h := h l4_19 el4_19
  refine J_istore (lv' := [(4, .int l4_19), (3, .int l3_9), (0, .ref (wB (wM b) + v0)), (1, .int v1), (2, .int v2)]) o d_X5_goes_19 (by decide) rfl ?_
  refine J_iload_n o 4 d_X5_goes_21 rfl ?_
  refine J_if_le o 54 d_X5_goes_22 rfl (fun c22 => ?_) (fun c22 => ?_)
  · replace h := h.1 c22
    refine J_iconst (v := 0) o d_X5_goes_54 iconst_0 ?_
    exact J_zret o (Or.inl rfl) d_X5_goes_55 ⟨_, rfl, (Or.inl rfl), h⟩
  · replace h := h.2 c22
    refine J_aload_n o 2 d_X5_goes_25 rfl ?_
    refine J_iload_n o 1 d_X5_goes_26 rfl ?_
    refine J_iload o 0 d_X5_goes_27 rfl ?_
    refine J_callS o [.ref (wB (wM b) + v0), .int l3_9, .int l4_19] mth_X5_isOn st_X5_isOn ml_RX5_67 ⟨Nat.le_of_ble_eq_true rfl, Nat.le_of_ble_eq_true rfl⟩ rfl rfl (Nat.le_of_ble_eq_true rfl) ⟨Nat.le_refl _, Nat.le_refl _⟩ d_X5_goes_29 (w_X5_isOn (xL x) b hv0 h) (aZ (fun r29 s29 hzr29 h => ?_))
    refine J_if_eq o 54 d_X5_goes_32 rfl (fun c32 => ?_) (fun c32 => ?_)
    · replace h := h.1 c32
      refine J_iconst (v := 0) o d_X5_goes_54 iconst_0 ?_
      exact J_zret o (Or.inl rfl) d_X5_goes_55 ⟨_, rfl, (Or.inl rfl), h⟩
    · replace h := h.2 c32
      refine J_aload_n o 2 d_X5_goes_35 rfl ?_
      refine J_sipush (v := 609) o d_X5_goes_36 sipush_609 ?_
      refine J_iload_n o 1 d_X5_goes_39 rfl ?_
      refine J_iload o 0 d_X5_goes_40 rfl ?_
      refine J_callS o [.int l3_9, .int l4_19] mth_X5_cellAt st_X5_cellAt ml_RX5_71 ⟨Nat.le_of_ble_eq_true rfl, Nat.le_of_ble_eq_true rfl⟩ rfl rfl (Nat.le_of_ble_eq_true rfl) ⟨Nat.le_refl _, Nat.le_refl _⟩ d_X5_goes_42 (w_X5_cellAt (xL x) b  h) (aI (fun r42 s42 h => ?_))
      refine J_iadd o d_X5_goes_45 ?_
      have b46 := h.1
      replace h := h.2
      refine J_iald o hv0 (vpc rfl b46) d_X5_goes_46 ?_
      refine J_if_ne o 54 d_X5_goes_47 rfl (fun c47 => ?_) (fun c47 => ?_)
      · replace h := h.1 c47
        refine J_iconst (v := 0) o d_X5_goes_54 iconst_0 ?_
        exact J_zret o (Or.inl rfl) d_X5_goes_55 ⟨_, rfl, (Or.inl rfl), h⟩
      · replace h := h.2 c47
        refine J_iconst (v := 1) o d_X5_goes_50 iconst_1 ?_
        refine J_goto o 55 d_X5_goes_51 rfl ?_
        exact J_zret o (Or.inr rfl) d_X5_goes_55 ⟨_, rfl, (Or.inr rfl), h⟩
theorem d_X5_windOf_0 : decode cX5_windOf 0 = .ok (.aload_n 0, 1) := by decide +kernel
theorem d_X5_windOf_1 : decode cX5_windOf 1 = .ok (.bipush 48, 2) := by decide +kernel
theorem d_X5_windOf_3 : decode cX5_windOf 3 = .ok (.iload_n 1, 1) := by decide +kernel
theorem d_X5_windOf_4 : decode cX5_windOf 4 = .ok (.iadd, 1) := by decide +kernel
theorem d_X5_windOf_5 : decode cX5_windOf 5 = .ok (.iaload, 1) := by decide +kernel
theorem d_X5_windOf_6 : decode cX5_windOf 6 = .ok (.iconst (-1), 1) := by decide +kernel
theorem d_X5_windOf_7 : decode cX5_windOf 7 = .ok (.if_icmp .eq 12, 3) := by decide +kernel
theorem d_X5_windOf_10 : decode cX5_windOf 10 = .ok (.aload_n 0, 1) := by decide +kernel
theorem d_X5_windOf_11 : decode cX5_windOf 11 = .ok (.bipush 48, 2) := by decide +kernel
theorem d_X5_windOf_13 : decode cX5_windOf 13 = .ok (.iload_n 1, 1) := by decide +kernel
theorem d_X5_windOf_14 : decode cX5_windOf 14 = .ok (.iadd, 1) := by decide +kernel
theorem d_X5_windOf_15 : decode cX5_windOf 15 = .ok (.iaload, 1) := by decide +kernel
theorem d_X5_windOf_16 : decode cX5_windOf 16 = .ok (.goto 25, 3) := by decide +kernel
theorem d_X5_windOf_19 : decode cX5_windOf 19 = .ok (.aload_n 0, 1) := by decide +kernel
theorem d_X5_windOf_20 : decode cX5_windOf 20 = .ok (.bipush 10, 2) := by decide +kernel
theorem d_X5_windOf_22 : decode cX5_windOf 22 = .ok (.iaload, 1) := by decide +kernel
theorem d_X5_windOf_23 : decode cX5_windOf 23 = .ok (.ifCond .ne 7, 3) := by decide +kernel
theorem d_X5_windOf_26 : decode cX5_windOf 26 = .ok (.iconst 0, 1) := by decide +kernel
theorem d_X5_windOf_27 : decode cX5_windOf 27 = .ok (.goto 14, 3) := by decide +kernel
theorem d_X5_windOf_30 : decode cX5_windOf 30 = .ok (.aload_n 0, 1) := by decide +kernel
theorem d_X5_windOf_31 : decode cX5_windOf 31 = .ok (.bipush 12, 2) := by decide +kernel
theorem d_X5_windOf_33 : decode cX5_windOf 33 = .ok (.iload_n 1, 1) := by decide +kernel
theorem d_X5_windOf_34 : decode cX5_windOf 34 = .ok (.aload_n 0, 1) := by decide +kernel
theorem d_X5_windOf_35 : decode cX5_windOf 35 = .ok (.bipush 10, 2) := by decide +kernel
theorem d_X5_windOf_37 : decode cX5_windOf 37 = .ok (.iaload, 1) := by decide +kernel
theorem d_X5_windOf_38 : decode cX5_windOf 38 = .ok (.irem, 1) := by decide +kernel
theorem d_X5_windOf_39 : decode cX5_windOf 39 = .ok (.iadd, 1) := by decide +kernel
theorem d_X5_windOf_40 : decode cX5_windOf 40 = .ok (.iaload, 1) := by decide +kernel
theorem d_X5_windOf_41 : decode cX5_windOf 41 = .ok (.ireturn, 1) := by decide +kernel
abbrev rm_X5_windOf : Room := { frames := 0, cells := 0, slots := 0, locals := 0 }
set_option maxHeartbeats 4000000 in
set_option maxRecDepth 20000 in
theorem w_X5_windOf (l : Launch) (b : Wy) {v0 : Nat} {v1 : Int32} {σ : Sg} {K : Int32 → Sg → Prop} (hv0 : IsA (wM b) v0) (h : m_X5_windOf v0 v1 σ K) : Ct l (wM b) yX5_windOf cX5_windOf 2 (some .int) rm_X5_windOf [.ref (wB (wM b) + v0), .int v1] σ (PI K) := by
  unfold m_X5_windOf at h
  refine Ct.of (own := RX5) (by decide +kernel) rfl (Nat.le_of_ble_eq_true rfl) (fun x hx o => ?_)
  subst hx
  show J x (wM b) (FinC x (wM b) (PI K) (0, 0)) 0 [(0, .ref (wB (wM b) + v0)), (1, .int v1)] [] (0, 0) σ
  refine J_aload_n o 0 d_X5_windOf_0 rfl ?_
  refine J_bipush (v := 48) o d_X5_windOf_1 bipush_48 ?_
  refine J_iload_n o 1 d_X5_windOf_3 rfl ?_
  refine J_iadd o d_X5_windOf_4 ?_
  have b5 := h.1
  replace h := h.2
  refine J_iald o hv0 (vpc rfl b5) d_X5_windOf_5 ?_
  refine J_iconst (v := (-1)) o d_X5_windOf_6 iconst_m1 ?_
  refine J_icmp_eq o 19 d_X5_windOf_7 rfl (fun c7 => ?_) (fun c7 => ?_)
  · replace h := h.1 c7
    refine J_aload_n o 0 d_X5_windOf_19 rfl ?_
    refine J_bipush (v := 10) o d_X5_windOf_20 bipush_10 ?_
    have b22 := h.1
    replace h := h.2
    refine J_iald o hv0 (vpc rfl b22) d_X5_windOf_22 ?_
    refine J_if_ne o 30 d_X5_windOf_23 rfl (fun c23 => ?_) (fun c23 => ?_)
    · replace h := h.1 c23
      refine J_aload_n o 0 d_X5_windOf_30 rfl ?_
      refine J_bipush (v := 12) o d_X5_windOf_31 bipush_12 ?_
      refine J_iload_n o 1 d_X5_windOf_33 rfl ?_
      refine J_aload_n o 0 d_X5_windOf_34 rfl ?_
      refine J_bipush (v := 10) o d_X5_windOf_35 bipush_10 ?_
      have b37 := h.1
      replace h := h.2
      refine J_iald o hv0 (vpc rfl b37) d_X5_windOf_37 ?_
      have z38 := h.1
      replace h := h.2
      refine J_irem o d_X5_windOf_38 z38 ?_
      refine J_iadd o d_X5_windOf_39 ?_
      have b40 := h.1
      replace h := h.2
      refine J_iald o hv0 (vpc rfl b40) d_X5_windOf_40 ?_
      exact J_iret o d_X5_windOf_41 ⟨_, rfl, h⟩
    · replace h := h.2 c23
      refine J_iconst (v := 0) o d_X5_windOf_26 iconst_0 ?_
      refine J_goto o 41 d_X5_windOf_27 rfl ?_
      exact J_iret o d_X5_windOf_41 ⟨_, rfl, h⟩
  · replace h := h.2 c7
    refine J_aload_n o 0 d_X5_windOf_10 rfl ?_
    refine J_bipush (v := 48) o d_X5_windOf_11 bipush_48 ?_
    refine J_iload_n o 1 d_X5_windOf_13 rfl ?_
    refine J_iadd o d_X5_windOf_14 ?_
    have b15 := h.1
    replace h := h.2
    refine J_iald o hv0 (vpc rfl b15) d_X5_windOf_15 ?_
    refine J_goto o 41 d_X5_windOf_16 rfl ?_
    exact J_iret o d_X5_windOf_41 ⟨_, rfl, h⟩
theorem d_X5_costBy_0 : decode cX5_costBy 0 = .ok (.iload_n 0, 1) := by decide +kernel
theorem d_X5_costBy_1 : decode cX5_costBy 1 = .ok (.ifCond .ne 5, 3) := by decide +kernel
theorem d_X5_costBy_4 : decode cX5_costBy 4 = .ok (.iconst 0, 1) := by decide +kernel
theorem d_X5_costBy_5 : decode cX5_costBy 5 = .ok (.ireturn, 1) := by decide +kernel
theorem d_X5_costBy_6 : decode cX5_costBy 6 = .ok (.iload_n 1, 1) := by decide +kernel
theorem d_X5_costBy_7 : decode cX5_costBy 7 = .ok (.ifCond .ne 5, 3) := by decide +kernel
theorem d_X5_costBy_10 : decode cX5_costBy 10 = .ok (.iconst 3, 1) := by decide +kernel
theorem d_X5_costBy_11 : decode cX5_costBy 11 = .ok (.ireturn, 1) := by decide +kernel
theorem d_X5_costBy_12 : decode cX5_costBy 12 = .ok (.iload_n 0, 1) := by decide +kernel
theorem d_X5_costBy_13 : decode cX5_costBy 13 = .ok (.iload_n 1, 1) := by decide +kernel
theorem d_X5_costBy_14 : decode cX5_costBy 14 = .ok (.if_icmp .le 9, 3) := by decide +kernel
theorem d_X5_costBy_17 : decode cX5_costBy 17 = .ok (.iload_n 0, 1) := by decide +kernel
theorem d_X5_costBy_18 : decode cX5_costBy 18 = .ok (.iload_n 1, 1) := by decide +kernel
theorem d_X5_costBy_19 : decode cX5_costBy 19 = .ok (.isub, 1) := by decide +kernel
theorem d_X5_costBy_20 : decode cX5_costBy 20 = .ok (.goto 6, 3) := by decide +kernel
theorem d_X5_costBy_23 : decode cX5_costBy 23 = .ok (.iload_n 1, 1) := by decide +kernel
theorem d_X5_costBy_24 : decode cX5_costBy 24 = .ok (.iload_n 0, 1) := by decide +kernel
theorem d_X5_costBy_25 : decode cX5_costBy 25 = .ok (.isub, 1) := by decide +kernel
theorem d_X5_costBy_26 : decode cX5_costBy 26 = .ok (.istore_n 2, 1) := by decide +kernel
theorem d_X5_costBy_27 : decode cX5_costBy 27 = .ok (.iconst 1, 1) := by decide +kernel
theorem d_X5_costBy_28 : decode cX5_costBy 28 = .ok (.iload_n 2, 1) := by decide +kernel
theorem d_X5_costBy_29 : decode cX5_costBy 29 = .ok (.bipush 8, 2) := by decide +kernel
theorem d_X5_costBy_31 : decode cX5_costBy 31 = .ok (.iload_n 2, 1) := by decide +kernel
theorem d_X5_costBy_32 : decode cX5_costBy 32 = .ok (.isub, 1) := by decide +kernel
theorem d_X5_costBy_33 : decode cX5_costBy 33 = .ok (.invokestatic 86, 3) := by decide +kernel
theorem d_X5_costBy_36 : decode cX5_costBy 36 = .ok (.iadd, 1) := by decide +kernel
theorem d_X5_costBy_37 : decode cX5_costBy 37 = .ok (.ireturn, 1) := by decide +kernel
abbrev rm_X5_costBy : Room := { frames := 1, cells := 0, slots := 0, locals := 21 }
set_option maxHeartbeats 4000000 in
set_option maxRecDepth 20000 in
theorem w_X5_costBy (l : Launch) (b : Wy) {v0 : Int32} {v1 : Int32} {σ : Sg} {K : Int32 → Sg → Prop}  (h : m_X5_costBy v0 v1 σ K) : Ct l (wM b) yX5_costBy cX5_costBy 3 (some .int) rm_X5_costBy [.int v0, .int v1] σ (PI K) := by
  unfold m_X5_costBy at h
  refine Ct.of (own := RX5) (by decide +kernel) rfl (Nat.le_of_ble_eq_true rfl) (fun x hx o => ?_)
  subst hx
  show J x (wM b) (FinC x (wM b) (PI K) (0, 0)) 0 [(0, .int v0), (1, .int v1)] [] (0, 0) σ
  refine J_iload_n o 0 d_X5_costBy_0 rfl ?_
  refine J_if_ne o 6 d_X5_costBy_1 rfl (fun c1 => ?_) (fun c1 => ?_)
  · replace h := h.1 c1
    refine J_iload_n o 1 d_X5_costBy_6 rfl ?_
    refine J_if_ne o 12 d_X5_costBy_7 rfl (fun c7 => ?_) (fun c7 => ?_)
    · replace h := h.1 c7
      refine J_iload_n o 0 d_X5_costBy_12 rfl ?_
      refine J_iload_n o 1 d_X5_costBy_13 rfl ?_
      refine J_icmp_le o 23 d_X5_costBy_14 rfl (fun c14 => ?_) (fun c14 => ?_)
      · replace h := h.1 c14
        refine J_iload_n o 1 d_X5_costBy_23 rfl ?_
        refine J_iload_n o 0 d_X5_costBy_24 rfl ?_
        refine J_isub o d_X5_costBy_25 ?_
        refine J_top (fun l2_26 el2_26 => ?_)
        replace h := h l2_26 el2_26
        refine J_istore_n (lv' := [(2, .int l2_26), (0, .int v0), (1, .int v1)]) o d_X5_costBy_26 (by decide) rfl ?_
        refine J_iconst (v := 1) o d_X5_costBy_27 iconst_1 ?_
        refine J_iload_n o 0 d_X5_costBy_28 rfl ?_
        refine J_bipush (v := 8) o d_X5_costBy_29 bipush_8 ?_
        refine J_iload_n o 0 d_X5_costBy_31 rfl ?_
        refine J_isub o d_X5_costBy_32 ?_
        refine J_callS o [.int l2_26, .int (8 - l2_26)] mth_X5_less st_X5_less ml_RX5_86 ⟨Nat.le_of_ble_eq_true rfl, Nat.le_of_ble_eq_true rfl⟩ rfl rfl (Nat.le_of_ble_eq_true rfl) ⟨Nat.le_refl _, Nat.le_refl _⟩ d_X5_costBy_33 (w_X5_less (xL x) b  h) (aI (fun r33 s33 h => ?_))
        refine J_iadd o d_X5_costBy_36 ?_
        exact J_iret o d_X5_costBy_37 ⟨_, rfl, h⟩
      · replace h := h.2 c14
        refine J_iload_n o 0 d_X5_costBy_17 rfl ?_
        refine J_iload_n o 1 d_X5_costBy_18 rfl ?_
        refine J_isub o d_X5_costBy_19 ?_
        refine J_goto o 26 d_X5_costBy_20 rfl ?_
        refine J_top (fun l2_26 el2_26 => ?_)
        replace h := h l2_26 el2_26
        refine J_istore_n (lv' := [(2, .int l2_26), (0, .int v0), (1, .int v1)]) o d_X5_costBy_26 (by decide) rfl ?_
        refine J_iconst (v := 1) o d_X5_costBy_27 iconst_1 ?_
        refine J_iload_n o 0 d_X5_costBy_28 rfl ?_
        refine J_bipush (v := 8) o d_X5_costBy_29 bipush_8 ?_
        refine J_iload_n o 0 d_X5_costBy_31 rfl ?_
        refine J_isub o d_X5_costBy_32 ?_
        refine J_callS o [.int l2_26, .int (8 - l2_26)] mth_X5_less st_X5_less ml_RX5_86 ⟨Nat.le_of_ble_eq_true rfl, Nat.le_of_ble_eq_true rfl⟩ rfl rfl (Nat.le_of_ble_eq_true rfl) ⟨Nat.le_refl _, Nat.le_refl _⟩ d_X5_costBy_33 (w_X5_less (xL x) b  h) (aI (fun r33 s33 h => ?_))
        refine J_iadd o d_X5_costBy_36 ?_
        exact J_iret o d_X5_costBy_37 ⟨_, rfl, h⟩
    · replace h := h.2 c7
      refine J_iconst (v := 3) o d_X5_costBy_10 iconst_3 ?_
      exact J_iret o d_X5_costBy_11 ⟨_, rfl, h⟩
  · replace h := h.2 c1
    refine J_iconst (v := 0) o d_X5_costBy_4 iconst_0 ?_
    exact J_iret o d_X5_costBy_5 ⟨_, rfl, h⟩
theorem d_X5_fuelOf_0 : decode cX5_fuelOf 0 = .ok (.aload_n 0, 1) := by decide +kernel
theorem d_X5_fuelOf_1 : decode cX5_fuelOf 1 = .ok (.getfield 20, 3) := by decide +kernel
theorem d_X5_fuelOf_4 : decode cX5_fuelOf 4 = .ok (.sipush 1089, 3) := by decide +kernel
theorem d_X5_fuelOf_7 : decode cX5_fuelOf 7 = .ok (.iconst 3, 1) := by decide +kernel
theorem d_X5_fuelOf_8 : decode cX5_fuelOf 8 = .ok (.iload_n 1, 1) := by decide +kernel
theorem d_X5_fuelOf_9 : decode cX5_fuelOf 9 = .ok (.imul, 1) := by decide +kernel
theorem d_X5_fuelOf_10 : decode cX5_fuelOf 10 = .ok (.iadd, 1) := by decide +kernel
theorem d_X5_fuelOf_11 : decode cX5_fuelOf 11 = .ok (.iconst 2, 1) := by decide +kernel
theorem d_X5_fuelOf_12 : decode cX5_fuelOf 12 = .ok (.iadd, 1) := by decide +kernel
theorem d_X5_fuelOf_13 : decode cX5_fuelOf 13 = .ok (.iaload, 1) := by decide +kernel
theorem d_X5_fuelOf_14 : decode cX5_fuelOf 14 = .ok (.ireturn, 1) := by decide +kernel
abbrev rm_X5_fuelOf : Room := { frames := 0, cells := 0, slots := 0, locals := 0 }
set_option maxHeartbeats 4000000 in
set_option maxRecDepth 20000 in
theorem w_X5_fuelOf (l : Launch) (b : Wy) {v1 : Int32} {σ : Sg} {K : Int32 → Sg → Prop}  (h : m_X5_fuelOf v1 σ K) : Ct l (wM b) yX5_fuelOf cX5_fuelOf 2 (some .int) rm_X5_fuelOf [.ref (wB (wM b) + 347), .int v1] σ (PI K) := by
  unfold m_X5_fuelOf at h
  refine Ct.of (own := RX5) (by decide +kernel) rfl (Nat.le_of_ble_eq_true rfl) (fun x hx o => ?_)
  subst hx
  show J x (wM b) (FinC x (wM b) (PI K) (0, 0)) 0 [(0, .ref (wB (wM b) + 347)), (1, .int v1)] [] (0, 0) σ
  refine J_aload_n o 0 d_X5_fuelOf_0 rfl ?_
  refine J_getR (t := 350) o fl_RX5_20 rfl (Nat.le_of_ble_eq_true rfl) (Nat.le_of_ble_eq_true rfl) rfl rfl d_X5_fuelOf_1 ?_
  refine J_sipush (v := 1089) o d_X5_fuelOf_4 sipush_1089 ?_
  refine J_iconst (v := 3) o d_X5_fuelOf_7 iconst_3 ?_
  refine J_iload_n o 1 d_X5_fuelOf_8 rfl ?_
  refine J_imul o d_X5_fuelOf_9 ?_
  refine J_iadd o d_X5_fuelOf_10 ?_
  refine J_iconst (v := 2) o d_X5_fuelOf_11 iconst_2 ?_
  refine J_iadd o d_X5_fuelOf_12 ?_
  have b13 := h.1
  replace h := h.2
  refine J_iald o A_350 (vpc (rfl : ln 350 = 1098) b13) d_X5_fuelOf_13 ?_
  exact J_iret o d_X5_fuelOf_14 ⟨_, rfl, h⟩
theorem d_X5_canGo_0 : decode cX5_canGo 0 = .ok (.aload_n 0, 1) := by decide +kernel
theorem d_X5_canGo_1 : decode cX5_canGo 1 = .ok (.iload_n 1, 1) := by decide +kernel
theorem d_X5_canGo_2 : decode cX5_canGo 2 = .ok (.invokevirtual 235, 3) := by decide +kernel
theorem d_X5_canGo_5 : decode cX5_canGo 5 = .ok (.ifCond .eq 48, 3) := by decide +kernel
theorem d_X5_canGo_8 : decode cX5_canGo 8 = .ok (.iload_n 2, 1) := by decide +kernel
theorem d_X5_canGo_9 : decode cX5_canGo 9 = .ok (.ifCond .eq 44, 3) := by decide +kernel
theorem d_X5_canGo_12 : decode cX5_canGo 12 = .ok (.aload_n 0, 1) := by decide +kernel
theorem d_X5_canGo_13 : decode cX5_canGo 13 = .ok (.getfield 20, 3) := by decide +kernel
theorem d_X5_canGo_16 : decode cX5_canGo 16 = .ok (.aload_n 0, 1) := by decide +kernel
theorem d_X5_canGo_17 : decode cX5_canGo 17 = .ok (.iload_n 1, 1) := by decide +kernel
theorem d_X5_canGo_18 : decode cX5_canGo 18 = .ok (.invokevirtual 238, 3) := by decide +kernel
theorem d_X5_canGo_21 : decode cX5_canGo 21 = .ok (.iload_n 2, 1) := by decide +kernel
theorem d_X5_canGo_22 : decode cX5_canGo 22 = .ok (.invokestatic 75, 3) := by decide +kernel
theorem d_X5_canGo_25 : decode cX5_canGo 25 = .ok (.ifCond .eq 32, 3) := by decide +kernel
theorem d_X5_canGo_28 : decode cX5_canGo 28 = .ok (.iload_n 2, 1) := by decide +kernel
theorem d_X5_canGo_29 : decode cX5_canGo 29 = .ok (.aload_n 0, 1) := by decide +kernel
theorem d_X5_canGo_30 : decode cX5_canGo 30 = .ok (.getfield 20, 3) := by decide +kernel
theorem d_X5_canGo_33 : decode cX5_canGo 33 = .ok (.aload_n 0, 1) := by decide +kernel
theorem d_X5_canGo_34 : decode cX5_canGo 34 = .ok (.getfield 20, 3) := by decide +kernel
theorem d_X5_canGo_37 : decode cX5_canGo 37 = .ok (.iconst 2, 1) := by decide +kernel
theorem d_X5_canGo_38 : decode cX5_canGo 38 = .ok (.iaload, 1) := by decide +kernel
theorem d_X5_canGo_39 : decode cX5_canGo 39 = .ok (.invokestatic 82, 3) := by decide +kernel
theorem d_X5_canGo_42 : decode cX5_canGo 42 = .ok (.invokestatic 241, 3) := by decide +kernel
theorem d_X5_canGo_45 : decode cX5_canGo 45 = .ok (.aload_n 0, 1) := by decide +kernel
theorem d_X5_canGo_46 : decode cX5_canGo 46 = .ok (.iload_n 1, 1) := by decide +kernel
theorem d_X5_canGo_47 : decode cX5_canGo 47 = .ok (.invokevirtual 244, 3) := by decide +kernel
theorem d_X5_canGo_50 : decode cX5_canGo 50 = .ok (.if_icmp .gt 7, 3) := by decide +kernel
theorem d_X5_canGo_53 : decode cX5_canGo 53 = .ok (.iconst 1, 1) := by decide +kernel
theorem d_X5_canGo_54 : decode cX5_canGo 54 = .ok (.goto 4, 3) := by decide +kernel
theorem d_X5_canGo_57 : decode cX5_canGo 57 = .ok (.iconst 0, 1) := by decide +kernel
theorem d_X5_canGo_58 : decode cX5_canGo 58 = .ok (.ireturn, 1) := by decide +kernel
abbrev rm_X5_canGo : Room := { frames := 3, cells := 0, slots := 0, locals := 68 }
set_option maxHeartbeats 4000000 in
set_option maxRecDepth 20000 in
theorem w_X5_canGo (l : Launch) (b : Wy) {v1 : Int32} {v2 : Int32} {σ : Sg} {K : Int32 → Sg → Prop}  (h : m_X5_canGo v1 v2 σ K) : Ct l (wM b) yX5_canGo cX5_canGo 3 (some .boolean) rm_X5_canGo [.ref (wB (wM b) + 347), .int v1, .int v2] σ (PZ K) := by
  unfold m_X5_canGo at h
  refine Ct.of (own := RX5) (by decide +kernel) rfl (Nat.le_of_ble_eq_true rfl) (fun x hx o => ?_)
  subst hx
  show J x (wM b) (FinC x (wM b) (PZ K) (0, 0)) 0 [(0, .ref (wB (wM b) + 347)), (1, .int v1), (2, .int v2)] [] (0, 0) σ
  refine J_aload_n o 0 d_X5_canGo_0 rfl ?_
  refine J_iload_n o 1 d_X5_canGo_1 rfl ?_
  refine J_callV (k := 347) (c := 5) o [.int v1] rfl (by decide) (Nat.le_of_ble_eq_true rfl) (Nat.le_of_ble_eq_true rfl) mth_X5_isHelper iv_X5_isHelper ml_RX5_235 ⟨Nat.le_of_ble_eq_true rfl, Nat.le_of_ble_eq_true rfl⟩ rfl rfl (Nat.le_of_ble_eq_true rfl) ⟨Nat.le_refl _, Nat.le_refl _⟩ d_X5_canGo_2 (w_X5_isHelper (xL x) b  h) (aZ (fun r2 s2 hzr2 h => ?_))
  refine J_if_eq o 53 d_X5_canGo_5 rfl (fun c5 => ?_) (fun c5 => ?_)
  · replace h := h.1 c5
    refine J_iconst (v := 1) o d_X5_canGo_53 iconst_1 ?_
    refine J_goto o 58 d_X5_canGo_54 rfl ?_
    exact J_zret o (Or.inr rfl) d_X5_canGo_58 ⟨_, rfl, (Or.inr rfl), h⟩
  · replace h := h.2 c5
    refine J_iload_n o 2 d_X5_canGo_8 rfl ?_
    refine J_if_eq o 53 d_X5_canGo_9 rfl (fun c9 => ?_) (fun c9 => ?_)
    · replace h := h.1 c9
      refine J_iconst (v := 1) o d_X5_canGo_53 iconst_1 ?_
      refine J_goto o 58 d_X5_canGo_54 rfl ?_
      exact J_zret o (Or.inr rfl) d_X5_canGo_58 ⟨_, rfl, (Or.inr rfl), h⟩
    · replace h := h.2 c9
      refine J_aload_n o 0 d_X5_canGo_12 rfl ?_
      refine J_getR (t := 350) o fl_RX5_20 rfl (Nat.le_of_ble_eq_true rfl) (Nat.le_of_ble_eq_true rfl) rfl rfl d_X5_canGo_13 ?_
      refine J_aload_n o 0 d_X5_canGo_16 rfl ?_
      refine J_iload_n o 1 d_X5_canGo_17 rfl ?_
      refine J_callV (k := 347) (c := 5) o [.int v1] rfl (by decide) (Nat.le_of_ble_eq_true rfl) (Nat.le_of_ble_eq_true rfl) mth_X5_helperCell iv_X5_helperCell ml_RX5_238 ⟨Nat.le_of_ble_eq_true rfl, Nat.le_of_ble_eq_true rfl⟩ rfl rfl (Nat.le_of_ble_eq_true rfl) ⟨Nat.le_refl _, Nat.le_refl _⟩ d_X5_canGo_18 (w_X5_helperCell (xL x) b  h) (aI (fun r18 s18 h => ?_))
      refine J_iload_n o 2 d_X5_canGo_21 rfl ?_
      refine J_callS o [.ref (wB (wM b) + 350), .int r18, .int v2] mth_X5_goes st_X5_goes ml_RX5_75 ⟨Nat.le_of_ble_eq_true rfl, Nat.le_of_ble_eq_true rfl⟩ rfl rfl (Nat.le_of_ble_eq_true rfl) ⟨Nat.le_refl _, Nat.le_refl _⟩ d_X5_canGo_22 (w_X5_goes (xL x) b A_350 h) (aZ (fun r22 s22 hzr22 h => ?_))
      refine J_if_eq o 57 d_X5_canGo_25 rfl (fun c25 => ?_) (fun c25 => ?_)
      · replace h := h.1 c25
        refine J_iconst (v := 0) o d_X5_canGo_57 iconst_0 ?_
        exact J_zret o (Or.inl rfl) d_X5_canGo_58 ⟨_, rfl, (Or.inl rfl), h⟩
      · replace h := h.2 c25
        refine J_iload_n o 2 d_X5_canGo_28 rfl ?_
        refine J_aload_n o 0 d_X5_canGo_29 rfl ?_
        refine J_getR (t := 350) o fl_RX5_20 rfl (Nat.le_of_ble_eq_true rfl) (Nat.le_of_ble_eq_true rfl) rfl rfl d_X5_canGo_30 ?_
        refine J_aload_n o 0 d_X5_canGo_33 rfl ?_
        refine J_getR (t := 350) o fl_RX5_20 rfl (Nat.le_of_ble_eq_true rfl) (Nat.le_of_ble_eq_true rfl) rfl rfl d_X5_canGo_34 ?_
        refine J_iconst (v := 2) o d_X5_canGo_37 iconst_2 ?_
        have b38 := h.1
        replace h := h.2
        refine J_iald o A_350 (vpc (rfl : ln 350 = 1098) b38) d_X5_canGo_38 ?_
        refine J_callS o [.ref (wB (wM b) + 350), .int (s22 350 (2 : Int32).toNatClampNeg)] mth_X5_windOf st_X5_windOf ml_RX5_82 ⟨Nat.le_of_ble_eq_true rfl, Nat.le_of_ble_eq_true rfl⟩ rfl rfl (Nat.le_of_ble_eq_true rfl) ⟨Nat.le_refl _, Nat.le_refl _⟩ d_X5_canGo_39 (w_X5_windOf (xL x) b A_350 h) (aI (fun r39 s39 h => ?_))
        refine J_callS o [.int v2, .int r39] mth_X5_costBy st_X5_costBy ml_RX5_241 ⟨Nat.le_of_ble_eq_true rfl, Nat.le_of_ble_eq_true rfl⟩ rfl rfl (Nat.le_of_ble_eq_true rfl) ⟨Nat.le_refl _, Nat.le_refl _⟩ d_X5_canGo_42 (w_X5_costBy (xL x) b  h) (aI (fun r42 s42 h => ?_))
        refine J_aload_n o 0 d_X5_canGo_45 rfl ?_
        refine J_iload_n o 1 d_X5_canGo_46 rfl ?_
        refine J_callV (k := 347) (c := 5) o [.int v1] rfl (by decide) (Nat.le_of_ble_eq_true rfl) (Nat.le_of_ble_eq_true rfl) mth_X5_fuelOf iv_X5_fuelOf ml_RX5_244 ⟨Nat.le_of_ble_eq_true rfl, Nat.le_of_ble_eq_true rfl⟩ rfl rfl (Nat.le_of_ble_eq_true rfl) ⟨Nat.le_refl _, Nat.le_refl _⟩ d_X5_canGo_47 (w_X5_fuelOf (xL x) b  h) (aI (fun r47 s47 h => ?_))
        refine J_icmp_gt o 57 d_X5_canGo_50 rfl (fun c50 => ?_) (fun c50 => ?_)
        · replace h := h.1 c50
          refine J_iconst (v := 0) o d_X5_canGo_57 iconst_0 ?_
          exact J_zret o (Or.inl rfl) d_X5_canGo_58 ⟨_, rfl, (Or.inl rfl), h⟩
        · replace h := h.2 c50
          refine J_iconst (v := 1) o d_X5_canGo_53 iconst_1 ?_
          refine J_goto o 58 d_X5_canGo_54 rfl ?_
          exact J_zret o (Or.inr rfl) d_X5_canGo_58 ⟨_, rfl, (Or.inr rfl), h⟩
theorem d_X5_behind_0 : decode cX5_behind 0 = .ok (.aload_n 0, 1) := by decide +kernel
theorem d_X5_behind_1 : decode cX5_behind 1 = .ok (.iload_n 1, 1) := by decide +kernel
theorem d_X5_behind_2 : decode cX5_behind 2 = .ok (.iload_n 2, 1) := by decide +kernel
theorem d_X5_behind_3 : decode cX5_behind 3 = .ok (.invokestatic 75, 3) := by decide +kernel
theorem d_X5_behind_6 : decode cX5_behind 6 = .ok (.ifCond .eq 20, 3) := by decide +kernel
theorem d_X5_behind_9 : decode cX5_behind 9 = .ok (.iload_n 1, 1) := by decide +kernel
theorem d_X5_behind_10 : decode cX5_behind 10 = .ok (.bipush 20, 2) := by decide +kernel
theorem d_X5_behind_12 : decode cX5_behind 12 = .ok (.iload_n 2, 1) := by decide +kernel
theorem d_X5_behind_13 : decode cX5_behind 13 = .ok (.invokestatic 64, 3) := by decide +kernel
theorem d_X5_behind_16 : decode cX5_behind 16 = .ok (.imul, 1) := by decide +kernel
theorem d_X5_behind_17 : decode cX5_behind 17 = .ok (.iadd, 1) := by decide +kernel
theorem d_X5_behind_18 : decode cX5_behind 18 = .ok (.iload_n 2, 1) := by decide +kernel
theorem d_X5_behind_19 : decode cX5_behind 19 = .ok (.invokestatic 60, 3) := by decide +kernel
theorem d_X5_behind_22 : decode cX5_behind 22 = .ok (.iadd, 1) := by decide +kernel
theorem d_X5_behind_23 : decode cX5_behind 23 = .ok (.goto 4, 3) := by decide +kernel
theorem d_X5_behind_26 : decode cX5_behind 26 = .ok (.iload_n 1, 1) := by decide +kernel
theorem d_X5_behind_27 : decode cX5_behind 27 = .ok (.ireturn, 1) := by decide +kernel
abbrev rm_X5_behind : Room := { frames := 3, cells := 0, slots := 0, locals := 68 }
set_option maxHeartbeats 4000000 in
set_option maxRecDepth 20000 in
theorem w_X5_behind (l : Launch) (b : Wy) {v0 : Nat} {v1 : Int32} {v2 : Int32} {σ : Sg} {K : Int32 → Sg → Prop} (hv0 : IsA (wM b) v0) (h : m_X5_behind v0 v1 v2 σ K) : Ct l (wM b) yX5_behind cX5_behind 3 (some .int) rm_X5_behind [.ref (wB (wM b) + v0), .int v1, .int v2] σ (PI K) := by
  unfold m_X5_behind at h
  refine Ct.of (own := RX5) (by decide +kernel) rfl (Nat.le_of_ble_eq_true rfl) (fun x hx o => ?_)
  subst hx
  show J x (wM b) (FinC x (wM b) (PI K) (0, 0)) 0 [(0, .ref (wB (wM b) + v0)), (1, .int v1), (2, .int v2)] [] (0, 0) σ
  refine J_aload_n o 0 d_X5_behind_0 rfl ?_
  refine J_iload_n o 1 d_X5_behind_1 rfl ?_
  refine J_iload_n o 2 d_X5_behind_2 rfl ?_
  refine J_callS o [.ref (wB (wM b) + v0), .int v1, .int v2] mth_X5_goes st_X5_goes ml_RX5_75 ⟨Nat.le_of_ble_eq_true rfl, Nat.le_of_ble_eq_true rfl⟩ rfl rfl (Nat.le_of_ble_eq_true rfl) ⟨Nat.le_refl _, Nat.le_refl _⟩ d_X5_behind_3 (w_X5_goes (xL x) b hv0 h) (aZ (fun r3 s3 hzr3 h => ?_))
  refine J_if_eq o 26 d_X5_behind_6 rfl (fun c6 => ?_) (fun c6 => ?_)
  · replace h := h.1 c6
    refine J_iload_n o 1 d_X5_behind_26 rfl ?_
    exact J_iret o d_X5_behind_27 ⟨_, rfl, h⟩
  · replace h := h.2 c6
    refine J_iload_n o 1 d_X5_behind_9 rfl ?_
    refine J_bipush (v := 20) o d_X5_behind_10 bipush_20 ?_
    refine J_iload_n o 2 d_X5_behind_12 rfl ?_
    refine J_callS o [.int v2] mth_X5_northOf st_X5_northOf ml_RX5_64 ⟨Nat.le_of_ble_eq_true rfl, Nat.le_of_ble_eq_true rfl⟩ rfl rfl (Nat.le_of_ble_eq_true rfl) ⟨Nat.le_refl _, Nat.le_refl _⟩ d_X5_behind_13 (w_X5_northOf (xL x) b  h) (aI (fun r13 s13 h => ?_))
    refine J_imul o d_X5_behind_16 ?_
    refine J_iadd o d_X5_behind_17 ?_
    refine J_iload_n o 2 d_X5_behind_18 rfl ?_
    refine J_callS o [.int v2] mth_X5_eastOf st_X5_eastOf ml_RX5_60 ⟨Nat.le_of_ble_eq_true rfl, Nat.le_of_ble_eq_true rfl⟩ rfl rfl (Nat.le_of_ble_eq_true rfl) ⟨Nat.le_refl _, Nat.le_refl _⟩ d_X5_behind_19 (w_X5_eastOf (xL x) b  h) (aI (fun r19 s19 h => ?_))
    refine J_iadd o d_X5_behind_22 ?_
    refine J_goto o 27 d_X5_behind_23 rfl ?_
    exact J_iret o d_X5_behind_27 ⟨_, rfl, h⟩
theorem d_X5_carried_0 : decode cX5_carried 0 = .ok (.aload_n 0, 1) := by decide +kernel
theorem d_X5_carried_1 : decode cX5_carried 1 = .ok (.iload_n 1, 1) := by decide +kernel
theorem d_X5_carried_2 : decode cX5_carried 2 = .ok (.iload_n 2, 1) := by decide +kernel
theorem d_X5_carried_3 : decode cX5_carried 3 = .ok (.invokestatic 78, 3) := by decide +kernel
theorem d_X5_carried_6 : decode cX5_carried 6 = .ok (.istore_n 3, 1) := by decide +kernel
theorem d_X5_carried_7 : decode cX5_carried 7 = .ok (.aload_n 0, 1) := by decide +kernel
theorem d_X5_carried_8 : decode cX5_carried 8 = .ok (.iload_n 3, 1) := by decide +kernel
theorem d_X5_carried_9 : decode cX5_carried 9 = .ok (.aload_n 0, 1) := by decide +kernel
theorem d_X5_carried_10 : decode cX5_carried 10 = .ok (.sipush 849, 3) := by decide +kernel
theorem d_X5_carried_13 : decode cX5_carried 13 = .ok (.iload_n 3, 1) := by decide +kernel
theorem d_X5_carried_14 : decode cX5_carried 14 = .ok (.iadd, 1) := by decide +kernel
theorem d_X5_carried_15 : decode cX5_carried 15 = .ok (.iaload, 1) := by decide +kernel
theorem d_X5_carried_16 : decode cX5_carried 16 = .ok (.invokestatic 78, 3) := by decide +kernel
theorem d_X5_carried_19 : decode cX5_carried 19 = .ok (.ireturn, 1) := by decide +kernel
abbrev rm_X5_carried : Room := { frames := 4, cells := 0, slots := 0, locals := 90 }
set_option maxHeartbeats 4000000 in
set_option maxRecDepth 20000 in
theorem w_X5_carried (l : Launch) (b : Wy) {v0 : Nat} {v1 : Int32} {v2 : Int32} {σ : Sg} {K : Int32 → Sg → Prop} (hv0 : IsA (wM b) v0) (h : m_X5_carried v0 v1 v2 σ K) : Ct l (wM b) yX5_carried cX5_carried 4 (some .int) rm_X5_carried [.ref (wB (wM b) + v0), .int v1, .int v2] σ (PI K) := by
  unfold m_X5_carried at h
  refine Ct.of (own := RX5) (by decide +kernel) rfl (Nat.le_of_ble_eq_true rfl) (fun x hx o => ?_)
  subst hx
  show J x (wM b) (FinC x (wM b) (PI K) (0, 0)) 0 [(0, .ref (wB (wM b) + v0)), (1, .int v1), (2, .int v2)] [] (0, 0) σ
  refine J_aload_n o 0 d_X5_carried_0 rfl ?_
  refine J_iload_n o 1 d_X5_carried_1 rfl ?_
  refine J_iload_n o 2 d_X5_carried_2 rfl ?_
  refine J_callS o [.ref (wB (wM b) + v0), .int v1, .int v2] mth_X5_behind st_X5_behind ml_RX5_78 ⟨Nat.le_of_ble_eq_true rfl, Nat.le_of_ble_eq_true rfl⟩ rfl rfl (Nat.le_of_ble_eq_true rfl) ⟨Nat.le_refl _, Nat.le_refl _⟩ d_X5_carried_3 (w_X5_behind (xL x) b hv0 h) (aI (fun r3 s3 h => ?_))
  refine J_istore_n (lv' := [(3, .int r3), (0, .ref (wB (wM b) + v0)), (1, .int v1), (2, .int v2)]) o d_X5_carried_6 (by decide) rfl ?_
  refine J_aload_n o 1 d_X5_carried_7 rfl ?_
  refine J_iload_n o 0 d_X5_carried_8 rfl ?_
  refine J_aload_n o 1 d_X5_carried_9 rfl ?_
  refine J_sipush (v := 849) o d_X5_carried_10 sipush_849 ?_
  refine J_iload_n o 0 d_X5_carried_13 rfl ?_
  refine J_iadd o d_X5_carried_14 ?_
  have b15 := h.1
  replace h := h.2
  refine J_iald o hv0 (vpc rfl b15) d_X5_carried_15 ?_
  refine J_callS o [.ref (wB (wM b) + v0), .int r3, .int (s3 v0 (849 + r3).toNatClampNeg)] mth_X5_behind st_X5_behind ml_RX5_78 ⟨Nat.le_of_ble_eq_true rfl, Nat.le_of_ble_eq_true rfl⟩ rfl rfl (Nat.le_of_ble_eq_true rfl) ⟨Nat.le_refl _, Nat.le_refl _⟩ d_X5_carried_16 (w_X5_behind (xL x) b hv0 h) (aI (fun r16 s16 h => ?_))
  exact J_iret o d_X5_carried_19 ⟨_, rfl, h⟩
theorem d_X5_helperGoes_0 : decode cX5_helperGoes 0 = .ok (.aload_n 0, 1) := by decide +kernel
theorem d_X5_helperGoes_1 : decode cX5_helperGoes 1 = .ok (.getfield 20, 3) := by decide +kernel
theorem d_X5_helperGoes_4 : decode cX5_helperGoes 4 = .ok (.aload_n 0, 1) := by decide +kernel
theorem d_X5_helperGoes_5 : decode cX5_helperGoes 5 = .ok (.iload_n 1, 1) := by decide +kernel
theorem d_X5_helperGoes_6 : decode cX5_helperGoes 6 = .ok (.invokevirtual 238, 3) := by decide +kernel
theorem d_X5_helperGoes_9 : decode cX5_helperGoes 9 = .ok (.iload_n 2, 1) := by decide +kernel
theorem d_X5_helperGoes_10 : decode cX5_helperGoes 10 = .ok (.invokestatic 247, 3) := by decide +kernel
theorem d_X5_helperGoes_13 : decode cX5_helperGoes 13 = .ok (.istore_n 3, 1) := by decide +kernel
theorem d_X5_helperGoes_14 : decode cX5_helperGoes 14 = .ok (.aload_n 0, 1) := by decide +kernel
theorem d_X5_helperGoes_15 : decode cX5_helperGoes 15 = .ok (.getfield 20, 3) := by decide +kernel
theorem d_X5_helperGoes_18 : decode cX5_helperGoes 18 = .ok (.sipush 1089, 3) := by decide +kernel
theorem d_X5_helperGoes_21 : decode cX5_helperGoes 21 = .ok (.iconst 3, 1) := by decide +kernel
theorem d_X5_helperGoes_22 : decode cX5_helperGoes 22 = .ok (.iload_n 1, 1) := by decide +kernel
theorem d_X5_helperGoes_23 : decode cX5_helperGoes 23 = .ok (.imul, 1) := by decide +kernel
theorem d_X5_helperGoes_24 : decode cX5_helperGoes 24 = .ok (.iadd, 1) := by decide +kernel
theorem d_X5_helperGoes_25 : decode cX5_helperGoes 25 = .ok (.iload_n 3, 1) := by decide +kernel
theorem d_X5_helperGoes_26 : decode cX5_helperGoes 26 = .ok (.bipush 20, 2) := by decide +kernel
theorem d_X5_helperGoes_28 : decode cX5_helperGoes 28 = .ok (.irem, 1) := by decide +kernel
theorem d_X5_helperGoes_29 : decode cX5_helperGoes 29 = .ok (.iastore, 1) := by decide +kernel
theorem d_X5_helperGoes_30 : decode cX5_helperGoes 30 = .ok (.aload_n 0, 1) := by decide +kernel
theorem d_X5_helperGoes_31 : decode cX5_helperGoes 31 = .ok (.getfield 20, 3) := by decide +kernel
theorem d_X5_helperGoes_34 : decode cX5_helperGoes 34 = .ok (.sipush 1089, 3) := by decide +kernel
theorem d_X5_helperGoes_37 : decode cX5_helperGoes 37 = .ok (.iconst 3, 1) := by decide +kernel
theorem d_X5_helperGoes_38 : decode cX5_helperGoes 38 = .ok (.iload_n 1, 1) := by decide +kernel
theorem d_X5_helperGoes_39 : decode cX5_helperGoes 39 = .ok (.imul, 1) := by decide +kernel
theorem d_X5_helperGoes_40 : decode cX5_helperGoes 40 = .ok (.iadd, 1) := by decide +kernel
theorem d_X5_helperGoes_41 : decode cX5_helperGoes 41 = .ok (.iconst 1, 1) := by decide +kernel
theorem d_X5_helperGoes_42 : decode cX5_helperGoes 42 = .ok (.iadd, 1) := by decide +kernel
theorem d_X5_helperGoes_43 : decode cX5_helperGoes 43 = .ok (.iload_n 3, 1) := by decide +kernel
theorem d_X5_helperGoes_44 : decode cX5_helperGoes 44 = .ok (.bipush 20, 2) := by decide +kernel
theorem d_X5_helperGoes_46 : decode cX5_helperGoes 46 = .ok (.idiv, 1) := by decide +kernel
theorem d_X5_helperGoes_47 : decode cX5_helperGoes 47 = .ok (.iastore, 1) := by decide +kernel
theorem d_X5_helperGoes_48 : decode cX5_helperGoes 48 = .ok (.aload_n 0, 1) := by decide +kernel
theorem d_X5_helperGoes_49 : decode cX5_helperGoes 49 = .ok (.getfield 20, 3) := by decide +kernel
theorem d_X5_helperGoes_52 : decode cX5_helperGoes 52 = .ok (.sipush 1089, 3) := by decide +kernel
theorem d_X5_helperGoes_55 : decode cX5_helperGoes 55 = .ok (.iconst 3, 1) := by decide +kernel
theorem d_X5_helperGoes_56 : decode cX5_helperGoes 56 = .ok (.iload_n 1, 1) := by decide +kernel
theorem d_X5_helperGoes_57 : decode cX5_helperGoes 57 = .ok (.imul, 1) := by decide +kernel
theorem d_X5_helperGoes_58 : decode cX5_helperGoes 58 = .ok (.iadd, 1) := by decide +kernel
theorem d_X5_helperGoes_59 : decode cX5_helperGoes 59 = .ok (.iconst 2, 1) := by decide +kernel
theorem d_X5_helperGoes_60 : decode cX5_helperGoes 60 = .ok (.iadd, 1) := by decide +kernel
theorem d_X5_helperGoes_61 : decode cX5_helperGoes 61 = .ok (.dup2, 1) := by decide +kernel
theorem d_X5_helperGoes_62 : decode cX5_helperGoes 62 = .ok (.iaload, 1) := by decide +kernel
theorem d_X5_helperGoes_63 : decode cX5_helperGoes 63 = .ok (.iload_n 2, 1) := by decide +kernel
theorem d_X5_helperGoes_64 : decode cX5_helperGoes 64 = .ok (.aload_n 0, 1) := by decide +kernel
theorem d_X5_helperGoes_65 : decode cX5_helperGoes 65 = .ok (.getfield 20, 3) := by decide +kernel
theorem d_X5_helperGoes_68 : decode cX5_helperGoes 68 = .ok (.aload_n 0, 1) := by decide +kernel
theorem d_X5_helperGoes_69 : decode cX5_helperGoes 69 = .ok (.getfield 20, 3) := by decide +kernel
theorem d_X5_helperGoes_72 : decode cX5_helperGoes 72 = .ok (.iconst 2, 1) := by decide +kernel
theorem d_X5_helperGoes_73 : decode cX5_helperGoes 73 = .ok (.iaload, 1) := by decide +kernel
theorem d_X5_helperGoes_74 : decode cX5_helperGoes 74 = .ok (.invokestatic 82, 3) := by decide +kernel
theorem d_X5_helperGoes_77 : decode cX5_helperGoes 77 = .ok (.invokestatic 241, 3) := by decide +kernel
theorem d_X5_helperGoes_80 : decode cX5_helperGoes 80 = .ok (.isub, 1) := by decide +kernel
theorem d_X5_helperGoes_81 : decode cX5_helperGoes 81 = .ok (.iastore, 1) := by decide +kernel
theorem d_X5_helperGoes_82 : decode cX5_helperGoes 82 = .ok (.return_, 1) := by decide +kernel
abbrev rm_X5_helperGoes : Room := { frames := 5, cells := 0, slots := 0, locals := 113 }
set_option maxHeartbeats 4000000 in
set_option maxRecDepth 20000 in
theorem w_X5_helperGoes (l : Launch) (b : Wy) {v1 : Int32} {v2 : Int32} {σ : Sg} {K : Sg → Prop}  (h : m_X5_helperGoes v1 v2 σ K) : Ct l (wM b) yX5_helperGoes cX5_helperGoes 4 none rm_X5_helperGoes [.ref (wB (wM b) + 347), .int v1, .int v2] σ (PV K) := by
  unfold m_X5_helperGoes at h
  refine Ct.of (own := RX5) (by decide +kernel) rfl (Nat.le_of_ble_eq_true rfl) (fun x hx o => ?_)
  subst hx
  show J x (wM b) (FinC x (wM b) (PV K) (0, 0)) 0 [(0, .ref (wB (wM b) + 347)), (1, .int v1), (2, .int v2)] [] (0, 0) σ
  refine J_aload_n o 0 d_X5_helperGoes_0 rfl ?_
  refine J_getR (t := 350) o fl_RX5_20 rfl (Nat.le_of_ble_eq_true rfl) (Nat.le_of_ble_eq_true rfl) rfl rfl d_X5_helperGoes_1 ?_
  refine J_aload_n o 0 d_X5_helperGoes_4 rfl ?_
  refine J_iload_n o 1 d_X5_helperGoes_5 rfl ?_
  refine J_callV (k := 347) (c := 5) o [.int v1] rfl (by decide) (Nat.le_of_ble_eq_true rfl) (Nat.le_of_ble_eq_true rfl) mth_X5_helperCell iv_X5_helperCell ml_RX5_238 ⟨Nat.le_of_ble_eq_true rfl, Nat.le_of_ble_eq_true rfl⟩ rfl rfl (Nat.le_of_ble_eq_true rfl) ⟨Nat.le_refl _, Nat.le_refl _⟩ d_X5_helperGoes_6 (w_X5_helperCell (xL x) b  h) (aI (fun r6 s6 h => ?_))
  refine J_iload_n o 2 d_X5_helperGoes_9 rfl ?_
  refine J_callS o [.ref (wB (wM b) + 350), .int r6, .int v2] mth_X5_carried st_X5_carried ml_RX5_247 ⟨Nat.le_of_ble_eq_true rfl, Nat.le_of_ble_eq_true rfl⟩ rfl rfl (Nat.le_of_ble_eq_true rfl) ⟨Nat.le_refl _, Nat.le_refl _⟩ d_X5_helperGoes_10 (w_X5_carried (xL x) b A_350 h) (aI (fun r10 s10 h => ?_))
  refine J_istore_n (lv' := [(3, .int r10), (0, .ref (wB (wM b) + 347)), (1, .int v1), (2, .int v2)]) o d_X5_helperGoes_13 (by decide) rfl ?_
  refine J_aload_n o 1 d_X5_helperGoes_14 rfl ?_
  refine J_getR (t := 350) o fl_RX5_20 rfl (Nat.le_of_ble_eq_true rfl) (Nat.le_of_ble_eq_true rfl) rfl rfl d_X5_helperGoes_15 ?_
  refine J_sipush (v := 1089) o d_X5_helperGoes_18 sipush_1089 ?_
  refine J_iconst (v := 3) o d_X5_helperGoes_21 iconst_3 ?_
  refine J_iload_n o 2 d_X5_helperGoes_22 rfl ?_
  refine J_imul o d_X5_helperGoes_23 ?_
  refine J_iadd o d_X5_helperGoes_24 ?_
  refine J_iload_n o 0 d_X5_helperGoes_25 rfl ?_
  refine J_bipush (v := 20) o d_X5_helperGoes_26 bipush_20 ?_
  refine J_irem o d_X5_helperGoes_28 (by decide) ?_
  have b29 := h.1
  replace h := h.2
  refine J_iast o A_350 (vpc (rfl : ln 350 = 1098) b29) d_X5_helperGoes_29 ?_
  refine J_nS (fun s29 es29 => ?_)
  replace h := h s29 es29
  refine J_aload_n o 1 d_X5_helperGoes_30 rfl ?_
  refine J_getR (t := 350) o fl_RX5_20 rfl (Nat.le_of_ble_eq_true rfl) (Nat.le_of_ble_eq_true rfl) rfl rfl d_X5_helperGoes_31 ?_
  refine J_sipush (v := 1089) o d_X5_helperGoes_34 sipush_1089 ?_
  refine J_iconst (v := 3) o d_X5_helperGoes_37 iconst_3 ?_
  refine J_iload_n o 2 d_X5_helperGoes_38 rfl ?_
  refine J_imul o d_X5_helperGoes_39 ?_
  refine J_iadd o d_X5_helperGoes_40 ?_
  refine J_iconst (v := 1) o d_X5_helperGoes_41 iconst_1 ?_
  refine J_iadd o d_X5_helperGoes_42 ?_
  refine J_iload_n o 0 d_X5_helperGoes_43 rfl ?_
  refine J_bipush (v := 20) o d_X5_helperGoes_44 bipush_20 ?_
  refine J_idiv o d_X5_helperGoes_46 (by decide) ?_
  have b47 := h.1
  replace h := h.2
  refine J_iast o A_350 (vpc (rfl : ln 350 = 1098) b47) d_X5_helperGoes_47 ?_
  refine J_nS (fun s47 es47 => ?_)
  replace h := h s47 es47
  refine J_aload_n o 1 d_X5_helperGoes_48 rfl ?_
  refine J_getR (t := 350) o fl_RX5_20 rfl (Nat.le_of_ble_eq_true rfl) (Nat.le_of_ble_eq_true rfl) rfl rfl d_X5_helperGoes_49 ?_
  refine J_sipush (v := 1089) o d_X5_helperGoes_52 sipush_1089 ?_
  refine J_iconst (v := 3) o d_X5_helperGoes_55 iconst_3 ?_
  refine J_iload_n o 2 d_X5_helperGoes_56 rfl ?_
  refine J_imul o d_X5_helperGoes_57 ?_
  refine J_iadd o d_X5_helperGoes_58 ?_
  refine J_iconst (v := 2) o d_X5_helperGoes_59 iconst_2 ?_
  refine J_iadd o d_X5_helperGoes_60 ?_
  refine J_dup2 o d_X5_helperGoes_61 rfl rfl ?_
  have b62 := h.1
  replace h := h.2
  refine J_iald o A_350 (vpc (rfl : ln 350 = 1098) b62) d_X5_helperGoes_62 ?_
  refine J_iload_n o 3 d_X5_helperGoes_63 rfl ?_
  refine J_aload_n o 1 d_X5_helperGoes_64 rfl ?_
  refine J_getR (t := 350) o fl_RX5_20 rfl (Nat.le_of_ble_eq_true rfl) (Nat.le_of_ble_eq_true rfl) rfl rfl d_X5_helperGoes_65 ?_
  refine J_aload_n o 1 d_X5_helperGoes_68 rfl ?_
  refine J_getR (t := 350) o fl_RX5_20 rfl (Nat.le_of_ble_eq_true rfl) (Nat.le_of_ble_eq_true rfl) rfl rfl d_X5_helperGoes_69 ?_
  refine J_iconst (v := 2) o d_X5_helperGoes_72 iconst_2 ?_
  have b73 := h.1
  replace h := h.2
  refine J_iald o A_350 (vpc (rfl : ln 350 = 1098) b73) d_X5_helperGoes_73 ?_
  refine J_callS o [.ref (wB (wM b) + 350), .int (s47 350 (2 : Int32).toNatClampNeg)] mth_X5_windOf st_X5_windOf ml_RX5_82 ⟨Nat.le_of_ble_eq_true rfl, Nat.le_of_ble_eq_true rfl⟩ rfl rfl (Nat.le_of_ble_eq_true rfl) ⟨Nat.le_refl _, Nat.le_refl _⟩ d_X5_helperGoes_74 (w_X5_windOf (xL x) b A_350 h) (aI (fun r74 s74 h => ?_))
  refine J_callS o [.int v2, .int r74] mth_X5_costBy st_X5_costBy ml_RX5_241 ⟨Nat.le_of_ble_eq_true rfl, Nat.le_of_ble_eq_true rfl⟩ rfl rfl (Nat.le_of_ble_eq_true rfl) ⟨Nat.le_refl _, Nat.le_refl _⟩ d_X5_helperGoes_77 (w_X5_costBy (xL x) b  h) (aI (fun r77 s77 h => ?_))
  refine J_isub o d_X5_helperGoes_80 ?_
  have b81 := h.1
  replace h := h.2
  refine J_iast o A_350 (vpc (rfl : ln 350 = 1098) b81) d_X5_helperGoes_81 ?_
  refine J_nS (fun s81 es81 => ?_)
  replace h := h s81 es81
  exact J_vret o d_X5_helperGoes_82 ⟨rfl, h⟩
theorem d_X5_drifterCell_0 : decode cX5_drifterCell 0 = .ok (.aload_n 0, 1) := by decide +kernel
theorem d_X5_drifterCell_1 : decode cX5_drifterCell 1 = .ok (.getfield 20, 3) := by decide +kernel
theorem d_X5_drifterCell_4 : decode cX5_drifterCell 4 = .ok (.bipush 6, 2) := by decide +kernel
theorem d_X5_drifterCell_6 : decode cX5_drifterCell 6 = .ok (.iaload, 1) := by decide +kernel
theorem d_X5_drifterCell_7 : decode cX5_drifterCell 7 = .ok (.aload_n 0, 1) := by decide +kernel
theorem d_X5_drifterCell_8 : decode cX5_drifterCell 8 = .ok (.getfield 20, 3) := by decide +kernel
theorem d_X5_drifterCell_11 : decode cX5_drifterCell 11 = .ok (.bipush 7, 2) := by decide +kernel
theorem d_X5_drifterCell_13 : decode cX5_drifterCell 13 = .ok (.iaload, 1) := by decide +kernel
theorem d_X5_drifterCell_14 : decode cX5_drifterCell 14 = .ok (.invokestatic 71, 3) := by decide +kernel
theorem d_X5_drifterCell_17 : decode cX5_drifterCell 17 = .ok (.ireturn, 1) := by decide +kernel
abbrev rm_X5_drifterCell : Room := { frames := 1, cells := 0, slots := 0, locals := 21 }
set_option maxHeartbeats 4000000 in
set_option maxRecDepth 20000 in
theorem w_X5_drifterCell (l : Launch) (b : Wy)  {σ : Sg} {K : Int32 → Sg → Prop}  (h : m_X5_drifterCell  σ K) : Ct l (wM b) yX5_drifterCell cX5_drifterCell 1 (some .int) rm_X5_drifterCell [.ref (wB (wM b) + 347)] σ (PI K) := by
  unfold m_X5_drifterCell at h
  refine Ct.of (own := RX5) (by decide +kernel) rfl (Nat.le_of_ble_eq_true rfl) (fun x hx o => ?_)
  subst hx
  show J x (wM b) (FinC x (wM b) (PI K) (0, 0)) 0 [(0, .ref (wB (wM b) + 347))] [] (0, 0) σ
  refine J_aload_n o 0 d_X5_drifterCell_0 rfl ?_
  refine J_getR (t := 350) o fl_RX5_20 rfl (Nat.le_of_ble_eq_true rfl) (Nat.le_of_ble_eq_true rfl) rfl rfl d_X5_drifterCell_1 ?_
  refine J_bipush (v := 6) o d_X5_drifterCell_4 bipush_6 ?_
  have b6 := h.1
  replace h := h.2
  refine J_iald o A_350 (vpc (rfl : ln 350 = 1098) b6) d_X5_drifterCell_6 ?_
  refine J_aload_n o 0 d_X5_drifterCell_7 rfl ?_
  refine J_getR (t := 350) o fl_RX5_20 rfl (Nat.le_of_ble_eq_true rfl) (Nat.le_of_ble_eq_true rfl) rfl rfl d_X5_drifterCell_8 ?_
  refine J_bipush (v := 7) o d_X5_drifterCell_11 bipush_7 ?_
  have b13 := h.1
  replace h := h.2
  refine J_iald o A_350 (vpc (rfl : ln 350 = 1098) b13) d_X5_drifterCell_13 ?_
  refine J_callS o [.int (σ 350 (6 : Int32).toNatClampNeg), .int (σ 350 (7 : Int32).toNatClampNeg)] mth_X5_cellAt st_X5_cellAt ml_RX5_71 ⟨Nat.le_of_ble_eq_true rfl, Nat.le_of_ble_eq_true rfl⟩ rfl rfl (Nat.le_of_ble_eq_true rfl) ⟨Nat.le_refl _, Nat.le_refl _⟩ d_X5_drifterCell_14 (w_X5_cellAt (xL x) b  h) (aI (fun r14 s14 h => ?_))
  exact J_iret o d_X5_drifterCell_17 ⟨_, rfl, h⟩
theorem d_X5_drifted_0 : decode cX5_drifted 0 = .ok (.aload_n 0, 1) := by decide +kernel
theorem d_X5_drifted_1 : decode cX5_drifted 1 = .ok (.iload_n 1, 1) := by decide +kernel
theorem d_X5_drifted_2 : decode cX5_drifted 2 = .ok (.aload_n 0, 1) := by decide +kernel
theorem d_X5_drifted_3 : decode cX5_drifted 3 = .ok (.sipush 849, 3) := by decide +kernel
theorem d_X5_drifted_6 : decode cX5_drifted 6 = .ok (.iload_n 1, 1) := by decide +kernel
theorem d_X5_drifted_7 : decode cX5_drifted 7 = .ok (.iadd, 1) := by decide +kernel
theorem d_X5_drifted_8 : decode cX5_drifted 8 = .ok (.iaload, 1) := by decide +kernel
theorem d_X5_drifted_9 : decode cX5_drifted 9 = .ok (.invokestatic 78, 3) := by decide +kernel
theorem d_X5_drifted_12 : decode cX5_drifted 12 = .ok (.istore_n 3, 1) := by decide +kernel
theorem d_X5_drifted_13 : decode cX5_drifted 13 = .ok (.aload_n 0, 1) := by decide +kernel
theorem d_X5_drifted_14 : decode cX5_drifted 14 = .ok (.iconst 5, 1) := by decide +kernel
theorem d_X5_drifted_15 : decode cX5_drifted 15 = .ok (.iaload, 1) := by decide +kernel
theorem d_X5_drifted_16 : decode cX5_drifted 16 = .ok (.ifCond .le 26, 3) := by decide +kernel
theorem d_X5_drifted_19 : decode cX5_drifted 19 = .ok (.iload_n 2, 1) := by decide +kernel
theorem d_X5_drifted_20 : decode cX5_drifted 20 = .ok (.iconst 1, 1) := by decide +kernel
theorem d_X5_drifted_21 : decode cX5_drifted 21 = .ok (.iadd, 1) := by decide +kernel
theorem d_X5_drifted_22 : decode cX5_drifted 22 = .ok (.aload_n 0, 1) := by decide +kernel
theorem d_X5_drifted_23 : decode cX5_drifted 23 = .ok (.iconst 5, 1) := by decide +kernel
theorem d_X5_drifted_24 : decode cX5_drifted 24 = .ok (.iaload, 1) := by decide +kernel
theorem d_X5_drifted_25 : decode cX5_drifted 25 = .ok (.irem, 1) := by decide +kernel
theorem d_X5_drifted_26 : decode cX5_drifted 26 = .ok (.ifCond .ne 16, 3) := by decide +kernel
theorem d_X5_drifted_29 : decode cX5_drifted 29 = .ok (.aload_n 0, 1) := by decide +kernel
theorem d_X5_drifted_30 : decode cX5_drifted 30 = .ok (.iload_n 3, 1) := by decide +kernel
theorem d_X5_drifted_31 : decode cX5_drifted 31 = .ok (.aload_n 0, 1) := by decide +kernel
theorem d_X5_drifted_32 : decode cX5_drifted 32 = .ok (.iload_n 2, 1) := by decide +kernel
theorem d_X5_drifted_33 : decode cX5_drifted 33 = .ok (.invokestatic 82, 3) := by decide +kernel
theorem d_X5_drifted_36 : decode cX5_drifted 36 = .ok (.invokestatic 78, 3) := by decide +kernel
theorem d_X5_drifted_39 : decode cX5_drifted 39 = .ok (.goto 4, 3) := by decide +kernel
theorem d_X5_drifted_42 : decode cX5_drifted 42 = .ok (.iload_n 3, 1) := by decide +kernel
theorem d_X5_drifted_43 : decode cX5_drifted 43 = .ok (.ireturn, 1) := by decide +kernel
abbrev rm_X5_drifted : Room := { frames := 4, cells := 0, slots := 0, locals := 90 }
set_option maxHeartbeats 4000000 in
set_option maxRecDepth 20000 in
theorem w_X5_drifted (l : Launch) (b : Wy) {v0 : Nat} {v1 : Int32} {v2 : Int32} {σ : Sg} {K : Int32 → Sg → Prop} (hv0 : IsA (wM b) v0) (h : m_X5_drifted v0 v1 v2 σ K) : Ct l (wM b) yX5_drifted cX5_drifted 4 (some .int) rm_X5_drifted [.ref (wB (wM b) + v0), .int v1, .int v2] σ (PI K) := by
  unfold m_X5_drifted at h
  refine Ct.of (own := RX5) (by decide +kernel) rfl (Nat.le_of_ble_eq_true rfl) (fun x hx o => ?_)
  subst hx
  show J x (wM b) (FinC x (wM b) (PI K) (0, 0)) 0 [(0, .ref (wB (wM b) + v0)), (1, .int v1), (2, .int v2)] [] (0, 0) σ
  refine J_aload_n o 0 d_X5_drifted_0 rfl ?_
  refine J_iload_n o 1 d_X5_drifted_1 rfl ?_
  refine J_aload_n o 0 d_X5_drifted_2 rfl ?_
  refine J_sipush (v := 849) o d_X5_drifted_3 sipush_849 ?_
  refine J_iload_n o 1 d_X5_drifted_6 rfl ?_
  refine J_iadd o d_X5_drifted_7 ?_
  have b8 := h.1
  replace h := h.2
  refine J_iald o hv0 (vpc rfl b8) d_X5_drifted_8 ?_
  refine J_callS o [.ref (wB (wM b) + v0), .int v1, .int (σ v0 (849 + v1).toNatClampNeg)] mth_X5_behind st_X5_behind ml_RX5_78 ⟨Nat.le_of_ble_eq_true rfl, Nat.le_of_ble_eq_true rfl⟩ rfl rfl (Nat.le_of_ble_eq_true rfl) ⟨Nat.le_refl _, Nat.le_refl _⟩ d_X5_drifted_9 (w_X5_behind (xL x) b hv0 h) (aI (fun r9 s9 h => ?_))
  refine J_istore_n (lv' := [(3, .int r9), (0, .ref (wB (wM b) + v0)), (1, .int v1), (2, .int v2)]) o d_X5_drifted_12 (by decide) rfl ?_
  refine J_aload_n o 1 d_X5_drifted_13 rfl ?_
  refine J_iconst (v := 5) o d_X5_drifted_14 iconst_5 ?_
  have b15 := h.1
  replace h := h.2
  refine J_iald o hv0 (vpc rfl b15) d_X5_drifted_15 ?_
  refine J_if_le o 42 d_X5_drifted_16 rfl (fun c16 => ?_) (fun c16 => ?_)
  · replace h := h.1 c16
    refine J_iload_n o 0 d_X5_drifted_42 rfl ?_
    exact J_iret o d_X5_drifted_43 ⟨_, rfl, h⟩
  · replace h := h.2 c16
    refine J_iload_n o 3 d_X5_drifted_19 rfl ?_
    refine J_iconst (v := 1) o d_X5_drifted_20 iconst_1 ?_
    refine J_iadd o d_X5_drifted_21 ?_
    refine J_aload_n o 1 d_X5_drifted_22 rfl ?_
    refine J_iconst (v := 5) o d_X5_drifted_23 iconst_5 ?_
    have b24 := h.1
    replace h := h.2
    refine J_iald o hv0 (vpc rfl b24) d_X5_drifted_24 ?_
    have z25 := h.1
    replace h := h.2
    refine J_irem o d_X5_drifted_25 z25 ?_
    refine J_if_ne o 42 d_X5_drifted_26 rfl (fun c26 => ?_) (fun c26 => ?_)
    · replace h := h.1 c26
      refine J_iload_n o 0 d_X5_drifted_42 rfl ?_
      exact J_iret o d_X5_drifted_43 ⟨_, rfl, h⟩
    · replace h := h.2 c26
      refine J_aload_n o 1 d_X5_drifted_29 rfl ?_
      refine J_iload_n o 0 d_X5_drifted_30 rfl ?_
      refine J_aload_n o 1 d_X5_drifted_31 rfl ?_
      refine J_iload_n o 3 d_X5_drifted_32 rfl ?_
      refine J_callS o [.ref (wB (wM b) + v0), .int v2] mth_X5_windOf st_X5_windOf ml_RX5_82 ⟨Nat.le_of_ble_eq_true rfl, Nat.le_of_ble_eq_true rfl⟩ rfl rfl (Nat.le_of_ble_eq_true rfl) ⟨Nat.le_refl _, Nat.le_refl _⟩ d_X5_drifted_33 (w_X5_windOf (xL x) b hv0 h) (aI (fun r33 s33 h => ?_))
      refine J_callS o [.ref (wB (wM b) + v0), .int r9, .int r33] mth_X5_behind st_X5_behind ml_RX5_78 ⟨Nat.le_of_ble_eq_true rfl, Nat.le_of_ble_eq_true rfl⟩ rfl rfl (Nat.le_of_ble_eq_true rfl) ⟨Nat.le_refl _, Nat.le_refl _⟩ d_X5_drifted_36 (w_X5_behind (xL x) b hv0 h) (aI (fun r36 s36 h => ?_))
      refine J_goto o 43 d_X5_drifted_39 rfl ?_
      exact J_iret o d_X5_drifted_43 ⟨_, rfl, h⟩
theorem d_X5_portBehind_0 : decode cX5_portBehind 0 = .ok (.aload_n 0, 1) := by decide +kernel
theorem d_X5_portBehind_1 : decode cX5_portBehind 1 = .ok (.bipush 11, 2) := by decide +kernel
theorem d_X5_portBehind_3 : decode cX5_portBehind 3 = .ok (.iaload, 1) := by decide +kernel
theorem d_X5_portBehind_4 : decode cX5_portBehind 4 = .ok (.ifCond .ne 7, 3) := by decide +kernel
theorem d_X5_portBehind_7 : decode cX5_portBehind 7 = .ok (.iload_n 1, 1) := by decide +kernel
theorem d_X5_portBehind_8 : decode cX5_portBehind 8 = .ok (.goto 19, 3) := by decide +kernel
theorem d_X5_portBehind_11 : decode cX5_portBehind 11 = .ok (.aload_n 0, 1) := by decide +kernel
theorem d_X5_portBehind_12 : decode cX5_portBehind 12 = .ok (.iload_n 1, 1) := by decide +kernel
theorem d_X5_portBehind_13 : decode cX5_portBehind 13 = .ok (.aload_n 0, 1) := by decide +kernel
theorem d_X5_portBehind_14 : decode cX5_portBehind 14 = .ok (.bipush 36, 2) := by decide +kernel
theorem d_X5_portBehind_16 : decode cX5_portBehind 16 = .ok (.iload_n 2, 1) := by decide +kernel
theorem d_X5_portBehind_17 : decode cX5_portBehind 17 = .ok (.aload_n 0, 1) := by decide +kernel
theorem d_X5_portBehind_18 : decode cX5_portBehind 18 = .ok (.bipush 11, 2) := by decide +kernel
theorem d_X5_portBehind_20 : decode cX5_portBehind 20 = .ok (.iaload, 1) := by decide +kernel
theorem d_X5_portBehind_21 : decode cX5_portBehind 21 = .ok (.irem, 1) := by decide +kernel
theorem d_X5_portBehind_22 : decode cX5_portBehind 22 = .ok (.iadd, 1) := by decide +kernel
theorem d_X5_portBehind_23 : decode cX5_portBehind 23 = .ok (.iaload, 1) := by decide +kernel
theorem d_X5_portBehind_24 : decode cX5_portBehind 24 = .ok (.invokestatic 78, 3) := by decide +kernel
theorem d_X5_portBehind_27 : decode cX5_portBehind 27 = .ok (.ireturn, 1) := by decide +kernel
abbrev rm_X5_portBehind : Room := { frames := 4, cells := 0, slots := 0, locals := 90 }
set_option maxHeartbeats 4000000 in
set_option maxRecDepth 20000 in
theorem w_X5_portBehind (l : Launch) (b : Wy) {v0 : Nat} {v1 : Int32} {v2 : Int32} {σ : Sg} {K : Int32 → Sg → Prop} (hv0 : IsA (wM b) v0) (h : m_X5_portBehind v0 v1 v2 σ K) : Ct l (wM b) yX5_portBehind cX5_portBehind 3 (some .int) rm_X5_portBehind [.ref (wB (wM b) + v0), .int v1, .int v2] σ (PI K) := by
  unfold m_X5_portBehind at h
  refine Ct.of (own := RX5) (by decide +kernel) rfl (Nat.le_of_ble_eq_true rfl) (fun x hx o => ?_)
  subst hx
  show J x (wM b) (FinC x (wM b) (PI K) (0, 0)) 0 [(0, .ref (wB (wM b) + v0)), (1, .int v1), (2, .int v2)] [] (0, 0) σ
  refine J_aload_n o 0 d_X5_portBehind_0 rfl ?_
  refine J_bipush (v := 11) o d_X5_portBehind_1 bipush_11 ?_
  have b3 := h.1
  replace h := h.2
  refine J_iald o hv0 (vpc rfl b3) d_X5_portBehind_3 ?_
  refine J_if_ne o 11 d_X5_portBehind_4 rfl (fun c4 => ?_) (fun c4 => ?_)
  · replace h := h.1 c4
    refine J_aload_n o 0 d_X5_portBehind_11 rfl ?_
    refine J_iload_n o 1 d_X5_portBehind_12 rfl ?_
    refine J_aload_n o 0 d_X5_portBehind_13 rfl ?_
    refine J_bipush (v := 36) o d_X5_portBehind_14 bipush_36 ?_
    refine J_iload_n o 2 d_X5_portBehind_16 rfl ?_
    refine J_aload_n o 0 d_X5_portBehind_17 rfl ?_
    refine J_bipush (v := 11) o d_X5_portBehind_18 bipush_11 ?_
    have b20 := h.1
    replace h := h.2
    refine J_iald o hv0 (vpc rfl b20) d_X5_portBehind_20 ?_
    have z21 := h.1
    replace h := h.2
    refine J_irem o d_X5_portBehind_21 z21 ?_
    refine J_iadd o d_X5_portBehind_22 ?_
    have b23 := h.1
    replace h := h.2
    refine J_iald o hv0 (vpc rfl b23) d_X5_portBehind_23 ?_
    refine J_callS o [.ref (wB (wM b) + v0), .int v1, .int (σ v0 (36 + (v2 - v2 / (σ v0 (11 : Int32).toNatClampNeg) * (σ v0 (11 : Int32).toNatClampNeg))).toNatClampNeg)] mth_X5_behind st_X5_behind ml_RX5_78 ⟨Nat.le_of_ble_eq_true rfl, Nat.le_of_ble_eq_true rfl⟩ rfl rfl (Nat.le_of_ble_eq_true rfl) ⟨Nat.le_refl _, Nat.le_refl _⟩ d_X5_portBehind_24 (w_X5_behind (xL x) b hv0 h) (aI (fun r24 s24 h => ?_))
    exact J_iret o d_X5_portBehind_27 ⟨_, rfl, h⟩
  · replace h := h.2 c4
    refine J_iload_n o 1 d_X5_portBehind_7 rfl ?_
    refine J_goto o 27 d_X5_portBehind_8 rfl ?_
    exact J_iret o d_X5_portBehind_27 ⟨_, rfl, h⟩
theorem d_X5_hour_0 : decode cX5_hour 0 = .ok (.aload_n 0, 1) := by decide +kernel
theorem d_X5_hour_1 : decode cX5_hour 1 = .ok (.iconst 0, 1) := by decide +kernel
theorem d_X5_hour_2 : decode cX5_hour 2 = .ok (.putfield 50, 3) := by decide +kernel
theorem d_X5_hour_5 : decode cX5_hour 5 = .ok (.aload_n 0, 1) := by decide +kernel
theorem d_X5_hour_6 : decode cX5_hour 6 = .ok (.aload_n 0, 1) := by decide +kernel
theorem d_X5_hour_7 : decode cX5_hour 7 = .ok (.iconst 0, 1) := by decide +kernel
theorem d_X5_hour_8 : decode cX5_hour 8 = .ok (.iload_n 1, 1) := by decide +kernel
theorem d_X5_hour_9 : decode cX5_hour 9 = .ok (.invokevirtual 250, 3) := by decide +kernel
theorem d_X5_hour_12 : decode cX5_hour 12 = .ok (.ifCond .eq 21, 3) := by decide +kernel
theorem d_X5_hour_15 : decode cX5_hour 15 = .ok (.aload_n 0, 1) := by decide +kernel
theorem d_X5_hour_16 : decode cX5_hour 16 = .ok (.iconst 1, 1) := by decide +kernel
theorem d_X5_hour_17 : decode cX5_hour 17 = .ok (.iload_n 2, 1) := by decide +kernel
theorem d_X5_hour_18 : decode cX5_hour 18 = .ok (.invokevirtual 250, 3) := by decide +kernel
theorem d_X5_hour_21 : decode cX5_hour 21 = .ok (.ifCond .eq 12, 3) := by decide +kernel
theorem d_X5_hour_24 : decode cX5_hour 24 = .ok (.aload_n 0, 1) := by decide +kernel
theorem d_X5_hour_25 : decode cX5_hour 25 = .ok (.iconst 2, 1) := by decide +kernel
theorem d_X5_hour_26 : decode cX5_hour 26 = .ok (.iload_n 3, 1) := by decide +kernel
theorem d_X5_hour_27 : decode cX5_hour 27 = .ok (.invokevirtual 250, 3) := by decide +kernel
theorem d_X5_hour_30 : decode cX5_hour 30 = .ok (.ifCond .ne 7, 3) := by decide +kernel
theorem d_X5_hour_33 : decode cX5_hour 33 = .ok (.iconst 1, 1) := by decide +kernel
theorem d_X5_hour_34 : decode cX5_hour 34 = .ok (.goto 4, 3) := by decide +kernel
theorem d_X5_hour_37 : decode cX5_hour 37 = .ok (.iconst 0, 1) := by decide +kernel
theorem d_X5_hour_38 : decode cX5_hour 38 = .ok (.iconst 1, 1) := by decide +kernel
theorem d_X5_hour_39 : decode cX5_hour 39 = .ok (.iconst 1, 1) := by decide +kernel
theorem d_X5_hour_40 : decode cX5_hour 40 = .ok (.invokevirtual 216, 3) := by decide +kernel
theorem d_X5_hour_43 : decode cX5_hour 43 = .ok (.ifCond .ne 56, 3) := by decide +kernel
theorem d_X5_hour_46 : decode cX5_hour 46 = .ok (.aload_n 0, 1) := by decide +kernel
theorem d_X5_hour_47 : decode cX5_hour 47 = .ok (.aload_n 0, 1) := by decide +kernel
theorem d_X5_hour_48 : decode cX5_hour 48 = .ok (.getfield 20, 3) := by decide +kernel
theorem d_X5_hour_51 : decode cX5_hour 51 = .ok (.iconst 2, 1) := by decide +kernel
theorem d_X5_hour_52 : decode cX5_hour 52 = .ok (.iaload, 1) := by decide +kernel
theorem d_X5_hour_53 : decode cX5_hour 53 = .ok (.sipush 500, 3) := by decide +kernel
theorem d_X5_hour_56 : decode cX5_hour 56 = .ok (.if_icmp .eq 30, 3) := by decide +kernel
theorem d_X5_hour_59 : decode cX5_hour 59 = .ok (.aload_n 0, 1) := by decide +kernel
theorem d_X5_hour_60 : decode cX5_hour 60 = .ok (.iconst 0, 1) := by decide +kernel
theorem d_X5_hour_61 : decode cX5_hour 61 = .ok (.iload_n 1, 1) := by decide +kernel
theorem d_X5_hour_62 : decode cX5_hour 62 = .ok (.invokevirtual 254, 3) := by decide +kernel
theorem d_X5_hour_65 : decode cX5_hour 65 = .ok (.ifCond .eq 21, 3) := by decide +kernel
theorem d_X5_hour_68 : decode cX5_hour 68 = .ok (.aload_n 0, 1) := by decide +kernel
theorem d_X5_hour_69 : decode cX5_hour 69 = .ok (.iconst 1, 1) := by decide +kernel
theorem d_X5_hour_70 : decode cX5_hour 70 = .ok (.iload_n 2, 1) := by decide +kernel
theorem d_X5_hour_71 : decode cX5_hour 71 = .ok (.invokevirtual 254, 3) := by decide +kernel
theorem d_X5_hour_74 : decode cX5_hour 74 = .ok (.ifCond .eq 12, 3) := by decide +kernel
theorem d_X5_hour_77 : decode cX5_hour 77 = .ok (.aload_n 0, 1) := by decide +kernel
theorem d_X5_hour_78 : decode cX5_hour 78 = .ok (.iconst 2, 1) := by decide +kernel
theorem d_X5_hour_79 : decode cX5_hour 79 = .ok (.iload_n 3, 1) := by decide +kernel
theorem d_X5_hour_80 : decode cX5_hour 80 = .ok (.invokevirtual 254, 3) := by decide +kernel
theorem d_X5_hour_83 : decode cX5_hour 83 = .ok (.ifCond .ne 7, 3) := by decide +kernel
theorem d_X5_hour_86 : decode cX5_hour 86 = .ok (.iconst 1, 1) := by decide +kernel
theorem d_X5_hour_87 : decode cX5_hour 87 = .ok (.goto 4, 3) := by decide +kernel
theorem d_X5_hour_90 : decode cX5_hour 90 = .ok (.iconst 0, 1) := by decide +kernel
theorem d_X5_hour_91 : decode cX5_hour 91 = .ok (.iconst 2, 1) := by decide +kernel
theorem d_X5_hour_92 : decode cX5_hour 92 = .ok (.iconst 2, 1) := by decide +kernel
theorem d_X5_hour_93 : decode cX5_hour 93 = .ok (.invokevirtual 216, 3) := by decide +kernel
theorem d_X5_hour_96 : decode cX5_hour 96 = .ok (.ifCond .eq 5, 3) := by decide +kernel
theorem d_X5_hour_99 : decode cX5_hour 99 = .ok (.iconst 0, 1) := by decide +kernel
theorem d_X5_hour_100 : decode cX5_hour 100 = .ok (.ireturn, 1) := by decide +kernel
theorem d_X5_hour_101 : decode cX5_hour 101 = .ok (.aload_n 0, 1) := by decide +kernel
theorem d_X5_hour_102 : decode cX5_hour 102 = .ok (.invokevirtual 225, 3) := by decide +kernel
theorem d_X5_hour_105 : decode cX5_hour 105 = .ok (.iconst 0, 1) := by decide +kernel
theorem d_X5_hour_106 : decode cX5_hour 106 = .ok (.istore 4, 2) := by decide +kernel
theorem d_X5_hour_108 : decode cX5_hour 108 = .ok (.iconst 0, 1) := by decide +kernel
theorem d_X5_hour_109 : decode cX5_hour 109 = .ok (.istore 5, 2) := by decide +kernel
theorem d_X5_hour_111 : decode cX5_hour 111 = .ok (.iload 5, 2) := by decide +kernel
theorem d_X5_hour_113 : decode cX5_hour 113 = .ok (.aload_n 0, 1) := by decide +kernel
theorem d_X5_hour_114 : decode cX5_hour 114 = .ok (.getfield 20, 3) := by decide +kernel
theorem d_X5_hour_117 : decode cX5_hour 117 = .ok (.iconst 3, 1) := by decide +kernel
theorem d_X5_hour_118 : decode cX5_hour 118 = .ok (.iaload, 1) := by decide +kernel
theorem d_X5_hour_119 : decode cX5_hour 119 = .ok (.if_icmp .ge 35, 3) := by decide +kernel
theorem d_X5_hour_122 : decode cX5_hour 122 = .ok (.aload_n 0, 1) := by decide +kernel
theorem d_X5_hour_123 : decode cX5_hour 123 = .ok (.iload 5, 2) := by decide +kernel
theorem d_X5_hour_125 : decode cX5_hour 125 = .ok (.iload 5, 2) := by decide +kernel
theorem d_X5_hour_127 : decode cX5_hour 127 = .ok (.ifCond .ne 7, 3) := by decide +kernel
theorem d_X5_hour_130 : decode cX5_hour 130 = .ok (.iload_n 1, 1) := by decide +kernel
theorem d_X5_hour_131 : decode cX5_hour 131 = .ok (.goto 14, 3) := by decide +kernel
theorem d_X5_hour_134 : decode cX5_hour 134 = .ok (.iload 5, 2) := by decide +kernel
theorem d_X5_hour_136 : decode cX5_hour 136 = .ok (.iconst 1, 1) := by decide +kernel
theorem d_X5_hour_137 : decode cX5_hour 137 = .ok (.if_icmp .ne 7, 3) := by decide +kernel
theorem d_X5_hour_140 : decode cX5_hour 140 = .ok (.iload_n 2, 1) := by decide +kernel
theorem d_X5_hour_141 : decode cX5_hour 141 = .ok (.goto 4, 3) := by decide +kernel
theorem d_X5_hour_144 : decode cX5_hour 144 = .ok (.iload_n 3, 1) := by decide +kernel
theorem d_X5_hour_145 : decode cX5_hour 145 = .ok (.invokevirtual 257, 3) := by decide +kernel
theorem d_X5_hour_148 : decode cX5_hour 148 = .ok (.iinc 5 1, 3) := by decide +kernel
theorem d_X5_hour_151 : decode cX5_hour 151 = .ok (.goto (-40), 3) := by decide +kernel
theorem d_X5_hour_154 : decode cX5_hour 154 = .ok (.aload_n 0, 1) := by decide +kernel
theorem d_X5_hour_155 : decode cX5_hour 155 = .ok (.getfield 20, 3) := by decide +kernel
theorem d_X5_hour_158 : decode cX5_hour 158 = .ok (.aload_n 0, 1) := by decide +kernel
theorem d_X5_hour_159 : decode cX5_hour 159 = .ok (.invokevirtual 260, 3) := by decide +kernel
theorem d_X5_hour_162 : decode cX5_hour 162 = .ok (.aload_n 0, 1) := by decide +kernel
theorem d_X5_hour_163 : decode cX5_hour 163 = .ok (.getfield 20, 3) := by decide +kernel
theorem d_X5_hour_166 : decode cX5_hour 166 = .ok (.iconst 2, 1) := by decide +kernel
theorem d_X5_hour_167 : decode cX5_hour 167 = .ok (.iaload, 1) := by decide +kernel
theorem d_X5_hour_168 : decode cX5_hour 168 = .ok (.invokestatic 263, 3) := by decide +kernel
theorem d_X5_hour_171 : decode cX5_hour 171 = .ok (.istore 5, 2) := by decide +kernel
theorem d_X5_hour_173 : decode cX5_hour 173 = .ok (.aload_n 0, 1) := by decide +kernel
theorem d_X5_hour_174 : decode cX5_hour 174 = .ok (.getfield 20, 3) := by decide +kernel
theorem d_X5_hour_177 : decode cX5_hour 177 = .ok (.aload_n 0, 1) := by decide +kernel
theorem d_X5_hour_178 : decode cX5_hour 178 = .ok (.getfield 20, 3) := by decide +kernel
theorem d_X5_hour_181 : decode cX5_hour 181 = .ok (.bipush 8, 2) := by decide +kernel
theorem d_X5_hour_183 : decode cX5_hour 183 = .ok (.iaload, 1) := by decide +kernel
theorem d_X5_hour_184 : decode cX5_hour 184 = .ok (.aload_n 0, 1) := by decide +kernel
theorem d_X5_hour_185 : decode cX5_hour 185 = .ok (.getfield 20, 3) := by decide +kernel
theorem d_X5_hour_188 : decode cX5_hour 188 = .ok (.bipush 9, 2) := by decide +kernel
theorem d_X5_hour_190 : decode cX5_hour 190 = .ok (.iaload, 1) := by decide +kernel
theorem d_X5_hour_191 : decode cX5_hour 191 = .ok (.invokestatic 71, 3) := by decide +kernel
theorem d_X5_hour_194 : decode cX5_hour 194 = .ok (.aload_n 0, 1) := by decide +kernel
theorem d_X5_hour_195 : decode cX5_hour 195 = .ok (.getfield 20, 3) := by decide +kernel
theorem d_X5_hour_198 : decode cX5_hour 198 = .ok (.iconst 2, 1) := by decide +kernel
theorem d_X5_hour_199 : decode cX5_hour 199 = .ok (.iaload, 1) := by decide +kernel
theorem d_X5_hour_200 : decode cX5_hour 200 = .ok (.invokestatic 266, 3) := by decide +kernel
theorem d_X5_hour_203 : decode cX5_hour 203 = .ok (.istore 6, 2) := by decide +kernel
theorem d_X5_hour_205 : decode cX5_hour 205 = .ok (.aload_n 0, 1) := by decide +kernel
theorem d_X5_hour_206 : decode cX5_hour 206 = .ok (.getfield 20, 3) := by decide +kernel
theorem d_X5_hour_209 : decode cX5_hour 209 = .ok (.bipush 6, 2) := by decide +kernel
theorem d_X5_hour_211 : decode cX5_hour 211 = .ok (.iload 5, 2) := by decide +kernel
theorem d_X5_hour_213 : decode cX5_hour 213 = .ok (.bipush 20, 2) := by decide +kernel
theorem d_X5_hour_215 : decode cX5_hour 215 = .ok (.irem, 1) := by decide +kernel
theorem d_X5_hour_216 : decode cX5_hour 216 = .ok (.iastore, 1) := by decide +kernel
theorem d_X5_hour_217 : decode cX5_hour 217 = .ok (.aload_n 0, 1) := by decide +kernel
theorem d_X5_hour_218 : decode cX5_hour 218 = .ok (.getfield 20, 3) := by decide +kernel
theorem d_X5_hour_221 : decode cX5_hour 221 = .ok (.bipush 7, 2) := by decide +kernel
theorem d_X5_hour_223 : decode cX5_hour 223 = .ok (.iload 5, 2) := by decide +kernel
theorem d_X5_hour_225 : decode cX5_hour 225 = .ok (.bipush 20, 2) := by decide +kernel
theorem d_X5_hour_227 : decode cX5_hour 227 = .ok (.idiv, 1) := by decide +kernel
theorem d_X5_hour_228 : decode cX5_hour 228 = .ok (.iastore, 1) := by decide +kernel
theorem d_X5_hour_229 : decode cX5_hour 229 = .ok (.aload_n 0, 1) := by decide +kernel
theorem d_X5_hour_230 : decode cX5_hour 230 = .ok (.getfield 20, 3) := by decide +kernel
theorem d_X5_hour_233 : decode cX5_hour 233 = .ok (.bipush 8, 2) := by decide +kernel
theorem d_X5_hour_235 : decode cX5_hour 235 = .ok (.iload 6, 2) := by decide +kernel
theorem d_X5_hour_237 : decode cX5_hour 237 = .ok (.bipush 20, 2) := by decide +kernel
theorem d_X5_hour_239 : decode cX5_hour 239 = .ok (.irem, 1) := by decide +kernel
theorem d_X5_hour_240 : decode cX5_hour 240 = .ok (.iastore, 1) := by decide +kernel
theorem d_X5_hour_241 : decode cX5_hour 241 = .ok (.aload_n 0, 1) := by decide +kernel
theorem d_X5_hour_242 : decode cX5_hour 242 = .ok (.getfield 20, 3) := by decide +kernel
theorem d_X5_hour_245 : decode cX5_hour 245 = .ok (.bipush 9, 2) := by decide +kernel
theorem d_X5_hour_247 : decode cX5_hour 247 = .ok (.iload 6, 2) := by decide +kernel
theorem d_X5_hour_249 : decode cX5_hour 249 = .ok (.bipush 20, 2) := by decide +kernel
theorem d_X5_hour_251 : decode cX5_hour 251 = .ok (.idiv, 1) := by decide +kernel
theorem d_X5_hour_252 : decode cX5_hour 252 = .ok (.iastore, 1) := by decide +kernel
theorem d_X5_hour_253 : decode cX5_hour 253 = .ok (.aload_n 0, 1) := by decide +kernel
theorem d_X5_hour_254 : decode cX5_hour 254 = .ok (.getfield 20, 3) := by decide +kernel
theorem d_X5_hour_257 : decode cX5_hour 257 = .ok (.iconst 2, 1) := by decide +kernel
theorem d_X5_hour_258 : decode cX5_hour 258 = .ok (.dup2, 1) := by decide +kernel
theorem d_X5_hour_259 : decode cX5_hour 259 = .ok (.iaload, 1) := by decide +kernel
theorem d_X5_hour_260 : decode cX5_hour 260 = .ok (.iconst 1, 1) := by decide +kernel
theorem d_X5_hour_261 : decode cX5_hour 261 = .ok (.iadd, 1) := by decide +kernel
theorem d_X5_hour_262 : decode cX5_hour 262 = .ok (.iastore, 1) := by decide +kernel
theorem d_X5_hour_263 : decode cX5_hour 263 = .ok (.iconst 0, 1) := by decide +kernel
theorem d_X5_hour_264 : decode cX5_hour 264 = .ok (.istore 7, 2) := by decide +kernel
theorem d_X5_hour_266 : decode cX5_hour 266 = .ok (.iload 7, 2) := by decide +kernel
theorem d_X5_hour_268 : decode cX5_hour 268 = .ok (.aload_n 0, 1) := by decide +kernel
theorem d_X5_hour_269 : decode cX5_hour 269 = .ok (.getfield 20, 3) := by decide +kernel
theorem d_X5_hour_272 : decode cX5_hour 272 = .ok (.iconst 3, 1) := by decide +kernel
theorem d_X5_hour_273 : decode cX5_hour 273 = .ok (.iaload, 1) := by decide +kernel
theorem d_X5_hour_274 : decode cX5_hour 274 = .ok (.if_icmp .ge 33, 3) := by decide +kernel
theorem d_X5_hour_277 : decode cX5_hour 277 = .ok (.iload 4, 2) := by decide +kernel
theorem d_X5_hour_279 : decode cX5_hour 279 = .ok (.aload_n 0, 1) := by decide +kernel
theorem d_X5_hour_280 : decode cX5_hour 280 = .ok (.iload 7, 2) := by decide +kernel
theorem d_X5_hour_282 : decode cX5_hour 282 = .ok (.invokevirtual 238, 3) := by decide +kernel
theorem d_X5_hour_285 : decode cX5_hour 285 = .ok (.iload 5, 2) := by decide +kernel
theorem d_X5_hour_287 : decode cX5_hour 287 = .ok (.if_icmp .ne 10, 3) := by decide +kernel
theorem d_X5_hour_290 : decode cX5_hour 290 = .ok (.iconst 1, 1) := by decide +kernel
theorem d_X5_hour_291 : decode cX5_hour 291 = .ok (.iload 7, 2) := by decide +kernel
theorem d_X5_hour_293 : decode cX5_hour 293 = .ok (.ishl, 1) := by decide +kernel
theorem d_X5_hour_294 : decode cX5_hour 294 = .ok (.goto 4, 3) := by decide +kernel
theorem d_X5_hour_297 : decode cX5_hour 297 = .ok (.iconst 0, 1) := by decide +kernel
theorem d_X5_hour_298 : decode cX5_hour 298 = .ok (.ior, 1) := by decide +kernel
theorem d_X5_hour_299 : decode cX5_hour 299 = .ok (.istore 4, 2) := by decide +kernel
theorem d_X5_hour_301 : decode cX5_hour 301 = .ok (.iinc 7 1, 3) := by decide +kernel
theorem d_X5_hour_304 : decode cX5_hour 304 = .ok (.goto (-38), 3) := by decide +kernel
theorem d_X5_hour_307 : decode cX5_hour 307 = .ok (.iload 4, 2) := by decide +kernel
theorem d_X5_hour_309 : decode cX5_hour 309 = .ok (.ireturn, 1) := by decide +kernel
abbrev rm_X5_hour : Room := { frames := 6, cells := 0, slots := 0, locals := 136 }
set_option maxHeartbeats 4000000 in
set_option maxRecDepth 20000 in
theorem c_X5_hour_266 {x : Cx} {b : Wy} (o : Ok x (wM b) cX5_hour 8 RX5 (some .int) rm_X5_hour) {v1 : Int32} {v2 : Int32} {v3 : Int32} {K : Int32 → Sg → Prop}   : ∀ (n : Nat) (l4 : Int32) (l5 : Int32) (l7 : Int32) (σ : Sg), m_X5_hour_l266 v1 v2 v3 K  n l4 l5 l7 σ → J x (wM b) (FinC x (wM b) (PI K) (0, 0)) 266 [(0, .ref (wB (wM b) + 347)), (4, .int l4), (5, .int l5), (7, .int l7)] [] (0, 0) σ := by
  intro n
  induction n with
  | zero =>
    intro l4 l5 l7 σ  h
    exact False.elim h
  | succ n ih =>
    intro l4 l5 l7 σ  h
    unfold m_X5_hour_l266 at h
    refine J_iload o 3 d_X5_hour_266 rfl ?_
    refine J_aload_n o 0 d_X5_hour_268 rfl ?_
    refine J_getR (t := 350) o fl_RX5_20 rfl (Nat.le_of_ble_eq_true rfl) (Nat.le_of_ble_eq_true rfl) rfl rfl d_X5_hour_269 ?_
    refine J_iconst (v := 3) o d_X5_hour_272 iconst_3 ?_
    have b273 := h.1
    replace h := h.2
    refine J_iald o A_350 (vpc (rfl : ln 350 = 1098) b273) d_X5_hour_273 ?_
    refine J_icmp_ge o 307 d_X5_hour_274 rfl (fun c274 => ?_) (fun c274 => ?_)
    · replace h := h.1 c274
      refine J_iload o 1 d_X5_hour_307 rfl ?_
      exact J_iret o d_X5_hour_309 ⟨_, rfl, h⟩
    · replace h := h.2 c274
      refine J_iload o 1 d_X5_hour_277 rfl ?_
      refine J_aload_n o 0 d_X5_hour_279 rfl ?_
      refine J_iload o 3 d_X5_hour_280 rfl ?_
      refine J_callV (k := 347) (c := 5) o [.int l7] rfl (by decide) (Nat.le_of_ble_eq_true rfl) (Nat.le_of_ble_eq_true rfl) mth_X5_helperCell iv_X5_helperCell ml_RX5_238 ⟨Nat.le_of_ble_eq_true rfl, Nat.le_of_ble_eq_true rfl⟩ rfl rfl (Nat.le_of_ble_eq_true rfl) ⟨Nat.le_refl _, Nat.le_refl _⟩ d_X5_hour_282 (w_X5_helperCell (xL x) b  h) (aI (fun r282 s282 h => ?_))
      refine J_iload o 2 d_X5_hour_285 rfl ?_
      refine J_icmp_ne o 297 d_X5_hour_287 rfl (fun c287 => ?_) (fun c287 => ?_)
      · replace h := h.1 c287
        refine J_iconst (v := 0) o d_X5_hour_297 iconst_0 ?_
        refine J_ior o d_X5_hour_298 ?_
        refine J_top (fun l4_299 el4_299 => ?_)
        replace h := h l4_299 el4_299
        refine J_istore (lv' := [(4, .int l4_299), (0, .ref (wB (wM b) + 347)), (5, .int l5), (7, .int l7)]) o d_X5_hour_299 (by decide) rfl ?_
        refine J_iinc (lv' := [(7, .int (l7 + 1)), (4, .int l4_299), (0, .ref (wB (wM b) + 347)), (5, .int l5)]) o 3 d_X5_hour_301 (by decide) rfl iconst_1 rfl ?_
        refine J_goto o 266 d_X5_hour_304 rfl ?_
        refine J_sub [2, 1, 3, 0] rfl ?_
        exact ih l4_299 l5 (l7 + 1) s282  h
      · replace h := h.2 c287
        refine J_iconst (v := 1) o d_X5_hour_290 iconst_1 ?_
        refine J_iload o 3 d_X5_hour_291 rfl ?_
        refine J_ishl o d_X5_hour_293 ?_
        refine J_goto o 298 d_X5_hour_294 rfl ?_
        refine J_ior o d_X5_hour_298 ?_
        refine J_top (fun l4_299 el4_299 => ?_)
        replace h := h l4_299 el4_299
        refine J_istore (lv' := [(4, .int l4_299), (0, .ref (wB (wM b) + 347)), (5, .int l5), (7, .int l7)]) o d_X5_hour_299 (by decide) rfl ?_
        refine J_iinc (lv' := [(7, .int (l7 + 1)), (4, .int l4_299), (0, .ref (wB (wM b) + 347)), (5, .int l5)]) o 3 d_X5_hour_301 (by decide) rfl iconst_1 rfl ?_
        refine J_goto o 266 d_X5_hour_304 rfl ?_
        refine J_sub [2, 1, 3, 0] rfl ?_
        exact ih l4_299 l5 (l7 + 1) s282  h
set_option maxHeartbeats 4000000 in
set_option maxRecDepth 20000 in
theorem c_X5_hour_111 {x : Cx} {b : Wy} (o : Ok x (wM b) cX5_hour 8 RX5 (some .int) rm_X5_hour) {v1 : Int32} {v2 : Int32} {v3 : Int32} {K : Int32 → Sg → Prop}   : ∀ (n : Nat) (l4 : Int32) (l5 : Int32) (σ : Sg), m_X5_hour_l111 v1 v2 v3 K  n l4 l5 σ → J x (wM b) (FinC x (wM b) (PI K) (0, 0)) 111 [(0, .ref (wB (wM b) + 347)), (1, .int v1), (2, .int v2), (3, .int v3), (4, .int l4), (5, .int l5)] [] (0, 0) σ := by
  intro n
  induction n with
  | zero =>
    intro l4 l5 σ  h
    exact False.elim h
  | succ n ih =>
    intro l4 l5 σ  h
    unfold m_X5_hour_l111 at h
    refine J_iload o 5 d_X5_hour_111 rfl ?_
    refine J_aload_n o 0 d_X5_hour_113 rfl ?_
    refine J_getR (t := 350) o fl_RX5_20 rfl (Nat.le_of_ble_eq_true rfl) (Nat.le_of_ble_eq_true rfl) rfl rfl d_X5_hour_114 ?_
    refine J_iconst (v := 3) o d_X5_hour_117 iconst_3 ?_
    have b118 := h.1
    replace h := h.2
    refine J_iald o A_350 (vpc (rfl : ln 350 = 1098) b118) d_X5_hour_118 ?_
    refine J_icmp_ge o 154 d_X5_hour_119 rfl (fun c119 => ?_) (fun c119 => ?_)
    · replace h := h.1 c119
      refine J_aload_n o 0 d_X5_hour_154 rfl ?_
      refine J_getR (t := 350) o fl_RX5_20 rfl (Nat.le_of_ble_eq_true rfl) (Nat.le_of_ble_eq_true rfl) rfl rfl d_X5_hour_155 ?_
      refine J_aload_n o 0 d_X5_hour_158 rfl ?_
      refine J_callV (k := 347) (c := 5) o [] rfl (by decide) (Nat.le_of_ble_eq_true rfl) (Nat.le_of_ble_eq_true rfl) mth_X5_drifterCell iv_X5_drifterCell ml_RX5_260 ⟨Nat.le_of_ble_eq_true rfl, Nat.le_of_ble_eq_true rfl⟩ rfl rfl (Nat.le_of_ble_eq_true rfl) ⟨Nat.le_refl _, Nat.le_refl _⟩ d_X5_hour_159 (w_X5_drifterCell (xL x) b  h) (aI (fun r159 s159 h => ?_))
      refine J_aload_n o 0 d_X5_hour_162 rfl ?_
      refine J_getR (t := 350) o fl_RX5_20 rfl (Nat.le_of_ble_eq_true rfl) (Nat.le_of_ble_eq_true rfl) rfl rfl d_X5_hour_163 ?_
      refine J_iconst (v := 2) o d_X5_hour_166 iconst_2 ?_
      have b167 := h.1
      replace h := h.2
      refine J_iald o A_350 (vpc (rfl : ln 350 = 1098) b167) d_X5_hour_167 ?_
      refine J_callS o [.ref (wB (wM b) + 350), .int r159, .int (s159 350 (2 : Int32).toNatClampNeg)] mth_X5_drifted st_X5_drifted ml_RX5_263 ⟨Nat.le_of_ble_eq_true rfl, Nat.le_of_ble_eq_true rfl⟩ rfl rfl (Nat.le_of_ble_eq_true rfl) ⟨Nat.le_refl _, Nat.le_refl _⟩ d_X5_hour_168 (w_X5_drifted (xL x) b A_350 h) (aI (fun r168 s168 h => ?_))
      refine J_istore (lv' := [(5, .int r168), (0, .ref (wB (wM b) + 347)), (1, .int v1), (2, .int v2), (3, .int v3), (4, .int l4)]) o d_X5_hour_171 (by decide) rfl ?_
      refine J_aload_n o 1 d_X5_hour_173 rfl ?_
      refine J_getR (t := 350) o fl_RX5_20 rfl (Nat.le_of_ble_eq_true rfl) (Nat.le_of_ble_eq_true rfl) rfl rfl d_X5_hour_174 ?_
      refine J_aload_n o 1 d_X5_hour_177 rfl ?_
      refine J_getR (t := 350) o fl_RX5_20 rfl (Nat.le_of_ble_eq_true rfl) (Nat.le_of_ble_eq_true rfl) rfl rfl d_X5_hour_178 ?_
      refine J_bipush (v := 8) o d_X5_hour_181 bipush_8 ?_
      have b183 := h.1
      replace h := h.2
      refine J_iald o A_350 (vpc (rfl : ln 350 = 1098) b183) d_X5_hour_183 ?_
      refine J_aload_n o 1 d_X5_hour_184 rfl ?_
      refine J_getR (t := 350) o fl_RX5_20 rfl (Nat.le_of_ble_eq_true rfl) (Nat.le_of_ble_eq_true rfl) rfl rfl d_X5_hour_185 ?_
      refine J_bipush (v := 9) o d_X5_hour_188 bipush_9 ?_
      have b190 := h.1
      replace h := h.2
      refine J_iald o A_350 (vpc (rfl : ln 350 = 1098) b190) d_X5_hour_190 ?_
      refine J_callS o [.int (s168 350 (8 : Int32).toNatClampNeg), .int (s168 350 (9 : Int32).toNatClampNeg)] mth_X5_cellAt st_X5_cellAt ml_RX5_71 ⟨Nat.le_of_ble_eq_true rfl, Nat.le_of_ble_eq_true rfl⟩ rfl rfl (Nat.le_of_ble_eq_true rfl) ⟨Nat.le_refl _, Nat.le_refl _⟩ d_X5_hour_191 (w_X5_cellAt (xL x) b  h) (aI (fun r191 s191 h => ?_))
      refine J_aload_n o 1 d_X5_hour_194 rfl ?_
      refine J_getR (t := 350) o fl_RX5_20 rfl (Nat.le_of_ble_eq_true rfl) (Nat.le_of_ble_eq_true rfl) rfl rfl d_X5_hour_195 ?_
      refine J_iconst (v := 2) o d_X5_hour_198 iconst_2 ?_
      have b199 := h.1
      replace h := h.2
      refine J_iald o A_350 (vpc (rfl : ln 350 = 1098) b199) d_X5_hour_199 ?_
      refine J_callS o [.ref (wB (wM b) + 350), .int r191, .int (s191 350 (2 : Int32).toNatClampNeg)] mth_X5_portBehind st_X5_portBehind ml_RX5_266 ⟨Nat.le_of_ble_eq_true rfl, Nat.le_of_ble_eq_true rfl⟩ rfl rfl (Nat.le_of_ble_eq_true rfl) ⟨Nat.le_refl _, Nat.le_refl _⟩ d_X5_hour_200 (w_X5_portBehind (xL x) b A_350 h) (aI (fun r200 s200 h => ?_))
      refine J_istore (lv' := [(6, .int r200), (5, .int r168), (0, .ref (wB (wM b) + 347)), (1, .int v1), (2, .int v2), (3, .int v3), (4, .int l4)]) o d_X5_hour_203 (by decide) rfl ?_
      refine J_aload_n o 2 d_X5_hour_205 rfl ?_
      refine J_getR (t := 350) o fl_RX5_20 rfl (Nat.le_of_ble_eq_true rfl) (Nat.le_of_ble_eq_true rfl) rfl rfl d_X5_hour_206 ?_
      refine J_bipush (v := 6) o d_X5_hour_209 bipush_6 ?_
      refine J_iload o 1 d_X5_hour_211 rfl ?_
      refine J_bipush (v := 20) o d_X5_hour_213 bipush_20 ?_
      refine J_irem o d_X5_hour_215 (by decide) ?_
      have b216 := h.1
      replace h := h.2
      refine J_iast o A_350 (vpc (rfl : ln 350 = 1098) b216) d_X5_hour_216 ?_
      refine J_nS (fun s216 es216 => ?_)
      replace h := h s216 es216
      refine J_aload_n o 2 d_X5_hour_217 rfl ?_
      refine J_getR (t := 350) o fl_RX5_20 rfl (Nat.le_of_ble_eq_true rfl) (Nat.le_of_ble_eq_true rfl) rfl rfl d_X5_hour_218 ?_
      refine J_bipush (v := 7) o d_X5_hour_221 bipush_7 ?_
      refine J_iload o 1 d_X5_hour_223 rfl ?_
      refine J_bipush (v := 20) o d_X5_hour_225 bipush_20 ?_
      refine J_idiv o d_X5_hour_227 (by decide) ?_
      have b228 := h.1
      replace h := h.2
      refine J_iast o A_350 (vpc (rfl : ln 350 = 1098) b228) d_X5_hour_228 ?_
      refine J_nS (fun s228 es228 => ?_)
      replace h := h s228 es228
      refine J_aload_n o 2 d_X5_hour_229 rfl ?_
      refine J_getR (t := 350) o fl_RX5_20 rfl (Nat.le_of_ble_eq_true rfl) (Nat.le_of_ble_eq_true rfl) rfl rfl d_X5_hour_230 ?_
      refine J_bipush (v := 8) o d_X5_hour_233 bipush_8 ?_
      refine J_iload o 0 d_X5_hour_235 rfl ?_
      refine J_bipush (v := 20) o d_X5_hour_237 bipush_20 ?_
      refine J_irem o d_X5_hour_239 (by decide) ?_
      have b240 := h.1
      replace h := h.2
      refine J_iast o A_350 (vpc (rfl : ln 350 = 1098) b240) d_X5_hour_240 ?_
      refine J_nS (fun s240 es240 => ?_)
      replace h := h s240 es240
      refine J_aload_n o 2 d_X5_hour_241 rfl ?_
      refine J_getR (t := 350) o fl_RX5_20 rfl (Nat.le_of_ble_eq_true rfl) (Nat.le_of_ble_eq_true rfl) rfl rfl d_X5_hour_242 ?_
      refine J_bipush (v := 9) o d_X5_hour_245 bipush_9 ?_
      refine J_iload o 0 d_X5_hour_247 rfl ?_
      refine J_bipush (v := 20) o d_X5_hour_249 bipush_20 ?_
      refine J_idiv o d_X5_hour_251 (by decide) ?_
      have b252 := h.1
      replace h := h.2
      refine J_iast o A_350 (vpc (rfl : ln 350 = 1098) b252) d_X5_hour_252 ?_
      refine J_nS (fun s252 es252 => ?_)
      replace h := h s252 es252
      refine J_aload_n o 2 d_X5_hour_253 rfl ?_
      refine J_getR (t := 350) o fl_RX5_20 rfl (Nat.le_of_ble_eq_true rfl) (Nat.le_of_ble_eq_true rfl) rfl rfl d_X5_hour_254 ?_
      refine J_iconst (v := 2) o d_X5_hour_257 iconst_2 ?_
      refine J_dup2 o d_X5_hour_258 rfl rfl ?_
      have b259 := h.1
      replace h := h.2
      refine J_iald o A_350 (vpc (rfl : ln 350 = 1098) b259) d_X5_hour_259 ?_
      refine J_iconst (v := 1) o d_X5_hour_260 iconst_1 ?_
      refine J_iadd o d_X5_hour_261 ?_
      have b262 := h.1
      replace h := h.2
      refine J_iast o A_350 (vpc (rfl : ln 350 = 1098) b262) d_X5_hour_262 ?_
      refine J_nS (fun s262 es262 => ?_)
      replace h := h s262 es262
      refine J_iconst (v := 0) o d_X5_hour_263 iconst_0 ?_
      refine J_istore (lv' := [(7, .int 0), (6, .int r200), (5, .int r168), (0, .ref (wB (wM b) + 347)), (1, .int v1), (2, .int v2), (3, .int v3), (4, .int l4)]) o d_X5_hour_264 (by decide) rfl ?_
      refine J_sub [3, 7, 2, 0] rfl ?_
      obtain ⟨n9, h⟩ := h
      exact c_X5_hour_266 o   n9 l4 r168 0 s262  h
    · replace h := h.2 c119
      refine J_aload_n o 0 d_X5_hour_122 rfl ?_
      refine J_iload o 5 d_X5_hour_123 rfl ?_
      refine J_iload o 5 d_X5_hour_125 rfl ?_
      refine J_if_ne o 134 d_X5_hour_127 rfl (fun c127 => ?_) (fun c127 => ?_)
      · replace h := h.1 c127
        refine J_iload o 5 d_X5_hour_134 rfl ?_
        refine J_iconst (v := 1) o d_X5_hour_136 iconst_1 ?_
        refine J_icmp_ne o 144 d_X5_hour_137 rfl (fun c137 => ?_) (fun c137 => ?_)
        · replace h := h.1 c137
          refine J_iload_n o 3 d_X5_hour_144 rfl ?_
          refine J_callV (k := 347) (c := 5) o [.int l5, .int v3] rfl (by decide) (Nat.le_of_ble_eq_true rfl) (Nat.le_of_ble_eq_true rfl) mth_X5_helperGoes iv_X5_helperGoes ml_RX5_257 ⟨Nat.le_of_ble_eq_true rfl, Nat.le_of_ble_eq_true rfl⟩ rfl rfl (Nat.le_of_ble_eq_true rfl) ⟨Nat.le_refl _, Nat.le_refl _⟩ d_X5_hour_145 (w_X5_helperGoes (xL x) b  h) (aV (fun s145 h => ?_))
          refine J_iinc (lv' := [(5, .int (l5 + 1)), (0, .ref (wB (wM b) + 347)), (1, .int v1), (2, .int v2), (3, .int v3), (4, .int l4)]) o 5 d_X5_hour_148 (by decide) rfl iconst_1 rfl ?_
          refine J_goto o 111 d_X5_hour_151 rfl ?_
          refine J_sub [1, 2, 3, 4, 5, 0] rfl ?_
          exact ih l4 (l5 + 1) s145  h
        · replace h := h.2 c137
          refine J_iload_n o 2 d_X5_hour_140 rfl ?_
          refine J_goto o 145 d_X5_hour_141 rfl ?_
          refine J_callV (k := 347) (c := 5) o [.int l5, .int v2] rfl (by decide) (Nat.le_of_ble_eq_true rfl) (Nat.le_of_ble_eq_true rfl) mth_X5_helperGoes iv_X5_helperGoes ml_RX5_257 ⟨Nat.le_of_ble_eq_true rfl, Nat.le_of_ble_eq_true rfl⟩ rfl rfl (Nat.le_of_ble_eq_true rfl) ⟨Nat.le_refl _, Nat.le_refl _⟩ d_X5_hour_145 (w_X5_helperGoes (xL x) b  h) (aV (fun s145 h => ?_))
          refine J_iinc (lv' := [(5, .int (l5 + 1)), (0, .ref (wB (wM b) + 347)), (1, .int v1), (2, .int v2), (3, .int v3), (4, .int l4)]) o 5 d_X5_hour_148 (by decide) rfl iconst_1 rfl ?_
          refine J_goto o 111 d_X5_hour_151 rfl ?_
          refine J_sub [1, 2, 3, 4, 5, 0] rfl ?_
          exact ih l4 (l5 + 1) s145  h
      · replace h := h.2 c127
        refine J_iload_n o 1 d_X5_hour_130 rfl ?_
        refine J_goto o 145 d_X5_hour_131 rfl ?_
        refine J_callV (k := 347) (c := 5) o [.int l5, .int v1] rfl (by decide) (Nat.le_of_ble_eq_true rfl) (Nat.le_of_ble_eq_true rfl) mth_X5_helperGoes iv_X5_helperGoes ml_RX5_257 ⟨Nat.le_of_ble_eq_true rfl, Nat.le_of_ble_eq_true rfl⟩ rfl rfl (Nat.le_of_ble_eq_true rfl) ⟨Nat.le_refl _, Nat.le_refl _⟩ d_X5_hour_145 (w_X5_helperGoes (xL x) b  h) (aV (fun s145 h => ?_))
        refine J_iinc (lv' := [(5, .int (l5 + 1)), (0, .ref (wB (wM b) + 347)), (1, .int v1), (2, .int v2), (3, .int v3), (4, .int l4)]) o 5 d_X5_hour_148 (by decide) rfl iconst_1 rfl ?_
        refine J_goto o 111 d_X5_hour_151 rfl ?_
        refine J_sub [1, 2, 3, 4, 5, 0] rfl ?_
        exact ih l4 (l5 + 1) s145  h
set_option maxHeartbeats 4000000 in
set_option maxRecDepth 20000 in
theorem c_X5_hour_91 {x : Cx} {b : Wy} (o : Ok x (wM b) cX5_hour 8 RX5 (some .int) rm_X5_hour) {v1 : Int32} {v2 : Int32} {v3 : Int32} {K : Int32 → Sg → Prop}   : ∀ (k1 : Int32) (σ : Sg), m_X5_hour_j91 v1 v2 v3 K  k1 σ → J x (wM b) (FinC x (wM b) (PI K) (0, 0)) 91 [(0, .ref (wB (wM b) + 347)), (1, .int v1), (2, .int v2), (3, .int v3)] [.int k1, .ref (wB (wM b) + 347)] (0, 0) σ := by
  intro k1 σ  h
  unfold m_X5_hour_j91 at h
  refine J_iconst (v := 2) o d_X5_hour_91 iconst_2 ?_
  refine J_iconst (v := 2) o d_X5_hour_92 iconst_2 ?_
  refine J_callV (k := 347) (c := 5) o [.int k1, .int 2, .int 2] rfl (by decide) (Nat.le_of_ble_eq_true rfl) (Nat.le_of_ble_eq_true rfl) mth_X5_bad iv_X5_bad ml_RX5_216 ⟨Nat.le_of_ble_eq_true rfl, Nat.le_of_ble_eq_true rfl⟩ rfl rfl (Nat.le_of_ble_eq_true rfl) ⟨Nat.le_refl _, Nat.le_refl _⟩ d_X5_hour_93 (w_X5_bad (xL x) b  h) (aZ (fun r93 s93 hzr93 h => ?_))
  refine J_if_eq o 101 d_X5_hour_96 rfl (fun c96 => ?_) (fun c96 => ?_)
  · replace h := h.1 c96
    refine J_aload_n o 0 d_X5_hour_101 rfl ?_
    refine J_callV (k := 347) (c := 5) o [] rfl (by decide) (Nat.le_of_ble_eq_true rfl) (Nat.le_of_ble_eq_true rfl) mth_X5_remembers iv_X5_remembers ml_RX5_225 ⟨Nat.le_of_ble_eq_true rfl, Nat.le_of_ble_eq_true rfl⟩ rfl rfl (Nat.le_of_ble_eq_true rfl) ⟨Nat.le_refl _, Nat.le_refl _⟩ d_X5_hour_102 (w_X5_remembers (xL x) b  h) (aV (fun s102 h => ?_))
    refine J_iconst (v := 0) o d_X5_hour_105 iconst_0 ?_
    refine J_istore (lv' := [(4, .int 0), (0, .ref (wB (wM b) + 347)), (1, .int v1), (2, .int v2), (3, .int v3)]) o d_X5_hour_106 (by decide) rfl ?_
    refine J_iconst (v := 0) o d_X5_hour_108 iconst_0 ?_
    refine J_istore (lv' := [(5, .int 0), (4, .int 0), (0, .ref (wB (wM b) + 347)), (1, .int v1), (2, .int v2), (3, .int v3)]) o d_X5_hour_109 (by decide) rfl ?_
    refine J_sub [2, 3, 4, 5, 1, 0] rfl ?_
    obtain ⟨n9, h⟩ := h
    exact c_X5_hour_111 o   n9 0 0 s102  h
  · replace h := h.2 c96
    refine J_iconst (v := 0) o d_X5_hour_99 iconst_0 ?_
    exact J_iret o d_X5_hour_100 ⟨_, rfl, h⟩
set_option maxHeartbeats 4000000 in
set_option maxRecDepth 20000 in
theorem c_X5_hour_38 {x : Cx} {b : Wy} (o : Ok x (wM b) cX5_hour 8 RX5 (some .int) rm_X5_hour) {v1 : Int32} {v2 : Int32} {v3 : Int32} {K : Int32 → Sg → Prop}   : ∀ (k1 : Int32) (σ : Sg), m_X5_hour_j38 v1 v2 v3 K  k1 σ → J x (wM b) (FinC x (wM b) (PI K) (0, 0)) 38 [(0, .ref (wB (wM b) + 347)), (1, .int v1), (2, .int v2), (3, .int v3)] [.int k1, .ref (wB (wM b) + 347)] (0, 0) σ := by
  intro k1 σ  h
  unfold m_X5_hour_j38 at h
  refine J_iconst (v := 1) o d_X5_hour_38 iconst_1 ?_
  refine J_iconst (v := 1) o d_X5_hour_39 iconst_1 ?_
  refine J_callV (k := 347) (c := 5) o [.int k1, .int 1, .int 1] rfl (by decide) (Nat.le_of_ble_eq_true rfl) (Nat.le_of_ble_eq_true rfl) mth_X5_bad iv_X5_bad ml_RX5_216 ⟨Nat.le_of_ble_eq_true rfl, Nat.le_of_ble_eq_true rfl⟩ rfl rfl (Nat.le_of_ble_eq_true rfl) ⟨Nat.le_refl _, Nat.le_refl _⟩ d_X5_hour_40 (w_X5_bad (xL x) b  h) (aZ (fun r40 s40 hzr40 h => ?_))
  refine J_if_ne o 99 d_X5_hour_43 rfl (fun c43 => ?_) (fun c43 => ?_)
  · replace h := h.1 c43
    refine J_iconst (v := 0) o d_X5_hour_99 iconst_0 ?_
    exact J_iret o d_X5_hour_100 ⟨_, rfl, h⟩
  · replace h := h.2 c43
    refine J_aload_n o 0 d_X5_hour_46 rfl ?_
    refine J_aload_n o 0 d_X5_hour_47 rfl ?_
    refine J_getR (t := 350) o fl_RX5_20 rfl (Nat.le_of_ble_eq_true rfl) (Nat.le_of_ble_eq_true rfl) rfl rfl d_X5_hour_48 ?_
    refine J_iconst (v := 2) o d_X5_hour_51 iconst_2 ?_
    have b52 := h.1
    replace h := h.2
    refine J_iald o A_350 (vpc (rfl : ln 350 = 1098) b52) d_X5_hour_52 ?_
    refine J_sipush (v := 500) o d_X5_hour_53 sipush_500 ?_
    refine J_icmp_eq o 86 d_X5_hour_56 rfl (fun c56 => ?_) (fun c56 => ?_)
    · replace h := h.1 c56
      refine J_iconst (v := 1) o d_X5_hour_86 iconst_1 ?_
      refine J_goto o 91 d_X5_hour_87 rfl ?_
      exact c_X5_hour_91 o   1 s40  h
    · replace h := h.2 c56
      refine J_aload_n o 0 d_X5_hour_59 rfl ?_
      refine J_iconst (v := 0) o d_X5_hour_60 iconst_0 ?_
      refine J_iload_n o 1 d_X5_hour_61 rfl ?_
      refine J_callV (k := 347) (c := 5) o [.int 0, .int v1] rfl (by decide) (Nat.le_of_ble_eq_true rfl) (Nat.le_of_ble_eq_true rfl) mth_X5_canGo iv_X5_canGo ml_RX5_254 ⟨Nat.le_of_ble_eq_true rfl, Nat.le_of_ble_eq_true rfl⟩ rfl rfl (Nat.le_of_ble_eq_true rfl) ⟨Nat.le_refl _, Nat.le_refl _⟩ d_X5_hour_62 (w_X5_canGo (xL x) b  h) (aZ (fun r62 s62 hzr62 h => ?_))
      refine J_if_eq o 86 d_X5_hour_65 rfl (fun c65 => ?_) (fun c65 => ?_)
      · replace h := h.1 c65
        refine J_iconst (v := 1) o d_X5_hour_86 iconst_1 ?_
        refine J_goto o 91 d_X5_hour_87 rfl ?_
        exact c_X5_hour_91 o   1 s62  h
      · replace h := h.2 c65
        refine J_aload_n o 0 d_X5_hour_68 rfl ?_
        refine J_iconst (v := 1) o d_X5_hour_69 iconst_1 ?_
        refine J_iload_n o 2 d_X5_hour_70 rfl ?_
        refine J_callV (k := 347) (c := 5) o [.int 1, .int v2] rfl (by decide) (Nat.le_of_ble_eq_true rfl) (Nat.le_of_ble_eq_true rfl) mth_X5_canGo iv_X5_canGo ml_RX5_254 ⟨Nat.le_of_ble_eq_true rfl, Nat.le_of_ble_eq_true rfl⟩ rfl rfl (Nat.le_of_ble_eq_true rfl) ⟨Nat.le_refl _, Nat.le_refl _⟩ d_X5_hour_71 (w_X5_canGo (xL x) b  h) (aZ (fun r71 s71 hzr71 h => ?_))
        refine J_if_eq o 86 d_X5_hour_74 rfl (fun c74 => ?_) (fun c74 => ?_)
        · replace h := h.1 c74
          refine J_iconst (v := 1) o d_X5_hour_86 iconst_1 ?_
          refine J_goto o 91 d_X5_hour_87 rfl ?_
          exact c_X5_hour_91 o   1 s71  h
        · replace h := h.2 c74
          refine J_aload_n o 0 d_X5_hour_77 rfl ?_
          refine J_iconst (v := 2) o d_X5_hour_78 iconst_2 ?_
          refine J_iload_n o 3 d_X5_hour_79 rfl ?_
          refine J_callV (k := 347) (c := 5) o [.int 2, .int v3] rfl (by decide) (Nat.le_of_ble_eq_true rfl) (Nat.le_of_ble_eq_true rfl) mth_X5_canGo iv_X5_canGo ml_RX5_254 ⟨Nat.le_of_ble_eq_true rfl, Nat.le_of_ble_eq_true rfl⟩ rfl rfl (Nat.le_of_ble_eq_true rfl) ⟨Nat.le_refl _, Nat.le_refl _⟩ d_X5_hour_80 (w_X5_canGo (xL x) b  h) (aZ (fun r80 s80 hzr80 h => ?_))
          refine J_if_ne o 90 d_X5_hour_83 rfl (fun c83 => ?_) (fun c83 => ?_)
          · replace h := h.1 c83
            refine J_iconst (v := 0) o d_X5_hour_90 iconst_0 ?_
            exact c_X5_hour_91 o   0 s80  h
          · replace h := h.2 c83
            refine J_iconst (v := 1) o d_X5_hour_86 iconst_1 ?_
            refine J_goto o 91 d_X5_hour_87 rfl ?_
            exact c_X5_hour_91 o   1 s80  h
set_option maxHeartbeats 4000000 in
set_option maxRecDepth 20000 in
theorem w_X5_hour (l : Launch) (b : Wy) {v1 : Int32} {v2 : Int32} {v3 : Int32} {σ : Sg} {K : Int32 → Sg → Prop}  (h : m_X5_hour v1 v2 v3 σ K) : Ct l (wM b) yX5_hour cX5_hour 8 (some .int) rm_X5_hour [.ref (wB (wM b) + 347), .int v1, .int v2, .int v3] σ (PI K) := by
  unfold m_X5_hour at h
  refine Ct.of (own := RX5) (by decide +kernel) rfl (Nat.le_of_ble_eq_true rfl) (fun x hx o => ?_)
  subst hx
  show J x (wM b) (FinC x (wM b) (PI K) (0, 0)) 0 [(0, .ref (wB (wM b) + 347)), (1, .int v1), (2, .int v2), (3, .int v3)] [] (0, 0) σ
  refine J_aload_n o 0 d_X5_hour_0 rfl ?_
  refine J_iconst (v := 0) o d_X5_hour_1 iconst_0 ?_
  refine J_put o fl_RX5_50 la_5 rfl (Nat.le_of_ble_eq_true rfl) (Nat.le_of_ble_eq_true rfl) rfl rfl rfl rfl d_X5_hour_2 ?_
  refine J_nS (fun s2 es2 => ?_)
  replace h := h s2 es2
  refine J_aload_n o 0 d_X5_hour_5 rfl ?_
  refine J_aload_n o 0 d_X5_hour_6 rfl ?_
  refine J_iconst (v := 0) o d_X5_hour_7 iconst_0 ?_
  refine J_iload_n o 1 d_X5_hour_8 rfl ?_
  refine J_callV (k := 347) (c := 5) o [.int 0, .int v1] rfl (by decide) (Nat.le_of_ble_eq_true rfl) (Nat.le_of_ble_eq_true rfl) mth_X5_isCourse iv_X5_isCourse ml_RX5_250 ⟨Nat.le_of_ble_eq_true rfl, Nat.le_of_ble_eq_true rfl⟩ rfl rfl (Nat.le_of_ble_eq_true rfl) ⟨Nat.le_refl _, Nat.le_refl _⟩ d_X5_hour_9 (w_X5_isCourse (xL x) b  h) (aZ (fun r9 s9 hzr9 h => ?_))
  refine J_if_eq o 33 d_X5_hour_12 rfl (fun c12 => ?_) (fun c12 => ?_)
  · replace h := h.1 c12
    refine J_iconst (v := 1) o d_X5_hour_33 iconst_1 ?_
    refine J_goto o 38 d_X5_hour_34 rfl ?_
    exact c_X5_hour_38 o   1 s9  h
  · replace h := h.2 c12
    refine J_aload_n o 0 d_X5_hour_15 rfl ?_
    refine J_iconst (v := 1) o d_X5_hour_16 iconst_1 ?_
    refine J_iload_n o 2 d_X5_hour_17 rfl ?_
    refine J_callV (k := 347) (c := 5) o [.int 1, .int v2] rfl (by decide) (Nat.le_of_ble_eq_true rfl) (Nat.le_of_ble_eq_true rfl) mth_X5_isCourse iv_X5_isCourse ml_RX5_250 ⟨Nat.le_of_ble_eq_true rfl, Nat.le_of_ble_eq_true rfl⟩ rfl rfl (Nat.le_of_ble_eq_true rfl) ⟨Nat.le_refl _, Nat.le_refl _⟩ d_X5_hour_18 (w_X5_isCourse (xL x) b  h) (aZ (fun r18 s18 hzr18 h => ?_))
    refine J_if_eq o 33 d_X5_hour_21 rfl (fun c21 => ?_) (fun c21 => ?_)
    · replace h := h.1 c21
      refine J_iconst (v := 1) o d_X5_hour_33 iconst_1 ?_
      refine J_goto o 38 d_X5_hour_34 rfl ?_
      exact c_X5_hour_38 o   1 s18  h
    · replace h := h.2 c21
      refine J_aload_n o 0 d_X5_hour_24 rfl ?_
      refine J_iconst (v := 2) o d_X5_hour_25 iconst_2 ?_
      refine J_iload_n o 3 d_X5_hour_26 rfl ?_
      refine J_callV (k := 347) (c := 5) o [.int 2, .int v3] rfl (by decide) (Nat.le_of_ble_eq_true rfl) (Nat.le_of_ble_eq_true rfl) mth_X5_isCourse iv_X5_isCourse ml_RX5_250 ⟨Nat.le_of_ble_eq_true rfl, Nat.le_of_ble_eq_true rfl⟩ rfl rfl (Nat.le_of_ble_eq_true rfl) ⟨Nat.le_refl _, Nat.le_refl _⟩ d_X5_hour_27 (w_X5_isCourse (xL x) b  h) (aZ (fun r27 s27 hzr27 h => ?_))
      refine J_if_ne o 37 d_X5_hour_30 rfl (fun c30 => ?_) (fun c30 => ?_)
      · replace h := h.1 c30
        refine J_iconst (v := 0) o d_X5_hour_37 iconst_0 ?_
        exact c_X5_hour_38 o   0 s27  h
      · replace h := h.2 c30
        refine J_iconst (v := 1) o d_X5_hour_33 iconst_1 ?_
        refine J_goto o 38 d_X5_hour_34 rfl ?_
        exact c_X5_hour_38 o   1 s27  h
theorem d_X5_fuel_0 : decode cX5_fuel 0 = .ok (.aload_n 0, 1) := by decide +kernel
theorem d_X5_fuel_1 : decode cX5_fuel 1 = .ok (.iconst 0, 1) := by decide +kernel
theorem d_X5_fuel_2 : decode cX5_fuel 2 = .ok (.putfield 50, 3) := by decide +kernel
theorem d_X5_fuel_5 : decode cX5_fuel 5 = .ok (.aload_n 0, 1) := by decide +kernel
theorem d_X5_fuel_6 : decode cX5_fuel 6 = .ok (.aload_n 0, 1) := by decide +kernel
theorem d_X5_fuel_7 : decode cX5_fuel 7 = .ok (.iload_n 1, 1) := by decide +kernel
theorem d_X5_fuel_8 : decode cX5_fuel 8 = .ok (.invokevirtual 235, 3) := by decide +kernel
theorem d_X5_fuel_11 : decode cX5_fuel 11 = .ok (.ifCond .ne 7, 3) := by decide +kernel
theorem d_X5_fuel_14 : decode cX5_fuel 14 = .ok (.iconst 1, 1) := by decide +kernel
theorem d_X5_fuel_15 : decode cX5_fuel 15 = .ok (.goto 4, 3) := by decide +kernel
theorem d_X5_fuel_18 : decode cX5_fuel 18 = .ok (.iconst 0, 1) := by decide +kernel
theorem d_X5_fuel_19 : decode cX5_fuel 19 = .ok (.iconst 1, 1) := by decide +kernel
theorem d_X5_fuel_20 : decode cX5_fuel 20 = .ok (.iconst 0, 1) := by decide +kernel
theorem d_X5_fuel_21 : decode cX5_fuel 21 = .ok (.invokevirtual 216, 3) := by decide +kernel
theorem d_X5_fuel_24 : decode cX5_fuel 24 = .ok (.ifCond .ne 31, 3) := by decide +kernel
theorem d_X5_fuel_27 : decode cX5_fuel 27 = .ok (.aload_n 0, 1) := by decide +kernel
theorem d_X5_fuel_28 : decode cX5_fuel 28 = .ok (.iload_n 2, 1) := by decide +kernel
theorem d_X5_fuel_29 : decode cX5_fuel 29 = .ok (.iconst 0, 1) := by decide +kernel
theorem d_X5_fuel_30 : decode cX5_fuel 30 = .ok (.aload_n 0, 1) := by decide +kernel
theorem d_X5_fuel_31 : decode cX5_fuel 31 = .ok (.getfield 20, 3) := by decide +kernel
theorem d_X5_fuel_34 : decode cX5_fuel 34 = .ok (.iconst 4, 1) := by decide +kernel
theorem d_X5_fuel_35 : decode cX5_fuel 35 = .ok (.iaload, 1) := by decide +kernel
theorem d_X5_fuel_36 : decode cX5_fuel 36 = .ok (.invokestatic 56, 3) := by decide +kernel
theorem d_X5_fuel_39 : decode cX5_fuel 39 = .ok (.ifCond .ne 7, 3) := by decide +kernel
theorem d_X5_fuel_42 : decode cX5_fuel 42 = .ok (.iconst 1, 1) := by decide +kernel
theorem d_X5_fuel_43 : decode cX5_fuel 43 = .ok (.goto 4, 3) := by decide +kernel
theorem d_X5_fuel_46 : decode cX5_fuel 46 = .ok (.iconst 0, 1) := by decide +kernel
theorem d_X5_fuel_47 : decode cX5_fuel 47 = .ok (.iconst 2, 1) := by decide +kernel
theorem d_X5_fuel_48 : decode cX5_fuel 48 = .ok (.iconst 1, 1) := by decide +kernel
theorem d_X5_fuel_49 : decode cX5_fuel 49 = .ok (.invokevirtual 216, 3) := by decide +kernel
theorem d_X5_fuel_52 : decode cX5_fuel 52 = .ok (.ifCond .eq 5, 3) := by decide +kernel
theorem d_X5_fuel_55 : decode cX5_fuel 55 = .ok (.iconst 0, 1) := by decide +kernel
theorem d_X5_fuel_56 : decode cX5_fuel 56 = .ok (.ireturn, 1) := by decide +kernel
theorem d_X5_fuel_57 : decode cX5_fuel 57 = .ok (.aload_n 0, 1) := by decide +kernel
theorem d_X5_fuel_58 : decode cX5_fuel 58 = .ok (.invokevirtual 225, 3) := by decide +kernel
theorem d_X5_fuel_61 : decode cX5_fuel 61 = .ok (.aload_n 0, 1) := by decide +kernel
theorem d_X5_fuel_62 : decode cX5_fuel 62 = .ok (.iload_n 1, 1) := by decide +kernel
theorem d_X5_fuel_63 : decode cX5_fuel 63 = .ok (.invokevirtual 244, 3) := by decide +kernel
theorem d_X5_fuel_66 : decode cX5_fuel 66 = .ok (.istore_n 3, 1) := by decide +kernel
theorem d_X5_fuel_67 : decode cX5_fuel 67 = .ok (.aload_n 0, 1) := by decide +kernel
theorem d_X5_fuel_68 : decode cX5_fuel 68 = .ok (.getfield 20, 3) := by decide +kernel
theorem d_X5_fuel_71 : decode cX5_fuel 71 = .ok (.sipush 1089, 3) := by decide +kernel
theorem d_X5_fuel_74 : decode cX5_fuel 74 = .ok (.iconst 3, 1) := by decide +kernel
theorem d_X5_fuel_75 : decode cX5_fuel 75 = .ok (.iload_n 1, 1) := by decide +kernel
theorem d_X5_fuel_76 : decode cX5_fuel 76 = .ok (.imul, 1) := by decide +kernel
theorem d_X5_fuel_77 : decode cX5_fuel 77 = .ok (.iadd, 1) := by decide +kernel
theorem d_X5_fuel_78 : decode cX5_fuel 78 = .ok (.iconst 2, 1) := by decide +kernel
theorem d_X5_fuel_79 : decode cX5_fuel 79 = .ok (.iadd, 1) := by decide +kernel
theorem d_X5_fuel_80 : decode cX5_fuel 80 = .ok (.iload_n 2, 1) := by decide +kernel
theorem d_X5_fuel_81 : decode cX5_fuel 81 = .ok (.iastore, 1) := by decide +kernel
theorem d_X5_fuel_82 : decode cX5_fuel 82 = .ok (.iload_n 3, 1) := by decide +kernel
theorem d_X5_fuel_83 : decode cX5_fuel 83 = .ok (.ireturn, 1) := by decide +kernel
abbrev rm_X5_fuel : Room := { frames := 2, cells := 0, slots := 0, locals := 43 }
set_option maxHeartbeats 4000000 in
set_option maxRecDepth 20000 in
theorem c_X5_fuel_47 {x : Cx} {b : Wy} (o : Ok x (wM b) cX5_fuel 4 RX5 (some .int) rm_X5_fuel) {v1 : Int32} {v2 : Int32} {K : Int32 → Sg → Prop}   : ∀ (k1 : Int32) (σ : Sg), m_X5_fuel_j47 v1 v2 K  k1 σ → J x (wM b) (FinC x (wM b) (PI K) (0, 0)) 47 [(0, .ref (wB (wM b) + 347)), (1, .int v1), (2, .int v2)] [.int k1, .ref (wB (wM b) + 347)] (0, 0) σ := by
  intro k1 σ  h
  unfold m_X5_fuel_j47 at h
  refine J_iconst (v := 2) o d_X5_fuel_47 iconst_2 ?_
  refine J_iconst (v := 1) o d_X5_fuel_48 iconst_1 ?_
  refine J_callV (k := 347) (c := 5) o [.int k1, .int 2, .int 1] rfl (by decide) (Nat.le_of_ble_eq_true rfl) (Nat.le_of_ble_eq_true rfl) mth_X5_bad iv_X5_bad ml_RX5_216 ⟨Nat.le_of_ble_eq_true rfl, Nat.le_of_ble_eq_true rfl⟩ rfl rfl (Nat.le_of_ble_eq_true rfl) ⟨Nat.le_refl _, Nat.le_refl _⟩ d_X5_fuel_49 (w_X5_bad (xL x) b  h) (aZ (fun r49 s49 hzr49 h => ?_))
  refine J_if_eq o 57 d_X5_fuel_52 rfl (fun c52 => ?_) (fun c52 => ?_)
  · replace h := h.1 c52
    refine J_aload_n o 0 d_X5_fuel_57 rfl ?_
    refine J_callV (k := 347) (c := 5) o [] rfl (by decide) (Nat.le_of_ble_eq_true rfl) (Nat.le_of_ble_eq_true rfl) mth_X5_remembers iv_X5_remembers ml_RX5_225 ⟨Nat.le_of_ble_eq_true rfl, Nat.le_of_ble_eq_true rfl⟩ rfl rfl (Nat.le_of_ble_eq_true rfl) ⟨Nat.le_refl _, Nat.le_refl _⟩ d_X5_fuel_58 (w_X5_remembers (xL x) b  h) (aV (fun s58 h => ?_))
    refine J_aload_n o 0 d_X5_fuel_61 rfl ?_
    refine J_iload_n o 1 d_X5_fuel_62 rfl ?_
    refine J_callV (k := 347) (c := 5) o [.int v1] rfl (by decide) (Nat.le_of_ble_eq_true rfl) (Nat.le_of_ble_eq_true rfl) mth_X5_fuelOf iv_X5_fuelOf ml_RX5_244 ⟨Nat.le_of_ble_eq_true rfl, Nat.le_of_ble_eq_true rfl⟩ rfl rfl (Nat.le_of_ble_eq_true rfl) ⟨Nat.le_refl _, Nat.le_refl _⟩ d_X5_fuel_63 (w_X5_fuelOf (xL x) b  h) (aI (fun r63 s63 h => ?_))
    refine J_istore_n (lv' := [(3, .int r63), (0, .ref (wB (wM b) + 347)), (1, .int v1), (2, .int v2)]) o d_X5_fuel_66 (by decide) rfl ?_
    refine J_aload_n o 1 d_X5_fuel_67 rfl ?_
    refine J_getR (t := 350) o fl_RX5_20 rfl (Nat.le_of_ble_eq_true rfl) (Nat.le_of_ble_eq_true rfl) rfl rfl d_X5_fuel_68 ?_
    refine J_sipush (v := 1089) o d_X5_fuel_71 sipush_1089 ?_
    refine J_iconst (v := 3) o d_X5_fuel_74 iconst_3 ?_
    refine J_iload_n o 2 d_X5_fuel_75 rfl ?_
    refine J_imul o d_X5_fuel_76 ?_
    refine J_iadd o d_X5_fuel_77 ?_
    refine J_iconst (v := 2) o d_X5_fuel_78 iconst_2 ?_
    refine J_iadd o d_X5_fuel_79 ?_
    refine J_iload_n o 3 d_X5_fuel_80 rfl ?_
    have b81 := h.1
    replace h := h.2
    refine J_iast o A_350 (vpc (rfl : ln 350 = 1098) b81) d_X5_fuel_81 ?_
    refine J_nS (fun s81 es81 => ?_)
    replace h := h s81 es81
    refine J_iload_n o 0 d_X5_fuel_82 rfl ?_
    exact J_iret o d_X5_fuel_83 ⟨_, rfl, h⟩
  · replace h := h.2 c52
    refine J_iconst (v := 0) o d_X5_fuel_55 iconst_0 ?_
    exact J_iret o d_X5_fuel_56 ⟨_, rfl, h⟩
set_option maxHeartbeats 4000000 in
set_option maxRecDepth 20000 in
theorem c_X5_fuel_19 {x : Cx} {b : Wy} (o : Ok x (wM b) cX5_fuel 4 RX5 (some .int) rm_X5_fuel) {v1 : Int32} {v2 : Int32} {K : Int32 → Sg → Prop}   : ∀ (k1 : Int32) (σ : Sg), m_X5_fuel_j19 v1 v2 K  k1 σ → J x (wM b) (FinC x (wM b) (PI K) (0, 0)) 19 [(0, .ref (wB (wM b) + 347)), (1, .int v1), (2, .int v2)] [.int k1, .ref (wB (wM b) + 347)] (0, 0) σ := by
  intro k1 σ  h
  unfold m_X5_fuel_j19 at h
  refine J_iconst (v := 1) o d_X5_fuel_19 iconst_1 ?_
  refine J_iconst (v := 0) o d_X5_fuel_20 iconst_0 ?_
  refine J_callV (k := 347) (c := 5) o [.int k1, .int 1, .int 0] rfl (by decide) (Nat.le_of_ble_eq_true rfl) (Nat.le_of_ble_eq_true rfl) mth_X5_bad iv_X5_bad ml_RX5_216 ⟨Nat.le_of_ble_eq_true rfl, Nat.le_of_ble_eq_true rfl⟩ rfl rfl (Nat.le_of_ble_eq_true rfl) ⟨Nat.le_refl _, Nat.le_refl _⟩ d_X5_fuel_21 (w_X5_bad (xL x) b  h) (aZ (fun r21 s21 hzr21 h => ?_))
  refine J_if_ne o 55 d_X5_fuel_24 rfl (fun c24 => ?_) (fun c24 => ?_)
  · replace h := h.1 c24
    refine J_iconst (v := 0) o d_X5_fuel_55 iconst_0 ?_
    exact J_iret o d_X5_fuel_56 ⟨_, rfl, h⟩
  · replace h := h.2 c24
    refine J_aload_n o 0 d_X5_fuel_27 rfl ?_
    refine J_iload_n o 2 d_X5_fuel_28 rfl ?_
    refine J_iconst (v := 0) o d_X5_fuel_29 iconst_0 ?_
    refine J_aload_n o 0 d_X5_fuel_30 rfl ?_
    refine J_getR (t := 350) o fl_RX5_20 rfl (Nat.le_of_ble_eq_true rfl) (Nat.le_of_ble_eq_true rfl) rfl rfl d_X5_fuel_31 ?_
    refine J_iconst (v := 4) o d_X5_fuel_34 iconst_4 ?_
    have b35 := h.1
    replace h := h.2
    refine J_iald o A_350 (vpc (rfl : ln 350 = 1098) b35) d_X5_fuel_35 ?_
    refine J_callS o [.int v2, .int 0, .int (s21 350 (4 : Int32).toNatClampNeg)] mth_X5_in st_X5_in ml_RX5_56 ⟨Nat.le_of_ble_eq_true rfl, Nat.le_of_ble_eq_true rfl⟩ rfl rfl (Nat.le_of_ble_eq_true rfl) ⟨Nat.le_refl _, Nat.le_refl _⟩ d_X5_fuel_36 (w_X5_in (xL x) b  h) (aZ (fun r36 s36 hzr36 h => ?_))
    refine J_if_ne o 46 d_X5_fuel_39 rfl (fun c39 => ?_) (fun c39 => ?_)
    · replace h := h.1 c39
      refine J_iconst (v := 0) o d_X5_fuel_46 iconst_0 ?_
      exact c_X5_fuel_47 o   0 s36  h
    · replace h := h.2 c39
      refine J_iconst (v := 1) o d_X5_fuel_42 iconst_1 ?_
      refine J_goto o 47 d_X5_fuel_43 rfl ?_
      exact c_X5_fuel_47 o   1 s36  h
set_option maxHeartbeats 4000000 in
set_option maxRecDepth 20000 in
theorem w_X5_fuel (l : Launch) (b : Wy) {v1 : Int32} {v2 : Int32} {σ : Sg} {K : Int32 → Sg → Prop}  (h : m_X5_fuel v1 v2 σ K) : Ct l (wM b) yX5_fuel cX5_fuel 4 (some .int) rm_X5_fuel [.ref (wB (wM b) + 347), .int v1, .int v2] σ (PI K) := by
  unfold m_X5_fuel at h
  refine Ct.of (own := RX5) (by decide +kernel) rfl (Nat.le_of_ble_eq_true rfl) (fun x hx o => ?_)
  subst hx
  show J x (wM b) (FinC x (wM b) (PI K) (0, 0)) 0 [(0, .ref (wB (wM b) + 347)), (1, .int v1), (2, .int v2)] [] (0, 0) σ
  refine J_aload_n o 0 d_X5_fuel_0 rfl ?_
  refine J_iconst (v := 0) o d_X5_fuel_1 iconst_0 ?_
  refine J_put o fl_RX5_50 la_5 rfl (Nat.le_of_ble_eq_true rfl) (Nat.le_of_ble_eq_true rfl) rfl rfl rfl rfl d_X5_fuel_2 ?_
  refine J_nS (fun s2 es2 => ?_)
  replace h := h s2 es2
  refine J_aload_n o 0 d_X5_fuel_5 rfl ?_
  refine J_aload_n o 0 d_X5_fuel_6 rfl ?_
  refine J_iload_n o 1 d_X5_fuel_7 rfl ?_
  refine J_callV (k := 347) (c := 5) o [.int v1] rfl (by decide) (Nat.le_of_ble_eq_true rfl) (Nat.le_of_ble_eq_true rfl) mth_X5_isHelper iv_X5_isHelper ml_RX5_235 ⟨Nat.le_of_ble_eq_true rfl, Nat.le_of_ble_eq_true rfl⟩ rfl rfl (Nat.le_of_ble_eq_true rfl) ⟨Nat.le_refl _, Nat.le_refl _⟩ d_X5_fuel_8 (w_X5_isHelper (xL x) b  h) (aZ (fun r8 s8 hzr8 h => ?_))
  refine J_if_ne o 18 d_X5_fuel_11 rfl (fun c11 => ?_) (fun c11 => ?_)
  · replace h := h.1 c11
    refine J_iconst (v := 0) o d_X5_fuel_18 iconst_0 ?_
    exact c_X5_fuel_19 o   0 s8  h
  · replace h := h.2 c11
    refine J_iconst (v := 1) o d_X5_fuel_14 iconst_1 ?_
    refine J_goto o 19 d_X5_fuel_15 rfl ?_
    exact c_X5_fuel_19 o   1 s8  h
theorem d_X5_wind_0 : decode cX5_wind 0 = .ok (.aload_n 0, 1) := by decide +kernel
theorem d_X5_wind_1 : decode cX5_wind 1 = .ok (.iconst 0, 1) := by decide +kernel
theorem d_X5_wind_2 : decode cX5_wind 2 = .ok (.putfield 50, 3) := by decide +kernel
theorem d_X5_wind_5 : decode cX5_wind 5 = .ok (.aload_n 0, 1) := by decide +kernel
theorem d_X5_wind_6 : decode cX5_wind 6 = .ok (.iload_n 1, 1) := by decide +kernel
theorem d_X5_wind_7 : decode cX5_wind 7 = .ok (.aload_n 0, 1) := by decide +kernel
theorem d_X5_wind_8 : decode cX5_wind 8 = .ok (.getfield 20, 3) := by decide +kernel
theorem d_X5_wind_11 : decode cX5_wind 11 = .ok (.iconst 2, 1) := by decide +kernel
theorem d_X5_wind_12 : decode cX5_wind 12 = .ok (.iaload, 1) := by decide +kernel
theorem d_X5_wind_13 : decode cX5_wind 13 = .ok (.sipush 560, 3) := by decide +kernel
theorem d_X5_wind_16 : decode cX5_wind 16 = .ok (.invokestatic 56, 3) := by decide +kernel
theorem d_X5_wind_19 : decode cX5_wind 19 = .ok (.ifCond .eq 13, 3) := by decide +kernel
theorem d_X5_wind_22 : decode cX5_wind 22 = .ok (.iload_n 2, 1) := by decide +kernel
theorem d_X5_wind_23 : decode cX5_wind 23 = .ok (.iconst 0, 1) := by decide +kernel
theorem d_X5_wind_24 : decode cX5_wind 24 = .ok (.bipush 8, 2) := by decide +kernel
theorem d_X5_wind_26 : decode cX5_wind 26 = .ok (.invokestatic 56, 3) := by decide +kernel
theorem d_X5_wind_29 : decode cX5_wind 29 = .ok (.ifCond .ne 7, 3) := by decide +kernel
theorem d_X5_wind_32 : decode cX5_wind 32 = .ok (.iconst 1, 1) := by decide +kernel
theorem d_X5_wind_33 : decode cX5_wind 33 = .ok (.goto 4, 3) := by decide +kernel
theorem d_X5_wind_36 : decode cX5_wind 36 = .ok (.iconst 0, 1) := by decide +kernel
theorem d_X5_wind_37 : decode cX5_wind 37 = .ok (.iconst 1, 1) := by decide +kernel
theorem d_X5_wind_38 : decode cX5_wind 38 = .ok (.iconst 1, 1) := by decide +kernel
theorem d_X5_wind_39 : decode cX5_wind 39 = .ok (.invokevirtual 216, 3) := by decide +kernel
theorem d_X5_wind_42 : decode cX5_wind 42 = .ok (.ifCond .eq 5, 3) := by decide +kernel
theorem d_X5_wind_45 : decode cX5_wind 45 = .ok (.iconst 0, 1) := by decide +kernel
theorem d_X5_wind_46 : decode cX5_wind 46 = .ok (.ireturn, 1) := by decide +kernel
theorem d_X5_wind_47 : decode cX5_wind 47 = .ok (.aload_n 0, 1) := by decide +kernel
theorem d_X5_wind_48 : decode cX5_wind 48 = .ok (.invokevirtual 225, 3) := by decide +kernel
theorem d_X5_wind_51 : decode cX5_wind 51 = .ok (.aload_n 0, 1) := by decide +kernel
theorem d_X5_wind_52 : decode cX5_wind 52 = .ok (.getfield 20, 3) := by decide +kernel
theorem d_X5_wind_55 : decode cX5_wind 55 = .ok (.iload_n 1, 1) := by decide +kernel
theorem d_X5_wind_56 : decode cX5_wind 56 = .ok (.invokestatic 82, 3) := by decide +kernel
theorem d_X5_wind_59 : decode cX5_wind 59 = .ok (.istore_n 3, 1) := by decide +kernel
theorem d_X5_wind_60 : decode cX5_wind 60 = .ok (.aload_n 0, 1) := by decide +kernel
theorem d_X5_wind_61 : decode cX5_wind 61 = .ok (.getfield 20, 3) := by decide +kernel
theorem d_X5_wind_64 : decode cX5_wind 64 = .ok (.bipush 48, 2) := by decide +kernel
theorem d_X5_wind_66 : decode cX5_wind 66 = .ok (.iload_n 1, 1) := by decide +kernel
theorem d_X5_wind_67 : decode cX5_wind 67 = .ok (.iadd, 1) := by decide +kernel
theorem d_X5_wind_68 : decode cX5_wind 68 = .ok (.iload_n 2, 1) := by decide +kernel
theorem d_X5_wind_69 : decode cX5_wind 69 = .ok (.iastore, 1) := by decide +kernel
theorem d_X5_wind_70 : decode cX5_wind 70 = .ok (.iload_n 3, 1) := by decide +kernel
theorem d_X5_wind_71 : decode cX5_wind 71 = .ok (.ireturn, 1) := by decide +kernel
abbrev rm_X5_wind : Room := { frames := 2, cells := 0, slots := 0, locals := 43 }
set_option maxHeartbeats 4000000 in
set_option maxRecDepth 20000 in
theorem c_X5_wind_37 {x : Cx} {b : Wy} (o : Ok x (wM b) cX5_wind 4 RX5 (some .int) rm_X5_wind) {v1 : Int32} {v2 : Int32} {K : Int32 → Sg → Prop}   : ∀ (k1 : Int32) (σ : Sg), m_X5_wind_j37 v1 v2 K  k1 σ → J x (wM b) (FinC x (wM b) (PI K) (0, 0)) 37 [(0, .ref (wB (wM b) + 347)), (1, .int v1), (2, .int v2)] [.int k1, .ref (wB (wM b) + 347)] (0, 0) σ := by
  intro k1 σ  h
  unfold m_X5_wind_j37 at h
  refine J_iconst (v := 1) o d_X5_wind_37 iconst_1 ?_
  refine J_iconst (v := 1) o d_X5_wind_38 iconst_1 ?_
  refine J_callV (k := 347) (c := 5) o [.int k1, .int 1, .int 1] rfl (by decide) (Nat.le_of_ble_eq_true rfl) (Nat.le_of_ble_eq_true rfl) mth_X5_bad iv_X5_bad ml_RX5_216 ⟨Nat.le_of_ble_eq_true rfl, Nat.le_of_ble_eq_true rfl⟩ rfl rfl (Nat.le_of_ble_eq_true rfl) ⟨Nat.le_refl _, Nat.le_refl _⟩ d_X5_wind_39 (w_X5_bad (xL x) b  h) (aZ (fun r39 s39 hzr39 h => ?_))
  refine J_if_eq o 47 d_X5_wind_42 rfl (fun c42 => ?_) (fun c42 => ?_)
  · replace h := h.1 c42
    refine J_aload_n o 0 d_X5_wind_47 rfl ?_
    refine J_callV (k := 347) (c := 5) o [] rfl (by decide) (Nat.le_of_ble_eq_true rfl) (Nat.le_of_ble_eq_true rfl) mth_X5_remembers iv_X5_remembers ml_RX5_225 ⟨Nat.le_of_ble_eq_true rfl, Nat.le_of_ble_eq_true rfl⟩ rfl rfl (Nat.le_of_ble_eq_true rfl) ⟨Nat.le_refl _, Nat.le_refl _⟩ d_X5_wind_48 (w_X5_remembers (xL x) b  h) (aV (fun s48 h => ?_))
    refine J_aload_n o 0 d_X5_wind_51 rfl ?_
    refine J_getR (t := 350) o fl_RX5_20 rfl (Nat.le_of_ble_eq_true rfl) (Nat.le_of_ble_eq_true rfl) rfl rfl d_X5_wind_52 ?_
    refine J_iload_n o 1 d_X5_wind_55 rfl ?_
    refine J_callS o [.ref (wB (wM b) + 350), .int v1] mth_X5_windOf st_X5_windOf ml_RX5_82 ⟨Nat.le_of_ble_eq_true rfl, Nat.le_of_ble_eq_true rfl⟩ rfl rfl (Nat.le_of_ble_eq_true rfl) ⟨Nat.le_refl _, Nat.le_refl _⟩ d_X5_wind_56 (w_X5_windOf (xL x) b A_350 h) (aI (fun r56 s56 h => ?_))
    refine J_istore_n (lv' := [(3, .int r56), (0, .ref (wB (wM b) + 347)), (1, .int v1), (2, .int v2)]) o d_X5_wind_59 (by decide) rfl ?_
    refine J_aload_n o 1 d_X5_wind_60 rfl ?_
    refine J_getR (t := 350) o fl_RX5_20 rfl (Nat.le_of_ble_eq_true rfl) (Nat.le_of_ble_eq_true rfl) rfl rfl d_X5_wind_61 ?_
    refine J_bipush (v := 48) o d_X5_wind_64 bipush_48 ?_
    refine J_iload_n o 2 d_X5_wind_66 rfl ?_
    refine J_iadd o d_X5_wind_67 ?_
    refine J_iload_n o 3 d_X5_wind_68 rfl ?_
    have b69 := h.1
    replace h := h.2
    refine J_iast o A_350 (vpc (rfl : ln 350 = 1098) b69) d_X5_wind_69 ?_
    refine J_nS (fun s69 es69 => ?_)
    replace h := h s69 es69
    refine J_iload_n o 0 d_X5_wind_70 rfl ?_
    exact J_iret o d_X5_wind_71 ⟨_, rfl, h⟩
  · replace h := h.2 c42
    refine J_iconst (v := 0) o d_X5_wind_45 iconst_0 ?_
    exact J_iret o d_X5_wind_46 ⟨_, rfl, h⟩
set_option maxHeartbeats 4000000 in
set_option maxRecDepth 20000 in
theorem w_X5_wind (l : Launch) (b : Wy) {v1 : Int32} {v2 : Int32} {σ : Sg} {K : Int32 → Sg → Prop}  (h : m_X5_wind v1 v2 σ K) : Ct l (wM b) yX5_wind cX5_wind 4 (some .int) rm_X5_wind [.ref (wB (wM b) + 347), .int v1, .int v2] σ (PI K) := by
  unfold m_X5_wind at h
  refine Ct.of (own := RX5) (by decide +kernel) rfl (Nat.le_of_ble_eq_true rfl) (fun x hx o => ?_)
  subst hx
  show J x (wM b) (FinC x (wM b) (PI K) (0, 0)) 0 [(0, .ref (wB (wM b) + 347)), (1, .int v1), (2, .int v2)] [] (0, 0) σ
  refine J_aload_n o 0 d_X5_wind_0 rfl ?_
  refine J_iconst (v := 0) o d_X5_wind_1 iconst_0 ?_
  refine J_put o fl_RX5_50 la_5 rfl (Nat.le_of_ble_eq_true rfl) (Nat.le_of_ble_eq_true rfl) rfl rfl rfl rfl d_X5_wind_2 ?_
  refine J_nS (fun s2 es2 => ?_)
  replace h := h s2 es2
  refine J_aload_n o 0 d_X5_wind_5 rfl ?_
  refine J_iload_n o 1 d_X5_wind_6 rfl ?_
  refine J_aload_n o 0 d_X5_wind_7 rfl ?_
  refine J_getR (t := 350) o fl_RX5_20 rfl (Nat.le_of_ble_eq_true rfl) (Nat.le_of_ble_eq_true rfl) rfl rfl d_X5_wind_8 ?_
  refine J_iconst (v := 2) o d_X5_wind_11 iconst_2 ?_
  have b12 := h.1
  replace h := h.2
  refine J_iald o A_350 (vpc (rfl : ln 350 = 1098) b12) d_X5_wind_12 ?_
  refine J_sipush (v := 560) o d_X5_wind_13 sipush_560 ?_
  refine J_callS o [.int v1, .int (s2 350 (2 : Int32).toNatClampNeg), .int 560] mth_X5_in st_X5_in ml_RX5_56 ⟨Nat.le_of_ble_eq_true rfl, Nat.le_of_ble_eq_true rfl⟩ rfl rfl (Nat.le_of_ble_eq_true rfl) ⟨Nat.le_refl _, Nat.le_refl _⟩ d_X5_wind_16 (w_X5_in (xL x) b  h) (aZ (fun r16 s16 hzr16 h => ?_))
  refine J_if_eq o 32 d_X5_wind_19 rfl (fun c19 => ?_) (fun c19 => ?_)
  · replace h := h.1 c19
    refine J_iconst (v := 1) o d_X5_wind_32 iconst_1 ?_
    refine J_goto o 37 d_X5_wind_33 rfl ?_
    exact c_X5_wind_37 o   1 s16  h
  · replace h := h.2 c19
    refine J_iload_n o 2 d_X5_wind_22 rfl ?_
    refine J_iconst (v := 0) o d_X5_wind_23 iconst_0 ?_
    refine J_bipush (v := 8) o d_X5_wind_24 bipush_8 ?_
    refine J_callS o [.int v2, .int 0, .int 8] mth_X5_in st_X5_in ml_RX5_56 ⟨Nat.le_of_ble_eq_true rfl, Nat.le_of_ble_eq_true rfl⟩ rfl rfl (Nat.le_of_ble_eq_true rfl) ⟨Nat.le_refl _, Nat.le_refl _⟩ d_X5_wind_26 (w_X5_in (xL x) b  h) (aZ (fun r26 s26 hzr26 h => ?_))
    refine J_if_ne o 36 d_X5_wind_29 rfl (fun c29 => ?_) (fun c29 => ?_)
    · replace h := h.1 c29
      refine J_iconst (v := 0) o d_X5_wind_36 iconst_0 ?_
      exact c_X5_wind_37 o   0 s26  h
    · replace h := h.2 c29
      refine J_iconst (v := 1) o d_X5_wind_32 iconst_1 ?_
      refine J_goto o 37 d_X5_wind_33 rfl ?_
      exact c_X5_wind_37 o   1 s26  h
