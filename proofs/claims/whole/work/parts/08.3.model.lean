/-! the walks, printed by program -/
theorem d_X5_begins_0 : decode cX5_begins 0 = .ok (.iconst 0, 1) := by decide +kernel
theorem d_X5_begins_1 : decode cX5_begins 1 = .ok (.istore_n 1, 1) := by decide +kernel
theorem d_X5_begins_2 : decode cX5_begins 2 = .ok (.iload_n 1, 1) := by decide +kernel
theorem d_X5_begins_3 : decode cX5_begins 3 = .ok (.sipush 1098, 3) := by decide +kernel
theorem d_X5_begins_6 : decode cX5_begins 6 = .ok (.if_icmp .ge 13, 3) := by decide +kernel
theorem d_X5_begins_9 : decode cX5_begins 9 = .ok (.aload_n 0, 1) := by decide +kernel
theorem d_X5_begins_10 : decode cX5_begins 10 = .ok (.iload_n 1, 1) := by decide +kernel
theorem d_X5_begins_11 : decode cX5_begins 11 = .ok (.iconst 0, 1) := by decide +kernel
theorem d_X5_begins_12 : decode cX5_begins 12 = .ok (.iastore, 1) := by decide +kernel
theorem d_X5_begins_13 : decode cX5_begins 13 = .ok (.iinc 1 1, 3) := by decide +kernel
theorem d_X5_begins_16 : decode cX5_begins 16 = .ok (.goto (-14), 3) := by decide +kernel
theorem d_X5_begins_19 : decode cX5_begins 19 = .ok (.iconst 0, 1) := by decide +kernel
theorem d_X5_begins_20 : decode cX5_begins 20 = .ok (.istore_n 1, 1) := by decide +kernel
theorem d_X5_begins_21 : decode cX5_begins 21 = .ok (.iload_n 1, 1) := by decide +kernel
theorem d_X5_begins_22 : decode cX5_begins 22 = .ok (.sipush 560, 3) := by decide +kernel
theorem d_X5_begins_25 : decode cX5_begins 25 = .ok (.if_icmp .gt 16, 3) := by decide +kernel
theorem d_X5_begins_28 : decode cX5_begins 28 = .ok (.aload_n 0, 1) := by decide +kernel
theorem d_X5_begins_29 : decode cX5_begins 29 = .ok (.bipush 48, 2) := by decide +kernel
theorem d_X5_begins_31 : decode cX5_begins 31 = .ok (.iload_n 1, 1) := by decide +kernel
theorem d_X5_begins_32 : decode cX5_begins 32 = .ok (.iadd, 1) := by decide +kernel
theorem d_X5_begins_33 : decode cX5_begins 33 = .ok (.iconst (-1), 1) := by decide +kernel
theorem d_X5_begins_34 : decode cX5_begins 34 = .ok (.iastore, 1) := by decide +kernel
theorem d_X5_begins_35 : decode cX5_begins 35 = .ok (.iinc 1 1, 3) := by decide +kernel
theorem d_X5_begins_38 : decode cX5_begins 38 = .ok (.goto (-17), 3) := by decide +kernel
theorem d_X5_begins_41 : decode cX5_begins 41 = .ok (.aload_n 0, 1) := by decide +kernel
theorem d_X5_begins_42 : decode cX5_begins 42 = .ok (.iconst 4, 1) := by decide +kernel
theorem d_X5_begins_43 : decode cX5_begins 43 = .ok (.sipush 999, 3) := by decide +kernel
theorem d_X5_begins_46 : decode cX5_begins 46 = .ok (.iastore, 1) := by decide +kernel
theorem d_X5_begins_47 : decode cX5_begins 47 = .ok (.return_, 1) := by decide +kernel
abbrev rm_X5_begins : Room := { frames := 0, cells := 0, slots := 0, locals := 0 }
set_option maxHeartbeats 4000000 in
set_option maxRecDepth 20000 in
theorem c_X5_begins_21 {x : Cx} {b : Wy} (o : Ok x (wM b) cX5_begins 2 RX5 none rm_X5_begins) {v0 : Nat} {K : Sg → Prop}  (hv0 : IsA (wM b) v0) : ∀ (n : Nat) (l1 : Int32) (σ : Sg), m_X5_begins_l21 v0 K  n l1 σ → J x (wM b) (FinC x (wM b) (PV K) (0, 0)) 21 [(0, .ref (wB (wM b) + v0)), (1, .int l1)] [] (0, 0) σ := by
  intro n
  induction n with
  | zero =>
    intro l1 σ  h
    exact False.elim h
  | succ n ih =>
    intro l1 σ  h
    unfold m_X5_begins_l21 at h
    refine J_iload_n o 1 d_X5_begins_21 rfl ?_
    refine J_sipush (v := 560) o d_X5_begins_22 sipush_560 ?_
    refine J_icmp_gt o 41 d_X5_begins_25 rfl (fun c25 => ?_) (fun c25 => ?_)
    · replace h := h.1 c25
      refine J_aload_n o 0 d_X5_begins_41 rfl ?_
      refine J_iconst (v := 4) o d_X5_begins_42 iconst_4 ?_
      refine J_sipush (v := 999) o d_X5_begins_43 sipush_999 ?_
      have b46 := h.1
      replace h := h.2
      refine J_iast o hv0 (vpc rfl b46) d_X5_begins_46 ?_
      refine J_nS (fun s46 es46 => ?_)
      replace h := h s46 es46
      exact J_vret o d_X5_begins_47 ⟨rfl, h⟩
    · replace h := h.2 c25
      refine J_aload_n o 0 d_X5_begins_28 rfl ?_
      refine J_bipush (v := 48) o d_X5_begins_29 bipush_48 ?_
      refine J_iload_n o 1 d_X5_begins_31 rfl ?_
      refine J_iadd o d_X5_begins_32 ?_
      refine J_iconst (v := (-1)) o d_X5_begins_33 iconst_m1 ?_
      have b34 := h.1
      replace h := h.2
      refine J_iast o hv0 (vpc rfl b34) d_X5_begins_34 ?_
      refine J_nS (fun s34 es34 => ?_)
      replace h := h s34 es34
      refine J_iinc (lv' := [(1, .int (l1 + 1)), (0, .ref (wB (wM b) + v0))]) o 1 d_X5_begins_35 (by decide) rfl iconst_1 rfl ?_
      refine J_goto o 21 d_X5_begins_38 rfl ?_
      refine J_sub [1, 0] rfl ?_
      exact ih (l1 + 1) s34  h
set_option maxHeartbeats 4000000 in
set_option maxRecDepth 20000 in
theorem c_X5_begins_2 {x : Cx} {b : Wy} (o : Ok x (wM b) cX5_begins 2 RX5 none rm_X5_begins) {v0 : Nat} {K : Sg → Prop}  (hv0 : IsA (wM b) v0) : ∀ (n : Nat) (l1 : Int32) (σ : Sg), m_X5_begins_l2 v0 K  n l1 σ → J x (wM b) (FinC x (wM b) (PV K) (0, 0)) 2 [(0, .ref (wB (wM b) + v0)), (1, .int l1)] [] (0, 0) σ := by
  intro n
  induction n with
  | zero =>
    intro l1 σ  h
    exact False.elim h
  | succ n ih =>
    intro l1 σ  h
    unfold m_X5_begins_l2 at h
    refine J_iload_n o 1 d_X5_begins_2 rfl ?_
    refine J_sipush (v := 1098) o d_X5_begins_3 sipush_1098 ?_
    refine J_icmp_ge o 19 d_X5_begins_6 rfl (fun c6 => ?_) (fun c6 => ?_)
    · replace h := h.1 c6
      refine J_iconst (v := 0) o d_X5_begins_19 iconst_0 ?_
      refine J_istore_n (lv' := [(1, .int 0), (0, .ref (wB (wM b) + v0))]) o d_X5_begins_20 (by decide) rfl ?_
      refine J_sub [1, 0] rfl ?_
      obtain ⟨n9, h⟩ := h
      exact c_X5_begins_21 o hv0  n9 0 σ  h
    · replace h := h.2 c6
      refine J_aload_n o 0 d_X5_begins_9 rfl ?_
      refine J_iload_n o 1 d_X5_begins_10 rfl ?_
      refine J_iconst (v := 0) o d_X5_begins_11 iconst_0 ?_
      have b12 := h.1
      replace h := h.2
      refine J_iast o hv0 (vpc rfl b12) d_X5_begins_12 ?_
      refine J_nS (fun s12 es12 => ?_)
      replace h := h s12 es12
      refine J_iinc (lv' := [(1, .int (l1 + 1)), (0, .ref (wB (wM b) + v0))]) o 1 d_X5_begins_13 (by decide) rfl iconst_1 rfl ?_
      refine J_goto o 2 d_X5_begins_16 rfl ?_
      refine J_sub [1, 0] rfl ?_
      exact ih (l1 + 1) s12  h
set_option maxHeartbeats 4000000 in
set_option maxRecDepth 20000 in
theorem w_X5_begins (l : Launch) (b : Wy) {v0 : Nat} {σ : Sg} {K : Sg → Prop} (hv0 : IsA (wM b) v0) (h : m_X5_begins v0 σ K) : Ct l (wM b) yX5_begins cX5_begins 2 none rm_X5_begins [.ref (wB (wM b) + v0)] σ (PV K) := by
  unfold m_X5_begins at h
  refine Ct.of (own := RX5) (by decide +kernel) rfl (Nat.le_of_ble_eq_true rfl) (fun x hx o => ?_)
  subst hx
  show J x (wM b) (FinC x (wM b) (PV K) (0, 0)) 0 [(0, .ref (wB (wM b) + v0))] [] (0, 0) σ
  refine J_iconst (v := 0) o d_X5_begins_0 iconst_0 ?_
  refine J_istore_n (lv' := [(1, .int 0), (0, .ref (wB (wM b) + v0))]) o d_X5_begins_1 (by decide) rfl ?_
  refine J_sub [1, 0] rfl ?_
  obtain ⟨n9, h⟩ := h
  exact c_X5_begins_2 o hv0  n9 0 σ  h
theorem d_X5_thrown_0 : decode cX5_thrown 0 = .ok (.aload_n 0, 1) := by decide +kernel
theorem d_X5_thrown_1 : decode cX5_thrown 1 = .ok (.getfield 50, 3) := by decide +kernel
theorem d_X5_thrown_4 : decode cX5_thrown 4 = .ok (.ireturn, 1) := by decide +kernel
abbrev rm_X5_thrown : Room := { frames := 0, cells := 0, slots := 0, locals := 0 }
set_option maxHeartbeats 4000000 in
set_option maxRecDepth 20000 in
theorem w_X5_thrown (l : Launch) (b : Wy)  {σ : Sg} {K : Int32 → Sg → Prop}  (h : m_X5_thrown  σ K) : Ct l (wM b) yX5_thrown cX5_thrown 1 (some .int) rm_X5_thrown [.ref (wB (wM b) + 347)] σ (PI K) := by
  unfold m_X5_thrown at h
  refine Ct.of (own := RX5) (by decide +kernel) rfl (Nat.le_of_ble_eq_true rfl) (fun x hx o => ?_)
  subst hx
  show J x (wM b) (FinC x (wM b) (PI K) (0, 0)) 0 [(0, .ref (wB (wM b) + 347))] [] (0, 0) σ
  refine J_aload_n o 0 d_X5_thrown_0 rfl ?_
  refine J_getI o fl_RX5_50 rfl (Nat.le_of_ble_eq_true rfl) (Nat.le_of_ble_eq_true rfl) rfl d_X5_thrown_1 ?_
  exact J_iret o d_X5_thrown_4 ⟨_, rfl, h⟩
theorem d_X5_feed_0 : decode cX5_feed 0 = .ok (.aload_n 0, 1) := by decide +kernel
theorem d_X5_feed_1 : decode cX5_feed 1 = .ok (.iconst 0, 1) := by decide +kernel
theorem d_X5_feed_2 : decode cX5_feed 2 = .ok (.putfield 50, 3) := by decide +kernel
theorem d_X5_feed_5 : decode cX5_feed 5 = .ok (.aload_n 0, 1) := by decide +kernel
theorem d_X5_feed_6 : decode cX5_feed 6 = .ok (.getfield 53, 3) := by decide +kernel
theorem d_X5_feed_9 : decode cX5_feed 9 = .ok (.bipush 20, 2) := by decide +kernel
theorem d_X5_feed_11 : decode cX5_feed 11 = .ok (.iadd, 1) := by decide +kernel
theorem d_X5_feed_12 : decode cX5_feed 12 = .ok (.sipush 400, 3) := by decide +kernel
theorem d_X5_feed_15 : decode cX5_feed 15 = .ok (.if_icmp .le 5, 3) := by decide +kernel
theorem d_X5_feed_18 : decode cX5_feed 18 = .ok (.iconst (-1), 1) := by decide +kernel
theorem d_X5_feed_19 : decode cX5_feed 19 = .ok (.ireturn, 1) := by decide +kernel
theorem d_X5_feed_20 : decode cX5_feed 20 = .ok (.iconst 0, 1) := by decide +kernel
theorem d_X5_feed_21 : decode cX5_feed 21 = .ok (.istore 6, 2) := by decide +kernel
theorem d_X5_feed_23 : decode cX5_feed 23 = .ok (.iload 6, 2) := by decide +kernel
theorem d_X5_feed_25 : decode cX5_feed 25 = .ok (.bipush 20, 2) := by decide +kernel
theorem d_X5_feed_27 : decode cX5_feed 27 = .ok (.if_icmp .ge 93, 3) := by decide +kernel
theorem d_X5_feed_30 : decode cX5_feed 30 = .ok (.iload 6, 2) := by decide +kernel
theorem d_X5_feed_32 : decode cX5_feed 32 = .ok (.iconst 4, 1) := by decide +kernel
theorem d_X5_feed_33 : decode cX5_feed 33 = .ok (.if_icmp .ge 7, 3) := by decide +kernel
theorem d_X5_feed_36 : decode cX5_feed 36 = .ok (.iload_n 1, 1) := by decide +kernel
theorem d_X5_feed_37 : decode cX5_feed 37 = .ok (.goto 39, 3) := by decide +kernel
theorem d_X5_feed_40 : decode cX5_feed 40 = .ok (.iload 6, 2) := by decide +kernel
theorem d_X5_feed_42 : decode cX5_feed 42 = .ok (.bipush 8, 2) := by decide +kernel
theorem d_X5_feed_44 : decode cX5_feed 44 = .ok (.if_icmp .ge 7, 3) := by decide +kernel
theorem d_X5_feed_47 : decode cX5_feed 47 = .ok (.iload_n 2, 1) := by decide +kernel
theorem d_X5_feed_48 : decode cX5_feed 48 = .ok (.goto 28, 3) := by decide +kernel
theorem d_X5_feed_51 : decode cX5_feed 51 = .ok (.iload 6, 2) := by decide +kernel
theorem d_X5_feed_53 : decode cX5_feed 53 = .ok (.bipush 12, 2) := by decide +kernel
theorem d_X5_feed_55 : decode cX5_feed 55 = .ok (.if_icmp .ge 7, 3) := by decide +kernel
theorem d_X5_feed_58 : decode cX5_feed 58 = .ok (.iload_n 3, 1) := by decide +kernel
theorem d_X5_feed_59 : decode cX5_feed 59 = .ok (.goto 17, 3) := by decide +kernel
theorem d_X5_feed_62 : decode cX5_feed 62 = .ok (.iload 6, 2) := by decide +kernel
theorem d_X5_feed_64 : decode cX5_feed 64 = .ok (.bipush 16, 2) := by decide +kernel
theorem d_X5_feed_66 : decode cX5_feed 66 = .ok (.if_icmp .ge 8, 3) := by decide +kernel
theorem d_X5_feed_69 : decode cX5_feed 69 = .ok (.iload 4, 2) := by decide +kernel
theorem d_X5_feed_71 : decode cX5_feed 71 = .ok (.goto 5, 3) := by decide +kernel
theorem d_X5_feed_74 : decode cX5_feed 74 = .ok (.iload 5, 2) := by decide +kernel
theorem d_X5_feed_76 : decode cX5_feed 76 = .ok (.istore 7, 2) := by decide +kernel
theorem d_X5_feed_78 : decode cX5_feed 78 = .ok (.aload_n 0, 1) := by decide +kernel
theorem d_X5_feed_79 : decode cX5_feed 79 = .ok (.getfield 17, 3) := by decide +kernel
theorem d_X5_feed_82 : decode cX5_feed 82 = .ok (.aload_n 0, 1) := by decide +kernel
theorem d_X5_feed_83 : decode cX5_feed 83 = .ok (.getfield 53, 3) := by decide +kernel
theorem d_X5_feed_86 : decode cX5_feed 86 = .ok (.iload 7, 2) := by decide +kernel
theorem d_X5_feed_88 : decode cX5_feed 88 = .ok (.bipush 24, 2) := by decide +kernel
theorem d_X5_feed_90 : decode cX5_feed 90 = .ok (.bipush 8, 2) := by decide +kernel
theorem d_X5_feed_92 : decode cX5_feed 92 = .ok (.iload 6, 2) := by decide +kernel
theorem d_X5_feed_94 : decode cX5_feed 94 = .ok (.iconst 4, 1) := by decide +kernel
theorem d_X5_feed_95 : decode cX5_feed 95 = .ok (.irem, 1) := by decide +kernel
theorem d_X5_feed_96 : decode cX5_feed 96 = .ok (.imul, 1) := by decide +kernel
theorem d_X5_feed_97 : decode cX5_feed 97 = .ok (.isub, 1) := by decide +kernel
theorem d_X5_feed_98 : decode cX5_feed 98 = .ok (.ishr, 1) := by decide +kernel
theorem d_X5_feed_99 : decode cX5_feed 99 = .ok (.sipush 255, 3) := by decide +kernel
theorem d_X5_feed_102 : decode cX5_feed 102 = .ok (.iand, 1) := by decide +kernel
theorem d_X5_feed_103 : decode cX5_feed 103 = .ok (.iastore, 1) := by decide +kernel
theorem d_X5_feed_104 : decode cX5_feed 104 = .ok (.aload_n 0, 1) := by decide +kernel
theorem d_X5_feed_105 : decode cX5_feed 105 = .ok (.dup, 1) := by decide +kernel
theorem d_X5_feed_106 : decode cX5_feed 106 = .ok (.getfield 53, 3) := by decide +kernel
theorem d_X5_feed_109 : decode cX5_feed 109 = .ok (.iconst 1, 1) := by decide +kernel
theorem d_X5_feed_110 : decode cX5_feed 110 = .ok (.iadd, 1) := by decide +kernel
theorem d_X5_feed_111 : decode cX5_feed 111 = .ok (.putfield 53, 3) := by decide +kernel
theorem d_X5_feed_114 : decode cX5_feed 114 = .ok (.iinc 6 1, 3) := by decide +kernel
theorem d_X5_feed_117 : decode cX5_feed 117 = .ok (.goto (-94), 3) := by decide +kernel
theorem d_X5_feed_120 : decode cX5_feed 120 = .ok (.aload_n 0, 1) := by decide +kernel
theorem d_X5_feed_121 : decode cX5_feed 121 = .ok (.getfield 53, 3) := by decide +kernel
theorem d_X5_feed_124 : decode cX5_feed 124 = .ok (.ireturn, 1) := by decide +kernel
abbrev rm_X5_feed : Room := { frames := 0, cells := 0, slots := 0, locals := 0 }
set_option maxHeartbeats 4000000 in
set_option maxRecDepth 20000 in
theorem c_X5_feed_76 {x : Cx} {b : Wy} (o : Ok x (wM b) cX5_feed 8 RX5 (some .int) rm_X5_feed) {v1 : Int32} {v2 : Int32} {v3 : Int32} {v4 : Int32} {v5 : Int32} {K : Int32 → Sg → Prop}  {KO23 : Int32 → Sg → Prop}  (hKO23 : ∀ (l6 : Int32) (σ : Sg), KO23 l6 σ → J x (wM b) (FinC x (wM b) (PI K) (0, 0)) 23 [(0, .ref (wB (wM b) + 347)), (1, .int v1), (2, .int v2), (3, .int v3), (4, .int v4), (5, .int v5), (6, .int l6)] [] (0, 0) σ) : ∀ (l6 : Int32) (k0 : Int32) (σ : Sg), m_X5_feed_j76 v1 v2 v3 v4 v5 K KO23 l6 k0 σ → J x (wM b) (FinC x (wM b) (PI K) (0, 0)) 76 [(0, .ref (wB (wM b) + 347)), (1, .int v1), (2, .int v2), (3, .int v3), (4, .int v4), (5, .int v5), (6, .int l6)] [.int k0] (0, 0) σ := by
  intro l6 k0 σ  h
  unfold m_X5_feed_j76 at h
  refine J_istore (lv' := [(7, .int k0), (0, .ref (wB (wM b) + 347)), (1, .int v1), (2, .int v2), (3, .int v3), (4, .int v4), (5, .int v5), (6, .int l6)]) o d_X5_feed_76 (by decide) rfl ?_
  refine J_aload_n o 1 d_X5_feed_78 rfl ?_
  refine J_getR (t := 349) o fl_RX5_17 rfl (Nat.le_of_ble_eq_true rfl) (Nat.le_of_ble_eq_true rfl) rfl rfl d_X5_feed_79 ?_
  refine J_aload_n o 1 d_X5_feed_82 rfl ?_
  refine J_getI o fl_RX5_53 rfl (Nat.le_of_ble_eq_true rfl) (Nat.le_of_ble_eq_true rfl) rfl d_X5_feed_83 ?_
  refine J_iload o 0 d_X5_feed_86 rfl ?_
  refine J_bipush (v := 24) o d_X5_feed_88 bipush_24 ?_
  refine J_bipush (v := 8) o d_X5_feed_90 bipush_8 ?_
  refine J_iload o 7 d_X5_feed_92 rfl ?_
  refine J_iconst (v := 4) o d_X5_feed_94 iconst_4 ?_
  refine J_irem o d_X5_feed_95 (by decide) ?_
  refine J_imul o d_X5_feed_96 ?_
  refine J_isub o d_X5_feed_97 ?_
  refine J_ishr o d_X5_feed_98 ?_
  refine J_sipush (v := 255) o d_X5_feed_99 sipush_255 ?_
  refine J_iand o d_X5_feed_102 ?_
  have b103 := h.1
  replace h := h.2
  refine J_iast o A_349 (vpc (rfl : ln 349 = 400) b103) d_X5_feed_103 ?_
  refine J_nS (fun s103 es103 => ?_)
  replace h := h s103 es103
  refine J_aload_n o 1 d_X5_feed_104 rfl ?_
  refine J_dup o d_X5_feed_105 rfl ?_
  refine J_getI o fl_RX5_53 rfl (Nat.le_of_ble_eq_true rfl) (Nat.le_of_ble_eq_true rfl) rfl d_X5_feed_106 ?_
  refine J_iconst (v := 1) o d_X5_feed_109 iconst_1 ?_
  refine J_iadd o d_X5_feed_110 ?_
  refine J_put o fl_RX5_53 la_5 rfl (Nat.le_of_ble_eq_true rfl) (Nat.le_of_ble_eq_true rfl) rfl rfl rfl rfl d_X5_feed_111 ?_
  refine J_nS (fun s111 es111 => ?_)
  replace h := h s111 es111
  refine J_iinc (lv' := [(6, .int (l6 + 1)), (7, .int k0), (0, .ref (wB (wM b) + 347)), (1, .int v1), (2, .int v2), (3, .int v3), (4, .int v4), (5, .int v5)]) o 7 d_X5_feed_114 (by decide) rfl iconst_1 rfl ?_
  refine J_goto o 23 d_X5_feed_117 rfl ?_
  refine J_sub [2, 3, 4, 5, 6, 7, 0] rfl ?_
  exact hKO23 (l6 + 1) s111  h
set_option maxHeartbeats 4000000 in
set_option maxRecDepth 20000 in
theorem c_X5_feed_23 {x : Cx} {b : Wy} (o : Ok x (wM b) cX5_feed 8 RX5 (some .int) rm_X5_feed) {v1 : Int32} {v2 : Int32} {v3 : Int32} {v4 : Int32} {v5 : Int32} {K : Int32 → Sg → Prop}   : ∀ (n : Nat) (l6 : Int32) (σ : Sg), m_X5_feed_l23 v1 v2 v3 v4 v5 K  n l6 σ → J x (wM b) (FinC x (wM b) (PI K) (0, 0)) 23 [(0, .ref (wB (wM b) + 347)), (1, .int v1), (2, .int v2), (3, .int v3), (4, .int v4), (5, .int v5), (6, .int l6)] [] (0, 0) σ := by
  intro n
  induction n with
  | zero =>
    intro l6 σ  h
    exact False.elim h
  | succ n ih =>
    intro l6 σ  h
    unfold m_X5_feed_l23 at h
    refine J_iload o 6 d_X5_feed_23 rfl ?_
    refine J_bipush (v := 20) o d_X5_feed_25 bipush_20 ?_
    refine J_icmp_ge o 120 d_X5_feed_27 rfl (fun c27 => ?_) (fun c27 => ?_)
    · replace h := h.1 c27
      refine J_aload_n o 0 d_X5_feed_120 rfl ?_
      refine J_getI o fl_RX5_53 rfl (Nat.le_of_ble_eq_true rfl) (Nat.le_of_ble_eq_true rfl) rfl d_X5_feed_121 ?_
      exact J_iret o d_X5_feed_124 ⟨_, rfl, h⟩
    · replace h := h.2 c27
      refine J_iload o 6 d_X5_feed_30 rfl ?_
      refine J_iconst (v := 4) o d_X5_feed_32 iconst_4 ?_
      refine J_icmp_ge o 40 d_X5_feed_33 rfl (fun c33 => ?_) (fun c33 => ?_)
      · replace h := h.1 c33
        refine J_iload o 6 d_X5_feed_40 rfl ?_
        refine J_bipush (v := 8) o d_X5_feed_42 bipush_8 ?_
        refine J_icmp_ge o 51 d_X5_feed_44 rfl (fun c44 => ?_) (fun c44 => ?_)
        · replace h := h.1 c44
          refine J_iload o 6 d_X5_feed_51 rfl ?_
          refine J_bipush (v := 12) o d_X5_feed_53 bipush_12 ?_
          refine J_icmp_ge o 62 d_X5_feed_55 rfl (fun c55 => ?_) (fun c55 => ?_)
          · replace h := h.1 c55
            refine J_iload o 6 d_X5_feed_62 rfl ?_
            refine J_bipush (v := 16) o d_X5_feed_64 bipush_16 ?_
            refine J_icmp_ge o 74 d_X5_feed_66 rfl (fun c66 => ?_) (fun c66 => ?_)
            · replace h := h.1 c66
              refine J_iload o 5 d_X5_feed_74 rfl ?_
              exact c_X5_feed_76 o  ih l6 v5 σ  h
            · replace h := h.2 c66
              refine J_iload o 4 d_X5_feed_69 rfl ?_
              refine J_goto o 76 d_X5_feed_71 rfl ?_
              exact c_X5_feed_76 o  ih l6 v4 σ  h
          · replace h := h.2 c55
            refine J_iload_n o 3 d_X5_feed_58 rfl ?_
            refine J_goto o 76 d_X5_feed_59 rfl ?_
            exact c_X5_feed_76 o  ih l6 v3 σ  h
        · replace h := h.2 c44
          refine J_iload_n o 2 d_X5_feed_47 rfl ?_
          refine J_goto o 76 d_X5_feed_48 rfl ?_
          exact c_X5_feed_76 o  ih l6 v2 σ  h
      · replace h := h.2 c33
        refine J_iload_n o 1 d_X5_feed_36 rfl ?_
        refine J_goto o 76 d_X5_feed_37 rfl ?_
        exact c_X5_feed_76 o  ih l6 v1 σ  h
set_option maxHeartbeats 4000000 in
set_option maxRecDepth 20000 in
theorem w_X5_feed (l : Launch) (b : Wy) {v1 : Int32} {v2 : Int32} {v3 : Int32} {v4 : Int32} {v5 : Int32} {σ : Sg} {K : Int32 → Sg → Prop}  (h : m_X5_feed v1 v2 v3 v4 v5 σ K) : Ct l (wM b) yX5_feed cX5_feed 8 (some .int) rm_X5_feed [.ref (wB (wM b) + 347), .int v1, .int v2, .int v3, .int v4, .int v5] σ (PI K) := by
  unfold m_X5_feed at h
  refine Ct.of (own := RX5) (by decide +kernel) rfl (Nat.le_of_ble_eq_true rfl) (fun x hx o => ?_)
  subst hx
  show J x (wM b) (FinC x (wM b) (PI K) (0, 0)) 0 [(0, .ref (wB (wM b) + 347)), (1, .int v1), (2, .int v2), (3, .int v3), (4, .int v4), (5, .int v5)] [] (0, 0) σ
  refine J_aload_n o 0 d_X5_feed_0 rfl ?_
  refine J_iconst (v := 0) o d_X5_feed_1 iconst_0 ?_
  refine J_put o fl_RX5_50 la_5 rfl (Nat.le_of_ble_eq_true rfl) (Nat.le_of_ble_eq_true rfl) rfl rfl rfl rfl d_X5_feed_2 ?_
  refine J_nS (fun s2 es2 => ?_)
  replace h := h s2 es2
  refine J_aload_n o 0 d_X5_feed_5 rfl ?_
  refine J_getI o fl_RX5_53 rfl (Nat.le_of_ble_eq_true rfl) (Nat.le_of_ble_eq_true rfl) rfl d_X5_feed_6 ?_
  refine J_bipush (v := 20) o d_X5_feed_9 bipush_20 ?_
  refine J_iadd o d_X5_feed_11 ?_
  refine J_sipush (v := 400) o d_X5_feed_12 sipush_400 ?_
  refine J_icmp_le o 20 d_X5_feed_15 rfl (fun c15 => ?_) (fun c15 => ?_)
  · replace h := h.1 c15
    refine J_iconst (v := 0) o d_X5_feed_20 iconst_0 ?_
    refine J_istore (lv' := [(6, .int 0), (0, .ref (wB (wM b) + 347)), (1, .int v1), (2, .int v2), (3, .int v3), (4, .int v4), (5, .int v5)]) o d_X5_feed_21 (by decide) rfl ?_
    refine J_sub [1, 2, 3, 4, 5, 6, 0] rfl ?_
    obtain ⟨n9, h⟩ := h
    exact c_X5_feed_23 o   n9 0 s2  h
  · replace h := h.2 c15
    refine J_iconst (v := (-1)) o d_X5_feed_18 iconst_m1 ?_
    exact J_iret o d_X5_feed_19 ⟨_, rfl, h⟩
theorem d_X5_in_0 : decode cX5_in 0 = .ok (.iload_n 0, 1) := by decide +kernel
theorem d_X5_in_1 : decode cX5_in 1 = .ok (.iload_n 1, 1) := by decide +kernel
theorem d_X5_in_2 : decode cX5_in 2 = .ok (.if_icmp .lt 12, 3) := by decide +kernel
theorem d_X5_in_5 : decode cX5_in 5 = .ok (.iload_n 0, 1) := by decide +kernel
theorem d_X5_in_6 : decode cX5_in 6 = .ok (.iload_n 2, 1) := by decide +kernel
theorem d_X5_in_7 : decode cX5_in 7 = .ok (.if_icmp .gt 7, 3) := by decide +kernel
theorem d_X5_in_10 : decode cX5_in 10 = .ok (.iconst 1, 1) := by decide +kernel
theorem d_X5_in_11 : decode cX5_in 11 = .ok (.goto 4, 3) := by decide +kernel
theorem d_X5_in_14 : decode cX5_in 14 = .ok (.iconst 0, 1) := by decide +kernel
theorem d_X5_in_15 : decode cX5_in 15 = .ok (.ireturn, 1) := by decide +kernel
abbrev rm_X5_in : Room := { frames := 0, cells := 0, slots := 0, locals := 0 }
set_option maxHeartbeats 4000000 in
set_option maxRecDepth 20000 in
theorem w_X5_in (l : Launch) (b : Wy) {v0 : Int32} {v1 : Int32} {v2 : Int32} {σ : Sg} {K : Int32 → Sg → Prop}  (h : m_X5_in v0 v1 v2 σ K) : Ct l (wM b) yX5_in cX5_in 3 (some .boolean) rm_X5_in [.int v0, .int v1, .int v2] σ (PZ K) := by
  unfold m_X5_in at h
  refine Ct.of (own := RX5) (by decide +kernel) rfl (Nat.le_of_ble_eq_true rfl) (fun x hx o => ?_)
  subst hx
  show J x (wM b) (FinC x (wM b) (PZ K) (0, 0)) 0 [(0, .int v0), (1, .int v1), (2, .int v2)] [] (0, 0) σ
  refine J_iload_n o 0 d_X5_in_0 rfl ?_
  refine J_iload_n o 1 d_X5_in_1 rfl ?_
  refine J_icmp_lt o 14 d_X5_in_2 rfl (fun c2 => ?_) (fun c2 => ?_)
  · replace h := h.1 c2
    refine J_iconst (v := 0) o d_X5_in_14 iconst_0 ?_
    exact J_zret o (Or.inl rfl) d_X5_in_15 ⟨_, rfl, (Or.inl rfl), h⟩
  · replace h := h.2 c2
    refine J_iload_n o 0 d_X5_in_5 rfl ?_
    refine J_iload_n o 2 d_X5_in_6 rfl ?_
    refine J_icmp_gt o 14 d_X5_in_7 rfl (fun c7 => ?_) (fun c7 => ?_)
    · replace h := h.1 c7
      refine J_iconst (v := 0) o d_X5_in_14 iconst_0 ?_
      exact J_zret o (Or.inl rfl) d_X5_in_15 ⟨_, rfl, (Or.inl rfl), h⟩
    · replace h := h.2 c7
      refine J_iconst (v := 1) o d_X5_in_10 iconst_1 ?_
      refine J_goto o 15 d_X5_in_11 rfl ?_
      exact J_zret o (Or.inr rfl) d_X5_in_15 ⟨_, rfl, (Or.inr rfl), h⟩
theorem d_X5_bad_0 : decode cX5_bad 0 = .ok (.iload_n 1, 1) := by decide +kernel
theorem d_X5_bad_1 : decode cX5_bad 1 = .ok (.ifCond .eq 25, 3) := by decide +kernel
theorem d_X5_bad_4 : decode cX5_bad 4 = .ok (.aload_n 0, 1) := by decide +kernel
theorem d_X5_bad_5 : decode cX5_bad 5 = .ok (.getfield 50, 3) := by decide +kernel
theorem d_X5_bad_8 : decode cX5_bad 8 = .ok (.ifCond .ne 18, 3) := by decide +kernel
theorem d_X5_bad_11 : decode cX5_bad 11 = .ok (.aload_n 0, 1) := by decide +kernel
theorem d_X5_bad_12 : decode cX5_bad 12 = .ok (.iload_n 2, 1) := by decide +kernel
theorem d_X5_bad_13 : decode cX5_bad 13 = .ok (.putfield 50, 3) := by decide +kernel
theorem d_X5_bad_16 : decode cX5_bad 16 = .ok (.aload_n 0, 1) := by decide +kernel
theorem d_X5_bad_17 : decode cX5_bad 17 = .ok (.getfield 9, 3) := by decide +kernel
theorem d_X5_bad_20 : decode cX5_bad 20 = .ok (.iload_n 3, 1) := by decide +kernel
theorem d_X5_bad_21 : decode cX5_bad 21 = .ok (.dup2, 1) := by decide +kernel
theorem d_X5_bad_22 : decode cX5_bad 22 = .ok (.iaload, 1) := by decide +kernel
theorem d_X5_bad_23 : decode cX5_bad 23 = .ok (.iconst 1, 1) := by decide +kernel
theorem d_X5_bad_24 : decode cX5_bad 24 = .ok (.iadd, 1) := by decide +kernel
theorem d_X5_bad_25 : decode cX5_bad 25 = .ok (.iastore, 1) := by decide +kernel
theorem d_X5_bad_26 : decode cX5_bad 26 = .ok (.aload_n 0, 1) := by decide +kernel
theorem d_X5_bad_27 : decode cX5_bad 27 = .ok (.getfield 50, 3) := by decide +kernel
theorem d_X5_bad_30 : decode cX5_bad 30 = .ok (.ifCond .eq 7, 3) := by decide +kernel
theorem d_X5_bad_33 : decode cX5_bad 33 = .ok (.iconst 1, 1) := by decide +kernel
theorem d_X5_bad_34 : decode cX5_bad 34 = .ok (.goto 4, 3) := by decide +kernel
theorem d_X5_bad_37 : decode cX5_bad 37 = .ok (.iconst 0, 1) := by decide +kernel
theorem d_X5_bad_38 : decode cX5_bad 38 = .ok (.ireturn, 1) := by decide +kernel
abbrev rm_X5_bad : Room := { frames := 0, cells := 0, slots := 0, locals := 0 }
set_option maxHeartbeats 4000000 in
set_option maxRecDepth 20000 in
theorem w_X5_bad (l : Launch) (b : Wy) {v1 : Int32} {v2 : Int32} {v3 : Int32} {σ : Sg} {K : Int32 → Sg → Prop}  (h : m_X5_bad v1 v2 v3 σ K) : Ct l (wM b) yX5_bad cX5_bad 4 (some .boolean) rm_X5_bad [.ref (wB (wM b) + 347), .int v1, .int v2, .int v3] σ (PZ K) := by
  unfold m_X5_bad at h
  refine Ct.of (own := RX5) (by decide +kernel) rfl (Nat.le_of_ble_eq_true rfl) (fun x hx o => ?_)
  subst hx
  show J x (wM b) (FinC x (wM b) (PZ K) (0, 0)) 0 [(0, .ref (wB (wM b) + 347)), (1, .int v1), (2, .int v2), (3, .int v3)] [] (0, 0) σ
  refine J_iload_n o 1 d_X5_bad_0 rfl ?_
  refine J_if_eq o 26 d_X5_bad_1 rfl (fun c1 => ?_) (fun c1 => ?_)
  · replace h := h.1 c1
    refine J_aload_n o 0 d_X5_bad_26 rfl ?_
    refine J_getI o fl_RX5_50 rfl (Nat.le_of_ble_eq_true rfl) (Nat.le_of_ble_eq_true rfl) rfl d_X5_bad_27 ?_
    refine J_if_eq o 37 d_X5_bad_30 rfl (fun c30 => ?_) (fun c30 => ?_)
    · replace h := h.1 c30
      refine J_iconst (v := 0) o d_X5_bad_37 iconst_0 ?_
      exact J_zret o (Or.inl rfl) d_X5_bad_38 ⟨_, rfl, (Or.inl rfl), h⟩
    · replace h := h.2 c30
      refine J_iconst (v := 1) o d_X5_bad_33 iconst_1 ?_
      refine J_goto o 38 d_X5_bad_34 rfl ?_
      exact J_zret o (Or.inr rfl) d_X5_bad_38 ⟨_, rfl, (Or.inr rfl), h⟩
  · replace h := h.2 c1
    refine J_aload_n o 0 d_X5_bad_4 rfl ?_
    refine J_getI o fl_RX5_50 rfl (Nat.le_of_ble_eq_true rfl) (Nat.le_of_ble_eq_true rfl) rfl d_X5_bad_5 ?_
    refine J_if_ne o 26 d_X5_bad_8 rfl (fun c8 => ?_) (fun c8 => ?_)
    · replace h := h.1 c8
      refine J_aload_n o 0 d_X5_bad_26 rfl ?_
      refine J_getI o fl_RX5_50 rfl (Nat.le_of_ble_eq_true rfl) (Nat.le_of_ble_eq_true rfl) rfl d_X5_bad_27 ?_
      refine J_if_eq o 37 d_X5_bad_30 rfl (fun c30 => ?_) (fun c30 => ?_)
      · replace h := h.1 c30
        refine J_iconst (v := 0) o d_X5_bad_37 iconst_0 ?_
        exact J_zret o (Or.inl rfl) d_X5_bad_38 ⟨_, rfl, (Or.inl rfl), h⟩
      · replace h := h.2 c30
        refine J_iconst (v := 1) o d_X5_bad_33 iconst_1 ?_
        refine J_goto o 38 d_X5_bad_34 rfl ?_
        exact J_zret o (Or.inr rfl) d_X5_bad_38 ⟨_, rfl, (Or.inr rfl), h⟩
    · replace h := h.2 c8
      refine J_aload_n o 0 d_X5_bad_11 rfl ?_
      refine J_iload_n o 2 d_X5_bad_12 rfl ?_
      refine J_put o fl_RX5_50 la_5 rfl (Nat.le_of_ble_eq_true rfl) (Nat.le_of_ble_eq_true rfl) rfl rfl rfl rfl d_X5_bad_13 ?_
      refine J_nS (fun s13 es13 => ?_)
      replace h := h s13 es13
      refine J_aload_n o 0 d_X5_bad_16 rfl ?_
      refine J_getR (t := 348) o fl_RX5_9 rfl (Nat.le_of_ble_eq_true rfl) (Nat.le_of_ble_eq_true rfl) rfl rfl d_X5_bad_17 ?_
      refine J_iload_n o 3 d_X5_bad_20 rfl ?_
      refine J_dup2 o d_X5_bad_21 rfl rfl ?_
      have b22 := h.1
      replace h := h.2
      refine J_iald o A_348 (vpc (rfl : ln 348 = 3) b22) d_X5_bad_22 ?_
      refine J_iconst (v := 1) o d_X5_bad_23 iconst_1 ?_
      refine J_iadd o d_X5_bad_24 ?_
      have b25 := h.1
      replace h := h.2
      refine J_iast o A_348 (vpc (rfl : ln 348 = 3) b25) d_X5_bad_25 ?_
      refine J_nS (fun s25 es25 => ?_)
      replace h := h s25 es25
      refine J_aload_n o 0 d_X5_bad_26 rfl ?_
      refine J_getI o fl_RX5_50 rfl (Nat.le_of_ble_eq_true rfl) (Nat.le_of_ble_eq_true rfl) rfl d_X5_bad_27 ?_
      refine J_if_eq o 37 d_X5_bad_30 rfl (fun c30 => ?_) (fun c30 => ?_)
      · replace h := h.1 c30
        refine J_iconst (v := 0) o d_X5_bad_37 iconst_0 ?_
        exact J_zret o (Or.inl rfl) d_X5_bad_38 ⟨_, rfl, (Or.inl rfl), h⟩
      · replace h := h.2 c30
        refine J_iconst (v := 1) o d_X5_bad_33 iconst_1 ?_
        refine J_goto o 38 d_X5_bad_34 rfl ?_
        exact J_zret o (Or.inr rfl) d_X5_bad_38 ⟨_, rfl, (Or.inr rfl), h⟩
theorem d_X5_fine_0 : decode cX5_fine 0 = .ok (.aload_n 0, 1) := by decide +kernel
theorem d_X5_fine_1 : decode cX5_fine 1 = .ok (.getfield 98, 3) := by decide +kernel
theorem d_X5_fine_4 : decode cX5_fine 4 = .ok (.ifCond .ne 7, 3) := by decide +kernel
theorem d_X5_fine_7 : decode cX5_fine 7 = .ok (.iconst 1, 1) := by decide +kernel
theorem d_X5_fine_8 : decode cX5_fine 8 = .ok (.goto 4, 3) := by decide +kernel
theorem d_X5_fine_11 : decode cX5_fine 11 = .ok (.iconst 0, 1) := by decide +kernel
theorem d_X5_fine_12 : decode cX5_fine 12 = .ok (.ireturn, 1) := by decide +kernel
abbrev rm_X5_fine : Room := { frames := 0, cells := 0, slots := 0, locals := 0 }
set_option maxHeartbeats 4000000 in
set_option maxRecDepth 20000 in
theorem w_X5_fine (l : Launch) (b : Wy)  {σ : Sg} {K : Int32 → Sg → Prop}  (h : m_X5_fine  σ K) : Ct l (wM b) yX5_fine cX5_fine 1 (some .boolean) rm_X5_fine [.ref (wB (wM b) + 347)] σ (PZ K) := by
  unfold m_X5_fine at h
  refine Ct.of (own := RX5) (by decide +kernel) rfl (Nat.le_of_ble_eq_true rfl) (fun x hx o => ?_)
  subst hx
  show J x (wM b) (FinC x (wM b) (PZ K) (0, 0)) 0 [(0, .ref (wB (wM b) + 347))] [] (0, 0) σ
  refine J_aload_n o 0 d_X5_fine_0 rfl ?_
  refine J_getI o fl_RX5_98 rfl (Nat.le_of_ble_eq_true rfl) (Nat.le_of_ble_eq_true rfl) rfl d_X5_fine_1 ?_
  refine J_if_ne o 11 d_X5_fine_4 rfl (fun c4 => ?_) (fun c4 => ?_)
  · replace h := h.1 c4
    refine J_iconst (v := 0) o d_X5_fine_11 iconst_0 ?_
    exact J_zret o (Or.inl rfl) d_X5_fine_12 ⟨_, rfl, (Or.inl rfl), h⟩
  · replace h := h.2 c4
    refine J_iconst (v := 1) o d_X5_fine_7 iconst_1 ?_
    refine J_goto o 12 d_X5_fine_8 rfl ?_
    exact J_zret o (Or.inr rfl) d_X5_fine_12 ⟨_, rfl, (Or.inr rfl), h⟩
theorem d_X5_byteAt_0 : decode cX5_byteAt 0 = .ok (.iload_n 1, 1) := by decide +kernel
theorem d_X5_byteAt_1 : decode cX5_byteAt 1 = .ok (.aload_n 0, 1) := by decide +kernel
theorem d_X5_byteAt_2 : decode cX5_byteAt 2 = .ok (.getfield 89, 3) := by decide +kernel
theorem d_X5_byteAt_5 : decode cX5_byteAt 5 = .ok (.if_icmp .lt 7, 3) := by decide +kernel
theorem d_X5_byteAt_8 : decode cX5_byteAt 8 = .ok (.iconst (-1), 1) := by decide +kernel
theorem d_X5_byteAt_9 : decode cX5_byteAt 9 = .ok (.goto 9, 3) := by decide +kernel
theorem d_X5_byteAt_12 : decode cX5_byteAt 12 = .ok (.aload_n 0, 1) := by decide +kernel
theorem d_X5_byteAt_13 : decode cX5_byteAt 13 = .ok (.getfield 17, 3) := by decide +kernel
theorem d_X5_byteAt_16 : decode cX5_byteAt 16 = .ok (.iload_n 1, 1) := by decide +kernel
theorem d_X5_byteAt_17 : decode cX5_byteAt 17 = .ok (.iaload, 1) := by decide +kernel
theorem d_X5_byteAt_18 : decode cX5_byteAt 18 = .ok (.ireturn, 1) := by decide +kernel
abbrev rm_X5_byteAt : Room := { frames := 0, cells := 0, slots := 0, locals := 0 }
set_option maxHeartbeats 4000000 in
set_option maxRecDepth 20000 in
theorem w_X5_byteAt (l : Launch) (b : Wy) {v1 : Int32} {σ : Sg} {K : Int32 → Sg → Prop}  (h : m_X5_byteAt v1 σ K) : Ct l (wM b) yX5_byteAt cX5_byteAt 2 (some .int) rm_X5_byteAt [.ref (wB (wM b) + 347), .int v1] σ (PI K) := by
  unfold m_X5_byteAt at h
  refine Ct.of (own := RX5) (by decide +kernel) rfl (Nat.le_of_ble_eq_true rfl) (fun x hx o => ?_)
  subst hx
  show J x (wM b) (FinC x (wM b) (PI K) (0, 0)) 0 [(0, .ref (wB (wM b) + 347)), (1, .int v1)] [] (0, 0) σ
  refine J_iload_n o 1 d_X5_byteAt_0 rfl ?_
  refine J_aload_n o 0 d_X5_byteAt_1 rfl ?_
  refine J_getI o fl_RX5_89 rfl (Nat.le_of_ble_eq_true rfl) (Nat.le_of_ble_eq_true rfl) rfl d_X5_byteAt_2 ?_
  refine J_icmp_lt o 12 d_X5_byteAt_5 rfl (fun c5 => ?_) (fun c5 => ?_)
  · replace h := h.1 c5
    refine J_aload_n o 0 d_X5_byteAt_12 rfl ?_
    refine J_getR (t := 349) o fl_RX5_17 rfl (Nat.le_of_ble_eq_true rfl) (Nat.le_of_ble_eq_true rfl) rfl rfl d_X5_byteAt_13 ?_
    refine J_iload_n o 1 d_X5_byteAt_16 rfl ?_
    have b17 := h.1
    replace h := h.2
    refine J_iald o A_349 (vpc (rfl : ln 349 = 400) b17) d_X5_byteAt_17 ?_
    exact J_iret o d_X5_byteAt_18 ⟨_, rfl, h⟩
  · replace h := h.2 c5
    refine J_iconst (v := (-1)) o d_X5_byteAt_8 iconst_m1 ?_
    refine J_goto o 18 d_X5_byteAt_9 rfl ?_
    exact J_iret o d_X5_byteAt_18 ⟨_, rfl, h⟩
theorem d_X5_here_0 : decode cX5_here 0 = .ok (.aload_n 0, 1) := by decide +kernel
theorem d_X5_here_1 : decode cX5_here 1 = .ok (.aload_n 0, 1) := by decide +kernel
theorem d_X5_here_2 : decode cX5_here 2 = .ok (.getfield 92, 3) := by decide +kernel
theorem d_X5_here_5 : decode cX5_here 5 = .ok (.invokevirtual 95, 3) := by decide +kernel
theorem d_X5_here_8 : decode cX5_here 8 = .ok (.bipush 32, 2) := by decide +kernel
theorem d_X5_here_10 : decode cX5_here 10 = .ok (.if_icmp .ne 16, 3) := by decide +kernel
theorem d_X5_here_13 : decode cX5_here 13 = .ok (.aload_n 0, 1) := by decide +kernel
theorem d_X5_here_14 : decode cX5_here 14 = .ok (.dup, 1) := by decide +kernel
theorem d_X5_here_15 : decode cX5_here 15 = .ok (.getfield 92, 3) := by decide +kernel
theorem d_X5_here_18 : decode cX5_here 18 = .ok (.iconst 1, 1) := by decide +kernel
theorem d_X5_here_19 : decode cX5_here 19 = .ok (.iadd, 1) := by decide +kernel
theorem d_X5_here_20 : decode cX5_here 20 = .ok (.putfield 92, 3) := by decide +kernel
theorem d_X5_here_23 : decode cX5_here 23 = .ok (.goto (-23), 3) := by decide +kernel
theorem d_X5_here_26 : decode cX5_here 26 = .ok (.aload_n 0, 1) := by decide +kernel
theorem d_X5_here_27 : decode cX5_here 27 = .ok (.aload_n 0, 1) := by decide +kernel
theorem d_X5_here_28 : decode cX5_here 28 = .ok (.getfield 92, 3) := by decide +kernel
theorem d_X5_here_31 : decode cX5_here 31 = .ok (.invokevirtual 95, 3) := by decide +kernel
theorem d_X5_here_34 : decode cX5_here 34 = .ok (.ireturn, 1) := by decide +kernel
abbrev rm_X5_here : Room := { frames := 1, cells := 0, slots := 0, locals := 21 }
set_option maxHeartbeats 4000000 in
set_option maxRecDepth 20000 in
theorem c_X5_here_0 {x : Cx} {b : Wy} (o : Ok x (wM b) cX5_here 1 RX5 (some .int) rm_X5_here)  {K : Int32 → Sg → Prop}   : ∀ (n : Nat)  (σ : Sg), m_X5_here_l0  K  n  σ → J x (wM b) (FinC x (wM b) (PI K) (0, 0)) 0 [(0, .ref (wB (wM b) + 347))] [] (0, 0) σ := by
  intro n
  induction n with
  | zero =>
    intro  σ  h
    exact False.elim h
  | succ n ih =>
    intro  σ  h
    unfold m_X5_here_l0 at h
    refine J_aload_n o 0 d_X5_here_0 rfl ?_
    refine J_aload_n o 0 d_X5_here_1 rfl ?_
    refine J_getI o fl_RX5_92 rfl (Nat.le_of_ble_eq_true rfl) (Nat.le_of_ble_eq_true rfl) rfl d_X5_here_2 ?_
    refine J_callV (k := 347) (c := 5) o [.int (σ 347 4)] rfl (by decide) (Nat.le_of_ble_eq_true rfl) (Nat.le_of_ble_eq_true rfl) mth_X5_byteAt iv_X5_byteAt ml_RX5_95 ⟨Nat.le_of_ble_eq_true rfl, Nat.le_of_ble_eq_true rfl⟩ rfl rfl (Nat.le_of_ble_eq_true rfl) ⟨Nat.le_refl _, Nat.le_refl _⟩ d_X5_here_5 (w_X5_byteAt (xL x) b  h) (aI (fun r5 s5 h => ?_))
    refine J_bipush (v := 32) o d_X5_here_8 bipush_32 ?_
    refine J_icmp_ne o 26 d_X5_here_10 rfl (fun c10 => ?_) (fun c10 => ?_)
    · replace h := h.1 c10
      refine J_aload_n o 0 d_X5_here_26 rfl ?_
      refine J_aload_n o 0 d_X5_here_27 rfl ?_
      refine J_getI o fl_RX5_92 rfl (Nat.le_of_ble_eq_true rfl) (Nat.le_of_ble_eq_true rfl) rfl d_X5_here_28 ?_
      refine J_callV (k := 347) (c := 5) o [.int (s5 347 4)] rfl (by decide) (Nat.le_of_ble_eq_true rfl) (Nat.le_of_ble_eq_true rfl) mth_X5_byteAt iv_X5_byteAt ml_RX5_95 ⟨Nat.le_of_ble_eq_true rfl, Nat.le_of_ble_eq_true rfl⟩ rfl rfl (Nat.le_of_ble_eq_true rfl) ⟨Nat.le_refl _, Nat.le_refl _⟩ d_X5_here_31 (w_X5_byteAt (xL x) b  h) (aI (fun r31 s31 h => ?_))
      exact J_iret o d_X5_here_34 ⟨_, rfl, h⟩
    · replace h := h.2 c10
      refine J_aload_n o 0 d_X5_here_13 rfl ?_
      refine J_dup o d_X5_here_14 rfl ?_
      refine J_getI o fl_RX5_92 rfl (Nat.le_of_ble_eq_true rfl) (Nat.le_of_ble_eq_true rfl) rfl d_X5_here_15 ?_
      refine J_iconst (v := 1) o d_X5_here_18 iconst_1 ?_
      refine J_iadd o d_X5_here_19 ?_
      refine J_put o fl_RX5_92 la_5 rfl (Nat.le_of_ble_eq_true rfl) (Nat.le_of_ble_eq_true rfl) rfl rfl rfl rfl d_X5_here_20 ?_
      refine J_nS (fun s20 es20 => ?_)
      replace h := h s20 es20
      refine J_goto o 0 d_X5_here_23 rfl ?_
      exact ih s20  h
set_option maxHeartbeats 4000000 in
set_option maxRecDepth 20000 in
theorem w_X5_here (l : Launch) (b : Wy)  {σ : Sg} {K : Int32 → Sg → Prop}  (h : m_X5_here  σ K) : Ct l (wM b) yX5_here cX5_here 1 (some .int) rm_X5_here [.ref (wB (wM b) + 347)] σ (PI K) := by
  unfold m_X5_here at h
  refine Ct.of (own := RX5) (by decide +kernel) rfl (Nat.le_of_ble_eq_true rfl) (fun x hx o => ?_)
  subst hx
  show J x (wM b) (FinC x (wM b) (PI K) (0, 0)) 0 [(0, .ref (wB (wM b) + 347))] [] (0, 0) σ
  obtain ⟨n9, h⟩ := h
  exact c_X5_here_0 o   n9 σ  h
theorem d_X5_isSmall_0 : decode cX5_isSmall 0 = .ok (.iload_n 0, 1) := by decide +kernel
theorem d_X5_isSmall_1 : decode cX5_isSmall 1 = .ok (.bipush 97, 2) := by decide +kernel
theorem d_X5_isSmall_3 : decode cX5_isSmall 3 = .ok (.if_icmp .lt 13, 3) := by decide +kernel
theorem d_X5_isSmall_6 : decode cX5_isSmall 6 = .ok (.iload_n 0, 1) := by decide +kernel
theorem d_X5_isSmall_7 : decode cX5_isSmall 7 = .ok (.bipush 122, 2) := by decide +kernel
theorem d_X5_isSmall_9 : decode cX5_isSmall 9 = .ok (.if_icmp .gt 7, 3) := by decide +kernel
theorem d_X5_isSmall_12 : decode cX5_isSmall 12 = .ok (.iconst 1, 1) := by decide +kernel
theorem d_X5_isSmall_13 : decode cX5_isSmall 13 = .ok (.goto 4, 3) := by decide +kernel
theorem d_X5_isSmall_16 : decode cX5_isSmall 16 = .ok (.iconst 0, 1) := by decide +kernel
theorem d_X5_isSmall_17 : decode cX5_isSmall 17 = .ok (.ireturn, 1) := by decide +kernel
abbrev rm_X5_isSmall : Room := { frames := 0, cells := 0, slots := 0, locals := 0 }
set_option maxHeartbeats 4000000 in
set_option maxRecDepth 20000 in
theorem w_X5_isSmall (l : Launch) (b : Wy) {v0 : Int32} {σ : Sg} {K : Int32 → Sg → Prop}  (h : m_X5_isSmall v0 σ K) : Ct l (wM b) yX5_isSmall cX5_isSmall 1 (some .boolean) rm_X5_isSmall [.int v0] σ (PZ K) := by
  unfold m_X5_isSmall at h
  refine Ct.of (own := RX5) (by decide +kernel) rfl (Nat.le_of_ble_eq_true rfl) (fun x hx o => ?_)
  subst hx
  show J x (wM b) (FinC x (wM b) (PZ K) (0, 0)) 0 [(0, .int v0)] [] (0, 0) σ
  refine J_iload_n o 0 d_X5_isSmall_0 rfl ?_
  refine J_bipush (v := 97) o d_X5_isSmall_1 bipush_97 ?_
  refine J_icmp_lt o 16 d_X5_isSmall_3 rfl (fun c3 => ?_) (fun c3 => ?_)
  · replace h := h.1 c3
    refine J_iconst (v := 0) o d_X5_isSmall_16 iconst_0 ?_
    exact J_zret o (Or.inl rfl) d_X5_isSmall_17 ⟨_, rfl, (Or.inl rfl), h⟩
  · replace h := h.2 c3
    refine J_iload_n o 0 d_X5_isSmall_6 rfl ?_
    refine J_bipush (v := 122) o d_X5_isSmall_7 bipush_122 ?_
    refine J_icmp_gt o 16 d_X5_isSmall_9 rfl (fun c9 => ?_) (fun c9 => ?_)
    · replace h := h.1 c9
      refine J_iconst (v := 0) o d_X5_isSmall_16 iconst_0 ?_
      exact J_zret o (Or.inl rfl) d_X5_isSmall_17 ⟨_, rfl, (Or.inl rfl), h⟩
    · replace h := h.2 c9
      refine J_iconst (v := 1) o d_X5_isSmall_12 iconst_1 ?_
      refine J_goto o 17 d_X5_isSmall_13 rfl ?_
      exact J_zret o (Or.inr rfl) d_X5_isSmall_17 ⟨_, rfl, (Or.inr rfl), h⟩
theorem d_X5_isWord_0 : decode cX5_isWord 0 = .ok (.aload_n 0, 1) := by decide +kernel
theorem d_X5_isWord_1 : decode cX5_isWord 1 = .ok (.invokevirtual 104, 3) := by decide +kernel
theorem d_X5_isWord_4 : decode cX5_isWord 4 = .ok (.pop, 1) := by decide +kernel
theorem d_X5_isWord_5 : decode cX5_isWord 5 = .ok (.iconst 0, 1) := by decide +kernel
theorem d_X5_isWord_6 : decode cX5_isWord 6 = .ok (.istore_n 2, 1) := by decide +kernel
theorem d_X5_isWord_7 : decode cX5_isWord 7 = .ok (.iload_n 2, 1) := by decide +kernel
theorem d_X5_isWord_8 : decode cX5_isWord 8 = .ok (.aload_n 1, 1) := by decide +kernel
theorem d_X5_isWord_9 : decode cX5_isWord 9 = .ok (.invokevirtual 108, 3) := by decide +kernel
theorem d_X5_isWord_12 : decode cX5_isWord 12 = .ok (.if_icmp .ge 27, 3) := by decide +kernel
theorem d_X5_isWord_15 : decode cX5_isWord 15 = .ok (.aload_n 0, 1) := by decide +kernel
theorem d_X5_isWord_16 : decode cX5_isWord 16 = .ok (.aload_n 0, 1) := by decide +kernel
theorem d_X5_isWord_17 : decode cX5_isWord 17 = .ok (.getfield 92, 3) := by decide +kernel
theorem d_X5_isWord_20 : decode cX5_isWord 20 = .ok (.iload_n 2, 1) := by decide +kernel
theorem d_X5_isWord_21 : decode cX5_isWord 21 = .ok (.iadd, 1) := by decide +kernel
theorem d_X5_isWord_22 : decode cX5_isWord 22 = .ok (.invokevirtual 95, 3) := by decide +kernel
theorem d_X5_isWord_25 : decode cX5_isWord 25 = .ok (.aload_n 1, 1) := by decide +kernel
theorem d_X5_isWord_26 : decode cX5_isWord 26 = .ok (.iload_n 2, 1) := by decide +kernel
theorem d_X5_isWord_27 : decode cX5_isWord 27 = .ok (.invokevirtual 113, 3) := by decide +kernel
theorem d_X5_isWord_30 : decode cX5_isWord 30 = .ok (.if_icmp .ne 9, 3) := by decide +kernel
theorem d_X5_isWord_33 : decode cX5_isWord 33 = .ok (.iinc 2 1, 3) := by decide +kernel
theorem d_X5_isWord_36 : decode cX5_isWord 36 = .ok (.goto (-29), 3) := by decide +kernel
theorem d_X5_isWord_39 : decode cX5_isWord 39 = .ok (.iload_n 2, 1) := by decide +kernel
theorem d_X5_isWord_40 : decode cX5_isWord 40 = .ok (.aload_n 1, 1) := by decide +kernel
theorem d_X5_isWord_41 : decode cX5_isWord 41 = .ok (.invokevirtual 108, 3) := by decide +kernel
theorem d_X5_isWord_44 : decode cX5_isWord 44 = .ok (.if_icmp .ne 23, 3) := by decide +kernel
theorem d_X5_isWord_47 : decode cX5_isWord 47 = .ok (.aload_n 0, 1) := by decide +kernel
theorem d_X5_isWord_48 : decode cX5_isWord 48 = .ok (.aload_n 0, 1) := by decide +kernel
theorem d_X5_isWord_49 : decode cX5_isWord 49 = .ok (.getfield 92, 3) := by decide +kernel
theorem d_X5_isWord_52 : decode cX5_isWord 52 = .ok (.iload_n 2, 1) := by decide +kernel
theorem d_X5_isWord_53 : decode cX5_isWord 53 = .ok (.iadd, 1) := by decide +kernel
theorem d_X5_isWord_54 : decode cX5_isWord 54 = .ok (.invokevirtual 95, 3) := by decide +kernel
theorem d_X5_isWord_57 : decode cX5_isWord 57 = .ok (.invokestatic 117, 3) := by decide +kernel
theorem d_X5_isWord_60 : decode cX5_isWord 60 = .ok (.ifCond .ne 7, 3) := by decide +kernel
theorem d_X5_isWord_63 : decode cX5_isWord 63 = .ok (.iconst 1, 1) := by decide +kernel
theorem d_X5_isWord_64 : decode cX5_isWord 64 = .ok (.goto 4, 3) := by decide +kernel
theorem d_X5_isWord_67 : decode cX5_isWord 67 = .ok (.iconst 0, 1) := by decide +kernel
theorem d_X5_isWord_68 : decode cX5_isWord 68 = .ok (.ireturn, 1) := by decide +kernel
abbrev rm_X5_isWord : Room := { frames := 4, cells := 0, slots := 0, locals := 85 }
set_option maxHeartbeats 4000000 in
set_option maxRecDepth 20000 in
theorem c_X5_isWord_39 {x : Cx} {b : Wy} (o : Ok x (wM b) cX5_isWord 3 RX5 (some .boolean) rm_X5_isWord) {v1 : Nat} {K : Int32 → Sg → Prop}  (hv1 : v1 < nS) : ∀ (l2 : Int32) (σ : Sg), m_X5_isWord_j39 v1 K  l2 σ → J x (wM b) (FinC x (wM b) (PZ K) (0, 0)) 39 [(0, .ref (wB (wM b) + 347)), (1, .ref (wK (wM b) v1)), (2, .int l2)] [] (0, 0) σ := by
  intro l2 σ  h
  unfold m_X5_isWord_j39 at h
  refine J_iload_n o 2 d_X5_isWord_39 rfl ?_
  refine J_aload_n o 1 d_X5_isWord_40 rfl ?_
  refine J_strlen o hv1 ml_RX5_108 d_X5_isWord_41 ⟨Nat.le_of_ble_eq_true rfl, Nat.le_of_ble_eq_true rfl⟩ (by exact Nat.le_of_ble_eq_true rfl) ?_
  refine J_icmp_ne o 67 d_X5_isWord_44 rfl (fun c44 => ?_) (fun c44 => ?_)
  · replace h := h.1 c44
    refine J_iconst (v := 0) o d_X5_isWord_67 iconst_0 ?_
    exact J_zret o (Or.inl rfl) d_X5_isWord_68 ⟨_, rfl, (Or.inl rfl), h⟩
  · replace h := h.2 c44
    refine J_aload_n o 0 d_X5_isWord_47 rfl ?_
    refine J_aload_n o 0 d_X5_isWord_48 rfl ?_
    refine J_getI o fl_RX5_92 rfl (Nat.le_of_ble_eq_true rfl) (Nat.le_of_ble_eq_true rfl) rfl d_X5_isWord_49 ?_
    refine J_iload_n o 2 d_X5_isWord_52 rfl ?_
    refine J_iadd o d_X5_isWord_53 ?_
    refine J_callV (k := 347) (c := 5) o [.int ((σ 347 4) + l2)] rfl (by decide) (Nat.le_of_ble_eq_true rfl) (Nat.le_of_ble_eq_true rfl) mth_X5_byteAt iv_X5_byteAt ml_RX5_95 ⟨Nat.le_of_ble_eq_true rfl, Nat.le_of_ble_eq_true rfl⟩ rfl rfl (Nat.le_of_ble_eq_true rfl) ⟨Nat.le_refl _, Nat.le_refl _⟩ d_X5_isWord_54 (w_X5_byteAt (xL x) b  h) (aI (fun r54 s54 h => ?_))
    refine J_callS o [.int r54] mth_X5_isSmall st_X5_isSmall ml_RX5_117 ⟨Nat.le_of_ble_eq_true rfl, Nat.le_of_ble_eq_true rfl⟩ rfl rfl (Nat.le_of_ble_eq_true rfl) ⟨Nat.le_refl _, Nat.le_refl _⟩ d_X5_isWord_57 (w_X5_isSmall (xL x) b  h) (aZ (fun r57 s57 hzr57 h => ?_))
    refine J_if_ne o 67 d_X5_isWord_60 rfl (fun c60 => ?_) (fun c60 => ?_)
    · replace h := h.1 c60
      refine J_iconst (v := 0) o d_X5_isWord_67 iconst_0 ?_
      exact J_zret o (Or.inl rfl) d_X5_isWord_68 ⟨_, rfl, (Or.inl rfl), h⟩
    · replace h := h.2 c60
      refine J_iconst (v := 1) o d_X5_isWord_63 iconst_1 ?_
      refine J_goto o 68 d_X5_isWord_64 rfl ?_
      exact J_zret o (Or.inr rfl) d_X5_isWord_68 ⟨_, rfl, (Or.inr rfl), h⟩
set_option maxHeartbeats 4000000 in
set_option maxRecDepth 20000 in
theorem c_X5_isWord_7 {x : Cx} {b : Wy} (o : Ok x (wM b) cX5_isWord 3 RX5 (some .boolean) rm_X5_isWord) {v1 : Nat} {K : Int32 → Sg → Prop}  (hv1 : v1 < nS) : ∀ (n : Nat) (l2 : Int32) (σ : Sg), m_X5_isWord_l7 v1 K  n l2 σ → J x (wM b) (FinC x (wM b) (PZ K) (0, 0)) 7 [(0, .ref (wB (wM b) + 347)), (1, .ref (wK (wM b) v1)), (2, .int l2)] [] (0, 0) σ := by
  intro n
  induction n with
  | zero =>
    intro l2 σ  h
    exact False.elim h
  | succ n ih =>
    intro l2 σ  h
    unfold m_X5_isWord_l7 at h
    refine J_iload_n o 2 d_X5_isWord_7 rfl ?_
    refine J_aload_n o 1 d_X5_isWord_8 rfl ?_
    refine J_strlen o hv1 ml_RX5_108 d_X5_isWord_9 ⟨Nat.le_of_ble_eq_true rfl, Nat.le_of_ble_eq_true rfl⟩ (by exact Nat.le_of_ble_eq_true rfl) ?_
    refine J_icmp_ge o 39 d_X5_isWord_12 rfl (fun c12 => ?_) (fun c12 => ?_)
    · replace h := h.1 c12
      exact c_X5_isWord_39 o hv1  l2 σ  h
    · replace h := h.2 c12
      refine J_aload_n o 0 d_X5_isWord_15 rfl ?_
      refine J_aload_n o 0 d_X5_isWord_16 rfl ?_
      refine J_getI o fl_RX5_92 rfl (Nat.le_of_ble_eq_true rfl) (Nat.le_of_ble_eq_true rfl) rfl d_X5_isWord_17 ?_
      refine J_iload_n o 2 d_X5_isWord_20 rfl ?_
      refine J_iadd o d_X5_isWord_21 ?_
      refine J_callV (k := 347) (c := 5) o [.int ((σ 347 4) + l2)] rfl (by decide) (Nat.le_of_ble_eq_true rfl) (Nat.le_of_ble_eq_true rfl) mth_X5_byteAt iv_X5_byteAt ml_RX5_95 ⟨Nat.le_of_ble_eq_true rfl, Nat.le_of_ble_eq_true rfl⟩ rfl rfl (Nat.le_of_ble_eq_true rfl) ⟨Nat.le_refl _, Nat.le_refl _⟩ d_X5_isWord_22 (w_X5_byteAt (xL x) b  h) (aI (fun r22 s22 h => ?_))
      refine J_aload_n o 1 d_X5_isWord_25 rfl ?_
      refine J_iload_n o 2 d_X5_isWord_26 rfl ?_
      have b27 := h.1
      replace h := h.2
      refine J_charAt o hv1 b27 ml_RX5_113 d_X5_isWord_27 ⟨Nat.le_of_ble_eq_true rfl, Nat.le_of_ble_eq_true rfl⟩ (by exact Nat.le_of_ble_eq_true rfl) ?_
      refine J_icmp_ne o 39 d_X5_isWord_30 rfl (fun c30 => ?_) (fun c30 => ?_)
      · replace h := h.1 c30
        exact c_X5_isWord_39 o hv1  l2 s22  h
      · replace h := h.2 c30
        refine J_iinc (lv' := [(2, .int (l2 + 1)), (0, .ref (wB (wM b) + 347)), (1, .ref (wK (wM b) v1))]) o 2 d_X5_isWord_33 (by decide) rfl iconst_1 rfl ?_
        refine J_goto o 7 d_X5_isWord_36 rfl ?_
        refine J_sub [1, 2, 0] rfl ?_
        exact ih (l2 + 1) s22  h
set_option maxHeartbeats 4000000 in
set_option maxRecDepth 20000 in
theorem w_X5_isWord (l : Launch) (b : Wy) {v1 : Nat} {σ : Sg} {K : Int32 → Sg → Prop} (hv1 : v1 < nS) (h : m_X5_isWord v1 σ K) : Ct l (wM b) yX5_isWord cX5_isWord 3 (some .boolean) rm_X5_isWord [.ref (wB (wM b) + 347), .ref (wK (wM b) v1)] σ (PZ K) := by
  unfold m_X5_isWord at h
  refine Ct.of (own := RX5) (by decide +kernel) rfl (Nat.le_of_ble_eq_true rfl) (fun x hx o => ?_)
  subst hx
  show J x (wM b) (FinC x (wM b) (PZ K) (0, 0)) 0 [(0, .ref (wB (wM b) + 347)), (1, .ref (wK (wM b) v1))] [] (0, 0) σ
  refine J_aload_n o 0 d_X5_isWord_0 rfl ?_
  refine J_callV (k := 347) (c := 5) o [] rfl (by decide) (Nat.le_of_ble_eq_true rfl) (Nat.le_of_ble_eq_true rfl) mth_X5_here iv_X5_here ml_RX5_104 ⟨Nat.le_of_ble_eq_true rfl, Nat.le_of_ble_eq_true rfl⟩ rfl rfl (Nat.le_of_ble_eq_true rfl) ⟨Nat.le_refl _, Nat.le_refl _⟩ d_X5_isWord_1 (w_X5_here (xL x) b  h) (aI (fun r1 s1 h => ?_))
  refine J_pop o d_X5_isWord_4 rfl ?_
  refine J_iconst (v := 0) o d_X5_isWord_5 iconst_0 ?_
  refine J_istore_n (lv' := [(2, .int 0), (0, .ref (wB (wM b) + 347)), (1, .ref (wK (wM b) v1))]) o d_X5_isWord_6 (by decide) rfl ?_
  refine J_sub [1, 2, 0] rfl ?_
  obtain ⟨n9, h⟩ := h
  exact c_X5_isWord_7 o hv1  n9 0 s1  h
theorem d_X5_takes_0 : decode cX5_takes 0 = .ok (.aload_n 0, 1) := by decide +kernel
theorem d_X5_takes_1 : decode cX5_takes 1 = .ok (.invokevirtual 121, 3) := by decide +kernel
theorem d_X5_takes_4 : decode cX5_takes 4 = .ok (.ifCond .eq 11, 3) := by decide +kernel
theorem d_X5_takes_7 : decode cX5_takes 7 = .ok (.aload_n 0, 1) := by decide +kernel
theorem d_X5_takes_8 : decode cX5_takes 8 = .ok (.aload_n 1, 1) := by decide +kernel
theorem d_X5_takes_9 : decode cX5_takes 9 = .ok (.invokevirtual 125, 3) := by decide +kernel
theorem d_X5_takes_12 : decode cX5_takes 12 = .ok (.ifCond .ne 5, 3) := by decide +kernel
theorem d_X5_takes_15 : decode cX5_takes 15 = .ok (.iconst 0, 1) := by decide +kernel
theorem d_X5_takes_16 : decode cX5_takes 16 = .ok (.ireturn, 1) := by decide +kernel
theorem d_X5_takes_17 : decode cX5_takes 17 = .ok (.aload_n 0, 1) := by decide +kernel
theorem d_X5_takes_18 : decode cX5_takes 18 = .ok (.dup, 1) := by decide +kernel
theorem d_X5_takes_19 : decode cX5_takes 19 = .ok (.getfield 92, 3) := by decide +kernel
theorem d_X5_takes_22 : decode cX5_takes 22 = .ok (.aload_n 1, 1) := by decide +kernel
theorem d_X5_takes_23 : decode cX5_takes 23 = .ok (.invokevirtual 108, 3) := by decide +kernel
theorem d_X5_takes_26 : decode cX5_takes 26 = .ok (.iadd, 1) := by decide +kernel
theorem d_X5_takes_27 : decode cX5_takes 27 = .ok (.putfield 92, 3) := by decide +kernel
theorem d_X5_takes_30 : decode cX5_takes 30 = .ok (.iconst 1, 1) := by decide +kernel
theorem d_X5_takes_31 : decode cX5_takes 31 = .ok (.ireturn, 1) := by decide +kernel
abbrev rm_X5_takes : Room := { frames := 5, cells := 0, slots := 0, locals := 107 }
set_option maxHeartbeats 4000000 in
set_option maxRecDepth 20000 in
theorem w_X5_takes (l : Launch) (b : Wy) {v1 : Nat} {σ : Sg} {K : Int32 → Sg → Prop} (hv1 : v1 < nS) (h : m_X5_takes v1 σ K) : Ct l (wM b) yX5_takes cX5_takes 2 (some .boolean) rm_X5_takes [.ref (wB (wM b) + 347), .ref (wK (wM b) v1)] σ (PZ K) := by
  unfold m_X5_takes at h
  refine Ct.of (own := RX5) (by decide +kernel) rfl (Nat.le_of_ble_eq_true rfl) (fun x hx o => ?_)
  subst hx
  show J x (wM b) (FinC x (wM b) (PZ K) (0, 0)) 0 [(0, .ref (wB (wM b) + 347)), (1, .ref (wK (wM b) v1))] [] (0, 0) σ
  refine J_aload_n o 0 d_X5_takes_0 rfl ?_
  refine J_callV (k := 347) (c := 5) o [] rfl (by decide) (Nat.le_of_ble_eq_true rfl) (Nat.le_of_ble_eq_true rfl) mth_X5_fine iv_X5_fine ml_RX5_121 ⟨Nat.le_of_ble_eq_true rfl, Nat.le_of_ble_eq_true rfl⟩ rfl rfl (Nat.le_of_ble_eq_true rfl) ⟨Nat.le_refl _, Nat.le_refl _⟩ d_X5_takes_1 (w_X5_fine (xL x) b  h) (aZ (fun r1 s1 hzr1 h => ?_))
  refine J_if_eq o 15 d_X5_takes_4 rfl (fun c4 => ?_) (fun c4 => ?_)
  · replace h := h.1 c4
    refine J_iconst (v := 0) o d_X5_takes_15 iconst_0 ?_
    exact J_zret o (Or.inl rfl) d_X5_takes_16 ⟨_, rfl, (Or.inl rfl), h⟩
  · replace h := h.2 c4
    refine J_aload_n o 0 d_X5_takes_7 rfl ?_
    refine J_aload_n o 1 d_X5_takes_8 rfl ?_
    refine J_callV (k := 347) (c := 5) o [.ref (wK (wM b) v1)] rfl (by decide) (Nat.le_of_ble_eq_true rfl) (Nat.le_of_ble_eq_true rfl) mth_X5_isWord iv_X5_isWord ml_RX5_125 ⟨Nat.le_of_ble_eq_true rfl, Nat.le_of_ble_eq_true rfl⟩ rfl rfl (Nat.le_of_ble_eq_true rfl) ⟨Nat.le_refl _, Nat.le_refl _⟩ d_X5_takes_9 (w_X5_isWord (xL x) b hv1 h) (aZ (fun r9 s9 hzr9 h => ?_))
    refine J_if_ne o 17 d_X5_takes_12 rfl (fun c12 => ?_) (fun c12 => ?_)
    · replace h := h.1 c12
      refine J_aload_n o 0 d_X5_takes_17 rfl ?_
      refine J_dup o d_X5_takes_18 rfl ?_
      refine J_getI o fl_RX5_92 rfl (Nat.le_of_ble_eq_true rfl) (Nat.le_of_ble_eq_true rfl) rfl d_X5_takes_19 ?_
      refine J_aload_n o 1 d_X5_takes_22 rfl ?_
      refine J_strlen o hv1 ml_RX5_108 d_X5_takes_23 ⟨Nat.le_of_ble_eq_true rfl, Nat.le_of_ble_eq_true rfl⟩ (by exact Nat.le_of_ble_eq_true rfl) ?_
      refine J_iadd o d_X5_takes_26 ?_
      refine J_put o fl_RX5_92 la_5 rfl (Nat.le_of_ble_eq_true rfl) (Nat.le_of_ble_eq_true rfl) rfl rfl rfl rfl d_X5_takes_27 ?_
      refine J_nS (fun s27 es27 => ?_)
      replace h := h s27 es27
      refine J_iconst (v := 1) o d_X5_takes_30 iconst_1 ?_
      exact J_zret o (Or.inr rfl) d_X5_takes_31 ⟨_, rfl, (Or.inr rfl), h⟩
    · replace h := h.2 c12
      refine J_iconst (v := 0) o d_X5_takes_15 iconst_0 ?_
      exact J_zret o (Or.inl rfl) d_X5_takes_16 ⟨_, rfl, (Or.inl rfl), h⟩
theorem d_X5_wrong_0 : decode cX5_wrong 0 = .ok (.aload_n 0, 1) := by decide +kernel
theorem d_X5_wrong_1 : decode cX5_wrong 1 = .ok (.getfield 98, 3) := by decide +kernel
theorem d_X5_wrong_4 : decode cX5_wrong 4 = .ok (.ifCond .ne 13, 3) := by decide +kernel
theorem d_X5_wrong_7 : decode cX5_wrong 7 = .ok (.aload_n 0, 1) := by decide +kernel
theorem d_X5_wrong_8 : decode cX5_wrong 8 = .ok (.iload_n 1, 1) := by decide +kernel
theorem d_X5_wrong_9 : decode cX5_wrong 9 = .ok (.putfield 98, 3) := by decide +kernel
theorem d_X5_wrong_12 : decode cX5_wrong 12 = .ok (.aload_n 0, 1) := by decide +kernel
theorem d_X5_wrong_13 : decode cX5_wrong 13 = .ok (.iload_n 2, 1) := by decide +kernel
theorem d_X5_wrong_14 : decode cX5_wrong 14 = .ok (.putfield 101, 3) := by decide +kernel
theorem d_X5_wrong_17 : decode cX5_wrong 17 = .ok (.return_, 1) := by decide +kernel
abbrev rm_X5_wrong : Room := { frames := 0, cells := 0, slots := 0, locals := 0 }
set_option maxHeartbeats 4000000 in
set_option maxRecDepth 20000 in
theorem w_X5_wrong (l : Launch) (b : Wy) {v1 : Int32} {v2 : Int32} {σ : Sg} {K : Sg → Prop}  (h : m_X5_wrong v1 v2 σ K) : Ct l (wM b) yX5_wrong cX5_wrong 3 none rm_X5_wrong [.ref (wB (wM b) + 347), .int v1, .int v2] σ (PV K) := by
  unfold m_X5_wrong at h
  refine Ct.of (own := RX5) (by decide +kernel) rfl (Nat.le_of_ble_eq_true rfl) (fun x hx o => ?_)
  subst hx
  show J x (wM b) (FinC x (wM b) (PV K) (0, 0)) 0 [(0, .ref (wB (wM b) + 347)), (1, .int v1), (2, .int v2)] [] (0, 0) σ
  refine J_aload_n o 0 d_X5_wrong_0 rfl ?_
  refine J_getI o fl_RX5_98 rfl (Nat.le_of_ble_eq_true rfl) (Nat.le_of_ble_eq_true rfl) rfl d_X5_wrong_1 ?_
  refine J_if_ne o 17 d_X5_wrong_4 rfl (fun c4 => ?_) (fun c4 => ?_)
  · replace h := h.1 c4
    exact J_vret o d_X5_wrong_17 ⟨rfl, h⟩
  · replace h := h.2 c4
    refine J_aload_n o 0 d_X5_wrong_7 rfl ?_
    refine J_iload_n o 1 d_X5_wrong_8 rfl ?_
    refine J_put o fl_RX5_98 la_5 rfl (Nat.le_of_ble_eq_true rfl) (Nat.le_of_ble_eq_true rfl) rfl rfl rfl rfl d_X5_wrong_9 ?_
    refine J_nS (fun s9 es9 => ?_)
    replace h := h s9 es9
    refine J_aload_n o 0 d_X5_wrong_12 rfl ?_
    refine J_iload_n o 2 d_X5_wrong_13 rfl ?_
    refine J_put o fl_RX5_101 la_5 rfl (Nat.le_of_ble_eq_true rfl) (Nat.le_of_ble_eq_true rfl) rfl rfl rfl rfl d_X5_wrong_14 ?_
    refine J_nS (fun s14 es14 => ?_)
    replace h := h s14 es14
    exact J_vret o d_X5_wrong_17 ⟨rfl, h⟩
theorem d_X5_isDigit_0 : decode cX5_isDigit 0 = .ok (.iload_n 0, 1) := by decide +kernel
theorem d_X5_isDigit_1 : decode cX5_isDigit 1 = .ok (.bipush 48, 2) := by decide +kernel
theorem d_X5_isDigit_3 : decode cX5_isDigit 3 = .ok (.if_icmp .lt 13, 3) := by decide +kernel
theorem d_X5_isDigit_6 : decode cX5_isDigit 6 = .ok (.iload_n 0, 1) := by decide +kernel
theorem d_X5_isDigit_7 : decode cX5_isDigit 7 = .ok (.bipush 57, 2) := by decide +kernel
theorem d_X5_isDigit_9 : decode cX5_isDigit 9 = .ok (.if_icmp .gt 7, 3) := by decide +kernel
theorem d_X5_isDigit_12 : decode cX5_isDigit 12 = .ok (.iconst 1, 1) := by decide +kernel
theorem d_X5_isDigit_13 : decode cX5_isDigit 13 = .ok (.goto 4, 3) := by decide +kernel
theorem d_X5_isDigit_16 : decode cX5_isDigit 16 = .ok (.iconst 0, 1) := by decide +kernel
theorem d_X5_isDigit_17 : decode cX5_isDigit 17 = .ok (.ireturn, 1) := by decide +kernel
abbrev rm_X5_isDigit : Room := { frames := 0, cells := 0, slots := 0, locals := 0 }
set_option maxHeartbeats 4000000 in
set_option maxRecDepth 20000 in
theorem w_X5_isDigit (l : Launch) (b : Wy) {v0 : Int32} {σ : Sg} {K : Int32 → Sg → Prop}  (h : m_X5_isDigit v0 σ K) : Ct l (wM b) yX5_isDigit cX5_isDigit 1 (some .boolean) rm_X5_isDigit [.int v0] σ (PZ K) := by
  unfold m_X5_isDigit at h
  refine Ct.of (own := RX5) (by decide +kernel) rfl (Nat.le_of_ble_eq_true rfl) (fun x hx o => ?_)
  subst hx
  show J x (wM b) (FinC x (wM b) (PZ K) (0, 0)) 0 [(0, .int v0)] [] (0, 0) σ
  refine J_iload_n o 0 d_X5_isDigit_0 rfl ?_
  refine J_bipush (v := 48) o d_X5_isDigit_1 bipush_48 ?_
  refine J_icmp_lt o 16 d_X5_isDigit_3 rfl (fun c3 => ?_) (fun c3 => ?_)
  · replace h := h.1 c3
    refine J_iconst (v := 0) o d_X5_isDigit_16 iconst_0 ?_
    exact J_zret o (Or.inl rfl) d_X5_isDigit_17 ⟨_, rfl, (Or.inl rfl), h⟩
  · replace h := h.2 c3
    refine J_iload_n o 0 d_X5_isDigit_6 rfl ?_
    refine J_bipush (v := 57) o d_X5_isDigit_7 bipush_57 ?_
    refine J_icmp_gt o 16 d_X5_isDigit_9 rfl (fun c9 => ?_) (fun c9 => ?_)
    · replace h := h.1 c9
      refine J_iconst (v := 0) o d_X5_isDigit_16 iconst_0 ?_
      exact J_zret o (Or.inl rfl) d_X5_isDigit_17 ⟨_, rfl, (Or.inl rfl), h⟩
    · replace h := h.2 c9
      refine J_iconst (v := 1) o d_X5_isDigit_12 iconst_1 ?_
      refine J_goto o 17 d_X5_isDigit_13 rfl ?_
      exact J_zret o (Or.inr rfl) d_X5_isDigit_17 ⟨_, rfl, (Or.inr rfl), h⟩
theorem d_X5_less_0 : decode cX5_less 0 = .ok (.iload_n 0, 1) := by decide +kernel
theorem d_X5_less_1 : decode cX5_less 1 = .ok (.iload_n 1, 1) := by decide +kernel
theorem d_X5_less_2 : decode cX5_less 2 = .ok (.if_icmp .ge 7, 3) := by decide +kernel
theorem d_X5_less_5 : decode cX5_less 5 = .ok (.iload_n 0, 1) := by decide +kernel
theorem d_X5_less_6 : decode cX5_less 6 = .ok (.goto 4, 3) := by decide +kernel
theorem d_X5_less_9 : decode cX5_less 9 = .ok (.iload_n 1, 1) := by decide +kernel
theorem d_X5_less_10 : decode cX5_less 10 = .ok (.ireturn, 1) := by decide +kernel
abbrev rm_X5_less : Room := { frames := 0, cells := 0, slots := 0, locals := 0 }
set_option maxHeartbeats 4000000 in
set_option maxRecDepth 20000 in
theorem w_X5_less (l : Launch) (b : Wy) {v0 : Int32} {v1 : Int32} {σ : Sg} {K : Int32 → Sg → Prop}  (h : m_X5_less v0 v1 σ K) : Ct l (wM b) yX5_less cX5_less 2 (some .int) rm_X5_less [.int v0, .int v1] σ (PI K) := by
  unfold m_X5_less at h
  refine Ct.of (own := RX5) (by decide +kernel) rfl (Nat.le_of_ble_eq_true rfl) (fun x hx o => ?_)
  subst hx
  show J x (wM b) (FinC x (wM b) (PI K) (0, 0)) 0 [(0, .int v0), (1, .int v1)] [] (0, 0) σ
  refine J_iload_n o 0 d_X5_less_0 rfl ?_
  refine J_iload_n o 1 d_X5_less_1 rfl ?_
  refine J_icmp_ge o 9 d_X5_less_2 rfl (fun c2 => ?_) (fun c2 => ?_)
  · replace h := h.1 c2
    refine J_iload_n o 1 d_X5_less_9 rfl ?_
    exact J_iret o d_X5_less_10 ⟨_, rfl, h⟩
  · replace h := h.2 c2
    refine J_iload_n o 0 d_X5_less_5 rfl ?_
    refine J_goto o 10 d_X5_less_6 rfl ?_
    exact J_iret o d_X5_less_10 ⟨_, rfl, h⟩
theorem d_X5_number_0 : decode cX5_number 0 = .ok (.aload_n 0, 1) := by decide +kernel
theorem d_X5_number_1 : decode cX5_number 1 = .ok (.invokevirtual 121, 3) := by decide +kernel
theorem d_X5_number_4 : decode cX5_number 4 = .ok (.ifCond .ne 5, 3) := by decide +kernel
theorem d_X5_number_7 : decode cX5_number 7 = .ok (.iconst 0, 1) := by decide +kernel
theorem d_X5_number_8 : decode cX5_number 8 = .ok (.ireturn, 1) := by decide +kernel
theorem d_X5_number_9 : decode cX5_number 9 = .ok (.aload_n 0, 1) := by decide +kernel
theorem d_X5_number_10 : decode cX5_number 10 = .ok (.invokevirtual 104, 3) := by decide +kernel
theorem d_X5_number_13 : decode cX5_number 13 = .ok (.invokestatic 129, 3) := by decide +kernel
theorem d_X5_number_16 : decode cX5_number 16 = .ok (.ifCond .ne 14, 3) := by decide +kernel
theorem d_X5_number_19 : decode cX5_number 19 = .ok (.aload_n 0, 1) := by decide +kernel
theorem d_X5_number_20 : decode cX5_number 20 = .ok (.iconst 1, 1) := by decide +kernel
theorem d_X5_number_21 : decode cX5_number 21 = .ok (.aload_n 0, 1) := by decide +kernel
theorem d_X5_number_22 : decode cX5_number 22 = .ok (.getfield 92, 3) := by decide +kernel
theorem d_X5_number_25 : decode cX5_number 25 = .ok (.invokevirtual 132, 3) := by decide +kernel
theorem d_X5_number_28 : decode cX5_number 28 = .ok (.iconst 0, 1) := by decide +kernel
theorem d_X5_number_29 : decode cX5_number 29 = .ok (.ireturn, 1) := by decide +kernel
theorem d_X5_number_30 : decode cX5_number 30 = .ok (.aload_n 0, 1) := by decide +kernel
theorem d_X5_number_31 : decode cX5_number 31 = .ok (.getfield 92, 3) := by decide +kernel
theorem d_X5_number_34 : decode cX5_number 34 = .ok (.istore_n 3, 1) := by decide +kernel
theorem d_X5_number_35 : decode cX5_number 35 = .ok (.iconst 0, 1) := by decide +kernel
theorem d_X5_number_36 : decode cX5_number 36 = .ok (.istore 4, 2) := by decide +kernel
theorem d_X5_number_38 : decode cX5_number 38 = .ok (.aload_n 0, 1) := by decide +kernel
theorem d_X5_number_39 : decode cX5_number 39 = .ok (.aload_n 0, 1) := by decide +kernel
theorem d_X5_number_40 : decode cX5_number 40 = .ok (.getfield 92, 3) := by decide +kernel
theorem d_X5_number_43 : decode cX5_number 43 = .ok (.invokevirtual 95, 3) := by decide +kernel
theorem d_X5_number_46 : decode cX5_number 46 = .ok (.invokestatic 129, 3) := by decide +kernel
theorem d_X5_number_49 : decode cX5_number 49 = .ok (.ifCond .eq 40, 3) := by decide +kernel
theorem d_X5_number_52 : decode cX5_number 52 = .ok (.ldc 136, 2) := by decide +kernel
theorem d_X5_number_54 : decode cX5_number 54 = .ok (.bipush 10, 2) := by decide +kernel
theorem d_X5_number_56 : decode cX5_number 56 = .ok (.iload 4, 2) := by decide +kernel
theorem d_X5_number_58 : decode cX5_number 58 = .ok (.imul, 1) := by decide +kernel
theorem d_X5_number_59 : decode cX5_number 59 = .ok (.aload_n 0, 1) := by decide +kernel
theorem d_X5_number_60 : decode cX5_number 60 = .ok (.aload_n 0, 1) := by decide +kernel
theorem d_X5_number_61 : decode cX5_number 61 = .ok (.getfield 92, 3) := by decide +kernel
theorem d_X5_number_64 : decode cX5_number 64 = .ok (.invokevirtual 95, 3) := by decide +kernel
theorem d_X5_number_67 : decode cX5_number 67 = .ok (.iadd, 1) := by decide +kernel
theorem d_X5_number_68 : decode cX5_number 68 = .ok (.bipush 48, 2) := by decide +kernel
theorem d_X5_number_70 : decode cX5_number 70 = .ok (.isub, 1) := by decide +kernel
theorem d_X5_number_71 : decode cX5_number 71 = .ok (.invokestatic 86, 3) := by decide +kernel
theorem d_X5_number_74 : decode cX5_number 74 = .ok (.istore 4, 2) := by decide +kernel
theorem d_X5_number_76 : decode cX5_number 76 = .ok (.aload_n 0, 1) := by decide +kernel
theorem d_X5_number_77 : decode cX5_number 77 = .ok (.dup, 1) := by decide +kernel
theorem d_X5_number_78 : decode cX5_number 78 = .ok (.getfield 92, 3) := by decide +kernel
theorem d_X5_number_81 : decode cX5_number 81 = .ok (.iconst 1, 1) := by decide +kernel
theorem d_X5_number_82 : decode cX5_number 82 = .ok (.iadd, 1) := by decide +kernel
theorem d_X5_number_83 : decode cX5_number 83 = .ok (.putfield 92, 3) := by decide +kernel
theorem d_X5_number_86 : decode cX5_number 86 = .ok (.goto (-48), 3) := by decide +kernel
theorem d_X5_number_89 : decode cX5_number 89 = .ok (.iload 4, 2) := by decide +kernel
theorem d_X5_number_91 : decode cX5_number 91 = .ok (.iload_n 1, 1) := by decide +kernel
theorem d_X5_number_92 : decode cX5_number 92 = .ok (.iload_n 2, 1) := by decide +kernel
theorem d_X5_number_93 : decode cX5_number 93 = .ok (.invokestatic 56, 3) := by decide +kernel
theorem d_X5_number_96 : decode cX5_number 96 = .ok (.ifCond .ne 9, 3) := by decide +kernel
theorem d_X5_number_99 : decode cX5_number 99 = .ok (.aload_n 0, 1) := by decide +kernel
theorem d_X5_number_100 : decode cX5_number 100 = .ok (.iconst 2, 1) := by decide +kernel
theorem d_X5_number_101 : decode cX5_number 101 = .ok (.iload_n 3, 1) := by decide +kernel
theorem d_X5_number_102 : decode cX5_number 102 = .ok (.invokevirtual 132, 3) := by decide +kernel
theorem d_X5_number_105 : decode cX5_number 105 = .ok (.iload 4, 2) := by decide +kernel
theorem d_X5_number_107 : decode cX5_number 107 = .ok (.ireturn, 1) := by decide +kernel
abbrev rm_X5_number : Room := { frames := 2, cells := 0, slots := 0, locals := 41 }
set_option maxHeartbeats 4000000 in
set_option maxRecDepth 20000 in
theorem c_X5_number_38 {x : Cx} {b : Wy} (o : Ok x (wM b) cX5_number 5 RX5 (some .int) rm_X5_number) {v1 : Int32} {v2 : Int32} {K : Int32 → Sg → Prop}   : ∀ (n : Nat) (l3 : Int32) (l4 : Int32) (σ : Sg), m_X5_number_l38 v1 v2 K  n l3 l4 σ → J x (wM b) (FinC x (wM b) (PI K) (0, 0)) 38 [(0, .ref (wB (wM b) + 347)), (1, .int v1), (2, .int v2), (3, .int l3), (4, .int l4)] [] (0, 0) σ := by
  intro n
  induction n with
  | zero =>
    intro l3 l4 σ  h
    exact False.elim h
  | succ n ih =>
    intro l3 l4 σ  h
    unfold m_X5_number_l38 at h
    refine J_aload_n o 0 d_X5_number_38 rfl ?_
    refine J_aload_n o 0 d_X5_number_39 rfl ?_
    refine J_getI o fl_RX5_92 rfl (Nat.le_of_ble_eq_true rfl) (Nat.le_of_ble_eq_true rfl) rfl d_X5_number_40 ?_
    refine J_callV (k := 347) (c := 5) o [.int (σ 347 4)] rfl (by decide) (Nat.le_of_ble_eq_true rfl) (Nat.le_of_ble_eq_true rfl) mth_X5_byteAt iv_X5_byteAt ml_RX5_95 ⟨Nat.le_of_ble_eq_true rfl, Nat.le_of_ble_eq_true rfl⟩ rfl rfl (Nat.le_of_ble_eq_true rfl) ⟨Nat.le_refl _, Nat.le_refl _⟩ d_X5_number_43 (w_X5_byteAt (xL x) b  h) (aI (fun r43 s43 h => ?_))
    refine J_callS o [.int r43] mth_X5_isDigit st_X5_isDigit ml_RX5_129 ⟨Nat.le_of_ble_eq_true rfl, Nat.le_of_ble_eq_true rfl⟩ rfl rfl (Nat.le_of_ble_eq_true rfl) ⟨Nat.le_refl _, Nat.le_refl _⟩ d_X5_number_46 (w_X5_isDigit (xL x) b  h) (aZ (fun r46 s46 hzr46 h => ?_))
    refine J_if_eq o 89 d_X5_number_49 rfl (fun c49 => ?_) (fun c49 => ?_)
    · replace h := h.1 c49
      refine J_iload o 4 d_X5_number_89 rfl ?_
      refine J_iload_n o 1 d_X5_number_91 rfl ?_
      refine J_iload_n o 2 d_X5_number_92 rfl ?_
      refine J_callS o [.int l4, .int v1, .int v2] mth_X5_in st_X5_in ml_RX5_56 ⟨Nat.le_of_ble_eq_true rfl, Nat.le_of_ble_eq_true rfl⟩ rfl rfl (Nat.le_of_ble_eq_true rfl) ⟨Nat.le_refl _, Nat.le_refl _⟩ d_X5_number_93 (w_X5_in (xL x) b  h) (aZ (fun r93 s93 hzr93 h => ?_))
      refine J_if_ne o 105 d_X5_number_96 rfl (fun c96 => ?_) (fun c96 => ?_)
      · replace h := h.1 c96
        refine J_iload o 4 d_X5_number_105 rfl ?_
        exact J_iret o d_X5_number_107 ⟨_, rfl, h⟩
      · replace h := h.2 c96
        refine J_aload_n o 0 d_X5_number_99 rfl ?_
        refine J_iconst (v := 2) o d_X5_number_100 iconst_2 ?_
        refine J_iload_n o 3 d_X5_number_101 rfl ?_
        refine J_callV (k := 347) (c := 5) o [.int 2, .int l3] rfl (by decide) (Nat.le_of_ble_eq_true rfl) (Nat.le_of_ble_eq_true rfl) mth_X5_wrong iv_X5_wrong ml_RX5_132 ⟨Nat.le_of_ble_eq_true rfl, Nat.le_of_ble_eq_true rfl⟩ rfl rfl (Nat.le_of_ble_eq_true rfl) ⟨Nat.le_refl _, Nat.le_refl _⟩ d_X5_number_102 (w_X5_wrong (xL x) b  h) (aV (fun s102 h => ?_))
        refine J_iload o 4 d_X5_number_105 rfl ?_
        exact J_iret o d_X5_number_107 ⟨_, rfl, h⟩
    · replace h := h.2 c49
      refine J_ldc o d_X5_number_52 ci_RX5_136 ?_
      refine J_bipush (v := 10) o d_X5_number_54 bipush_10 ?_
      refine J_iload o 4 d_X5_number_56 rfl ?_
      refine J_imul o d_X5_number_58 ?_
      refine J_aload_n o 0 d_X5_number_59 rfl ?_
      refine J_aload_n o 0 d_X5_number_60 rfl ?_
      refine J_getI o fl_RX5_92 rfl (Nat.le_of_ble_eq_true rfl) (Nat.le_of_ble_eq_true rfl) rfl d_X5_number_61 ?_
      refine J_callV (k := 347) (c := 5) o [.int (s46 347 4)] rfl (by decide) (Nat.le_of_ble_eq_true rfl) (Nat.le_of_ble_eq_true rfl) mth_X5_byteAt iv_X5_byteAt ml_RX5_95 ⟨Nat.le_of_ble_eq_true rfl, Nat.le_of_ble_eq_true rfl⟩ rfl rfl (Nat.le_of_ble_eq_true rfl) ⟨Nat.le_refl _, Nat.le_refl _⟩ d_X5_number_64 (w_X5_byteAt (xL x) b  h) (aI (fun r64 s64 h => ?_))
      refine J_iadd o d_X5_number_67 ?_
      refine J_bipush (v := 48) o d_X5_number_68 bipush_48 ?_
      refine J_isub o d_X5_number_70 ?_
      refine J_callS o [.int 100000, .int (((10 * l4) + r64) - 48)] mth_X5_less st_X5_less ml_RX5_86 ⟨Nat.le_of_ble_eq_true rfl, Nat.le_of_ble_eq_true rfl⟩ rfl rfl (Nat.le_of_ble_eq_true rfl) ⟨Nat.le_refl _, Nat.le_refl _⟩ d_X5_number_71 (w_X5_less (xL x) b  h) (aI (fun r71 s71 h => ?_))
      refine J_istore (lv' := [(4, .int r71), (0, .ref (wB (wM b) + 347)), (1, .int v1), (2, .int v2), (3, .int l3)]) o d_X5_number_74 (by decide) rfl ?_
      refine J_aload_n o 1 d_X5_number_76 rfl ?_
      refine J_dup o d_X5_number_77 rfl ?_
      refine J_getI o fl_RX5_92 rfl (Nat.le_of_ble_eq_true rfl) (Nat.le_of_ble_eq_true rfl) rfl d_X5_number_78 ?_
      refine J_iconst (v := 1) o d_X5_number_81 iconst_1 ?_
      refine J_iadd o d_X5_number_82 ?_
      refine J_put o fl_RX5_92 la_5 rfl (Nat.le_of_ble_eq_true rfl) (Nat.le_of_ble_eq_true rfl) rfl rfl rfl rfl d_X5_number_83 ?_
      refine J_nS (fun s83 es83 => ?_)
      replace h := h s83 es83
      refine J_goto o 38 d_X5_number_86 rfl ?_
      refine J_sub [1, 2, 3, 4, 0] rfl ?_
      exact ih l3 r71 s83  h
set_option maxHeartbeats 4000000 in
set_option maxRecDepth 20000 in
theorem w_X5_number (l : Launch) (b : Wy) {v1 : Int32} {v2 : Int32} {σ : Sg} {K : Int32 → Sg → Prop}  (h : m_X5_number v1 v2 σ K) : Ct l (wM b) yX5_number cX5_number 5 (some .int) rm_X5_number [.ref (wB (wM b) + 347), .int v1, .int v2] σ (PI K) := by
  unfold m_X5_number at h
  refine Ct.of (own := RX5) (by decide +kernel) rfl (Nat.le_of_ble_eq_true rfl) (fun x hx o => ?_)
  subst hx
  show J x (wM b) (FinC x (wM b) (PI K) (0, 0)) 0 [(0, .ref (wB (wM b) + 347)), (1, .int v1), (2, .int v2)] [] (0, 0) σ
  refine J_aload_n o 0 d_X5_number_0 rfl ?_
  refine J_callV (k := 347) (c := 5) o [] rfl (by decide) (Nat.le_of_ble_eq_true rfl) (Nat.le_of_ble_eq_true rfl) mth_X5_fine iv_X5_fine ml_RX5_121 ⟨Nat.le_of_ble_eq_true rfl, Nat.le_of_ble_eq_true rfl⟩ rfl rfl (Nat.le_of_ble_eq_true rfl) ⟨Nat.le_refl _, Nat.le_refl _⟩ d_X5_number_1 (w_X5_fine (xL x) b  h) (aZ (fun r1 s1 hzr1 h => ?_))
  refine J_if_ne o 9 d_X5_number_4 rfl (fun c4 => ?_) (fun c4 => ?_)
  · replace h := h.1 c4
    refine J_aload_n o 0 d_X5_number_9 rfl ?_
    refine J_callV (k := 347) (c := 5) o [] rfl (by decide) (Nat.le_of_ble_eq_true rfl) (Nat.le_of_ble_eq_true rfl) mth_X5_here iv_X5_here ml_RX5_104 ⟨Nat.le_of_ble_eq_true rfl, Nat.le_of_ble_eq_true rfl⟩ rfl rfl (Nat.le_of_ble_eq_true rfl) ⟨Nat.le_refl _, Nat.le_refl _⟩ d_X5_number_10 (w_X5_here (xL x) b  h) (aI (fun r10 s10 h => ?_))
    refine J_callS o [.int r10] mth_X5_isDigit st_X5_isDigit ml_RX5_129 ⟨Nat.le_of_ble_eq_true rfl, Nat.le_of_ble_eq_true rfl⟩ rfl rfl (Nat.le_of_ble_eq_true rfl) ⟨Nat.le_refl _, Nat.le_refl _⟩ d_X5_number_13 (w_X5_isDigit (xL x) b  h) (aZ (fun r13 s13 hzr13 h => ?_))
    refine J_if_ne o 30 d_X5_number_16 rfl (fun c16 => ?_) (fun c16 => ?_)
    · replace h := h.1 c16
      refine J_aload_n o 0 d_X5_number_30 rfl ?_
      refine J_getI o fl_RX5_92 rfl (Nat.le_of_ble_eq_true rfl) (Nat.le_of_ble_eq_true rfl) rfl d_X5_number_31 ?_
      refine J_top (fun l3_34 el3_34 => ?_)
      replace h := h l3_34 el3_34
      refine J_istore_n (lv' := [(3, .int l3_34), (0, .ref (wB (wM b) + 347)), (1, .int v1), (2, .int v2)]) o d_X5_number_34 (by decide) rfl ?_
      refine J_iconst (v := 0) o d_X5_number_35 iconst_0 ?_
      refine J_istore (lv' := [(4, .int 0), (3, .int l3_34), (0, .ref (wB (wM b) + 347)), (1, .int v1), (2, .int v2)]) o d_X5_number_36 (by decide) rfl ?_
      refine J_sub [2, 3, 4, 1, 0] rfl ?_
      obtain ⟨n9, h⟩ := h
      exact c_X5_number_38 o   n9 l3_34 0 s13  h
    · replace h := h.2 c16
      refine J_aload_n o 0 d_X5_number_19 rfl ?_
      refine J_iconst (v := 1) o d_X5_number_20 iconst_1 ?_
      refine J_aload_n o 0 d_X5_number_21 rfl ?_
      refine J_getI o fl_RX5_92 rfl (Nat.le_of_ble_eq_true rfl) (Nat.le_of_ble_eq_true rfl) rfl d_X5_number_22 ?_
      refine J_callV (k := 347) (c := 5) o [.int 1, .int (s13 347 4)] rfl (by decide) (Nat.le_of_ble_eq_true rfl) (Nat.le_of_ble_eq_true rfl) mth_X5_wrong iv_X5_wrong ml_RX5_132 ⟨Nat.le_of_ble_eq_true rfl, Nat.le_of_ble_eq_true rfl⟩ rfl rfl (Nat.le_of_ble_eq_true rfl) ⟨Nat.le_refl _, Nat.le_refl _⟩ d_X5_number_25 (w_X5_wrong (xL x) b  h) (aV (fun s25 h => ?_))
      refine J_iconst (v := 0) o d_X5_number_28 iconst_0 ?_
      exact J_iret o d_X5_number_29 ⟨_, rfl, h⟩
  · replace h := h.2 c4
    refine J_iconst (v := 0) o d_X5_number_7 iconst_0 ?_
    exact J_iret o d_X5_number_8 ⟨_, rfl, h⟩
theorem d_X5_must_0 : decode cX5_must 0 = .ok (.aload_n 0, 1) := by decide +kernel
theorem d_X5_must_1 : decode cX5_must 1 = .ok (.invokevirtual 121, 3) := by decide +kernel
theorem d_X5_must_4 : decode cX5_must 4 = .ok (.ifCond .ne 4, 3) := by decide +kernel
theorem d_X5_must_7 : decode cX5_must 7 = .ok (.return_, 1) := by decide +kernel
theorem d_X5_must_8 : decode cX5_must 8 = .ok (.aload_n 0, 1) := by decide +kernel
theorem d_X5_must_9 : decode cX5_must 9 = .ok (.invokevirtual 104, 3) := by decide +kernel
theorem d_X5_must_12 : decode cX5_must 12 = .ok (.iload_n 1, 1) := by decide +kernel
theorem d_X5_must_13 : decode cX5_must 13 = .ok (.if_icmp .ne 16, 3) := by decide +kernel
theorem d_X5_must_16 : decode cX5_must 16 = .ok (.aload_n 0, 1) := by decide +kernel
theorem d_X5_must_17 : decode cX5_must 17 = .ok (.dup, 1) := by decide +kernel
theorem d_X5_must_18 : decode cX5_must 18 = .ok (.getfield 92, 3) := by decide +kernel
theorem d_X5_must_21 : decode cX5_must 21 = .ok (.iconst 1, 1) := by decide +kernel
theorem d_X5_must_22 : decode cX5_must 22 = .ok (.iadd, 1) := by decide +kernel
theorem d_X5_must_23 : decode cX5_must 23 = .ok (.putfield 92, 3) := by decide +kernel
theorem d_X5_must_26 : decode cX5_must 26 = .ok (.goto 12, 3) := by decide +kernel
theorem d_X5_must_29 : decode cX5_must 29 = .ok (.aload_n 0, 1) := by decide +kernel
theorem d_X5_must_30 : decode cX5_must 30 = .ok (.iconst 1, 1) := by decide +kernel
theorem d_X5_must_31 : decode cX5_must 31 = .ok (.aload_n 0, 1) := by decide +kernel
theorem d_X5_must_32 : decode cX5_must 32 = .ok (.getfield 92, 3) := by decide +kernel
theorem d_X5_must_35 : decode cX5_must 35 = .ok (.invokevirtual 132, 3) := by decide +kernel
theorem d_X5_must_38 : decode cX5_must 38 = .ok (.return_, 1) := by decide +kernel
abbrev rm_X5_must : Room := { frames := 2, cells := 0, slots := 0, locals := 41 }
set_option maxHeartbeats 4000000 in
set_option maxRecDepth 20000 in
theorem w_X5_must (l : Launch) (b : Wy) {v1 : Int32} {σ : Sg} {K : Sg → Prop}  (h : m_X5_must v1 σ K) : Ct l (wM b) yX5_must cX5_must 2 none rm_X5_must [.ref (wB (wM b) + 347), .int v1] σ (PV K) := by
  unfold m_X5_must at h
  refine Ct.of (own := RX5) (by decide +kernel) rfl (Nat.le_of_ble_eq_true rfl) (fun x hx o => ?_)
  subst hx
  show J x (wM b) (FinC x (wM b) (PV K) (0, 0)) 0 [(0, .ref (wB (wM b) + 347)), (1, .int v1)] [] (0, 0) σ
  refine J_aload_n o 0 d_X5_must_0 rfl ?_
  refine J_callV (k := 347) (c := 5) o [] rfl (by decide) (Nat.le_of_ble_eq_true rfl) (Nat.le_of_ble_eq_true rfl) mth_X5_fine iv_X5_fine ml_RX5_121 ⟨Nat.le_of_ble_eq_true rfl, Nat.le_of_ble_eq_true rfl⟩ rfl rfl (Nat.le_of_ble_eq_true rfl) ⟨Nat.le_refl _, Nat.le_refl _⟩ d_X5_must_1 (w_X5_fine (xL x) b  h) (aZ (fun r1 s1 hzr1 h => ?_))
  refine J_if_ne o 8 d_X5_must_4 rfl (fun c4 => ?_) (fun c4 => ?_)
  · replace h := h.1 c4
    refine J_aload_n o 0 d_X5_must_8 rfl ?_
    refine J_callV (k := 347) (c := 5) o [] rfl (by decide) (Nat.le_of_ble_eq_true rfl) (Nat.le_of_ble_eq_true rfl) mth_X5_here iv_X5_here ml_RX5_104 ⟨Nat.le_of_ble_eq_true rfl, Nat.le_of_ble_eq_true rfl⟩ rfl rfl (Nat.le_of_ble_eq_true rfl) ⟨Nat.le_refl _, Nat.le_refl _⟩ d_X5_must_9 (w_X5_here (xL x) b  h) (aI (fun r9 s9 h => ?_))
    refine J_iload_n o 1 d_X5_must_12 rfl ?_
    refine J_icmp_ne o 29 d_X5_must_13 rfl (fun c13 => ?_) (fun c13 => ?_)
    · replace h := h.1 c13
      refine J_aload_n o 0 d_X5_must_29 rfl ?_
      refine J_iconst (v := 1) o d_X5_must_30 iconst_1 ?_
      refine J_aload_n o 0 d_X5_must_31 rfl ?_
      refine J_getI o fl_RX5_92 rfl (Nat.le_of_ble_eq_true rfl) (Nat.le_of_ble_eq_true rfl) rfl d_X5_must_32 ?_
      refine J_callV (k := 347) (c := 5) o [.int 1, .int (s9 347 4)] rfl (by decide) (Nat.le_of_ble_eq_true rfl) (Nat.le_of_ble_eq_true rfl) mth_X5_wrong iv_X5_wrong ml_RX5_132 ⟨Nat.le_of_ble_eq_true rfl, Nat.le_of_ble_eq_true rfl⟩ rfl rfl (Nat.le_of_ble_eq_true rfl) ⟨Nat.le_refl _, Nat.le_refl _⟩ d_X5_must_35 (w_X5_wrong (xL x) b  h) (aV (fun s35 h => ?_))
      exact J_vret o d_X5_must_38 ⟨rfl, h⟩
    · replace h := h.2 c13
      refine J_aload_n o 0 d_X5_must_16 rfl ?_
      refine J_dup o d_X5_must_17 rfl ?_
      refine J_getI o fl_RX5_92 rfl (Nat.le_of_ble_eq_true rfl) (Nat.le_of_ble_eq_true rfl) rfl d_X5_must_18 ?_
      refine J_iconst (v := 1) o d_X5_must_21 iconst_1 ?_
      refine J_iadd o d_X5_must_22 ?_
      refine J_put o fl_RX5_92 la_5 rfl (Nat.le_of_ble_eq_true rfl) (Nat.le_of_ble_eq_true rfl) rfl rfl rfl rfl d_X5_must_23 ?_
      refine J_nS (fun s23 es23 => ?_)
      replace h := h s23 es23
      refine J_goto o 38 d_X5_must_26 rfl ?_
      exact J_vret o d_X5_must_38 ⟨rfl, h⟩
  · replace h := h.2 c4
    exact J_vret o d_X5_must_7 ⟨rfl, h⟩
theorem d_X5_cellAt_0 : decode cX5_cellAt 0 = .ok (.bipush 20, 2) := by decide +kernel
theorem d_X5_cellAt_2 : decode cX5_cellAt 2 = .ok (.iload_n 1, 1) := by decide +kernel
theorem d_X5_cellAt_3 : decode cX5_cellAt 3 = .ok (.imul, 1) := by decide +kernel
theorem d_X5_cellAt_4 : decode cX5_cellAt 4 = .ok (.iload_n 0, 1) := by decide +kernel
theorem d_X5_cellAt_5 : decode cX5_cellAt 5 = .ok (.iadd, 1) := by decide +kernel
theorem d_X5_cellAt_6 : decode cX5_cellAt 6 = .ok (.ireturn, 1) := by decide +kernel
abbrev rm_X5_cellAt : Room := { frames := 0, cells := 0, slots := 0, locals := 0 }
set_option maxHeartbeats 4000000 in
set_option maxRecDepth 20000 in
theorem w_X5_cellAt (l : Launch) (b : Wy) {v0 : Int32} {v1 : Int32} {σ : Sg} {K : Int32 → Sg → Prop}  (h : m_X5_cellAt v0 v1 σ K) : Ct l (wM b) yX5_cellAt cX5_cellAt 2 (some .int) rm_X5_cellAt [.int v0, .int v1] σ (PI K) := by
  unfold m_X5_cellAt at h
  refine Ct.of (own := RX5) (by decide +kernel) rfl (Nat.le_of_ble_eq_true rfl) (fun x hx o => ?_)
  subst hx
  show J x (wM b) (FinC x (wM b) (PI K) (0, 0)) 0 [(0, .int v0), (1, .int v1)] [] (0, 0) σ
  refine J_bipush (v := 20) o d_X5_cellAt_0 bipush_20 ?_
  refine J_iload_n o 1 d_X5_cellAt_2 rfl ?_
  refine J_imul o d_X5_cellAt_3 ?_
  refine J_iload_n o 0 d_X5_cellAt_4 rfl ?_
  refine J_iadd o d_X5_cellAt_5 ?_
  exact J_iret o d_X5_cellAt_6 ⟨_, rfl, h⟩
theorem d_X5_readsCell_0 : decode cX5_readsCell 0 = .ok (.aload_n 0, 1) := by decide +kernel
theorem d_X5_readsCell_1 : decode cX5_readsCell 1 = .ok (.invokevirtual 104, 3) := by decide +kernel
theorem d_X5_readsCell_4 : decode cX5_readsCell 4 = .ok (.pop, 1) := by decide +kernel
theorem d_X5_readsCell_5 : decode cX5_readsCell 5 = .ok (.aload_n 0, 1) := by decide +kernel
theorem d_X5_readsCell_6 : decode cX5_readsCell 6 = .ok (.getfield 92, 3) := by decide +kernel
theorem d_X5_readsCell_9 : decode cX5_readsCell 9 = .ok (.istore_n 2, 1) := by decide +kernel
theorem d_X5_readsCell_10 : decode cX5_readsCell 10 = .ok (.aload_n 0, 1) := by decide +kernel
theorem d_X5_readsCell_11 : decode cX5_readsCell 11 = .ok (.iconst 0, 1) := by decide +kernel
theorem d_X5_readsCell_12 : decode cX5_readsCell 12 = .ok (.aload_n 0, 1) := by decide +kernel
theorem d_X5_readsCell_13 : decode cX5_readsCell 13 = .ok (.getfield 23, 3) := by decide +kernel
theorem d_X5_readsCell_16 : decode cX5_readsCell 16 = .ok (.iconst 0, 1) := by decide +kernel
theorem d_X5_readsCell_17 : decode cX5_readsCell 17 = .ok (.iaload, 1) := by decide +kernel
theorem d_X5_readsCell_18 : decode cX5_readsCell 18 = .ok (.iconst 1, 1) := by decide +kernel
theorem d_X5_readsCell_19 : decode cX5_readsCell 19 = .ok (.isub, 1) := by decide +kernel
theorem d_X5_readsCell_20 : decode cX5_readsCell 20 = .ok (.invokevirtual 165, 3) := by decide +kernel
theorem d_X5_readsCell_23 : decode cX5_readsCell 23 = .ok (.istore_n 3, 1) := by decide +kernel
theorem d_X5_readsCell_24 : decode cX5_readsCell 24 = .ok (.aload_n 0, 1) := by decide +kernel
theorem d_X5_readsCell_25 : decode cX5_readsCell 25 = .ok (.iconst 0, 1) := by decide +kernel
theorem d_X5_readsCell_26 : decode cX5_readsCell 26 = .ok (.aload_n 0, 1) := by decide +kernel
theorem d_X5_readsCell_27 : decode cX5_readsCell 27 = .ok (.getfield 23, 3) := by decide +kernel
theorem d_X5_readsCell_30 : decode cX5_readsCell 30 = .ok (.iconst 1, 1) := by decide +kernel
theorem d_X5_readsCell_31 : decode cX5_readsCell 31 = .ok (.iaload, 1) := by decide +kernel
theorem d_X5_readsCell_32 : decode cX5_readsCell 32 = .ok (.iconst 1, 1) := by decide +kernel
theorem d_X5_readsCell_33 : decode cX5_readsCell 33 = .ok (.isub, 1) := by decide +kernel
theorem d_X5_readsCell_34 : decode cX5_readsCell 34 = .ok (.invokevirtual 165, 3) := by decide +kernel
theorem d_X5_readsCell_37 : decode cX5_readsCell 37 = .ok (.istore 4, 2) := by decide +kernel
theorem d_X5_readsCell_39 : decode cX5_readsCell 39 = .ok (.aload_n 0, 1) := by decide +kernel
theorem d_X5_readsCell_40 : decode cX5_readsCell 40 = .ok (.aload_n 0, 1) := by decide +kernel
theorem d_X5_readsCell_41 : decode cX5_readsCell 41 = .ok (.invokevirtual 121, 3) := by decide +kernel
theorem d_X5_readsCell_44 : decode cX5_readsCell 44 = .ok (.ifCond .eq 12, 3) := by decide +kernel
theorem d_X5_readsCell_47 : decode cX5_readsCell 47 = .ok (.iload_n 3, 1) := by decide +kernel
theorem d_X5_readsCell_48 : decode cX5_readsCell 48 = .ok (.iload 4, 2) := by decide +kernel
theorem d_X5_readsCell_50 : decode cX5_readsCell 50 = .ok (.invokestatic 71, 3) := by decide +kernel
theorem d_X5_readsCell_53 : decode cX5_readsCell 53 = .ok (.goto 4, 3) := by decide +kernel
theorem d_X5_readsCell_56 : decode cX5_readsCell 56 = .ok (.iconst 0, 1) := by decide +kernel
theorem d_X5_readsCell_57 : decode cX5_readsCell 57 = .ok (.putfield 168, 3) := by decide +kernel
theorem d_X5_readsCell_60 : decode cX5_readsCell 60 = .ok (.aload_n 0, 1) := by decide +kernel
theorem d_X5_readsCell_61 : decode cX5_readsCell 61 = .ok (.invokevirtual 121, 3) := by decide +kernel
theorem d_X5_readsCell_64 : decode cX5_readsCell 64 = .ok (.ifCond .eq 30, 3) := by decide +kernel
theorem d_X5_readsCell_67 : decode cX5_readsCell 67 = .ok (.iload_n 1, 1) := by decide +kernel
theorem d_X5_readsCell_68 : decode cX5_readsCell 68 = .ok (.ifCond .ne 26, 3) := by decide +kernel
theorem d_X5_readsCell_71 : decode cX5_readsCell 71 = .ok (.aload_n 0, 1) := by decide +kernel
theorem d_X5_readsCell_72 : decode cX5_readsCell 72 = .ok (.getfield 23, 3) := by decide +kernel
theorem d_X5_readsCell_75 : decode cX5_readsCell 75 = .ok (.sipush 609, 3) := by decide +kernel
theorem d_X5_readsCell_78 : decode cX5_readsCell 78 = .ok (.aload_n 0, 1) := by decide +kernel
theorem d_X5_readsCell_79 : decode cX5_readsCell 79 = .ok (.getfield 168, 3) := by decide +kernel
theorem d_X5_readsCell_82 : decode cX5_readsCell 82 = .ok (.iadd, 1) := by decide +kernel
theorem d_X5_readsCell_83 : decode cX5_readsCell 83 = .ok (.iaload, 1) := by decide +kernel
theorem d_X5_readsCell_84 : decode cX5_readsCell 84 = .ok (.iconst 1, 1) := by decide +kernel
theorem d_X5_readsCell_85 : decode cX5_readsCell 85 = .ok (.if_icmp .ne 9, 3) := by decide +kernel
theorem d_X5_readsCell_88 : decode cX5_readsCell 88 = .ok (.aload_n 0, 1) := by decide +kernel
theorem d_X5_readsCell_89 : decode cX5_readsCell 89 = .ok (.iconst 3, 1) := by decide +kernel
theorem d_X5_readsCell_90 : decode cX5_readsCell 90 = .ok (.iload_n 2, 1) := by decide +kernel
theorem d_X5_readsCell_91 : decode cX5_readsCell 91 = .ok (.invokevirtual 132, 3) := by decide +kernel
theorem d_X5_readsCell_94 : decode cX5_readsCell 94 = .ok (.return_, 1) := by decide +kernel
abbrev rm_X5_readsCell : Room := { frames := 3, cells := 0, slots := 0, locals := 65 }
set_option maxHeartbeats 4000000 in
set_option maxRecDepth 20000 in
theorem c_X5_readsCell_57 {x : Cx} {b : Wy} (o : Ok x (wM b) cX5_readsCell 5 RX5 none rm_X5_readsCell) {v1 : Int32} {K : Sg → Prop}   : ∀ (l2 : Int32) (k1 : Int32) (σ : Sg), m_X5_readsCell_j57 v1 K  l2 k1 σ → J x (wM b) (FinC x (wM b) (PV K) (0, 0)) 57 [(0, .ref (wB (wM b) + 347)), (1, .int v1), (2, .int l2)] [.int k1, .ref (wB (wM b) + 347)] (0, 0) σ := by
  intro l2 k1 σ  h
  unfold m_X5_readsCell_j57 at h
  refine J_put o fl_RX5_168 la_5 rfl (Nat.le_of_ble_eq_true rfl) (Nat.le_of_ble_eq_true rfl) rfl rfl rfl rfl d_X5_readsCell_57 ?_
  refine J_nS (fun s57 es57 => ?_)
  replace h := h s57 es57
  refine J_aload_n o 0 d_X5_readsCell_60 rfl ?_
  refine J_callV (k := 347) (c := 5) o [] rfl (by decide) (Nat.le_of_ble_eq_true rfl) (Nat.le_of_ble_eq_true rfl) mth_X5_fine iv_X5_fine ml_RX5_121 ⟨Nat.le_of_ble_eq_true rfl, Nat.le_of_ble_eq_true rfl⟩ rfl rfl (Nat.le_of_ble_eq_true rfl) ⟨Nat.le_refl _, Nat.le_refl _⟩ d_X5_readsCell_61 (w_X5_fine (xL x) b  h) (aZ (fun r61 s61 hzr61 h => ?_))
  refine J_if_eq o 94 d_X5_readsCell_64 rfl (fun c64 => ?_) (fun c64 => ?_)
  · replace h := h.1 c64
    exact J_vret o d_X5_readsCell_94 ⟨rfl, h⟩
  · replace h := h.2 c64
    refine J_iload_n o 1 d_X5_readsCell_67 rfl ?_
    refine J_if_ne o 94 d_X5_readsCell_68 rfl (fun c68 => ?_) (fun c68 => ?_)
    · replace h := h.1 c68
      exact J_vret o d_X5_readsCell_94 ⟨rfl, h⟩
    · replace h := h.2 c68
      refine J_aload_n o 0 d_X5_readsCell_71 rfl ?_
      refine J_getR (t := 351) o fl_RX5_23 rfl (Nat.le_of_ble_eq_true rfl) (Nat.le_of_ble_eq_true rfl) rfl rfl d_X5_readsCell_72 ?_
      refine J_sipush (v := 609) o d_X5_readsCell_75 sipush_609 ?_
      refine J_aload_n o 0 d_X5_readsCell_78 rfl ?_
      refine J_getI o fl_RX5_168 rfl (Nat.le_of_ble_eq_true rfl) (Nat.le_of_ble_eq_true rfl) rfl d_X5_readsCell_79 ?_
      refine J_iadd o d_X5_readsCell_82 ?_
      have b83 := h.1
      replace h := h.2
      refine J_iald o A_351 (vpc (rfl : ln 351 = 1098) b83) d_X5_readsCell_83 ?_
      refine J_iconst (v := 1) o d_X5_readsCell_84 iconst_1 ?_
      refine J_icmp_ne o 94 d_X5_readsCell_85 rfl (fun c85 => ?_) (fun c85 => ?_)
      · replace h := h.1 c85
        exact J_vret o d_X5_readsCell_94 ⟨rfl, h⟩
      · replace h := h.2 c85
        refine J_aload_n o 0 d_X5_readsCell_88 rfl ?_
        refine J_iconst (v := 3) o d_X5_readsCell_89 iconst_3 ?_
        refine J_iload_n o 2 d_X5_readsCell_90 rfl ?_
        refine J_callV (k := 347) (c := 5) o [.int 3, .int l2] rfl (by decide) (Nat.le_of_ble_eq_true rfl) (Nat.le_of_ble_eq_true rfl) mth_X5_wrong iv_X5_wrong ml_RX5_132 ⟨Nat.le_of_ble_eq_true rfl, Nat.le_of_ble_eq_true rfl⟩ rfl rfl (Nat.le_of_ble_eq_true rfl) ⟨Nat.le_refl _, Nat.le_refl _⟩ d_X5_readsCell_91 (w_X5_wrong (xL x) b  h) (aV (fun s91 h => ?_))
        exact J_vret o d_X5_readsCell_94 ⟨rfl, h⟩
set_option maxHeartbeats 4000000 in
set_option maxRecDepth 20000 in
theorem w_X5_readsCell (l : Launch) (b : Wy) {v1 : Int32} {σ : Sg} {K : Sg → Prop}  (h : m_X5_readsCell v1 σ K) : Ct l (wM b) yX5_readsCell cX5_readsCell 5 none rm_X5_readsCell [.ref (wB (wM b) + 347), .int v1] σ (PV K) := by
  unfold m_X5_readsCell at h
  refine Ct.of (own := RX5) (by decide +kernel) rfl (Nat.le_of_ble_eq_true rfl) (fun x hx o => ?_)
  subst hx
  show J x (wM b) (FinC x (wM b) (PV K) (0, 0)) 0 [(0, .ref (wB (wM b) + 347)), (1, .int v1)] [] (0, 0) σ
  refine J_aload_n o 0 d_X5_readsCell_0 rfl ?_
  refine J_callV (k := 347) (c := 5) o [] rfl (by decide) (Nat.le_of_ble_eq_true rfl) (Nat.le_of_ble_eq_true rfl) mth_X5_here iv_X5_here ml_RX5_104 ⟨Nat.le_of_ble_eq_true rfl, Nat.le_of_ble_eq_true rfl⟩ rfl rfl (Nat.le_of_ble_eq_true rfl) ⟨Nat.le_refl _, Nat.le_refl _⟩ d_X5_readsCell_1 (w_X5_here (xL x) b  h) (aI (fun r1 s1 h => ?_))
  refine J_pop o d_X5_readsCell_4 rfl ?_
  refine J_aload_n o 0 d_X5_readsCell_5 rfl ?_
  refine J_getI o fl_RX5_92 rfl (Nat.le_of_ble_eq_true rfl) (Nat.le_of_ble_eq_true rfl) rfl d_X5_readsCell_6 ?_
  refine J_top (fun l2_9 el2_9 => ?_)
  replace h := h l2_9 el2_9
  refine J_istore_n (lv' := [(2, .int l2_9), (0, .ref (wB (wM b) + 347)), (1, .int v1)]) o d_X5_readsCell_9 (by decide) rfl ?_
  refine J_aload_n o 1 d_X5_readsCell_10 rfl ?_
  refine J_iconst (v := 0) o d_X5_readsCell_11 iconst_0 ?_
  refine J_aload_n o 1 d_X5_readsCell_12 rfl ?_
  refine J_getR (t := 351) o fl_RX5_23 rfl (Nat.le_of_ble_eq_true rfl) (Nat.le_of_ble_eq_true rfl) rfl rfl d_X5_readsCell_13 ?_
  refine J_iconst (v := 0) o d_X5_readsCell_16 iconst_0 ?_
  have b17 := h.1
  replace h := h.2
  refine J_iald o A_351 (vpc (rfl : ln 351 = 1098) b17) d_X5_readsCell_17 ?_
  refine J_iconst (v := 1) o d_X5_readsCell_18 iconst_1 ?_
  refine J_isub o d_X5_readsCell_19 ?_
  refine J_callV (k := 347) (c := 5) o [.int 0, .int ((s1 351 (0 : Int32).toNatClampNeg) - 1)] rfl (by decide) (Nat.le_of_ble_eq_true rfl) (Nat.le_of_ble_eq_true rfl) mth_X5_number iv_X5_number ml_RX5_165 ⟨Nat.le_of_ble_eq_true rfl, Nat.le_of_ble_eq_true rfl⟩ rfl rfl (Nat.le_of_ble_eq_true rfl) ⟨Nat.le_refl _, Nat.le_refl _⟩ d_X5_readsCell_20 (w_X5_number (xL x) b  h) (aI (fun r20 s20 h => ?_))
  refine J_istore_n (lv' := [(3, .int r20), (2, .int l2_9), (0, .ref (wB (wM b) + 347)), (1, .int v1)]) o d_X5_readsCell_23 (by decide) rfl ?_
  refine J_aload_n o 2 d_X5_readsCell_24 rfl ?_
  refine J_iconst (v := 0) o d_X5_readsCell_25 iconst_0 ?_
  refine J_aload_n o 2 d_X5_readsCell_26 rfl ?_
  refine J_getR (t := 351) o fl_RX5_23 rfl (Nat.le_of_ble_eq_true rfl) (Nat.le_of_ble_eq_true rfl) rfl rfl d_X5_readsCell_27 ?_
  refine J_iconst (v := 1) o d_X5_readsCell_30 iconst_1 ?_
  have b31 := h.1
  replace h := h.2
  refine J_iald o A_351 (vpc (rfl : ln 351 = 1098) b31) d_X5_readsCell_31 ?_
  refine J_iconst (v := 1) o d_X5_readsCell_32 iconst_1 ?_
  refine J_isub o d_X5_readsCell_33 ?_
  refine J_callV (k := 347) (c := 5) o [.int 0, .int ((s20 351 (1 : Int32).toNatClampNeg) - 1)] rfl (by decide) (Nat.le_of_ble_eq_true rfl) (Nat.le_of_ble_eq_true rfl) mth_X5_number iv_X5_number ml_RX5_165 ⟨Nat.le_of_ble_eq_true rfl, Nat.le_of_ble_eq_true rfl⟩ rfl rfl (Nat.le_of_ble_eq_true rfl) ⟨Nat.le_refl _, Nat.le_refl _⟩ d_X5_readsCell_34 (w_X5_number (xL x) b  h) (aI (fun r34 s34 h => ?_))
  refine J_istore (lv' := [(4, .int r34), (3, .int r20), (2, .int l2_9), (0, .ref (wB (wM b) + 347)), (1, .int v1)]) o d_X5_readsCell_37 (by decide) rfl ?_
  refine J_aload_n o 3 d_X5_readsCell_39 rfl ?_
  refine J_aload_n o 3 d_X5_readsCell_40 rfl ?_
  refine J_callV (k := 347) (c := 5) o [] rfl (by decide) (Nat.le_of_ble_eq_true rfl) (Nat.le_of_ble_eq_true rfl) mth_X5_fine iv_X5_fine ml_RX5_121 ⟨Nat.le_of_ble_eq_true rfl, Nat.le_of_ble_eq_true rfl⟩ rfl rfl (Nat.le_of_ble_eq_true rfl) ⟨Nat.le_refl _, Nat.le_refl _⟩ d_X5_readsCell_41 (w_X5_fine (xL x) b  h) (aZ (fun r41 s41 hzr41 h => ?_))
  refine J_if_eq o 56 d_X5_readsCell_44 rfl (fun c44 => ?_) (fun c44 => ?_)
  · replace h := h.1 c44
    refine J_iconst (v := 0) o d_X5_readsCell_56 iconst_0 ?_
    refine J_sub [3, 4, 2] rfl ?_
    exact c_X5_readsCell_57 o   l2_9 0 s41  h
  · replace h := h.2 c44
    refine J_iload_n o 1 d_X5_readsCell_47 rfl ?_
    refine J_iload o 0 d_X5_readsCell_48 rfl ?_
    refine J_callS o [.int r20, .int r34] mth_X5_cellAt st_X5_cellAt ml_RX5_71 ⟨Nat.le_of_ble_eq_true rfl, Nat.le_of_ble_eq_true rfl⟩ rfl rfl (Nat.le_of_ble_eq_true rfl) ⟨Nat.le_refl _, Nat.le_refl _⟩ d_X5_readsCell_50 (w_X5_cellAt (xL x) b  h) (aI (fun r50 s50 h => ?_))
    refine J_goto o 57 d_X5_readsCell_53 rfl ?_
    refine J_sub [3, 4, 2] rfl ?_
    exact c_X5_readsCell_57 o   l2_9 r50 s50  h
theorem d_X5_isTold_0 : decode cX5_isTold 0 = .ok (.aload_n 0, 1) := by decide +kernel
theorem d_X5_isTold_1 : decode cX5_isTold 1 = .ok (.getfield 171, 3) := by decide +kernel
theorem d_X5_isTold_4 : decode cX5_isTold 4 = .ok (.iload_n 1, 1) := by decide +kernel
theorem d_X5_isTold_5 : decode cX5_isTold 5 = .ok (.ishr, 1) := by decide +kernel
theorem d_X5_isTold_6 : decode cX5_isTold 6 = .ok (.iconst 1, 1) := by decide +kernel
theorem d_X5_isTold_7 : decode cX5_isTold 7 = .ok (.iand, 1) := by decide +kernel
theorem d_X5_isTold_8 : decode cX5_isTold 8 = .ok (.iconst 1, 1) := by decide +kernel
theorem d_X5_isTold_9 : decode cX5_isTold 9 = .ok (.if_icmp .ne 7, 3) := by decide +kernel
theorem d_X5_isTold_12 : decode cX5_isTold 12 = .ok (.iconst 1, 1) := by decide +kernel
theorem d_X5_isTold_13 : decode cX5_isTold 13 = .ok (.goto 4, 3) := by decide +kernel
theorem d_X5_isTold_16 : decode cX5_isTold 16 = .ok (.iconst 0, 1) := by decide +kernel
theorem d_X5_isTold_17 : decode cX5_isTold 17 = .ok (.ireturn, 1) := by decide +kernel
abbrev rm_X5_isTold : Room := { frames := 0, cells := 0, slots := 0, locals := 0 }
set_option maxHeartbeats 4000000 in
set_option maxRecDepth 20000 in
theorem w_X5_isTold (l : Launch) (b : Wy) {v1 : Int32} {σ : Sg} {K : Int32 → Sg → Prop}  (h : m_X5_isTold v1 σ K) : Ct l (wM b) yX5_isTold cX5_isTold 2 (some .boolean) rm_X5_isTold [.ref (wB (wM b) + 347), .int v1] σ (PZ K) := by
  unfold m_X5_isTold at h
  refine Ct.of (own := RX5) (by decide +kernel) rfl (Nat.le_of_ble_eq_true rfl) (fun x hx o => ?_)
  subst hx
  show J x (wM b) (FinC x (wM b) (PZ K) (0, 0)) 0 [(0, .ref (wB (wM b) + 347)), (1, .int v1)] [] (0, 0) σ
  refine J_aload_n o 0 d_X5_isTold_0 rfl ?_
  refine J_getI o fl_RX5_171 rfl (Nat.le_of_ble_eq_true rfl) (Nat.le_of_ble_eq_true rfl) rfl d_X5_isTold_1 ?_
  refine J_iload_n o 1 d_X5_isTold_4 rfl ?_
  refine J_ishr o d_X5_isTold_5 ?_
  refine J_iconst (v := 1) o d_X5_isTold_6 iconst_1 ?_
  refine J_iand o d_X5_isTold_7 ?_
  refine J_iconst (v := 1) o d_X5_isTold_8 iconst_1 ?_
  refine J_icmp_ne o 16 d_X5_isTold_9 rfl (fun c9 => ?_) (fun c9 => ?_)
  · replace h := h.1 c9
    refine J_iconst (v := 0) o d_X5_isTold_16 iconst_0 ?_
    exact J_zret o (Or.inl rfl) d_X5_isTold_17 ⟨_, rfl, (Or.inl rfl), h⟩
  · replace h := h.2 c9
    refine J_iconst (v := 1) o d_X5_isTold_12 iconst_1 ?_
    refine J_goto o 17 d_X5_isTold_13 rfl ?_
    exact J_zret o (Or.inr rfl) d_X5_isTold_17 ⟨_, rfl, (Or.inr rfl), h⟩
theorem d_X5_readsLand_0 : decode cX5_readsLand 0 = .ok (.aload_n 0, 1) := by decide +kernel
theorem d_X5_readsLand_1 : decode cX5_readsLand 1 = .ok (.invokevirtual 104, 3) := by decide +kernel
theorem d_X5_readsLand_4 : decode cX5_readsLand 4 = .ok (.pop, 1) := by decide +kernel
theorem d_X5_readsLand_5 : decode cX5_readsLand 5 = .ok (.aload_n 0, 1) := by decide +kernel
theorem d_X5_readsLand_6 : decode cX5_readsLand 6 = .ok (.getfield 92, 3) := by decide +kernel
theorem d_X5_readsLand_9 : decode cX5_readsLand 9 = .ok (.istore_n 1, 1) := by decide +kernel
theorem d_X5_readsLand_10 : decode cX5_readsLand 10 = .ok (.aload_n 0, 1) := by decide +kernel
theorem d_X5_readsLand_11 : decode cX5_readsLand 11 = .ok (.iconst 1, 1) := by decide +kernel
theorem d_X5_readsLand_12 : decode cX5_readsLand 12 = .ok (.invokevirtual 174, 3) := by decide +kernel
theorem d_X5_readsLand_15 : decode cX5_readsLand 15 = .ok (.aload_n 0, 1) := by decide +kernel
theorem d_X5_readsLand_16 : decode cX5_readsLand 16 = .ok (.invokevirtual 121, 3) := by decide +kernel
theorem d_X5_readsLand_19 : decode cX5_readsLand 19 = .ok (.ifCond .ne 4, 3) := by decide +kernel
theorem d_X5_readsLand_22 : decode cX5_readsLand 22 = .ok (.return_, 1) := by decide +kernel
theorem d_X5_readsLand_23 : decode cX5_readsLand 23 = .ok (.aload_n 0, 1) := by decide +kernel
theorem d_X5_readsLand_24 : decode cX5_readsLand 24 = .ok (.iconst 1, 1) := by decide +kernel
theorem d_X5_readsLand_25 : decode cX5_readsLand 25 = .ok (.invokevirtual 178, 3) := by decide +kernel
theorem d_X5_readsLand_28 : decode cX5_readsLand 28 = .ok (.ifCond .eq 27, 3) := by decide +kernel
theorem d_X5_readsLand_31 : decode cX5_readsLand 31 = .ok (.aload_n 0, 1) := by decide +kernel
theorem d_X5_readsLand_32 : decode cX5_readsLand 32 = .ok (.getfield 23, 3) := by decide +kernel
theorem d_X5_readsLand_35 : decode cX5_readsLand 35 = .ok (.bipush 6, 2) := by decide +kernel
theorem d_X5_readsLand_37 : decode cX5_readsLand 37 = .ok (.iaload, 1) := by decide +kernel
theorem d_X5_readsLand_38 : decode cX5_readsLand 38 = .ok (.aload_n 0, 1) := by decide +kernel
theorem d_X5_readsLand_39 : decode cX5_readsLand 39 = .ok (.getfield 23, 3) := by decide +kernel
theorem d_X5_readsLand_42 : decode cX5_readsLand 42 = .ok (.bipush 7, 2) := by decide +kernel
theorem d_X5_readsLand_44 : decode cX5_readsLand 44 = .ok (.iaload, 1) := by decide +kernel
theorem d_X5_readsLand_45 : decode cX5_readsLand 45 = .ok (.invokestatic 71, 3) := by decide +kernel
theorem d_X5_readsLand_48 : decode cX5_readsLand 48 = .ok (.aload_n 0, 1) := by decide +kernel
theorem d_X5_readsLand_49 : decode cX5_readsLand 49 = .ok (.getfield 168, 3) := by decide +kernel
theorem d_X5_readsLand_52 : decode cX5_readsLand 52 = .ok (.if_icmp .eq 35, 3) := by decide +kernel
theorem d_X5_readsLand_55 : decode cX5_readsLand 55 = .ok (.aload_n 0, 1) := by decide +kernel
theorem d_X5_readsLand_56 : decode cX5_readsLand 56 = .ok (.iconst 2, 1) := by decide +kernel
theorem d_X5_readsLand_57 : decode cX5_readsLand 57 = .ok (.invokevirtual 178, 3) := by decide +kernel
theorem d_X5_readsLand_60 : decode cX5_readsLand 60 = .ok (.ifCond .eq 31, 3) := by decide +kernel
theorem d_X5_readsLand_63 : decode cX5_readsLand 63 = .ok (.aload_n 0, 1) := by decide +kernel
theorem d_X5_readsLand_64 : decode cX5_readsLand 64 = .ok (.getfield 23, 3) := by decide +kernel
theorem d_X5_readsLand_67 : decode cX5_readsLand 67 = .ok (.bipush 8, 2) := by decide +kernel
theorem d_X5_readsLand_69 : decode cX5_readsLand 69 = .ok (.iaload, 1) := by decide +kernel
theorem d_X5_readsLand_70 : decode cX5_readsLand 70 = .ok (.aload_n 0, 1) := by decide +kernel
theorem d_X5_readsLand_71 : decode cX5_readsLand 71 = .ok (.getfield 23, 3) := by decide +kernel
theorem d_X5_readsLand_74 : decode cX5_readsLand 74 = .ok (.bipush 9, 2) := by decide +kernel
theorem d_X5_readsLand_76 : decode cX5_readsLand 76 = .ok (.iaload, 1) := by decide +kernel
theorem d_X5_readsLand_77 : decode cX5_readsLand 77 = .ok (.invokestatic 71, 3) := by decide +kernel
theorem d_X5_readsLand_80 : decode cX5_readsLand 80 = .ok (.aload_n 0, 1) := by decide +kernel
theorem d_X5_readsLand_81 : decode cX5_readsLand 81 = .ok (.getfield 168, 3) := by decide +kernel
theorem d_X5_readsLand_84 : decode cX5_readsLand 84 = .ok (.if_icmp .ne 7, 3) := by decide +kernel
theorem d_X5_readsLand_87 : decode cX5_readsLand 87 = .ok (.iconst 1, 1) := by decide +kernel
theorem d_X5_readsLand_88 : decode cX5_readsLand 88 = .ok (.goto 4, 3) := by decide +kernel
theorem d_X5_readsLand_91 : decode cX5_readsLand 91 = .ok (.iconst 0, 1) := by decide +kernel
theorem d_X5_readsLand_92 : decode cX5_readsLand 92 = .ok (.istore_n 2, 1) := by decide +kernel
theorem d_X5_readsLand_93 : decode cX5_readsLand 93 = .ok (.iconst 0, 1) := by decide +kernel
theorem d_X5_readsLand_94 : decode cX5_readsLand 94 = .ok (.istore_n 3, 1) := by decide +kernel
theorem d_X5_readsLand_95 : decode cX5_readsLand 95 = .ok (.iload_n 3, 1) := by decide +kernel
theorem d_X5_readsLand_96 : decode cX5_readsLand 96 = .ok (.aload_n 0, 1) := by decide +kernel
theorem d_X5_readsLand_97 : decode cX5_readsLand 97 = .ok (.getfield 23, 3) := by decide +kernel
theorem d_X5_readsLand_100 : decode cX5_readsLand 100 = .ok (.iconst 3, 1) := by decide +kernel
theorem d_X5_readsLand_101 : decode cX5_readsLand 101 = .ok (.iaload, 1) := by decide +kernel
theorem d_X5_readsLand_102 : decode cX5_readsLand 102 = .ok (.if_icmp .ge 55, 3) := by decide +kernel
theorem d_X5_readsLand_105 : decode cX5_readsLand 105 = .ok (.iload_n 2, 1) := by decide +kernel
theorem d_X5_readsLand_106 : decode cX5_readsLand 106 = .ok (.ifCond .ne 39, 3) := by decide +kernel
theorem d_X5_readsLand_109 : decode cX5_readsLand 109 = .ok (.aload_n 0, 1) := by decide +kernel
theorem d_X5_readsLand_110 : decode cX5_readsLand 110 = .ok (.getfield 23, 3) := by decide +kernel
theorem d_X5_readsLand_113 : decode cX5_readsLand 113 = .ok (.sipush 1089, 3) := by decide +kernel
theorem d_X5_readsLand_116 : decode cX5_readsLand 116 = .ok (.iconst 3, 1) := by decide +kernel
theorem d_X5_readsLand_117 : decode cX5_readsLand 117 = .ok (.iload_n 3, 1) := by decide +kernel
theorem d_X5_readsLand_118 : decode cX5_readsLand 118 = .ok (.imul, 1) := by decide +kernel
theorem d_X5_readsLand_119 : decode cX5_readsLand 119 = .ok (.iadd, 1) := by decide +kernel
theorem d_X5_readsLand_120 : decode cX5_readsLand 120 = .ok (.iaload, 1) := by decide +kernel
theorem d_X5_readsLand_121 : decode cX5_readsLand 121 = .ok (.aload_n 0, 1) := by decide +kernel
theorem d_X5_readsLand_122 : decode cX5_readsLand 122 = .ok (.getfield 23, 3) := by decide +kernel
theorem d_X5_readsLand_125 : decode cX5_readsLand 125 = .ok (.sipush 1089, 3) := by decide +kernel
theorem d_X5_readsLand_128 : decode cX5_readsLand 128 = .ok (.iconst 3, 1) := by decide +kernel
theorem d_X5_readsLand_129 : decode cX5_readsLand 129 = .ok (.iload_n 3, 1) := by decide +kernel
theorem d_X5_readsLand_130 : decode cX5_readsLand 130 = .ok (.imul, 1) := by decide +kernel
theorem d_X5_readsLand_131 : decode cX5_readsLand 131 = .ok (.iadd, 1) := by decide +kernel
theorem d_X5_readsLand_132 : decode cX5_readsLand 132 = .ok (.iconst 1, 1) := by decide +kernel
theorem d_X5_readsLand_133 : decode cX5_readsLand 133 = .ok (.iadd, 1) := by decide +kernel
theorem d_X5_readsLand_134 : decode cX5_readsLand 134 = .ok (.iaload, 1) := by decide +kernel
theorem d_X5_readsLand_135 : decode cX5_readsLand 135 = .ok (.invokestatic 71, 3) := by decide +kernel
theorem d_X5_readsLand_138 : decode cX5_readsLand 138 = .ok (.aload_n 0, 1) := by decide +kernel
theorem d_X5_readsLand_139 : decode cX5_readsLand 139 = .ok (.getfield 168, 3) := by decide +kernel
theorem d_X5_readsLand_142 : decode cX5_readsLand 142 = .ok (.if_icmp .ne 7, 3) := by decide +kernel
theorem d_X5_readsLand_145 : decode cX5_readsLand 145 = .ok (.iconst 1, 1) := by decide +kernel
theorem d_X5_readsLand_146 : decode cX5_readsLand 146 = .ok (.goto 4, 3) := by decide +kernel
theorem d_X5_readsLand_149 : decode cX5_readsLand 149 = .ok (.iconst 0, 1) := by decide +kernel
theorem d_X5_readsLand_150 : decode cX5_readsLand 150 = .ok (.istore_n 2, 1) := by decide +kernel
theorem d_X5_readsLand_151 : decode cX5_readsLand 151 = .ok (.iinc 3 1, 3) := by decide +kernel
theorem d_X5_readsLand_154 : decode cX5_readsLand 154 = .ok (.goto (-59), 3) := by decide +kernel
theorem d_X5_readsLand_157 : decode cX5_readsLand 157 = .ok (.iload_n 2, 1) := by decide +kernel
theorem d_X5_readsLand_158 : decode cX5_readsLand 158 = .ok (.ifCond .eq 12, 3) := by decide +kernel
theorem d_X5_readsLand_161 : decode cX5_readsLand 161 = .ok (.aload_n 0, 1) := by decide +kernel
theorem d_X5_readsLand_162 : decode cX5_readsLand 162 = .ok (.iconst 3, 1) := by decide +kernel
theorem d_X5_readsLand_163 : decode cX5_readsLand 163 = .ok (.iload_n 1, 1) := by decide +kernel
theorem d_X5_readsLand_164 : decode cX5_readsLand 164 = .ok (.invokevirtual 132, 3) := by decide +kernel
theorem d_X5_readsLand_167 : decode cX5_readsLand 167 = .ok (.goto 17, 3) := by decide +kernel
theorem d_X5_readsLand_170 : decode cX5_readsLand 170 = .ok (.aload_n 0, 1) := by decide +kernel
theorem d_X5_readsLand_171 : decode cX5_readsLand 171 = .ok (.getfield 23, 3) := by decide +kernel
theorem d_X5_readsLand_174 : decode cX5_readsLand 174 = .ok (.sipush 609, 3) := by decide +kernel
theorem d_X5_readsLand_177 : decode cX5_readsLand 177 = .ok (.aload_n 0, 1) := by decide +kernel
theorem d_X5_readsLand_178 : decode cX5_readsLand 178 = .ok (.getfield 168, 3) := by decide +kernel
theorem d_X5_readsLand_181 : decode cX5_readsLand 181 = .ok (.iadd, 1) := by decide +kernel
theorem d_X5_readsLand_182 : decode cX5_readsLand 182 = .ok (.iconst 1, 1) := by decide +kernel
theorem d_X5_readsLand_183 : decode cX5_readsLand 183 = .ok (.iastore, 1) := by decide +kernel
theorem d_X5_readsLand_184 : decode cX5_readsLand 184 = .ok (.return_, 1) := by decide +kernel
abbrev rm_X5_readsLand : Room := { frames := 4, cells := 0, slots := 0, locals := 89 }
set_option maxHeartbeats 4000000 in
set_option maxRecDepth 20000 in
theorem c_X5_readsLand_95 {x : Cx} {b : Wy} (o : Ok x (wM b) cX5_readsLand 4 RX5 none rm_X5_readsLand)  {K : Sg → Prop}   : ∀ (n : Nat) (l1 : Int32) (l2 : Int32) (l3 : Int32) (σ : Sg), m_X5_readsLand_l95  K  n l1 l2 l3 σ → J x (wM b) (FinC x (wM b) (PV K) (0, 0)) 95 [(0, .ref (wB (wM b) + 347)), (1, .int l1), (2, .int l2), (3, .int l3)] [] (0, 0) σ := by
  intro n
  induction n with
  | zero =>
    intro l1 l2 l3 σ  h
    exact False.elim h
  | succ n ih =>
    intro l1 l2 l3 σ  h
    unfold m_X5_readsLand_l95 at h
    refine J_iload_n o 3 d_X5_readsLand_95 rfl ?_
    refine J_aload_n o 0 d_X5_readsLand_96 rfl ?_
    refine J_getR (t := 351) o fl_RX5_23 rfl (Nat.le_of_ble_eq_true rfl) (Nat.le_of_ble_eq_true rfl) rfl rfl d_X5_readsLand_97 ?_
    refine J_iconst (v := 3) o d_X5_readsLand_100 iconst_3 ?_
    have b101 := h.1
    replace h := h.2
    refine J_iald o A_351 (vpc (rfl : ln 351 = 1098) b101) d_X5_readsLand_101 ?_
    refine J_icmp_ge o 157 d_X5_readsLand_102 rfl (fun c102 => ?_) (fun c102 => ?_)
    · replace h := h.1 c102
      refine J_iload_n o 2 d_X5_readsLand_157 rfl ?_
      refine J_if_eq o 170 d_X5_readsLand_158 rfl (fun c158 => ?_) (fun c158 => ?_)
      · replace h := h.1 c158
        refine J_aload_n o 0 d_X5_readsLand_170 rfl ?_
        refine J_getR (t := 351) o fl_RX5_23 rfl (Nat.le_of_ble_eq_true rfl) (Nat.le_of_ble_eq_true rfl) rfl rfl d_X5_readsLand_171 ?_
        refine J_sipush (v := 609) o d_X5_readsLand_174 sipush_609 ?_
        refine J_aload_n o 0 d_X5_readsLand_177 rfl ?_
        refine J_getI o fl_RX5_168 rfl (Nat.le_of_ble_eq_true rfl) (Nat.le_of_ble_eq_true rfl) rfl d_X5_readsLand_178 ?_
        refine J_iadd o d_X5_readsLand_181 ?_
        refine J_iconst (v := 1) o d_X5_readsLand_182 iconst_1 ?_
        have b183 := h.1
        replace h := h.2
        refine J_iast o A_351 (vpc (rfl : ln 351 = 1098) b183) d_X5_readsLand_183 ?_
        refine J_nS (fun s183 es183 => ?_)
        replace h := h s183 es183
        exact J_vret o d_X5_readsLand_184 ⟨rfl, h⟩
      · replace h := h.2 c158
        refine J_aload_n o 0 d_X5_readsLand_161 rfl ?_
        refine J_iconst (v := 3) o d_X5_readsLand_162 iconst_3 ?_
        refine J_iload_n o 1 d_X5_readsLand_163 rfl ?_
        refine J_callV (k := 347) (c := 5) o [.int 3, .int l1] rfl (by decide) (Nat.le_of_ble_eq_true rfl) (Nat.le_of_ble_eq_true rfl) mth_X5_wrong iv_X5_wrong ml_RX5_132 ⟨Nat.le_of_ble_eq_true rfl, Nat.le_of_ble_eq_true rfl⟩ rfl rfl (Nat.le_of_ble_eq_true rfl) ⟨Nat.le_refl _, Nat.le_refl _⟩ d_X5_readsLand_164 (w_X5_wrong (xL x) b  h) (aV (fun s164 h => ?_))
        refine J_goto o 184 d_X5_readsLand_167 rfl ?_
        exact J_vret o d_X5_readsLand_184 ⟨rfl, h⟩
    · replace h := h.2 c102
      refine J_iload_n o 2 d_X5_readsLand_105 rfl ?_
      refine J_if_ne o 145 d_X5_readsLand_106 rfl (fun c106 => ?_) (fun c106 => ?_)
      · replace h := h.1 c106
        refine J_iconst (v := 1) o d_X5_readsLand_145 iconst_1 ?_
        refine J_goto o 150 d_X5_readsLand_146 rfl ?_
        refine J_istore_n (lv' := [(2, .int 1), (0, .ref (wB (wM b) + 347)), (1, .int l1), (3, .int l3)]) o d_X5_readsLand_150 (by decide) rfl ?_
        refine J_iinc (lv' := [(3, .int (l3 + 1)), (2, .int 1), (0, .ref (wB (wM b) + 347)), (1, .int l1)]) o 3 d_X5_readsLand_151 (by decide) rfl iconst_1 rfl ?_
        refine J_goto o 95 d_X5_readsLand_154 rfl ?_
        refine J_sub [2, 3, 1, 0] rfl ?_
        exact ih l1 1 (l3 + 1) σ  h
      · replace h := h.2 c106
        refine J_aload_n o 0 d_X5_readsLand_109 rfl ?_
        refine J_getR (t := 351) o fl_RX5_23 rfl (Nat.le_of_ble_eq_true rfl) (Nat.le_of_ble_eq_true rfl) rfl rfl d_X5_readsLand_110 ?_
        refine J_sipush (v := 1089) o d_X5_readsLand_113 sipush_1089 ?_
        refine J_iconst (v := 3) o d_X5_readsLand_116 iconst_3 ?_
        refine J_iload_n o 3 d_X5_readsLand_117 rfl ?_
        refine J_imul o d_X5_readsLand_118 ?_
        refine J_iadd o d_X5_readsLand_119 ?_
        have b120 := h.1
        replace h := h.2
        refine J_iald o A_351 (vpc (rfl : ln 351 = 1098) b120) d_X5_readsLand_120 ?_
        refine J_aload_n o 0 d_X5_readsLand_121 rfl ?_
        refine J_getR (t := 351) o fl_RX5_23 rfl (Nat.le_of_ble_eq_true rfl) (Nat.le_of_ble_eq_true rfl) rfl rfl d_X5_readsLand_122 ?_
        refine J_sipush (v := 1089) o d_X5_readsLand_125 sipush_1089 ?_
        refine J_iconst (v := 3) o d_X5_readsLand_128 iconst_3 ?_
        refine J_iload_n o 3 d_X5_readsLand_129 rfl ?_
        refine J_imul o d_X5_readsLand_130 ?_
        refine J_iadd o d_X5_readsLand_131 ?_
        refine J_iconst (v := 1) o d_X5_readsLand_132 iconst_1 ?_
        refine J_iadd o d_X5_readsLand_133 ?_
        have b134 := h.1
        replace h := h.2
        refine J_iald o A_351 (vpc (rfl : ln 351 = 1098) b134) d_X5_readsLand_134 ?_
        refine J_callS o [.int (σ 351 (1089 + (3 * l3)).toNatClampNeg), .int (σ 351 ((1089 + (3 * l3)) + 1).toNatClampNeg)] mth_X5_cellAt st_X5_cellAt ml_RX5_71 ⟨Nat.le_of_ble_eq_true rfl, Nat.le_of_ble_eq_true rfl⟩ rfl rfl (Nat.le_of_ble_eq_true rfl) ⟨Nat.le_refl _, Nat.le_refl _⟩ d_X5_readsLand_135 (w_X5_cellAt (xL x) b  h) (aI (fun r135 s135 h => ?_))
        refine J_aload_n o 0 d_X5_readsLand_138 rfl ?_
        refine J_getI o fl_RX5_168 rfl (Nat.le_of_ble_eq_true rfl) (Nat.le_of_ble_eq_true rfl) rfl d_X5_readsLand_139 ?_
        refine J_icmp_ne o 149 d_X5_readsLand_142 rfl (fun c142 => ?_) (fun c142 => ?_)
        · replace h := h.1 c142
          refine J_iconst (v := 0) o d_X5_readsLand_149 iconst_0 ?_
          refine J_istore_n (lv' := [(2, .int 0), (0, .ref (wB (wM b) + 347)), (1, .int l1), (3, .int l3)]) o d_X5_readsLand_150 (by decide) rfl ?_
          refine J_iinc (lv' := [(3, .int (l3 + 1)), (2, .int 0), (0, .ref (wB (wM b) + 347)), (1, .int l1)]) o 3 d_X5_readsLand_151 (by decide) rfl iconst_1 rfl ?_
          refine J_goto o 95 d_X5_readsLand_154 rfl ?_
          refine J_sub [2, 3, 1, 0] rfl ?_
          exact ih l1 0 (l3 + 1) s135  h
        · replace h := h.2 c142
          refine J_iconst (v := 1) o d_X5_readsLand_145 iconst_1 ?_
          refine J_goto o 150 d_X5_readsLand_146 rfl ?_
          refine J_istore_n (lv' := [(2, .int 1), (0, .ref (wB (wM b) + 347)), (1, .int l1), (3, .int l3)]) o d_X5_readsLand_150 (by decide) rfl ?_
          refine J_iinc (lv' := [(3, .int (l3 + 1)), (2, .int 1), (0, .ref (wB (wM b) + 347)), (1, .int l1)]) o 3 d_X5_readsLand_151 (by decide) rfl iconst_1 rfl ?_
          refine J_goto o 95 d_X5_readsLand_154 rfl ?_
          refine J_sub [2, 3, 1, 0] rfl ?_
          exact ih l1 1 (l3 + 1) s135  h
set_option maxHeartbeats 4000000 in
set_option maxRecDepth 20000 in
theorem c_X5_readsLand_55 {x : Cx} {b : Wy} (o : Ok x (wM b) cX5_readsLand 4 RX5 none rm_X5_readsLand)  {K : Sg → Prop}   : ∀ (l1 : Int32) (σ : Sg), m_X5_readsLand_j55  K  l1 σ → J x (wM b) (FinC x (wM b) (PV K) (0, 0)) 55 [(0, .ref (wB (wM b) + 347)), (1, .int l1)] [] (0, 0) σ := by
  intro l1 σ  h
  unfold m_X5_readsLand_j55 at h
  refine J_aload_n o 0 d_X5_readsLand_55 rfl ?_
  refine J_iconst (v := 2) o d_X5_readsLand_56 iconst_2 ?_
  refine J_callV (k := 347) (c := 5) o [.int 2] rfl (by decide) (Nat.le_of_ble_eq_true rfl) (Nat.le_of_ble_eq_true rfl) mth_X5_isTold iv_X5_isTold ml_RX5_178 ⟨Nat.le_of_ble_eq_true rfl, Nat.le_of_ble_eq_true rfl⟩ rfl rfl (Nat.le_of_ble_eq_true rfl) ⟨Nat.le_refl _, Nat.le_refl _⟩ d_X5_readsLand_57 (w_X5_isTold (xL x) b  h) (aZ (fun r57 s57 hzr57 h => ?_))
  refine J_if_eq o 91 d_X5_readsLand_60 rfl (fun c60 => ?_) (fun c60 => ?_)
  · replace h := h.1 c60
    refine J_iconst (v := 0) o d_X5_readsLand_91 iconst_0 ?_
    refine J_istore_n (lv' := [(2, .int 0), (0, .ref (wB (wM b) + 347)), (1, .int l1)]) o d_X5_readsLand_92 (by decide) rfl ?_
    refine J_iconst (v := 0) o d_X5_readsLand_93 iconst_0 ?_
    refine J_istore_n (lv' := [(3, .int 0), (2, .int 0), (0, .ref (wB (wM b) + 347)), (1, .int l1)]) o d_X5_readsLand_94 (by decide) rfl ?_
    refine J_sub [2, 3, 1, 0] rfl ?_
    obtain ⟨n9, h⟩ := h
    exact c_X5_readsLand_95 o   n9 l1 0 0 s57  h
  · replace h := h.2 c60
    refine J_aload_n o 0 d_X5_readsLand_63 rfl ?_
    refine J_getR (t := 351) o fl_RX5_23 rfl (Nat.le_of_ble_eq_true rfl) (Nat.le_of_ble_eq_true rfl) rfl rfl d_X5_readsLand_64 ?_
    refine J_bipush (v := 8) o d_X5_readsLand_67 bipush_8 ?_
    have b69 := h.1
    replace h := h.2
    refine J_iald o A_351 (vpc (rfl : ln 351 = 1098) b69) d_X5_readsLand_69 ?_
    refine J_aload_n o 0 d_X5_readsLand_70 rfl ?_
    refine J_getR (t := 351) o fl_RX5_23 rfl (Nat.le_of_ble_eq_true rfl) (Nat.le_of_ble_eq_true rfl) rfl rfl d_X5_readsLand_71 ?_
    refine J_bipush (v := 9) o d_X5_readsLand_74 bipush_9 ?_
    have b76 := h.1
    replace h := h.2
    refine J_iald o A_351 (vpc (rfl : ln 351 = 1098) b76) d_X5_readsLand_76 ?_
    refine J_callS o [.int (s57 351 (8 : Int32).toNatClampNeg), .int (s57 351 (9 : Int32).toNatClampNeg)] mth_X5_cellAt st_X5_cellAt ml_RX5_71 ⟨Nat.le_of_ble_eq_true rfl, Nat.le_of_ble_eq_true rfl⟩ rfl rfl (Nat.le_of_ble_eq_true rfl) ⟨Nat.le_refl _, Nat.le_refl _⟩ d_X5_readsLand_77 (w_X5_cellAt (xL x) b  h) (aI (fun r77 s77 h => ?_))
    refine J_aload_n o 0 d_X5_readsLand_80 rfl ?_
    refine J_getI o fl_RX5_168 rfl (Nat.le_of_ble_eq_true rfl) (Nat.le_of_ble_eq_true rfl) rfl d_X5_readsLand_81 ?_
    refine J_icmp_ne o 91 d_X5_readsLand_84 rfl (fun c84 => ?_) (fun c84 => ?_)
    · replace h := h.1 c84
      refine J_iconst (v := 0) o d_X5_readsLand_91 iconst_0 ?_
      refine J_istore_n (lv' := [(2, .int 0), (0, .ref (wB (wM b) + 347)), (1, .int l1)]) o d_X5_readsLand_92 (by decide) rfl ?_
      refine J_iconst (v := 0) o d_X5_readsLand_93 iconst_0 ?_
      refine J_istore_n (lv' := [(3, .int 0), (2, .int 0), (0, .ref (wB (wM b) + 347)), (1, .int l1)]) o d_X5_readsLand_94 (by decide) rfl ?_
      refine J_sub [2, 3, 1, 0] rfl ?_
      obtain ⟨n9, h⟩ := h
      exact c_X5_readsLand_95 o   n9 l1 0 0 s77  h
    · replace h := h.2 c84
      refine J_iconst (v := 1) o d_X5_readsLand_87 iconst_1 ?_
      refine J_goto o 92 d_X5_readsLand_88 rfl ?_
      refine J_istore_n (lv' := [(2, .int 1), (0, .ref (wB (wM b) + 347)), (1, .int l1)]) o d_X5_readsLand_92 (by decide) rfl ?_
      refine J_iconst (v := 0) o d_X5_readsLand_93 iconst_0 ?_
      refine J_istore_n (lv' := [(3, .int 0), (2, .int 1), (0, .ref (wB (wM b) + 347)), (1, .int l1)]) o d_X5_readsLand_94 (by decide) rfl ?_
      refine J_sub [2, 3, 1, 0] rfl ?_
      obtain ⟨n9, h⟩ := h
      exact c_X5_readsLand_95 o   n9 l1 1 0 s77  h
set_option maxHeartbeats 4000000 in
set_option maxRecDepth 20000 in
theorem w_X5_readsLand (l : Launch) (b : Wy)  {σ : Sg} {K : Sg → Prop}  (h : m_X5_readsLand  σ K) : Ct l (wM b) yX5_readsLand cX5_readsLand 4 none rm_X5_readsLand [.ref (wB (wM b) + 347)] σ (PV K) := by
  unfold m_X5_readsLand at h
  refine Ct.of (own := RX5) (by decide +kernel) rfl (Nat.le_of_ble_eq_true rfl) (fun x hx o => ?_)
  subst hx
  show J x (wM b) (FinC x (wM b) (PV K) (0, 0)) 0 [(0, .ref (wB (wM b) + 347))] [] (0, 0) σ
  refine J_aload_n o 0 d_X5_readsLand_0 rfl ?_
  refine J_callV (k := 347) (c := 5) o [] rfl (by decide) (Nat.le_of_ble_eq_true rfl) (Nat.le_of_ble_eq_true rfl) mth_X5_here iv_X5_here ml_RX5_104 ⟨Nat.le_of_ble_eq_true rfl, Nat.le_of_ble_eq_true rfl⟩ rfl rfl (Nat.le_of_ble_eq_true rfl) ⟨Nat.le_refl _, Nat.le_refl _⟩ d_X5_readsLand_1 (w_X5_here (xL x) b  h) (aI (fun r1 s1 h => ?_))
  refine J_pop o d_X5_readsLand_4 rfl ?_
  refine J_aload_n o 0 d_X5_readsLand_5 rfl ?_
  refine J_getI o fl_RX5_92 rfl (Nat.le_of_ble_eq_true rfl) (Nat.le_of_ble_eq_true rfl) rfl d_X5_readsLand_6 ?_
  refine J_top (fun l1_9 el1_9 => ?_)
  replace h := h l1_9 el1_9
  refine J_istore_n (lv' := [(1, .int l1_9), (0, .ref (wB (wM b) + 347))]) o d_X5_readsLand_9 (by decide) rfl ?_
  refine J_aload_n o 1 d_X5_readsLand_10 rfl ?_
  refine J_iconst (v := 1) o d_X5_readsLand_11 iconst_1 ?_
  refine J_callV (k := 347) (c := 5) o [.int 1] rfl (by decide) (Nat.le_of_ble_eq_true rfl) (Nat.le_of_ble_eq_true rfl) mth_X5_readsCell iv_X5_readsCell ml_RX5_174 ⟨Nat.le_of_ble_eq_true rfl, Nat.le_of_ble_eq_true rfl⟩ rfl rfl (Nat.le_of_ble_eq_true rfl) ⟨Nat.le_refl _, Nat.le_refl _⟩ d_X5_readsLand_12 (w_X5_readsCell (xL x) b  h) (aV (fun s12 h => ?_))
  refine J_aload_n o 1 d_X5_readsLand_15 rfl ?_
  refine J_callV (k := 347) (c := 5) o [] rfl (by decide) (Nat.le_of_ble_eq_true rfl) (Nat.le_of_ble_eq_true rfl) mth_X5_fine iv_X5_fine ml_RX5_121 ⟨Nat.le_of_ble_eq_true rfl, Nat.le_of_ble_eq_true rfl⟩ rfl rfl (Nat.le_of_ble_eq_true rfl) ⟨Nat.le_refl _, Nat.le_refl _⟩ d_X5_readsLand_16 (w_X5_fine (xL x) b  h) (aZ (fun r16 s16 hzr16 h => ?_))
  refine J_if_ne o 23 d_X5_readsLand_19 rfl (fun c19 => ?_) (fun c19 => ?_)
  · replace h := h.1 c19
    refine J_aload_n o 1 d_X5_readsLand_23 rfl ?_
    refine J_iconst (v := 1) o d_X5_readsLand_24 iconst_1 ?_
    refine J_callV (k := 347) (c := 5) o [.int 1] rfl (by decide) (Nat.le_of_ble_eq_true rfl) (Nat.le_of_ble_eq_true rfl) mth_X5_isTold iv_X5_isTold ml_RX5_178 ⟨Nat.le_of_ble_eq_true rfl, Nat.le_of_ble_eq_true rfl⟩ rfl rfl (Nat.le_of_ble_eq_true rfl) ⟨Nat.le_refl _, Nat.le_refl _⟩ d_X5_readsLand_25 (w_X5_isTold (xL x) b  h) (aZ (fun r25 s25 hzr25 h => ?_))
    refine J_if_eq o 55 d_X5_readsLand_28 rfl (fun c28 => ?_) (fun c28 => ?_)
    · replace h := h.1 c28
      refine J_sub [1, 0] rfl ?_
      exact c_X5_readsLand_55 o   l1_9 s25  h
    · replace h := h.2 c28
      refine J_aload_n o 1 d_X5_readsLand_31 rfl ?_
      refine J_getR (t := 351) o fl_RX5_23 rfl (Nat.le_of_ble_eq_true rfl) (Nat.le_of_ble_eq_true rfl) rfl rfl d_X5_readsLand_32 ?_
      refine J_bipush (v := 6) o d_X5_readsLand_35 bipush_6 ?_
      have b37 := h.1
      replace h := h.2
      refine J_iald o A_351 (vpc (rfl : ln 351 = 1098) b37) d_X5_readsLand_37 ?_
      refine J_aload_n o 1 d_X5_readsLand_38 rfl ?_
      refine J_getR (t := 351) o fl_RX5_23 rfl (Nat.le_of_ble_eq_true rfl) (Nat.le_of_ble_eq_true rfl) rfl rfl d_X5_readsLand_39 ?_
      refine J_bipush (v := 7) o d_X5_readsLand_42 bipush_7 ?_
      have b44 := h.1
      replace h := h.2
      refine J_iald o A_351 (vpc (rfl : ln 351 = 1098) b44) d_X5_readsLand_44 ?_
      refine J_callS o [.int (s25 351 (6 : Int32).toNatClampNeg), .int (s25 351 (7 : Int32).toNatClampNeg)] mth_X5_cellAt st_X5_cellAt ml_RX5_71 ⟨Nat.le_of_ble_eq_true rfl, Nat.le_of_ble_eq_true rfl⟩ rfl rfl (Nat.le_of_ble_eq_true rfl) ⟨Nat.le_refl _, Nat.le_refl _⟩ d_X5_readsLand_45 (w_X5_cellAt (xL x) b  h) (aI (fun r45 s45 h => ?_))
      refine J_aload_n o 1 d_X5_readsLand_48 rfl ?_
      refine J_getI o fl_RX5_168 rfl (Nat.le_of_ble_eq_true rfl) (Nat.le_of_ble_eq_true rfl) rfl d_X5_readsLand_49 ?_
      refine J_icmp_eq o 87 d_X5_readsLand_52 rfl (fun c52 => ?_) (fun c52 => ?_)
      · replace h := h.1 c52
        refine J_iconst (v := 1) o d_X5_readsLand_87 iconst_1 ?_
        refine J_goto o 92 d_X5_readsLand_88 rfl ?_
        refine J_istore_n (lv' := [(2, .int 1), (1, .int l1_9), (0, .ref (wB (wM b) + 347))]) o d_X5_readsLand_92 (by decide) rfl ?_
        refine J_iconst (v := 0) o d_X5_readsLand_93 iconst_0 ?_
        refine J_istore_n (lv' := [(3, .int 0), (2, .int 1), (1, .int l1_9), (0, .ref (wB (wM b) + 347))]) o d_X5_readsLand_94 (by decide) rfl ?_
        refine J_sub [3, 2, 1, 0] rfl ?_
        obtain ⟨n9, h⟩ := h
        exact c_X5_readsLand_95 o   n9 l1_9 1 0 s45  h
      · replace h := h.2 c52
        refine J_sub [1, 0] rfl ?_
        exact c_X5_readsLand_55 o   l1_9 s45  h
  · replace h := h.2 c19
    exact J_vret o d_X5_readsLand_22 ⟨rfl, h⟩
theorem d_X5_wordOf_0 : decode cX5_wordOf 0 = .ok (.iload_n 0, 1) := by decide +kernel
theorem d_X5_wordOf_1 : decode cX5_wordOf 1 = .ok (.tableswitch 71 0 7 #[47, 50, 53, 56, 59, 62, 65, 68], 47) := by decide +kernel
theorem d_X5_wordOf_48 : decode cX5_wordOf 48 = .ok (.ldc 137, 2) := by decide +kernel
theorem d_X5_wordOf_50 : decode cX5_wordOf 50 = .ok (.areturn, 1) := by decide +kernel
theorem d_X5_wordOf_51 : decode cX5_wordOf 51 = .ok (.ldc 139, 2) := by decide +kernel
theorem d_X5_wordOf_53 : decode cX5_wordOf 53 = .ok (.areturn, 1) := by decide +kernel
theorem d_X5_wordOf_54 : decode cX5_wordOf 54 = .ok (.ldc 141, 2) := by decide +kernel
theorem d_X5_wordOf_56 : decode cX5_wordOf 56 = .ok (.areturn, 1) := by decide +kernel
theorem d_X5_wordOf_57 : decode cX5_wordOf 57 = .ok (.ldc 143, 2) := by decide +kernel
theorem d_X5_wordOf_59 : decode cX5_wordOf 59 = .ok (.areturn, 1) := by decide +kernel
theorem d_X5_wordOf_60 : decode cX5_wordOf 60 = .ok (.ldc 145, 2) := by decide +kernel
theorem d_X5_wordOf_62 : decode cX5_wordOf 62 = .ok (.areturn, 1) := by decide +kernel
theorem d_X5_wordOf_63 : decode cX5_wordOf 63 = .ok (.ldc 147, 2) := by decide +kernel
theorem d_X5_wordOf_65 : decode cX5_wordOf 65 = .ok (.areturn, 1) := by decide +kernel
theorem d_X5_wordOf_66 : decode cX5_wordOf 66 = .ok (.ldc 149, 2) := by decide +kernel
theorem d_X5_wordOf_68 : decode cX5_wordOf 68 = .ok (.areturn, 1) := by decide +kernel
theorem d_X5_wordOf_69 : decode cX5_wordOf 69 = .ok (.ldc 151, 2) := by decide +kernel
theorem d_X5_wordOf_71 : decode cX5_wordOf 71 = .ok (.areturn, 1) := by decide +kernel
theorem d_X5_wordOf_72 : decode cX5_wordOf 72 = .ok (.ldc 153, 2) := by decide +kernel
theorem d_X5_wordOf_74 : decode cX5_wordOf 74 = .ok (.areturn, 1) := by decide +kernel
abbrev rm_X5_wordOf : Room := { frames := 0, cells := 0, slots := 0, locals := 0 }
set_option maxHeartbeats 4000000 in
set_option maxRecDepth 20000 in
theorem w_X5_wordOf (l : Launch) (b : Wy) {v0 : Int32} {σ : Sg} {K : Nat → Sg → Prop}  (h : m_X5_wordOf v0 σ K) : Ct l (wM b) yX5_wordOf cX5_wordOf 1 (some (.object "java/lang/String")) rm_X5_wordOf [.int v0] σ (PS (wM b) K) := by
  unfold m_X5_wordOf at h
  refine Ct.of (own := RX5) (by decide +kernel) rfl (Nat.le_of_ble_eq_true rfl) (fun x hx o => ?_)
  subst hx
  show J x (wM b) (FinC x (wM b) (PS (wM b) K) (0, 0)) 0 [(0, .int v0)] [] (0, 0) σ
  refine J_iload_n o 0 d_X5_wordOf_0 rfl ?_
  rcases tsw0_8 v0 with c1 | c1 | c1 | c1 | c1 | c1 | c1 | c1 | c1
  · replace h := h.1 c1
    refine J_tswOut o 72 d_X5_wordOf_1 (tswO0_8 c1) rfl ?_
    refine J_ldcS (i := 31) (tx := "nw") o (List.mem_of_getElem? (i := 31) rfl) d_X5_wordOf_72 ?_
    exact J_aret o (Or.inl ⟨_, rfl⟩) d_X5_wordOf_74 ⟨_, rfl, (Nat.le_of_ble_eq_true rfl), h⟩
  · replace h := h.2.1 c1
    refine J_tswIn o 0 c1 48 d_X5_wordOf_1 (by decide) (by decide) rfl rfl ?_
    refine J_ldcS (i := 23) (tx := "o") o (List.mem_of_getElem? (i := 23) rfl) d_X5_wordOf_48 ?_
    exact J_aret o (Or.inl ⟨_, rfl⟩) d_X5_wordOf_50 ⟨_, rfl, (Nat.le_of_ble_eq_true rfl), h⟩
  · replace h := h.2.2.1 c1
    refine J_tswIn o 1 c1 51 d_X5_wordOf_1 (by decide) (by decide) rfl rfl ?_
    refine J_ldcS (i := 24) (tx := "n") o (List.mem_of_getElem? (i := 24) rfl) d_X5_wordOf_51 ?_
    exact J_aret o (Or.inl ⟨_, rfl⟩) d_X5_wordOf_53 ⟨_, rfl, (Nat.le_of_ble_eq_true rfl), h⟩
  · replace h := h.2.2.2.1 c1
    refine J_tswIn o 2 c1 54 d_X5_wordOf_1 (by decide) (by decide) rfl rfl ?_
    refine J_ldcS (i := 25) (tx := "ne") o (List.mem_of_getElem? (i := 25) rfl) d_X5_wordOf_54 ?_
    exact J_aret o (Or.inl ⟨_, rfl⟩) d_X5_wordOf_56 ⟨_, rfl, (Nat.le_of_ble_eq_true rfl), h⟩
  · replace h := h.2.2.2.2.1 c1
    refine J_tswIn o 3 c1 57 d_X5_wordOf_1 (by decide) (by decide) rfl rfl ?_
    refine J_ldcS (i := 26) (tx := "e") o (List.mem_of_getElem? (i := 26) rfl) d_X5_wordOf_57 ?_
    exact J_aret o (Or.inl ⟨_, rfl⟩) d_X5_wordOf_59 ⟨_, rfl, (Nat.le_of_ble_eq_true rfl), h⟩
  · replace h := h.2.2.2.2.2.1 c1
    refine J_tswIn o 4 c1 60 d_X5_wordOf_1 (by decide) (by decide) rfl rfl ?_
    refine J_ldcS (i := 27) (tx := "se") o (List.mem_of_getElem? (i := 27) rfl) d_X5_wordOf_60 ?_
    exact J_aret o (Or.inl ⟨_, rfl⟩) d_X5_wordOf_62 ⟨_, rfl, (Nat.le_of_ble_eq_true rfl), h⟩
  · replace h := h.2.2.2.2.2.2.1 c1
    refine J_tswIn o 5 c1 63 d_X5_wordOf_1 (by decide) (by decide) rfl rfl ?_
    refine J_ldcS (i := 28) (tx := "s") o (List.mem_of_getElem? (i := 28) rfl) d_X5_wordOf_63 ?_
    exact J_aret o (Or.inl ⟨_, rfl⟩) d_X5_wordOf_65 ⟨_, rfl, (Nat.le_of_ble_eq_true rfl), h⟩
  · replace h := h.2.2.2.2.2.2.2.1 c1
    refine J_tswIn o 6 c1 66 d_X5_wordOf_1 (by decide) (by decide) rfl rfl ?_
    refine J_ldcS (i := 29) (tx := "sw") o (List.mem_of_getElem? (i := 29) rfl) d_X5_wordOf_66 ?_
    exact J_aret o (Or.inl ⟨_, rfl⟩) d_X5_wordOf_68 ⟨_, rfl, (Nat.le_of_ble_eq_true rfl), h⟩
  · replace h := h.2.2.2.2.2.2.2.2 c1
    refine J_tswIn o 7 c1 69 d_X5_wordOf_1 (by decide) (by decide) rfl rfl ?_
    refine J_ldcS (i := 30) (tx := "w") o (List.mem_of_getElem? (i := 30) rfl) d_X5_wordOf_69 ?_
    exact J_aret o (Or.inl ⟨_, rfl⟩) d_X5_wordOf_71 ⟨_, rfl, (Nat.le_of_ble_eq_true rfl), h⟩
theorem d_X5_direction_0 : decode cX5_direction 0 = .ok (.iconst 0, 1) := by decide +kernel
theorem d_X5_direction_1 : decode cX5_direction 1 = .ok (.istore_n 1, 1) := by decide +kernel
theorem d_X5_direction_2 : decode cX5_direction 2 = .ok (.iload_n 1, 1) := by decide +kernel
theorem d_X5_direction_3 : decode cX5_direction 3 = .ok (.bipush 9, 2) := by decide +kernel
theorem d_X5_direction_5 : decode cX5_direction 5 = .ok (.if_icmp .ge 22, 3) := by decide +kernel
theorem d_X5_direction_8 : decode cX5_direction 8 = .ok (.aload_n 0, 1) := by decide +kernel
theorem d_X5_direction_9 : decode cX5_direction 9 = .ok (.iload_n 1, 1) := by decide +kernel
theorem d_X5_direction_10 : decode cX5_direction 10 = .ok (.invokestatic 155, 3) := by decide +kernel
theorem d_X5_direction_13 : decode cX5_direction 13 = .ok (.invokevirtual 159, 3) := by decide +kernel
theorem d_X5_direction_16 : decode cX5_direction 16 = .ok (.ifCond .eq 5, 3) := by decide +kernel
theorem d_X5_direction_19 : decode cX5_direction 19 = .ok (.iload_n 1, 1) := by decide +kernel
theorem d_X5_direction_20 : decode cX5_direction 20 = .ok (.ireturn, 1) := by decide +kernel
theorem d_X5_direction_21 : decode cX5_direction 21 = .ok (.iinc 1 1, 3) := by decide +kernel
theorem d_X5_direction_24 : decode cX5_direction 24 = .ok (.goto (-22), 3) := by decide +kernel
theorem d_X5_direction_27 : decode cX5_direction 27 = .ok (.aload_n 0, 1) := by decide +kernel
theorem d_X5_direction_28 : decode cX5_direction 28 = .ok (.iconst 1, 1) := by decide +kernel
theorem d_X5_direction_29 : decode cX5_direction 29 = .ok (.aload_n 0, 1) := by decide +kernel
theorem d_X5_direction_30 : decode cX5_direction 30 = .ok (.getfield 92, 3) := by decide +kernel
theorem d_X5_direction_33 : decode cX5_direction 33 = .ok (.invokevirtual 132, 3) := by decide +kernel
theorem d_X5_direction_36 : decode cX5_direction 36 = .ok (.iconst 0, 1) := by decide +kernel
theorem d_X5_direction_37 : decode cX5_direction 37 = .ok (.ireturn, 1) := by decide +kernel
abbrev rm_X5_direction : Room := { frames := 6, cells := 0, slots := 0, locals := 128 }
set_option maxHeartbeats 4000000 in
set_option maxRecDepth 20000 in
theorem c_X5_direction_2 {x : Cx} {b : Wy} (o : Ok x (wM b) cX5_direction 2 RX5 (some .int) rm_X5_direction)  {K : Int32 → Sg → Prop}   : ∀ (n : Nat) (l1 : Int32) (σ : Sg), m_X5_direction_l2  K  n l1 σ → J x (wM b) (FinC x (wM b) (PI K) (0, 0)) 2 [(0, .ref (wB (wM b) + 347)), (1, .int l1)] [] (0, 0) σ := by
  intro n
  induction n with
  | zero =>
    intro l1 σ  h
    exact False.elim h
  | succ n ih =>
    intro l1 σ  h
    unfold m_X5_direction_l2 at h
    refine J_iload_n o 1 d_X5_direction_2 rfl ?_
    refine J_bipush (v := 9) o d_X5_direction_3 bipush_9 ?_
    refine J_icmp_ge o 27 d_X5_direction_5 rfl (fun c5 => ?_) (fun c5 => ?_)
    · replace h := h.1 c5
      refine J_aload_n o 0 d_X5_direction_27 rfl ?_
      refine J_iconst (v := 1) o d_X5_direction_28 iconst_1 ?_
      refine J_aload_n o 0 d_X5_direction_29 rfl ?_
      refine J_getI o fl_RX5_92 rfl (Nat.le_of_ble_eq_true rfl) (Nat.le_of_ble_eq_true rfl) rfl d_X5_direction_30 ?_
      refine J_callV (k := 347) (c := 5) o [.int 1, .int (σ 347 4)] rfl (by decide) (Nat.le_of_ble_eq_true rfl) (Nat.le_of_ble_eq_true rfl) mth_X5_wrong iv_X5_wrong ml_RX5_132 ⟨Nat.le_of_ble_eq_true rfl, Nat.le_of_ble_eq_true rfl⟩ rfl rfl (Nat.le_of_ble_eq_true rfl) ⟨Nat.le_refl _, Nat.le_refl _⟩ d_X5_direction_33 (w_X5_wrong (xL x) b  h) (aV (fun s33 h => ?_))
      refine J_iconst (v := 0) o d_X5_direction_36 iconst_0 ?_
      exact J_iret o d_X5_direction_37 ⟨_, rfl, h⟩
    · replace h := h.2 c5
      refine J_aload_n o 0 d_X5_direction_8 rfl ?_
      refine J_iload_n o 1 d_X5_direction_9 rfl ?_
      refine J_callS o [.int l1] mth_X5_wordOf st_X5_wordOf ml_RX5_155 ⟨Nat.le_of_ble_eq_true rfl, Nat.le_of_ble_eq_true rfl⟩ rfl rfl (Nat.le_of_ble_eq_true rfl) ⟨Nat.le_refl _, Nat.le_refl _⟩ d_X5_direction_10 (w_X5_wordOf (xL x) b  h) (aS (fun r10 s10 hr10 h => ?_))
      refine J_callV (k := 347) (c := 5) o [.ref (wK (wM b) r10)] rfl (by decide) (Nat.le_of_ble_eq_true rfl) (Nat.le_of_ble_eq_true rfl) mth_X5_takes iv_X5_takes ml_RX5_159 ⟨Nat.le_of_ble_eq_true rfl, Nat.le_of_ble_eq_true rfl⟩ rfl rfl (Nat.le_of_ble_eq_true rfl) ⟨Nat.le_refl _, Nat.le_refl _⟩ d_X5_direction_13 (w_X5_takes (xL x) b hr10 h) (aZ (fun r13 s13 hzr13 h => ?_))
      refine J_if_eq o 21 d_X5_direction_16 rfl (fun c16 => ?_) (fun c16 => ?_)
      · replace h := h.1 c16
        refine J_iinc (lv' := [(1, .int (l1 + 1)), (0, .ref (wB (wM b) + 347))]) o 1 d_X5_direction_21 (by decide) rfl iconst_1 rfl ?_
        refine J_goto o 2 d_X5_direction_24 rfl ?_
        refine J_sub [1, 0] rfl ?_
        exact ih (l1 + 1) s13  h
      · replace h := h.2 c16
        refine J_iload_n o 1 d_X5_direction_19 rfl ?_
        exact J_iret o d_X5_direction_20 ⟨_, rfl, h⟩
set_option maxHeartbeats 4000000 in
set_option maxRecDepth 20000 in
theorem w_X5_direction (l : Launch) (b : Wy)  {σ : Sg} {K : Int32 → Sg → Prop}  (h : m_X5_direction  σ K) : Ct l (wM b) yX5_direction cX5_direction 2 (some .int) rm_X5_direction [.ref (wB (wM b) + 347)] σ (PI K) := by
  unfold m_X5_direction at h
  refine Ct.of (own := RX5) (by decide +kernel) rfl (Nat.le_of_ble_eq_true rfl) (fun x hx o => ?_)
  subst hx
  show J x (wM b) (FinC x (wM b) (PI K) (0, 0)) 0 [(0, .ref (wB (wM b) + 347))] [] (0, 0) σ
  refine J_iconst (v := 0) o d_X5_direction_0 iconst_0 ?_
  refine J_istore_n (lv' := [(1, .int 0), (0, .ref (wB (wM b) + 347))]) o d_X5_direction_1 (by decide) rfl ?_
  refine J_sub [1, 0] rfl ?_
  obtain ⟨n9, h⟩ := h
  exact c_X5_direction_2 o   n9 0 σ  h
theorem d_X5_readsCurrent_0 : decode cX5_readsCurrent 0 = .ok (.aload_n 0, 1) := by decide +kernel
theorem d_X5_readsCurrent_1 : decode cX5_readsCurrent 1 = .ok (.iconst 0, 1) := by decide +kernel
theorem d_X5_readsCurrent_2 : decode cX5_readsCurrent 2 = .ok (.aload_n 0, 1) := by decide +kernel
theorem d_X5_readsCurrent_3 : decode cX5_readsCurrent 3 = .ok (.getfield 23, 3) := by decide +kernel
theorem d_X5_readsCurrent_6 : decode cX5_readsCurrent 6 = .ok (.iconst 0, 1) := by decide +kernel
theorem d_X5_readsCurrent_7 : decode cX5_readsCurrent 7 = .ok (.iaload, 1) := by decide +kernel
theorem d_X5_readsCurrent_8 : decode cX5_readsCurrent 8 = .ok (.iconst 1, 1) := by decide +kernel
theorem d_X5_readsCurrent_9 : decode cX5_readsCurrent 9 = .ok (.isub, 1) := by decide +kernel
theorem d_X5_readsCurrent_10 : decode cX5_readsCurrent 10 = .ok (.invokevirtual 165, 3) := by decide +kernel
theorem d_X5_readsCurrent_13 : decode cX5_readsCurrent 13 = .ok (.istore_n 1, 1) := by decide +kernel
theorem d_X5_readsCurrent_14 : decode cX5_readsCurrent 14 = .ok (.aload_n 0, 1) := by decide +kernel
theorem d_X5_readsCurrent_15 : decode cX5_readsCurrent 15 = .ok (.iconst 0, 1) := by decide +kernel
theorem d_X5_readsCurrent_16 : decode cX5_readsCurrent 16 = .ok (.aload_n 0, 1) := by decide +kernel
theorem d_X5_readsCurrent_17 : decode cX5_readsCurrent 17 = .ok (.getfield 23, 3) := by decide +kernel
theorem d_X5_readsCurrent_20 : decode cX5_readsCurrent 20 = .ok (.iconst 1, 1) := by decide +kernel
theorem d_X5_readsCurrent_21 : decode cX5_readsCurrent 21 = .ok (.iaload, 1) := by decide +kernel
theorem d_X5_readsCurrent_22 : decode cX5_readsCurrent 22 = .ok (.iconst 1, 1) := by decide +kernel
theorem d_X5_readsCurrent_23 : decode cX5_readsCurrent 23 = .ok (.isub, 1) := by decide +kernel
theorem d_X5_readsCurrent_24 : decode cX5_readsCurrent 24 = .ok (.invokevirtual 165, 3) := by decide +kernel
theorem d_X5_readsCurrent_27 : decode cX5_readsCurrent 27 = .ok (.istore_n 2, 1) := by decide +kernel
theorem d_X5_readsCurrent_28 : decode cX5_readsCurrent 28 = .ok (.aload_n 0, 1) := by decide +kernel
theorem d_X5_readsCurrent_29 : decode cX5_readsCurrent 29 = .ok (.iload_n 1, 1) := by decide +kernel
theorem d_X5_readsCurrent_30 : decode cX5_readsCurrent 30 = .ok (.aload_n 0, 1) := by decide +kernel
theorem d_X5_readsCurrent_31 : decode cX5_readsCurrent 31 = .ok (.getfield 23, 3) := by decide +kernel
theorem d_X5_readsCurrent_34 : decode cX5_readsCurrent 34 = .ok (.iconst 0, 1) := by decide +kernel
theorem d_X5_readsCurrent_35 : decode cX5_readsCurrent 35 = .ok (.iaload, 1) := by decide +kernel
theorem d_X5_readsCurrent_36 : decode cX5_readsCurrent 36 = .ok (.iconst 1, 1) := by decide +kernel
theorem d_X5_readsCurrent_37 : decode cX5_readsCurrent 37 = .ok (.isub, 1) := by decide +kernel
theorem d_X5_readsCurrent_38 : decode cX5_readsCurrent 38 = .ok (.invokevirtual 165, 3) := by decide +kernel
theorem d_X5_readsCurrent_41 : decode cX5_readsCurrent 41 = .ok (.istore_n 3, 1) := by decide +kernel
theorem d_X5_readsCurrent_42 : decode cX5_readsCurrent 42 = .ok (.aload_n 0, 1) := by decide +kernel
theorem d_X5_readsCurrent_43 : decode cX5_readsCurrent 43 = .ok (.iload_n 2, 1) := by decide +kernel
theorem d_X5_readsCurrent_44 : decode cX5_readsCurrent 44 = .ok (.aload_n 0, 1) := by decide +kernel
theorem d_X5_readsCurrent_45 : decode cX5_readsCurrent 45 = .ok (.getfield 23, 3) := by decide +kernel
theorem d_X5_readsCurrent_48 : decode cX5_readsCurrent 48 = .ok (.iconst 1, 1) := by decide +kernel
theorem d_X5_readsCurrent_49 : decode cX5_readsCurrent 49 = .ok (.iaload, 1) := by decide +kernel
theorem d_X5_readsCurrent_50 : decode cX5_readsCurrent 50 = .ok (.iconst 1, 1) := by decide +kernel
theorem d_X5_readsCurrent_51 : decode cX5_readsCurrent 51 = .ok (.isub, 1) := by decide +kernel
theorem d_X5_readsCurrent_52 : decode cX5_readsCurrent 52 = .ok (.invokevirtual 165, 3) := by decide +kernel
theorem d_X5_readsCurrent_55 : decode cX5_readsCurrent 55 = .ok (.istore 4, 2) := by decide +kernel
theorem d_X5_readsCurrent_57 : decode cX5_readsCurrent 57 = .ok (.aload_n 0, 1) := by decide +kernel
theorem d_X5_readsCurrent_58 : decode cX5_readsCurrent 58 = .ok (.invokevirtual 162, 3) := by decide +kernel
theorem d_X5_readsCurrent_61 : decode cX5_readsCurrent 61 = .ok (.istore 5, 2) := by decide +kernel
theorem d_X5_readsCurrent_63 : decode cX5_readsCurrent 63 = .ok (.iload_n 1, 1) := by decide +kernel
theorem d_X5_readsCurrent_64 : decode cX5_readsCurrent 64 = .ok (.istore 6, 2) := by decide +kernel
theorem d_X5_readsCurrent_66 : decode cX5_readsCurrent 66 = .ok (.iload 6, 2) := by decide +kernel
theorem d_X5_readsCurrent_68 : decode cX5_readsCurrent 68 = .ok (.iload_n 3, 1) := by decide +kernel
theorem d_X5_readsCurrent_69 : decode cX5_readsCurrent 69 = .ok (.if_icmp .gt 50, 3) := by decide +kernel
theorem d_X5_readsCurrent_72 : decode cX5_readsCurrent 72 = .ok (.aload_n 0, 1) := by decide +kernel
theorem d_X5_readsCurrent_73 : decode cX5_readsCurrent 73 = .ok (.invokevirtual 121, 3) := by decide +kernel
theorem d_X5_readsCurrent_76 : decode cX5_readsCurrent 76 = .ok (.ifCond .eq 43, 3) := by decide +kernel
theorem d_X5_readsCurrent_79 : decode cX5_readsCurrent 79 = .ok (.iload_n 2, 1) := by decide +kernel
theorem d_X5_readsCurrent_80 : decode cX5_readsCurrent 80 = .ok (.istore 7, 2) := by decide +kernel
theorem d_X5_readsCurrent_82 : decode cX5_readsCurrent 82 = .ok (.iload 7, 2) := by decide +kernel
theorem d_X5_readsCurrent_84 : decode cX5_readsCurrent 84 = .ok (.iload 4, 2) := by decide +kernel
theorem d_X5_readsCurrent_86 : decode cX5_readsCurrent 86 = .ok (.if_icmp .gt 27, 3) := by decide +kernel
theorem d_X5_readsCurrent_89 : decode cX5_readsCurrent 89 = .ok (.aload_n 0, 1) := by decide +kernel
theorem d_X5_readsCurrent_90 : decode cX5_readsCurrent 90 = .ok (.getfield 23, 3) := by decide +kernel
theorem d_X5_readsCurrent_93 : decode cX5_readsCurrent 93 = .ok (.sipush 849, 3) := by decide +kernel
theorem d_X5_readsCurrent_96 : decode cX5_readsCurrent 96 = .ok (.iload 6, 2) := by decide +kernel
theorem d_X5_readsCurrent_98 : decode cX5_readsCurrent 98 = .ok (.iload 7, 2) := by decide +kernel
theorem d_X5_readsCurrent_100 : decode cX5_readsCurrent 100 = .ok (.invokestatic 71, 3) := by decide +kernel
theorem d_X5_readsCurrent_103 : decode cX5_readsCurrent 103 = .ok (.iadd, 1) := by decide +kernel
theorem d_X5_readsCurrent_104 : decode cX5_readsCurrent 104 = .ok (.iload 5, 2) := by decide +kernel
theorem d_X5_readsCurrent_106 : decode cX5_readsCurrent 106 = .ok (.iastore, 1) := by decide +kernel
theorem d_X5_readsCurrent_107 : decode cX5_readsCurrent 107 = .ok (.iinc 7 1, 3) := by decide +kernel
theorem d_X5_readsCurrent_110 : decode cX5_readsCurrent 110 = .ok (.goto (-28), 3) := by decide +kernel
theorem d_X5_readsCurrent_113 : decode cX5_readsCurrent 113 = .ok (.iinc 6 1, 3) := by decide +kernel
theorem d_X5_readsCurrent_116 : decode cX5_readsCurrent 116 = .ok (.goto (-50), 3) := by decide +kernel
theorem d_X5_readsCurrent_119 : decode cX5_readsCurrent 119 = .ok (.return_, 1) := by decide +kernel
abbrev rm_X5_readsCurrent : Room := { frames := 7, cells := 0, slots := 0, locals := 149 }
set_option maxHeartbeats 4000000 in
set_option maxRecDepth 20000 in
theorem c_X5_readsCurrent_82 {x : Cx} {b : Wy} (o : Ok x (wM b) cX5_readsCurrent 8 RX5 none rm_X5_readsCurrent)  {K : Sg → Prop}  {KO66 : Int32 → Int32 → Int32 → Int32 → Int32 → Sg → Prop}  (hKO66 : ∀ (l2 : Int32) (l3 : Int32) (l4 : Int32) (l5 : Int32) (l6 : Int32) (σ : Sg), KO66 l2 l3 l4 l5 l6 σ → J x (wM b) (FinC x (wM b) (PV K) (0, 0)) 66 [(0, .ref (wB (wM b) + 347)), (2, .int l2), (3, .int l3), (4, .int l4), (5, .int l5), (6, .int l6)] [] (0, 0) σ) : ∀ (n : Nat) (l2 : Int32) (l3 : Int32) (l4 : Int32) (l5 : Int32) (l6 : Int32) (l7 : Int32) (σ : Sg), m_X5_readsCurrent_l82  K KO66 n l2 l3 l4 l5 l6 l7 σ → J x (wM b) (FinC x (wM b) (PV K) (0, 0)) 82 [(0, .ref (wB (wM b) + 347)), (2, .int l2), (3, .int l3), (4, .int l4), (5, .int l5), (6, .int l6), (7, .int l7)] [] (0, 0) σ := by
  intro n
  induction n with
  | zero =>
    intro l2 l3 l4 l5 l6 l7 σ  h
    exact False.elim h
  | succ n ih =>
    intro l2 l3 l4 l5 l6 l7 σ  h
    unfold m_X5_readsCurrent_l82 at h
    refine J_iload o 6 d_X5_readsCurrent_82 rfl ?_
    refine J_iload o 3 d_X5_readsCurrent_84 rfl ?_
    refine J_icmp_gt o 113 d_X5_readsCurrent_86 rfl (fun c86 => ?_) (fun c86 => ?_)
    · replace h := h.1 c86
      refine J_iinc (lv' := [(6, .int (l6 + 1)), (0, .ref (wB (wM b) + 347)), (2, .int l2), (3, .int l3), (4, .int l4), (5, .int l5), (7, .int l7)]) o 5 d_X5_readsCurrent_113 (by decide) rfl iconst_1 rfl ?_
      refine J_goto o 66 d_X5_readsCurrent_116 rfl ?_
      refine J_sub [1, 2, 3, 4, 5, 0] rfl ?_
      exact hKO66 l2 l3 l4 l5 (l6 + 1) σ  h
    · replace h := h.2 c86
      refine J_aload_n o 0 d_X5_readsCurrent_89 rfl ?_
      refine J_getR (t := 351) o fl_RX5_23 rfl (Nat.le_of_ble_eq_true rfl) (Nat.le_of_ble_eq_true rfl) rfl rfl d_X5_readsCurrent_90 ?_
      refine J_sipush (v := 849) o d_X5_readsCurrent_93 sipush_849 ?_
      refine J_iload o 5 d_X5_readsCurrent_96 rfl ?_
      refine J_iload o 6 d_X5_readsCurrent_98 rfl ?_
      refine J_callS o [.int l6, .int l7] mth_X5_cellAt st_X5_cellAt ml_RX5_71 ⟨Nat.le_of_ble_eq_true rfl, Nat.le_of_ble_eq_true rfl⟩ rfl rfl (Nat.le_of_ble_eq_true rfl) ⟨Nat.le_refl _, Nat.le_refl _⟩ d_X5_readsCurrent_100 (w_X5_cellAt (xL x) b  h) (aI (fun r100 s100 h => ?_))
      refine J_iadd o d_X5_readsCurrent_103 ?_
      refine J_iload o 4 d_X5_readsCurrent_104 rfl ?_
      have b106 := h.1
      replace h := h.2
      refine J_iast o A_351 (vpc (rfl : ln 351 = 1098) b106) d_X5_readsCurrent_106 ?_
      refine J_nS (fun s106 es106 => ?_)
      replace h := h s106 es106
      refine J_iinc (lv' := [(7, .int (l7 + 1)), (0, .ref (wB (wM b) + 347)), (2, .int l2), (3, .int l3), (4, .int l4), (5, .int l5), (6, .int l6)]) o 6 d_X5_readsCurrent_107 (by decide) rfl iconst_1 rfl ?_
      refine J_goto o 82 d_X5_readsCurrent_110 rfl ?_
      refine J_sub [1, 2, 3, 4, 5, 6, 0] rfl ?_
      exact ih l2 l3 l4 l5 l6 (l7 + 1) s106  h
set_option maxHeartbeats 4000000 in
set_option maxRecDepth 20000 in
theorem c_X5_readsCurrent_66 {x : Cx} {b : Wy} (o : Ok x (wM b) cX5_readsCurrent 8 RX5 none rm_X5_readsCurrent)  {K : Sg → Prop}   : ∀ (n : Nat) (l2 : Int32) (l3 : Int32) (l4 : Int32) (l5 : Int32) (l6 : Int32) (σ : Sg), m_X5_readsCurrent_l66  K  n l2 l3 l4 l5 l6 σ → J x (wM b) (FinC x (wM b) (PV K) (0, 0)) 66 [(0, .ref (wB (wM b) + 347)), (2, .int l2), (3, .int l3), (4, .int l4), (5, .int l5), (6, .int l6)] [] (0, 0) σ := by
  intro n
  induction n with
  | zero =>
    intro l2 l3 l4 l5 l6 σ  h
    exact False.elim h
  | succ n ih =>
    intro l2 l3 l4 l5 l6 σ  h
    unfold m_X5_readsCurrent_l66 at h
    refine J_iload o 5 d_X5_readsCurrent_66 rfl ?_
    refine J_iload_n o 2 d_X5_readsCurrent_68 rfl ?_
    refine J_icmp_gt o 119 d_X5_readsCurrent_69 rfl (fun c69 => ?_) (fun c69 => ?_)
    · replace h := h.1 c69
      exact J_vret o d_X5_readsCurrent_119 ⟨rfl, h⟩
    · replace h := h.2 c69
      refine J_aload_n o 0 d_X5_readsCurrent_72 rfl ?_
      refine J_callV (k := 347) (c := 5) o [] rfl (by decide) (Nat.le_of_ble_eq_true rfl) (Nat.le_of_ble_eq_true rfl) mth_X5_fine iv_X5_fine ml_RX5_121 ⟨Nat.le_of_ble_eq_true rfl, Nat.le_of_ble_eq_true rfl⟩ rfl rfl (Nat.le_of_ble_eq_true rfl) ⟨Nat.le_refl _, Nat.le_refl _⟩ d_X5_readsCurrent_73 (w_X5_fine (xL x) b  h) (aZ (fun r73 s73 hzr73 h => ?_))
      refine J_if_eq o 119 d_X5_readsCurrent_76 rfl (fun c76 => ?_) (fun c76 => ?_)
      · replace h := h.1 c76
        exact J_vret o d_X5_readsCurrent_119 ⟨rfl, h⟩
      · replace h := h.2 c76
        refine J_iload_n o 1 d_X5_readsCurrent_79 rfl ?_
        refine J_istore (lv' := [(7, .int l2), (0, .ref (wB (wM b) + 347)), (2, .int l2), (3, .int l3), (4, .int l4), (5, .int l5), (6, .int l6)]) o d_X5_readsCurrent_80 (by decide) rfl ?_
        refine J_sub [1, 2, 3, 4, 5, 6, 0] rfl ?_
        obtain ⟨n9, h⟩ := h
        exact c_X5_readsCurrent_82 o  ih n9 l2 l3 l4 l5 l6 l2 s73  h
set_option maxHeartbeats 4000000 in
set_option maxRecDepth 20000 in
theorem w_X5_readsCurrent (l : Launch) (b : Wy)  {σ : Sg} {K : Sg → Prop}  (h : m_X5_readsCurrent  σ K) : Ct l (wM b) yX5_readsCurrent cX5_readsCurrent 8 none rm_X5_readsCurrent [.ref (wB (wM b) + 347)] σ (PV K) := by
  unfold m_X5_readsCurrent at h
  refine Ct.of (own := RX5) (by decide +kernel) rfl (Nat.le_of_ble_eq_true rfl) (fun x hx o => ?_)
  subst hx
  show J x (wM b) (FinC x (wM b) (PV K) (0, 0)) 0 [(0, .ref (wB (wM b) + 347))] [] (0, 0) σ
  refine J_aload_n o 0 d_X5_readsCurrent_0 rfl ?_
  refine J_iconst (v := 0) o d_X5_readsCurrent_1 iconst_0 ?_
  refine J_aload_n o 0 d_X5_readsCurrent_2 rfl ?_
  refine J_getR (t := 351) o fl_RX5_23 rfl (Nat.le_of_ble_eq_true rfl) (Nat.le_of_ble_eq_true rfl) rfl rfl d_X5_readsCurrent_3 ?_
  refine J_iconst (v := 0) o d_X5_readsCurrent_6 iconst_0 ?_
  have b7 := h.1
  replace h := h.2
  refine J_iald o A_351 (vpc (rfl : ln 351 = 1098) b7) d_X5_readsCurrent_7 ?_
  refine J_iconst (v := 1) o d_X5_readsCurrent_8 iconst_1 ?_
  refine J_isub o d_X5_readsCurrent_9 ?_
  refine J_callV (k := 347) (c := 5) o [.int 0, .int ((σ 351 (0 : Int32).toNatClampNeg) - 1)] rfl (by decide) (Nat.le_of_ble_eq_true rfl) (Nat.le_of_ble_eq_true rfl) mth_X5_number iv_X5_number ml_RX5_165 ⟨Nat.le_of_ble_eq_true rfl, Nat.le_of_ble_eq_true rfl⟩ rfl rfl (Nat.le_of_ble_eq_true rfl) ⟨Nat.le_refl _, Nat.le_refl _⟩ d_X5_readsCurrent_10 (w_X5_number (xL x) b  h) (aI (fun r10 s10 h => ?_))
  refine J_istore_n (lv' := [(1, .int r10), (0, .ref (wB (wM b) + 347))]) o d_X5_readsCurrent_13 (by decide) rfl ?_
  refine J_aload_n o 1 d_X5_readsCurrent_14 rfl ?_
  refine J_iconst (v := 0) o d_X5_readsCurrent_15 iconst_0 ?_
  refine J_aload_n o 1 d_X5_readsCurrent_16 rfl ?_
  refine J_getR (t := 351) o fl_RX5_23 rfl (Nat.le_of_ble_eq_true rfl) (Nat.le_of_ble_eq_true rfl) rfl rfl d_X5_readsCurrent_17 ?_
  refine J_iconst (v := 1) o d_X5_readsCurrent_20 iconst_1 ?_
  have b21 := h.1
  replace h := h.2
  refine J_iald o A_351 (vpc (rfl : ln 351 = 1098) b21) d_X5_readsCurrent_21 ?_
  refine J_iconst (v := 1) o d_X5_readsCurrent_22 iconst_1 ?_
  refine J_isub o d_X5_readsCurrent_23 ?_
  refine J_callV (k := 347) (c := 5) o [.int 0, .int ((s10 351 (1 : Int32).toNatClampNeg) - 1)] rfl (by decide) (Nat.le_of_ble_eq_true rfl) (Nat.le_of_ble_eq_true rfl) mth_X5_number iv_X5_number ml_RX5_165 ⟨Nat.le_of_ble_eq_true rfl, Nat.le_of_ble_eq_true rfl⟩ rfl rfl (Nat.le_of_ble_eq_true rfl) ⟨Nat.le_refl _, Nat.le_refl _⟩ d_X5_readsCurrent_24 (w_X5_number (xL x) b  h) (aI (fun r24 s24 h => ?_))
  refine J_istore_n (lv' := [(2, .int r24), (1, .int r10), (0, .ref (wB (wM b) + 347))]) o d_X5_readsCurrent_27 (by decide) rfl ?_
  refine J_aload_n o 2 d_X5_readsCurrent_28 rfl ?_
  refine J_iload_n o 1 d_X5_readsCurrent_29 rfl ?_
  refine J_aload_n o 2 d_X5_readsCurrent_30 rfl ?_
  refine J_getR (t := 351) o fl_RX5_23 rfl (Nat.le_of_ble_eq_true rfl) (Nat.le_of_ble_eq_true rfl) rfl rfl d_X5_readsCurrent_31 ?_
  refine J_iconst (v := 0) o d_X5_readsCurrent_34 iconst_0 ?_
  have b35 := h.1
  replace h := h.2
  refine J_iald o A_351 (vpc (rfl : ln 351 = 1098) b35) d_X5_readsCurrent_35 ?_
  refine J_iconst (v := 1) o d_X5_readsCurrent_36 iconst_1 ?_
  refine J_isub o d_X5_readsCurrent_37 ?_
  refine J_callV (k := 347) (c := 5) o [.int r10, .int ((s24 351 (0 : Int32).toNatClampNeg) - 1)] rfl (by decide) (Nat.le_of_ble_eq_true rfl) (Nat.le_of_ble_eq_true rfl) mth_X5_number iv_X5_number ml_RX5_165 ⟨Nat.le_of_ble_eq_true rfl, Nat.le_of_ble_eq_true rfl⟩ rfl rfl (Nat.le_of_ble_eq_true rfl) ⟨Nat.le_refl _, Nat.le_refl _⟩ d_X5_readsCurrent_38 (w_X5_number (xL x) b  h) (aI (fun r38 s38 h => ?_))
  refine J_istore_n (lv' := [(3, .int r38), (2, .int r24), (1, .int r10), (0, .ref (wB (wM b) + 347))]) o d_X5_readsCurrent_41 (by decide) rfl ?_
  refine J_aload_n o 3 d_X5_readsCurrent_42 rfl ?_
  refine J_iload_n o 1 d_X5_readsCurrent_43 rfl ?_
  refine J_aload_n o 3 d_X5_readsCurrent_44 rfl ?_
  refine J_getR (t := 351) o fl_RX5_23 rfl (Nat.le_of_ble_eq_true rfl) (Nat.le_of_ble_eq_true rfl) rfl rfl d_X5_readsCurrent_45 ?_
  refine J_iconst (v := 1) o d_X5_readsCurrent_48 iconst_1 ?_
  have b49 := h.1
  replace h := h.2
  refine J_iald o A_351 (vpc (rfl : ln 351 = 1098) b49) d_X5_readsCurrent_49 ?_
  refine J_iconst (v := 1) o d_X5_readsCurrent_50 iconst_1 ?_
  refine J_isub o d_X5_readsCurrent_51 ?_
  refine J_callV (k := 347) (c := 5) o [.int r24, .int ((s38 351 (1 : Int32).toNatClampNeg) - 1)] rfl (by decide) (Nat.le_of_ble_eq_true rfl) (Nat.le_of_ble_eq_true rfl) mth_X5_number iv_X5_number ml_RX5_165 ⟨Nat.le_of_ble_eq_true rfl, Nat.le_of_ble_eq_true rfl⟩ rfl rfl (Nat.le_of_ble_eq_true rfl) ⟨Nat.le_refl _, Nat.le_refl _⟩ d_X5_readsCurrent_52 (w_X5_number (xL x) b  h) (aI (fun r52 s52 h => ?_))
  refine J_istore (lv' := [(4, .int r52), (3, .int r38), (2, .int r24), (1, .int r10), (0, .ref (wB (wM b) + 347))]) o d_X5_readsCurrent_55 (by decide) rfl ?_
  refine J_aload_n o 4 d_X5_readsCurrent_57 rfl ?_
  refine J_callV (k := 347) (c := 5) o [] rfl (by decide) (Nat.le_of_ble_eq_true rfl) (Nat.le_of_ble_eq_true rfl) mth_X5_direction iv_X5_direction ml_RX5_162 ⟨Nat.le_of_ble_eq_true rfl, Nat.le_of_ble_eq_true rfl⟩ rfl rfl (Nat.le_of_ble_eq_true rfl) ⟨Nat.le_refl _, Nat.le_refl _⟩ d_X5_readsCurrent_58 (w_X5_direction (xL x) b  h) (aI (fun r58 s58 h => ?_))
  refine J_istore (lv' := [(5, .int r58), (4, .int r52), (3, .int r38), (2, .int r24), (1, .int r10), (0, .ref (wB (wM b) + 347))]) o d_X5_readsCurrent_61 (by decide) rfl ?_
  refine J_iload_n o 4 d_X5_readsCurrent_63 rfl ?_
  refine J_istore (lv' := [(6, .int r10), (5, .int r58), (4, .int r52), (3, .int r38), (2, .int r24), (1, .int r10), (0, .ref (wB (wM b) + 347))]) o d_X5_readsCurrent_64 (by decide) rfl ?_
  refine J_sub [6, 4, 3, 2, 1, 0] rfl ?_
  obtain ⟨n9, h⟩ := h
  exact c_X5_readsCurrent_66 o   n9 r24 r38 r52 r58 r10 s58  h
theorem d_X5_takesOnce_0 : decode cX5_takesOnce 0 = .ok (.aload_n 0, 1) := by decide +kernel
theorem d_X5_takesOnce_1 : decode cX5_takesOnce 1 = .ok (.getfield 171, 3) := by decide +kernel
theorem d_X5_takesOnce_4 : decode cX5_takesOnce 4 = .ok (.iload_n 2, 1) := by decide +kernel
theorem d_X5_takesOnce_5 : decode cX5_takesOnce 5 = .ok (.ishr, 1) := by decide +kernel
theorem d_X5_takesOnce_6 : decode cX5_takesOnce 6 = .ok (.iconst 1, 1) := by decide +kernel
theorem d_X5_takesOnce_7 : decode cX5_takesOnce 7 = .ok (.iand, 1) := by decide +kernel
theorem d_X5_takesOnce_8 : decode cX5_takesOnce 8 = .ok (.iconst 1, 1) := by decide +kernel
theorem d_X5_takesOnce_9 : decode cX5_takesOnce 9 = .ok (.if_icmp .eq 11, 3) := by decide +kernel
theorem d_X5_takesOnce_12 : decode cX5_takesOnce 12 = .ok (.aload_n 0, 1) := by decide +kernel
theorem d_X5_takesOnce_13 : decode cX5_takesOnce 13 = .ok (.aload_n 1, 1) := by decide +kernel
theorem d_X5_takesOnce_14 : decode cX5_takesOnce 14 = .ok (.invokevirtual 159, 3) := by decide +kernel
theorem d_X5_takesOnce_17 : decode cX5_takesOnce 17 = .ok (.ifCond .ne 5, 3) := by decide +kernel
theorem d_X5_takesOnce_20 : decode cX5_takesOnce 20 = .ok (.iconst 0, 1) := by decide +kernel
theorem d_X5_takesOnce_21 : decode cX5_takesOnce 21 = .ok (.ireturn, 1) := by decide +kernel
theorem d_X5_takesOnce_22 : decode cX5_takesOnce 22 = .ok (.aload_n 0, 1) := by decide +kernel
theorem d_X5_takesOnce_23 : decode cX5_takesOnce 23 = .ok (.dup, 1) := by decide +kernel
theorem d_X5_takesOnce_24 : decode cX5_takesOnce 24 = .ok (.getfield 171, 3) := by decide +kernel
theorem d_X5_takesOnce_27 : decode cX5_takesOnce 27 = .ok (.iconst 1, 1) := by decide +kernel
theorem d_X5_takesOnce_28 : decode cX5_takesOnce 28 = .ok (.iload_n 2, 1) := by decide +kernel
theorem d_X5_takesOnce_29 : decode cX5_takesOnce 29 = .ok (.ishl, 1) := by decide +kernel
theorem d_X5_takesOnce_30 : decode cX5_takesOnce 30 = .ok (.ior, 1) := by decide +kernel
theorem d_X5_takesOnce_31 : decode cX5_takesOnce 31 = .ok (.putfield 171, 3) := by decide +kernel
theorem d_X5_takesOnce_34 : decode cX5_takesOnce 34 = .ok (.iconst 1, 1) := by decide +kernel
theorem d_X5_takesOnce_35 : decode cX5_takesOnce 35 = .ok (.ireturn, 1) := by decide +kernel
abbrev rm_X5_takesOnce : Room := { frames := 6, cells := 0, slots := 0, locals := 128 }
set_option maxHeartbeats 4000000 in
set_option maxRecDepth 20000 in
theorem w_X5_takesOnce (l : Launch) (b : Wy) {v1 : Nat} {v2 : Int32} {σ : Sg} {K : Int32 → Sg → Prop} (hv1 : v1 < nS) (h : m_X5_takesOnce v1 v2 σ K) : Ct l (wM b) yX5_takesOnce cX5_takesOnce 3 (some .boolean) rm_X5_takesOnce [.ref (wB (wM b) + 347), .ref (wK (wM b) v1), .int v2] σ (PZ K) := by
  unfold m_X5_takesOnce at h
  refine Ct.of (own := RX5) (by decide +kernel) rfl (Nat.le_of_ble_eq_true rfl) (fun x hx o => ?_)
  subst hx
  show J x (wM b) (FinC x (wM b) (PZ K) (0, 0)) 0 [(0, .ref (wB (wM b) + 347)), (1, .ref (wK (wM b) v1)), (2, .int v2)] [] (0, 0) σ
  refine J_aload_n o 0 d_X5_takesOnce_0 rfl ?_
  refine J_getI o fl_RX5_171 rfl (Nat.le_of_ble_eq_true rfl) (Nat.le_of_ble_eq_true rfl) rfl d_X5_takesOnce_1 ?_
  refine J_iload_n o 2 d_X5_takesOnce_4 rfl ?_
  refine J_ishr o d_X5_takesOnce_5 ?_
  refine J_iconst (v := 1) o d_X5_takesOnce_6 iconst_1 ?_
  refine J_iand o d_X5_takesOnce_7 ?_
  refine J_iconst (v := 1) o d_X5_takesOnce_8 iconst_1 ?_
  refine J_icmp_eq o 20 d_X5_takesOnce_9 rfl (fun c9 => ?_) (fun c9 => ?_)
  · replace h := h.1 c9
    refine J_iconst (v := 0) o d_X5_takesOnce_20 iconst_0 ?_
    exact J_zret o (Or.inl rfl) d_X5_takesOnce_21 ⟨_, rfl, (Or.inl rfl), h⟩
  · replace h := h.2 c9
    refine J_aload_n o 0 d_X5_takesOnce_12 rfl ?_
    refine J_aload_n o 1 d_X5_takesOnce_13 rfl ?_
    refine J_callV (k := 347) (c := 5) o [.ref (wK (wM b) v1)] rfl (by decide) (Nat.le_of_ble_eq_true rfl) (Nat.le_of_ble_eq_true rfl) mth_X5_takes iv_X5_takes ml_RX5_159 ⟨Nat.le_of_ble_eq_true rfl, Nat.le_of_ble_eq_true rfl⟩ rfl rfl (Nat.le_of_ble_eq_true rfl) ⟨Nat.le_refl _, Nat.le_refl _⟩ d_X5_takesOnce_14 (w_X5_takes (xL x) b hv1 h) (aZ (fun r14 s14 hzr14 h => ?_))
    refine J_if_ne o 22 d_X5_takesOnce_17 rfl (fun c17 => ?_) (fun c17 => ?_)
    · replace h := h.1 c17
      refine J_aload_n o 0 d_X5_takesOnce_22 rfl ?_
      refine J_dup o d_X5_takesOnce_23 rfl ?_
      refine J_getI o fl_RX5_171 rfl (Nat.le_of_ble_eq_true rfl) (Nat.le_of_ble_eq_true rfl) rfl d_X5_takesOnce_24 ?_
      refine J_iconst (v := 1) o d_X5_takesOnce_27 iconst_1 ?_
      refine J_iload_n o 2 d_X5_takesOnce_28 rfl ?_
      refine J_ishl o d_X5_takesOnce_29 ?_
      refine J_ior o d_X5_takesOnce_30 ?_
      refine J_put o fl_RX5_171 la_5 rfl (Nat.le_of_ble_eq_true rfl) (Nat.le_of_ble_eq_true rfl) rfl rfl rfl rfl d_X5_takesOnce_31 ?_
      refine J_nS (fun s31 es31 => ?_)
      replace h := h s31 es31
      refine J_iconst (v := 1) o d_X5_takesOnce_34 iconst_1 ?_
      exact J_zret o (Or.inr rfl) d_X5_takesOnce_35 ⟨_, rfl, (Or.inr rfl), h⟩
    · replace h := h.2 c17
      refine J_iconst (v := 0) o d_X5_takesOnce_20 iconst_0 ?_
      exact J_zret o (Or.inl rfl) d_X5_takesOnce_21 ⟨_, rfl, (Or.inl rfl), h⟩
theorem d_X5_directions_0 : decode cX5_directions 0 = .ok (.iconst 0, 1) := by decide +kernel
theorem d_X5_directions_1 : decode cX5_directions 1 = .ok (.istore 4, 2) := by decide +kernel
theorem d_X5_directions_3 : decode cX5_directions 3 = .ok (.aload_n 0, 1) := by decide +kernel
theorem d_X5_directions_4 : decode cX5_directions 4 = .ok (.invokevirtual 121, 3) := by decide +kernel
theorem d_X5_directions_7 : decode cX5_directions 7 = .ok (.ifCond .eq 76, 3) := by decide +kernel
theorem d_X5_directions_10 : decode cX5_directions 10 = .ok (.iload 4, 2) := by decide +kernel
theorem d_X5_directions_12 : decode cX5_directions 12 = .ok (.iload_n 2, 1) := by decide +kernel
theorem d_X5_directions_13 : decode cX5_directions 13 = .ok (.if_icmp .lt 13, 3) := by decide +kernel
theorem d_X5_directions_16 : decode cX5_directions 16 = .ok (.aload_n 0, 1) := by decide +kernel
theorem d_X5_directions_17 : decode cX5_directions 17 = .ok (.invokevirtual 104, 3) := by decide +kernel
theorem d_X5_directions_20 : decode cX5_directions 20 = .ok (.invokestatic 117, 3) := by decide +kernel
theorem d_X5_directions_23 : decode cX5_directions 23 = .ok (.ifCond .eq 60, 3) := by decide +kernel
theorem d_X5_directions_26 : decode cX5_directions 26 = .ok (.aload_n 0, 1) := by decide +kernel
theorem d_X5_directions_27 : decode cX5_directions 27 = .ok (.invokevirtual 104, 3) := by decide +kernel
theorem d_X5_directions_30 : decode cX5_directions 30 = .ok (.pop, 1) := by decide +kernel
theorem d_X5_directions_31 : decode cX5_directions 31 = .ok (.aload_n 0, 1) := by decide +kernel
theorem d_X5_directions_32 : decode cX5_directions 32 = .ok (.getfield 92, 3) := by decide +kernel
theorem d_X5_directions_35 : decode cX5_directions 35 = .ok (.istore 5, 2) := by decide +kernel
theorem d_X5_directions_37 : decode cX5_directions 37 = .ok (.aload_n 0, 1) := by decide +kernel
theorem d_X5_directions_38 : decode cX5_directions 38 = .ok (.invokevirtual 162, 3) := by decide +kernel
theorem d_X5_directions_41 : decode cX5_directions 41 = .ok (.istore 6, 2) := by decide +kernel
theorem d_X5_directions_43 : decode cX5_directions 43 = .ok (.iload 4, 2) := by decide +kernel
theorem d_X5_directions_45 : decode cX5_directions 45 = .ok (.iload_n 3, 1) := by decide +kernel
theorem d_X5_directions_46 : decode cX5_directions 46 = .ok (.if_icmp .ne 10, 3) := by decide +kernel
theorem d_X5_directions_49 : decode cX5_directions 49 = .ok (.aload_n 0, 1) := by decide +kernel
theorem d_X5_directions_50 : decode cX5_directions 50 = .ok (.iconst 1, 1) := by decide +kernel
theorem d_X5_directions_51 : decode cX5_directions 51 = .ok (.iload 5, 2) := by decide +kernel
theorem d_X5_directions_53 : decode cX5_directions 53 = .ok (.invokevirtual 132, 3) := by decide +kernel
theorem d_X5_directions_56 : decode cX5_directions 56 = .ok (.aload_n 0, 1) := by decide +kernel
theorem d_X5_directions_57 : decode cX5_directions 57 = .ok (.invokevirtual 121, 3) := by decide +kernel
theorem d_X5_directions_60 : decode cX5_directions 60 = .ok (.ifCond .ne 6, 3) := by decide +kernel
theorem d_X5_directions_63 : decode cX5_directions 63 = .ok (.iload 4, 2) := by decide +kernel
theorem d_X5_directions_65 : decode cX5_directions 65 = .ok (.ireturn, 1) := by decide +kernel
theorem d_X5_directions_66 : decode cX5_directions 66 = .ok (.aload_n 0, 1) := by decide +kernel
theorem d_X5_directions_67 : decode cX5_directions 67 = .ok (.getfield 23, 3) := by decide +kernel
theorem d_X5_directions_70 : decode cX5_directions 70 = .ok (.iload_n 1, 1) := by decide +kernel
theorem d_X5_directions_71 : decode cX5_directions 71 = .ok (.iload 4, 2) := by decide +kernel
theorem d_X5_directions_73 : decode cX5_directions 73 = .ok (.iadd, 1) := by decide +kernel
theorem d_X5_directions_74 : decode cX5_directions 74 = .ok (.iload 6, 2) := by decide +kernel
theorem d_X5_directions_76 : decode cX5_directions 76 = .ok (.iastore, 1) := by decide +kernel
theorem d_X5_directions_77 : decode cX5_directions 77 = .ok (.iinc 4 1, 3) := by decide +kernel
theorem d_X5_directions_80 : decode cX5_directions 80 = .ok (.goto (-77), 3) := by decide +kernel
theorem d_X5_directions_83 : decode cX5_directions 83 = .ok (.iload 4, 2) := by decide +kernel
theorem d_X5_directions_85 : decode cX5_directions 85 = .ok (.ireturn, 1) := by decide +kernel
abbrev rm_X5_directions : Room := { frames := 7, cells := 0, slots := 0, locals := 149 }
set_option maxHeartbeats 4000000 in
set_option maxRecDepth 20000 in
theorem c_X5_directions_56 {x : Cx} {b : Wy} (o : Ok x (wM b) cX5_directions 7 RX5 (some .int) rm_X5_directions) {v1 : Int32} {v2 : Int32} {v3 : Int32} {K : Int32 → Sg → Prop}  {KO3 : Int32 → Sg → Prop}  (hKO3 : ∀ (l4 : Int32) (σ : Sg), KO3 l4 σ → J x (wM b) (FinC x (wM b) (PI K) (0, 0)) 3 [(0, .ref (wB (wM b) + 347)), (1, .int v1), (2, .int v2), (3, .int v3), (4, .int l4)] [] (0, 0) σ) : ∀ (l4 : Int32) (l6 : Int32) (σ : Sg), m_X5_directions_j56 v1 v2 v3 K KO3 l4 l6 σ → J x (wM b) (FinC x (wM b) (PI K) (0, 0)) 56 [(0, .ref (wB (wM b) + 347)), (1, .int v1), (2, .int v2), (3, .int v3), (4, .int l4), (6, .int l6)] [] (0, 0) σ := by
  intro l4 l6 σ  h
  unfold m_X5_directions_j56 at h
  refine J_aload_n o 0 d_X5_directions_56 rfl ?_
  refine J_callV (k := 347) (c := 5) o [] rfl (by decide) (Nat.le_of_ble_eq_true rfl) (Nat.le_of_ble_eq_true rfl) mth_X5_fine iv_X5_fine ml_RX5_121 ⟨Nat.le_of_ble_eq_true rfl, Nat.le_of_ble_eq_true rfl⟩ rfl rfl (Nat.le_of_ble_eq_true rfl) ⟨Nat.le_refl _, Nat.le_refl _⟩ d_X5_directions_57 (w_X5_fine (xL x) b  h) (aZ (fun r57 s57 hzr57 h => ?_))
  refine J_if_ne o 66 d_X5_directions_60 rfl (fun c60 => ?_) (fun c60 => ?_)
  · replace h := h.1 c60
    refine J_aload_n o 0 d_X5_directions_66 rfl ?_
    refine J_getR (t := 351) o fl_RX5_23 rfl (Nat.le_of_ble_eq_true rfl) (Nat.le_of_ble_eq_true rfl) rfl rfl d_X5_directions_67 ?_
    refine J_iload_n o 1 d_X5_directions_70 rfl ?_
    refine J_iload o 4 d_X5_directions_71 rfl ?_
    refine J_iadd o d_X5_directions_73 ?_
    refine J_iload o 5 d_X5_directions_74 rfl ?_
    have b76 := h.1
    replace h := h.2
    refine J_iast o A_351 (vpc (rfl : ln 351 = 1098) b76) d_X5_directions_76 ?_
    refine J_nS (fun s76 es76 => ?_)
    replace h := h s76 es76
    refine J_iinc (lv' := [(4, .int (l4 + 1)), (0, .ref (wB (wM b) + 347)), (1, .int v1), (2, .int v2), (3, .int v3), (6, .int l6)]) o 4 d_X5_directions_77 (by decide) rfl iconst_1 rfl ?_
    refine J_goto o 3 d_X5_directions_80 rfl ?_
    refine J_sub [1, 2, 3, 4, 0] rfl ?_
    exact hKO3 (l4 + 1) s76  h
  · replace h := h.2 c60
    refine J_iload o 4 d_X5_directions_63 rfl ?_
    exact J_iret o d_X5_directions_65 ⟨_, rfl, h⟩
set_option maxHeartbeats 4000000 in
set_option maxRecDepth 20000 in
theorem c_X5_directions_26 {x : Cx} {b : Wy} (o : Ok x (wM b) cX5_directions 7 RX5 (some .int) rm_X5_directions) {v1 : Int32} {v2 : Int32} {v3 : Int32} {K : Int32 → Sg → Prop}  {KO3 : Int32 → Sg → Prop}  (hKO3 : ∀ (l4 : Int32) (σ : Sg), KO3 l4 σ → J x (wM b) (FinC x (wM b) (PI K) (0, 0)) 3 [(0, .ref (wB (wM b) + 347)), (1, .int v1), (2, .int v2), (3, .int v3), (4, .int l4)] [] (0, 0) σ) : ∀ (l4 : Int32) (σ : Sg), m_X5_directions_j26 v1 v2 v3 K KO3 l4 σ → J x (wM b) (FinC x (wM b) (PI K) (0, 0)) 26 [(0, .ref (wB (wM b) + 347)), (1, .int v1), (2, .int v2), (3, .int v3), (4, .int l4)] [] (0, 0) σ := by
  intro l4 σ  h
  unfold m_X5_directions_j26 at h
  refine J_aload_n o 0 d_X5_directions_26 rfl ?_
  refine J_callV (k := 347) (c := 5) o [] rfl (by decide) (Nat.le_of_ble_eq_true rfl) (Nat.le_of_ble_eq_true rfl) mth_X5_here iv_X5_here ml_RX5_104 ⟨Nat.le_of_ble_eq_true rfl, Nat.le_of_ble_eq_true rfl⟩ rfl rfl (Nat.le_of_ble_eq_true rfl) ⟨Nat.le_refl _, Nat.le_refl _⟩ d_X5_directions_27 (w_X5_here (xL x) b  h) (aI (fun r27 s27 h => ?_))
  refine J_pop o d_X5_directions_30 rfl ?_
  refine J_aload_n o 0 d_X5_directions_31 rfl ?_
  refine J_getI o fl_RX5_92 rfl (Nat.le_of_ble_eq_true rfl) (Nat.le_of_ble_eq_true rfl) rfl d_X5_directions_32 ?_
  refine J_top (fun l5_35 el5_35 => ?_)
  replace h := h l5_35 el5_35
  refine J_istore (lv' := [(5, .int l5_35), (0, .ref (wB (wM b) + 347)), (1, .int v1), (2, .int v2), (3, .int v3), (4, .int l4)]) o d_X5_directions_35 (by decide) rfl ?_
  refine J_aload_n o 1 d_X5_directions_37 rfl ?_
  refine J_callV (k := 347) (c := 5) o [] rfl (by decide) (Nat.le_of_ble_eq_true rfl) (Nat.le_of_ble_eq_true rfl) mth_X5_direction iv_X5_direction ml_RX5_162 ⟨Nat.le_of_ble_eq_true rfl, Nat.le_of_ble_eq_true rfl⟩ rfl rfl (Nat.le_of_ble_eq_true rfl) ⟨Nat.le_refl _, Nat.le_refl _⟩ d_X5_directions_38 (w_X5_direction (xL x) b  h) (aI (fun r38 s38 h => ?_))
  refine J_istore (lv' := [(6, .int r38), (5, .int l5_35), (0, .ref (wB (wM b) + 347)), (1, .int v1), (2, .int v2), (3, .int v3), (4, .int l4)]) o d_X5_directions_41 (by decide) rfl ?_
  refine J_iload o 6 d_X5_directions_43 rfl ?_
  refine J_iload_n o 5 d_X5_directions_45 rfl ?_
  refine J_icmp_ne o 56 d_X5_directions_46 rfl (fun c46 => ?_) (fun c46 => ?_)
  · replace h := h.1 c46
    refine J_sub [2, 3, 4, 5, 6, 0] rfl ?_
    exact c_X5_directions_56 o  hKO3 l4 r38 s38  h
  · replace h := h.2 c46
    refine J_aload_n o 2 d_X5_directions_49 rfl ?_
    refine J_iconst (v := 1) o d_X5_directions_50 iconst_1 ?_
    refine J_iload o 1 d_X5_directions_51 rfl ?_
    refine J_callV (k := 347) (c := 5) o [.int 1, .int l5_35] rfl (by decide) (Nat.le_of_ble_eq_true rfl) (Nat.le_of_ble_eq_true rfl) mth_X5_wrong iv_X5_wrong ml_RX5_132 ⟨Nat.le_of_ble_eq_true rfl, Nat.le_of_ble_eq_true rfl⟩ rfl rfl (Nat.le_of_ble_eq_true rfl) ⟨Nat.le_refl _, Nat.le_refl _⟩ d_X5_directions_53 (w_X5_wrong (xL x) b  h) (aV (fun s53 h => ?_))
    refine J_sub [2, 3, 4, 5, 6, 0] rfl ?_
    exact c_X5_directions_56 o  hKO3 l4 r38 s53  h
set_option maxHeartbeats 4000000 in
set_option maxRecDepth 20000 in
theorem c_X5_directions_3 {x : Cx} {b : Wy} (o : Ok x (wM b) cX5_directions 7 RX5 (some .int) rm_X5_directions) {v1 : Int32} {v2 : Int32} {v3 : Int32} {K : Int32 → Sg → Prop}   : ∀ (n : Nat) (l4 : Int32) (σ : Sg), m_X5_directions_l3 v1 v2 v3 K  n l4 σ → J x (wM b) (FinC x (wM b) (PI K) (0, 0)) 3 [(0, .ref (wB (wM b) + 347)), (1, .int v1), (2, .int v2), (3, .int v3), (4, .int l4)] [] (0, 0) σ := by
  intro n
  induction n with
  | zero =>
    intro l4 σ  h
    exact False.elim h
  | succ n ih =>
    intro l4 σ  h
    unfold m_X5_directions_l3 at h
    refine J_aload_n o 0 d_X5_directions_3 rfl ?_
    refine J_callV (k := 347) (c := 5) o [] rfl (by decide) (Nat.le_of_ble_eq_true rfl) (Nat.le_of_ble_eq_true rfl) mth_X5_fine iv_X5_fine ml_RX5_121 ⟨Nat.le_of_ble_eq_true rfl, Nat.le_of_ble_eq_true rfl⟩ rfl rfl (Nat.le_of_ble_eq_true rfl) ⟨Nat.le_refl _, Nat.le_refl _⟩ d_X5_directions_4 (w_X5_fine (xL x) b  h) (aZ (fun r4 s4 hzr4 h => ?_))
    refine J_if_eq o 83 d_X5_directions_7 rfl (fun c7 => ?_) (fun c7 => ?_)
    · replace h := h.1 c7
      refine J_iload o 4 d_X5_directions_83 rfl ?_
      exact J_iret o d_X5_directions_85 ⟨_, rfl, h⟩
    · replace h := h.2 c7
      refine J_iload o 4 d_X5_directions_10 rfl ?_
      refine J_iload_n o 2 d_X5_directions_12 rfl ?_
      refine J_icmp_lt o 26 d_X5_directions_13 rfl (fun c13 => ?_) (fun c13 => ?_)
      · replace h := h.1 c13
        exact c_X5_directions_26 o  ih l4 s4  h
      · replace h := h.2 c13
        refine J_aload_n o 0 d_X5_directions_16 rfl ?_
        refine J_callV (k := 347) (c := 5) o [] rfl (by decide) (Nat.le_of_ble_eq_true rfl) (Nat.le_of_ble_eq_true rfl) mth_X5_here iv_X5_here ml_RX5_104 ⟨Nat.le_of_ble_eq_true rfl, Nat.le_of_ble_eq_true rfl⟩ rfl rfl (Nat.le_of_ble_eq_true rfl) ⟨Nat.le_refl _, Nat.le_refl _⟩ d_X5_directions_17 (w_X5_here (xL x) b  h) (aI (fun r17 s17 h => ?_))
        refine J_callS o [.int r17] mth_X5_isSmall st_X5_isSmall ml_RX5_117 ⟨Nat.le_of_ble_eq_true rfl, Nat.le_of_ble_eq_true rfl⟩ rfl rfl (Nat.le_of_ble_eq_true rfl) ⟨Nat.le_refl _, Nat.le_refl _⟩ d_X5_directions_20 (w_X5_isSmall (xL x) b  h) (aZ (fun r20 s20 hzr20 h => ?_))
        refine J_if_eq o 83 d_X5_directions_23 rfl (fun c23 => ?_) (fun c23 => ?_)
        · replace h := h.1 c23
          refine J_iload o 4 d_X5_directions_83 rfl ?_
          exact J_iret o d_X5_directions_85 ⟨_, rfl, h⟩
        · replace h := h.2 c23
          exact c_X5_directions_26 o  ih l4 s20  h
set_option maxHeartbeats 4000000 in
set_option maxRecDepth 20000 in
theorem w_X5_directions (l : Launch) (b : Wy) {v1 : Int32} {v2 : Int32} {v3 : Int32} {σ : Sg} {K : Int32 → Sg → Prop}  (h : m_X5_directions v1 v2 v3 σ K) : Ct l (wM b) yX5_directions cX5_directions 7 (some .int) rm_X5_directions [.ref (wB (wM b) + 347), .int v1, .int v2, .int v3] σ (PI K) := by
  unfold m_X5_directions at h
  refine Ct.of (own := RX5) (by decide +kernel) rfl (Nat.le_of_ble_eq_true rfl) (fun x hx o => ?_)
  subst hx
  show J x (wM b) (FinC x (wM b) (PI K) (0, 0)) 0 [(0, .ref (wB (wM b) + 347)), (1, .int v1), (2, .int v2), (3, .int v3)] [] (0, 0) σ
  refine J_iconst (v := 0) o d_X5_directions_0 iconst_0 ?_
  refine J_istore (lv' := [(4, .int 0), (0, .ref (wB (wM b) + 347)), (1, .int v1), (2, .int v2), (3, .int v3)]) o d_X5_directions_1 (by decide) rfl ?_
  refine J_sub [1, 2, 3, 4, 0] rfl ?_
  obtain ⟨n9, h⟩ := h
  exact c_X5_directions_3 o   n9 0 σ  h
theorem d_X5_readsHelper_0 : decode cX5_readsHelper 0 = .ok (.aload_n 0, 1) := by decide +kernel
theorem d_X5_readsHelper_1 : decode cX5_readsHelper 1 = .ok (.getfield 23, 3) := by decide +kernel
theorem d_X5_readsHelper_4 : decode cX5_readsHelper 4 = .ok (.iconst 3, 1) := by decide +kernel
theorem d_X5_readsHelper_5 : decode cX5_readsHelper 5 = .ok (.iaload, 1) := by decide +kernel
theorem d_X5_readsHelper_6 : decode cX5_readsHelper 6 = .ok (.iconst 3, 1) := by decide +kernel
theorem d_X5_readsHelper_7 : decode cX5_readsHelper 7 = .ok (.if_icmp .ne 9, 3) := by decide +kernel
theorem d_X5_readsHelper_10 : decode cX5_readsHelper 10 = .ok (.aload_n 0, 1) := by decide +kernel
theorem d_X5_readsHelper_11 : decode cX5_readsHelper 11 = .ok (.iconst 4, 1) := by decide +kernel
theorem d_X5_readsHelper_12 : decode cX5_readsHelper 12 = .ok (.iload_n 1, 1) := by decide +kernel
theorem d_X5_readsHelper_13 : decode cX5_readsHelper 13 = .ok (.invokevirtual 132, 3) := by decide +kernel
theorem d_X5_readsHelper_16 : decode cX5_readsHelper 16 = .ok (.aload_n 0, 1) := by decide +kernel
theorem d_X5_readsHelper_17 : decode cX5_readsHelper 17 = .ok (.iconst 0, 1) := by decide +kernel
theorem d_X5_readsHelper_18 : decode cX5_readsHelper 18 = .ok (.invokevirtual 174, 3) := by decide +kernel
theorem d_X5_readsHelper_21 : decode cX5_readsHelper 21 = .ok (.aload_n 0, 1) := by decide +kernel
theorem d_X5_readsHelper_22 : decode cX5_readsHelper 22 = .ok (.iconst 0, 1) := by decide +kernel
theorem d_X5_readsHelper_23 : decode cX5_readsHelper 23 = .ok (.aload_n 0, 1) := by decide +kernel
theorem d_X5_readsHelper_24 : decode cX5_readsHelper 24 = .ok (.getfield 23, 3) := by decide +kernel
theorem d_X5_readsHelper_27 : decode cX5_readsHelper 27 = .ok (.iconst 4, 1) := by decide +kernel
theorem d_X5_readsHelper_28 : decode cX5_readsHelper 28 = .ok (.iaload, 1) := by decide +kernel
theorem d_X5_readsHelper_29 : decode cX5_readsHelper 29 = .ok (.invokevirtual 165, 3) := by decide +kernel
theorem d_X5_readsHelper_32 : decode cX5_readsHelper 32 = .ok (.istore_n 2, 1) := by decide +kernel
theorem d_X5_readsHelper_33 : decode cX5_readsHelper 33 = .ok (.aload_n 0, 1) := by decide +kernel
theorem d_X5_readsHelper_34 : decode cX5_readsHelper 34 = .ok (.invokevirtual 121, 3) := by decide +kernel
theorem d_X5_readsHelper_37 : decode cX5_readsHelper 37 = .ok (.ifCond .ne 4, 3) := by decide +kernel
theorem d_X5_readsHelper_40 : decode cX5_readsHelper 40 = .ok (.return_, 1) := by decide +kernel
theorem d_X5_readsHelper_41 : decode cX5_readsHelper 41 = .ok (.sipush 1089, 3) := by decide +kernel
theorem d_X5_readsHelper_44 : decode cX5_readsHelper 44 = .ok (.iconst 3, 1) := by decide +kernel
theorem d_X5_readsHelper_45 : decode cX5_readsHelper 45 = .ok (.aload_n 0, 1) := by decide +kernel
theorem d_X5_readsHelper_46 : decode cX5_readsHelper 46 = .ok (.getfield 23, 3) := by decide +kernel
theorem d_X5_readsHelper_49 : decode cX5_readsHelper 49 = .ok (.iconst 3, 1) := by decide +kernel
theorem d_X5_readsHelper_50 : decode cX5_readsHelper 50 = .ok (.iaload, 1) := by decide +kernel
theorem d_X5_readsHelper_51 : decode cX5_readsHelper 51 = .ok (.imul, 1) := by decide +kernel
theorem d_X5_readsHelper_52 : decode cX5_readsHelper 52 = .ok (.iadd, 1) := by decide +kernel
theorem d_X5_readsHelper_53 : decode cX5_readsHelper 53 = .ok (.istore_n 3, 1) := by decide +kernel
theorem d_X5_readsHelper_54 : decode cX5_readsHelper 54 = .ok (.aload_n 0, 1) := by decide +kernel
theorem d_X5_readsHelper_55 : decode cX5_readsHelper 55 = .ok (.getfield 23, 3) := by decide +kernel
theorem d_X5_readsHelper_58 : decode cX5_readsHelper 58 = .ok (.iload_n 3, 1) := by decide +kernel
theorem d_X5_readsHelper_59 : decode cX5_readsHelper 59 = .ok (.aload_n 0, 1) := by decide +kernel
theorem d_X5_readsHelper_60 : decode cX5_readsHelper 60 = .ok (.getfield 168, 3) := by decide +kernel
theorem d_X5_readsHelper_63 : decode cX5_readsHelper 63 = .ok (.bipush 20, 2) := by decide +kernel
theorem d_X5_readsHelper_65 : decode cX5_readsHelper 65 = .ok (.irem, 1) := by decide +kernel
theorem d_X5_readsHelper_66 : decode cX5_readsHelper 66 = .ok (.iastore, 1) := by decide +kernel
theorem d_X5_readsHelper_67 : decode cX5_readsHelper 67 = .ok (.aload_n 0, 1) := by decide +kernel
theorem d_X5_readsHelper_68 : decode cX5_readsHelper 68 = .ok (.getfield 23, 3) := by decide +kernel
theorem d_X5_readsHelper_71 : decode cX5_readsHelper 71 = .ok (.iload_n 3, 1) := by decide +kernel
theorem d_X5_readsHelper_72 : decode cX5_readsHelper 72 = .ok (.iconst 1, 1) := by decide +kernel
theorem d_X5_readsHelper_73 : decode cX5_readsHelper 73 = .ok (.iadd, 1) := by decide +kernel
theorem d_X5_readsHelper_74 : decode cX5_readsHelper 74 = .ok (.aload_n 0, 1) := by decide +kernel
theorem d_X5_readsHelper_75 : decode cX5_readsHelper 75 = .ok (.getfield 168, 3) := by decide +kernel
theorem d_X5_readsHelper_78 : decode cX5_readsHelper 78 = .ok (.bipush 20, 2) := by decide +kernel
theorem d_X5_readsHelper_80 : decode cX5_readsHelper 80 = .ok (.idiv, 1) := by decide +kernel
theorem d_X5_readsHelper_81 : decode cX5_readsHelper 81 = .ok (.iastore, 1) := by decide +kernel
theorem d_X5_readsHelper_82 : decode cX5_readsHelper 82 = .ok (.aload_n 0, 1) := by decide +kernel
theorem d_X5_readsHelper_83 : decode cX5_readsHelper 83 = .ok (.getfield 23, 3) := by decide +kernel
theorem d_X5_readsHelper_86 : decode cX5_readsHelper 86 = .ok (.iload_n 3, 1) := by decide +kernel
theorem d_X5_readsHelper_87 : decode cX5_readsHelper 87 = .ok (.iconst 2, 1) := by decide +kernel
theorem d_X5_readsHelper_88 : decode cX5_readsHelper 88 = .ok (.iadd, 1) := by decide +kernel
theorem d_X5_readsHelper_89 : decode cX5_readsHelper 89 = .ok (.iload_n 2, 1) := by decide +kernel
theorem d_X5_readsHelper_90 : decode cX5_readsHelper 90 = .ok (.iastore, 1) := by decide +kernel
theorem d_X5_readsHelper_91 : decode cX5_readsHelper 91 = .ok (.aload_n 0, 1) := by decide +kernel
theorem d_X5_readsHelper_92 : decode cX5_readsHelper 92 = .ok (.getfield 23, 3) := by decide +kernel
theorem d_X5_readsHelper_95 : decode cX5_readsHelper 95 = .ok (.iconst 3, 1) := by decide +kernel
theorem d_X5_readsHelper_96 : decode cX5_readsHelper 96 = .ok (.dup2, 1) := by decide +kernel
theorem d_X5_readsHelper_97 : decode cX5_readsHelper 97 = .ok (.iaload, 1) := by decide +kernel
theorem d_X5_readsHelper_98 : decode cX5_readsHelper 98 = .ok (.iconst 1, 1) := by decide +kernel
theorem d_X5_readsHelper_99 : decode cX5_readsHelper 99 = .ok (.iadd, 1) := by decide +kernel
theorem d_X5_readsHelper_100 : decode cX5_readsHelper 100 = .ok (.iastore, 1) := by decide +kernel
theorem d_X5_readsHelper_101 : decode cX5_readsHelper 101 = .ok (.return_, 1) := by decide +kernel
abbrev rm_X5_readsHelper : Room := { frames := 4, cells := 0, slots := 0, locals := 89 }
set_option maxHeartbeats 4000000 in
set_option maxRecDepth 20000 in
theorem c_X5_readsHelper_16 {x : Cx} {b : Wy} (o : Ok x (wM b) cX5_readsHelper 4 RX5 none rm_X5_readsHelper) {v1 : Int32} {K : Sg → Prop}   : ∀  (σ : Sg), m_X5_readsHelper_j16 v1 K   σ → J x (wM b) (FinC x (wM b) (PV K) (0, 0)) 16 [(0, .ref (wB (wM b) + 347))] [] (0, 0) σ := by
  intro  σ  h
  unfold m_X5_readsHelper_j16 at h
  refine J_aload_n o 0 d_X5_readsHelper_16 rfl ?_
  refine J_iconst (v := 0) o d_X5_readsHelper_17 iconst_0 ?_
  refine J_callV (k := 347) (c := 5) o [.int 0] rfl (by decide) (Nat.le_of_ble_eq_true rfl) (Nat.le_of_ble_eq_true rfl) mth_X5_readsCell iv_X5_readsCell ml_RX5_174 ⟨Nat.le_of_ble_eq_true rfl, Nat.le_of_ble_eq_true rfl⟩ rfl rfl (Nat.le_of_ble_eq_true rfl) ⟨Nat.le_refl _, Nat.le_refl _⟩ d_X5_readsHelper_18 (w_X5_readsCell (xL x) b  h) (aV (fun s18 h => ?_))
  refine J_aload_n o 0 d_X5_readsHelper_21 rfl ?_
  refine J_iconst (v := 0) o d_X5_readsHelper_22 iconst_0 ?_
  refine J_aload_n o 0 d_X5_readsHelper_23 rfl ?_
  refine J_getR (t := 351) o fl_RX5_23 rfl (Nat.le_of_ble_eq_true rfl) (Nat.le_of_ble_eq_true rfl) rfl rfl d_X5_readsHelper_24 ?_
  refine J_iconst (v := 4) o d_X5_readsHelper_27 iconst_4 ?_
  have b28 := h.1
  replace h := h.2
  refine J_iald o A_351 (vpc (rfl : ln 351 = 1098) b28) d_X5_readsHelper_28 ?_
  refine J_callV (k := 347) (c := 5) o [.int 0, .int (s18 351 (4 : Int32).toNatClampNeg)] rfl (by decide) (Nat.le_of_ble_eq_true rfl) (Nat.le_of_ble_eq_true rfl) mth_X5_number iv_X5_number ml_RX5_165 ⟨Nat.le_of_ble_eq_true rfl, Nat.le_of_ble_eq_true rfl⟩ rfl rfl (Nat.le_of_ble_eq_true rfl) ⟨Nat.le_refl _, Nat.le_refl _⟩ d_X5_readsHelper_29 (w_X5_number (xL x) b  h) (aI (fun r29 s29 h => ?_))
  refine J_istore_n (lv' := [(2, .int r29), (0, .ref (wB (wM b) + 347))]) o d_X5_readsHelper_32 (by decide) rfl ?_
  refine J_aload_n o 1 d_X5_readsHelper_33 rfl ?_
  refine J_callV (k := 347) (c := 5) o [] rfl (by decide) (Nat.le_of_ble_eq_true rfl) (Nat.le_of_ble_eq_true rfl) mth_X5_fine iv_X5_fine ml_RX5_121 ⟨Nat.le_of_ble_eq_true rfl, Nat.le_of_ble_eq_true rfl⟩ rfl rfl (Nat.le_of_ble_eq_true rfl) ⟨Nat.le_refl _, Nat.le_refl _⟩ d_X5_readsHelper_34 (w_X5_fine (xL x) b  h) (aZ (fun r34 s34 hzr34 h => ?_))
  refine J_if_ne o 41 d_X5_readsHelper_37 rfl (fun c37 => ?_) (fun c37 => ?_)
  · replace h := h.1 c37
    refine J_sipush (v := 1089) o d_X5_readsHelper_41 sipush_1089 ?_
    refine J_iconst (v := 3) o d_X5_readsHelper_44 iconst_3 ?_
    refine J_aload_n o 1 d_X5_readsHelper_45 rfl ?_
    refine J_getR (t := 351) o fl_RX5_23 rfl (Nat.le_of_ble_eq_true rfl) (Nat.le_of_ble_eq_true rfl) rfl rfl d_X5_readsHelper_46 ?_
    refine J_iconst (v := 3) o d_X5_readsHelper_49 iconst_3 ?_
    have b50 := h.1
    replace h := h.2
    refine J_iald o A_351 (vpc (rfl : ln 351 = 1098) b50) d_X5_readsHelper_50 ?_
    refine J_imul o d_X5_readsHelper_51 ?_
    refine J_iadd o d_X5_readsHelper_52 ?_
    refine J_top (fun l3_53 el3_53 => ?_)
    replace h := h l3_53 el3_53
    refine J_istore_n (lv' := [(3, .int l3_53), (2, .int r29), (0, .ref (wB (wM b) + 347))]) o d_X5_readsHelper_53 (by decide) rfl ?_
    refine J_aload_n o 2 d_X5_readsHelper_54 rfl ?_
    refine J_getR (t := 351) o fl_RX5_23 rfl (Nat.le_of_ble_eq_true rfl) (Nat.le_of_ble_eq_true rfl) rfl rfl d_X5_readsHelper_55 ?_
    refine J_iload_n o 0 d_X5_readsHelper_58 rfl ?_
    refine J_aload_n o 2 d_X5_readsHelper_59 rfl ?_
    refine J_getI o fl_RX5_168 rfl (Nat.le_of_ble_eq_true rfl) (Nat.le_of_ble_eq_true rfl) rfl d_X5_readsHelper_60 ?_
    refine J_bipush (v := 20) o d_X5_readsHelper_63 bipush_20 ?_
    refine J_irem o d_X5_readsHelper_65 (by decide) ?_
    have b66 := h.1
    replace h := h.2
    refine J_iast o A_351 (vpc (rfl : ln 351 = 1098) b66) d_X5_readsHelper_66 ?_
    refine J_nS (fun s66 es66 => ?_)
    replace h := h s66 es66
    refine J_aload_n o 2 d_X5_readsHelper_67 rfl ?_
    refine J_getR (t := 351) o fl_RX5_23 rfl (Nat.le_of_ble_eq_true rfl) (Nat.le_of_ble_eq_true rfl) rfl rfl d_X5_readsHelper_68 ?_
    refine J_iload_n o 0 d_X5_readsHelper_71 rfl ?_
    refine J_iconst (v := 1) o d_X5_readsHelper_72 iconst_1 ?_
    refine J_iadd o d_X5_readsHelper_73 ?_
    refine J_aload_n o 2 d_X5_readsHelper_74 rfl ?_
    refine J_getI o fl_RX5_168 rfl (Nat.le_of_ble_eq_true rfl) (Nat.le_of_ble_eq_true rfl) rfl d_X5_readsHelper_75 ?_
    refine J_bipush (v := 20) o d_X5_readsHelper_78 bipush_20 ?_
    refine J_idiv o d_X5_readsHelper_80 (by decide) ?_
    have b81 := h.1
    replace h := h.2
    refine J_iast o A_351 (vpc (rfl : ln 351 = 1098) b81) d_X5_readsHelper_81 ?_
    refine J_nS (fun s81 es81 => ?_)
    replace h := h s81 es81
    refine J_aload_n o 2 d_X5_readsHelper_82 rfl ?_
    refine J_getR (t := 351) o fl_RX5_23 rfl (Nat.le_of_ble_eq_true rfl) (Nat.le_of_ble_eq_true rfl) rfl rfl d_X5_readsHelper_83 ?_
    refine J_iload_n o 0 d_X5_readsHelper_86 rfl ?_
    refine J_iconst (v := 2) o d_X5_readsHelper_87 iconst_2 ?_
    refine J_iadd o d_X5_readsHelper_88 ?_
    refine J_iload_n o 1 d_X5_readsHelper_89 rfl ?_
    have b90 := h.1
    replace h := h.2
    refine J_iast o A_351 (vpc (rfl : ln 351 = 1098) b90) d_X5_readsHelper_90 ?_
    refine J_nS (fun s90 es90 => ?_)
    replace h := h s90 es90
    refine J_aload_n o 2 d_X5_readsHelper_91 rfl ?_
    refine J_getR (t := 351) o fl_RX5_23 rfl (Nat.le_of_ble_eq_true rfl) (Nat.le_of_ble_eq_true rfl) rfl rfl d_X5_readsHelper_92 ?_
    refine J_iconst (v := 3) o d_X5_readsHelper_95 iconst_3 ?_
    refine J_dup2 o d_X5_readsHelper_96 rfl rfl ?_
    have b97 := h.1
    replace h := h.2
    refine J_iald o A_351 (vpc (rfl : ln 351 = 1098) b97) d_X5_readsHelper_97 ?_
    refine J_iconst (v := 1) o d_X5_readsHelper_98 iconst_1 ?_
    refine J_iadd o d_X5_readsHelper_99 ?_
    have b100 := h.1
    replace h := h.2
    refine J_iast o A_351 (vpc (rfl : ln 351 = 1098) b100) d_X5_readsHelper_100 ?_
    refine J_nS (fun s100 es100 => ?_)
    replace h := h s100 es100
    exact J_vret o d_X5_readsHelper_101 ⟨rfl, h⟩
  · replace h := h.2 c37
    exact J_vret o d_X5_readsHelper_40 ⟨rfl, h⟩
set_option maxHeartbeats 4000000 in
set_option maxRecDepth 20000 in
theorem w_X5_readsHelper (l : Launch) (b : Wy) {v1 : Int32} {σ : Sg} {K : Sg → Prop}  (h : m_X5_readsHelper v1 σ K) : Ct l (wM b) yX5_readsHelper cX5_readsHelper 4 none rm_X5_readsHelper [.ref (wB (wM b) + 347), .int v1] σ (PV K) := by
  unfold m_X5_readsHelper at h
  refine Ct.of (own := RX5) (by decide +kernel) rfl (Nat.le_of_ble_eq_true rfl) (fun x hx o => ?_)
  subst hx
  show J x (wM b) (FinC x (wM b) (PV K) (0, 0)) 0 [(0, .ref (wB (wM b) + 347)), (1, .int v1)] [] (0, 0) σ
  refine J_aload_n o 0 d_X5_readsHelper_0 rfl ?_
  refine J_getR (t := 351) o fl_RX5_23 rfl (Nat.le_of_ble_eq_true rfl) (Nat.le_of_ble_eq_true rfl) rfl rfl d_X5_readsHelper_1 ?_
  refine J_iconst (v := 3) o d_X5_readsHelper_4 iconst_3 ?_
  have b5 := h.1
  replace h := h.2
  refine J_iald o A_351 (vpc (rfl : ln 351 = 1098) b5) d_X5_readsHelper_5 ?_
  refine J_iconst (v := 3) o d_X5_readsHelper_6 iconst_3 ?_
  refine J_icmp_ne o 16 d_X5_readsHelper_7 rfl (fun c7 => ?_) (fun c7 => ?_)
  · replace h := h.1 c7
    refine J_sub [0] rfl ?_
    exact c_X5_readsHelper_16 o   σ  h
  · replace h := h.2 c7
    refine J_aload_n o 0 d_X5_readsHelper_10 rfl ?_
    refine J_iconst (v := 4) o d_X5_readsHelper_11 iconst_4 ?_
    refine J_iload_n o 1 d_X5_readsHelper_12 rfl ?_
    refine J_callV (k := 347) (c := 5) o [.int 4, .int v1] rfl (by decide) (Nat.le_of_ble_eq_true rfl) (Nat.le_of_ble_eq_true rfl) mth_X5_wrong iv_X5_wrong ml_RX5_132 ⟨Nat.le_of_ble_eq_true rfl, Nat.le_of_ble_eq_true rfl⟩ rfl rfl (Nat.le_of_ble_eq_true rfl) ⟨Nat.le_refl _, Nat.le_refl _⟩ d_X5_readsHelper_13 (w_X5_wrong (xL x) b  h) (aV (fun s13 h => ?_))
    refine J_sub [0] rfl ?_
    exact c_X5_readsHelper_16 o   s13  h
theorem d_X5_readsLine_0 : decode cX5_readsLine 0 = .ok (.aload_n 0, 1) := by decide +kernel
theorem d_X5_readsLine_1 : decode cX5_readsLine 1 = .ok (.invokevirtual 104, 3) := by decide +kernel
theorem d_X5_readsLine_4 : decode cX5_readsLine 4 = .ok (.pop, 1) := by decide +kernel
theorem d_X5_readsLine_5 : decode cX5_readsLine 5 = .ok (.aload_n 0, 1) := by decide +kernel
theorem d_X5_readsLine_6 : decode cX5_readsLine 6 = .ok (.getfield 92, 3) := by decide +kernel
theorem d_X5_readsLine_9 : decode cX5_readsLine 9 = .ok (.istore_n 1, 1) := by decide +kernel
theorem d_X5_readsLine_10 : decode cX5_readsLine 10 = .ok (.aload_n 0, 1) := by decide +kernel
theorem d_X5_readsLine_11 : decode cX5_readsLine 11 = .ok (.ldc 181, 2) := by decide +kernel
theorem d_X5_readsLine_13 : decode cX5_readsLine 13 = .ok (.invokevirtual 159, 3) := by decide +kernel
theorem d_X5_readsLine_16 : decode cX5_readsLine 16 = .ok (.ifCond .eq 10, 3) := by decide +kernel
theorem d_X5_readsLine_19 : decode cX5_readsLine 19 = .ok (.aload_n 0, 1) := by decide +kernel
theorem d_X5_readsLine_20 : decode cX5_readsLine 20 = .ok (.invokevirtual 183, 3) := by decide +kernel
theorem d_X5_readsLine_23 : decode cX5_readsLine 23 = .ok (.goto 219, 3) := by decide +kernel
theorem d_X5_readsLine_26 : decode cX5_readsLine 26 = .ok (.aload_n 0, 1) := by decide +kernel
theorem d_X5_readsLine_27 : decode cX5_readsLine 27 = .ok (.ldc 186, 2) := by decide +kernel
theorem d_X5_readsLine_29 : decode cX5_readsLine 29 = .ok (.invokevirtual 159, 3) := by decide +kernel
theorem d_X5_readsLine_32 : decode cX5_readsLine 32 = .ok (.ifCond .eq 10, 3) := by decide +kernel
theorem d_X5_readsLine_35 : decode cX5_readsLine 35 = .ok (.aload_n 0, 1) := by decide +kernel
theorem d_X5_readsLine_36 : decode cX5_readsLine 36 = .ok (.invokevirtual 188, 3) := by decide +kernel
theorem d_X5_readsLine_39 : decode cX5_readsLine 39 = .ok (.goto 203, 3) := by decide +kernel
theorem d_X5_readsLine_42 : decode cX5_readsLine 42 = .ok (.aload_n 0, 1) := by decide +kernel
theorem d_X5_readsLine_43 : decode cX5_readsLine 43 = .ok (.ldc 191, 2) := by decide +kernel
theorem d_X5_readsLine_45 : decode cX5_readsLine 45 = .ok (.iconst 0, 1) := by decide +kernel
theorem d_X5_readsLine_46 : decode cX5_readsLine 46 = .ok (.invokevirtual 193, 3) := by decide +kernel
theorem d_X5_readsLine_49 : decode cX5_readsLine 49 = .ok (.ifCond .eq 22, 3) := by decide +kernel
theorem d_X5_readsLine_52 : decode cX5_readsLine 52 = .ok (.aload_n 0, 1) := by decide +kernel
theorem d_X5_readsLine_53 : decode cX5_readsLine 53 = .ok (.getfield 23, 3) := by decide +kernel
theorem d_X5_readsLine_56 : decode cX5_readsLine 56 = .ok (.bipush 10, 2) := by decide +kernel
theorem d_X5_readsLine_58 : decode cX5_readsLine 58 = .ok (.aload_n 0, 1) := by decide +kernel
theorem d_X5_readsLine_59 : decode cX5_readsLine 59 = .ok (.bipush 12, 2) := by decide +kernel
theorem d_X5_readsLine_61 : decode cX5_readsLine 61 = .ok (.iconst 1, 1) := by decide +kernel
theorem d_X5_readsLine_62 : decode cX5_readsLine 62 = .ok (.bipush 24, 2) := by decide +kernel
theorem d_X5_readsLine_64 : decode cX5_readsLine 64 = .ok (.invokevirtual 197, 3) := by decide +kernel
theorem d_X5_readsLine_67 : decode cX5_readsLine 67 = .ok (.iastore, 1) := by decide +kernel
theorem d_X5_readsLine_68 : decode cX5_readsLine 68 = .ok (.goto 174, 3) := by decide +kernel
theorem d_X5_readsLine_71 : decode cX5_readsLine 71 = .ok (.aload_n 0, 1) := by decide +kernel
theorem d_X5_readsLine_72 : decode cX5_readsLine 72 = .ok (.ldc 201, 2) := by decide +kernel
theorem d_X5_readsLine_74 : decode cX5_readsLine 74 = .ok (.iconst 1, 1) := by decide +kernel
theorem d_X5_readsLine_75 : decode cX5_readsLine 75 = .ok (.invokevirtual 193, 3) := by decide +kernel
theorem d_X5_readsLine_78 : decode cX5_readsLine 78 = .ok (.ifCond .eq 52, 3) := by decide +kernel
theorem d_X5_readsLine_81 : decode cX5_readsLine 81 = .ok (.aload_n 0, 1) := by decide +kernel
theorem d_X5_readsLine_82 : decode cX5_readsLine 82 = .ok (.iconst 0, 1) := by decide +kernel
theorem d_X5_readsLine_83 : decode cX5_readsLine 83 = .ok (.invokevirtual 174, 3) := by decide +kernel
theorem d_X5_readsLine_86 : decode cX5_readsLine 86 = .ok (.aload_n 0, 1) := by decide +kernel
theorem d_X5_readsLine_87 : decode cX5_readsLine 87 = .ok (.getfield 23, 3) := by decide +kernel
theorem d_X5_readsLine_90 : decode cX5_readsLine 90 = .ok (.bipush 6, 2) := by decide +kernel
theorem d_X5_readsLine_92 : decode cX5_readsLine 92 = .ok (.aload_n 0, 1) := by decide +kernel
theorem d_X5_readsLine_93 : decode cX5_readsLine 93 = .ok (.getfield 168, 3) := by decide +kernel
theorem d_X5_readsLine_96 : decode cX5_readsLine 96 = .ok (.bipush 20, 2) := by decide +kernel
theorem d_X5_readsLine_98 : decode cX5_readsLine 98 = .ok (.irem, 1) := by decide +kernel
theorem d_X5_readsLine_99 : decode cX5_readsLine 99 = .ok (.iastore, 1) := by decide +kernel
theorem d_X5_readsLine_100 : decode cX5_readsLine 100 = .ok (.aload_n 0, 1) := by decide +kernel
theorem d_X5_readsLine_101 : decode cX5_readsLine 101 = .ok (.getfield 23, 3) := by decide +kernel
theorem d_X5_readsLine_104 : decode cX5_readsLine 104 = .ok (.bipush 7, 2) := by decide +kernel
theorem d_X5_readsLine_106 : decode cX5_readsLine 106 = .ok (.aload_n 0, 1) := by decide +kernel
theorem d_X5_readsLine_107 : decode cX5_readsLine 107 = .ok (.getfield 168, 3) := by decide +kernel
theorem d_X5_readsLine_110 : decode cX5_readsLine 110 = .ok (.bipush 20, 2) := by decide +kernel
theorem d_X5_readsLine_112 : decode cX5_readsLine 112 = .ok (.idiv, 1) := by decide +kernel
theorem d_X5_readsLine_113 : decode cX5_readsLine 113 = .ok (.iastore, 1) := by decide +kernel
theorem d_X5_readsLine_114 : decode cX5_readsLine 114 = .ok (.aload_n 0, 1) := by decide +kernel
theorem d_X5_readsLine_115 : decode cX5_readsLine 115 = .ok (.getfield 23, 3) := by decide +kernel
theorem d_X5_readsLine_118 : decode cX5_readsLine 118 = .ok (.iconst 5, 1) := by decide +kernel
theorem d_X5_readsLine_119 : decode cX5_readsLine 119 = .ok (.aload_n 0, 1) := by decide +kernel
theorem d_X5_readsLine_120 : decode cX5_readsLine 120 = .ok (.iconst 0, 1) := by decide +kernel
theorem d_X5_readsLine_121 : decode cX5_readsLine 121 = .ok (.bipush 9, 2) := by decide +kernel
theorem d_X5_readsLine_123 : decode cX5_readsLine 123 = .ok (.invokevirtual 165, 3) := by decide +kernel
theorem d_X5_readsLine_126 : decode cX5_readsLine 126 = .ok (.iastore, 1) := by decide +kernel
theorem d_X5_readsLine_127 : decode cX5_readsLine 127 = .ok (.goto 115, 3) := by decide +kernel
theorem d_X5_readsLine_130 : decode cX5_readsLine 130 = .ok (.aload_n 0, 1) := by decide +kernel
theorem d_X5_readsLine_131 : decode cX5_readsLine 131 = .ok (.ldc 203, 2) := by decide +kernel
theorem d_X5_readsLine_133 : decode cX5_readsLine 133 = .ok (.iconst 2, 1) := by decide +kernel
theorem d_X5_readsLine_134 : decode cX5_readsLine 134 = .ok (.invokevirtual 193, 3) := by decide +kernel
theorem d_X5_readsLine_137 : decode cX5_readsLine 137 = .ok (.ifCond .eq 55, 3) := by decide +kernel
theorem d_X5_readsLine_140 : decode cX5_readsLine 140 = .ok (.aload_n 0, 1) := by decide +kernel
theorem d_X5_readsLine_141 : decode cX5_readsLine 141 = .ok (.iconst 0, 1) := by decide +kernel
theorem d_X5_readsLine_142 : decode cX5_readsLine 142 = .ok (.invokevirtual 174, 3) := by decide +kernel
theorem d_X5_readsLine_145 : decode cX5_readsLine 145 = .ok (.aload_n 0, 1) := by decide +kernel
theorem d_X5_readsLine_146 : decode cX5_readsLine 146 = .ok (.getfield 23, 3) := by decide +kernel
theorem d_X5_readsLine_149 : decode cX5_readsLine 149 = .ok (.bipush 8, 2) := by decide +kernel
theorem d_X5_readsLine_151 : decode cX5_readsLine 151 = .ok (.aload_n 0, 1) := by decide +kernel
theorem d_X5_readsLine_152 : decode cX5_readsLine 152 = .ok (.getfield 168, 3) := by decide +kernel
theorem d_X5_readsLine_155 : decode cX5_readsLine 155 = .ok (.bipush 20, 2) := by decide +kernel
theorem d_X5_readsLine_157 : decode cX5_readsLine 157 = .ok (.irem, 1) := by decide +kernel
theorem d_X5_readsLine_158 : decode cX5_readsLine 158 = .ok (.iastore, 1) := by decide +kernel
theorem d_X5_readsLine_159 : decode cX5_readsLine 159 = .ok (.aload_n 0, 1) := by decide +kernel
theorem d_X5_readsLine_160 : decode cX5_readsLine 160 = .ok (.getfield 23, 3) := by decide +kernel
theorem d_X5_readsLine_163 : decode cX5_readsLine 163 = .ok (.bipush 9, 2) := by decide +kernel
theorem d_X5_readsLine_165 : decode cX5_readsLine 165 = .ok (.aload_n 0, 1) := by decide +kernel
theorem d_X5_readsLine_166 : decode cX5_readsLine 166 = .ok (.getfield 168, 3) := by decide +kernel
theorem d_X5_readsLine_169 : decode cX5_readsLine 169 = .ok (.bipush 20, 2) := by decide +kernel
theorem d_X5_readsLine_171 : decode cX5_readsLine 171 = .ok (.idiv, 1) := by decide +kernel
theorem d_X5_readsLine_172 : decode cX5_readsLine 172 = .ok (.iastore, 1) := by decide +kernel
theorem d_X5_readsLine_173 : decode cX5_readsLine 173 = .ok (.aload_n 0, 1) := by decide +kernel
theorem d_X5_readsLine_174 : decode cX5_readsLine 174 = .ok (.getfield 23, 3) := by decide +kernel
theorem d_X5_readsLine_177 : decode cX5_readsLine 177 = .ok (.bipush 11, 2) := by decide +kernel
theorem d_X5_readsLine_179 : decode cX5_readsLine 179 = .ok (.aload_n 0, 1) := by decide +kernel
theorem d_X5_readsLine_180 : decode cX5_readsLine 180 = .ok (.bipush 36, 2) := by decide +kernel
theorem d_X5_readsLine_182 : decode cX5_readsLine 182 = .ok (.iconst 0, 1) := by decide +kernel
theorem d_X5_readsLine_183 : decode cX5_readsLine 183 = .ok (.bipush 12, 2) := by decide +kernel
theorem d_X5_readsLine_185 : decode cX5_readsLine 185 = .ok (.invokevirtual 197, 3) := by decide +kernel
theorem d_X5_readsLine_188 : decode cX5_readsLine 188 = .ok (.iastore, 1) := by decide +kernel
theorem d_X5_readsLine_189 : decode cX5_readsLine 189 = .ok (.goto 53, 3) := by decide +kernel
theorem d_X5_readsLine_192 : decode cX5_readsLine 192 = .ok (.aload_n 0, 1) := by decide +kernel
theorem d_X5_readsLine_193 : decode cX5_readsLine 193 = .ok (.ldc 205, 2) := by decide +kernel
theorem d_X5_readsLine_195 : decode cX5_readsLine 195 = .ok (.iconst 3, 1) := by decide +kernel
theorem d_X5_readsLine_196 : decode cX5_readsLine 196 = .ok (.invokevirtual 193, 3) := by decide +kernel
theorem d_X5_readsLine_199 : decode cX5_readsLine 199 = .ok (.ifCond .eq 20, 3) := by decide +kernel
theorem d_X5_readsLine_202 : decode cX5_readsLine 202 = .ok (.aload_n 0, 1) := by decide +kernel
theorem d_X5_readsLine_203 : decode cX5_readsLine 203 = .ok (.getfield 23, 3) := by decide +kernel
theorem d_X5_readsLine_206 : decode cX5_readsLine 206 = .ok (.iconst 4, 1) := by decide +kernel
theorem d_X5_readsLine_207 : decode cX5_readsLine 207 = .ok (.aload_n 0, 1) := by decide +kernel
theorem d_X5_readsLine_208 : decode cX5_readsLine 208 = .ok (.iconst 1, 1) := by decide +kernel
theorem d_X5_readsLine_209 : decode cX5_readsLine 209 = .ok (.sipush 999, 3) := by decide +kernel
theorem d_X5_readsLine_212 : decode cX5_readsLine 212 = .ok (.invokevirtual 165, 3) := by decide +kernel
theorem d_X5_readsLine_215 : decode cX5_readsLine 215 = .ok (.iastore, 1) := by decide +kernel
theorem d_X5_readsLine_216 : decode cX5_readsLine 216 = .ok (.goto 26, 3) := by decide +kernel
theorem d_X5_readsLine_219 : decode cX5_readsLine 219 = .ok (.aload_n 0, 1) := by decide +kernel
theorem d_X5_readsLine_220 : decode cX5_readsLine 220 = .ok (.ldc 207, 2) := by decide +kernel
theorem d_X5_readsLine_222 : decode cX5_readsLine 222 = .ok (.invokevirtual 159, 3) := by decide +kernel
theorem d_X5_readsLine_225 : decode cX5_readsLine 225 = .ok (.ifCond .eq 11, 3) := by decide +kernel
theorem d_X5_readsLine_228 : decode cX5_readsLine 228 = .ok (.aload_n 0, 1) := by decide +kernel
theorem d_X5_readsLine_229 : decode cX5_readsLine 229 = .ok (.iload_n 1, 1) := by decide +kernel
theorem d_X5_readsLine_230 : decode cX5_readsLine 230 = .ok (.invokevirtual 209, 3) := by decide +kernel
theorem d_X5_readsLine_233 : decode cX5_readsLine 233 = .ok (.goto 9, 3) := by decide +kernel
theorem d_X5_readsLine_236 : decode cX5_readsLine 236 = .ok (.aload_n 0, 1) := by decide +kernel
theorem d_X5_readsLine_237 : decode cX5_readsLine 237 = .ok (.iconst 1, 1) := by decide +kernel
theorem d_X5_readsLine_238 : decode cX5_readsLine 238 = .ok (.iload_n 1, 1) := by decide +kernel
theorem d_X5_readsLine_239 : decode cX5_readsLine 239 = .ok (.invokevirtual 132, 3) := by decide +kernel
theorem d_X5_readsLine_242 : decode cX5_readsLine 242 = .ok (.aload_n 0, 1) := by decide +kernel
theorem d_X5_readsLine_243 : decode cX5_readsLine 243 = .ok (.bipush 59, 2) := by decide +kernel
theorem d_X5_readsLine_245 : decode cX5_readsLine 245 = .ok (.invokevirtual 213, 3) := by decide +kernel
theorem d_X5_readsLine_248 : decode cX5_readsLine 248 = .ok (.return_, 1) := by decide +kernel
abbrev rm_X5_readsLine : Room := { frames := 8, cells := 0, slots := 0, locals := 176 }
set_option maxHeartbeats 4000000 in
set_option maxRecDepth 20000 in
theorem w_X5_readsLine (l : Launch) (b : Wy)  {σ : Sg} {K : Sg → Prop}  (h : m_X5_readsLine  σ K) : Ct l (wM b) yX5_readsLine cX5_readsLine 2 none rm_X5_readsLine [.ref (wB (wM b) + 347)] σ (PV K) := by
  unfold m_X5_readsLine at h
  refine Ct.of (own := RX5) (by decide +kernel) rfl (Nat.le_of_ble_eq_true rfl) (fun x hx o => ?_)
  subst hx
  show J x (wM b) (FinC x (wM b) (PV K) (0, 0)) 0 [(0, .ref (wB (wM b) + 347))] [] (0, 0) σ
  refine J_aload_n o 0 d_X5_readsLine_0 rfl ?_
  refine J_callV (k := 347) (c := 5) o [] rfl (by decide) (Nat.le_of_ble_eq_true rfl) (Nat.le_of_ble_eq_true rfl) mth_X5_here iv_X5_here ml_RX5_104 ⟨Nat.le_of_ble_eq_true rfl, Nat.le_of_ble_eq_true rfl⟩ rfl rfl (Nat.le_of_ble_eq_true rfl) ⟨Nat.le_refl _, Nat.le_refl _⟩ d_X5_readsLine_1 (w_X5_here (xL x) b  h) (aI (fun r1 s1 h => ?_))
  refine J_pop o d_X5_readsLine_4 rfl ?_
  refine J_aload_n o 0 d_X5_readsLine_5 rfl ?_
  refine J_getI o fl_RX5_92 rfl (Nat.le_of_ble_eq_true rfl) (Nat.le_of_ble_eq_true rfl) rfl d_X5_readsLine_6 ?_
  refine J_top (fun l1_9 el1_9 => ?_)
  replace h := h l1_9 el1_9
  refine J_istore_n (lv' := [(1, .int l1_9), (0, .ref (wB (wM b) + 347))]) o d_X5_readsLine_9 (by decide) rfl ?_
  refine J_aload_n o 1 d_X5_readsLine_10 rfl ?_
  refine J_ldcS (i := 21) (tx := "land") o (List.mem_of_getElem? (i := 21) rfl) d_X5_readsLine_11 ?_
  refine J_callV (k := 347) (c := 5) o [.ref (wK (wM b) 21)] rfl (by decide) (Nat.le_of_ble_eq_true rfl) (Nat.le_of_ble_eq_true rfl) mth_X5_takes iv_X5_takes ml_RX5_159 ⟨Nat.le_of_ble_eq_true rfl, Nat.le_of_ble_eq_true rfl⟩ rfl rfl (Nat.le_of_ble_eq_true rfl) ⟨Nat.le_refl _, Nat.le_refl _⟩ d_X5_readsLine_13 (w_X5_takes (xL x) b (Nat.le_of_ble_eq_true rfl) h) (aZ (fun r13 s13 hzr13 h => ?_))
  refine J_if_eq o 26 d_X5_readsLine_16 rfl (fun c16 => ?_) (fun c16 => ?_)
  · replace h := h.1 c16
    refine J_aload_n o 1 d_X5_readsLine_26 rfl ?_
    refine J_ldcS (i := 22) (tx := "current") o (List.mem_of_getElem? (i := 22) rfl) d_X5_readsLine_27 ?_
    refine J_callV (k := 347) (c := 5) o [.ref (wK (wM b) 22)] rfl (by decide) (Nat.le_of_ble_eq_true rfl) (Nat.le_of_ble_eq_true rfl) mth_X5_takes iv_X5_takes ml_RX5_159 ⟨Nat.le_of_ble_eq_true rfl, Nat.le_of_ble_eq_true rfl⟩ rfl rfl (Nat.le_of_ble_eq_true rfl) ⟨Nat.le_refl _, Nat.le_refl _⟩ d_X5_readsLine_29 (w_X5_takes (xL x) b (Nat.le_of_ble_eq_true rfl) h) (aZ (fun r29 s29 hzr29 h => ?_))
    refine J_if_eq o 42 d_X5_readsLine_32 rfl (fun c32 => ?_) (fun c32 => ?_)
    · replace h := h.1 c32
      refine J_aload_n o 1 d_X5_readsLine_42 rfl ?_
      refine J_ldcS (i := 32) (tx := "wind") o (List.mem_of_getElem? (i := 32) rfl) d_X5_readsLine_43 ?_
      refine J_iconst (v := 0) o d_X5_readsLine_45 iconst_0 ?_
      refine J_callV (k := 347) (c := 5) o [.ref (wK (wM b) 32), .int 0] rfl (by decide) (Nat.le_of_ble_eq_true rfl) (Nat.le_of_ble_eq_true rfl) mth_X5_takesOnce iv_X5_takesOnce ml_RX5_193 ⟨Nat.le_of_ble_eq_true rfl, Nat.le_of_ble_eq_true rfl⟩ rfl rfl (Nat.le_of_ble_eq_true rfl) ⟨Nat.le_refl _, Nat.le_refl _⟩ d_X5_readsLine_46 (w_X5_takesOnce (xL x) b (Nat.le_of_ble_eq_true rfl) h) (aZ (fun r46 s46 hzr46 h => ?_))
      refine J_if_eq o 71 d_X5_readsLine_49 rfl (fun c49 => ?_) (fun c49 => ?_)
      · replace h := h.1 c49
        refine J_aload_n o 1 d_X5_readsLine_71 rfl ?_
        refine J_ldcS (i := 33) (tx := "drifter") o (List.mem_of_getElem? (i := 33) rfl) d_X5_readsLine_72 ?_
        refine J_iconst (v := 1) o d_X5_readsLine_74 iconst_1 ?_
        refine J_callV (k := 347) (c := 5) o [.ref (wK (wM b) 33), .int 1] rfl (by decide) (Nat.le_of_ble_eq_true rfl) (Nat.le_of_ble_eq_true rfl) mth_X5_takesOnce iv_X5_takesOnce ml_RX5_193 ⟨Nat.le_of_ble_eq_true rfl, Nat.le_of_ble_eq_true rfl⟩ rfl rfl (Nat.le_of_ble_eq_true rfl) ⟨Nat.le_refl _, Nat.le_refl _⟩ d_X5_readsLine_75 (w_X5_takesOnce (xL x) b (Nat.le_of_ble_eq_true rfl) h) (aZ (fun r75 s75 hzr75 h => ?_))
        refine J_if_eq o 130 d_X5_readsLine_78 rfl (fun c78 => ?_) (fun c78 => ?_)
        · replace h := h.1 c78
          refine J_aload_n o 1 d_X5_readsLine_130 rfl ?_
          refine J_ldcS (i := 34) (tx := "port") o (List.mem_of_getElem? (i := 34) rfl) d_X5_readsLine_131 ?_
          refine J_iconst (v := 2) o d_X5_readsLine_133 iconst_2 ?_
          refine J_callV (k := 347) (c := 5) o [.ref (wK (wM b) 34), .int 2] rfl (by decide) (Nat.le_of_ble_eq_true rfl) (Nat.le_of_ble_eq_true rfl) mth_X5_takesOnce iv_X5_takesOnce ml_RX5_193 ⟨Nat.le_of_ble_eq_true rfl, Nat.le_of_ble_eq_true rfl⟩ rfl rfl (Nat.le_of_ble_eq_true rfl) ⟨Nat.le_refl _, Nat.le_refl _⟩ d_X5_readsLine_134 (w_X5_takesOnce (xL x) b (Nat.le_of_ble_eq_true rfl) h) (aZ (fun r134 s134 hzr134 h => ?_))
          refine J_if_eq o 192 d_X5_readsLine_137 rfl (fun c137 => ?_) (fun c137 => ?_)
          · replace h := h.1 c137
            refine J_aload_n o 1 d_X5_readsLine_192 rfl ?_
            refine J_ldcS (i := 35) (tx := "tank") o (List.mem_of_getElem? (i := 35) rfl) d_X5_readsLine_193 ?_
            refine J_iconst (v := 3) o d_X5_readsLine_195 iconst_3 ?_
            refine J_callV (k := 347) (c := 5) o [.ref (wK (wM b) 35), .int 3] rfl (by decide) (Nat.le_of_ble_eq_true rfl) (Nat.le_of_ble_eq_true rfl) mth_X5_takesOnce iv_X5_takesOnce ml_RX5_193 ⟨Nat.le_of_ble_eq_true rfl, Nat.le_of_ble_eq_true rfl⟩ rfl rfl (Nat.le_of_ble_eq_true rfl) ⟨Nat.le_refl _, Nat.le_refl _⟩ d_X5_readsLine_196 (w_X5_takesOnce (xL x) b (Nat.le_of_ble_eq_true rfl) h) (aZ (fun r196 s196 hzr196 h => ?_))
            refine J_if_eq o 219 d_X5_readsLine_199 rfl (fun c199 => ?_) (fun c199 => ?_)
            · replace h := h.1 c199
              refine J_aload_n o 1 d_X5_readsLine_219 rfl ?_
              refine J_ldcS (i := 36) (tx := "helper") o (List.mem_of_getElem? (i := 36) rfl) d_X5_readsLine_220 ?_
              refine J_callV (k := 347) (c := 5) o [.ref (wK (wM b) 36)] rfl (by decide) (Nat.le_of_ble_eq_true rfl) (Nat.le_of_ble_eq_true rfl) mth_X5_takes iv_X5_takes ml_RX5_159 ⟨Nat.le_of_ble_eq_true rfl, Nat.le_of_ble_eq_true rfl⟩ rfl rfl (Nat.le_of_ble_eq_true rfl) ⟨Nat.le_refl _, Nat.le_refl _⟩ d_X5_readsLine_222 (w_X5_takes (xL x) b (Nat.le_of_ble_eq_true rfl) h) (aZ (fun r222 s222 hzr222 h => ?_))
              refine J_if_eq o 236 d_X5_readsLine_225 rfl (fun c225 => ?_) (fun c225 => ?_)
              · replace h := h.1 c225
                refine J_aload_n o 1 d_X5_readsLine_236 rfl ?_
                refine J_iconst (v := 1) o d_X5_readsLine_237 iconst_1 ?_
                refine J_iload_n o 0 d_X5_readsLine_238 rfl ?_
                refine J_callV (k := 347) (c := 5) o [.int 1, .int l1_9] rfl (by decide) (Nat.le_of_ble_eq_true rfl) (Nat.le_of_ble_eq_true rfl) mth_X5_wrong iv_X5_wrong ml_RX5_132 ⟨Nat.le_of_ble_eq_true rfl, Nat.le_of_ble_eq_true rfl⟩ rfl rfl (Nat.le_of_ble_eq_true rfl) ⟨Nat.le_refl _, Nat.le_refl _⟩ d_X5_readsLine_239 (w_X5_wrong (xL x) b  h) (aV (fun s239 h => ?_))
                refine J_aload_n o 1 d_X5_readsLine_242 rfl ?_
                refine J_bipush (v := 59) o d_X5_readsLine_243 bipush_59 ?_
                refine J_callV (k := 347) (c := 5) o [.int 59] rfl (by decide) (Nat.le_of_ble_eq_true rfl) (Nat.le_of_ble_eq_true rfl) mth_X5_must iv_X5_must ml_RX5_213 ⟨Nat.le_of_ble_eq_true rfl, Nat.le_of_ble_eq_true rfl⟩ rfl rfl (Nat.le_of_ble_eq_true rfl) ⟨Nat.le_refl _, Nat.le_refl _⟩ d_X5_readsLine_245 (w_X5_must (xL x) b  h) (aV (fun s245 h => ?_))
                exact J_vret o d_X5_readsLine_248 ⟨rfl, h⟩
              · replace h := h.2 c225
                refine J_aload_n o 1 d_X5_readsLine_228 rfl ?_
                refine J_iload_n o 0 d_X5_readsLine_229 rfl ?_
                refine J_callV (k := 347) (c := 5) o [.int l1_9] rfl (by decide) (Nat.le_of_ble_eq_true rfl) (Nat.le_of_ble_eq_true rfl) mth_X5_readsHelper iv_X5_readsHelper ml_RX5_209 ⟨Nat.le_of_ble_eq_true rfl, Nat.le_of_ble_eq_true rfl⟩ rfl rfl (Nat.le_of_ble_eq_true rfl) ⟨Nat.le_refl _, Nat.le_refl _⟩ d_X5_readsLine_230 (w_X5_readsHelper (xL x) b  h) (aV (fun s230 h => ?_))
                refine J_goto o 242 d_X5_readsLine_233 rfl ?_
                refine J_aload_n o 1 d_X5_readsLine_242 rfl ?_
                refine J_bipush (v := 59) o d_X5_readsLine_243 bipush_59 ?_
                refine J_callV (k := 347) (c := 5) o [.int 59] rfl (by decide) (Nat.le_of_ble_eq_true rfl) (Nat.le_of_ble_eq_true rfl) mth_X5_must iv_X5_must ml_RX5_213 ⟨Nat.le_of_ble_eq_true rfl, Nat.le_of_ble_eq_true rfl⟩ rfl rfl (Nat.le_of_ble_eq_true rfl) ⟨Nat.le_refl _, Nat.le_refl _⟩ d_X5_readsLine_245 (w_X5_must (xL x) b  h) (aV (fun s245 h => ?_))
                exact J_vret o d_X5_readsLine_248 ⟨rfl, h⟩
            · replace h := h.2 c199
              refine J_aload_n o 1 d_X5_readsLine_202 rfl ?_
              refine J_getR (t := 351) o fl_RX5_23 rfl (Nat.le_of_ble_eq_true rfl) (Nat.le_of_ble_eq_true rfl) rfl rfl d_X5_readsLine_203 ?_
              refine J_iconst (v := 4) o d_X5_readsLine_206 iconst_4 ?_
              refine J_aload_n o 1 d_X5_readsLine_207 rfl ?_
              refine J_iconst (v := 1) o d_X5_readsLine_208 iconst_1 ?_
              refine J_sipush (v := 999) o d_X5_readsLine_209 sipush_999 ?_
              refine J_callV (k := 347) (c := 5) o [.int 1, .int 999] rfl (by decide) (Nat.le_of_ble_eq_true rfl) (Nat.le_of_ble_eq_true rfl) mth_X5_number iv_X5_number ml_RX5_165 ⟨Nat.le_of_ble_eq_true rfl, Nat.le_of_ble_eq_true rfl⟩ rfl rfl (Nat.le_of_ble_eq_true rfl) ⟨Nat.le_refl _, Nat.le_refl _⟩ d_X5_readsLine_212 (w_X5_number (xL x) b  h) (aI (fun r212 s212 h => ?_))
              have b215 := h.1
              replace h := h.2
              refine J_iast o A_351 (vpc (rfl : ln 351 = 1098) b215) d_X5_readsLine_215 ?_
              refine J_nS (fun s215 es215 => ?_)
              replace h := h s215 es215
              refine J_goto o 242 d_X5_readsLine_216 rfl ?_
              refine J_aload_n o 1 d_X5_readsLine_242 rfl ?_
              refine J_bipush (v := 59) o d_X5_readsLine_243 bipush_59 ?_
              refine J_callV (k := 347) (c := 5) o [.int 59] rfl (by decide) (Nat.le_of_ble_eq_true rfl) (Nat.le_of_ble_eq_true rfl) mth_X5_must iv_X5_must ml_RX5_213 ⟨Nat.le_of_ble_eq_true rfl, Nat.le_of_ble_eq_true rfl⟩ rfl rfl (Nat.le_of_ble_eq_true rfl) ⟨Nat.le_refl _, Nat.le_refl _⟩ d_X5_readsLine_245 (w_X5_must (xL x) b  h) (aV (fun s245 h => ?_))
              exact J_vret o d_X5_readsLine_248 ⟨rfl, h⟩
          · replace h := h.2 c137
            refine J_aload_n o 1 d_X5_readsLine_140 rfl ?_
            refine J_iconst (v := 0) o d_X5_readsLine_141 iconst_0 ?_
            refine J_callV (k := 347) (c := 5) o [.int 0] rfl (by decide) (Nat.le_of_ble_eq_true rfl) (Nat.le_of_ble_eq_true rfl) mth_X5_readsCell iv_X5_readsCell ml_RX5_174 ⟨Nat.le_of_ble_eq_true rfl, Nat.le_of_ble_eq_true rfl⟩ rfl rfl (Nat.le_of_ble_eq_true rfl) ⟨Nat.le_refl _, Nat.le_refl _⟩ d_X5_readsLine_142 (w_X5_readsCell (xL x) b  h) (aV (fun s142 h => ?_))
            refine J_aload_n o 1 d_X5_readsLine_145 rfl ?_
            refine J_getR (t := 351) o fl_RX5_23 rfl (Nat.le_of_ble_eq_true rfl) (Nat.le_of_ble_eq_true rfl) rfl rfl d_X5_readsLine_146 ?_
            refine J_bipush (v := 8) o d_X5_readsLine_149 bipush_8 ?_
            refine J_aload_n o 1 d_X5_readsLine_151 rfl ?_
            refine J_getI o fl_RX5_168 rfl (Nat.le_of_ble_eq_true rfl) (Nat.le_of_ble_eq_true rfl) rfl d_X5_readsLine_152 ?_
            refine J_bipush (v := 20) o d_X5_readsLine_155 bipush_20 ?_
            refine J_irem o d_X5_readsLine_157 (by decide) ?_
            have b158 := h.1
            replace h := h.2
            refine J_iast o A_351 (vpc (rfl : ln 351 = 1098) b158) d_X5_readsLine_158 ?_
            refine J_nS (fun s158 es158 => ?_)
            replace h := h s158 es158
            refine J_aload_n o 1 d_X5_readsLine_159 rfl ?_
            refine J_getR (t := 351) o fl_RX5_23 rfl (Nat.le_of_ble_eq_true rfl) (Nat.le_of_ble_eq_true rfl) rfl rfl d_X5_readsLine_160 ?_
            refine J_bipush (v := 9) o d_X5_readsLine_163 bipush_9 ?_
            refine J_aload_n o 1 d_X5_readsLine_165 rfl ?_
            refine J_getI o fl_RX5_168 rfl (Nat.le_of_ble_eq_true rfl) (Nat.le_of_ble_eq_true rfl) rfl d_X5_readsLine_166 ?_
            refine J_bipush (v := 20) o d_X5_readsLine_169 bipush_20 ?_
            refine J_idiv o d_X5_readsLine_171 (by decide) ?_
            have b172 := h.1
            replace h := h.2
            refine J_iast o A_351 (vpc (rfl : ln 351 = 1098) b172) d_X5_readsLine_172 ?_
            refine J_nS (fun s172 es172 => ?_)
            replace h := h s172 es172
            refine J_aload_n o 1 d_X5_readsLine_173 rfl ?_
            refine J_getR (t := 351) o fl_RX5_23 rfl (Nat.le_of_ble_eq_true rfl) (Nat.le_of_ble_eq_true rfl) rfl rfl d_X5_readsLine_174 ?_
            refine J_bipush (v := 11) o d_X5_readsLine_177 bipush_11 ?_
            refine J_aload_n o 1 d_X5_readsLine_179 rfl ?_
            refine J_bipush (v := 36) o d_X5_readsLine_180 bipush_36 ?_
            refine J_iconst (v := 0) o d_X5_readsLine_182 iconst_0 ?_
            refine J_bipush (v := 12) o d_X5_readsLine_183 bipush_12 ?_
            refine J_callV (k := 347) (c := 5) o [.int 36, .int 0, .int 12] rfl (by decide) (Nat.le_of_ble_eq_true rfl) (Nat.le_of_ble_eq_true rfl) mth_X5_directions iv_X5_directions ml_RX5_197 ⟨Nat.le_of_ble_eq_true rfl, Nat.le_of_ble_eq_true rfl⟩ rfl rfl (Nat.le_of_ble_eq_true rfl) ⟨Nat.le_refl _, Nat.le_refl _⟩ d_X5_readsLine_185 (w_X5_directions (xL x) b  h) (aI (fun r185 s185 h => ?_))
            have b188 := h.1
            replace h := h.2
            refine J_iast o A_351 (vpc (rfl : ln 351 = 1098) b188) d_X5_readsLine_188 ?_
            refine J_nS (fun s188 es188 => ?_)
            replace h := h s188 es188
            refine J_goto o 242 d_X5_readsLine_189 rfl ?_
            refine J_aload_n o 1 d_X5_readsLine_242 rfl ?_
            refine J_bipush (v := 59) o d_X5_readsLine_243 bipush_59 ?_
            refine J_callV (k := 347) (c := 5) o [.int 59] rfl (by decide) (Nat.le_of_ble_eq_true rfl) (Nat.le_of_ble_eq_true rfl) mth_X5_must iv_X5_must ml_RX5_213 ⟨Nat.le_of_ble_eq_true rfl, Nat.le_of_ble_eq_true rfl⟩ rfl rfl (Nat.le_of_ble_eq_true rfl) ⟨Nat.le_refl _, Nat.le_refl _⟩ d_X5_readsLine_245 (w_X5_must (xL x) b  h) (aV (fun s245 h => ?_))
            exact J_vret o d_X5_readsLine_248 ⟨rfl, h⟩
        · replace h := h.2 c78
          refine J_aload_n o 1 d_X5_readsLine_81 rfl ?_
          refine J_iconst (v := 0) o d_X5_readsLine_82 iconst_0 ?_
          refine J_callV (k := 347) (c := 5) o [.int 0] rfl (by decide) (Nat.le_of_ble_eq_true rfl) (Nat.le_of_ble_eq_true rfl) mth_X5_readsCell iv_X5_readsCell ml_RX5_174 ⟨Nat.le_of_ble_eq_true rfl, Nat.le_of_ble_eq_true rfl⟩ rfl rfl (Nat.le_of_ble_eq_true rfl) ⟨Nat.le_refl _, Nat.le_refl _⟩ d_X5_readsLine_83 (w_X5_readsCell (xL x) b  h) (aV (fun s83 h => ?_))
          refine J_aload_n o 1 d_X5_readsLine_86 rfl ?_
          refine J_getR (t := 351) o fl_RX5_23 rfl (Nat.le_of_ble_eq_true rfl) (Nat.le_of_ble_eq_true rfl) rfl rfl d_X5_readsLine_87 ?_
          refine J_bipush (v := 6) o d_X5_readsLine_90 bipush_6 ?_
          refine J_aload_n o 1 d_X5_readsLine_92 rfl ?_
          refine J_getI o fl_RX5_168 rfl (Nat.le_of_ble_eq_true rfl) (Nat.le_of_ble_eq_true rfl) rfl d_X5_readsLine_93 ?_
          refine J_bipush (v := 20) o d_X5_readsLine_96 bipush_20 ?_
          refine J_irem o d_X5_readsLine_98 (by decide) ?_
          have b99 := h.1
          replace h := h.2
          refine J_iast o A_351 (vpc (rfl : ln 351 = 1098) b99) d_X5_readsLine_99 ?_
          refine J_nS (fun s99 es99 => ?_)
          replace h := h s99 es99
          refine J_aload_n o 1 d_X5_readsLine_100 rfl ?_
          refine J_getR (t := 351) o fl_RX5_23 rfl (Nat.le_of_ble_eq_true rfl) (Nat.le_of_ble_eq_true rfl) rfl rfl d_X5_readsLine_101 ?_
          refine J_bipush (v := 7) o d_X5_readsLine_104 bipush_7 ?_
          refine J_aload_n o 1 d_X5_readsLine_106 rfl ?_
          refine J_getI o fl_RX5_168 rfl (Nat.le_of_ble_eq_true rfl) (Nat.le_of_ble_eq_true rfl) rfl d_X5_readsLine_107 ?_
          refine J_bipush (v := 20) o d_X5_readsLine_110 bipush_20 ?_
          refine J_idiv o d_X5_readsLine_112 (by decide) ?_
          have b113 := h.1
          replace h := h.2
          refine J_iast o A_351 (vpc (rfl : ln 351 = 1098) b113) d_X5_readsLine_113 ?_
          refine J_nS (fun s113 es113 => ?_)
          replace h := h s113 es113
          refine J_aload_n o 1 d_X5_readsLine_114 rfl ?_
          refine J_getR (t := 351) o fl_RX5_23 rfl (Nat.le_of_ble_eq_true rfl) (Nat.le_of_ble_eq_true rfl) rfl rfl d_X5_readsLine_115 ?_
          refine J_iconst (v := 5) o d_X5_readsLine_118 iconst_5 ?_
          refine J_aload_n o 1 d_X5_readsLine_119 rfl ?_
          refine J_iconst (v := 0) o d_X5_readsLine_120 iconst_0 ?_
          refine J_bipush (v := 9) o d_X5_readsLine_121 bipush_9 ?_
          refine J_callV (k := 347) (c := 5) o [.int 0, .int 9] rfl (by decide) (Nat.le_of_ble_eq_true rfl) (Nat.le_of_ble_eq_true rfl) mth_X5_number iv_X5_number ml_RX5_165 ⟨Nat.le_of_ble_eq_true rfl, Nat.le_of_ble_eq_true rfl⟩ rfl rfl (Nat.le_of_ble_eq_true rfl) ⟨Nat.le_refl _, Nat.le_refl _⟩ d_X5_readsLine_123 (w_X5_number (xL x) b  h) (aI (fun r123 s123 h => ?_))
          have b126 := h.1
          replace h := h.2
          refine J_iast o A_351 (vpc (rfl : ln 351 = 1098) b126) d_X5_readsLine_126 ?_
          refine J_nS (fun s126 es126 => ?_)
          replace h := h s126 es126
          refine J_goto o 242 d_X5_readsLine_127 rfl ?_
          refine J_aload_n o 1 d_X5_readsLine_242 rfl ?_
          refine J_bipush (v := 59) o d_X5_readsLine_243 bipush_59 ?_
          refine J_callV (k := 347) (c := 5) o [.int 59] rfl (by decide) (Nat.le_of_ble_eq_true rfl) (Nat.le_of_ble_eq_true rfl) mth_X5_must iv_X5_must ml_RX5_213 ⟨Nat.le_of_ble_eq_true rfl, Nat.le_of_ble_eq_true rfl⟩ rfl rfl (Nat.le_of_ble_eq_true rfl) ⟨Nat.le_refl _, Nat.le_refl _⟩ d_X5_readsLine_245 (w_X5_must (xL x) b  h) (aV (fun s245 h => ?_))
          exact J_vret o d_X5_readsLine_248 ⟨rfl, h⟩
      · replace h := h.2 c49
        refine J_aload_n o 1 d_X5_readsLine_52 rfl ?_
        refine J_getR (t := 351) o fl_RX5_23 rfl (Nat.le_of_ble_eq_true rfl) (Nat.le_of_ble_eq_true rfl) rfl rfl d_X5_readsLine_53 ?_
        refine J_bipush (v := 10) o d_X5_readsLine_56 bipush_10 ?_
        refine J_aload_n o 1 d_X5_readsLine_58 rfl ?_
        refine J_bipush (v := 12) o d_X5_readsLine_59 bipush_12 ?_
        refine J_iconst (v := 1) o d_X5_readsLine_61 iconst_1 ?_
        refine J_bipush (v := 24) o d_X5_readsLine_62 bipush_24 ?_
        refine J_callV (k := 347) (c := 5) o [.int 12, .int 1, .int 24] rfl (by decide) (Nat.le_of_ble_eq_true rfl) (Nat.le_of_ble_eq_true rfl) mth_X5_directions iv_X5_directions ml_RX5_197 ⟨Nat.le_of_ble_eq_true rfl, Nat.le_of_ble_eq_true rfl⟩ rfl rfl (Nat.le_of_ble_eq_true rfl) ⟨Nat.le_refl _, Nat.le_refl _⟩ d_X5_readsLine_64 (w_X5_directions (xL x) b  h) (aI (fun r64 s64 h => ?_))
        have b67 := h.1
        replace h := h.2
        refine J_iast o A_351 (vpc (rfl : ln 351 = 1098) b67) d_X5_readsLine_67 ?_
        refine J_nS (fun s67 es67 => ?_)
        replace h := h s67 es67
        refine J_goto o 242 d_X5_readsLine_68 rfl ?_
        refine J_aload_n o 1 d_X5_readsLine_242 rfl ?_
        refine J_bipush (v := 59) o d_X5_readsLine_243 bipush_59 ?_
        refine J_callV (k := 347) (c := 5) o [.int 59] rfl (by decide) (Nat.le_of_ble_eq_true rfl) (Nat.le_of_ble_eq_true rfl) mth_X5_must iv_X5_must ml_RX5_213 ⟨Nat.le_of_ble_eq_true rfl, Nat.le_of_ble_eq_true rfl⟩ rfl rfl (Nat.le_of_ble_eq_true rfl) ⟨Nat.le_refl _, Nat.le_refl _⟩ d_X5_readsLine_245 (w_X5_must (xL x) b  h) (aV (fun s245 h => ?_))
        exact J_vret o d_X5_readsLine_248 ⟨rfl, h⟩
    · replace h := h.2 c32
      refine J_aload_n o 1 d_X5_readsLine_35 rfl ?_
      refine J_callV (k := 347) (c := 5) o [] rfl (by decide) (Nat.le_of_ble_eq_true rfl) (Nat.le_of_ble_eq_true rfl) mth_X5_readsCurrent iv_X5_readsCurrent ml_RX5_188 ⟨Nat.le_of_ble_eq_true rfl, Nat.le_of_ble_eq_true rfl⟩ rfl rfl (Nat.le_of_ble_eq_true rfl) ⟨Nat.le_refl _, Nat.le_refl _⟩ d_X5_readsLine_36 (w_X5_readsCurrent (xL x) b  h) (aV (fun s36 h => ?_))
      refine J_goto o 242 d_X5_readsLine_39 rfl ?_
      refine J_aload_n o 1 d_X5_readsLine_242 rfl ?_
      refine J_bipush (v := 59) o d_X5_readsLine_243 bipush_59 ?_
      refine J_callV (k := 347) (c := 5) o [.int 59] rfl (by decide) (Nat.le_of_ble_eq_true rfl) (Nat.le_of_ble_eq_true rfl) mth_X5_must iv_X5_must ml_RX5_213 ⟨Nat.le_of_ble_eq_true rfl, Nat.le_of_ble_eq_true rfl⟩ rfl rfl (Nat.le_of_ble_eq_true rfl) ⟨Nat.le_refl _, Nat.le_refl _⟩ d_X5_readsLine_245 (w_X5_must (xL x) b  h) (aV (fun s245 h => ?_))
      exact J_vret o d_X5_readsLine_248 ⟨rfl, h⟩
  · replace h := h.2 c16
    refine J_aload_n o 1 d_X5_readsLine_19 rfl ?_
    refine J_callV (k := 347) (c := 5) o [] rfl (by decide) (Nat.le_of_ble_eq_true rfl) (Nat.le_of_ble_eq_true rfl) mth_X5_readsLand iv_X5_readsLand ml_RX5_183 ⟨Nat.le_of_ble_eq_true rfl, Nat.le_of_ble_eq_true rfl⟩ rfl rfl (Nat.le_of_ble_eq_true rfl) ⟨Nat.le_refl _, Nat.le_refl _⟩ d_X5_readsLine_20 (w_X5_readsLand (xL x) b  h) (aV (fun s20 h => ?_))
    refine J_goto o 242 d_X5_readsLine_23 rfl ?_
    refine J_aload_n o 1 d_X5_readsLine_242 rfl ?_
    refine J_bipush (v := 59) o d_X5_readsLine_243 bipush_59 ?_
    refine J_callV (k := 347) (c := 5) o [.int 59] rfl (by decide) (Nat.le_of_ble_eq_true rfl) (Nat.le_of_ble_eq_true rfl) mth_X5_must iv_X5_must ml_RX5_213 ⟨Nat.le_of_ble_eq_true rfl, Nat.le_of_ble_eq_true rfl⟩ rfl rfl (Nat.le_of_ble_eq_true rfl) ⟨Nat.le_refl _, Nat.le_refl _⟩ d_X5_readsLine_245 (w_X5_must (xL x) b  h) (aV (fun s245 h => ?_))
    exact J_vret o d_X5_readsLine_248 ⟨rfl, h⟩
