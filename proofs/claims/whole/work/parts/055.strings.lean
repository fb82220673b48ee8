/-! String constants: length and charAt, by the JDK's own code -/
theorem d_J0_length_8abf5_0 : decode cJ0_length_8abf5 0 = .ok (.aload_n 0, 1) := by decide +kernel
theorem d_J0_length_8abf5_1 : decode cJ0_length_8abf5 1 = .ok (.getfield 9, 3) := by decide +kernel
theorem d_J0_length_8abf5_4 : decode cJ0_length_8abf5 4 = .ok (.arraylength, 1) := by decide +kernel
theorem d_J0_length_8abf5_5 : decode cJ0_length_8abf5 5 = .ok (.aload_n 0, 1) := by decide +kernel
theorem d_J0_length_8abf5_6 : decode cJ0_length_8abf5 6 = .ok (.invokevirtual 335, 3) := by decide +kernel
theorem d_J0_length_8abf5_9 : decode cJ0_length_8abf5 9 = .ok (.ishr, 1) := by decide +kernel
theorem d_J0_length_8abf5_10 : decode cJ0_length_8abf5 10 = .ok (.ireturn, 1) := by decide +kernel
theorem d_J0_charAt_5068e_0 : decode cJ0_charAt_5068e 0 = .ok (.aload_n 0, 1) := by decide +kernel
theorem d_J0_charAt_5068e_1 : decode cJ0_charAt_5068e 1 = .ok (.invokevirtual 492, 3) := by decide +kernel
theorem d_J0_charAt_5068e_4 : decode cJ0_charAt_5068e 4 = .ok (.ifCond .eq 12, 3) := by decide +kernel
theorem d_J0_charAt_5068e_7 : decode cJ0_charAt_5068e 7 = .ok (.aload_n 0, 1) := by decide +kernel
theorem d_J0_charAt_5068e_8 : decode cJ0_charAt_5068e 8 = .ok (.getfield 9, 3) := by decide +kernel
theorem d_J0_charAt_5068e_11 : decode cJ0_charAt_5068e 11 = .ok (.iload_n 1, 1) := by decide +kernel
theorem d_J0_charAt_5068e_12 : decode cJ0_charAt_5068e 12 = .ok (.invokestatic 495, 3) := by decide +kernel
theorem d_J0_charAt_5068e_15 : decode cJ0_charAt_5068e 15 = .ok (.ireturn, 1) := by decide +kernel
theorem d_J0_coder_7d493_0 : decode cJ0_coder_7d493 0 = .ok (.getstatic 38, 3) := by decide +kernel
theorem d_J0_coder_7d493_3 : decode cJ0_coder_7d493 3 = .ok (.ifCond .eq 10, 3) := by decide +kernel
theorem d_J0_coder_7d493_6 : decode cJ0_coder_7d493 6 = .ok (.aload_n 0, 1) := by decide +kernel
theorem d_J0_coder_7d493_7 : decode cJ0_coder_7d493 7 = .ok (.getfield 15, 3) := by decide +kernel
theorem d_J0_coder_7d493_10 : decode cJ0_coder_7d493 10 = .ok (.goto 4, 3) := by decide +kernel
theorem d_J0_coder_7d493_13 : decode cJ0_coder_7d493 13 = .ok (.iconst 1, 1) := by decide +kernel
theorem d_J0_coder_7d493_14 : decode cJ0_coder_7d493 14 = .ok (.ireturn, 1) := by decide +kernel
theorem d_J0_isLatin1_aae02_0 : decode cJ0_isLatin1_aae02 0 = .ok (.getstatic 38, 3) := by decide +kernel
theorem d_J0_isLatin1_aae02_3 : decode cJ0_isLatin1_aae02 3 = .ok (.ifCond .eq 14, 3) := by decide +kernel
theorem d_J0_isLatin1_aae02_6 : decode cJ0_isLatin1_aae02 6 = .ok (.aload_n 0, 1) := by decide +kernel
theorem d_J0_isLatin1_aae02_7 : decode cJ0_isLatin1_aae02 7 = .ok (.getfield 15, 3) := by decide +kernel
theorem d_J0_isLatin1_aae02_10 : decode cJ0_isLatin1_aae02 10 = .ok (.ifCond .ne 7, 3) := by decide +kernel
theorem d_J0_isLatin1_aae02_13 : decode cJ0_isLatin1_aae02 13 = .ok (.iconst 1, 1) := by decide +kernel
theorem d_J0_isLatin1_aae02_14 : decode cJ0_isLatin1_aae02 14 = .ok (.goto 4, 3) := by decide +kernel
theorem d_J0_isLatin1_aae02_17 : decode cJ0_isLatin1_aae02 17 = .ok (.iconst 0, 1) := by decide +kernel
theorem d_J0_isLatin1_aae02_18 : decode cJ0_isLatin1_aae02 18 = .ok (.ireturn, 1) := by decide +kernel
theorem d_J0_checkIndex_df160_0 : decode cJ0_checkIndex_df160 0 = .ok (.iload_n 0, 1) := by decide +kernel
theorem d_J0_checkIndex_df160_1 : decode cJ0_checkIndex_df160 1 = .ok (.iload_n 1, 1) := by decide +kernel
theorem d_J0_checkIndex_df160_2 : decode cJ0_checkIndex_df160 2 = .ok (.getstatic 1053, 3) := by decide +kernel
theorem d_J0_checkIndex_df160_5 : decode cJ0_checkIndex_df160 5 = .ok (.invokestatic 1059, 3) := by decide +kernel
theorem d_J0_checkIndex_df160_8 : decode cJ0_checkIndex_df160 8 = .ok (.pop, 1) := by decide +kernel
theorem d_J0_checkIndex_df160_9 : decode cJ0_checkIndex_df160 9 = .ok (.return_, 1) := by decide +kernel
theorem d_J1_charAt_3b067_0 : decode cJ1_charAt_3b067 0 = .ok (.iload_n 1, 1) := by decide +kernel
theorem d_J1_charAt_3b067_1 : decode cJ1_charAt_3b067 1 = .ok (.aload_n 0, 1) := by decide +kernel
theorem d_J1_charAt_3b067_2 : decode cJ1_charAt_3b067 2 = .ok (.arraylength, 1) := by decide +kernel
theorem d_J1_charAt_3b067_3 : decode cJ1_charAt_3b067 3 = .ok (.invokestatic 9, 3) := by decide +kernel
theorem d_J1_charAt_3b067_6 : decode cJ1_charAt_3b067 6 = .ok (.aload_n 0, 1) := by decide +kernel
theorem d_J1_charAt_3b067_7 : decode cJ1_charAt_3b067 7 = .ok (.iload_n 1, 1) := by decide +kernel
theorem d_J1_charAt_3b067_8 : decode cJ1_charAt_3b067 8 = .ok (.baload, 1) := by decide +kernel
theorem d_J1_charAt_3b067_9 : decode cJ1_charAt_3b067 9 = .ok (.sipush 255, 3) := by decide +kernel
theorem d_J1_charAt_3b067_12 : decode cJ1_charAt_3b067 12 = .ok (.iand, 1) := by decide +kernel
theorem d_J1_charAt_3b067_13 : decode cJ1_charAt_3b067 13 = .ok (.i2c, 1) := by decide +kernel
theorem d_J1_charAt_3b067_14 : decode cJ1_charAt_3b067 14 = .ok (.ireturn, 1) := by decide +kernel
theorem d_J3_checkIndex_8e157_0 : decode cJ3_checkIndex_8e157 0 = .ok (.iload_n 0, 1) := by decide +kernel
theorem d_J3_checkIndex_8e157_1 : decode cJ3_checkIndex_8e157 1 = .ok (.ifCond .lt 8, 3) := by decide +kernel
theorem d_J3_checkIndex_8e157_4 : decode cJ3_checkIndex_8e157 4 = .ok (.iload_n 0, 1) := by decide +kernel
theorem d_J3_checkIndex_8e157_5 : decode cJ3_checkIndex_8e157 5 = .ok (.iload_n 1, 1) := by decide +kernel
theorem d_J3_checkIndex_8e157_6 : decode cJ3_checkIndex_8e157 6 = .ok (.if_icmp .lt 10, 3) := by decide +kernel
theorem d_J3_checkIndex_8e157_16 : decode cJ3_checkIndex_8e157 16 = .ok (.iload_n 0, 1) := by decide +kernel
theorem d_J3_checkIndex_8e157_17 : decode cJ3_checkIndex_8e157 17 = .ok (.ireturn, 1) := by decide +kernel
theorem ml_RJ0_335 : Cond.methodLink RJ0 335 yJ0_coder_7d493 ∈ TBL := tb_in 578 (by decide +kernel) rfl
theorem ml_RJ0_492 : Cond.methodLink RJ0 492 yJ0_isLatin1_aae02 ∈ TBL := tb_in 588 (by decide +kernel) rfl
theorem ml_RJ0_495 : Cond.methodLink RJ0 495 yJ1_charAt_3b067 ∈ TBL := tb_in 592 (by decide +kernel) rfl
theorem ml_RJ1_9 : Cond.methodLink RJ1 9 yJ0_checkIndex_df160 ∈ TBL := tb_in 595 (by decide +kernel) rfl
theorem ml_RJ0_1059 : Cond.methodLink RJ0 1059 yJ3_checkIndex_8e157 ∈ TBL := tb_in 600 (by decide +kernel) rfl
theorem mth_J0_length_8abf5 : Mth yJ0_length_8abf5 cJ0_length_8abf5 1 (some .int) 0 := ⟨tb_in 577 (by decide +kernel) rfl, tb_in 13 (by decide +kernel) rfl, ⟨by decide +kernel, by decide +kernel⟩, by decide +kernel⟩
theorem mth_J0_charAt_5068e : Mth yJ0_charAt_5068e cJ0_charAt_5068e 2 (some .char) 1 := ⟨tb_in 587 (by decide +kernel) rfl, tb_in 13 (by decide +kernel) rfl, ⟨by decide +kernel, by decide +kernel⟩, by decide +kernel⟩
theorem mth_J0_coder_7d493 : Mth yJ0_coder_7d493 cJ0_coder_7d493 1 (some .byte) 0 := ⟨tb_in 581 (by decide +kernel) rfl, tb_in 13 (by decide +kernel) rfl, ⟨by decide +kernel, by decide +kernel⟩, by decide +kernel⟩
theorem mth_J0_isLatin1_aae02 : Mth yJ0_isLatin1_aae02 cJ0_isLatin1_aae02 1 (some .boolean) 0 := ⟨tb_in 591 (by decide +kernel) rfl, tb_in 13 (by decide +kernel) rfl, ⟨by decide +kernel, by decide +kernel⟩, by decide +kernel⟩
theorem mth_J0_checkIndex_df160 : Mth yJ0_checkIndex_df160 cJ0_checkIndex_df160 2 none 2 := ⟨tb_in 597 (by decide +kernel) rfl, tb_in 13 (by decide +kernel) rfl, ⟨by decide +kernel, by decide +kernel⟩, by decide +kernel⟩
theorem mth_J1_charAt_3b067 : Mth yJ1_charAt_3b067 cJ1_charAt_3b067 2 (some .char) 2 := ⟨tb_in 594 (by decide +kernel) rfl, tb_in 14 (by decide +kernel) rfl, ⟨by decide +kernel, by decide +kernel⟩, by decide +kernel⟩
theorem mth_J3_checkIndex_8e157 : Mth yJ3_checkIndex_8e157 cJ3_checkIndex_8e157 3 (some .int) 3 := ⟨tb_in 602 (by decide +kernel) rfl, tb_in 15 (by decide +kernel) rfl, ⟨by decide +kernel, by decide +kernel⟩, by decide +kernel⟩
theorem iv_J0_length_8abf5 : Cond.instanceMethod yJ0_length_8abf5 ∈ TBL ∧ Cond.selects RJ0 yJ0_length_8abf5 yJ0_length_8abf5 ∈ TBL := ⟨tb_in 575 (by decide +kernel) rfl, tb_in 576 (by decide +kernel) rfl⟩
theorem iv_J0_charAt_5068e : Cond.instanceMethod yJ0_charAt_5068e ∈ TBL ∧ Cond.selects RJ0 yJ0_charAt_5068e yJ0_charAt_5068e ∈ TBL := ⟨tb_in 585 (by decide +kernel) rfl, tb_in 586 (by decide +kernel) rfl⟩
theorem iv_J0_coder_7d493 : Cond.instanceMethod yJ0_coder_7d493 ∈ TBL ∧ Cond.selects RJ0 yJ0_coder_7d493 yJ0_coder_7d493 ∈ TBL := ⟨tb_in 579 (by decide +kernel) rfl, tb_in 580 (by decide +kernel) rfl⟩
theorem iv_J0_isLatin1_aae02 : Cond.instanceMethod yJ0_isLatin1_aae02 ∈ TBL ∧ Cond.selects RJ0 yJ0_isLatin1_aae02 yJ0_isLatin1_aae02 ∈ TBL := ⟨tb_in 589 (by decide +kernel) rfl, tb_in 590 (by decide +kernel) rfl⟩
theorem st_J0_checkIndex_df160 : Cond.static yJ0_checkIndex_df160 ∈ TBL := tb_in 596 (by decide +kernel) rfl
theorem st_J1_charAt_3b067 : Cond.static yJ1_charAt_3b067 ∈ TBL := tb_in 593 (by decide +kernel) rfl
theorem st_J3_checkIndex_8e157 : Cond.static yJ3_checkIndex_8e157 ∈ TBL := tb_in 601 (by decide +kernel) rfl
theorem fk_RJ0_38 : Cond.fieldLink RJ0 38 "java/lang/String" "COMPACT_STRINGS" "Z" ∈ TBL := tb_in 582 (by decide +kernel) rfl
theorem fk_RJ0_9 : Cond.fieldLink RJ0 9 "java/lang/String" "value" "[B" ∈ TBL := tb_in 1351 (by decide +kernel) rfl
theorem fk_RJ0_15 : Cond.fieldLink RJ0 15 "java/lang/String" "coder" "B" ∈ TBL := tb_in 1352 (by decide +kernel) rfl
theorem fk_RJ0_1053 : Cond.fieldLink RJ0 1053 "jdk/internal/util/Preconditions" "SIOOBE_FORMATTER" "Ljava/util/function/BiFunction;" ∈ TBL := tb_in 598 (by decide +kernel) rfl
section
variable {x : Cx} {w : Wx} {Q : State → Prop} {cc : ByteArray} {nL : Nat} {own : String} {ret : Option FieldType} {rm : Room} {pc : Nat} {lv : List (Nat × Value)} {st : List Value} {cs : Nat × Nat} {σ : Sg}
theorem J_gets (o : Ok x w cc nL own ret rm) {idx : Nat} {C n d0 : String} {v : Value} (hZ : va_Z C n d0 v (Lo w) (xS x) (xS x).heap) (hl0 : Cond.fieldLink own idx C n d0 ∈ TBL) (d : decode cc pc = .ok (.getstatic idx, 3)) (kk : J x w Q (pc + 3) lv (v :: st) cs σ) : J x w Q pc lv st cs σ :=
  fun H locs ls hS hW hl => va_gets o.1 o.2.1 (hZ.narrow (fun _ h => Ar.lo o.2.2.2.2.2.2.2.2.1 h)) hS o.2.2.2.1 (o.2.2.2.2.1 _ hl0) (fun _ h => h) d (kk H locs ls hS hW hl)
theorem J_getS (o : Ok x w cc nL own ret rm) {idx q : Nat} {C n d0 : String} {v : Value} (hE : va_OF C n d0 v q (Lo w) (xS x) (xS x).heap) (hl0 : Cond.fieldLink own idx C n d0 ∈ TBL) (d : decode cc pc = .ok (.getfield idx, 3)) (kk : J x w Q (pc + 3) lv (v :: st) cs σ) : J x w Q pc lv (.ref q :: st) cs σ :=
  fun H locs ls hS hW hl => vk_getf o.1 o.2.1 (hE.narrow (fun _ h => Ar.lo o.2.2.2.2.2.2.2.2.1 h)) hS o.2.2.2.1 (o.2.2.2.2.1 _ hl0) (fun _ h => h) d (kk H locs ls hS hW hl)
theorem J_tb (o : Ok x w cc nL own ret rm) {t N : Nat} {f : Nat → Int32} {i : Int32} (hT : va_T .byte t N (fun j => .int (f j)) (Lo w) (xS x) (xS x).heap) (hin : vp_in i N) (d : decode cc pc = .ok (.baload, 1)) (kk : J x w Q (pc + 1) lv (.int (f i.toNatClampNeg) :: st) cs σ) : J x w Q pc lv (.int i :: .ref t :: st) cs σ :=
  fun H locs ls hS hW hl => va_tb o.1 o.2.1 (hT.narrow (fun _ h => Ar.lo o.2.2.2.2.2.2.2.2.1 h)) hS hin rfl d (kk H locs ls hS hW hl)
theorem J_tlen (o : Ok x w cc nL own ret rm) {t N : Nat} {f : Nat → Int32} (hT : va_T .byte t N (fun j => .int (f j)) (Lo w) (xS x) (xS x).heap) (d : decode cc pc = .ok (.arraylength, 1)) (kk : J x w Q (pc + 1) lv (.int (Int32.ofNat N) :: st) cs σ) : J x w Q pc lv (.ref t :: st) cs σ :=
  fun H locs ls hS hW hl => va_tlen o.1 o.2.1 (hT.narrow (fun _ h => Ar.lo o.2.2.2.2.2.2.2.2.1 h)) hS rfl d (kk H locs ls hS hW hl)
theorem J_i2c (o : Ok x w cc nL own ret rm) {a v : Int32} (hv : (a.toUInt32 % 65536).toInt32 = v) (d : decode cc pc = .ok (.i2c, 1)) (kk : J x w Q (pc + 1) lv (.int v :: st) cs σ) : J x w Q pc lv (.int a :: st) cs σ :=
  fun H locs ls hS hW hl => lv_i2c o.1 o.2.1 d (by first | exact hv | simpa using hv) (kk H locs ls hS hW hl)
theorem J_nret {ty : FieldType} (o : Ok x w cc nL own (some ty) rm) {P : Outcome → Sg → Prop} {v : Int32} (hn : narrow ty (.int v) = .int v) (d : decode cc pc = .ok (.ireturn, 1)) (h : P (.returned (some (.int v))) σ) : J x w (FinC x w P cs) pc lv [.int v] cs σ :=
  fun H locs ls hS hW hl => W.zret (hlocks := o.2.2.2.2.2.1) o.1 o.2.1 o.2.2.2.2.2.2.1 hn (J_post hS hW h) hS.2.2 d
theorem J_aloadV (o : Ok x w cc nL own ret rm) (k : Nat) {i : Fin 4} {v : Nat} (d : decode cc pc = .ok (.aload_n i, 1)) (hl0 : lv[k]? = some ((i : Nat), .ref v)) (kk : J x w Q (pc + 1) lv (.ref v :: st) cs σ) : J x w Q pc lv st cs σ := J_aload_n o k d hl0 kk
end
/-- the char at a place of a constant -/
def chS (k j : Nat) : Int32 := (sByt.getD k []).getD j 0
theorem chS_ok : ∀ k, k < nS → ∀ j, j < sLen.getD k 0 → ((chS k j &&& 255).toUInt32 % 65536).toInt32 = chS k j ∧ narrow .char (.int (chS k j)) = .int (chS k j) := by decide +kernel
theorem sLen_ok : ∀ k, k < nS → sLen.getD k 0 < 2 ^ 31 := by decide +kernel
abbrev rm_pre : Room := { frames := 0, cells := 0, slots := 0, locals := 0 }
abbrev rm_chk : Room := { frames := 1, cells := 0, slots := 0, locals := 22 }
abbrev rm_c1 : Room := { frames := 2, cells := 0, slots := 0, locals := 43 }
abbrev rm_lat : Room := { frames := 0, cells := 0, slots := 0, locals := 0 }
abbrev rm_len : Room := { frames := 1, cells := 0, slots := 0, locals := 20 }
abbrev rm_chr : Room := { frames := 3, cells := 0, slots := 0, locals := 64 }
theorem w_pre (l : Launch) (w : Wx) {i n : Int32} {v : Value} (hv : v = .null ∨ ∃ r, v = .ref r) {σ : Sg} {K : Int32 → Sg → Prop} (h0 : ¬ i < 0) (h1 : i < n) (h : K i σ) : Ct l w yJ3_checkIndex_8e157 cJ3_checkIndex_8e157 3 (some .int) rm_pre [.int i, .int n, v] σ (PI K) := by
  have hlen : (lg_sl [.int i, .int n, v]).length ≤ 3 := by rcases hv with rfl | ⟨r, rfl⟩ <;> exact Nat.le_of_ble_eq_true rfl
  refine Ct.of (own := RJ3) (by decide +kernel) rfl hlen (fun x hx o => ?_)
  have e : lv_args 0 [.int i, .int n, v] = [(0, .int i), (1, .int n), (2, v)] := by rcases hv with rfl | ⟨r, rfl⟩ <;> rfl
  rw [e]
  refine J_iload_n o 0 d_J3_checkIndex_8e157_0 rfl ?_
  refine J_if_lt o 9 d_J3_checkIndex_8e157_1 rfl (fun c => absurd c h0) (fun _ => ?_)
  refine J_iload_n o 0 d_J3_checkIndex_8e157_4 rfl ?_
  refine J_iload_n o 1 d_J3_checkIndex_8e157_5 rfl ?_
  refine J_icmp_lt o 16 d_J3_checkIndex_8e157_6 rfl (fun _ => ?_) (fun c => absurd h1 c)
  refine J_iload_n o 0 d_J3_checkIndex_8e157_16 rfl ?_
  exact J_iret o d_J3_checkIndex_8e157_17 ⟨_, rfl, h⟩
theorem w_chk (l : Launch) (w : Wx) {i n : Int32} {σ : Sg} {K : Sg → Prop} (h0 : ¬ i < 0) (h1 : i < n) (h : K σ) : Ct l w yJ0_checkIndex_df160 cJ0_checkIndex_df160 2 none rm_chk [.int i, .int n] σ (PV K) := by
  refine Ct.of (own := RJ0) (by decide +kernel) rfl (Nat.le_of_ble_eq_true rfl) (fun x hx o => ?_)
  subst hx
  show J x w (FinC x w (PV K) (0, 0)) 0 [(0, .int i), (1, .int n)] [] (0, 0) σ
  have hZ := o.2.2.2.2.2.2.2.2.2.2.2.2.2.2.2.2.2.2.1
  have key : ∀ v : Value, (v = .null ∨ ∃ r, v = .ref r) → va_Z "jdk/internal/util/Preconditions" "SIOOBE_FORMATTER" "Ljava/util/function/BiFunction;" v (Lo w) (xS x) (xS x).heap → J x w (FinC x w (PV K) (0, 0)) 0 [(0, .int i), (1, .int n)] [] (0, 0) σ := by
    intro v hv hz
    refine J_iload_n o 0 d_J0_checkIndex_df160_0 rfl ?_
    refine J_iload_n o 1 d_J0_checkIndex_df160_1 rfl ?_
    refine J_gets o hz fk_RJ0_1053 d_J0_checkIndex_df160_2 ?_
    refine J_callS o [.int i, .int n, v] mth_J3_checkIndex_8e157 st_J3_checkIndex_8e157 ml_RJ0_1059 ⟨Nat.le_of_ble_eq_true rfl, Nat.le_of_ble_eq_true rfl⟩ rfl rfl (Nat.le_of_ble_eq_true rfl) ⟨Nat.le_refl _, Nat.le_refl _⟩ d_J0_checkIndex_df160_5 (w_pre (xL x) w (K := fun _ s => K s) hv h0 h1 h) (aI fun r s h => ?_)
    refine J_pop o d_J0_checkIndex_df160_8 rfl ?_
    exact J_vret o d_J0_checkIndex_df160_9 ⟨rfl, h⟩
  rcases hZ with hz | ⟨t, hz⟩
  · exact key _ (Or.inl rfl) hz
  · exact key _ (Or.inr ⟨t, rfl⟩) hz
theorem w_c1 (l : Launch) (w : Wx) {k : Nat} {i : Int32} {σ : Sg} {K : Int32 → Sg → Prop} (hk : k < nS) (hi : vp_in i (sLen.getD k 0)) (h : K (chS k i.toNatClampNeg) σ) : Ct l w yJ1_charAt_3b067 cJ1_charAt_3b067 2 (some .char) rm_c1 [.ref (wV w k), .int i] σ (PI K) := by
  refine Ct.of (own := RJ1) (by decide +kernel) rfl (Nat.le_of_ble_eq_true rfl) (fun x hx o => ?_)
  subst hx
  show J x w (FinC x w (PI K) (0, 0)) 0 [(0, .ref (wV w k)), (1, .int i)] [] (0, 0) σ
  have hT := (o.2.2.2.2.2.2.2.2.2.2.2.2.2.2.2.1 k hk).2.2.2
  have h0 : ¬ i < 0 := fun c => hi (Or.inl c)
  obtain ⟨j, hj, rfl⟩ := vp_in_of hi (sLen_ok k hk)
  have h1 : nI j < Int32.ofNat (sLen.getD k 0) := nI_lt hj (sLen_ok k hk)
  refine J_iload_n o 1 d_J1_charAt_3b067_0 rfl ?_
  refine J_aload_n o 0 d_J1_charAt_3b067_1 rfl ?_
  refine J_tlen o hT d_J1_charAt_3b067_2 ?_
  refine J_callS o [.int (nI j), .int (Int32.ofNat (sLen.getD k 0))] mth_J0_checkIndex_df160 st_J0_checkIndex_df160 ml_RJ1_9 ⟨Nat.le_of_ble_eq_true rfl, Nat.le_of_ble_eq_true rfl⟩ rfl rfl (Nat.le_of_ble_eq_true rfl) ⟨Nat.le_refl _, Nat.le_refl _⟩ d_J1_charAt_3b067_3 (w_chk (xL x) w (K := fun s => s = σ) h0 h1 rfl) (aV fun s hs => ?_)
  subst hs
  refine J_aload_n o 0 d_J1_charAt_3b067_6 rfl ?_
  refine J_iload_n o 1 d_J1_charAt_3b067_7 rfl ?_
  refine J_tb o hT hi d_J1_charAt_3b067_8 ?_
  refine J_sipush (v := 255) o d_J1_charAt_3b067_9 (by decide) ?_
  refine J_iand o d_J1_charAt_3b067_12 ?_
  have e := chS_ok k hk (nI j).toNatClampNeg (vp_lt hi)
  refine J_i2c o e.1 d_J1_charAt_3b067_13 ?_
  exact J_nret o e.2 d_J1_charAt_3b067_14 ⟨_, rfl, h⟩
theorem w_lat (l : Launch) (w : Wx) {k : Nat} {σ : Sg} {K : Int32 → Sg → Prop} (hk : k < nS) (h : K 1 σ) : Ct l w yJ0_isLatin1_aae02 cJ0_isLatin1_aae02 1 (some .boolean) rm_lat [.ref (wK w k)] σ (PI K) := by
  refine Ct.of (own := RJ0) (by decide +kernel) rfl (Nat.le_of_ble_eq_true rfl) (fun x hx o => ?_)
  subst hx
  show J x w (FinC x w (PI K) (0, 0)) 0 [(0, .ref (wK w k))] [] (0, 0) σ
  have hS := o.2.2.2.2.2.2.2.2.2.2.2.2.2.2.2.1 k hk
  refine J_gets o o.2.2.2.2.2.2.2.2.2.2.2.2.2.2.2.2.2.1 fk_RJ0_38 d_J0_isLatin1_aae02_0 ?_
  refine J_if_eq o 17 d_J0_isLatin1_aae02_3 rfl (fun c => absurd c (by decide)) (fun _ => ?_)
  refine J_aload_n o 0 d_J0_isLatin1_aae02_6 rfl ?_
  refine J_getS o hS.2.1 fk_RJ0_15 d_J0_isLatin1_aae02_7 ?_
  refine J_if_ne o 17 d_J0_isLatin1_aae02_10 rfl (fun c => absurd rfl c) (fun _ => ?_)
  refine J_iconst (v := 1) o d_J0_isLatin1_aae02_13 (by decide) ?_
  refine J_goto o 18 d_J0_isLatin1_aae02_14 rfl ?_
  exact J_nret o rfl d_J0_isLatin1_aae02_18 ⟨_, rfl, h⟩
theorem w_cod (l : Launch) (w : Wx) {k : Nat} {σ : Sg} {K : Int32 → Sg → Prop} (hk : k < nS) (h : K 0 σ) : Ct l w yJ0_coder_7d493 cJ0_coder_7d493 1 (some .byte) rm_lat [.ref (wK w k)] σ (PI K) := by
  refine Ct.of (own := RJ0) (by decide +kernel) rfl (Nat.le_of_ble_eq_true rfl) (fun x hx o => ?_)
  subst hx
  show J x w (FinC x w (PI K) (0, 0)) 0 [(0, .ref (wK w k))] [] (0, 0) σ
  have hS := o.2.2.2.2.2.2.2.2.2.2.2.2.2.2.2.1 k hk
  refine J_gets o o.2.2.2.2.2.2.2.2.2.2.2.2.2.2.2.2.2.1 fk_RJ0_38 d_J0_coder_7d493_0 ?_
  refine J_if_eq o 13 d_J0_coder_7d493_3 rfl (fun c => absurd c (by decide)) (fun _ => ?_)
  refine J_aload_n o 0 d_J0_coder_7d493_6 rfl ?_
  refine J_getS o hS.2.1 fk_RJ0_15 d_J0_coder_7d493_7 ?_
  refine J_goto o 14 d_J0_coder_7d493_10 rfl ?_
  exact J_nret o rfl d_J0_coder_7d493_14 ⟨_, rfl, h⟩
theorem w_len (l : Launch) (w : Wx) {k : Nat} {σ : Sg} {K : Int32 → Sg → Prop} (hk : k < nS) (h : K (Int32.ofNat (sLen.getD k 0)) σ) : Ct l w yJ0_length_8abf5 cJ0_length_8abf5 1 (some .int) rm_len [.ref (wK w k)] σ (PI K) := by
  refine Ct.of (own := RJ0) (by decide +kernel) rfl (Nat.le_of_ble_eq_true rfl) (fun x hx o => ?_)
  subst hx
  show J x w (FinC x w (PI K) (0, 0)) 0 [(0, .ref (wK w k))] [] (0, 0) σ
  have hS := o.2.2.2.2.2.2.2.2.2.2.2.2.2.2.2.1 k hk
  refine J_aload_n o 0 d_J0_length_8abf5_0 rfl ?_
  refine J_getS o hS.2.2.1 fk_RJ0_9 d_J0_length_8abf5_1 ?_
  refine J_tlen o hS.2.2.2 d_J0_length_8abf5_4 ?_
  refine J_aload_n o 0 d_J0_length_8abf5_5 rfl ?_
  refine J_callT o [] hk mth_J0_coder_7d493 iv_J0_coder_7d493 ml_RJ0_335 ⟨Nat.le_of_ble_eq_true rfl, Nat.le_of_ble_eq_true rfl⟩ rfl rfl (Nat.le_of_ble_eq_true rfl) ⟨Nat.le_refl _, Nat.le_refl _⟩ d_J0_length_8abf5_6 (w_cod (xL x) w (K := fun r s => r = 0 ∧ s = σ) hk ⟨rfl, rfl⟩) (aI fun r s hs => ?_)
  obtain ⟨rfl, rfl⟩ := hs
  refine J_ishr o d_J0_length_8abf5_9 ?_
  rw [sb_shr0]
  exact J_iret o d_J0_length_8abf5_10 ⟨_, rfl, h⟩
theorem w_chr (l : Launch) (w : Wx) {k : Nat} {i : Int32} {σ : Sg} {K : Int32 → Sg → Prop} (hk : k < nS) (hi : vp_in i (sLen.getD k 0)) (h : K (chS k i.toNatClampNeg) σ) : Ct l w yJ0_charAt_5068e cJ0_charAt_5068e 2 (some .char) rm_chr [.ref (wK w k), .int i] σ (PI K) := by
  refine Ct.of (own := RJ0) (by decide +kernel) rfl (Nat.le_of_ble_eq_true rfl) (fun x hx o => ?_)
  subst hx
  show J x w (FinC x w (PI K) (0, 0)) 0 [(0, .ref (wK w k)), (1, .int i)] [] (0, 0) σ
  have hS := o.2.2.2.2.2.2.2.2.2.2.2.2.2.2.2.1 k hk
  have e := chS_ok k hk i.toNatClampNeg (vp_lt hi)
  refine J_aload_n o 0 d_J0_charAt_5068e_0 rfl ?_
  refine J_callT o [] hk mth_J0_isLatin1_aae02 iv_J0_isLatin1_aae02 ml_RJ0_492 ⟨Nat.le_of_ble_eq_true rfl, Nat.le_of_ble_eq_true rfl⟩ rfl rfl (Nat.le_of_ble_eq_true rfl) ⟨Nat.le_refl _, Nat.le_refl _⟩ d_J0_charAt_5068e_1 (w_lat (xL x) w (K := fun r s => r = 1 ∧ s = σ) hk ⟨rfl, rfl⟩) (aI fun r s hs => ?_)
  obtain ⟨rfl, rfl⟩ := hs
  refine J_if_eq o 16 d_J0_charAt_5068e_4 rfl (fun c => absurd c (by decide)) (fun _ => ?_)
  refine J_aload_n o 0 d_J0_charAt_5068e_7 rfl ?_
  refine J_getS o hS.2.2.1 fk_RJ0_9 d_J0_charAt_5068e_8 ?_
  refine J_iload_n o 1 d_J0_charAt_5068e_11 rfl ?_
  refine J_callS o [.ref (wV w k), .int i] mth_J1_charAt_3b067 st_J1_charAt_3b067 ml_RJ0_495 ⟨Nat.le_of_ble_eq_true rfl, Nat.le_of_ble_eq_true rfl⟩ rfl rfl (Nat.le_of_ble_eq_true rfl) ⟨Nat.le_refl _, Nat.le_refl _⟩ d_J0_charAt_5068e_12 (w_c1 (xL x) w (K := fun r t => r = chS k i.toNatClampNeg ∧ t = s) hk hi ⟨rfl, rfl⟩) (aI fun r t hs => ?_)
  obtain ⟨rfl, rfl⟩ := hs
  exact J_nret o e.2 d_J0_charAt_5068e_15 ⟨_, rfl, h⟩
section
variable {x : Cx} {w : Wx} {Q : State → Prop} {cc : ByteArray} {nL : Nat} {own : String} {ret : Option FieldType} {rm : Room} {pc : Nat} {lv : List (Nat × Value)} {st : List Value} {cs : Nat × Nat} {σ : Sg}
theorem J_strlen (o : Ok x w cc nL own ret rm) {k idx : Nat} (hk : k < nS) (hl0 : Cond.methodLink own idx yJ0_length_8abf5 ∈ TBL) (d : decode cc pc = .ok (.invokevirtual idx, 3)) (hR : rm_len.frames + 1 ≤ rm.frames ∧ 8 + (1 + 11) + rm_len.locals ≤ rm.locals) (hr8 : (st.map fun v => v.category).sum ≤ 8)
    (kk : J x w Q (pc + 3) lv (.int (Int32.ofNat (sLen.getD k 0)) :: st) cs σ) (hcs : cs.1 + 0 ≤ rm.cells ∧ cs.2 + 0 ≤ rm.slots := by exact ⟨Nat.zero_le _, Nat.zero_le _⟩) : J x w Q pc lv (.ref (wK w k) :: st) cs σ :=
  J_callT o [] hk mth_J0_length_8abf5 iv_J0_length_8abf5 hl0 hR rfl rfl hr8 hcs d (w_len (xL x) w (K := fun r s => r = Int32.ofNat (sLen.getD k 0) ∧ s = σ) hk ⟨rfl, rfl⟩) (aI fun r s hs => by
    obtain ⟨rfl, rfl⟩ := hs
    exact kk)
theorem J_charAt (o : Ok x w cc nL own ret rm) {k idx : Nat} {i : Int32} (hk : k < nS) (hi : vp_in i (sLen.getD k 0)) (hl0 : Cond.methodLink own idx yJ0_charAt_5068e ∈ TBL) (d : decode cc pc = .ok (.invokevirtual idx, 3)) (hR : rm_chr.frames + 1 ≤ rm.frames ∧ 8 + (2 + 11) + rm_chr.locals ≤ rm.locals) (hr8 : (st.map fun v => v.category).sum ≤ 8)
    (kk : J x w Q (pc + 3) lv (.int ((sByt.getD k []).getD i.toNatClampNeg 0) :: st) cs σ) (hcs : cs.1 + 0 ≤ rm.cells ∧ cs.2 + 0 ≤ rm.slots := by exact ⟨Nat.zero_le _, Nat.zero_le _⟩) : J x w Q pc lv (.int i :: .ref (wK w k) :: st) cs σ :=
  J_callT o [.int i] hk mth_J0_charAt_5068e iv_J0_charAt_5068e hl0 hR rfl rfl hr8 hcs d (w_chr (xL x) w (K := fun r s => r = chS k i.toNatClampNeg ∧ s = σ) hk hi ⟨rfl, rfl⟩) (aI fun r s hs => by
    obtain ⟨rfl, rfl⟩ := hs
    exact kk)
end
