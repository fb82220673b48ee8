/-! numbers: Int32 as Int, where nothing wraps around -/
theorem ti_r (a : Int32) : -2147483648 ≤ a.toInt ∧ a.toInt < 2147483648 := ⟨Int32.le_toInt a, Int32.toInt_lt a⟩
theorem bm_id {z : Int} (h1 : -2147483648 ≤ z) (h2 : z < 2147483648) : z.bmod (2 ^ 32) = z := by
  simp only [Int.bmod]
  split <;> omega
theorem ti_add {a b : Int32} (h1 : -2147483648 ≤ a.toInt + b.toInt) (h2 : a.toInt + b.toInt < 2147483648) : (a + b).toInt = a.toInt + b.toInt := by
  rw [Int32.toInt_add, bm_id h1 h2]
theorem ti_sub {a b : Int32} (h1 : -2147483648 ≤ a.toInt - b.toInt) (h2 : a.toInt - b.toInt < 2147483648) : (a - b).toInt = a.toInt - b.toInt := by
  rw [Int32.toInt_sub, bm_id h1 h2]
theorem ti_mul {a b : Int32} (h1 : -2147483648 ≤ a.toInt * b.toInt) (h2 : a.toInt * b.toInt < 2147483648) : (a * b).toInt = a.toInt * b.toInt := by
  rw [Int32.toInt_mul, bm_id h1 h2]
theorem ti_div {a b : Int32} (ha : 0 ≤ a.toInt) (hb : 0 < b.toInt) : (a / b).toInt = a.toInt / b.toInt := by
  have h1 : a.toInt.tdiv b.toInt = a.toInt / b.toInt := Int.tdiv_eq_ediv_of_nonneg ha
  have h2 : 0 ≤ a.toInt / b.toInt := Int.ediv_nonneg ha (Int.le_of_lt hb)
  have h3 : a.toInt / b.toInt ≤ a.toInt := Int.ediv_le_self _ ha
  have h4 := ti_r a
  rw [Int32.toInt_div, h1, bm_id (by omega) (by omega)]
theorem ti_rem {a b : Int32} (ha : 0 ≤ a.toInt) (hb : 0 < b.toInt) : (a - a / b * b).toInt = a.toInt % b.toInt := by
  have h1 := ti_div ha hb
  have h2 : 0 ≤ a.toInt / b.toInt := Int.ediv_nonneg ha (Int.le_of_lt hb)
  have h3 : 0 ≤ a.toInt % b.toInt := Int.emod_nonneg _ (by omega)
  have h4 := Int.mul_ediv_add_emod a.toInt b.toInt
  have h5 := ti_r a
  have h6 : a.toInt / b.toInt * b.toInt = b.toInt * (a.toInt / b.toInt) := Int.mul_comm _ _
  have h7 : 0 ≤ b.toInt * (a.toInt / b.toInt) := Int.mul_nonneg (Int.le_of_lt hb) h2
  have hm : (a / b * b).toInt = b.toInt * (a.toInt / b.toInt) := by
    rw [ti_mul (by rw [h1, h6]; omega) (by rw [h1, h6]; omega), h1, h6]
  rw [ti_sub (by rw [hm]; omega) (by rw [hm]; omega), hm]
  omega
theorem ti_lt {a b : Int32} : a < b ↔ a.toInt < b.toInt := Int32.lt_iff_toInt_lt
theorem ti_le {a b : Int32} : a ≤ b ↔ a.toInt ≤ b.toInt := Int32.le_iff_toInt_le
theorem ti_eq {a b : Int32} : a = b ↔ a.toInt = b.toInt := Int32.toInt_inj.symm
theorem ti_nlt {a b : Int32} : ¬ a < b ↔ b.toInt ≤ a.toInt := by rw [ti_lt, Int.not_lt]
theorem ti_nle {a b : Int32} : ¬ a ≤ b ↔ b.toInt < a.toInt := by rw [ti_le, Int.not_le]
theorem ti_c (a : Int32) : a.toNatClampNeg = a.toInt.toNat := rfl
theorem ti_cn {n : Nat} (h : n < 2147483648) : (Int32.ofNat n).toInt = n := nI_toInt (n := n) (by omega)
theorem ti_in {a : Int32} {n : Nat} : vp_in a n ↔ 0 ≤ a.toInt ∧ a.toInt < n := by
  unfold vp_in
  rw [ti_lt, ti_c, show (0 : Int32).toInt = 0 by decide]
  omega
theorem ti_of {z : Int} (h1 : -2147483648 ≤ z) (h2 : z < 2147483648) : (Int32.ofInt z).toInt = z := by
  rw [Int32.toInt_ofInt, bm_id h1 h2]
theorem ti_ext {a : Int32} {z : Int} (h : a.toInt = z) : a = Int32.ofInt z := by
  have := ti_r a
  rw [ti_eq, ti_of (by omega) (by omega), h]
/-! stores -/
theorem st2_k {σ : Sg} {k j : Nat} {v : Int32} {a i : Nat} (h : a ≠ k) : st2 σ k j v a i = σ a i := st2_ne fun z => h z.1
theorem st2_j {σ : Sg} {k j : Nat} {v : Int32} {a i : Nat} (h : i ≠ j) : st2 σ k j v a i = σ a i := st2_ne fun z => h z.2
/-! cells of a sea W wide -/
theorem cell_div {W x y : Int} (h0 : 0 ≤ x) (h1 : x < W) : (W * y + x) / W = y := by
  rw [Int.add_comm, Int.add_mul_ediv_left _ _ (by omega), Int.ediv_eq_zero_of_lt h0 h1, Int.zero_add]
theorem cell_mod {W x y : Int} (h0 : 0 ≤ x) (h1 : x < W) : (W * y + x) % W = x := by
  rw [Int.add_comm, Int.add_mul_emod_self_left, Int.emod_eq_of_lt h0 h1]
theorem cell_lo {W x y : Int} (hW : 0 ≤ W) (h0 : 0 ≤ x) (h2 : 0 ≤ y) : 0 ≤ W * y + x := Int.add_nonneg (Int.mul_nonneg hW h2) h0
theorem cell_hi {W H x y : Int} (h0 : 0 ≤ x) (h1 : x < W) (h2 : 0 ≤ y) (h3 : y < H) : W * y + x < W * H := by
  have h : W * (y + 1) ≤ W * H := Int.mul_le_mul_of_nonneg_left (by omega) (by omega)
  rw [Int.mul_add, Int.mul_one] at h
  omega
theorem wh_hi {W H : Int} (h1 : 0 ≤ W) (h2 : W ≤ 20) (h3 : 0 ≤ H) (h4 : H ≤ 12) : 0 ≤ W * H ∧ W * H ≤ 240 := by
  have a := Int.mul_nonneg h1 h3
  have b : W * H ≤ 20 * H := Int.mul_le_mul_of_nonneg_right h2 h3
  omega
theorem cell_inj {W x y x' y' : Int} (h0 : 0 ≤ x) (h1 : x < W) (h0' : 0 ≤ x') (h1' : x' < W) (h : W * y + x = W * y' + x') : x = x' ∧ y = y' := by
  have a := cell_mod (y := y) h0 h1
  have b := cell_mod (y := y') h0' h1'
  have c := cell_div (y := y) h0 h1
  have d := cell_div (y := y') h0' h1'
  rw [h] at a c
  exact ⟨a.symm.trans b, c.symm.trans d⟩
