/-! which offsets hold what -/
abbrev Wy : Type := Nat × va_G × (Nat → ClassId) × (Nat → Nat) × (Nat → Nat)
abbrev wC (b : Wy) : Wx := ((0, 347, b.1), b.2)
abbrev wM (b : Wy) : Wx := ((347, 549, b.1), b.2)
theorem vp_lt {i : Int32} {n : Nat} (h : vp_in i n) : i.toNatClampNeg < n := Nat.not_le.mp fun q => h (Or.inr q)
theorem vpc {a n : Nat} {i : Int32} (hl : ln a = n) (h : vp_in i n) : vp_in i (ln a) := hl ▸ h
/-- a World of the class -/
def IsW (v : Nat) : Prop := v = 2 ∨ v = 10 ∨ ∃ i, i < 8 ∧ v = 283 + 8 * i
theorem W_2 : IsW 2 := Or.inl rfl
theorem W_10 : IsW 10 := Or.inr (Or.inl rfl)
theorem W_at {i : Int32} (h : vp_in i 8) : IsW (283 + 8 * i.toNatClampNeg) := Or.inr (Or.inr ⟨_, vp_lt h, rfl⟩)
theorem W_x {Q : Nat → Prop} (h1 : Q 2) (h2 : Q 10) (h3 : ∀ i, i < 8 → Q (283 + 8 * i)) {v : Nat} (h : IsW v) : Q v := by
  rcases h with rfl | rfl | ⟨i, hi, rfl⟩
  · exact h1
  · exact h2
  · exact h3 i hi
theorem W_kd {v : Nat} (h : IsW v) : kd v = 3 := W_x (Q := fun v => kd v = 3) rfl rfl (by decide) h
theorem W_hi {v : Nat} (h : IsW v) : v < 347 := W_x (Q := fun v => v < 347) (by decide) (by decide) (by decide) h
theorem W_t {v : Nat} (h : IsW v) (j : Nat) (hj : 10 ≤ j) : tgt v j = v + (j - 9) := by
  have h1 : kd v = 3 := W_kd h
  have h2 : v ≠ 0 ∧ v ≠ 18 ∧ v ≠ 19 ∧ v ≠ 24 ∧ v ≠ 282 ∧ v ≠ 347 := W_x (Q := fun v => v ≠ 0 ∧ v ≠ 18 ∧ v ≠ 19 ∧ v ≠ 24 ∧ v ≠ 282 ∧ v ≠ 347) (by decide) (by decide) (by decide) h
  unfold tgt
  rw [if_neg h2.1, if_neg h2.2.1, if_neg h2.2.2.1, if_neg h2.2.2.2.1, if_neg h2.2.2.2.2.1, h1, if_neg (by decide), if_neg h2.2.2.2.2.2, if_pos rfl]
theorem W_k1 {v : Nat} (h : IsW v) : kd (v + 1) = 6 ∧ v + 1 < 347 := W_x (Q := fun v => kd (v + 1) = 6 ∧ v + 1 < 347) (by decide) (by decide) (by decide) h
theorem W_A1 {v : Nat} {b : Wy} (h : IsW v) : IsA (wC b) (v + 1) := ⟨(W_k1 h).1, Nat.zero_le _, (W_k1 h).2⟩
theorem W_L1 {v : Nat} (h : IsW v) : ln (v + 1) = 3 := W_x (Q := fun v => ln (v + 1) = 3) (by decide) (by decide) (by decide) h
theorem W_k2 {v : Nat} (h : IsW v) : kd (v + 2) = 6 ∧ v + 2 < 347 := W_x (Q := fun v => kd (v + 2) = 6 ∧ v + 2 < 347) (by decide) (by decide) (by decide) h
theorem W_A2 {v : Nat} {b : Wy} (h : IsW v) : IsA (wC b) (v + 2) := ⟨(W_k2 h).1, Nat.zero_le _, (W_k2 h).2⟩
theorem W_L2 {v : Nat} (h : IsW v) : ln (v + 2) = 3 := W_x (Q := fun v => ln (v + 2) = 3) (by decide) (by decide) (by decide) h
theorem W_k3 {v : Nat} (h : IsW v) : kd (v + 3) = 6 ∧ v + 3 < 347 := W_x (Q := fun v => kd (v + 3) = 6 ∧ v + 3 < 347) (by decide) (by decide) (by decide) h
theorem W_A3 {v : Nat} {b : Wy} (h : IsW v) : IsA (wC b) (v + 3) := ⟨(W_k3 h).1, Nat.zero_le _, (W_k3 h).2⟩
theorem W_L3 {v : Nat} (h : IsW v) : ln (v + 3) = 240 := W_x (Q := fun v => ln (v + 3) = 240) (by decide) (by decide) (by decide) h
theorem W_k4 {v : Nat} (h : IsW v) : kd (v + 4) = 6 ∧ v + 4 < 347 := W_x (Q := fun v => kd (v + 4) = 6 ∧ v + 4 < 347) (by decide) (by decide) (by decide) h
theorem W_A4 {v : Nat} {b : Wy} (h : IsW v) : IsA (wC b) (v + 4) := ⟨(W_k4 h).1, Nat.zero_le _, (W_k4 h).2⟩
theorem W_L4 {v : Nat} (h : IsW v) : ln (v + 4) = 240 := W_x (Q := fun v => ln (v + 4) = 240) (by decide) (by decide) (by decide) h
theorem W_k5 {v : Nat} (h : IsW v) : kd (v + 5) = 6 ∧ v + 5 < 347 := W_x (Q := fun v => kd (v + 5) = 6 ∧ v + 5 < 347) (by decide) (by decide) (by decide) h
theorem W_A5 {v : Nat} {b : Wy} (h : IsW v) : IsA (wC b) (v + 5) := ⟨(W_k5 h).1, Nat.zero_le _, (W_k5 h).2⟩
theorem W_L5 {v : Nat} (h : IsW v) : ln (v + 5) = 24 := W_x (Q := fun v => ln (v + 5) = 24) (by decide) (by decide) (by decide) h
theorem W_k6 {v : Nat} (h : IsW v) : kd (v + 6) = 6 ∧ v + 6 < 347 := W_x (Q := fun v => kd (v + 6) = 6 ∧ v + 6 < 347) (by decide) (by decide) (by decide) h
theorem W_A6 {v : Nat} {b : Wy} (h : IsW v) : IsA (wC b) (v + 6) := ⟨(W_k6 h).1, Nat.zero_le _, (W_k6 h).2⟩
theorem W_L6 {v : Nat} (h : IsW v) : ln (v + 6) = 12 := W_x (Q := fun v => ln (v + 6) = 12) (by decide) (by decide) (by decide) h
theorem W_k7 {v : Nat} (h : IsW v) : kd (v + 7) = 6 ∧ v + 7 < 347 := W_x (Q := fun v => kd (v + 7) = 6 ∧ v + 7 < 347) (by decide) (by decide) (by decide) h
theorem W_A7 {v : Nat} {b : Wy} (h : IsW v) : IsA (wC b) (v + 7) := ⟨(W_k7 h).1, Nat.zero_le _, (W_k7 h).2⟩
theorem W_L7 {v : Nat} (h : IsW v) : ln (v + 7) = 561 := W_x (Q := fun v => ln (v + 7) = 561) (by decide) (by decide) (by decide) h
/-- a Sailing -/
def IsS (v : Nat) : Prop := ∃ i, i < 3 ∧ v = 90 + 64 * i
theorem S_at {i : Int32} (h : vp_in i 3) : IsS (90 + 64 * i.toNatClampNeg) := ⟨_, vp_lt h, rfl⟩
theorem S_x {Q : Nat → Prop} (h3 : ∀ i, i < 3 → Q (90 + 64 * i)) {v : Nat} (h : IsS v) : Q v := by
  obtain ⟨i, hi, rfl⟩ := h
  exact h3 i hi
theorem S_kd {v : Nat} (h : IsS v) : kd v = 1 := S_x (Q := fun v => kd v = 1) (by decide) h
theorem S_hi {v : Nat} (h : IsS v) : v < 347 := S_x (Q := fun v => v < 347) (by decide) h
theorem S_t0 {v : Nat} (h : IsS v) : tgt v 0 = v + 1 := S_x (Q := fun v => tgt v 0 = v + 1) (by decide) h
theorem S_t1 {v : Nat} (h : IsS v) : tgt v 1 = v + 63 := S_x (Q := fun v => tgt v 1 = v + 63) (by decide) h
theorem S_ck {v : Nat} (h : IsS v) : kd (v + 63) = 6 ∧ v + 63 < 347 := S_x (Q := fun v => kd (v + 63) = 6 ∧ v + 63 < 347) (by decide) h
theorem S_cA {v : Nat} {b : Wy} (h : IsS v) : IsA (wC b) (v + 63) := ⟨(S_ck h).1, Nat.zero_le _, (S_ck h).2⟩
theorem S_cL {v : Nat} (h : IsS v) : ln (v + 63) = 60 := S_x (Q := fun v => ln (v + 63) = 60) (by decide) h
theorem S_mk {v : Nat} (h : IsS v) : kd (v + 1) = 6 + (2 + 1) := S_x (Q := fun v => kd (v + 1) = 6 + (2 + 1)) (by decide) h
theorem S_mh {v : Nat} (h : IsS v) : v + 1 < 347 := S_x (Q := fun v => v + 1 < 347) (by decide) h
theorem S_ml {v : Nat} (h : IsS v) : ln (v + 1) = 61 := S_x (Q := fun v => ln (v + 1) = 61) (by decide) h
theorem S_mt {v : Nat} (h : IsS v) (j : Nat) : tgt (v + 1) j = v + 2 + j := by
  obtain ⟨i, hi, rfl⟩ := h
  rcases (show i = 0 ∨ i = 1 ∨ i = 2 by omega) with rfl | rfl | rfl <;> exact (show _ + 1 + 1 + j = _ from by rfl)
theorem S_m0 : ∀ i, i < 3 → ∀ j, j < 61 → kd (90 + 64 * i + 2 + j) = 6 ∧ 90 + 64 * i + 2 + j < 347 ∧ ln (90 + 64 * i + 2 + j) = 240 := by decide +kernel
theorem S_m1 {v : Nat} (h : IsS v) {j : Nat} (hj : j < 61) : kd (v + 2 + j) = 6 ∧ v + 2 + j < 347 ∧ ln (v + 2 + j) = 240 := by
  obtain ⟨i, hi, rfl⟩ := h
  exact S_m0 i hi j hj
theorem S_mA {v : Nat} {b : Wy} {i : Int32} (h : IsS v) (hi : vp_in i 61) : IsA (wC b) (v + 2 + i.toNatClampNeg) := ⟨(S_m1 h (vp_lt hi)).1, Nat.zero_le _, (S_m1 h (vp_lt hi)).2.1⟩
theorem S_mL {v : Nat} {i : Int32} (h : IsS v) (hi : vp_in i 61) : ln (v + 2 + i.toNatClampNeg) = 240 := (S_m1 h (vp_lt hi)).2.2
theorem N_0 : ∀ j, j < 61 → kd (26 + j) = 6 ∧ 26 + j < 347 ∧ ln (26 + j) = 240 := by decide +kernel
theorem N_A {b : Wy} {i : Int32} (hi : vp_in i 61) : IsA (wC b) (26 + i.toNatClampNeg) := ⟨(N_0 _ (vp_lt hi)).1, Nat.zero_le _, (N_0 _ (vp_lt hi)).2.1⟩
theorem N_L {i : Int32} (hi : vp_in i 61) : ln (26 + i.toNatClampNeg) = 240 := (N_0 _ (vp_lt hi)).2.2
theorem U_0 : ∀ j, j < 2 → kd (88 + j) = 6 ∧ 88 + j < 347 ∧ ln (88 + j) = 240 := by decide +kernel
theorem U_A {b : Wy} {i : Int32} (hi : vp_in i 2) : IsA (wC b) (88 + i.toNatClampNeg) := ⟨(U_0 _ (vp_lt hi)).1, Nat.zero_le _, (U_0 _ (vp_lt hi)).2.1⟩
theorem U_L {i : Int32} (hi : vp_in i 2) : ln (88 + i.toNatClampNeg) = 240 := (U_0 _ (vp_lt hi)).2.2
theorem P_0 : ∀ j, j < 8 → kd (353 + j) = 6 ∧ 347 ≤ 353 + j ∧ 353 + j < 549 ∧ ln (353 + j) = 1098 := by decide +kernel
theorem P_A {b : Wy} {i : Int32} (hi : vp_in i 8) : IsA (wM b) (353 + i.toNatClampNeg) := ⟨(P_0 _ (vp_lt hi)).1, (P_0 _ (vp_lt hi)).2.1, (P_0 _ (vp_lt hi)).2.2.1⟩
theorem P_L {i : Int32} (hi : vp_in i 8) : ln (353 + i.toNatClampNeg) = 1098 := (P_0 _ (vp_lt hi)).2.2.2
/-- one of the reference's three grids -/
def IsG (v : Nat) : Prop := v = 363 ∨ v = 425 ∨ v = 487
theorem G_363 : IsG 363 := Or.inl rfl
theorem G_425 : IsG 425 := Or.inr (Or.inl rfl)
theorem G_487 : IsG 487 := Or.inr (Or.inr rfl)
theorem G_k {v : Nat} (h : IsG v) : kd v = 6 + (2 + 1) := by rcases h with rfl | rfl | rfl <;> rfl
theorem G_lo {v : Nat} (h : IsG v) : 347 ≤ v := by rcases h with rfl | rfl | rfl <;> decide
theorem G_hi {v : Nat} (h : IsG v) : v < 549 := by rcases h with rfl | rfl | rfl <;> decide
theorem G_l {v : Nat} (h : IsG v) : ln v = 61 := by rcases h with rfl | rfl | rfl <;> rfl
theorem G_t {v : Nat} (h : IsG v) (j : Nat) : tgt v j = v + 1 + j := by rcases h with rfl | rfl | rfl <;> rfl
theorem G_0 : ∀ v ∈ [363, 425, 487], ∀ j, j < 61 → kd (v + 1 + j) = 6 ∧ 347 ≤ v + 1 + j ∧ v + 1 + j < 549 ∧ ln (v + 1 + j) = 240 := by decide +kernel
theorem G_1 {v : Nat} (h : IsG v) {j : Nat} (hj : j < 61) : kd (v + 1 + j) = 6 ∧ 347 ≤ v + 1 + j ∧ v + 1 + j < 549 ∧ ln (v + 1 + j) = 240 := G_0 v (by rcases h with rfl | rfl | rfl <;> simp) j hj
theorem G_A {v : Nat} {b : Wy} {i : Int32} (h : IsG v) (hi : vp_in i 61) : IsA (wM b) (v + 1 + i.toNatClampNeg) := ⟨(G_1 h (vp_lt hi)).1, (G_1 h (vp_lt hi)).2.1, (G_1 h (vp_lt hi)).2.2.1⟩
theorem G_L {v : Nat} {i : Int32} (h : IsG v) (hi : vp_in i 61) : ln (v + 1 + i.toNatClampNeg) = 240 := (G_1 h (vp_lt hi)).2.2.2
theorem tsw_of (a : Int32) : -2147483648 ≤ a.toInt ∧ a.toInt < 2147483648 := ⟨Int32.le_toInt a, Int32.toInt_lt a⟩
section
variable {x : Cx} {w : Wx} {Q : State → Prop} {cc : ByteArray} {nL : Nat} {own : String} {ret : Option FieldType} {rm : Room} {pc : Nat} {lv : List (Nat × Value)} {st : List Value} {cs : Nat × Nat} {σ : Sg}
theorem J_top {a : Int32} (kk : ∀ y, y = a → J x w Q pc lv (.int y :: st) cs σ) : J x w Q pc lv (.int a :: st) cs σ := kk a rfl
theorem J_nS (kk : ∀ y, y = σ → J x w Q pc lv st cs y) : J x w Q pc lv st cs σ := kk σ rfl
theorem J_alenL (o : Ok x w cc nL own ret rm) {a n : Nat} (ha : IsA w a) (hl0 : ln a = n) (d : decode cc pc = .ok (.arraylength, 1)) (kk : J x w Q (pc + 1) lv (.int (Int32.ofNat n) :: st) cs σ) : J x w Q pc lv (.ref (wB w + a) :: st) cs σ :=
  J_alen o ha d (by rw [hl0]; exact kk)
theorem J_tswIn (o : Ok x w cc nL own ret rm) {dflt lo hi : Int} {offs : Array Int} {len : Nat} {a : Int32} {off : Int} (k : Int32) (ha : a = k) (tgt : Nat) (d : decode cc pc = .ok (.tableswitch dflt lo hi offs, len)) (h1 : ¬ k.toInt < lo) (h2 : ¬ hi < k.toInt) (ho : offs[(k.toInt - lo).toNat]? = some off) (ht : (pc : Int) + off = (tgt : Int)) (kk : J x w Q tgt lv st cs σ) : J x w Q pc lv (.int a :: st) cs σ := by
  subst ha
  exact J_tableIn o tgt d h1 h2 ho ht kk
theorem J_tswOut (o : Ok x w cc nL own ret rm) {dflt lo hi : Int} {offs : Array Int} {len : Nat} {a : Int32} (tgt : Nat) (d : decode cc pc = .ok (.tableswitch dflt lo hi offs, len)) (h : a.toInt < lo ∨ hi < a.toInt) (ht : (pc : Int) + dflt = (tgt : Int)) (kk : J x w Q tgt lv st cs σ) : J x w Q pc lv (.int a :: st) cs σ := J_tableOut o tgt d h ht kk
/-- a field of a nest mate -/
def FlN (own : String) (idx c j : Nat) (host : String) : Prop := c < 6 ∧ j < nf c ∧ u_lay (tR c) (tT c) j ∈ TBL ∧ (own, idx, (tT c j).1, (tT c j).2.1, (tT c j).2.2.1, host) ∈ nestF
theorem J_getIN (o : Ok x w cc nL own ret rm) {idx c j k : Nat} {host : String} (hf : FlN own idx c j host) (hk : kd k = c) (h1 : wLo w ≤ k) (h2 : k < wHi w) (hi0 : isR c j = false := by rfl) (d : decode cc pc = .ok (.getfield idx, 3)) (kk : J x w Q (pc + 3) lv (.int (σ k j) :: st) cs σ) : J x w Q pc lv (.ref (wB w + k) :: st) cs σ := by
  intro H locs ls hS hW hl
  obtain ⟨cell, q1, q2, q3, q4⟩ := (hW k h1 h2).obj hk hf.1
  obtain ⟨hSl, hfc, kC, hkC, hkind⟩ := o.2.2.2.2.2.2.2.2.2.1.1 c _ (t_cl hf.1)
  obtain ⟨cf, kf, fi, f, hi, hsl⟩ := hSl j hf.2.1
  have hv : fv (wB w) σ k j = .int (σ k j) := if_neg (by rw [hk, hi0]; decide)
  refine va_Wgetf o.1 o.2.1 o.2.2.2.1 ((o.2.2.2.2.2.2.2.2.2.2.2.1 _ hf.2.2.2).use rfl) hi (u_facts hfc hkC (f_lay o.2.2.2.2.1 hf.2.2.1) hi).1 q1 (by rw [q3]; exact fun h => by cases h) (v := .int (σ k j)) ?_ rfl rfl d (kk H locs ls hS hW hl)
  rw [hsl, ← hv]
  exact q4 j hf.2.1
end
