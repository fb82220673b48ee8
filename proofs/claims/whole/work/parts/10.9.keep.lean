/-! worlds kept and brought back -/
theorem p_copyRow {a b n : Nat} {σ : Sg} {K : Sg → Prop} (la : ln a = n) (lb : ln b = n) (hn : n < 2147483648) (h : ∀ s : Sg, (∀ j, j < n → s b j = σ a j) → (∀ k, k ≠ b → s k = σ k) → K s) : m_X3_copyRow a b σ K := by
  unfold m_X3_copyRow
  rw [la, lb]
  have e : (if Int32.ofNat n < Int32.ofNat n then Int32.ofNat n else Int32.ofNat n) = Int32.ofNat n := by split <;> rfl
  rw [e, show (0 : Int32).toNatClampNeg = 0 by decide, c32 hn]
  refine ⟨⟨by decide, by decide, ?_, by omega, by omega⟩, fun s hs => h s (fun j hj => ?_) (fun k hk => ?_)⟩
  · rw [ti_lt, ti_cn hn, d0]
    omega
  · rw [hs]
    unfold cp2
    rw [if_pos ⟨rfl, Nat.zero_le _, by omega⟩]
    congr 1
    omega
  · rw [hs]
    funext j
    unfold cp2
    rw [if_neg (fun z => hk z.1)]
theorem W_apart {v w : Nat} (hv : IsW v) (hw : IsW w) (hne : v ≠ w) : v + 8 ≤ w ∨ w + 8 ≤ v := by
  rcases hv with rfl | rfl | ⟨i, hi, rfl⟩ <;> rcases hw with rfl | rfl | ⟨j, hj, rfl⟩ <;> omega
/-- w's world is v's -/
def sameW (s σ : Sg) (w v : Nat) : Prop := (∀ j, j < 10 → s w j = σ v j) ∧ (∀ i, 1 ≤ i → i < 8 → ∀ j, j < wl i → s (w + i) j = σ (v + i) j) ∧ ∀ k, k < w ∨ w + 8 ≤ k → s k = σ k
theorem W_ln {w : Nat} (hw : IsW w) (i : Nat) (h1 : 1 ≤ i) (h2 : i < 8) : ln (w + i) = wl i := by
  rcases (show i = 1 ∨ i = 2 ∨ i = 3 ∨ i = 4 ∨ i = 5 ∨ i = 6 ∨ i = 7 by omega) with rfl | rfl | rfl | rfl | rfl | rfl | rfl
  · exact W_L1 hw
  · exact W_L2 hw
  · exact W_L3 hw
  · exact W_L4 hw
  · exact W_L5 hw
  · exact W_L6 hw
  · exact W_L7 hw
theorem p_become {w v : Nat} {σ : Sg} {K : Sg → Prop} (hw : IsW w) (hv : IsW v) (hne : w ≠ v) (h : ∀ s, sameW s σ w v → K s) : m_X3_become w v σ K := by
  have ha := W_apart hw hv hne
  have hb : ∀ i, 1 ≤ i → i < 8 → wl i < 2147483648 := by
    intro i h1 h2
    rcases (show i = 1 ∨ i = 2 ∨ i = 3 ∨ i = 4 ∨ i = 5 ∨ i = 6 ∨ i = 7 by omega) with rfl | rfl | rfl | rfl | rfl | rfl | rfl <;> decide
  intro a0 e0 a1 e1 a2 e2 a3 e3 a4 e4 a5 e5 a6 e6 a7 e7 a8 e8 a9 e9
  have hf : (∀ j, j < 10 → a9 w j = σ v j) ∧ ∀ k, k ≠ w → a9 k = σ k := by
    have f0 : ∀ k, k ≠ w → a0 k = σ k := fun k hk => by rw [e0]; exact st2_row hk
    have f1 : ∀ k, k ≠ w → a1 k = σ k := fun k hk => by rw [e1, st2_row hk]; exact f0 k hk
    have f2 : ∀ k, k ≠ w → a2 k = σ k := fun k hk => by rw [e2, st2_row hk]; exact f1 k hk
    have f3 : ∀ k, k ≠ w → a3 k = σ k := fun k hk => by rw [e3, st2_row hk]; exact f2 k hk
    have f4 : ∀ k, k ≠ w → a4 k = σ k := fun k hk => by rw [e4, st2_row hk]; exact f3 k hk
    have f5 : ∀ k, k ≠ w → a5 k = σ k := fun k hk => by rw [e5, st2_row hk]; exact f4 k hk
    have f6 : ∀ k, k ≠ w → a6 k = σ k := fun k hk => by rw [e6, st2_row hk]; exact f5 k hk
    have f7 : ∀ k, k ≠ w → a7 k = σ k := fun k hk => by rw [e7, st2_row hk]; exact f6 k hk
    have f8 : ∀ k, k ≠ w → a8 k = σ k := fun k hk => by rw [e8, st2_row hk]; exact f7 k hk
    refine ⟨fun j hj => ?_, fun k hk => by rw [e9, st2_row hk]; exact f8 k hk⟩
    have hvw : v ≠ w := fun z => hne z.symm
    rcases (show j = 0 ∨ j = 1 ∨ j = 2 ∨ j = 3 ∨ j = 4 ∨ j = 5 ∨ j = 6 ∨ j = 7 ∨ j = 8 ∨ j = 9 by omega) with rfl | rfl | rfl | rfl | rfl | rfl | rfl | rfl | rfl | rfl
    · rw [e9, st2_j (by decide), e8, st2_j (by decide), e7, st2_j (by decide), e6, st2_j (by decide), e5, st2_j (by decide), e4, st2_j (by decide), e3, st2_j (by decide), e2, st2_j (by decide), e1, st2_j (by decide), e0, st2_same]
    · rw [e9, st2_j (by decide), e8, st2_j (by decide), e7, st2_j (by decide), e6, st2_j (by decide), e5, st2_j (by decide), e4, st2_j (by decide), e3, st2_j (by decide), e2, st2_j (by decide), e1, st2_same, f0 v hvw]
    · rw [e9, st2_j (by decide), e8, st2_j (by decide), e7, st2_j (by decide), e6, st2_j (by decide), e5, st2_j (by decide), e4, st2_j (by decide), e3, st2_j (by decide), e2, st2_same, f1 v hvw]
    · rw [e9, st2_j (by decide), e8, st2_j (by decide), e7, st2_j (by decide), e6, st2_j (by decide), e5, st2_j (by decide), e4, st2_j (by decide), e3, st2_same, f2 v hvw]
    · rw [e9, st2_j (by decide), e8, st2_j (by decide), e7, st2_j (by decide), e6, st2_j (by decide), e5, st2_j (by decide), e4, st2_same, f3 v hvw]
    · rw [e9, st2_j (by decide), e8, st2_j (by decide), e7, st2_j (by decide), e6, st2_j (by decide), e5, st2_same, f4 v hvw]
    · rw [e9, st2_j (by decide), e8, st2_j (by decide), e7, st2_j (by decide), e6, st2_same, f5 v hvw]
    · rw [e9, st2_j (by decide), e8, st2_j (by decide), e7, st2_same, f6 v hvw]
    · rw [e9, st2_j (by decide), e8, st2_same, f7 v hvw]
    · rw [e9, st2_same, f8 v hvw]
  clear e0 e1 e2 e3 e4 e5 e6 e7 e8 e9
  obtain ⟨g1, g2⟩ := hf
  refine p_copyRow (W_ln hv 1 (by decide) (by decide)) (W_ln hw 1 (by decide) (by decide)) (hb 1 (by decide) (by decide)) fun b1 m1 n1 => ?_
  refine p_copyRow (W_ln hv 2 (by decide) (by decide)) (W_ln hw 2 (by decide) (by decide)) (hb 2 (by decide) (by decide)) fun b2 m2 n2 => ?_
  refine p_copyRow (W_ln hv 3 (by decide) (by decide)) (W_ln hw 3 (by decide) (by decide)) (hb 3 (by decide) (by decide)) fun b3 m3 n3 => ?_
  refine p_copyRow (W_ln hv 4 (by decide) (by decide)) (W_ln hw 4 (by decide) (by decide)) (hb 4 (by decide) (by decide)) fun b4 m4 n4 => ?_
  refine p_copyRow (W_ln hv 5 (by decide) (by decide)) (W_ln hw 5 (by decide) (by decide)) (hb 5 (by decide) (by decide)) fun b5 m5 n5 => ?_
  refine p_copyRow (W_ln hv 6 (by decide) (by decide)) (W_ln hw 6 (by decide) (by decide)) (hb 6 (by decide) (by decide)) fun b6 m6 n6 => ?_
  refine p_copyRow (W_ln hv 7 (by decide) (by decide)) (W_ln hw 7 (by decide) (by decide)) (hb 7 (by decide) (by decide)) fun b7 m7 n7 => h b7 ⟨fun j hj => ?_, fun i h1 h2 j hj => ?_, fun k hk => ?_⟩
  · rw [n7 w (by omega), n6 w (by omega), n5 w (by omega), n4 w (by omega), n3 w (by omega), n2 w (by omega), n1 w (by omega)]
    exact g1 j hj
  · rcases (show i = 1 ∨ i = 2 ∨ i = 3 ∨ i = 4 ∨ i = 5 ∨ i = 6 ∨ i = 7 by omega) with rfl | rfl | rfl | rfl | rfl | rfl | rfl
    · rw [n7 (w + 1) (by omega), n6 (w + 1) (by omega), n5 (w + 1) (by omega), n4 (w + 1) (by omega), n3 (w + 1) (by omega), n2 (w + 1) (by omega), m1 j hj, g2 (v + 1) (by omega)]
    · rw [n7 (w + 2) (by omega), n6 (w + 2) (by omega), n5 (w + 2) (by omega), n4 (w + 2) (by omega), n3 (w + 2) (by omega), m2 j hj, n1 (v + 2) (by omega), g2 (v + 2) (by omega)]
    · rw [n7 (w + 3) (by omega), n6 (w + 3) (by omega), n5 (w + 3) (by omega), n4 (w + 3) (by omega), m3 j hj, n2 (v + 3) (by omega), n1 (v + 3) (by omega), g2 (v + 3) (by omega)]
    · rw [n7 (w + 4) (by omega), n6 (w + 4) (by omega), n5 (w + 4) (by omega), m4 j hj, n3 (v + 4) (by omega), n2 (v + 4) (by omega), n1 (v + 4) (by omega), g2 (v + 4) (by omega)]
    · rw [n7 (w + 5) (by omega), n6 (w + 5) (by omega), m5 j hj, n4 (v + 5) (by omega), n3 (v + 5) (by omega), n2 (v + 5) (by omega), n1 (v + 5) (by omega), g2 (v + 5) (by omega)]
    · rw [n7 (w + 6) (by omega), m6 j hj, n5 (v + 6) (by omega), n4 (v + 6) (by omega), n3 (v + 6) (by omega), n2 (v + 6) (by omega), n1 (v + 6) (by omega), g2 (v + 6) (by omega)]
    · rw [m7 j hj, n6 (v + 7) (by omega), n5 (v + 7) (by omega), n4 (v + 7) (by omega), n3 (v + 7) (by omega), n2 (v + 7) (by omega), n1 (v + 7) (by omega), g2 (v + 7) (by omega)]
  · rw [n7 k (by omega), n6 k (by omega), n5 k (by omega), n4 k (by omega), n3 k (by omega), n2 k (by omega), n1 k (by omega), g2 k (by omega)]
theorem Rw.same {σ s : Sg} {w v : Nat} {ρ : Nat → Int32} (hr : okR ρ) (h : Rw σ v ρ) (hs : sameW s σ w v) : Rw s w ρ := by
  obtain ⟨f, g, -⟩ := hs
  have hm := hr.2.2.2.1
  have hn := hr.2.2.2.2.2.2.1
  have hq := hr.2.2.2.2.2.2.2.1
  obtain ⟨⟨a0, a1, a2, a3, a4⟩, ⟨a5, a6⟩, ⟨a7, a8, a9⟩, b1, b2, b3, b4, b5, b6⟩ := h
  refine ⟨⟨by rw [f 0 (by decide), a0], by rw [f 1 (by decide), a1], by rw [f 2 (by decide), a2], by rw [f 3 (by decide), a3], by rw [f 4 (by decide), a4]⟩, ⟨by rw [f 5 (by decide), a5], by rw [f 6 (by decide), a6]⟩, ⟨by rw [f 7 (by decide), a7], by rw [f 8 (by decide), a8], by rw [f 9 (by decide), a9]⟩, fun i hi => ?_, fun x y ho => ?_, fun k h1 h2 => ?_, fun k hk => ?_, fun k hk => ?_, fun k hk => ?_⟩
  · rw [g 1 (by decide) (by decide) i (show i < 3 by omega), g 2 (by decide) (by decide) i (show i < 3 by omega)]
    exact b1 i hi
  · have oc := onS_cell (p := (x, y)) hr ho
    simp only at oc
    rw [g 3 (by decide) (by decide) _ (show (rI ρ 0 * y + x).toNat < 240 by omega), g 4 (by decide) (by decide) _ (show (rI ρ 0 * y + x).toNat < 240 by omega)]
    exact b2 x y ho
  · rw [g 3 (by decide) (by decide) k (show k < 240 from h2)]
    exact b3 k h1 h2
  · rw [g 5 (by decide) (by decide) k (show k < 24 by omega)]
    exact b4 k hk
  · rw [g 6 (by decide) (by decide) k (show k < 12 by omega)]
    exact b5 k hk
  · rw [g 7 (by decide) (by decide) k (show k < 561 from hk)]
    exact b6 k hk
/-- the reference's rows copied -/
theorem p_copies {a b : Nat} {σ : Sg} {K : Sg → Prop} (la : ln a = 1098) (lb : ln b = 1098) (hab : a ≠ b) (za : ∀ j, 1098 ≤ j → σ a j = 0) (zb : ∀ j, 1098 ≤ j → σ b j = 0) (h : ∀ s : Sg, s b = σ a → (∀ k, k ≠ b → s k = σ k) → K s) : m_X5_copies a b σ K := by
  have d9 : (1098 : Int32).toInt = 1098 := by decide
  have key : ∀ k i : Nat, i + k = 1098 → ∀ s : Sg, (∀ j, j < i → s b j = σ a j) → (∀ j, i ≤ j → s b j = σ b j) → (∀ c, c ≠ b → s c = σ c) → m_X5_copies_l2 a b K (k + 1) (nI i) s := by
    intro k
    induction k with
    | zero =>
      intro i hi s h1 h2 h3
      have ei := nI_toInt (n := i) (by omega)
      refine ⟨fun _ => h s (funext fun j => ?_) h3, fun z => ?_⟩
      · by_cases hj : j < i
        · exact h1 j hj
        · rw [h2 j (by omega), zb j (by omega), za j (by omega)]
      · rw [ti_le, d9, ei] at z
        omega
    | succ k ih =>
      intro i hi s h1 h2 h3
      have ei := nI_toInt (n := i) (by omega)
      have ec := nI_clamp (n := i) (by omega)
      refine ⟨fun z => ?_, fun _ => ⟨by rw [ti_in, ei, la]; omega, by rw [ti_in, ei, lb]; omega, fun t ht => ?_⟩⟩
      · rw [ti_le, d9, ei] at z
        omega
      · rw [← nI_succ]
        rw [ec, h3 a hab] at ht
        refine ih (i + 1) (by omega) t (fun j hj => ?_) (fun j hj => ?_) (fun c hc => ?_)
        · rw [ht]
          by_cases e : j = i
          · rw [e, st2_same]
          · rw [st2_j e]
            exact h1 j (by omega)
        · rw [ht, st2_j (by omega)]
          exact h2 j (by omega)
        · rw [ht, st2_row hc]
          exact h3 c hc
  exact ⟨1099, key 1098 0 (by omega) σ (fun j hj => absurd hj (Nat.not_lt_zero _)) (fun _ _ => rfl) (fun _ _ => rfl)⟩
