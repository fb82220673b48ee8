/-! worlds and rows begun -/
theorem p_fill {a n : Nat} {v : Int32} {σ : Sg} {K : Sg → Prop} (hl : ln a = n) (hn : n < 2147483648) (h : ∀ s : Sg, (∀ j, j < n → s a j = v) → (∀ k, k ≠ a → s k = σ k) → K s) : m_J7_fill_53178 a v σ K := by
  intro l hl3
  rw [hl] at hl3
  subst hl3
  have key : ∀ k i : Nat, i + k = n → ∀ s : Sg, (∀ j, j < i → s a j = v) → (∀ c, c ≠ a → s c = σ c) → m_J7_fill_53178_l5 a v K (k + 1) (nI i) (Int32.ofNat n) s := by
    intro k
    induction k with
    | zero =>
      intro i hi s h1 h2
      have ei := nI_toInt (n := i) (by omega)
      refine ⟨fun _ => h s (fun j hj => h1 j (by omega)) h2, fun z => ?_⟩
      rw [ti_le, ti_cn hn, ei] at z
      omega
    | succ k ih =>
      intro i hi s h1 h2
      have ei := nI_toInt (n := i) (by omega)
      refine ⟨fun z => ?_, fun _ => ⟨by rw [ti_in, ei, hl]; omega, fun t ht => ?_⟩⟩
      · rw [ti_le, ti_cn hn, ei] at z
        omega
      · rw [nI_clamp (by omega)] at ht
        rw [← nI_succ]
        refine ih (i + 1) (by omega) t (fun j hj => ?_) (fun c hc => by rw [ht, st2_row hc]; exact h2 c hc)
        rw [ht]
        by_cases e : j = i
        · rw [e, st2_same]
        · rw [st2_j e]
          exact h1 j (by omega)
  exact ⟨n + 1, key n 0 (by omega) σ (fun j hj => absurd hj (Nat.not_lt_zero _)) (fun _ _ => rfl)⟩
/-- a world begun empty -/
def emptyW (s σ : Sg) (w : Nat) : Prop := (s w 0 = 3 ∧ s w 1 = 3 ∧ s w 2 = 0 ∧ s w 3 = 999 ∧ s w 4 = 0 ∧ s w 5 = 0 ∧ s w 6 = 0 ∧ s w 7 = 0 ∧ s w 8 = 0 ∧ s w 9 = 0) ∧
  (∀ j, j < 240 → s (w + 3) j = 0) ∧ (∀ j, j < 240 → s (w + 4) j = 0) ∧ (∀ j, j < 561 → s (w + 7) j = -1) ∧ ∀ k, k ≠ w → k ≠ w + 3 → k ≠ w + 4 → k ≠ w + 7 → s k = σ k
theorem p_beginEmpty {w : Nat} {σ : Sg} {K : Sg → Prop} (hw : IsW w) (h : ∀ s, emptyW s σ w → K s) : m_X3_beginEmpty w σ K := by
  intro a0 e0 a1 e1 a2 e2 a3 e3 a4 e4 a5 e5 a6 e6 a7 e7 a8 e8 a9 e9
  have hk : ∀ k, k ≠ w → a9 k = σ k := fun k hk => by
    rw [e9, st2_row hk, e8, st2_row hk, e7, st2_row hk, e6, st2_row hk, e5, st2_row hk, e4, st2_row hk, e3, st2_row hk, e2, st2_row hk, e1, st2_row hk, e0, st2_row hk]
  have g9 : a9 w 9 = 0 := by rw [e9, st2_same]
  have g8 : a9 w 8 = 0 := by rw [e9, st2_j (by decide), e8, st2_same]
  have g7 : a9 w 7 = 0 := by rw [e9, st2_j (by decide), e8, st2_j (by decide), e7, st2_same]
  have g6 : a9 w 6 = 0 := by rw [e9, st2_j (by decide), e8, st2_j (by decide), e7, st2_j (by decide), e6, st2_same]
  have g5 : a9 w 5 = 0 := by rw [e9, st2_j (by decide), e8, st2_j (by decide), e7, st2_j (by decide), e6, st2_j (by decide), e5, st2_same]
  have g4 : a9 w 4 = 0 := by rw [e9, st2_j (by decide), e8, st2_j (by decide), e7, st2_j (by decide), e6, st2_j (by decide), e5, st2_j (by decide), e4, st2_same]
  have g3 : a9 w 3 = 999 := by rw [e9, st2_j (by decide), e8, st2_j (by decide), e7, st2_j (by decide), e6, st2_j (by decide), e5, st2_j (by decide), e4, st2_j (by decide), e3, st2_same]
  have g2 : a9 w 2 = 0 := by rw [e9, st2_j (by decide), e8, st2_j (by decide), e7, st2_j (by decide), e6, st2_j (by decide), e5, st2_j (by decide), e4, st2_j (by decide), e3, st2_j (by decide), e2, st2_same]
  have g1 : a9 w 1 = 3 := by rw [e9, st2_j (by decide), e8, st2_j (by decide), e7, st2_j (by decide), e6, st2_j (by decide), e5, st2_j (by decide), e4, st2_j (by decide), e3, st2_j (by decide), e2, st2_j (by decide), e1, st2_same]
  have g0 : a9 w 0 = 3 := by rw [e9, st2_j (by decide), e8, st2_j (by decide), e7, st2_j (by decide), e6, st2_j (by decide), e5, st2_j (by decide), e4, st2_j (by decide), e3, st2_j (by decide), e2, st2_j (by decide), e1, st2_j (by decide), e0, st2_same]
  clear e0 e1 e2 e3 e4 e5 e6 e7 e8 e9
  refine p_fill (W_L3 hw) (by decide) fun b1 m1 n1 => p_fill (W_L4 hw) (by decide) fun b2 m2 n2 => p_fill (W_L7 hw) (by decide) fun b3 m3 n3 => h b3 ⟨?_, fun j hj => by rw [n3 _ (by omega), n2 _ (by omega)]; exact m1 j hj, fun j hj => by rw [n3 _ (by omega)]; exact m2 j hj, m3, fun k k1 k2 k3 k4 => by rw [n3 k k4, n2 k k3, n1 k k2, hk k k1]⟩
  rw [n3 w (by omega), n2 w (by omega), n1 w (by omega)]
  exact ⟨g0, g1, g2, g3, g4, g5, g6, g7, g8, g9⟩
/-- a row begun -/
def rowB (j : Nat) : Int32 := if j = 4 then 999 else if 48 ≤ j ∧ j < 609 then -1 else 0
theorem p_begins {r : Nat} {σ : Sg} {K : Sg → Prop} (hl : ln r = 1098) (hz : ∀ j, 1098 ≤ j → σ r j = 0) (h : ∀ s : Sg, s r = rowB → (∀ k, k ≠ r → s k = σ k) → K s) : m_X5_begins r σ K := by
  have d9 : (1098 : Int32).toInt = 1098 := by decide
  have d560 : (560 : Int32).toInt = 560 := by decide
  have d48 : (48 : Int32).toInt = 48 := by decide
  have k2 : ∀ k i : Nat, i + k = 561 → ∀ s : Sg, (∀ j, s r j = if 48 ≤ j ∧ j < 48 + i then -1 else 0) → (∀ c, c ≠ r → s c = σ c) → m_X5_begins_l21 r K (k + 1) (nI i) s := by
    intro k
    induction k with
    | zero =>
      intro i hi s h1 h2
      have ei := nI_toInt (n := i) (by omega)
      refine ⟨fun _ => ⟨by rw [ti_in, hl]; decide, fun t ht => ?_⟩, fun z => ?_⟩
      · rw [show (4 : Int32).toNatClampNeg = 4 by decide] at ht
        refine h t (funext fun j => ?_) (fun c hc => by rw [ht, st2_row hc]; exact h2 c hc)
        rw [ht]
        unfold rowB
        by_cases e : j = 4
        · rw [e, st2_same, if_pos rfl]
        · rw [st2_j e, h1, if_neg e, show 48 + i = 609 by omega]
      · rw [ti_lt, d560, ei] at z
        omega
    | succ k ih =>
      intro i hi s h1 h2
      have ei := nI_toInt (n := i) (by omega)
      have e1 : (48 + nI i).toInt = 48 + i := by rw [ti_add (by rw [ei, d48]; omega) (by rw [ei, d48]; omega), ei, d48]
      refine ⟨fun z => ?_, fun _ => ⟨by rw [ti_in, e1, hl]; omega, fun t ht => ?_⟩⟩
      · rw [ti_lt, d560, ei] at z
        omega
      · rw [ti_c, e1, show (48 + (i : Int)).toNat = 48 + i by omega] at ht
        rw [← nI_succ]
        refine ih (i + 1) (by omega) t (fun j => ?_) (fun c hc => by rw [ht, st2_row hc]; exact h2 c hc)
        rw [ht]
        by_cases e : j = 48 + i
        · rw [e, st2_same, if_pos (by omega)]
        · rw [st2_j e, h1]
          by_cases g : 48 ≤ j ∧ j < 48 + i
          · rw [if_pos g, if_pos (by omega)]
          · rw [if_neg g, if_neg (by omega)]
  have k1 : ∀ k i : Nat, i + k = 1098 → ∀ s : Sg, (∀ j, j < i → s r j = 0) → (∀ j, 1098 ≤ j → s r j = 0) → (∀ c, c ≠ r → s c = σ c) → m_X5_begins_l2 r K (k + 1) (nI i) s := by
    intro k
    induction k with
    | zero =>
      intro i hi s h1 h2 h3
      have ei := nI_toInt (n := i) (by omega)
      refine ⟨fun _ => ⟨562, k2 561 0 (by decide) s (fun j => ?_) h3⟩, fun z => ?_⟩
      · rw [if_neg (by omega)]
        by_cases g : j < i
        · exact h1 j g
        · exact h2 j (by omega)
      · rw [ti_le, d9, ei] at z
        omega
    | succ k ih =>
      intro i hi s h1 h2 h3
      have ei := nI_toInt (n := i) (by omega)
      refine ⟨fun z => ?_, fun _ => ⟨by rw [ti_in, ei, hl]; omega, fun t ht => ?_⟩⟩
      · rw [ti_le, d9, ei] at z
        omega
      · rw [nI_clamp (by omega)] at ht
        rw [← nI_succ]
        refine ih (i + 1) (by omega) t (fun j hj => ?_) (fun j hj => by rw [ht, st2_j (by omega)]; exact h2 j hj) (fun c hc => by rw [ht, st2_row hc]; exact h3 c hc)
        rw [ht]
        by_cases e : j = i
        · rw [e, st2_same]
        · rw [st2_j e]
          exact h1 j (by omega)
  exact ⟨1099, k1 1098 0 (by decide) σ (fun j hj => absurd hj (Nat.not_lt_zero _)) hz (fun _ _ => rfl)⟩
