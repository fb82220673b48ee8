/-! the reference looks ahead -/
def aheadM (s σ : Sg) (ρ : Nat → Int32) : Prop := (∀ n, n ≤ 60 → s 361 n = cl20 (dAt ρ n) ∧ s 362 n = cl20 (pAt ρ n)) ∧ ∀ k, k ≠ 361 → k ≠ 362 → s k = σ k
theorem p_looksAhead {σ : Sg} {K : Sg → Prop} (hq : okQ (σ 350)) (h : ∀ s, aheadM s σ (σ 350) → K s) : m_X5_looksAhead σ K := by
  have hr := hq.1
  have hh := hr.2.2.1
  unfold rI at hh
  have d60 : (60 : Int32).toInt = 60 := by decide
  have i61 : ∀ i : Nat, i < 61 → vp_in (nI i) 61 := fun i hi => nI_in hi (by decide)
  have key : ∀ k i : Nat, i + k = 60 → ∀ s : Sg, (∀ n, n ≤ i → s 361 n = cl20 (dAt (σ 350) n) ∧ s 362 n = cl20 (pAt (σ 350) n)) → (∀ c, c ≠ 361 → c ≠ 362 → s c = σ c) → m_X5_looksAhead_l35 K (k + 1) (nI i) s := by
    intro k
    induction k with
    | zero =>
      intro i hi s h1 h2
      have : i = 60 := by omega
      subst this
      exact ⟨fun _ => h s ⟨h1, h2⟩, fun z => absurd (by decide) z⟩
    | succ k ih =>
      intro i hi s h1 h2
      have ei := nI_toInt (n := i) (by omega)
      have e350 : s 350 = σ 350 := h2 350 (by decide) (by decide)
      have et : (σ 350 2 + nI i).toInt = rI (σ 350) 2 + i := by
        rw [ti_add (by rw [ei]; omega) (by rw [ei]; omega), ei]
        rfl
      have et0 : 0 ≤ (σ 350 2 + nI i).toInt ∧ (σ 350 2 + nI i).toInt ≤ 560 := by rw [et]; unfold rI; omega
      have i2 : vp_in 2 1098 := by rw [ti_in]; decide
      obtain ⟨g1, g2⟩ := h1 i (Nat.le_refl _)
      have w1 : isP (dAt (σ 350) i) := onS_P hr (dAt_wat hq i).1
      have w2 : isP (pAt (σ 350) i) := onS_P hr (pAt_wat hq i).1
      refine ⟨fun z => ?_, fun _ => ⟨i61 i (by omega), i2, ?_⟩⟩
      · rw [ti_le, d60, ei] at z
        omega
      · rw [nI_clamp (by omega), show (2 : Int32).toNatClampNeg = 2 by decide, g1, e350, ← nI_succ]
        refine p_X5_drifted rfl (by rw [e350]; exact hr) w1 et0.1 et0.2 ⟨i61 (i + 1) (by omega), fun a ha => ⟨i61 i (by omega), i2, ?_⟩⟩
        rw [e350, et] at ha
        rw [nI_clamp (by omega)] at ha
        have a350 : a 350 = σ 350 := by rw [ha, st2_row (by decide), e350]
        have a362 : a 362 = s 362 := by rw [ha, st2_row (by decide)]
        rw [a362, g2, a350]
        refine p_X5_portBehind rfl (by rw [a350]; exact hr) w2 et0.1 ⟨i61 (i + 1) (by omega), fun b hb => ?_⟩
        rw [a350, et, nI_clamp (by omega)] at hb
        refine ih (i + 1) (by omega) b (fun n hn => ?_) (fun c c1 c2 => by rw [hb, st2_row c2, ha, st2_row c1]; exact h2 c c1 c2)
        by_cases e : n = i + 1
        · subst e
          exact ⟨by rw [hb, st2_k (by decide), ha, st2_same]; rfl, by rw [hb, st2_same]; rfl⟩
        · obtain ⟨f1, f2⟩ := h1 n (by omega)
          exact ⟨by rw [hb, st2_k (by decide), ha, st2_j e]; exact f1, by rw [hb, st2_j e, ha, st2_k (by decide)]; exact f2⟩
  unfold m_X5_looksAhead
  refine p_X5_drifterCell hq ⟨by rw [ti_in]; decide, fun a ha => ⟨by rw [ti_in]; decide, by rw [ti_in]; decide, ?_⟩⟩
  rw [show (0 : Int32).toNatClampNeg = 0 by decide] at ha
  have a350 : a 350 = σ 350 := by rw [ha, st2_row (by decide)]
  unfold m_X5_cellAt
  rw [a350, show (8 : Int32).toNatClampNeg = 8 by decide, show (9 : Int32).toNatClampNeg = 9 by decide, cl20_of (ρ := σ 350) (onS_P (p := (rI (σ 350) 8, rI (σ 350) 9)) hr hq.2.2.1.1)]
  refine ⟨by rw [ti_in]; decide, fun b hb => ⟨61, key 60 0 (by decide) b (fun n hn => ?_) (fun c c1 c2 => by rw [hb, st2_row c2, ha, st2_row c1])⟩⟩
  rw [show (0 : Int32).toNatClampNeg = 0 by decide] at hb
  have : n = 0 := by omega
  subst this
  exact ⟨by rw [hb, st2_k (by decide), ha, st2_same]; rfl, by rw [hb, st2_same]; rfl⟩
