/-! cell, cost -/
theorem num20 {a b : Int32} (h : isP (a.toInt, b.toInt)) : 20 * b + a = cl20 (a.toInt, b.toInt) := by
  unfold isP at h
  simp only at h
  have d20 : (20 : Int32).toInt = 20 := by decide
  have e1 : (20 * b).toInt = 20 * b.toInt := by rw [ti_mul (by rw [d20]; omega) (by rw [d20]; omega), d20]
  exact ti_ext (by rw [ti_add (by rw [e1]; omega) (by rw [e1]; omega), e1])
theorem numW {ρ : Nat → Int32} (hr : okR ρ) {a b : Int32} (h : onS ρ a.toInt b.toInt = true) : ρ 0 * b + a = clW (rI ρ 0) (a.toInt, b.toInt) := by
  have oc := onS_cell (p := (a.toInt, b.toInt)) hr h
  simp only at oc
  obtain ⟨o1, o2, o3, o4⟩ := onS_iff.mp h
  have hW := hr.1
  have m1 : 0 ≤ rI ρ 0 * b.toInt := Int.mul_nonneg (by omega) o3
  have e1 : (ρ 0 * b).toInt = rI ρ 0 * b.toInt := ti_mul (by show -2147483648 ≤ rI ρ 0 * b.toInt; omega) (by show rI ρ 0 * b.toInt < 2147483648; omega)
  exact ti_ext (by rw [ti_add (by rw [e1]; omega) (by rw [e1]; omega), e1])
theorem at_20 {r c : Nat} {p : Int × Int} {σ : Sg} (hc : c ≤ 849) (hp : isP p) : (nI c + cl20 p).toInt = c + (20 * p.2 + p.1) ∧ σ r (nI c + cl20 p).toNatClampNeg = σ r (c + (20 * p.2 + p.1).toNat) := by
  have e0 := cl20_i hp
  have ec := nI_toInt (n := c) (by omega)
  unfold isP at hp
  have e1 : (nI c + cl20 p).toInt = c + (20 * p.2 + p.1) := by rw [ti_add (by rw [e0, ec]; omega) (by rw [e0, ec]; omega), e0, ec]
  refine ⟨e1, ?_⟩
  rw [ti_c, e1]
  congr 1
  omega
theorem ob_cell : obl_cell Rel := by
  intro σc σm v p1 p2 p3 hR
  have hr := hR.1.1.1
  have hw := hR.1.2
  refine p_X3_isOnSea hw ?_
  by_cases ho : onS (σm 350) p1.toInt p2.toInt = true ∧ 0 ≤ p3.toInt ∧ p3.toInt ≤ 1
  · obtain ⟨h1, h2⟩ := ho
    rw [if_pos h1]
    refine ⟨fun z => absurd z one0, fun _ => p_X4_isIn ?_⟩
    rw [d0, d1, if_pos h2]
    refine ⟨fun z => absurd z one0, fun _ => p_need1 ?_⟩
    have hP := onS_isP hr h1
    have oc := onS_cell (p := (p1.toInt, p2.toInt)) hr h1
    have ec := clW_i (p := (p1.toInt, p2.toInt)) hr h1
    have key : ∀ u : Int32, (p3 = 0 → u = σm 350 (609 + (20 * p2.toInt + p1.toInt).toNat)) → (¬ p3 = 0 → u = σm 350 (849 + (20 * p2.toInt + p1.toInt).toNat)) → K_cell Rel p1 p2 p3 σm 0 σc u.toInt64 := by
      intro u u1 u2 s hs
      have e350 : s 350 = σm 350 := by rw [hs]; exact st2_row (by decide)
      obtain ⟨h0, h⟩ := start hR s hs
      refine p_X5_isOn rfl h.1.1.1 ?_
      rw [e350, if_pos h1]
      refine ⟨fun z => absurd z one0, fun _ => p_X5_in ?_⟩
      rw [d0, d1, if_pos h2]
      refine ⟨fun _ => p_bad0 h0 ⟨fun _ => ⟨fun z => ?_, fun z => ?_⟩, fun z => absurd rfl z⟩, fun z => absurd z one0⟩
      · unfold m_X5_cellAt
        rw [num20 (a := p1) (b := p2) hP]
        obtain ⟨g1, g2⟩ := at_20 (r := 350) (c := 849) (σ := s) (Nat.le_refl _) (p := (p1.toInt, p2.toInt)) hP
        simp only at g1
        refine ⟨by rw [ti_in]; show 0 ≤ (nI 849 + cl20 (p1.toInt, p2.toInt)).toInt ∧ (nI 849 + cl20 (p1.toInt, p2.toInt)).toInt < _; rw [g1]; omega, h0, fun _ => ?_, h⟩
        rw [u2 z, ← e350]
        exact congrArg Int32.toInt64 g2.symm
      · unfold m_X5_cellAt
        rw [num20 (a := p1) (b := p2) hP]
        obtain ⟨g1, g2⟩ := at_20 (r := 350) (c := 609) (σ := s) (by decide) (p := (p1.toInt, p2.toInt)) hP
        simp only at g1
        refine ⟨by rw [ti_in]; show 0 ≤ (nI 609 + cl20 (p1.toInt, p2.toInt)).toInt ∧ (nI 609 + cl20 (p1.toInt, p2.toInt)).toInt < _; rw [g1]; omega, h0, fun _ => ?_, h⟩
        rw [u1 z, ← e350]
        exact congrArg Int32.toInt64 g2.symm
    unfold m_X3_cellAt
    rw [hw.1.1, numW hr h1]
    simp only at oc ec
    obtain ⟨r1, r2⟩ := hw.2.2.2.2.1 _ _ h1
    refine ⟨fun z => p_X4_read (W_L4 W_2) (by decide) (by rw [ec]; omega) (by rw [ec]; omega) ?_, fun z => p_X4_read (W_L3 W_2) (by decide) (by rw [ec]; omega) (by rw [ec]; omega) ?_⟩
    · rw [ec]
      exact key _ (fun q => absurd q z) (fun _ => r2)
    · rw [ec]
      exact key _ (fun _ => r1) (fun q => absurd z q)
  · have bad : ∀ u, "java/lang/IllegalArgumentException" = "java/lang/IllegalArgumentException" ∧ K_cell Rel p1 p2 p3 σm 1 (st2 σc 0 11 (σc 0 11 + 1)) u := by
      intro u
      refine ⟨rfl, ?_⟩
      intro s hs
      have e350 : s 350 = σm 350 := by rw [hs]; exact st2_row (by decide)
      obtain ⟨h0, h⟩ := start hR s hs
      have fin : m_X5_bad 1 1 1 s (fun r34 s34 => ((r34 = 0 → ((¬ p3 = 0 → m_X5_cellAt p1 p2 s34 (fun r61 s61 => (vp_in (849 + r61) 1098 ∧ m_X5_thrown s61 (fun th s2 => th = 1 ∧ ((1 : Int32) = 0 → u = (s61 350 (849 + r61).toNatClampNeg).toInt64) ∧ Rel (st2 σc 0 11 (σc 0 11 + 1)) s2)))) ∧ (p3 = 0 → m_X5_cellAt p1 p2 s34 (fun r61 s61 => (vp_in (609 + r61) 1098 ∧ m_X5_thrown s61 (fun th s2 => th = 1 ∧ ((1 : Int32) = 0 → u = (s61 350 (609 + r61).toNatClampNeg).toInt64) ∧ Rel (st2 σc 0 11 (σc 0 11 + 1)) s2)))))) ∧ (¬ (r34 = 0) → m_X5_thrown s34 (fun th s2 => th = 1 ∧ ((1 : Int32) = 0 → u = (0 : Int32).toInt64) ∧ Rel (st2 σc 0 11 (σc 0 11 + 1)) s2)))) :=
        p_bad1 (i := 1) h0 (by decide) (by decide) ⟨fun z => absurd z one0, fun _ => ⟨by rw [st2_k (by decide), st2_same], fun z => absurd z one0, h.ref 1 (by decide) 1⟩⟩
      refine p_X5_isOn rfl h.1.1.1 ?_
      rw [e350]
      by_cases h1 : onS (σm 350) p1.toInt p2.toInt = true
      · rw [if_pos h1]
        refine ⟨fun z => absurd z one0, fun _ => p_X5_in ?_⟩
        rw [d0, d1, if_neg (fun q => ho ⟨h1, q⟩)]
        exact ⟨fun z => absurd rfl z, fun _ => fin⟩
      · rw [if_neg h1]
        exact ⟨fun _ => fin, fun z => absurd rfl z⟩
    by_cases h1 : onS (σm 350) p1.toInt p2.toInt = true
    · rw [if_pos h1]
      refine ⟨fun z => absurd z one0, fun _ => p_X4_isIn ?_⟩
      rw [d0, d1, if_neg (fun q => ho ⟨h1, q⟩)]
      exact ⟨fun _ => p_need0 (bad v), fun z => absurd rfl z⟩
    · rw [if_neg h1]
      exact ⟨fun _ => p_need0 (bad v), fun z => absurd rfl z⟩
