/-! told, on -/
theorem k_told {σc σm : Sg} {p1 : Int32} (hR : Rel σc σm) (hp : 0 ≤ p1.toInt ∧ p1.toInt ≤ 12) {u : Int32} (h1 : p1.toInt < 6 → u = σm 350 p1.toInt.toNat) (h2 : p1.toInt = 6 → u = sm (fun j => σm 350 (609 + j)) 240) (h3 : 7 ≤ p1.toInt → p1.toInt < 11 → u = σm 350 (p1.toInt - 1).toNat) (h4 : p1.toInt = 11 → u = σm 347 2) (h5 : p1.toInt = 12 → u = σm 347 12) : K_told Rel p1 σm 0 σc u.toInt64 := by
  have d12 : (12 : Int32).toInt = 12 := by decide
  have d11 : (11 : Int32).toInt = 11 := by decide
  have d6 : (6 : Int32).toInt = 6 := by decide
  have d7 : (7 : Int32).toInt = 7 := by decide
  have d240 : (240 : Int32).toInt = 240 := by decide
  have d609 : (609 : Int32).toInt = 609 := by decide
  intro s hs
  have e350 : s 350 = σm 350 := by rw [hs]; exact st2_row (by decide)
  have e2 : s 347 2 = σm 347 2 := by rw [hs]; exact st2_j (by decide)
  have e12 : s 347 12 = σm 347 12 := by rw [hs]; exact st2_j (by decide)
  obtain ⟨h0, h⟩ := start hR s hs
  refine p_X5_in ?_
  rw [d0, d12, if_pos hp]
  refine ⟨fun _ => p_bad0 h0 ⟨fun _ => ⟨241, ?_⟩, fun z => absurd rfl z⟩, fun z => absurd z one0⟩
  have key : ∀ k i : Nat, i + k = 240 → m_X5_told_l35 p1 (fun bb s1 => m_X5_thrown s1 (fun th s2 => th = 0 ∧ ((0 : Int32) = 0 → u.toInt64 = bb.toInt64) ∧ Rel σc s2)) (k + 1) (sm (fun j => σm 350 (609 + j)) i) (nI i) s := by
    intro k
    induction k with
    | zero =>
      intro i hi
      have : i = 240 := by omega
      subst this
      have ne : ∀ {c : Int32}, ¬ p1 = c → p1.toInt ≠ c.toInt := fun z e => z (ti_eq.mpr e)
      refine ⟨fun _ => ⟨fun z => ⟨fun y => ⟨fun x => ⟨fun w => ⟨h0, fun _ => ?_, h⟩, fun w => ⟨h0, fun _ => ?_, h⟩⟩, fun x => ?_⟩, fun y => ⟨h0, fun _ => ?_, h⟩⟩, fun z => ?_⟩, fun z => absurd (by decide) z⟩
      · rw [ti_le, d11] at x
        have := ne w
        rw [d11] at this
        rw [h5 (by omega), e12]
      · rw [ti_eq, d11] at w
        rw [h4 w, e2]
      · rw [ti_le, d6] at z
        rw [ti_le, d11] at x
        have := ne y
        rw [d6] at this
        have e : (6 + p1 - 7).toInt = p1.toInt - 1 := by
          have ea : (6 + p1).toInt = 6 + p1.toInt := by rw [ti_add (by rw [d6]; omega) (by rw [d6]; omega), d6]
          rw [ti_sub (by rw [ea, d7]; omega) (by rw [ea, d7]; omega), ea, d7]
          omega
        refine ⟨by rw [ti_in, e]; omega, h0, fun _ => ?_, h⟩
        rw [h3 (by omega) (by omega), ti_c, e, e350]
      · rw [ti_eq, d6] at y
        rw [h2 y]
      · rw [ti_le, d6] at z
        refine ⟨by rw [ti_in]; omega, h0, fun _ => ?_, h⟩
        rw [h1 (by omega), ti_c, e350]
    | succ k ih =>
      intro i hi
      have ei := nI_toInt (n := i) (by omega)
      have e1 : (609 + nI i).toInt = 609 + i := by rw [ti_add (by rw [ei, d609]; omega) (by rw [ei, d609]; omega), ei, d609]
      refine ⟨fun z => ?_, fun _ => ⟨by rw [ti_in, e1]; omega, fun a ha => ?_⟩⟩
      · rw [ti_le, d240, ei] at z
        omega
      · rw [ti_c, e1, show (609 + (i : Int)).toNat = 609 + i by omega, e350] at ha
        rw [ha, ← nI_succ]
        exact ih (i + 1) (by omega)
  exact key 240 0 (by decide)
theorem ob_told : obl_told Rel := by
  intro σc σm v p1 hR
  have d12 : (12 : Int32).toInt = 12 := by decide
  have hr := hR.1.1.1
  have hw := hR.1.2
  refine p_X4_isIn ?_
  rw [d0, d12]
  by_cases hp : 0 ≤ p1.toInt ∧ p1.toInt ≤ 12
  · rw [if_pos hp]
    refine p_need1 ?_
    have e : ∀ {c : Int32}, p1 = c → p1.toInt = c.toInt := fun z => congrArg _ z
    have kx := fun {u : Int32} a1 a2 a3 a4 a5 => k_told (u := u) hR hp a1 a2 a3 a4 a5
    obtain ⟨⟨w0, w1, w2, w3, w4⟩, ⟨w5, w6⟩, ⟨w7, w8, w9⟩, -⟩ := hw
    refine ⟨fun z => ?_, fun z => ?_, fun z => ?_, fun z => ?_, fun z => ?_, fun z => ?_, fun z => ?_, fun z => ?_, fun z => ?_, fun z => ?_, fun z => ?_, fun z => ?_, fun z => ?_⟩
    · rw [ti_lt, ti_lt, d0, show (11 : Int32).toInt = 11 by decide] at z
      exact kx (by omega) (by omega) (by omega) (by omega) (fun _ => hR.2.1.2.2.1)
    · have q : p1.toInt = 0 := e z
      exact kx (fun _ => by rw [q]; exact w0) (by omega) (by omega) (by omega) (by omega)
    · have q : p1.toInt = 1 := e z
      exact kx (fun _ => by rw [q]; exact w1) (by omega) (by omega) (by omega) (by omega)
    · have q : p1.toInt = 2 := e z
      exact kx (fun _ => by rw [q]; exact w2) (by omega) (by omega) (by omega) (by omega)
    · have q : p1.toInt = 3 := e z
      exact kx (fun _ => by rw [q]; exact w7) (by omega) (by omega) (by omega) (by omega)
    · have q : p1.toInt = 4 := e z
      exact kx (fun _ => by rw [q]; exact w3) (by omega) (by omega) (by omega) (by omega)
    · have q : p1.toInt = 5 := e z
      exact kx (fun _ => by rw [q]; exact w4) (by omega) (by omega) (by omega) (by omega)
    · have q : p1.toInt = 6 := e z
      refine p_countLand (kx (by omega) (fun _ => land_sum hR.1.1 hR.1.2) (by omega) (by omega) (by omega))
    · have q : p1.toInt = 7 := e z
      rw [w5]
      exact p_X3_xOf hR.1.2 hr hR.1.1.2.1.1 (kx (by omega) (by omega) (fun _ _ => by rw [q]; exact rI_of 6) (by omega) (by omega))
    · have q : p1.toInt = 8 := e z
      rw [w5]
      exact p_X3_yOf hR.1.2 hr hR.1.1.2.1.1 (kx (by omega) (by omega) (fun _ _ => by rw [q]; exact rI_of 7) (by omega) (by omega))
    · have q : p1.toInt = 9 := e z
      rw [w6]
      exact p_X3_xOf hR.1.2 hr hR.1.1.2.2.1.1 (kx (by omega) (by omega) (fun _ _ => by rw [q]; exact rI_of 8) (by omega) (by omega))
    · have q : p1.toInt = 10 := e z
      rw [w6]
      exact p_X3_yOf hR.1.2 hr hR.1.1.2.2.1.1 (kx (by omega) (by omega) (fun _ _ => by rw [q]; exact rI_of 9) (by omega) (by omega))
    · have q : p1.toInt = 11 := e z
      exact kx (by omega) (by omega) (by omega) (fun _ => hR.2.2.1.2.1) (by omega)
  · rw [if_neg hp]
    refine p_need0 ⟨rfl, ?_⟩
    intro s hs
    obtain ⟨h0, h⟩ := start hR s hs
    refine p_X5_in ?_
    rw [d0, d12, if_neg hp]
    exact ⟨fun z => absurd rfl z, fun _ => leafR h h0 1 (by decide) (by decide)⟩
