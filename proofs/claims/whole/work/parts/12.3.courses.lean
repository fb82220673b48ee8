/-! the class looks ahead: courses -/
theorem p_lookAtCourses {σ : Sg} {ρ : Nat → Int32} {K : Sg → Prop} (hr : okR ρ) (hw : Rw σ 2 ρ) (h8 : (σ 19 8).toInt = rI ρ 0 * rI ρ 1)
    (h : ∀ s : Sg, (∀ (p : Int × Int) (c : Int32), onS ρ p.1 p.2 = true → isD c → s 22 ((rI ρ 0 * p.2 + p.1) * 9 + c.toInt).toNat = if c = 0 ∨ okS ρ p.1 p.2 c = true then clW (rI ρ 0) (crr ρ p c) else -1) → (∀ k, k ≠ 22 → s k = σ k) → K s) : m_X0_lookAtCourses σ K := by
  have hW := hr.1
  have hH := hr.2.1
  have d9 : (9 : Int32).toInt = 9 := by decide
  have d240 : (240 : Int32).toInt = 240 := by decide
  have hwh := wh_hi (W := rI ρ 0) (H := rI ρ 1) (by omega) hW.2 (by omega) hH.2
  obtain ⟨N, hN⟩ : ∃ N : Nat, rI ρ 0 * rI ρ 1 = N := ⟨(rI ρ 0 * rI ρ 1).toNat, by omega⟩
  have cellOf : ∀ i : Nat, i < N → onS ρ ((i : Int) % rI ρ 0) ((i : Int) / rI ρ 0) = true ∧ nI i = clW (rI ρ 0) ((i : Int) % rI ρ 0, (i : Int) / rI ρ 0) := fun i hi => by
    have e := Int.mul_ediv_add_emod (i : Int) (rI ρ 0)
    have a := Int.emod_nonneg (i : Int) (show rI ρ 0 ≠ 0 by omega)
    have b := Int.emod_lt_of_pos (i : Int) (show 0 < rI ρ 0 by omega)
    have c := Int.ediv_nonneg (show (0 : Int) ≤ i by omega) (show 0 ≤ rI ρ 0 by omega)
    refine ⟨onS_iff.mpr ⟨a, b, c, Int.ediv_lt_of_lt_mul (by omega) (by rw [Int.mul_comm]; omega)⟩, ?_⟩
    unfold clW
    simp only
    rw [e]
    rfl
  have val : ∀ (i c : Nat), i < N → c < 9 → ∀ p : Int × Int, p = ((i : Int) % rI ρ 0, (i : Int) / rI ρ 0) → True := fun _ _ _ _ _ _ => trivial
  have inner : ∀ (KO : Int32 → Sg → Prop) (i : Nat), i < N → ∀ k c : Nat, c + k = 9 → ∀ s : Sg, (∀ d, d ≠ 22 → s d = σ d) → (∀ t : Sg, (∀ d, d ≠ 22 → t d = σ d) → (∀ j, (j < 9 * i + c ∨ 9 * i + 9 ≤ j) → t 22 j = s 22 j) → (∀ x : Nat, c ≤ x → x < 9 → t 22 (9 * i + x) = if nI x = 0 ∨ okS ρ ((i : Int) % rI ρ 0) ((i : Int) / rI ρ 0) (nI x) = true then clW (rI ρ 0) (crr ρ ((i : Int) % rI ρ 0, (i : Int) / rI ρ 0) (nI x)) else -1) → KO (nI i + 1) t) → m_X0_lookAtCourses_l19 K KO (k + 1) (nI i) (nI c) s := by
    intro KO i hi k
    induction k with
    | zero =>
      intro c hc s h1 h2
      have : c = 9 := by omega
      subst this
      exact ⟨fun _ => h2 s h1 (fun _ _ => rfl) (fun x x1 x2 => absurd x2 (by omega)), fun z => absurd (by decide) z⟩
    | succ k ih =>
      intro c hc s h1 h2
      obtain ⟨ho, en⟩ := cellOf i hi
      have ei := nI_toInt (n := i) (by omega)
      have ec := nI_toInt (n := c) (by omega)
      have hs2 : Rw s 2 ρ := hw.to fun a ha j => by rw [h1 (2 + a) (by omega)]
      have hD : isD (nI c) := ⟨by rw [ec]; omega, by rw [ec]; omega⟩
      have em : (nI i * 9).toInt = 9 * i := by
        rw [ti_mul (by rw [ei, d9]; omega) (by rw [ei, d9]; omega), ei, d9]
        omega
      have ea : (nI i * 9 + nI c).toInt = 9 * i + c := by rw [ti_add (by rw [em, ec]; omega) (by rw [em, ec]; omega), em, ec]
      refine ⟨fun z => ?_, fun _ => ?_⟩
      · rw [ti_le, d9, ec] at z
        omega
      · have g : m_X3_helperBehind 2 (clW (rI ρ 0) ((i : Int) % rI ρ 0, (i : Int) / rI ρ 0)) (nI c) s (fun r34 s34 => (vp_in ((nI i * 9) + nI c) 2160 ∧ ∀ s37, s37 = st2 s34 22 ((nI i * 9) + nI c).toNatClampNeg r34 → m_X0_lookAtCourses_l19 K KO (k + 1) (nI i) (nI c + 1) s37)) := by
          refine p_X3_helperBehind (p := ((i : Int) % rI ρ 0, (i : Int) / rI ρ 0)) W_2 hs2 hr ho hD ⟨by rw [ti_in, ea]; omega, fun t ht => ?_⟩
          rw [ti_c, ea, show (9 * (i : Int) + (c : Int)).toNat = 9 * i + c by omega] at ht
          rw [← nI_succ c]
          refine ih (c + 1) (by omega) t (fun d hd => by rw [ht, st2_row hd]; exact h1 d hd) (fun u u1 u2 u3 => h2 u u1 (fun j hj => ?_) (fun x x1 x2 => ?_))
          · rw [u2 j (by omega), ht, st2_j (by omega)]
          · by_cases e : x = c
            · subst e
              rw [u2 _ (by omega), ht, st2_same]
            · exact u3 x (by omega) x2
        rw [← en] at g
        exact g
  have outer : ∀ k i : Nat, i + k = N → ∀ s : Sg, (∀ d, d ≠ 22 → s d = σ d) → (∀ n x : Nat, n < i → x < 9 → s 22 (9 * n + x) = if nI x = 0 ∨ okS ρ ((n : Int) % rI ρ 0) ((n : Int) / rI ρ 0) (nI x) = true then clW (rI ρ 0) (crr ρ ((n : Int) % rI ρ 0, (n : Int) / rI ρ 0) (nI x)) else -1) → m_X0_lookAtCourses_l2 K (k + 1) (nI i) s := by
    intro k
    induction k with
    | zero =>
      intro i hi s h1 h2
      have : i = N := by omega
      subst this
      refine ⟨fun _ => h s (fun p c ho hc => ?_) h1, fun z => ?_⟩
      · have oc := onS_cell hr ho
        obtain ⟨o1, o2, o3, o4⟩ := onS_iff.mp ho
        have e : c = nI c.toInt.toNat := of_ti (by unfold isD at hc; omega) (by unfold isD at hc; omega)
        have g := h2 (rI ρ 0 * p.2 + p.1).toNat c.toInt.toNat (by omega) (by unfold isD at hc; omega)
        rw [← e, show (((rI ρ 0 * p.2 + p.1).toNat : Nat) : Int) = rI ρ 0 * p.2 + p.1 by omega, cell_mod o1 o2, cell_div o1 o2] at g
        rw [show ((rI ρ 0 * p.2 + p.1) * 9 + c.toInt).toNat = 9 * (rI ρ 0 * p.2 + p.1).toNat + c.toInt.toNat by unfold isD at hc; omega]
        exact g
      · rw [h1 19 (by decide), ti_le, h8, nI_toInt (by omega)] at z
        exfalso
        omega
    | succ k ih =>
      intro i hi s h1 h2
      have ei := nI_toInt (n := i) (by omega)
      refine ⟨fun z => ?_, fun _ => ⟨fun y => ?_, fun _ => ⟨10, inner _ i (by omega) 9 0 (by decide) s h1 fun t t1 t2 t3 => ?_⟩⟩⟩
      · rw [h1 19 (by decide), ti_le, h8, ei] at z
        exfalso
        omega
      · rw [ti_le, d240, ei] at y
        exfalso
        omega
      · rw [← nI_succ]
        refine ih (i + 1) (by omega) t t1 (fun n x hn hx => ?_)
        by_cases e : n = i
        · subst e
          exact t3 x (Nat.zero_le _) hx
        · rw [t2 _ (by omega)]
          exact h2 n x (by omega) hx
  exact ⟨N + 1, outer N 0 (by omega) σ (fun _ _ => rfl) (fun n x hn _ => absurd hn (Nat.not_lt_zero _))⟩
