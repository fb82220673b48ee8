/-! fuel -/
theorem okQ.fuel {ρ ρ' : Nat → Int32} (h : okQ ρ) {i : Nat} (hi : i < 3) (e : ∀ j, j ≠ 1091 + 3 * i → ρ' j = ρ j) (hf : 0 ≤ (ρ' (1091 + 3 * i)).toInt ∧ (ρ' (1091 + 3 * i)).toInt ≤ 999) : okQ ρ' := by
  have r : ∀ j, j ≠ 1091 + 3 * i → rI ρ' j = rI ρ j := fun j hj => congrArg _ (e j hj)
  have o := onS_to (e 0 (by omega)) (e 1 (by omega))
  obtain ⟨⟨a1, a2, a3, a4, a5, a6, a7, a8, a9, a10, a11, a12, a13⟩, ⟨b, b'⟩, ⟨c, c'⟩, d, g⟩ := h
  have hP : isP (rI ρ 6, rI ρ 7) := onS_isP ⟨a1, a2, a3, a4, a5, a6, a7, a8, a9, a10, a11, a12, a13⟩ b
  have hP2 : isP (rI ρ 8, rI ρ 9) := onS_isP ⟨a1, a2, a3, a4, a5, a6, a7, a8, a9, a10, a11, a12, a13⟩ c
  unfold isP at hP hP2
  simp only at hP hP2
  refine ⟨⟨by rw [r 0 (by omega)]; exact a1, by rw [r 1 (by omega)]; exact a2, by rw [r 2 (by omega)]; exact a3, by rw [r 3 (by omega)]; exact a4, by rw [r 4 (by omega)]; exact a5, by rw [r 5 (by omega)]; exact a6, by rw [r 10 (by omega)]; exact a7, by rw [r 11 (by omega)]; exact a8, fun k hk => by rw [e _ (by omega)]; exact a9 k hk, fun k hk => by rw [e _ (by omega)]; exact a10 k hk, fun k hk => by rw [e _ (by omega)]; exact a11 k hk, fun k hk => by rw [e _ (by omega)]; exact a12 k hk, fun k hk => by rw [e _ (by omega)]; exact a13 k hk⟩, ?_, ?_, fun k hk => ?_, fun p hp ho => ?_⟩
  · rw [r 6 (by omega), r 7 (by omega), o, e _ (by omega)]
    exact ⟨b, b'⟩
  · rw [r 8 (by omega), r 9 (by omega), o, e _ (by omega)]
    exact ⟨c, c'⟩
  · rw [r 3 (by omega)] at hk
    have eh : hAt ρ' k = hAt ρ k := by unfold hAt; rw [r _ (by omega), r _ (by omega)]
    obtain ⟨⟨d1, d2⟩, d3⟩ := d k hk
    have hP3 := onS_isP ⟨a1, a2, a3, a4, a5, a6, a7, a8, a9, a10, a11, a12, a13⟩ d1
    rw [eh, o, e _ (by omega)]
    refine ⟨⟨d1, d2⟩, ?_⟩
    by_cases z : k = i
    · rw [z]
      exact hf
    · have ef : fAt ρ' k = fAt ρ k := r _ (by omega)
      rw [ef]
      exact d3
  · rw [o] at ho
    unfold isP at hp
    rw [e _ (by omega)]
    exact g p hp ho
theorem ob_fuel : obl_fuel Rel := by
  intro σc σm v p1 p2 hR
  have hr := hR.1.1.1
  have hw := hR.1.2
  have hm := hr.2.2.2.1
  have ht := hr.2.2.2.2.1
  by_cases h1 : 0 ≤ p1.toInt ∧ p1.toInt < rI (σm 350) 3
  · obtain ⟨i, i3, hi, e0, e1, e2, e3⟩ := hix hr h1
    have ep : p1.toInt = i := by rw [e0, nI_toInt (by omega)]
    refine p_helpY hw h1 (p_X4_isIn ?_)
    rw [d0, hw.1.2.2.2.1]
    by_cases h2 : 0 ≤ p2.toInt ∧ p2.toInt ≤ (σm 350 4).toInt
    · rw [if_pos h2]
      obtain ⟨q1, q2⟩ := hw.2.2.2.1 i hi
      refine p_need1 (p_X4_read (W_L2 W_2) (by decide) (by omega) (by omega) (p_keepWorld hR.2.1.1 hR.2.1.2.1 fun s hs => p_X4_write (W_L2 W_2) (by decide) (by omega) (by omega) ?_))
      rw [ep, show ((i : Int)).toNat = i by omega, q2]
      intro a ha
      have e350 : a 350 = σm 350 := by rw [ha]; exact st2_row (by decide)
      obtain ⟨h0, hRa⟩ := start hR a ha
      refine p_X5_isHelper hRa.1.1.1 ?_
      rw [e350, if_pos h1]
      refine ⟨fun _ => p_bad0 h0 ⟨fun z => absurd rfl z, fun _ => ⟨by rw [ti_in]; decide, p_X5_in ?_⟩⟩, fun z => absurd z one0⟩
      rw [show (4 : Int32).toNatClampNeg = 4 by decide, e350, d0, if_pos h2]
      refine ⟨fun _ => p_bad0 h0 ⟨fun _ => p_remembers (by rw [← hRa.2.1.2.2.1]; exact hRa.2.1.2.1) hRa.2.2.2.2.2 fun t ht2 => ?_, fun z => absurd rfl z⟩, fun z => absurd z one0⟩
      have hK := hRa.keep hs ht2
      have t350 : t 350 = σm 350 := (ht2.2.2.1 350 (by decide) (by decide)).trans e350
      refine p_X5_fuelOf hK.1.1 i (by rw [t350]; exact hi) e3 ?_
      refine ⟨by rw [ti_in, e3]; omega, fun b hb => ⟨?_, fun _ => by rw [t350], ?_⟩⟩
      · rw [hb, st2_k (by decide), ht2.2.1 0 (by decide), h0]
      · rw [ti_c, e3, show (1091 + 3 * (i : Int)).toNat = 1091 + 3 * i by omega] at hb
        have be : ∀ j, j ≠ 1091 + 3 * i → b 350 j = t 350 j := fun j hj => by rw [hb, st2_j hj]
        have bf : b 350 (1091 + 3 * i) = p2 := by rw [hb, st2_same]
        have r : ∀ j, j ≠ 1091 + 3 * i → rI (b 350) j = rI (t 350) j := fun j hj => congrArg _ (be j hj)
        have o := onS_to (be 0 (by omega)) (be 1 (by omega))
        obtain ⟨u, hu, c8, c9, cf, ck, c0⟩ := hs
        unfold rI at ht
        refine hK.now (fun k hk => st2_row (by omega)) (fun k hk => by rw [hb]; exact st2_row hk) cf (fun j hj => by rw [be j (by omega)]; exact hK.2.2.2.2.2 350 (Or.inl rfl) j hj) ⟨hK.1.1.fuel i3 be (by rw [bf]; omega), ?_⟩
        have hrk := hK.1.1.1
        obtain ⟨⟨a0, a1, a2, a3, a4⟩, ⟨a5, a6⟩, ⟨a7, a8, a9⟩, g1, g2, g3, g4, g5, g6⟩ := hK.1.2
        have hn := hrk.2.2.2.2.2.2.1
        have hq := hrk.2.2.2.2.2.2.2.1
        have hm2 := hrk.2.2.2.1
        unfold Rw
        simp only [st2_row (show (2 : Nat) ≠ 2 + 2 by decide), st2_row (show (2 + 1 : Nat) ≠ 2 + 2 by decide), st2_row (show (2 + 3 : Nat) ≠ 2 + 2 by decide), st2_row (show (2 + 4 : Nat) ≠ 2 + 2 by decide), st2_row (show (2 + 5 : Nat) ≠ 2 + 2 by decide), st2_row (show (2 + 6 : Nat) ≠ 2 + 2 by decide), st2_row (show (2 + 7 : Nat) ≠ 2 + 2 by decide)]
        refine ⟨⟨by rw [be 0 (by omega)]; exact a0, by rw [be 1 (by omega)]; exact a1, by rw [be 2 (by omega)]; exact a2, by rw [be 4 (by omega)]; exact a3, by rw [be 5 (by omega)]; exact a4⟩, ⟨by rw [r 0 (by omega), r 6 (by omega), r 7 (by omega)]; exact a5, by rw [r 0 (by omega), r 8 (by omega), r 9 (by omega)]; exact a6⟩, ⟨by rw [be 3 (by omega)]; exact a7, by rw [be 10 (by omega)]; exact a8, by rw [be 11 (by omega)]; exact a9⟩, fun k hk => ?_, fun x y ho => ?_, fun k k1 k2 => ?_, fun k hk => ?_, fun k hk => ?_, fun k hk => ?_⟩
        · rw [r 3 (by omega)] at hk
          obtain ⟨g1a, g1b⟩ := g1 k hk
          rw [r 0 (by omega), r _ (by omega), r _ (by omega)]
          refine ⟨g1a, ?_⟩
          by_cases z : k = i
          · rw [z, bf, st2_same]
          · rw [st2_j z, be _ (by omega)]
            exact g1b
        · rw [o] at ho
          have hP := onS_isP hrk ho
          rw [r 0 (by omega), be _ (by omega), be _ (by omega)]
          exact g2 x y ho
        · rw [r 0 (by omega), r 1 (by omega)] at k1
          exact g3 k k1 k2
        · rw [r 10 (by omega)] at hk
          rw [be _ (by omega)]
          exact g4 k hk
        · rw [r 11 (by omega)] at hk
          rw [be _ (by omega)]
          exact g5 k hk
        · rw [be _ (by omega)]
          exact g6 k hk
    · rw [if_neg h2]
      refine p_need0 (Or.inr ⟨rfl, ?_⟩)
      intro s hs
      have e350 : s 350 = σm 350 := by rw [hs]; exact st2_row (by decide)
      obtain ⟨h0, h⟩ := start hR s hs
      refine p_X5_isHelper h.1.1.1 ?_
      rw [e350, if_pos h1]
      refine ⟨fun _ => p_bad0 h0 ⟨fun z => absurd rfl z, fun _ => ⟨by rw [ti_in]; decide, p_X5_in ?_⟩⟩, fun z => absurd z one0⟩
      rw [show (4 : Int32).toNatClampNeg = 4 by decide, e350, d0, if_neg h2]
      exact ⟨fun z => absurd rfl z, fun _ => leafR h h0 1 (by decide) (by decide)⟩
  · refine p_helpN hw h1 (Or.inl ⟨rfl, ?_⟩)
    intro s hs
    have e350 : s 350 = σm 350 := by rw [hs]; exact st2_row (by decide)
    obtain ⟨h0, h⟩ := start hR s hs
    refine p_X5_isHelper h.1.1.1 ?_
    rw [e350, if_neg h1]
    exact ⟨fun z => absurd rfl z, fun _ => leafL h h0 0 (by decide) (by decide)⟩
