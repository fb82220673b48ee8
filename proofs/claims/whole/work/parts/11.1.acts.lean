/-! wind, fuel, undo -/
theorem Rel.now {s t s' t' : Sg} (h : Rel s t) (c : ∀ k, (k < 2 ∨ 10 ≤ k) → s' k = s k) (m : ∀ k, k ≠ 350 → t' k = t k) (f : s 19 9 = 0) (z : ∀ j, 1098 ≤ j → t' 350 j = 0) (r1 : R1 s' t') : Rel s' t' := by
  obtain ⟨-, ⟨n1, n2, n3, n4⟩, r3, r4, -, r6⟩ := h
  have e0 := c 0 (by omega)
  refine ⟨r1, ?_, ?_, ?_, Or.inl (by rw [c 19 (by omega)]; exact f), fun k hk j hj => ?_⟩
  · unfold R2
    rw [e0, m 347 (by decide)]
    refine ⟨n1, n2, n3, fun i hi => ?_⟩
    rw [m (353 + i) (by omega)]
    exact ⟨(n4 i hi).1, (n4 i hi).2.to fun a ha j => by rw [c _ (by omega)]⟩
  · unfold R3
    rw [e0, c 1 (by omega), m 347 (by decide), m 349 (by decide)]
    exact r3
  · unfold R4
    rw [e0, m 348 (by decide)]
    exact r4
  · by_cases e : k = 350
    · rw [e]
      exact z j hj
    · rw [m k e]
      exact r6 k hk j hj
theorem onS_to {ρ ρ' : Nat → Int32} (e0 : ρ' 0 = ρ 0) (e1 : ρ' 1 = ρ 1) (x y : Int) : onS ρ' x y = onS ρ x y := by
  unfold onS rI
  rw [e0, e1]
theorem okQ.hand {ρ ρ' : Nat → Int32} (h : okQ ρ) (e : ∀ j, (j < 48 ∨ 609 ≤ j) → ρ' j = ρ j) (hd : ∀ k, k < 561 → ρ' (48 + k) = -1 ∨ isD (ρ' (48 + k))) : okQ ρ' := by
  have r : ∀ j, (j < 48 ∨ 609 ≤ j) → rI ρ' j = rI ρ j := fun j hj => congrArg _ (e j hj)
  have o := onS_to (e 0 (by omega)) (e 1 (by omega))
  obtain ⟨⟨a1, a2, a3, a4, a5, a6, a7, a8, a9, a10, -, a12, a13⟩, b, c, d, g⟩ := h
  refine ⟨⟨by rw [r 0 (by omega)]; exact a1, by rw [r 1 (by omega)]; exact a2, by rw [r 2 (by omega)]; exact a3, by rw [r 3 (by omega)]; exact a4, by rw [r 4 (by omega)]; exact a5, by rw [r 5 (by omega)]; exact a6, by rw [r 10 (by omega)]; exact a7, by rw [r 11 (by omega)]; exact a8, fun k hk => by rw [e _ (by omega)]; exact a9 k hk, fun k hk => by rw [e _ (by omega)]; exact a10 k hk, hd, fun k hk => by rw [e _ (by omega)]; exact a12 k hk, fun k hk => by rw [e _ (by omega)]; exact a13 k hk⟩, ?_, ?_, fun i hi => ?_, fun p hp ho => ?_⟩
  · rw [r 6 (by omega), r 7 (by omega), o, e _ (by omega)]
    exact b
  · rw [r 8 (by omega), r 9 (by omega), o, e _ (by omega)]
    exact c
  · rw [r 3 (by omega)] at hi
    have eh : hAt ρ' i = hAt ρ i := by unfold hAt; rw [r _ (by omega), r _ (by omega)]
    have ef : fAt ρ' i = fAt ρ i := r _ (by omega)
    rw [eh, ef, o, e _ (by omega)]
    exact d i hi
  · rw [o] at ho
    rw [e _ (by omega)]
    exact g p hp ho
theorem p_X4_write {a n : Nat} {v u : Int32} {σ : Sg} {K : Sg → Prop} (hl : ln a = n) (hn : n < 2147483648) (h0 : 0 ≤ v.toInt) (h1 : v.toInt < n) (h : K (st2 σ a v.toInt.toNat u)) : m_X4_write a v u σ K := by
  unfold m_X4_write
  rw [hl]
  refine ⟨fun z => ?_, fun _ => ⟨fun z => ?_, fun _ => ⟨by rw [ti_in]; omega, fun s hs => by rw [hs]; exact h⟩⟩⟩
  · rw [ti_lt, d0] at z
    omega
  · rw [ti_le, ti_cn hn] at z
    omega
theorem ob_wind : obl_wind Rel := by
  intro σc σm v p1 p2 hR
  have hr := hR.1.1.1
  have hw := hR.1.2
  have hh := hr.2.2.1
  have d560 : (560 : Int32).toInt = 560 := by decide
  have d8 : (8 : Int32).toInt = 8 := by decide
  have dh : (48 : Int32).toInt = 48 := by decide
  refine p_X4_isIn ?_
  rw [hw.1.2.2.1, d560]
  by_cases hp : ((σm 350 2).toInt ≤ p1.toInt ∧ p1.toInt ≤ 560) ∧ 0 ≤ p2.toInt ∧ p2.toInt ≤ 8
  · obtain ⟨h1, h2⟩ := hp
    unfold rI at hh
    rw [if_pos h1]
    refine ⟨fun z => absurd z one0, fun _ => p_X4_isIn ?_⟩
    rw [d0, d8, if_pos h2]
    refine ⟨fun z => absurd z one0, fun _ => p_need1 (p_X3_windOf W_2 hw hr (by omega) h1.2 (p_keepWorld hR.2.1.1 hR.2.1.2.1 fun s hs => p_X4_write (W_L7 W_2) (by decide) (by omega) (by omega) ?_))⟩
    intro a ha
    have e350 : a 350 = σm 350 := by rw [ha]; exact st2_row (by decide)
    obtain ⟨h0, hRa⟩ := start hR a ha
    refine ⟨by rw [ti_in]; decide, p_X5_in ?_⟩
    rw [show (2 : Int32).toNatClampNeg = 2 by decide, e350, d560, if_pos h1]
    refine ⟨fun z => absurd z one0, fun _ => p_X5_in ?_⟩
    rw [d0, d8, if_pos h2]
    refine ⟨fun _ => p_bad0 h0 ⟨fun _ => p_remembers (by rw [← hRa.2.1.2.2.1]; exact hRa.2.1.2.1) hRa.2.2.2.2.2 fun t ht => ?_, fun z => absurd rfl z⟩, fun z => absurd z one0⟩
    have hK := hRa.keep hs ht
    have t350 : t 350 = σm 350 := (ht.2.2.1 350 (by decide) (by decide)).trans e350
    refine p_X5_windOf rfl hK.1.1.1 (by omega) h1.2 ?_
    have e1 : (48 + p1).toInt = 48 + p1.toInt := by rw [ti_add (by rw [dh]; omega) (by rw [dh]; omega), dh]
    refine ⟨by rw [ti_in, e1]; omega, fun b hb => ⟨?_, fun _ => by rw [t350], ?_⟩⟩
    · rw [hb, st2_k (by decide), ht.2.1 0 (by decide), h0]
    · rw [ti_c, e1, show (48 + p1.toInt).toNat = 48 + p1.toInt.toNat by omega] at hb
      have b350 : ∀ j, b 350 j = if j = 48 + p1.toInt.toNat then p2 else t 350 j := fun j => by
        rw [hb]
        by_cases e : j = 48 + p1.toInt.toNat
        · rw [if_pos e, e, st2_same]
        · rw [if_neg e, st2_j e]
      have be : ∀ j, (j < 48 ∨ 609 ≤ j) → b 350 j = t 350 j := fun j hj => by rw [b350, if_neg (by omega)]
      obtain ⟨u, hu, c8, c9, cf, ck, c0⟩ := hs
      refine hK.now (fun k hk => st2_row (by omega)) (fun k hk => by rw [hb]; exact st2_row hk) cf (fun j hj => by rw [be j (by omega)]; exact hK.2.2.2.2.2 350 (Or.inl rfl) j hj) ⟨hK.1.1.hand be (fun k hk => ?_), ?_⟩
      · rw [b350]
        by_cases e : 48 + k = 48 + p1.toInt.toNat
        · rw [if_pos e]
          exact Or.inr h2
        · rw [if_neg e]
          exact hK.1.1.1.2.2.2.2.2.2.2.2.2.2.1 k hk
      · have r : ∀ j, (j < 48 ∨ 609 ≤ j) → rI (b 350) j = rI (t 350) j := fun j hj => congrArg _ (be j hj)
        have o := onS_to (be 0 (by omega)) (be 1 (by omega))
        have hm := hK.1.1.1.2.2.2.1
        have hn := hK.1.1.1.2.2.2.2.2.2.1
        have hq := hK.1.1.1.2.2.2.2.2.2.2.1
        obtain ⟨⟨a0, a1, a2, a3, a4⟩, ⟨a5, a6⟩, ⟨a7, a8, a9⟩, g1, g2, g3, g4, g5, g6⟩ := hK.1.2
        unfold Rw
        simp only [st2_row (show (2 : Nat) ≠ 9 by decide), st2_row (show (2 + 1 : Nat) ≠ 9 by decide), st2_row (show (2 + 2 : Nat) ≠ 9 by decide), st2_row (show (2 + 3 : Nat) ≠ 9 by decide), st2_row (show (2 + 4 : Nat) ≠ 9 by decide), st2_row (show (2 + 5 : Nat) ≠ 9 by decide), st2_row (show (2 + 6 : Nat) ≠ 9 by decide)]
        refine ⟨⟨by rw [be 0 (by omega)]; exact a0, by rw [be 1 (by omega)]; exact a1, by rw [be 2 (by omega)]; exact a2, by rw [be 4 (by omega)]; exact a3, by rw [be 5 (by omega)]; exact a4⟩, ⟨by rw [r 0 (by omega), r 6 (by omega), r 7 (by omega)]; exact a5, by rw [r 0 (by omega), r 8 (by omega), r 9 (by omega)]; exact a6⟩, ⟨by rw [be 3 (by omega)]; exact a7, by rw [be 10 (by omega)]; exact a8, by rw [be 11 (by omega)]; exact a9⟩, fun i hi => ?_, fun x y ho => ?_, fun k k1 k2 => ?_, fun k hk => ?_, fun k hk => ?_, fun k hk => ?_⟩
        · rw [r 3 (by omega)] at hi
          rw [r 0 (by omega), r _ (by omega), r _ (by omega), be _ (by omega)]
          exact g1 i hi
        · rw [o] at ho
          rw [r 0 (by omega), be _ (by omega), be _ (by omega)]
          exact g2 x y ho
        · rw [r 0 (by omega), r 1 (by omega)] at k1
          exact g3 k k1 k2
        · rw [r 10 (by omega)] at hk
          rw [be _ (by omega)]
          exact g4 k hk
        · rw [r 11 (by omega)] at hk
          rw [be _ (by omega)]
          exact g5 k hk
        · rw [b350]
          by_cases e : k = p1.toInt.toNat
          · rw [if_pos (by omega), e]
            exact st2_same _ _ _ _
          · rw [if_neg (by omega), st2_j e]
            exact g6 k hk
  · have bad : "java/lang/IllegalArgumentException" = "java/lang/IllegalArgumentException" ∧ K_wind Rel p1 p2 σm 1 (st2 σc 0 11 (σc 0 11 + 1)) v := by
      refine ⟨rfl, ?_⟩
      intro s hs
      have e350 : s 350 = σm 350 := by rw [hs]; exact st2_row (by decide)
      obtain ⟨h0, h⟩ := start hR s hs
      refine ⟨by rw [ti_in]; decide, p_X5_in ?_⟩
      rw [show (2 : Int32).toNatClampNeg = 2 by decide, e350, d560]
      by_cases h1 : (σm 350 2).toInt ≤ p1.toInt ∧ p1.toInt ≤ 560
      · rw [if_pos h1]
        refine ⟨fun z => absurd z one0, fun _ => p_X5_in ?_⟩
        rw [d0, d8, if_neg (fun q => hp ⟨h1, q⟩)]
        exact ⟨fun z => absurd rfl z, fun _ => leafR h h0 1 (by decide) (by decide)⟩
      · rw [if_neg h1]
        exact ⟨fun _ => leafR h h0 1 (by decide) (by decide), fun z => absurd rfl z⟩
    by_cases h1 : (σm 350 2).toInt ≤ p1.toInt ∧ p1.toInt ≤ 560
    · rw [if_pos h1]
      refine ⟨fun z => absurd z one0, fun _ => p_X4_isIn ?_⟩
      rw [d0, d8, if_neg (fun q => hp ⟨h1, q⟩)]
      exact ⟨fun _ => p_need0 bad, fun z => absurd rfl z⟩
    · rw [if_neg h1]
      exact ⟨fun _ => p_need0 bad, fun z => absurd rfl z⟩
