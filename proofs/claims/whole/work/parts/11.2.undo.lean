/-! undo, fuel -/
theorem ob_undo : obl_undo Rel := by
  intro σc σm hR
  obtain ⟨n1, n2, n3, n4⟩ := hR.2.1
  have d8 : (8 : Int32).toInt = 8 := by decide
  refine ⟨fun z a ha b hb => ?_, fun z => ?_⟩
  · have hn : 0 < (σc 0 9).toInt := by
      have : (σc 0 9).toInt ≠ 0 := fun e => z (by rw [ti_eq, e, d0])
      omega
    have ea9 : (σc 0 9 - 1).toInt = (σc 0 9).toInt - 1 := by rw [ti_sub (by rw [d1]; omega) (by rw [d1]; omega), d1]
    have a8 : a 0 8 = σc 0 8 := by rw [ha, st2_j (by decide)]
    have e1 : (σc 0 8 + 8).toInt = (σc 0 8).toInt + 8 := by rw [ti_add (by rw [d8]; omega) (by rw [d8]; omega), d8]
    have e2 : (σc 0 8 + 8 - 1).toInt = (σc 0 8).toInt + 7 := by
      rw [ti_sub (by rw [e1, d1]; omega) (by rw [e1, d1]; omega), e1, d1]
      omega
    have eb8 : (b 0 8).toInt = ((σc 0 8).toInt + 7) % 8 := by
      rw [hb, st2_same, a8, ti_rem (by rw [e2]; omega) (by decide), e2, d8]
    have eb9 : (b 0 9).toInt = (σc 0 9).toInt - 1 := by rw [hb, st2_j (by decide), ha, st2_same, ea9]
    have bk : ∀ k, k ≠ 0 → b k = σc k := fun k hk => by rw [hb, st2_row hk, ha, st2_row hk]
    have bj : ∀ j, j ≠ 8 → j ≠ 9 → b 0 j = σc 0 j := fun j h8 h9 => by rw [hb, st2_j h8, ha, st2_j h9]
    have hW : IsW (283 + 8 * (b 0 8).toInt.toNat) := Or.inr (Or.inr ⟨_, by rw [eb8]; omega, rfl⟩)
    refine p_keptAt (by rw [eb8]; omega) (p_become W_2 hW (by omega) fun u hu => ?_)
    intro w hw
    have w0 : ∀ j, w 0 j = b 0 j := fun j => by rw [hw, st2_k (by decide), hu.2.2 0 (by omega)]
    intro s hs
    have sm : ∀ k, k ≠ 347 → s k = σm k := fun k hk => by rw [hs]; exact st2_row hk
    have s12 : s 347 12 = σm 347 12 := by rw [hs]; exact st2_j (by decide)
    obtain ⟨h0, hRs⟩ := start hR s hs
    have en : (s 347 12).toInt = (σc 0 9).toInt := by rw [s12, ← n3]
    refine ⟨fun _ t ht => ?_, fun y => absurd (by rw [n3, ← s12]; exact y) z⟩
    have et : (t 347 12).toInt = (σc 0 9).toInt - 1 := by rw [ht, st2_same, ti_sub (by rw [en, d1]; omega) (by rw [en, d1]; omega), en, d1]
    have tm : ∀ k, k ≠ 347 → t k = σm k := fun k hk => by rw [ht, st2_row hk]; exact sm k hk
    have h6 := hR.2.2.2.2.2
    refine ⟨by rw [ti_in, et]; omega, ?_⟩
    rw [ti_c, et]
    refine p_copies (ln_p (by omega)) rfl (by omega) (fun j hj => by rw [tm _ (by omega)]; exact h6 _ (by omega) j hj) (fun j hj => by rw [tm _ (by omega)]; exact h6 350 (Or.inl rfl) j hj) fun v hv hvk => ?_
    have v350 : v 350 = σm (353 + ((σc 0 9).toInt - 1).toNat) := by rw [hv, tm _ (by omega)]
    have vk : ∀ k, k ≠ 350 → k ≠ 347 → v k = σm k := fun k h1 h2 => by rw [hvk k h1, tm k h2]
    have v347 : ∀ j, j ≠ 12 → j ≠ 0 → v 347 j = σm 347 j := fun j h1 h2 => by rw [hvk 347 (by decide), ht, st2_j h1, hs, st2_j h2]
    have v12 : (v 347 12).toInt = (σc 0 9).toInt - 1 := by rw [hvk 347 (by decide), et]
    have wk : ∀ k, k ≠ 0 → k ≠ 19 → (k < 2 ∨ 10 ≤ k) → w k = σc k := fun k h1 h2 h3 => by rw [hw, st2_row h2, hu.2.2 k (by omega), bk k h1]
    obtain ⟨q1, q2⟩ := n4 ((σc 0 9).toInt - 1).toNat (by omega)
    refine ⟨by rw [ti_eq, w0, eb9, v12], ⟨by rw [v350]; exact q1, ?_⟩, ⟨by rw [w0, eb8]; omega, by rw [w0, eb9]; omega, by rw [ti_eq, w0, eb9, v12], fun i hi => ?_⟩, ?_, ?_, Or.inl (by rw [hw, st2_same]), fun k hk j hj => ?_⟩
    · rw [v350]
      have q3 : Rw b (283 + 8 * (b 0 8).toInt.toNat) (σm (353 + ((σc 0 9).toInt - 1).toNat)) := by
        rw [eb8, show (((σc 0 8).toInt + 7) % 8).toNat = (((σc 0 8).toInt - (σc 0 9).toInt + ((((σc 0 9).toInt - 1).toNat : Nat) : Int)) % 8).toNat by omega]
        exact q2.to fun c hc j => by rw [bk _ (by omega)]
      exact (Rw.same q1.1 q3 hu).to fun c hc j => by rw [hw, st2_row (by omega)]
    · rw [w0, eb9] at hi
      rw [w0, w0, eb8, eb9, vk _ (by omega) (by omega)]
      obtain ⟨k1, k2⟩ := n4 i (by omega)
      refine ⟨k1, ?_⟩
      rw [show ((((σc 0 8).toInt + 7) % 8 - ((σc 0 9).toInt - 1) + (i : Int)) % 8).toNat = (((σc 0 8).toInt - (σc 0 9).toInt + (i : Int)) % 8).toNat by omega]
      exact k2.to fun c hc j => by rw [wk _ (by omega) (by omega) (by omega)]
    · obtain ⟨a1, a2, a3, a4⟩ := hR.2.2.1
      unfold R3
      rw [w0, w0, bj 6 (by decide) (by decide), bj 7 (by decide) (by decide), wk 1 (by decide) (by decide) (by omega), vk 349 (by decide) (by decide), v347 2 (by decide) (by decide), v347 5 (by decide) (by decide)]
      exact ⟨a1, a2, a3, a4⟩
    · unfold R4
      rw [w0, w0, w0, bj 10 (by decide) (by decide), bj 11 (by decide) (by decide), bj 12 (by decide) (by decide), vk 348 (by decide) (by decide)]
      exact hR.2.2.2.1
    · by_cases e : k = 350
      · rw [e, v350]
        exact h6 _ (by omega) j hj
      · rw [vk k e (by omega)]
        exact h6 k hk j hj
  · intro s hs
    have s12 : s 347 12 = σm 347 12 := by rw [hs]; exact st2_j (by decide)
    obtain ⟨h0, hRs⟩ := start hR s hs
    exact ⟨fun y => absurd (by rw [s12, ← n3]; exact z) y, fun _ => ⟨rfl, hRs⟩⟩
