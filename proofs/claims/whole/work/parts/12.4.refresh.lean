/-! refresh -/
theorem p_refresh {σc σm : Sg} {K : Sg → Prop} (hR : Rel σc σm) (h : ∀ s, Rel s σm → s 19 9 = 1 → Fresh s (σm 350) → (∀ k, (k < 19 ∨ 282 ≤ k) → s k = σc k) → K s) : m_X0_refresh σc K := by
  have hq := hR.1.1
  have hr := hq.1
  have hw := hR.1.2
  have hW := hr.1
  have hH := hr.2.1
  have hwh := wh_hi (W := rI (σm 350) 0) (H := rI (σm 350) 1) (by omega) hW.2 (by omega) hH.2
  have d240 : (240 : Int32).toInt = 240 := by decide
  refine ⟨fun z a ha b hb => ⟨4, ?_⟩, fun z => ?_⟩
  · have a2 : ∀ j, a 2 j = σc 2 j := fun j => by rw [ha, st2_k (by decide)]
    have em : (a 2 0 * a 2 1).toInt = rI (σm 350) 0 * rI (σm 350) 1 := by
      rw [a2, a2, hw.1.1, hw.1.2.1]
      exact ti_mul (by show -2147483648 ≤ rI (σm 350) 0 * rI (σm 350) 1; omega) (by show rI (σm 350) 0 * rI (σm 350) 1 < 2147483648; omega)
    rw [if_neg (by rw [ti_lt, d240, em]; omega)] at hb
    have b8 : (b 19 8).toInt = rI (σm 350) 0 * rI (σm 350) 1 := by rw [hb, st2_same, em]
    have b9 : b 19 9 = 1 := by rw [hb, st2_j (by decide), ha, st2_same]
    have bk : ∀ k, k ≠ 19 → b k = σc k := fun k hk => by rw [hb, st2_row hk, ha, st2_row hk]
    have key : ∀ k i : Nat, i + k = 3 → ∀ s : Sg, (∀ d, d ≠ 90 → d ≠ 154 → d ≠ 218 → s d = b d) → (∀ x, x < i → s (90 + 64 * x) 2 = 0 ∧ s (90 + 64 * x) 3 = 0) → m_X0_refresh_l40 K (k + 1) (nI i) s := by
      intro k
      induction k with
      | zero =>
        intro i hi s h1 h2
        have : i = 3 := by omega
        subst this
        refine ⟨fun _ => ?_, fun y => absurd (by decide) y⟩
        have hs2 : Rw s 2 (σm 350) := hw.to fun c hc j => by rw [h1 (2 + c) (by omega) (by omega) (by omega), bk (2 + c) (by omega)]
        refine p_lookAtPaths hq hs2 fun t tp tk => ?_
        have ht2 : Rw t 2 (σm 350) := hs2.to fun c hc j => by rw [tk (2 + c) (by omega) (by omega)]
        refine p_lookAtCourses hr ht2 (by rw [tk 19 (by decide) (by decide), h1 19 (by decide) (by decide) (by decide)]; exact b8) fun u uc uk => ?_
        have hu2 : Rw u 2 (σm 350) := ht2.to fun c hc j => by rw [uk (2 + c) (by omega)]
        refine p_lookAtPrices hr hu2 fun v vp vk => ?_
        have vb : ∀ k, k ≠ 20 → k ≠ 21 → k ≠ 22 → k ≠ 23 → v k = s k := fun k k0 k1 k2 k3 => by rw [vk k k3, uk k k2, tk k k0 k1]
        have vc : ∀ k, (k < 19 ∨ 282 ≤ k) → v k = σc k := fun k hk => by rw [vb k (by omega) (by omega) (by omega) (by omega), h1 k (by omega) (by omega) (by omega), bk k (by omega)]
        have v19 : v 19 = b 19 := by rw [vb 19 (by decide) (by decide) (by decide) (by decide), h1 19 (by decide) (by decide) (by decide)]
        have vs : ∀ x, x < 3 → v (90 + 64 * x) 2 = 0 ∧ v (90 + 64 * x) 3 = 0 := fun x hx => by
          rw [vb (90 + 64 * x) (by omega) (by omega) (by omega) (by omega)]
          exact h2 x hx
        have hF : Fresh v (σm 350) := by
          refine ⟨by rw [v19]; exact b8, fun n hn => ?_, fun n hn => ?_, fun p c hp hc => ?_, fun n c hn hc => vp n c hn hc, fun x hx => ?_, fun x hx _ => ⟨fun n hn => ?_, fun y => ?_⟩⟩
          · rw [vk 20 (by decide), uk 20 (by decide)]
            exact (tp n hn).1
          · rw [vk 21 (by decide), uk 21 (by decide)]
            exact (tp n hn).2
          · rw [vk 22 (by decide), uc p c hp hc]
            exact ⟨fun y => if_pos y.2, fun y => if_neg fun q => y ⟨hc, q⟩⟩
          · rw [(vs x hx).1, (vs x hx).2]
            exact ⟨by decide, by decide, Or.inl rfl⟩
          · rw [(vs x hx).1, d0] at hn
            omega
          · rw [(vs x hx).2] at y
            exact absurd y (by decide)
        have hRv : Rel v σm := by
          obtain ⟨a1, a2, a3, a4, -, a6⟩ := hR
          refine ⟨a1.c fun k h1 h2 => vc k (by omega), a2.c (by rw [vc 0 (by omega)]) (by rw [vc 0 (by omega)]) (fun k h1 h2 => vc k (by omega)), ?_, ?_, Or.inr ⟨by rw [v19]; exact b9, hF⟩, a6⟩
          · unfold R3
            rw [vc 0 (by omega), vc 1 (by omega)]
            exact a3
          · unfold R4
            rw [vc 0 (by omega)]
            exact a4
        exact h v hRv (by rw [v19]; exact b9) hF vc
      | succ k ih =>
        intro i hi s h1 h2
        have ei := nI_toInt (n := i) (by omega)
        refine ⟨fun y => ?_, fun _ => ⟨nI_in (by omega) (by decide), ?_⟩⟩
        · rw [ti_le, ti_cn (by decide), ei] at y
          omega
        · rw [nI_clamp (by omega), ← nI_succ]
          intro t ht u hu
          refine ih (i + 1) (by omega) u (fun d e1 e2 e3 => ?_) (fun x hx => ?_)
          · rw [hu, st2_row (by omega), ht, st2_row (by omega)]
            exact h1 d e1 e2 e3
          · by_cases e : x = i
            · subst e
              exact ⟨by rw [hu, st2_j (by decide), ht, st2_same], by rw [hu, st2_same]⟩
            · rw [hu, st2_k (by omega), st2_k (by omega), ht, st2_k (by omega), st2_k (by omega)]
              exact h2 x (by omega)
    exact key 3 0 (by decide) b (fun _ _ _ _ => rfl) (fun x hx => absurd hx (Nat.not_lt_zero _))
  · rcases hR.2.2.2.2.1 with y | ⟨y, hF⟩
    · exact absurd y z
    · exact h σc hR y hF (fun _ _ => rfl)
