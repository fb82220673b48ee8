/-! the class looks ahead: paths -/
theorem p_lookAtPaths {σ : Sg} {ρ : Nat → Int32} {K : Sg → Prop} (hq : okQ ρ) (hw : Rw σ 2 ρ) (h : ∀ s : Sg, (∀ n, n ≤ 60 → s 20 n = clW (rI ρ 0) (dAt ρ n) ∧ s 21 n = clW (rI ρ 0) (pAt ρ n)) → (∀ k, k ≠ 20 → k ≠ 21 → s k = σ k) → K s) : m_X0_lookAtPaths σ K := by
  have hr := hq.1
  have hh := hr.2.2.1
  unfold rI at hh
  have d60 : (60 : Int32).toInt = 60 := by decide
  have key : ∀ k i : Nat, i + k = 61 → ∀ s : Sg, (∀ n, n < i → s 20 n = clW (rI ρ 0) (dAt ρ n) ∧ s 21 n = clW (rI ρ 0) (pAt ρ n)) → (∀ c, c ≠ 20 → c ≠ 21 → s c = σ c) → m_X0_lookAtPaths_l18 K (k + 1) (clW (rI ρ 0) (dAt ρ i)) (clW (rI ρ 0) (pAt ρ i)) (nI i) s := by
    intro k
    induction k with
    | zero =>
      intro i hi s h1 h2
      have : i = 61 := by omega
      subst this
      exact ⟨fun _ => h s (fun n hn => h1 n (by omega)) h2, fun z => absurd (by decide) z⟩
    | succ k ih =>
      intro i hi s h1 h2
      have ei := nI_toInt (n := i) (by omega)
      have i61 : vp_in (nI i) 61 := nI_in (by omega) (by decide)
      refine ⟨fun z => ?_, fun _ => ⟨i61, fun a ha => ⟨i61, fun b hb => ?_⟩⟩⟩
      · rw [ti_lt, d60, ei] at z
        omega
      · rw [nI_clamp (by omega)] at ha hb
        have bk : ∀ c, c ≠ 20 → c ≠ 21 → b c = σ c := fun c c1 c2 => by rw [hb, st2_row c2, ha, st2_row c1]; exact h2 c c1 c2
        have hb2 : Rw b 2 ρ := hw.to fun c hc j => by rw [bk (2 + c) (by omega) (by omega)]
        have et : (ρ 2 + nI i).toInt = rI ρ 2 + i := by
          rw [ti_add (by rw [ei]; omega) (by rw [ei]; omega), ei]
          rfl
        have et0 : 0 ≤ (ρ 2 + nI i).toInt ∧ (ρ 2 + nI i).toInt ≤ 560 := by rw [et]; unfold rI; omega
        rw [hb2.1.2.2.1]
        refine p_X3_drifterBehind W_2 hb2 hr (dAt_wat hq i).1 et0.1 et0.2 ?_
        show m_X3_portBehind 2 _ (b 2 2 + nI i) b _
        rw [hb2.1.2.2.1]
        refine p_X3_portBehind W_2 hb2 hr (pAt_wat hq i).1 et0.1 ?_
        rw [et, ← nI_succ]
        refine ih (i + 1) (by omega) b (fun n hn => ?_) bk
        by_cases e : n = i
        · subst e
          exact ⟨by rw [hb, st2_k (by decide), ha, st2_same], by rw [hb, st2_same]⟩
        · obtain ⟨f1, f2⟩ := h1 n (by omega)
          exact ⟨by rw [hb, st2_k (by decide), ha, st2_j e]; exact f1, by rw [hb, st2_j e, ha, st2_k (by decide)]; exact f2⟩
  intro a ha b hb
  rw [ha, hb, hw.2.1.1, hw.2.1.2]
  exact ⟨62, key 61 0 (by decide) σ (fun n hn => absurd hn (Nat.not_lt_zero _)) (fun _ _ _ => rfl)⟩
theorem p_lookAtPrices {σ : Sg} {ρ : Nat → Int32} {K : Sg → Prop} (hr : okR ρ) (hw : Rw σ 2 ρ) (h : ∀ s : Sg, (∀ (n : Nat) (c : Int32), n < 60 → isD c → (s 23 (9 * n + c.toInt.toNat)).toInt = cst c (wnd ρ (rI ρ 2 + n))) → (∀ k, k ≠ 23 → s k = σ k) → K s) : m_X0_lookAtPrices σ K := by
  have hh := hr.2.2.1
  unfold rI at hh
  have d60 : (60 : Int32).toInt = 60 := by decide
  have d9 : (9 : Int32).toInt = 9 := by decide
  have inner : ∀ (KO : Int32 → Sg → Prop) (i : Nat), i < 60 → ∀ k c : Nat, c + k = 9 → ∀ s : Sg, (∀ d, d ≠ 23 → s d = σ d) → (∀ t : Sg, (∀ d, d ≠ 23 → t d = σ d) → (∀ j, (j < 9 * i + c ∨ 9 * i + 9 ≤ j) → t 23 j = s 23 j) → (∀ x : Nat, c ≤ x → x < 9 → (t 23 (9 * i + x)).toInt = cst (nI x) (wnd ρ (rI ρ 2 + i))) → KO (nI i + 1) t) → m_X0_lookAtPrices_l10 K KO (k + 1) (nI i) (nI c) s := by
    intro KO i hi k
    induction k with
    | zero =>
      intro c hc s h1 h2
      have : c = 9 := by omega
      subst this
      exact ⟨fun _ => h2 s h1 (fun _ _ => rfl) (fun x x1 x2 => absurd x2 (by omega)), fun z => absurd (by decide) z⟩
    | succ k ih =>
      intro c hc s h1 h2
      have ei := nI_toInt (n := i) (by omega)
      have ec := nI_toInt (n := c) (by omega)
      have hs2 : Rw s 2 ρ := hw.to fun a ha j => by rw [h1 (2 + a) (by omega)]
      have hD : isD (nI c) := ⟨by rw [ec]; omega, by rw [ec]; omega⟩
      have et : (ρ 2 + nI i).toInt = rI ρ 2 + i := by
        rw [ti_add (by rw [ei]; omega) (by rw [ei]; omega), ei]
        rfl
      have et0 : 0 ≤ (ρ 2 + nI i).toInt ∧ (ρ 2 + nI i).toInt ≤ 560 := by rw [et]; unfold rI; omega
      have em : (nI i * 9).toInt = 9 * i := by
        rw [ti_mul (by rw [ei, d9]; omega) (by rw [ei, d9]; omega), ei, d9]
        omega
      have ea : (nI i * 9 + nI c).toInt = 9 * i + c := by rw [ti_add (by rw [em, ec]; omega) (by rw [em, ec]; omega), em, ec]
      refine ⟨fun z => ?_, fun _ => ?_⟩
      · rw [ti_le, d9, ec] at z
        omega
      · rw [hs2.1.2.2.1]
        refine p_X3_priceOf W_2 hs2 hr hD et0.1 et0.2 ⟨by rw [ti_in, ea]; omega, fun t ht => ?_⟩
        rw [ti_c, ea, show (9 * (i : Int) + (c : Int)).toNat = 9 * i + c by omega, et] at ht
        rw [← nI_succ c]
        refine ih (c + 1) (by omega) t (fun d hd => by rw [ht, st2_row hd]; exact h1 d hd) (fun u u1 u2 u3 => h2 u u1 (fun j hj => ?_) (fun x x1 x2 => ?_))
        · rw [u2 j (by omega), ht, st2_j (by omega)]
        · by_cases e : x = c
          · subst e
            have b := cst_b hD (wnd_D hr (show 0 ≤ rI ρ 2 + (i : Int) by unfold rI; omega) (by unfold rI; omega))
            rw [u2 _ (by omega), ht, st2_same, ti_of (by omega) (by omega)]
          · exact u3 x (by omega) x2
  have outer : ∀ k i : Nat, i + k = 60 → ∀ s : Sg, (∀ d, d ≠ 23 → s d = σ d) → (∀ n x : Nat, n < i → x < 9 → (s 23 (9 * n + x)).toInt = cst (nI x) (wnd ρ (rI ρ 2 + n))) → m_X0_lookAtPrices_l2 K (k + 1) (nI i) s := by
    intro k
    induction k with
    | zero =>
      intro i hi s h1 h2
      have : i = 60 := by omega
      subst this
      refine ⟨fun _ => h s (fun n c hn hc => ?_) h1, fun z => absurd (by decide) z⟩
      have e : c = nI c.toInt.toNat := of_ti (by unfold isD at hc; omega) (by unfold isD at hc; omega)
      have := h2 n c.toInt.toNat hn (by unfold isD at hc; omega)
      rw [← e] at this
      exact this
    | succ k ih =>
      intro i hi s h1 h2
      have ei := nI_toInt (n := i) (by omega)
      refine ⟨fun z => ?_, fun _ => ⟨10, inner _ i (by omega) 9 0 (by decide) s h1 fun t t1 t2 t3 => ?_⟩⟩
      · rw [ti_le, d60, ei] at z
        omega
      · rw [← nI_succ]
        refine ih (i + 1) (by omega) t t1 (fun n x hn hx => ?_)
        by_cases e : n = i
        · subst e
          exact t3 x (Nat.zero_le _) hx
        · rw [t2 _ (by omega)]
          exact h2 n x (by omega) hx
  exact ⟨61, outer 60 0 (by decide) σ (fun _ _ => rfl) (fun n x hn _ => absurd hn (Nat.not_lt_zero _))⟩
