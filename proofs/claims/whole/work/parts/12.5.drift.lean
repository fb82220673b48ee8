/-! drift -/
/-- what the reference writes beside its rows, its tape and its counts is of no account -/
theorem Rel.side {σc σm σm' : Sg} (h : Rel σc σm) (e : ∀ k, (k = 347 ∨ k = 348 ∨ k = 349 ∨ k = 350 ∨ k = 351 ∨ (353 ≤ k ∧ k < 361)) → σm' k = σm k) : Rel σc σm' :=
  ⟨h.1.m (e 350 (by omega)), h.2.1.m (by rw [e 347 (by omega)]) (fun i hi => e _ (by omega)), h.2.2.1.m (by rw [e 347 (by omega)]) (by rw [e 347 (by omega)]) (e 349 (by omega)), by
    unfold R4
    rw [e 348 (by omega)]
    exact h.2.2.2.1, h.2.2.2.2.1.m (e 350 (by omega)), h.2.2.2.2.2.m (fun k hk => e k (by omega))⟩
theorem ob_drift : obl_drift Rel := by
  intro σc σm v p1 p2 hR
  have d60 : (60 : Int32).toInt = 60 := by decide
  have hr := hR.1.1.1
  refine p_X4_isIn ?_
  rw [d0, d60]
  by_cases hp : (0 ≤ p1.toInt ∧ p1.toInt ≤ 60) ∧ 0 ≤ p2.toInt ∧ p2.toInt ≤ 3
  · obtain ⟨h1, h2⟩ := hp
    rw [if_pos h1]
    refine ⟨fun z => absurd z one0, fun _ => p_X4_isIn ?_⟩
    rw [d0, d3, if_pos h2]
    refine ⟨fun z => absurd z one0, fun _ => p_need1 (p_refresh hR fun s hRs s9 hF sk => ?_)⟩
    have em : (p2 - p2 / 2 * 2).toInt = p2.toInt % 2 := ti_rem (by omega) (by decide)
    have hz : (p2 - p2 / 2 * 2) = 0 ↔ p2.toInt % 2 = 0 := by rw [ti_eq, em, d0]
    have key : ∀ (q : Int × Int) (u : Int32), wat (σm 350) q → (2 ≤ p2.toInt → q = pAt (σm 350) p1.toInt.toNat) → (p2.toInt < 2 → q = dAt (σm 350) p1.toInt.toNat) → (p2.toInt % 2 = 0 → u = Int32.ofInt q.1) → (¬ p2.toInt % 2 = 0 → u = Int32.ofInt q.2) → K_drift Rel p1 p2 σm 0 s u.toInt64 := by
      intro q u hq q1 q2 u1 u2 a ha
      have e350 : a 350 = σm 350 := by rw [ha]; exact st2_row (by decide)
      obtain ⟨h0, h⟩ := start hRs a ha
      have hP : isP q := onS_P hr hq.1
      refine p_X5_in ?_
      rw [d0, d60, if_pos h1]
      refine ⟨fun z => absurd z one0, fun _ => p_X5_in ?_⟩
      rw [d0, d3, if_pos h2]
      refine ⟨fun _ => p_bad0 h0 ⟨fun _ => p_looksAhead h.1.1 fun t ht => ?_, fun z => absurd rfl z⟩, fun z => absurd z one0⟩
      rw [e350] at ht
      obtain ⟨t1, t2⟩ := ht
      have hT : Rel s t := h.side fun k hk => t2 k (by omega) (by omega)
      have t0 : t 347 0 = 0 := by rw [t2 347 (by decide) (by decide)]; exact h0
      have fin : ∀ k0 : Int32, k0 = cl20 q → m_X5_drift_j64 p1 p2 (fun bb s1 => m_X5_thrown s1 (fun th s2 => th = 0 ∧ ((0 : Int32) = 0 → u.toInt64 = bb.toInt64) ∧ Rel s s2)) k0 t := by
        intro k0 hk
        rw [hk]
        refine ⟨fun z => ⟨t0, fun _ => ?_, hT⟩, fun z => ⟨t0, fun _ => ?_, hT⟩⟩
        · rw [u2 (fun w => z (hz.mpr w)), ti_ext (cl20_y hP)]
        · rw [u1 (hz.mp z), ti_ext (cl20_x hP)]
      refine ⟨fun z => ⟨by rw [ti_in]; omega, fin _ ?_⟩, fun z => ⟨by rw [ti_in]; omega, fin _ ?_⟩⟩
      · rw [ti_le, d2] at z
        rw [ti_c, (t1 _ (by omega)).2, q1 z]
      · rw [ti_le, d2] at z
        rw [ti_c, (t1 _ (by omega)).1, q2 (by omega)]
    have leaf : ∀ q : Int × Int, wat (σm 350) q → (2 ≤ p2.toInt → q = pAt (σm 350) p1.toInt.toNat) → (p2.toInt < 2 → q = dAt (σm 350) p1.toInt.toNat) → m_X4_drift_j59 p1 p2 (fun r σ' => K_drift Rel p1 p2 σm 0 σ' r.toInt64) (fun E σ' => (E = "java/lang/IllegalArgumentException" ∧ K_drift Rel p1 p2 σm 1 σ' v)) (clW (rI (σm 350) 0) q) s := by
      intro q hq q1 q2
      exact ⟨fun z => p_X3_yOf hRs.1.2 hr hq.1 (key q _ hq q1 q2 (fun w => absurd (hz.mpr w) z) (fun _ => rfl)), fun z => p_X3_xOf hRs.1.2 hr hq.1 (key q _ hq q1 q2 (fun _ => rfl) (fun w => absurd (hz.mp z) w))⟩
    refine ⟨fun z => p_X4_read (n := 61) rfl (by decide) h1.1 (by omega) ?_, fun z => p_X4_read (n := 61) rfl (by decide) h1.1 (by omega) ?_⟩
    · rw [ti_le, d2] at z
      rw [hF.2.2.1 _ (by omega)]
      exact leaf _ (pAt_wat hR.1.1 _) (fun _ => rfl) (fun w => absurd w (by omega))
    · rw [ti_le, d2] at z
      rw [hF.2.1 _ (by omega)]
      exact leaf _ (dAt_wat hR.1.1 _) (fun w => absurd w z) (fun _ => rfl)
  · have bad : "java/lang/IllegalArgumentException" = "java/lang/IllegalArgumentException" ∧ K_drift Rel p1 p2 σm 1 (st2 σc 0 11 (σc 0 11 + 1)) v := by
      refine ⟨rfl, ?_⟩
      intro s hs
      obtain ⟨h0, h⟩ := start hR s hs
      refine p_X5_in ?_
      rw [d0, d60]
      by_cases h1 : 0 ≤ p1.toInt ∧ p1.toInt ≤ 60
      · rw [if_pos h1]
        refine ⟨fun z => absurd z one0, fun _ => p_X5_in ?_⟩
        rw [d0, d3, if_neg (fun q => hp ⟨h1, q⟩)]
        exact ⟨fun z => absurd rfl z, fun _ => leafR h h0 1 (by decide) (by decide)⟩
      · rw [if_neg h1]
        exact ⟨fun _ => leafR h h0 1 (by decide) (by decide), fun z => absurd rfl z⟩
    by_cases h1 : 0 ≤ p1.toInt ∧ p1.toInt ≤ 60
    · rw [if_pos h1]
      refine ⟨fun z => absurd z one0, fun _ => p_X4_isIn ?_⟩
      rw [d0, d3, if_neg (fun q => hp ⟨h1, q⟩)]
      exact ⟨fun _ => p_need0 bad, fun z => absurd rfl z⟩
    · rw [if_neg h1]
      exact ⟨fun _ => p_need0 bad, fun z => absurd rfl z⟩
