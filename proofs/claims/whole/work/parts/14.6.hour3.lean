/-! hour: the obligation -/
theorem keptC_rw {s σ : Sg} {ρ : Nat → Int32} (h : keptC s σ) (hw : Rw σ 2 ρ) : Rw s 2 ρ := by
  obtain ⟨u, hu, c8, c9, cf, ck, c0⟩ := h
  exact hw.to fun i hi j => by rw [ck (2 + i) (by omega) (by omega), hu.2.2 (2 + i) (by omega)]
theorem ob_hour : obl_hour Rel := by
  intro σc σm v p1 p2 p3 hR
  have hq := hR.1.1
  have hr := hq.1
  have hw := hR.1.2
  have hh := hr.2.2.1
  have d500 : (500 : Int32).toInt = 500 := by decide
  have e2c : (σc 2 2).toInt = rI (σm 350) 2 := congrArg _ hw.1.2.2.1
  -- a number that is none such
  have bad1 : ¬ (crB (σm 350) 0 p1 = true ∧ crB (σm 350) 1 p2 = true ∧ crB (σm 350) 2 p3 = true) → K_hour Rel p1 p2 p3 σm 1 (st2 σc 0 11 (σc 0 11 + 1)) v := by
    intro hno s hs
    have e350 : s 350 = σm 350 := by rw [hs]; exact st2_row (by decide)
    obtain ⟨h0, h⟩ := start hR s hs
    have fin : m_X5_hour_j38 p1 p2 p3 (fun bb s1 => m_X5_thrown s1 (fun th s2 => th = 1 ∧ ((1 : Int32) = 0 → v = bb.toInt64) ∧ Rel (st2 σc 0 11 (σc 0 11 + 1)) s2)) 1 s := leafL h h0 1 (by decide) (by decide)
    refine p_X5_isCourse (h := 0) h.1.1.1 (by decide) ?_
    rw [e350]
    by_cases a1 : crB (σm 350) 0 p1 = true
    · rw [if_pos a1]
      refine ⟨fun z => absurd z one0, fun _ => p_X5_isCourse (h := 1) h.1.1.1 (by decide) ?_⟩
      rw [e350]
      by_cases a2 : crB (σm 350) 1 p2 = true
      · rw [if_pos a2]
        refine ⟨fun z => absurd z one0, fun _ => p_X5_isCourse (h := 2) h.1.1.1 (by decide) ?_⟩
        rw [e350, if_neg (fun z => hno ⟨a1, a2, z⟩)]
        exact ⟨fun z => absurd rfl z, fun _ => fin⟩
      · rw [if_neg a2]
        exact ⟨fun _ => fin, fun z => absurd rfl z⟩
    · rw [if_neg a1]
      exact ⟨fun _ => fin, fun z => absurd rfl z⟩
  -- the courses are such: on to the states
  have good : crB (σm 350) 0 p1 = true → crB (σm 350) 1 p2 = true → crB (σm 350) 2 p3 = true → ∀ (k : Int32) (u : Int64) (σ' s : Sg), s = st2 σm 347 0 0 → (s 347 0 = 0 → m_X5_hour_j38 p1 p2 p3 (fun bb s1 => m_X5_thrown s1 (fun th s2 => th = k ∧ (k = 0 → u = bb.toInt64) ∧ Rel σ' s2)) 0 s) → m_X5_isCourse 0 p1 s (fun r9 s9 => ((r9 = 0 → m_X5_hour_j38 p1 p2 p3 (fun bb s1 => m_X5_thrown s1 (fun th s2 => th = k ∧ (k = 0 → u = bb.toInt64) ∧ Rel σ' s2)) 1 s9) ∧ (¬ (r9 = 0) → m_X5_isCourse 1 p2 s9 (fun r18 s18 => ((r18 = 0 → m_X5_hour_j38 p1 p2 p3 (fun bb s1 => m_X5_thrown s1 (fun th s2 => th = k ∧ (k = 0 → u = bb.toInt64) ∧ Rel σ' s2)) 1 s18) ∧ (¬ (r18 = 0) → m_X5_isCourse 2 p3 s18 (fun r27 s27 => ((¬ r27 = 0 → m_X5_hour_j38 p1 p2 p3 (fun bb s1 => m_X5_thrown s1 (fun th s2 => th = k ∧ (k = 0 → u = bb.toInt64) ∧ Rel σ' s2)) 0 s27) ∧ (r27 = 0 → m_X5_hour_j38 p1 p2 p3 (fun bb s1 => m_X5_thrown s1 (fun th s2 => th = k ∧ (k = 0 → u = bb.toInt64) ∧ Rel σ' s2)) 1 s27))))))))) := by
    intro a1 a2 a3 k u σ' s hs hj
    have e350 : s 350 = σm 350 := by rw [hs]; exact st2_row (by decide)
    obtain ⟨h0, h⟩ := start hR s hs
    refine p_X5_isCourse (h := 0) h.1.1.1 (by decide) ?_
    rw [e350, if_pos a1]
    refine ⟨fun z => absurd z one0, fun _ => p_X5_isCourse (h := 1) h.1.1.1 (by decide) ?_⟩
    rw [e350, if_pos a2]
    refine ⟨fun z => absurd z one0, fun _ => p_X5_isCourse (h := 2) h.1.1.1 (by decide) ?_⟩
    rw [e350, if_pos a3]
    exact ⟨fun _ => hj h0, fun z => absurd z one0⟩
  -- a state that forbids
  have bad2 : crB (σm 350) 0 p1 = true → crB (σm 350) 1 p2 = true → crB (σm 350) 2 p3 = true → ¬ (rI (σm 350) 2 < 500 ∧ goB (σm 350) 0 p1 = true ∧ goB (σm 350) 1 p2 = true ∧ goB (σm 350) 2 p3 = true) → K_hour Rel p1 p2 p3 σm 2 (st2 σc 0 12 (σc 0 12 + 1)) v := by
    intro a1 a2 a3 hno s hs
    refine good a1 a2 a3 2 v _ s hs fun h0 => ?_
    have e350 : s 350 = σm 350 := by rw [hs]; exact st2_row (by decide)
    obtain ⟨-, h⟩ := start hR s hs
    have fin : m_X5_hour_j91 p1 p2 p3 (fun bb s1 => m_X5_thrown s1 (fun th s2 => th = 2 ∧ ((2 : Int32) = 0 → v = bb.toInt64) ∧ Rel (st2 σc 0 12 (σc 0 12 + 1)) s2)) 1 s := leafR h h0 2 (by decide) (by decide)
    refine p_bad0 h0 ⟨fun z => absurd rfl z, fun _ => ⟨by rw [ti_in]; decide, fun _ => fin, fun z => ?_⟩⟩
    rw [show (2 : Int32).toNatClampNeg = 2 by decide, e350, ti_eq, d500] at z
    refine p_canGo (h := 0) h.1.1 (by decide) (by rw [e350]; exact a1) ?_
    rw [e350]
    by_cases b1 : goB (σm 350) 0 p1 = true
    · rw [if_pos b1]
      refine ⟨fun z => absurd z one0, fun _ => p_canGo (h := 1) h.1.1 (by decide) (by rw [e350]; exact a2) ?_⟩
      rw [e350]
      by_cases b2 : goB (σm 350) 1 p2 = true
      · rw [if_pos b2]
        refine ⟨fun z => absurd z one0, fun _ => p_canGo (h := 2) h.1.1 (by decide) (by rw [e350]; exact a3) ?_⟩
        have lt : rI (σm 350) 2 < 500 := by
          unfold rI at hh ⊢
          omega
        rw [e350, if_neg (fun w => hno ⟨lt, b1, b2, w⟩)]
        exact ⟨fun z => absurd rfl z, fun _ => fin⟩
      · rw [if_neg b2]
        exact ⟨fun _ => fin, fun z => absurd rfl z⟩
    · rw [if_neg b1]
      exact ⟨fun _ => fin, fun z => absurd rfl z⟩
  have badN : ¬ (crB (σm 350) 0 p1 = true ∧ crB (σm 350) 1 p2 = true ∧ crB (σm 350) 2 p3 = true) → m_X4_hour_j33 p1 p2 p3 (fun r σ' => K_hour Rel p1 p2 p3 σm 0 σ' r.toInt64) (fun E σ' => (E = "java/lang/IllegalArgumentException" ∧ K_hour Rel p1 p2 p3 σm 1 σ' v) ∨ (E = "java/lang/IllegalStateException" ∧ K_hour Rel p1 p2 p3 σm 2 σ' v)) 0 σc := fun hno => p_need0 (Or.inl ⟨rfl, bad1 hno⟩)
  refine p_isCourseOf (h := 0) hw (by decide) ?_
  by_cases a1 : crB (σm 350) 0 p1 = true
  · rw [if_pos a1]
    refine ⟨fun z => absurd z one0, fun _ => p_isCourseOf (h := 1) hw (by decide) ?_⟩
    by_cases a2 : crB (σm 350) 1 p2 = true
    · rw [if_pos a2]
      refine ⟨fun z => absurd z one0, fun _ => p_isCourseOf (h := 2) hw (by decide) ?_⟩
      by_cases a3 : crB (σm 350) 2 p3 = true
      · rw [if_pos a3]
        refine ⟨fun z => absurd z one0, fun _ => p_need1 ?_⟩
        have stop : ¬ (rI (σm 350) 2 < 500 ∧ goB (σm 350) 0 p1 = true ∧ goB (σm 350) 1 p2 = true ∧ goB (σm 350) 2 p3 = true) → m_X4_needState 0 σc (fun _ => False) (fun E σ' => (E = "java/lang/IllegalArgumentException" ∧ K_hour Rel p1 p2 p3 σm 1 σ' v) ∨ (E = "java/lang/IllegalStateException" ∧ K_hour Rel p1 p2 p3 σm 2 σ' v)) := fun hno => ⟨fun z => absurd rfl z, fun _ s hs => Or.inr ⟨rfl, by rw [hs]; exact bad2 a1 a2 a3 hno⟩⟩
        have st : ∀ K : Sg → Prop, ¬ (rI (σm 350) 2 < 500 ∧ goB (σm 350) 0 p1 = true ∧ goB (σm 350) 1 p2 = true ∧ goB (σm 350) 2 p3 = true) → m_X4_needState 0 σc K (fun E σ' => (E = "java/lang/IllegalArgumentException" ∧ K_hour Rel p1 p2 p3 σm 1 σ' v) ∨ (E = "java/lang/IllegalStateException" ∧ K_hour Rel p1 p2 p3 σm 2 σ' v)) := fun K hno => ⟨fun z => absurd rfl z, (stop hno).2⟩
        refine p_canSail (h := 0) hq hw (by decide) a1 ?_
        by_cases b1 : goB (σm 350) 0 p1 = true
        · rw [if_pos b1]
          refine ⟨fun z => absurd z one0, fun _ => p_canSail (h := 1) hq hw (by decide) a2 ?_⟩
          by_cases b2 : goB (σm 350) 1 p2 = true
          · rw [if_pos b2]
            refine ⟨fun z => absurd z one0, fun _ => p_canSail (h := 2) hq hw (by decide) a3 ?_⟩
            by_cases b3 : goB (σm 350) 2 p3 = true
            · rw [if_pos b3]
              refine ⟨fun z => absurd z one0, fun _ => ⟨fun _ => ⟨fun z => st _ fun w => ?_, fun z => ⟨fun _ => ?_, fun y => absurd y one0⟩⟩, fun y => absurd y one0⟩⟩
              · rw [ti_le, d500, e2c] at z
                omega
              · rw [ti_le, d500, e2c] at z
                have lt : rI (σm 350) 2 < 500 := by omega
                have hc : ∀ h, h < 3 → crB (σm 350) h ((fun h => if h = 0 then p1 else if h = 1 then p2 else p3) h) = true := fun h h3 => by
                  rcases (show h = 0 ∨ h = 1 ∨ h = 2 by omega) with rfl | rfl | rfl
                  · exact a1
                  · exact a2
                  · exact a3
                have hg : ∀ h, h < 3 → goB (σm 350) h ((fun h => if h = 0 then p1 else if h = 1 then p2 else p3) h) = true := fun h h3 => by
                  rcases (show h = 0 ∨ h = 1 ∨ h = 2 by omega) with rfl | rfl | rfl
                  · exact b1
                  · exact b2
                  · exact b3
                generalize hcs : (fun h => if h = 0 then p1 else if h = 1 then p2 else p3 : Nat → Int32) = cs at hc hg
                have c0 : cs 0 = p1 := by rw [← hcs]; rfl
                have c1 : cs 1 = p2 := by rw [← hcs]; rfl
                have c2 : cs 2 = p3 := by rw [← hcs]; rfl
                have ok := mvs_ok hq hc hg
                refine p_keepWorld hR.2.1.1 hR.2.1.2.1 fun s hs => ?_
                have hws := keptC_rw hs hw
                obtain ⟨q0, -, -, n0, g0, -⟩ := ok 0 (by decide)
                rw [← c0, ← c1, ← c2]
                refine p_sail (h := 0) (ρ := mvs (σm 350) cs 0) q0 hws (by decide) (n0 0 (by decide)) (g0 0 (by decide) (by decide)) fun u uq uw uk => ?_
                obtain ⟨q1, -, -, n1, g1, -⟩ := ok 1 (by decide)
                refine p_sail (h := 1) (ρ := mvs (σm 350) cs 1) q1 uw (by decide) (n1 1 (by decide)) (g1 1 (by decide) (by decide)) fun x xq xw xk => ?_
                obtain ⟨q2, -, -, n2, g2, -⟩ := ok 2 (by decide)
                refine p_sail (h := 2) (ρ := mvs (σm 350) cs 2) q2 xw (by decide) (n2 2 (by decide)) (g2 2 (by decide) (by decide)) fun y yq yw yk => ?_
                obtain ⟨q3, m3, t3, -, -, z3⟩ := ok 3 (by decide)
                refine p_passHour (ρ := mvs (σm 350) cs 3) q3 yw (by omega) fun z zw zk => p_meetingBits (psR_okQ q3 (by omega)) zw ?_
                have p3 : rI (psR (mvs (σm 350) cs 3)) 3 = rI (σm 350) 3 := by rw [(psR_base (mvs (σm 350) cs 3)).r 3 (by decide) (by omega), m3]
                rw [p3, c0, c1, c2]
                intro a ha
                refine good a1 a2 a3 0 _ _ a ha fun h0 => ?_
                have e350 : a 350 = σm 350 := by rw [ha]; exact st2_row (by decide)
                obtain ⟨-, h⟩ := start hR a ha
                refine p_bad0 h0 ⟨fun z => absurd rfl z, fun _ => ⟨by rw [ti_in]; decide, fun w => ?_, fun _ => ?_⟩⟩
                · rw [show (2 : Int32).toNatClampNeg = 2 by decide, e350, ti_eq, d500] at w
                  unfold rI at lt
                  omega
                · refine p_canGo (h := 0) h.1.1 (by decide) (by rw [e350]; exact a1) ?_
                  rw [e350, if_pos b1]
                  refine ⟨fun z => absurd z one0, fun _ => p_canGo (h := 1) h.1.1 (by decide) (by rw [e350]; exact a2) ?_⟩
                  rw [e350, if_pos b2]
                  refine ⟨fun z => absurd z one0, fun _ => p_canGo (h := 2) h.1.1 (by decide) (by rw [e350]; exact a3) ?_⟩
                  rw [e350, if_pos b3]
                  refine ⟨fun _ => p_bad0 h0 ⟨fun _ => p_remembers (by rw [← h.2.1.2.2.1]; exact h.2.1.2.1) h.2.2.2.2.2 fun t ht => ?_, fun z => absurd rfl z⟩, fun z => absurd z one0⟩
                  have hK := h.keep hs ht
                  have t350 : t 350 = σm 350 := (ht.2.2.1 350 (by decide) (by decide)).trans e350
                  refine p_hourM cs c0 c1 c2 t350 hq lt hc hg fun w w1 w2 => ⟨?_, fun _ => rfl, ?_⟩
                  · rw [w2 347 (by decide), ht.2.1 0 (by decide), h0]
                  · obtain ⟨kk, hu, c8, c9, cf, ck, c0'⟩ := hs
                    refine hK.now (fun k hk => by rw [zk k (by omega), yk k (by omega) (by omega), xk k (by omega) (by omega), uk k (by omega) (by omega)]) w2 cf (fun j hj => ?_) ⟨by rw [w1]; exact psR_okQ q3 (by omega), by rw [w1]; exact zw⟩
                    rw [w1, (psR_v _ q3).2.2.2 j (by omega), z3 j hj, ← t350]
                    exact hK.2.2.2.2.2 350 (Or.inl rfl) j hj
            · rw [if_neg b3]
              exact ⟨fun _ => st _ fun w => b3 w.2.2.2, fun z => absurd rfl z⟩
          · rw [if_neg b2]
            exact ⟨fun _ => st _ fun w => b2 w.2.2.1, fun z => absurd rfl z⟩
        · rw [if_neg b1]
          exact ⟨fun _ => st _ fun w => b1 w.2.1, fun z => absurd rfl z⟩
      · rw [if_neg a3]
        exact ⟨fun _ => badN fun w => a3 w.2.2, fun z => absurd rfl z⟩
    · rw [if_neg a2]
      exact ⟨fun _ => badN fun w => a2 w.2.1, fun z => absurd rfl z⟩
  · rw [if_neg a1]
    exact ⟨fun _ => badN fun w => a1 w.1, fun z => absurd rfl z⟩
