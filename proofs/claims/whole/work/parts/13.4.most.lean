/-! most, first -/
theorem most_C {ρ : Nat → Int32} {m : Nat} {t : Int} {p q : Int × Int} {f u c : Int} (hM : isMost ρ m t p q f u) (hC : isC ρ m t p q c) (hf : f < 1048576) : (f < c → u = -1) ∧ (¬ f < c → u = f - c ∧ 0 ≤ u) := by
  have g := hC.lt hf
  refine ⟨fun z => ?_, fun z => ?_⟩
  · rcases hM with ⟨a, -⟩ | ⟨a, b⟩
    · exact a
    · have := g.mp z _ b.1
      omega
  · rcases hM with ⟨-, b⟩ | ⟨a, b⟩
    · exact absurd (g.mpr b) z
    · have := lst_one b (hC.lst b.1)
      omega
theorem ob_most : obl_most Rel := by
  intro σc σm v p1 p2 p3 p4 hR
  have hq := hR.1.1
  have hr := hq.1
  have hw := hR.1.2
  have h2h := hr.2.2.1
  have dB : (60 : Int32).toInt = 60 := by decide
  by_cases h1 : 0 ≤ p1.toInt ∧ p1.toInt < rI (σm 350) 3
  · obtain ⟨i, i3, hi, e0, e1, e2, e3⟩ := hix hr h1
    refine p_helpY hw h1 (p_X4_isIn ?_)
    rw [d0, dB]
    by_cases h2 : (0 ≤ p2.toInt ∧ p2.toInt ≤ 60) ∧ onS (σm 350) p3.toInt p4.toInt = true
    · obtain ⟨h2, ho⟩ := h2
      rw [if_pos h2]
      subst e0
      obtain ⟨⟨hW1, hW2⟩, hf0, hf1⟩ := hq.2.2.2.1 i hi
      obtain ⟨n, hn⟩ : ∃ n : Nat, p2.toInt = n := ⟨p2.toInt.toNat, by omega⟩
      have e2n : p2 = nI n := of_ti (by omega) hn
      subst e2n
      have hP : isP (p3.toInt, p4.toInt) := onS_isP hr ho
      have eP := cl20_i hP
      have hP' := hP
      unfold isP at hP'
      have ec := clW_i (p := (p3.toInt, p4.toInt)) hr ho
      have oc := onS_cell (p := (p3.toInt, p4.toInt)) hr ho
      simp only at ec oc hP' eP
      refine ⟨fun z => absurd z one0, fun _ => p_X3_isOnSea hw ?_⟩
      rw [if_pos ho]
      refine ⟨fun z => absurd z one0, fun _ => p_need1 (p_refresh hR fun s hRs s9 hF sk => ?_)⟩
      unfold m_X3_cellAt
      rw [hRs.1.2.1.1, numW hr ho]
      refine p_mostsOf hq hRs.1.2 hF i3 hi (by omega) fun u uF uw un => ?_
      have hRu := hRs.wid s9 uF uw
      have hM := (uF.2.2.2.2.2.2 i i3 hi).1 n un (p3.toInt, p4.toInt) ho
      simp only at hM
      refine p_X4_read (S_m0 i i3 n (by omega)).2.2 (by decide) (by omega) (by omega) ?_
      rw [ec]
      intro a ha
      have e350 : a 350 = σm 350 := by rw [ha]; exact st2_row (by decide)
      obtain ⟨h0, h⟩ := start hRu a ha
      refine p_X5_isHelper h.1.1.1 ?_
      rw [e350, if_pos h1]
      refine ⟨fun _ => p_bad0 h0 ⟨fun z => absurd rfl z, fun _ => p_X5_in ?_⟩, fun z => absurd z one0⟩
      rw [d0, dB, if_pos h2]
      refine ⟨fun z => absurd z one0, fun _ => p_X5_isOn rfl h.1.1.1 ?_⟩
      rw [e350, if_pos ho]
      refine ⟨fun _ => p_bad0 h0 ⟨fun _ => ?_, fun z => absurd rfl z⟩, fun z => absurd z one0⟩
      have fin : ∀ (r : Int32) (w : Sg), costsM w (σm 350) i → (∀ c, (c < 361 ∨ 425 ≤ c) → w c = a c) → (fun (r68 : Int32) s68 => (vp_in (nI n) 61 ∧ m_X5_cellAt p3 p4 s68 (fun r82 s82 => (vp_in r82 240 ∧ (∀ l6_86, l6_86 = (s82 (363 + 1 + (nI n).toNatClampNeg) r82.toNatClampNeg) → m_X5_fuelOf (nI i) s82 (fun r92 s92 => ((r92 < l6_86 → m_X5_thrown s92 (fun th s2 => th = 0 ∧ ((0 : Int32) = 0 → (u (90 + 64 * i + 2 + n) (rI (σm 350) 0 * p4.toInt + p3.toInt).toNat).toInt64 = (-1 : Int32).toInt64) ∧ Rel u s2)) ∧ (¬ (r92 < l6_86) → m_X5_fuelOf (nI i) s92 (fun r100 s100 => m_X5_thrown s100 (fun th s2 => th = 0 ∧ ((0 : Int32) = 0 → (u (90 + 64 * i + 2 + n) (rI (σm 350) 0 * p4.toInt + p3.toInt).toNat).toInt64 = (r100 - l6_86).toInt64) ∧ Rel u s2)))))))))) r w := by
        intro r w wM wc
        have w0 : w 347 0 = 0 := by rw [wc 347 (by decide)]; exact h0
        have w350 : w 350 = σm 350 := (wc 350 (by decide)).trans e350
        have hRw : Rel u w := h.cost wc
        have g := most_C hM (wM.2 n (by omega) _ hP) (by omega)
        have gb := (wM.2 n (by omega) _ hP).b hr (by omega) (by omega)
        unfold c20 at g gb
        simp only at g gb
        unfold m_X5_cellAt
        rw [num20 (a := p3) (b := p4) hP]
        refine ⟨nI_in (by omega) (by decide), by rw [ti_in, eP]; omega, fun l hl => p_X5_fuelOf (by rw [w350]; exact hq) i (by rw [w350]; exact hi) e3 ?_⟩
        rw [nI_clamp (by omega), ti_c, eP, show 363 + 1 + n = 364 + n by omega] at hl
        rw [w350]
        have ef : (σm 350 (1091 + 3 * i)).toInt = fAt (σm 350) i := rfl
        refine ⟨fun z => ⟨w0, fun _ => ?_, hRw⟩, fun z => p_X5_fuelOf (by rw [w350]; exact hq) i (by rw [w350]; exact hi) e3 ⟨w0, fun _ => ?_, hRw⟩⟩
        · rw [ti_lt, hl, ef] at z
          congr 1
          rw [ti_eq, dm1]
          exact g.1 z
        · rw [ti_lt, hl, ef] at z
          have := g.2 z
          rw [w350]
          congr 1
          rw [ti_eq, hl, ti_sub (by omega) (by omega), ef]
          exact this.1
      refine p_earliest (i := i) (by rw [e350]; exact hq) (by rw [e350]; exact hi) e1 e2 e3 (fun w n' wM wc _ _ => ?_) (fun w wM wc _ => ?_)
      · rw [e350] at wM
        exact fin (-1) w wM wc
      · rw [e350] at wM
        exact fin (-1) w wM wc
    · have bad : "java/lang/IllegalArgumentException" = "java/util/NoSuchElementException" ∧ K_most Rel p1 p2 p3 p4 σm 1 (st2 σc 0 11 (σc 0 11 + 1)) v ∨ "java/lang/IllegalArgumentException" = "java/lang/IllegalArgumentException" ∧ K_most Rel p1 p2 p3 p4 σm 2 (st2 σc 0 11 (σc 0 11 + 1)) v := by
        refine Or.inr ⟨rfl, ?_⟩
        intro s hs
        have e350 : s 350 = σm 350 := by rw [hs]; exact st2_row (by decide)
        obtain ⟨h0, h⟩ := start hR s hs
        refine p_X5_isHelper h.1.1.1 ?_
        rw [e350, if_pos h1]
        refine ⟨fun _ => p_bad0 h0 ⟨fun z => absurd rfl z, fun _ => p_X5_in ?_⟩, fun z => absurd z one0⟩
        rw [d0, dB]
        by_cases h3 : 0 ≤ p2.toInt ∧ p2.toInt ≤ 60
        · rw [if_pos h3]
          refine ⟨fun z => absurd z one0, fun _ => p_X5_isOn rfl h.1.1.1 ?_⟩
          rw [e350, if_neg (fun z => h2 ⟨h3, z⟩)]
          exact ⟨fun z => absurd rfl z, fun _ => leafR h h0 1 (by decide) (by decide)⟩
        · rw [if_neg h3]
          exact ⟨fun _ => leafR h h0 1 (by decide) (by decide), fun z => absurd rfl z⟩
      by_cases h3 : 0 ≤ p2.toInt ∧ p2.toInt ≤ 60
      · rw [if_pos h3]
        refine ⟨fun z => absurd z one0, fun _ => p_X3_isOnSea hw ?_⟩
        rw [if_neg (fun z => h2 ⟨h3, z⟩)]
        exact ⟨fun _ => p_need0 bad, fun z => absurd rfl z⟩
      · rw [if_neg h3]
        exact ⟨fun _ => p_need0 bad, fun z => absurd rfl z⟩
  · refine p_helpN hw h1 (Or.inl ⟨rfl, ?_⟩)
    intro s hs
    have e350 : s 350 = σm 350 := by rw [hs]; exact st2_row (by decide)
    obtain ⟨h0, h⟩ := start hR s hs
    refine p_X5_isHelper h.1.1.1 ?_
    rw [e350, if_neg h1]
    exact ⟨fun z => absurd rfl z, fun _ => leafL h h0 0 (by decide) (by decide)⟩
/-- of the first m helpers r has the least earliest hour, l -/
def sp (ρ : Nat → Int32) (m : Nat) (r l : Int32) : Prop := (r = -1 ∧ ∀ x, x < m → noFirst ρ x) ∨ ∃ x n : Nat, x < m ∧ r = nI x ∧ l = nI n ∧ n ≤ 60 ∧ isFirst ρ x n ∧ ∀ y, y < m → ∀ n', n' ≤ 60 → isFirst ρ y n' → n ≤ n' ∧ (y < x → n < n')
theorem sp_one {ρ : Nat → Int32} {m : Nat} {r l r' l' : Int32} (a : sp ρ m r l) (b : sp ρ m r' l') : r = r' := by
  rcases a with ⟨a1, a2⟩ | ⟨x, n, x1, x2, x3, x4, x5, x6⟩
  · rcases b with ⟨b1, -⟩ | ⟨y, n', y1, y2, y3, y4, y5, y6⟩
    · rw [a1, b1]
    · exact absurd y5 (noFirst_no (a2 y y1) y4)
  · rcases b with ⟨b1, b2⟩ | ⟨y, n', y1, y2, y3, y4, y5, y6⟩
    · exact absurd x5 (noFirst_no (b2 x x1) x4)
    · obtain ⟨c1, c2⟩ := x6 y y1 n' y4 y5
      obtain ⟨d1, d2⟩ := y6 x x1 n x4 x5
      have : x = y := by omega
      rw [x2, y2, this]
theorem ob_first : obl_first Rel := by
  intro σc σm hR
  have hq := hR.1.1
  have hr := hq.1
  have hm := hr.2.2.2.1
  have d61 : (61 : Int32).toInt = 61 := by decide
  obtain ⟨N, hN⟩ : ∃ N : Nat, rI (σm 350) 3 = N := ⟨(rI (σm 350) 3).toNat, by omega⟩
  have ref : ∀ (t : Sg) (r l : Int32), Rel t σm → sp (σm 350) N r l → m_X5_first σm (fun r' s' => r = r' ∧ Rel t s') := by
    intro t r l hRt hsp a ha
    have e350 : a 350 = σm 350 := by rw [ha]; exact st2_row (by decide)
    obtain ⟨-, h⟩ := start hRt a ha
    have key : ∀ m i : Nat, i + m = N → ∀ (w : Sg) (b c : Int32), (∀ k, (k < 361 ∨ 425 ≤ k) → w k = a k) → sp (σm 350) i b c → m_X5_first_l11 (fun r' s' => r = r' ∧ Rel t s') (m + 1) b c (nI i) w := by
      intro m
      induction m with
      | zero =>
        intro i hi w b c wc hs
        have ei := nI_toInt (n := i) (by omega)
        have w350 : w 350 = σm 350 := (wc 350 (by decide)).trans e350
        refine ⟨by rw [ti_in]; decide, fun _ => ⟨?_, h.cost wc⟩, fun z => ?_⟩
        · have : i = N := by omega
          subst this
          exact sp_one hsp hs
        · rw [show (3 : Int32).toNatClampNeg = 3 by decide, w350, ti_le, ei] at z
          unfold rI at hN
          omega
      | succ m ih =>
        intro i hi w b c wc hs
        have ei := nI_toInt (n := i) (by omega)
        have w350 : w 350 = σm 350 := (wc 350 (by decide)).trans e350
        refine ⟨by rw [ti_in]; decide, fun z => ?_, fun _ => ?_⟩
        · rw [show (3 : Int32).toNatClampNeg = 3 by decide, w350, ti_le, ei] at z
          unfold rI at hN
          omega
        · obtain ⟨j, j3, hj, f0, f1, f2, f3⟩ := hix (h := nI i) hr (by rw [ei]; omega)
          have eij : i = j := by
            have := congrArg Int32.toInt f0
            rw [ei, nI_toInt (by omega)] at this
            omega
          subst eij
          refine p_earliest (i := i) (by rw [w350]; exact hq) (by rw [w350]; exact hj) f1 f2 f3 (fun x n xM xc hn hf => ?_) (fun x xM xc hn => ?_)
          · rw [w350] at hf
            have xa : ∀ k, (k < 361 ∨ 425 ≤ k) → x k = a k := fun k hk => (xc k hk).trans (wc k hk)
            have en := nI_toInt (n := n) (by omega)
            refine ⟨fun z => ?_, fun _ => ⟨fun z => ?_, fun z => ⟨fun y => ?_, fun y => ?_⟩⟩⟩
            · rw [ti_eq, en, dm1] at z
              omega
            · rw [← nI_succ]
              refine ih (i + 1) (by omega) x _ _ xa (Or.inr ⟨i, n, by omega, rfl, rfl, hn, hf, fun y hy n' hn' hf' => ?_⟩)
              rcases hs with ⟨-, s2⟩ | ⟨x', n2, s1, s2, -⟩
              · by_cases e : y = i
                · subst e
                  have := isFirst_one hf hf'
                  omega
                · exact absurd hf' (noFirst_no (s2 y (by omega)) hn')
              · rw [z] at s2
                have := congrArg Int32.toInt s2
                rw [dm1, nI_toInt (by omega)] at this
                omega
            · rcases hs with ⟨s1, -⟩ | ⟨x', n2, s1, s2, s3, s4, s5, s6⟩
              · exact absurd s1 z
              · rw [ti_lt, en, s3, nI_toInt (by omega)] at y
                rw [← nI_succ]
                refine ih (i + 1) (by omega) x _ _ xa (Or.inr ⟨i, n, by omega, rfl, rfl, hn, hf, fun y' hy n' hn' hf' => ?_⟩)
                by_cases e : y' = i
                · subst e
                  have := isFirst_one hf hf'
                  omega
                · have := s6 y' (by omega) n' hn' hf'
                  omega
            · rcases hs with ⟨s1, -⟩ | ⟨x', n2, s1, s2, s3, s4, s5, s6⟩
              · exact absurd s1 z
              · rw [ti_lt, en, s3, nI_toInt (by omega)] at y
                rw [← nI_succ]
                refine ih (i + 1) (by omega) x _ _ xa (Or.inr ⟨x', n2, by omega, s2, s3, s4, s5, fun y' hy n' hn' hf' => ?_⟩)
                by_cases e : y' = i
                · subst e
                  have := isFirst_one hf hf'
                  omega
                · exact s6 y' (by omega) n' hn' hf'
          · rw [w350] at hn
            have xa : ∀ k, (k < 361 ∨ 425 ≤ k) → x k = a k := fun k hk => (xc k hk).trans (wc k hk)
            refine ⟨fun _ => ?_, fun z => absurd rfl z⟩
            rw [← nI_succ]
            refine ih (i + 1) (by omega) x _ _ xa ?_
            rcases hs with ⟨s1, s2⟩ | ⟨x', n2, s1, s2, s3, s4, s5, s6⟩
            · refine Or.inl ⟨s1, fun y hy => ?_⟩
              by_cases e : y = i
              · subst e
                exact hn
              · exact s2 y (by omega)
            · refine Or.inr ⟨x', n2, by omega, s2, s3, s4, s5, fun y' hy n' hn' hf' => ?_⟩
              by_cases e : y' = i
              · subst e
                exact absurd hf' (noFirst_no hn hn')
              · exact s6 y' (by omega) n' hn' hf'
    exact ⟨N + 1, key N 0 (by omega) a _ _ (fun _ _ => rfl) (Or.inl ⟨rfl, fun x hx => absurd hx (Nat.not_lt_zero _)⟩)⟩
  refine p_refresh hR fun s hRs s9 hF sk => ?_
  have key : ∀ m i : Nat, i + m = N → ∀ (w : Sg) (b c : Int32), Fresh w (σm 350) → wider w s → sp (σm 350) i b c → (b = -1 → c = 61) → m_X4_first_l14 (fun r σ' => m_X5_first σm (fun r' s' => r = r' ∧ Rel σ' s')) (m + 1) b c (nI i) w := by
    intro m
    induction m with
    | zero =>
      intro i hi w b c wF ww hs _
      have ei := nI_toInt (n := i) (by omega)
      have hRw := hRs.wid s9 wF ww
      have : i = N := by omega
      subst this
      refine ⟨fun _ => ref w b c hRw hs, fun z => ?_⟩
      rw [hRw.1.2.2.2.1.1, ti_le, ei] at z
      unfold rI at hN
      omega
    | succ m ih =>
      intro i hi w b c wF ww hs hc
      have ei := nI_toInt (n := i) (by omega)
      have hRw := hRs.wid s9 wF ww
      refine ⟨fun z => ?_, fun _ => ?_⟩
      · rw [hRw.1.2.2.2.1.1, ti_le, ei] at z
        unfold rI at hN
        omega
      · refine p_earliestOf hq hRw.1.2 wF (by omega) (by omega) (fun u n hn hf uF uw uk => ⟨fun z => ?_, fun _ => ⟨fun z => ?_, fun z => ?_⟩⟩) (fun u hn uF uw => ⟨fun _ => ?_, fun z => absurd (by decide) z⟩)
        · rw [ti_lt, d0, nI_toInt (by omega)] at z
          omega
        · have en := nI_toInt (n := n) (by omega)
          rw [← nI_succ]
          rcases hs with ⟨s1, -⟩ | ⟨x', n2, s1, s2, s3, s4, s5, s6⟩
          · rw [hc s1, ti_le, d61, en] at z
            omega
          · rw [ti_le, en, s3, nI_toInt (by omega)] at z
            refine ih (i + 1) (by omega) u _ _ uF (uw.trans ww) (Or.inr ⟨x', n2, by omega, s2, s3, s4, s5, fun y' hy n' hn' hf' => ?_⟩) hc
            by_cases e : y' = i
            · subst e
              have := isFirst_one hf hf'
              omega
            · exact s6 y' (by omega) n' hn' hf'
        · have en := nI_toInt (n := n) (by omega)
          rw [← nI_succ]
          refine ih (i + 1) (by omega) u _ _ uF (uw.trans ww) (Or.inr ⟨i, n, by omega, rfl, rfl, hn, hf, fun y' hy n' hn' hf' => ?_⟩) (fun e => ?_)
          · by_cases e : y' = i
            · subst e
              have := isFirst_one hf hf'
              omega
            · rcases hs with ⟨-, s2⟩ | ⟨x', n2, s1, s2, s3, s4, s5, s6⟩
              · exact absurd hf' (noFirst_no (s2 y' (by omega)) hn')
              · rw [ti_le, en, s3, nI_toInt (by omega)] at z
                have := s6 y' (by omega) n' hn' hf'
                omega
          · have := congrArg Int32.toInt e
            rw [ei, dm1] at this
            omega
        · rw [← nI_succ]
          refine ih (i + 1) (by omega) u _ _ uF (uw.trans ww) ?_ hc
          rcases hs with ⟨s1, s2⟩ | ⟨x', n2, s1, s2, s3, s4, s5, s6⟩
          · refine Or.inl ⟨s1, fun y hy => ?_⟩
            by_cases e : y = i
            · subst e
              exact hn
            · exact s2 y (by omega)
          · refine Or.inr ⟨x', n2, by omega, s2, s3, s4, s5, fun y' hy n' hn' hf' => ?_⟩
            by_cases e : y' = i
            · subst e
              exact absurd hf' (noFirst_no hn hn')
            · exact s6 y' (by omega) n' hn' hf'
  exact ⟨N + 1, key N 0 (by omega) s _ _ hF (wider.refl s) (Or.inl ⟨rfl, fun x hx => absurd hx (Nat.not_lt_zero _)⟩) (fun _ => rfl)⟩
