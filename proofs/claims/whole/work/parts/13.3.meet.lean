/-! meet -/
theorem lst_one {ρ : Nat → Int32} {m : Nat} {t : Int} {p q : Int × Int} {k j : Int} (a : lst ρ m t p q k) (b : lst ρ m t p q j) : k = j := by
  have := a.2 j b.1
  have := b.2 k a.1
  omega
theorem isC.lst {ρ : Nat → Int32} {m : Nat} {t : Int} {p q : Int × Int} {v k : Int} (h : isC ρ m t p q v) (hk : way ρ m t p q k) : lst ρ m t p q v := h.resolve_left fun z => z.2 k hk
theorem Rel.wid {s u σm : Sg} (h : Rel s σm) (h9 : s 19 9 = 1) (hF : Fresh u (σm 350)) (w : wider u s) : Rel u σm := h.look (fun k hk => w.1 k (by omega)) (by rw [w.1 19 (by omega)]; exact h9) hF
theorem Rel.cost {s a u : Sg} (h : Rel s a) (uc : ∀ c, (c < 361 ∨ 425 ≤ c) → u c = a c) : Rel s u := h.side fun k hk => uc k (by omega)
theorem p_mostMeeting {s : Sg} {ρ : Nat → Int32} {h n : Nat} {K : Int32 → Sg → Prop} (hq : okQ ρ) (hw : Rw s 2 ρ) (hF : Fresh s ρ) (h3 : h < 3) (hh : (h : Int) < rI ρ 3) (hn : n ≤ 60) (hf : isFirst ρ h n)
    (k : ∀ u (x : Int32), Fresh u ρ → wider u s → 0 ≤ x.toInt → lst ρ n (rI ρ 2) (hAt ρ h) (dAt ρ n) (fAt ρ h - x.toInt) → K x u) : m_X0_mostMeeting (nI h) (nI n) s K := by
  have hr := hq.1
  have en := nI_toInt (n := n) (by omega)
  have ho := (dAt_wat hq n).1
  have oc := onS_cell hr ho
  have ec := clW_i hr ho
  refine ⟨fun _ => p_mostsOf hq hw hF h3 hh hn fun u uF uw un => p_X4_read (n := 61) rfl (by decide) (by omega) (by omega) ?_, fun z => ?_⟩
  · rw [en, show ((n : Int)).toNat = n by omega, uF.2.1 n hn]
    refine p_X4_read (S_m0 h h3 n (by omega)).2.2 (by decide) (by omega) (by omega) ?_
    rw [ec]
    have g := (uF.2.2.2.2.2.2 h h3 hh).1 n un (dAt ρ n) ho
    obtain ⟨j, j1, j2⟩ := hf.1
    rcases g with ⟨-, g⟩ | ⟨g1, g2⟩
    · have := g j j2
      omega
    · exact k u _ uF uw g1 g2
  · rw [ti_eq, en, dm1] at z
    omega
theorem ob_meet : obl_meet Rel := by
  intro σc σm v p1 p2 hR
  have hq := hR.1.1
  have hr := hq.1
  have hw := hR.1.2
  have h2h := hr.2.2.1
  have dB : (1 : Int32).toInt = 1 := by decide
  by_cases h1 : 0 ≤ p1.toInt ∧ p1.toInt < rI (σm 350) 3
  · obtain ⟨i, i3, hi, e0, e1, e2, e3⟩ := hix hr h1
    refine p_helpY hw h1 (p_X4_isIn ?_)
    rw [d0, dB]
    by_cases h2 : 0 ≤ p2.toInt ∧ p2.toInt ≤ 1
    · rw [if_pos h2]
      subst e0
      obtain ⟨⟨hW1, hW2⟩, hf0, hf1⟩ := hq.2.2.2.1 i hi
      refine p_need1 (p_refresh hR fun s hRs s9 hF sk => ?_)
      have ref : ∀ (t : Sg) (u : Int32), Rel t σm → (∀ n, n ≤ 60 → isFirst (σm 350) i n → p2 = 0 → u = nI n) → (∀ n, n ≤ 60 → isFirst (σm 350) i n → ¬ p2 = 0 → lst (σm 350) n (rI (σm 350) 2) (hAt (σm 350) i) (dAt (σm 350) n) (fAt (σm 350) i - u.toInt)) → (noFirst (σm 350) i → u = -1) → K_meet Rel (nI i) p2 σm 0 t u.toInt64 := by
        intro t u hRt a1 a2 a3 a ha
        have e350 : a 350 = σm 350 := by rw [ha]; exact st2_row (by decide)
        obtain ⟨h0, h⟩ := start hRt a ha
        refine p_X5_isHelper h.1.1.1 ?_
        rw [e350, if_pos h1]
        refine ⟨fun _ => p_bad0 h0 ⟨fun z => absurd rfl z, fun _ => p_X5_in ?_⟩, fun z => absurd z one0⟩
        rw [d0, dB, if_pos h2]
        refine ⟨fun _ => p_bad0 h0 ⟨fun _ => p_earliest (i := i) (by rw [e350]; exact hq) (by rw [e350]; exact hi) e1 e2 e3 ?_ ?_, fun z => absurd rfl z⟩, fun z => absurd z one0⟩
        all_goals rw [e350]
        · intro w n wM wc hn hf
          have w0 : w 347 0 = 0 := by rw [wc 347 (by decide)]; exact h0
          have w350 : w 350 = σm 350 := (wc 350 (by decide)).trans e350
          have hRw : Rel t w := h.cost wc
          have en := nI_toInt (n := n) (by omega)
          refine ⟨fun z => ?_, fun _ => ⟨fun z => p_X5_fuelOf (by rw [w350]; exact hq) i (by rw [w350]; exact hi) e3 ?_, fun z => ⟨w0, fun _ => by rw [a1 n hn hf z], hRw⟩⟩⟩
          · rw [ti_eq, en, dm1] at z
            omega
          · have hP : isP (dAt (σm 350) n) := onS_P hr (dAt_wat hq n).1
            have eP := cl20_i hP
            have hP' := hP
            unfold isP at hP'
            rw [nI_clamp (by omega), (wM.1 n hn).1, ti_c, eP, w350, show 363 + 1 + n = 364 + n by omega]
            refine ⟨nI_in (by omega) (by decide), nI_in (by omega) (by decide), by rw [ti_in, eP]; omega, w0, fun _ => ?_, hRw⟩
            obtain ⟨j, j1, j2⟩ := hf.1
            have g := (wM.2 n hn _ hP).lst j2
            have gb := way_b hr n _ _ _ (by omega) (by omega) g.1
            have e := lst_one g (a2 n hn hf z)
            unfold c20 at gb e
            congr 1
            have ef : (σm 350 (1091 + 3 * i)).toInt = fAt (σm 350) i := rfl
            rw [ti_eq, ti_sub (by omega) (by omega)]
            omega
        · intro w wM wc hn
          have w0 : w 347 0 = 0 := by rw [wc 347 (by decide)]; exact h0
          exact ⟨fun _ => ⟨w0, fun _ => by rw [a3 hn], h.cost wc⟩, fun z => absurd rfl z⟩
      refine p_earliestOf hq hRs.1.2 hF i3 hi (fun u n hn hf uF uw uk => ⟨fun z => ?_, fun z => ?_⟩) (fun u hn uF uw => ⟨fun z => ⟨fun y => absurd rfl y, fun _ => ?_⟩, fun z => ?_⟩)
      · have hRu := hRs.wid s9 uF uw
        refine p_mostMeeting hq hRu.1.2 uF i3 hi hn hf fun w x wF ww x0 xl => ref w x (hRu.wid (by rw [uw.1 19 (by omega)]; exact s9) wF ww) (fun _ _ _ y => absurd y z) (fun n' hn' hf' _ => ?_) (fun y => absurd hf (noFirst_no y hn))
        rw [isFirst_one hf' hf]
        exact xl
      · refine ref u _ (hRs.wid s9 uF uw) (fun n' hn' hf' _ => by rw [isFirst_one hf' hf]) (fun _ _ _ y => absurd z y) (fun y => absurd hf (noFirst_no y hn))
      · exact ref u _ (hRs.wid s9 uF uw) (fun n' hn' hf' _ => absurd hf' (noFirst_no hn hn')) (fun n' hn' hf' _ => absurd hf' (noFirst_no hn hn')) (fun _ => rfl)
      · exact ref u _ (hRs.wid s9 uF uw) (fun n' hn' hf' _ => absurd hf' (noFirst_no hn hn')) (fun n' hn' hf' _ => absurd hf' (noFirst_no hn hn')) (fun _ => rfl)
    · rw [if_neg h2]
      refine p_need0 (Or.inr ⟨rfl, ?_⟩)
      intro s hs
      have e350 : s 350 = σm 350 := by rw [hs]; exact st2_row (by decide)
      obtain ⟨h0, h⟩ := start hR s hs
      refine p_X5_isHelper h.1.1.1 ?_
      rw [e350, if_pos h1]
      refine ⟨fun _ => p_bad0 h0 ⟨fun z => absurd rfl z, fun _ => p_X5_in ?_⟩, fun z => absurd z one0⟩
      rw [d0, dB, if_neg h2]
      exact ⟨fun z => absurd rfl z, fun _ => leafR h h0 1 (by decide) (by decide)⟩
  · refine p_helpN hw h1 (Or.inl ⟨rfl, ?_⟩)
    intro s hs
    have e350 : s 350 = σm 350 := by rw [hs]; exact st2_row (by decide)
    obtain ⟨h0, h⟩ := start hR s hs
    refine p_X5_isHelper h.1.1.1 ?_
    rw [e350, if_neg h1]
    exact ⟨fun z => absurd rfl z, fun _ => leafL h h0 0 (by decide) (by decide)⟩
