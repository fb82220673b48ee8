/-! hour: courses asked -/
theorem p_isCourseOf {σ : Sg} {ρ : Nat → Int32} {h : Nat} {c : Int32} {K : Int32 → Sg → Prop} (hw : Rw σ 2 ρ) (h3 : h < 3) (k : K (if crB ρ h c = true then 1 else 0) σ) : m_X4_isCourseOf (nI h) c σ K := by
  have eh := nI_toInt (n := h) (by omega)
  have d8 : (8 : Int32).toInt = 8 := by decide
  have e7 : (σ 2 7).toInt = rI ρ 3 := congrArg _ hw.2.2.1.1
  refine ⟨fun z => ?_, fun z => p_X4_isIn ?_⟩
  · rw [ti_le, e7, eh] at z
    have hn : ¬ (h : Int) < rI ρ 3 := by omega
    refine ⟨fun y => ?_, fun y => ?_⟩
    · rw [if_neg (fun q => y ?_)] at k
      · exact k
      · have := crB_iff.mp q
        rw [if_neg hn] at this
        rw [ti_eq, d0]
        omega
    · rw [if_pos (crB_iff.mpr ?_)] at k
      · exact k
      · rw [y, if_neg hn, d0]
        omega
  · rw [ti_le, e7, eh] at z
    rw [d0, d8]
    by_cases q : 0 ≤ c.toInt ∧ c.toInt ≤ 8
    · rw [if_pos q]
      rw [if_pos (crB_iff.mpr (by rw [if_pos (by omega)]; exact q))] at k
      exact k
    · rw [if_neg q]
      rw [if_neg (fun y => q (by have := crB_iff.mp y; rw [if_pos (by omega)] at this; exact this))] at k
      exact k
theorem p_X5_isCourse {σ : Sg} {h : Nat} {c : Int32} {K : Int32 → Sg → Prop} (hr : okR (σ 350)) (h3 : h < 3) (k : K (if crB (σ 350) h c = true then 1 else 0) σ) : m_X5_isCourse (nI h) c σ K := by
  have eh := nI_toInt (n := h) (by omega)
  have d8 : (8 : Int32).toInt = 8 := by decide
  refine p_X5_isHelper hr ?_
  rw [eh]
  by_cases z : (h : Int) < rI (σ 350) 3
  · rw [if_pos ⟨by omega, z⟩]
    refine ⟨fun y => absurd y one0, fun _ => p_X5_in ?_⟩
    rw [d0, d8]
    by_cases q : 0 ≤ c.toInt ∧ c.toInt ≤ 8
    · rw [if_pos q]
      rw [if_pos (crB_iff.mpr (by rw [if_pos z]; exact q))] at k
      exact k
    · rw [if_neg q]
      rw [if_neg (fun y => q (by have := crB_iff.mp y; rw [if_pos z] at this; exact this))] at k
      exact k
  · rw [if_neg (fun q => z q.2)]
    refine ⟨fun _ => p_X5_in ?_, fun y => absurd rfl y⟩
    rw [d0]
    by_cases q : 0 ≤ c.toInt ∧ c.toInt ≤ 0
    · rw [if_pos q]
      rw [if_pos (crB_iff.mpr (by rw [if_neg z]; exact q))] at k
      exact k
    · rw [if_neg q]
      rw [if_neg (fun y => q (by have := crB_iff.mp y; rw [if_neg z] at this; exact this))] at k
      exact k
theorem cr_in {ρ : Nat → Int32} {h : Nat} {c : Int32} (hc : crB ρ h c = true) (hne : ¬ c = 0) : (h : Int) < rI ρ 3 := by
  have := crB_iff.mp hc
  by_cases z : (h : Int) < rI ρ 3
  · exact z
  · rw [if_neg z] at this
    exact absurd (by rw [ti_eq, d0]; omega) hne
theorem p_canSail {σ : Sg} {ρ : Nat → Int32} {h : Nat} {c : Int32} {K : Int32 → Sg → Prop} (hq : okQ ρ) (hw : Rw σ 2 ρ) (h3 : h < 3) (hc : crB ρ h c = true) (k : K (if goB ρ h c = true then 1 else 0) σ) : m_X3_canSail 2 (nI h) c σ K := by
  have hr := hq.1
  have hh := hr.2.2.1
  have eh := nI_toInt (n := h) (by omega)
  have hD := crB_D hc
  have et : (ρ 2).toInt = rI ρ 2 := rfl
  refine ⟨fun z => ?_, fun z => ?_⟩
  · have hm := cr_in hc z
    obtain ⟨q1, q2⟩ := hw.2.2.2.1 h hm
    obtain ⟨hW, hf0, hf1⟩ := hq.2.2.2.1 h hm
    have cb := cst_b hD (wnd_D hr (t := rI ρ 2) (by omega) (by omega))
    rw [hw.1.2.2.1]
    refine p_X3_priceOf W_2 hw hr hD (by omega) (by omega) (p_X4_read (W_L2 W_2) (by decide) (by omega) (by omega) ?_)
    rw [eh, show ((h : Int)).toNat = h by omega, q2, et]
    have ec := ti_of (z := cst c (wnd ρ (rI ρ 2))) (by omega) (by omega)
    have ef : (ρ (1091 + 3 * h)).toInt = fAt ρ h := rfl
    refine ⟨fun y => ⟨fun _ => ?_, fun x => absurd rfl x⟩, fun y => ⟨fun x => absurd x one0, fun _ => p_X4_read (W_L1 W_2) (by decide) (by omega) (by omega) ?_⟩⟩
    · rw [ti_lt, ec, ef] at y
      rw [if_neg (fun q => ?_)] at k
      · exact k
      · rcases goB_iff.mp q with x | x
        · exact z x
        · omega
    · rw [ti_lt, ec, ef] at y
      rw [eh, show ((h : Int)).toNat = h by omega, q1]
      refine p_X3_helperBehind (p := (rI ρ (1089 + 3 * h), rI ρ (1090 + 3 * h))) W_2 hw hr hW.1 hD ?_
      by_cases ho : okS ρ (hAt ρ h).1 (hAt ρ h).2 c = true
      · rw [if_pos (Or.inr (show okS ρ (rI ρ (1089 + 3 * h), rI ρ (1090 + 3 * h)).1 (rI ρ (1089 + 3 * h), rI ρ (1090 + 3 * h)).2 c = true from ho))]
        refine ⟨fun x => absurd x (clW_ne hr (crr_on hW.1 c)), fun _ => ?_⟩
        rw [if_pos (goB_iff.mpr (Or.inr ⟨ho, by omega⟩))] at k
        exact k
      · rw [if_neg (fun q => q.elim z (show ¬ okS ρ (rI ρ (1089 + 3 * h), rI ρ (1090 + 3 * h)).1 (rI ρ (1089 + 3 * h), rI ρ (1090 + 3 * h)).2 c = true from ho))]
        refine ⟨fun _ => ?_, fun x => absurd rfl x⟩
        rw [if_neg (fun q => ?_)] at k
        · exact k
        · rcases goB_iff.mp q with x | x
          · exact z x
          · exact ho x.1
  · rw [if_pos (goB_iff.mpr (Or.inl z))] at k
    exact k
theorem p_canGo {σ : Sg} {h : Nat} {c : Int32} {K : Int32 → Sg → Prop} (hq : okQ (σ 350)) (h3 : h < 3) (hc : crB (σ 350) h c = true) (k : K (if goB (σ 350) h c = true then 1 else 0) σ) : m_X5_canGo (nI h) c σ K := by
  have hr := hq.1
  have hh := hr.2.2.1
  have eh := nI_toInt (n := h) (by omega)
  have hD := crB_D hc
  refine p_X5_isHelper hr ?_
  rw [eh]
  by_cases hm : (h : Int) < rI (σ 350) 3
  · rw [if_pos ⟨by omega, hm⟩]
    refine ⟨fun y => absurd y one0, fun _ => ⟨fun z => ?_, fun z => ?_⟩⟩
    · rw [if_pos (goB_iff.mpr (Or.inl z))] at k
      exact k
    · obtain ⟨i, i3, hi, e0, e1, e2, e3⟩ := hix (h := nI h) hr (by rw [eh]; omega)
      have eih : i = h := by
        have := congrArg Int32.toInt e0
        rw [eh, nI_toInt (by omega)] at this
        omega
      subst eih
      obtain ⟨hW, hf0, hf1⟩ := hq.2.2.2.1 i hm
      have hP := onS_P hr hW.1
      have cb := cst_b hD (wnd_D hr (t := rI (σ 350) 2) (by omega) (by omega))
      have ec := ti_of (z := cst c (wnd (σ 350) (rI (σ 350) 2))) (by omega) (by omega)
      have ef : (σ 350 (1091 + 3 * i)).toInt = fAt (σ 350) i := rfl
      refine p_X5_helperCell hq i hm e1 e2 (p_X5_goes rfl hr hP hD ?_)
      by_cases ho : okS (σ 350) (hAt (σ 350) i).1 (hAt (σ 350) i).2 c = true
      · rw [if_pos ho]
        refine ⟨fun x => absurd x one0, fun _ => ⟨by rw [ti_in]; decide, ?_⟩⟩
        rw [show (2 : Int32).toNatClampNeg = 2 by decide]
        refine p_X5_windOf rfl hr (show 0 ≤ rI (σ 350) 2 by omega) (show rI (σ 350) 2 ≤ 560 by omega) (p_X5_costBy hD (wnd_D hr (t := rI (σ 350) 2) (by omega) (by omega)) (p_X5_fuelOf hq i hm e3 ⟨fun x => ?_, fun x => ?_⟩))
        · have x' : fAt (σ 350) i < cst c (wnd (σ 350) (rI (σ 350) 2)) := by
            rw [ti_lt, ef] at x
            rw [← ec]
            exact x
          rw [if_neg (fun q => ?_)] at k
          · exact k
          · rcases goB_iff.mp q with y | y
            · exact z y
            · omega
        · have x' : ¬ fAt (σ 350) i < cst c (wnd (σ 350) (rI (σ 350) 2)) := by
            rw [ti_lt, ef] at x
            rw [← ec]
            exact x
          rw [if_pos (goB_iff.mpr (Or.inr ⟨ho, by omega⟩))] at k
          exact k
      · rw [if_neg ho]
        refine ⟨fun _ => ?_, fun x => absurd rfl x⟩
        rw [if_neg (fun q => ?_)] at k
        · exact k
        · rcases goB_iff.mp q with x | x
          · exact z x
          · exact ho x.1
  · rw [if_neg (fun q => hm q.2)]
    refine ⟨fun _ => ?_, fun x => absurd rfl x⟩
    rw [if_pos (goB_iff.mpr (Or.inl ?_))] at k
    · exact k
    · by_cases z : c = 0
      · exact z
      · exact absurd (cr_in hc z) hm
/-! hour: courses sailed -/
def mvH (ρ : Nat → Int32) (h : Nat) (c : Int32) : Nat → Int32 := if (h : Int) < rI ρ 3 then mvR ρ h c else ρ
theorem p_sail {σ : Sg} {ρ : Nat → Int32} {h : Nat} {c : Int32} {K : Sg → Prop} (hq : okQ ρ) (hw : Rw σ 2 ρ) (h3 : h < 3) (hc : crB ρ h c = true) (hg : goB ρ h c = true) (k : ∀ u : Sg, okQ (mvH ρ h c) → Rw u 2 (mvH ρ h c) → (∀ j, j ≠ 3 → j ≠ 4 → u j = σ j) → K u) : m_X3_sail 2 (nI h) c σ K := by
  have hr := hq.1
  have hh := hr.2.2.1
  have eh := nI_toInt (n := h) (by omega)
  have hD := crB_D hc
  have et : (ρ 2).toInt = rI ρ 2 := rfl
  have e7 : (σ 2 7).toInt = rI ρ 3 := congrArg _ hw.2.2.1.1
  by_cases hm : (h : Int) < rI ρ 3
  · unfold mvH at k
    rw [if_pos hm] at k
    obtain ⟨q1, q2⟩ := hw.2.2.2.1 h hm
    obtain ⟨hW, hf0, hf1⟩ := hq.2.2.2.1 h hm
    refine ⟨fun _ => p_X4_read (W_L2 W_2) (by decide) (by omega) (by omega) ?_, fun z => ?_⟩
    · rw [eh, show ((h : Int)).toNat = h by omega, q2, hw.1.2.2.1]
      refine p_X3_priceOf W_2 hw hr hD (by omega) (by omega) (p_X4_write (W_L2 W_2) (by decide) (by omega) (by omega) ?_)
      rw [eh, show ((h : Int)).toNat = h by omega, et]
      refine p_X4_read (W_L1 W_2) (by decide) (by omega) (by omega) ?_
      rw [eh, show ((h : Int)).toNat = h by omega, st2_row (show (2 + 1 : Nat) ≠ 2 + 2 by decide), q1]
      have hbm := mvR_base ρ h3 c
      -- ahead of the step itself the fuel alone has changed
      have hwf : Rw (st2 σ (2 + 2) h (ρ (1091 + 3 * h) - Int32.ofInt (cst c (wnd ρ (rI ρ 2))))) 2 (fun j => if j = 1091 + 3 * h then ρ j - Int32.ofInt (cst c (wnd ρ (rI ρ 2))) else ρ j) := by
        have hb : base (fun j => if j = 1091 + 3 * h then ρ j - Int32.ofInt (cst c (wnd ρ (rI ρ 2))) else ρ j) ρ := fun j h1 h2 => if_neg (by omega)
        have r : ∀ j, j ≠ 1091 + 3 * h → rI (fun j => if j = 1091 + 3 * h then ρ j - Int32.ofInt (cst c (wnd ρ (rI ρ 2))) else ρ j) j = rI ρ j := fun j hj => congrArg Int32.toInt (if_neg hj)
        refine hb.xrw hr hw (fun j _ _ _ => by rw [st2_row (by decide)]) ?_ ?_ ?_ (fun i hi => ?_) (fun i i1 i2 => st2_row (by omega))
        · rw [st2_row (by decide), hw.1.2.2.1]
          exact (if_neg (by omega)).symm
        · rw [r 6 (by omega), r 7 (by omega), st2_row (by decide)]
          exact hw.2.1.1
        · rw [r 8 (by omega), r 9 (by omega), st2_row (by decide)]
          exact hw.2.1.2
        · obtain ⟨g1, g2⟩ := hw.2.2.2.1 i hi
          rw [r _ (by omega), r _ (by omega), st2_row (by decide)]
          refine ⟨g1, ?_⟩
          by_cases z : i = h
          · rw [z, st2_same, if_pos rfl]
          · rw [st2_j z, if_neg (by omega)]
            exact g2
      have hbf : base (fun j => if j = 1091 + 3 * h then ρ j - Int32.ofInt (cst c (wnd ρ (rI ρ 2))) else ρ j) ρ := fun j h1 h2 => if_neg (by omega)
      have hrf : okR (fun j => if j = 1091 + 3 * h then ρ j - Int32.ofInt (cst c (wnd ρ (rI ρ 2))) else ρ j) := by
        have hqm := mvR_okQ hq h3 hm hc hg
        have hb2 : base (fun j => if j = 1091 + 3 * h then ρ j - Int32.ofInt (cst c (wnd ρ (rI ρ 2))) else ρ j) ρ := hbf
        obtain ⟨a1, a2, a3, a4, a5, a6, a7, a8, a9, a10, a11, a12, a13⟩ := hr
        refine ⟨by rw [hb2.r 0 (by decide) (by omega)]; exact a1, by rw [hb2.r 1 (by decide) (by omega)]; exact a2, ?_, by rw [hb2.r 3 (by decide) (by omega)]; exact a4, by rw [hb2.r 4 (by decide) (by omega)]; exact a5, by rw [hb2.r 5 (by decide) (by omega)]; exact a6, by rw [hb2.r 10 (by decide) (by omega)]; exact a7, by rw [hb2.r 11 (by decide) (by omega)]; exact a8, fun k hk => by rw [hb2 _ (by omega) (by omega)]; exact a9 k hk, fun k hk => by rw [hb2 _ (by omega) (by omega)]; exact a10 k hk, fun k hk => by rw [hb2 _ (by omega) (by omega)]; exact a11 k hk, fun k hk => by rw [hb2 _ (by omega) (by omega)]; exact a12 k hk, fun k hk => by rw [hb2 _ (by omega) (by omega)]; exact a13 k hk⟩
        have e : rI (fun j => if j = 1091 + 3 * h then ρ j - Int32.ofInt (cst c (wnd ρ (rI ρ 2))) else ρ j) 2 = rI ρ 2 := congrArg Int32.toInt (if_neg (by omega))
        rw [e]
        exact a3
      have hon : onS (fun j => if j = 1091 + 3 * h then ρ j - Int32.ofInt (cst c (wnd ρ (rI ρ 2))) else ρ j) (rI ρ (1089 + 3 * h), rI ρ (1090 + 3 * h)).1 (rI ρ (1089 + 3 * h), rI ρ (1090 + 3 * h)).2 = true := by
        rw [hbf.xonS]
        exact hW.1
      have hP : isP (rI ρ (1089 + 3 * h), rI ρ (1090 + 3 * h)) := onS_P hr hW.1
      have hok : c = 0 ∨ okS ρ (rI ρ (1089 + 3 * h), rI ρ (1090 + 3 * h)).1 (rI ρ (1089 + 3 * h), rI ρ (1090 + 3 * h)).2 c = true := (goB_iff.mp hg).imp id fun z => z.1
      have g := p_X3_helperBehind (p := (rI ρ (1089 + 3 * h), rI ρ (1090 + 3 * h))) (d := c) (K := fun r50 s50 => m_X4_write (2 + 1) (nI h) r50 s50 fun s53 => K s53) W_2 hwf hrf hon hD (by
        rw [hbf.xokS hr, if_pos hok, hbf.r 0 (by decide) (by omega), hbf.xcrr hr hP]
        refine p_X4_write (W_L1 W_2) (by decide) (by omega) (by omega) (k _ (mvR_okQ hq h3 hm hc hg) ?_ fun j j1 j2 => ?_)
        · rw [eh, show ((h : Int)).toNat = h by omega]
          obtain ⟨p1, p2⟩ := ofP (crr_isP hr hP c)
          refine hbm.xrw hr hw (fun j _ _ _ => by rw [st2_row (by decide), st2_row (by decide)]) ?_ ?_ ?_ (fun i hi => ?_) (fun i i1 i2 => by rw [st2_row (by omega), st2_row (by omega)])
          · rw [st2_row (by decide), st2_row (by decide), hw.1.2.2.1, mvR_ne (by omega)]
          · rw [st2_row (by decide), st2_row (by decide), show rI (mvR ρ h c) 6 = rI ρ 6 from congrArg _ (mvR_ne (by omega)), show rI (mvR ρ h c) 7 = rI ρ 7 from congrArg _ (mvR_ne (by omega))]
            exact hw.2.1.1
          · rw [st2_row (by decide), st2_row (by decide), show rI (mvR ρ h c) 8 = rI ρ 8 from congrArg _ (mvR_ne (by omega)), show rI (mvR ρ h c) 9 = rI ρ 9 from congrArg _ (mvR_ne (by omega))]
            exact hw.2.1.2
          · obtain ⟨g1, g2⟩ := hw.2.2.2.1 i hi
            by_cases z : i = h
            · rw [z, st2_same, st2_row (show (2 + 2 : Nat) ≠ 2 + 1 by decide), st2_same, mvR_f]
              refine ⟨?_, rfl⟩
              have ex : rI (mvR ρ h c) (1089 + 3 * h) = (crr ρ (hAt ρ h) c).1 := by
                unfold rI
                rw [mvR_x]
                exact p1
              have ey : rI (mvR ρ h c) (1090 + 3 * h) = (crr ρ (hAt ρ h) c).2 := by
                unfold rI
                rw [mvR_y]
                exact p2
              rw [ex, ey]
              rfl
            · rw [st2_j z, st2_row (show (2 + 1 : Nat) ≠ 2 + 2 by decide), st2_row (show (2 + 2 : Nat) ≠ 2 + 1 by decide), st2_j z, show rI (mvR ρ h c) (1089 + 3 * i) = rI ρ (1089 + 3 * i) from congrArg _ (mvR_ne (by omega)), show rI (mvR ρ h c) (1090 + 3 * i) = rI ρ (1090 + 3 * i) from congrArg _ (mvR_ne (by omega)), mvR_ne (by omega)]
              exact ⟨g1, g2⟩
        · rw [st2_row j1, st2_row j2])
      rw [hbf.r 0 (by decide) (by omega)] at g
      exact g
    · rw [ti_lt, eh, e7] at z
      exact absurd hm z
  · unfold mvH at k
    rw [if_neg hm] at k
    refine ⟨fun z => ?_, fun _ => k σ hq hw fun _ _ _ => rfl⟩
    rw [ti_lt, eh, e7] at z
    exact absurd z hm
theorem p_helperGoes {σ : Sg} {h : Nat} {c : Int32} {K : Sg → Prop} (hq : okQ (σ 350)) (h3 : h < 3) (hm : (h : Int) < rI (σ 350) 3) (hc : crB (σ 350) h c = true) (hg : goB (σ 350) h c = true) (k : ∀ u : Sg, u 350 = mvR (σ 350) h c → (∀ j, j ≠ 350 → u j = σ j) → K u) : m_X5_helperGoes (nI h) c σ K := by
  have hr := hq.1
  have hh := hr.2.2.1
  have eh := nI_toInt (n := h) (by omega)
  have hD := crB_D hc
  obtain ⟨i, i3, hi, e0, e1, e2, e3⟩ := hix (h := nI h) hr (by rw [eh]; omega)
  have eih : i = h := by
    have := congrArg Int32.toInt e0
    rw [eh, nI_toInt (by omega)] at this
    omega
  subst eih
  obtain ⟨hW, hf0, hf1⟩ := hq.2.2.2.1 i hm
  have hP := onS_P hr hW.1
  have hPc := crr_isP hr hP c
  have hPc' := hPc
  unfold isP at hPc'
  refine p_X5_helperCell hq i hm e1 e2 (p_X5_carried rfl hr hP hD ⟨by rw [ti_in, e1]; omega, fun a ha => ⟨by rw [ti_in, e2]; omega, fun b hb => ⟨by rw [ti_in, e3]; omega, by rw [ti_in]; decide, ?_⟩⟩⟩)
  rw [ti_c, e1, ti_ext (cl20_x hPc), show (1089 + 3 * (i : Int)).toNat = 1089 + 3 * i by omega] at ha
  rw [ti_c, e2, ti_ext (cl20_y hPc), show (1090 + 3 * (i : Int)).toNat = 1090 + 3 * i by omega] at hb
  have bj : ∀ j, j ≠ 1089 + 3 * i → j ≠ 1090 + 3 * i → b 350 j = σ 350 j := fun j j1 j2 => by rw [hb, st2_j j2, ha, st2_j j1]
  have bk : ∀ j, j ≠ 350 → b j = σ j := fun j hj => by rw [hb, st2_row hj, ha, st2_row hj]
  have hb2 : base (b 350) (σ 350) := fun j h1 h2 => bj j (by omega) (by omega)
  have eb2 : b 350 2 = σ 350 2 := bj 2 (by omega) (by omega)
  have hrb : okR (b 350) := by
    obtain ⟨a1, a2, a3, a4, a5, a6, a7, a8, a9, a10, a11, a12, a13⟩ := hr
    refine ⟨by rw [hb2.r 0 (by decide) (by omega)]; exact a1, by rw [hb2.r 1 (by decide) (by omega)]; exact a2, by unfold rI; rw [eb2]; exact a3, by rw [hb2.r 3 (by decide) (by omega)]; exact a4, by rw [hb2.r 4 (by decide) (by omega)]; exact a5, by rw [hb2.r 5 (by decide) (by omega)]; exact a6, by rw [hb2.r 10 (by decide) (by omega)]; exact a7, by rw [hb2.r 11 (by decide) (by omega)]; exact a8, fun k hk => by rw [hb2 _ (by omega) (by omega)]; exact a9 k hk, fun k hk => by rw [hb2 _ (by omega) (by omega)]; exact a10 k hk, fun k hk => by rw [hb2 _ (by omega) (by omega)]; exact a11 k hk, fun k hk => by rw [hb2 _ (by omega) (by omega)]; exact a12 k hk, fun k hk => by rw [hb2 _ (by omega) (by omega)]; exact a13 k hk⟩
  have e22 : (b 350 (2 : Int32).toNatClampNeg).toInt = rI (σ 350) 2 := by
    rw [show (2 : Int32).toNatClampNeg = 2 by decide, eb2]
    rfl
  have hwD := wnd_D hr (t := rI (σ 350) 2) (by omega) (by omega)
  refine p_X5_windOf rfl hrb (by rw [e22]; omega) (by rw [e22]; omega) ?_
  rw [e22, hb2.xwnd hr (by omega) (by omega)]
  refine p_X5_costBy hD hwD ⟨by rw [ti_in, e3]; omega, fun d hd => k d (funext fun j => ?_) fun j hj => by rw [hd, st2_row hj, bk j hj]⟩
  rw [ti_c, e3, show (1091 + 3 * (i : Int)).toNat = 1091 + 3 * i by omega, bj _ (by omega) (by omega)] at hd
  unfold mvR
  by_cases z1 : j = 1089 + 3 * i
  · rw [if_pos z1, hd, z1, st2_j (by omega), hb, st2_j (by omega), ha, st2_same]
  · rw [if_neg z1]
    by_cases z2 : j = 1090 + 3 * i
    · rw [if_pos z2, hd, z2, st2_j (by omega), hb, st2_same]
    · rw [if_neg z2]
      by_cases z3 : j = 1091 + 3 * i
      · rw [if_pos z3, hd, z3, st2_same]
      · rw [if_neg z3, hd, st2_j z3, bj j z1 z2]
