/-! hour: it goes by -/
theorem base.xokR {ρ' ρ : Nat → Int32} (h : base ρ' ρ) (hr : okR ρ) (ht : 0 ≤ rI ρ' 2 ∧ rI ρ' 2 ≤ 500) : okR ρ' := by
  obtain ⟨a1, a2, a3, a4, a5, a6, a7, a8, a9, a10, a11, a12, a13⟩ := hr
  exact ⟨by rw [h.r 0 (by decide) (by omega)]; exact a1, by rw [h.r 1 (by decide) (by omega)]; exact a2, ht, by rw [h.r 3 (by decide) (by omega)]; exact a4, by rw [h.r 4 (by decide) (by omega)]; exact a5, by rw [h.r 5 (by decide) (by omega)]; exact a6, by rw [h.r 10 (by decide) (by omega)]; exact a7, by rw [h.r 11 (by decide) (by omega)]; exact a8, fun k hk => by rw [h _ (by omega) (by omega)]; exact a9 k hk, fun k hk => by rw [h _ (by omega) (by omega)]; exact a10 k hk, fun k hk => by rw [h _ (by omega) (by omega)]; exact a11 k hk, fun k hk => by rw [h _ (by omega) (by omega)]; exact a12 k hk, fun k hk => by rw [h _ (by omega) (by omega)]; exact a13 k hk⟩
def psD (ρ : Nat → Int32) : Nat → Int32 := fun j => if j = 6 then Int32.ofInt (drf ρ (rI ρ 6, rI ρ 7) (rI ρ 2)).1 else if j = 7 then Int32.ofInt (drf ρ (rI ρ 6, rI ρ 7) (rI ρ 2)).2 else ρ j
def psR (ρ : Nat → Int32) : Nat → Int32 := fun j => if j = 6 then Int32.ofInt (drf ρ (rI ρ 6, rI ρ 7) (rI ρ 2)).1 else if j = 7 then Int32.ofInt (drf ρ (rI ρ 6, rI ρ 7) (rI ρ 2)).2 else if j = 8 then Int32.ofInt (prt ρ (rI ρ 8, rI ρ 9) (rI ρ 2)).1 else if j = 9 then Int32.ofInt (prt ρ (rI ρ 8, rI ρ 9) (rI ρ 2)).2 else if j = 2 then ρ 2 + 1 else ρ j
theorem psR_base (ρ : Nat → Int32) : base (psR ρ) ρ := fun j h1 h2 => by
  unfold psR
  rw [if_neg (by omega), if_neg (by omega), if_neg (by omega), if_neg (by omega), if_neg (by omega)]
theorem psD_base (ρ : Nat → Int32) : base (psD ρ) ρ := fun j h1 h2 => by
  unfold psD
  rw [if_neg (by omega), if_neg (by omega)]
theorem psD_v (ρ : Nat → Int32) (hq : okQ ρ) : (rI (psD ρ) 6, rI (psD ρ) 7) = drf ρ (rI ρ 6, rI ρ 7) (rI ρ 2) ∧ ∀ j, j ≠ 6 → j ≠ 7 → psD ρ j = ρ j := by
  obtain ⟨a, b⟩ := ofP (onS_P hq.1 (drf_wat (p := (rI ρ 6, rI ρ 7)) hq.2.1 (rI ρ 2)).1)
  refine ⟨Prod.ext ?_ ?_, fun j j1 j2 => by unfold psD; rw [if_neg j1, if_neg j2]⟩
  · exact a
  · exact b
theorem psR_v (ρ : Nat → Int32) (hq : okQ ρ) : (rI (psR ρ) 6, rI (psR ρ) 7) = drf ρ (rI ρ 6, rI ρ 7) (rI ρ 2) ∧ (rI (psR ρ) 8, rI (psR ρ) 9) = prt ρ (rI ρ 8, rI ρ 9) (rI ρ 2) ∧ psR ρ 2 = ρ 2 + 1 ∧ ∀ j, 10 ≤ j → psR ρ j = ρ j := by
  obtain ⟨a, b⟩ := ofP (onS_P hq.1 (drf_wat (p := (rI ρ 6, rI ρ 7)) hq.2.1 (rI ρ 2)).1)
  obtain ⟨c, d⟩ := ofP (onS_P hq.1 (prt_wat (p := (rI ρ 8, rI ρ 9)) hq.2.2.1 (rI ρ 2)).1)
  exact ⟨Prod.ext a b, Prod.ext c d, rfl, fun j hj => by unfold psR; rw [if_neg (by omega), if_neg (by omega), if_neg (by omega), if_neg (by omega), if_neg (by omega)]⟩
theorem psR_okQ {ρ : Nat → Int32} (hq : okQ ρ) (ht : rI ρ 2 < 500) : okQ (psR ρ) := by
  obtain ⟨e1, e2, e3, e4⟩ := psR_v ρ hq
  have h2 := hq.1.2.2.1
  have et : rI (psR ρ) 2 = rI ρ 2 + 1 := by
    unfold rI at h2 ht ⊢
    rw [e3, ti_add (by rw [d1]; omega) (by rw [d1]; omega), d1]
  refine (psR_base ρ).xokQ hq (by omega) (by rw [e1]; exact drf_wat (p := (rI ρ 6, rI ρ 7)) hq.2.1 _) (by rw [e2]; exact prt_wat (p := (rI ρ 8, rI ρ 9)) hq.2.2.1 _) fun i hi => ?_
  have eh : hAt (psR ρ) i = hAt ρ i := by unfold hAt rI; rw [e4 _ (by omega), e4 _ (by omega)]
  have ef : fAt (psR ρ) i = fAt ρ i := by unfold fAt rI; rw [e4 _ (by omega)]
  rw [eh, ef]
  exact hq.2.2.2.1 i hi
theorem p_passHour {σ : Sg} {ρ : Nat → Int32} {K : Sg → Prop} (hq : okQ ρ) (hw : Rw σ 2 ρ) (ht : rI ρ 2 < 500) (k : ∀ u : Sg, Rw u 2 (psR ρ) → (∀ j, j ≠ 2 → u j = σ j) → K u) : m_X3_passHour 2 σ K := by
  have hr := hq.1
  have h2 := hr.2.2.1
  obtain ⟨v1, v2, v3, v4⟩ := psR_v ρ hq
  obtain ⟨c1, c2⟩ := psD_v ρ hq
  unfold m_X3_passHour
  rw [hw.2.1.1, hw.1.2.2.1]
  refine p_X3_drifterBehind (p := (rI ρ 6, rI ρ 7)) W_2 hw hr hq.2.1.1 (show 0 ≤ rI ρ 2 by omega) (show rI ρ 2 ≤ 560 by omega) fun a ha => ?_
  have eD : rI (psD ρ) 2 = rI ρ 2 := congrArg _ (c2 2 (by decide) (by decide))
  have hrD : okR (psD ρ) := (psD_base ρ).xokR hr (by rw [eD]; exact h2)
  have hwD : Rw a 2 (psD ρ) := by
    refine (psD_base ρ).xrw hr hw (fun j j1 j2 j3 => by rw [ha, st2_j j2]) ?_ ?_ ?_ (fun i hi => ?_) (fun i i1 i2 => by rw [ha, st2_row (by omega)])
    · rw [ha, st2_j (by decide), hw.1.2.2.1, c2 2 (by decide) (by decide)]
    · rw [ha, st2_same, c1]
      rfl
    · rw [ha, st2_j (by decide), show rI (psD ρ) 8 = rI ρ 8 from congrArg _ (c2 8 (by decide) (by decide)), show rI (psD ρ) 9 = rI ρ 9 from congrArg _ (c2 9 (by decide) (by decide))]
      exact hw.2.1.2
    · rw [ha, st2_row (by decide), st2_row (by decide), show rI (psD ρ) (1089 + 3 * i) = rI ρ (1089 + 3 * i) from congrArg _ (c2 _ (by omega) (by omega)), show rI (psD ρ) (1090 + 3 * i) = rI ρ (1090 + 3 * i) from congrArg _ (c2 _ (by omega) (by omega)), c2 _ (by omega) (by omega)]
      exact hw.2.2.2.1 i hi
  have r0 : rI (psD ρ) 0 = rI ρ 0 := congrArg _ (c2 0 (by decide) (by decide))
  have g : m_X3_portBehind 2 (clW (rI (psD ρ) 0) (rI ρ 8, rI ρ 9)) (ρ 2) a (fun r26 s26 => (∀ s29, s29 = st2 s26 2 6 r26 → (∀ s39, s39 = st2 s29 2 2 ((s29 2 2) + 1) → K s39))) := by
    refine p_X3_portBehind (p := (rI ρ 8, rI ρ 9)) W_2 hwD hrD (by rw [(psD_base ρ).xonS]; exact hq.2.2.1.1) (show 0 ≤ rI ρ 2 by omega) fun b hb d hd => ?_
    rw [(psD_base ρ).xprt hr, r0] at hb
    have d2 : d 2 2 = ρ 2 + 1 := by rw [hd, st2_same, hb, st2_j (by decide), ha, st2_j (by decide), hw.1.2.2.1]
    refine k d ((psR_base ρ).xrw hr hw (fun j j1 j2 j3 => by rw [hd, st2_j j1, hb, st2_j j3, ha, st2_j j2]) (by rw [d2, v3]) ?_ ?_ (fun i hi => ?_) (fun i i1 i2 => by rw [hd, st2_row (by omega), hb, st2_row (by omega), ha, st2_row (by omega)])) (fun j hj => by rw [hd, st2_row hj, hb, st2_row hj, ha, st2_row hj])
    · rw [hd, st2_j (by decide), hb, st2_j (by decide), ha, st2_same, v1]
      rfl
    · rw [hd, st2_j (by decide), hb, st2_same, v2]
      rfl
    · rw [hd, st2_row (by decide), hb, st2_row (by decide), ha, st2_row (by decide), st2_row (by decide), st2_row (by decide), st2_row (by decide), show rI (psR ρ) (1089 + 3 * i) = rI ρ (1089 + 3 * i) from congrArg _ (v4 _ (by omega)), show rI (psR ρ) (1090 + 3 * i) = rI ρ (1090 + 3 * i) from congrArg _ (v4 _ (by omega)), v4 _ (by omega)]
      exact hw.2.2.2.1 i hi
  rw [r0] at g
  have e6 : a 2 6 = clW (rI ρ 0) (rI ρ 8, rI ρ 9) := by rw [ha, st2_j (by decide)]; exact hw.2.1.2
  have e2 : a 2 2 = ρ 2 := by rw [ha, st2_j (by decide)]; exact hw.1.2.2.1
  rw [← e6, ← e2] at g
  exact g
/-- who meets, as bits -/
def bts (ρ : Nat → Int32) : Nat → Int32
  | 0 => 0
  | n + 1 => if hAt ρ n = (rI ρ 6, rI ρ 7) then bts ρ n ||| (1 <<< (nI n &&& 31)) else bts ρ n
theorem p_meetingBits {σ : Sg} {ρ : Nat → Int32} {K : Int32 → Sg → Prop} (hq : okQ ρ) (hw : Rw σ 2 ρ) (k : K (bts ρ (rI ρ 3).toNat) σ) : m_X3_meetingBits 2 σ K := by
  have hr := hq.1
  have hm := hr.2.2.2.1
  obtain ⟨N, hN⟩ : ∃ N : Nat, rI ρ 3 = N := ⟨(rI ρ 3).toNat, by omega⟩
  rw [hN, show ((N : Int)).toNat = N by omega] at k
  have e7 : (σ 2 7).toInt = rI ρ 3 := congrArg _ hw.2.2.1.1
  have key : ∀ m i : Nat, i + m = N → m_X3_meetingBits_l4 2 K (m + 1) (bts ρ i) (nI i) σ := by
    intro m
    induction m with
    | zero =>
      intro i hi
      have ei := nI_toInt (n := i) (by omega)
      have : i = N := by omega
      subst this
      refine ⟨fun _ => k, fun z => ?_⟩
      rw [ti_le, e7, ei] at z
      omega
    | succ m ih =>
      intro i hi
      have ei := nI_toInt (n := i) (by omega)
      obtain ⟨q1, -⟩ := hw.2.2.2.1 i (by omega)
      have hS := (hq.2.2.2.1 i (by omega)).1.1
      refine ⟨fun z => ?_, fun _ => p_X4_read (W_L1 W_2) (by decide) (by omega) (by omega) ?_⟩
      · rw [ti_le, e7, ei] at z
        omega
      · rw [ei, show ((i : Int)).toNat = i by omega, q1, hw.2.1.1, ← nI_succ]
        have nx := ih (i + 1) (by omega)
        unfold bts at nx
        refine ⟨fun z => ?_, fun z l hl => ?_⟩
        · rw [if_neg (fun e => z (by rw [show (rI ρ (1089 + 3 * i), rI ρ (1090 + 3 * i)) = hAt ρ i from rfl, e]))] at nx
          exact nx
        · rw [if_pos (clW_inj hr hS hq.2.1.1 z)] at nx
          rw [hl]
          exact nx
  exact ⟨N + 1, key N 0 (by omega)⟩
/-! the reference's hour -/
def mvs (ρ : Nat → Int32) (cs : Nat → Int32) : Nat → Nat → Int32
  | 0 => ρ
  | n + 1 => mvH (mvs ρ cs n) n (cs n)
theorem mvs_ok {ρ : Nat → Int32} {cs : Nat → Int32} (hq : okQ ρ) (hc : ∀ h, h < 3 → crB ρ h (cs h) = true) (hg : ∀ h, h < 3 → goB ρ h (cs h) = true) : ∀ n, n ≤ 3 → okQ (mvs ρ cs n) ∧ rI (mvs ρ cs n) 3 = rI ρ 3 ∧ rI (mvs ρ cs n) 2 = rI ρ 2 ∧ (∀ h, h < 3 → crB (mvs ρ cs n) h (cs h) = true) ∧ (∀ h, n ≤ h → h < 3 → goB (mvs ρ cs n) h (cs h) = true) ∧ (∀ j, 1098 ≤ j → mvs ρ cs n j = ρ j)
  | 0, _ => ⟨hq, rfl, rfl, hc, fun h _ h3 => hg h h3, fun _ _ => rfl⟩
  | n + 1, hn => by
    obtain ⟨a1, a2, a3, a4, a5, a6⟩ := mvs_ok hq hc hg n (by omega)
    unfold mvs mvH
    by_cases z : (n : Int) < rI (mvs ρ cs n) 3
    · rw [if_pos z]
      refine ⟨mvR_okQ a1 (by omega) z (a4 n (by omega)) (a5 n (Nat.le_refl _) (by omega)), ?_, ?_, fun h h3 => ?_, fun h h1 h3 => ?_, fun j hj => ?_⟩
      · rw [← a2]
        exact congrArg _ (mvR_ne (by omega))
      · rw [← a3]
        exact congrArg _ (mvR_ne (by omega))
      · rw [mvR_cr (by omega)]
        exact a4 h h3
      · rw [mvR_go a1.1 (by omega) (by omega)]
        exact a5 h (by omega) h3
      · rw [mvR_ne (by omega)]
        exact a6 j hj
    · rw [if_neg z]
      exact ⟨a1, a2, a3, a4, fun h h1 h3 => a5 h (by omega) h3, a6⟩
theorem mvs_stop {ρ : Nat → Int32} {cs : Nat → Int32} {N : Nat} (h : ∀ n, n ≤ 3 → rI (mvs ρ cs n) 3 = N) : ∀ m, N + m ≤ 3 → mvs ρ cs (N + m) = mvs ρ cs N
  | 0, _ => rfl
  | m + 1, hm => by
    show mvH (mvs ρ cs (N + m)) (N + m) (cs (N + m)) = _
    unfold mvH
    rw [if_neg (by rw [h (N + m) (by omega)]; omega)]
    exact mvs_stop h m (by omega)
theorem p_hourM {t : Sg} {ρ : Nat → Int32} {one two three : Int32} {K : Int32 → Sg → Prop} (cs : Nat → Int32) (c0 : cs 0 = one) (c1 : cs 1 = two) (c2 : cs 2 = three) (h350 : t 350 = ρ) (hq : okQ ρ) (ht : rI ρ 2 < 500) (hc : ∀ h, h < 3 → crB ρ h (cs h) = true) (hg : ∀ h, h < 3 → goB ρ h (cs h) = true)
    (k : ∀ u : Sg, u 350 = psR (mvs ρ cs 3) → (∀ j, j ≠ 350 → u j = t j) → K (bts (psR (mvs ρ cs 3)) (rI ρ 3).toNat) u) : ∃ n9, m_X5_hour_l111 one two three K n9 0 0 t := by
  have hm := hq.1.2.2.2.1
  obtain ⟨N, hN⟩ : ∃ N : Nat, rI ρ 3 = N := ⟨(rI ρ 3).toNat, by omega⟩
  have ok := mvs_ok hq hc hg
  have stop := mvs_stop (ρ := ρ) (cs := cs) (N := N) (fun n hn => by rw [(ok n hn).2.1, hN]) (3 - N) (by omega)
  rw [show N + (3 - N) = 3 by omega] at stop
  rw [hN, show ((N : Int)).toNat = N by omega, stop] at k
  have key : ∀ m i : Nat, i + m = N → ∀ x : Sg, x 350 = mvs ρ cs i → (∀ j, j ≠ 350 → x j = t j) → m_X5_hour_l111 one two three K (m + 1) 0 (nI i) x := by
    intro m
    induction m with
    | zero =>
      intro i hi x x1 x2
      have ei := nI_toInt (n := i) (by omega)
      have : i = N := by omega
      subst this
      obtain ⟨oq, o3, o2, -, -, -⟩ := ok i (by omega)
      have or' := oq.1
      have hh := or'.2.2.1
      have v3 : vp_in 3 1098 := by rw [ti_in]; decide
      refine ⟨v3, fun _ => ?_, fun z => ?_⟩
      · have hD := onS_P (p := (rI (mvs ρ cs i) 6, rI (mvs ρ cs i) 7)) or' oq.2.1.1
        have hPt := onS_P (p := (rI (mvs ρ cs i) 8, rI (mvs ρ cs i) 9)) or' oq.2.2.1.1
        have wD := drf_wat (p := (rI (mvs ρ cs i) 6, rI (mvs ρ cs i) 7)) oq.2.1 (rI (mvs ρ cs i) 2)
        have wP := prt_wat (p := (rI (mvs ρ cs i) 8, rI (mvs ρ cs i) 9)) oq.2.2.1 (rI (mvs ρ cs i) 2)
        have pD := onS_P or' wD.1
        have pP := onS_P or' wP.1
        refine p_X5_drifterCell (by rw [x1]; exact oq) ⟨by rw [ti_in]; decide, ?_⟩
        rw [x1, show (2 : Int32).toNatClampNeg = 2 by decide, show (8 : Int32).toNatClampNeg = 8 by decide, show (9 : Int32).toNatClampNeg = 9 by decide, show (6 : Int32).toNatClampNeg = 6 by decide, show (7 : Int32).toNatClampNeg = 7 by decide]
        refine p_X5_drifted rfl (by rw [x1]; exact or') hD (show 0 ≤ rI (mvs ρ cs i) 2 by omega) (show rI (mvs ρ cs i) 2 ≤ 560 by omega) ⟨by rw [ti_in]; decide, by rw [ti_in]; decide, ?_⟩
        unfold m_X5_cellAt
        rw [x1, cl20_of (ρ := mvs ρ cs i) hPt]
        refine ⟨by rw [ti_in]; decide, p_X5_portBehind rfl (by rw [x1]; exact or') hPt (by rw [x1]; show 0 ≤ rI (mvs ρ cs i) 2; omega) ⟨by rw [ti_in]; decide, fun a ha => ⟨by rw [ti_in]; decide, fun b hb => ⟨by rw [ti_in]; decide, fun c hc' => ⟨by rw [ti_in]; decide, fun d hd => ⟨by rw [ti_in]; decide, by rw [ti_in]; decide, fun e he => ⟨i + 1, ?_⟩⟩⟩⟩⟩⟩⟩
        rw [x1] at hc' hd
        have pre : rI (mvs ρ cs i) 2 = (mvs ρ cs i 2).toInt := rfl
        rw [← pre] at ha hb hc' hd ⊢
        rw [ti_ext (cl20_x pD)] at ha
        rw [ti_ext (cl20_y pD)] at hb
        rw [ti_ext (cl20_x pP)] at hc'
        rw [ti_ext (cl20_y pP)] at hd
        have e350 : e 350 = psR (mvs ρ cs i) := funext fun j => by
          unfold psR
          by_cases z6 : j = 6
          · rw [if_pos z6, z6, he, st2_j (by decide), hd, st2_j (by decide), hc', st2_j (by decide), hb, st2_j (by decide), ha, st2_same]
          · rw [if_neg z6]
            by_cases z7 : j = 7
            · rw [if_pos z7, z7, he, st2_j (by decide), hd, st2_j (by decide), hc', st2_j (by decide), hb, st2_same]
            · rw [if_neg z7]
              by_cases z8 : j = 8
              · rw [if_pos z8, z8, he, st2_j (by decide), hd, st2_j (by decide), hc', st2_same]
              · rw [if_neg z8]
                by_cases z9 : j = 9
                · rw [if_pos z9, z9, he, st2_j (by decide), hd, st2_same]
                · rw [if_neg z9]
                  by_cases z2 : j = 2
                  · rw [if_pos z2, z2, he, st2_same, hd, st2_j (by decide), hc', st2_j (by decide), hb, st2_j (by decide), ha, st2_j (by decide), x1]
                  · rw [if_neg z2, he, st2_j z2, hd, st2_j z9, hc', st2_j z8, hb, st2_j z7, ha, st2_j z6, x1]
        have ek : ∀ j, j ≠ 350 → e j = t j := fun j hj => by rw [he, st2_row hj, hd, st2_row hj, hc', st2_row hj, hb, st2_row hj, ha, st2_row hj, x2 j hj]
        have pq := psR_okQ oq (by omega)
        have p3 : rI (psR (mvs ρ cs i)) 3 = i := by rw [(psR_base (mvs ρ cs i)).r 3 (by decide) (by omega), o3, hN]
        have fin : ∀ m n : Nat, n + m = i → m_X5_hour_l266 one two three K (m + 1) (bts (psR (mvs ρ cs i)) n) (cl20 (drf (mvs ρ cs i) (rI (mvs ρ cs i) 6, rI (mvs ρ cs i) 7) (rI (mvs ρ cs i) 2))) (nI n) e := by
          intro m
          induction m with
          | zero =>
            intro n hn
            have en := nI_toInt (n := n) (by omega)
            have : n = i := by omega
            subst this
            refine ⟨v3, fun _ => k e e350 ek, fun z => ?_⟩
            rw [show (3 : Int32).toNatClampNeg = 3 by decide, e350, ti_le, en] at z
            unfold rI at p3
            omega
          | succ m ih =>
            intro n hn
            have en := nI_toInt (n := n) (by omega)
            refine ⟨v3, fun z => ?_, fun _ => ?_⟩
            · rw [show (3 : Int32).toNatClampNeg = 3 by decide, e350, ti_le, en] at z
              unfold rI at p3
              omega
            · obtain ⟨j, j3, hj, f0, f1, f2, f3⟩ := hix (h := nI n) pq.1 (by rw [en]; omega)
              have enj : j = n := by
                have := congrArg Int32.toInt f0
                rw [en, nI_toInt (by omega)] at this
                omega
              subst enj
              refine p_X5_helperCell (by rw [e350]; exact pq) j (by rw [e350]; exact hj) f1 f2 ?_
              rw [e350, ← nI_succ]
              have nx := ih (j + 1) (by omega)
              unfold bts at nx
              have hv := (psR_v (mvs ρ cs i) oq).1
              rw [hv] at nx
              have hPj := onS_P pq.1 (pq.2.2.2.1 j hj).1.1
              refine ⟨fun z l hl => ?_, fun z l hl => ?_⟩
              · rw [if_neg (fun e => z (by rw [e]))] at nx
                rw [hl, Int32.or_zero]
                exact nx
              · rw [if_pos (cl20_inj hPj pD z)] at nx
                rw [hl]
                exact nx
        exact fin i 0 (by omega)
      · rw [show (3 : Int32).toNatClampNeg = 3 by decide, x1, ti_le, ei] at z
        unfold rI at o3 hN
        omega
    | succ m ih =>
      intro i hi x x1 x2
      have ei := nI_toInt (n := i) (by omega)
      obtain ⟨oq, o3, o2, o4, o5, -⟩ := ok i (by omega)
      have him : (i : Int) < rI (mvs ρ cs i) 3 := by omega
      have go : m_X5_helperGoes (nI i) (cs i) x (fun s145 => m_X5_hour_l111 one two three K (m + 1) 0 (nI i + 1) s145) := by
        refine p_helperGoes (by rw [x1]; exact oq) (by omega) (by rw [x1]; exact him) (by rw [x1]; exact o4 i (by omega)) (by rw [x1]; exact o5 i (Nat.le_refl _) (by omega)) fun u u1 u2 => ?_
        rw [← nI_succ]
        refine ih (i + 1) (by omega) u ?_ fun j hj => (u2 j hj).trans (x2 j hj)
        rw [u1, x1]
        show _ = mvH (mvs ρ cs i) i (cs i)
        unfold mvH
        rw [if_pos him]
      refine ⟨by rw [ti_in]; decide, fun z => ?_, fun _ => ⟨fun y => ⟨fun w => ?_, fun w => ?_⟩, fun y => ?_⟩⟩
      · rw [show (3 : Int32).toNatClampNeg = 3 by decide, x1, ti_le, ei] at z
        unfold rI at o3 hN
        omega
      · have i2 : i = 2 := by
          have a : i ≠ 0 := fun e => y (by rw [e]; rfl)
          have b : i ≠ 1 := fun e => w (by rw [e]; rfl)
          omega
        rw [i2, c2] at go
        rw [i2]
        exact go
      · have i1 : i = 1 := by
          rw [ti_eq, ei, d1] at w
          omega
        rw [i1, c1] at go
        rw [i1]
        exact go
      · have i0 : i = 0 := by
          rw [ti_eq, ei, d0] at y
          omega
        rw [i0, c0] at go
        rw [i0]
        exact go
  exact ⟨N + 1, key N 0 (by omega) t h350 fun _ _ => rfl⟩
