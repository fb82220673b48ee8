/-! a text: winds, tank, drifter, port, helper -/
theorem rfLB.S {y x t0 : Sg} (h : rfLB y x) (hx : rfS x t0) : rfS y t0 := ⟨fun c c1 c2 => (h.1 c c1 c2).trans (hx.1 c c1 c2), fun j j1 j2 j3 j4 j5 => (h.2.1 j j1 j2 j3).trans (hx.2.1 j j1 j2 j3 j4 j5), fun j hj => by rw [h.2.2 j hj]; exact hx.2.2 j hj⟩
section
variable {κ : Type} {S : κ → Prop} {F : Sg → Prop} {Kr : κ → Sg → Prop} {Kc : Int32 → Sg → Prop} {s0 t0 s : Sg} {B : Nat → Int32} {e a a2 : Nat} {w d p k : Bool} {ρ : Nat → Int32}
theorem p_directionsD {v1 v2 v3 f : Int32} {pl : Nat} {x : Sg} {K : Int32 → Sg → Prop} (h : FT x B e f pl) (hk : K 0 x) : m_X5_directions v1 v2 v3 x K := ⟨1, p_fine0 h.no ⟨fun _ => hk, fun z => absurd rfl z⟩⟩
theorem p_readsCellD {fl f : Int32} {pl : Nat} {x : Sg} {K : Sg → Prop} (h : FT x B e f pl) (hk : ∀ y, FT y B e f pl → rfB y x → K y) : m_X5_readsCell fl x K := by
  obtain ⟨⟨b, hb⟩, h6, h0, h7⟩ := h
  refine p_here hb fun y yB yf l hl => ?_
  have yF : FT y B e f pl := ⟨⟨_, yB⟩, by rw [yf.2 6 (by decide)]; exact h6, h0, by rw [yf.2 7 (by decide)]; exact h7⟩
  refine ⟨by rw [ti_in]; decide, p_numberD yF ⟨by rw [ti_in]; decide, p_numberD yF (p_fine0 yF.no ⟨fun _ z hz => ?_, fun g => absurd rfl g⟩)⟩⟩
  have zF := yF.set hz (by decide)
  exact p_fine0 zF.no ⟨fun _ => hk z zF ((show rfB z y from ⟨fun c hc => by rw [hz, st2_row hc], fun j _ _ _ j4 => by rw [hz, st2_j j4]⟩).trans yf.P.B), fun g => absurd rfl g⟩
theorem b_wind (hI : CI s0 s B e a false d p k ρ) (ha : rn isBl B e a2 = rn isBl B e a) (hF : ∀ x, F x → RI t0 x B e a2 true d p k ρ) (H : ∀ KR, (∀ x, F x → m_X5_directions 12 1 24 x (fun r64 s64 => (vp_in 10 1098 ∧ ∀ s67, s67 = st2 s64 351 (10 : Int32).toNatClampNeg r64 → m_X5_must 59 s67 (fun s => Kr KR s)))) → S KR) (ok : OkH S Kr Kc s0 t0 B e a) (bad : BadH S Kr Kc s0 t0 B e) : m_X2_readWind s Kc := by
  obtain ⟨hC, h9, ⟨f11, f12, f13, f14⟩, hD, hs0⟩ := hI
  refine ⟨fun _ v hv => ?_, fun z => absurd f13 z⟩
  have vC : CT v B e a := hC.mv (fun c hc => by rw [hv, st2_row hc]) (by rw [hv, st2_j (by decide)]) (by rw [hv, st2_j (by decide)]; exact hC.2.1) hC.2.2.1
  have vk : ∀ c, c ≠ 18 → v c = s c := fun c hc => by rw [hv, st2_row hc]
  refine b_dirs (r := 10 + 5) (to := 12) (most := 24) (c := 10) (least := 1) vC ha (fun x hx => (hF x hx).1) (Or.inl rfl) rfl (by decide) (by decide) rfl rfl rfl (by decide) rfl (by decide) H (fun u b n D hab hn dD uC uD u8 uf HK => ⟨fun _ q hq => ?_, fun z => absurd z one0⟩) (fun u f pl f0 u9 u10 uf HK => ⟨fun z => absurd rfl z, fun _ => bad u f pl f0 u9 u10 (fun c hc => by rw [uf c (by omega) (by omega), vk c (by omega)]; exact hs0 c hc) fun KR hK => HK KR fun y x hx yF yf => hK y yF (yf.S (hF x hx).2.2.2)⟩)
  have vD : DR v ρ d p k := hD.to fun c c1 c2 => vk c (by omega)
  have eN : (nI n).toInt = n := nI_toInt (by omega)
  have q18 : q 18 = u 18 := by rw [hq, st2_row (by decide)]
  have qD : DR q (fun j => if j = 10 then nI n else rD ρ 12 n D j) d p k := by
    have r10 : rI (fun j => if j = 10 then nI n else rD ρ 12 n D j) 10 = n := eN
    have r11 : (fun j => if j = 10 then nI n else rD ρ 12 n D j) 11 = ρ 11 := rfl
    refine vD.list (fun j j1 j2 hj => ?_) (by rw [r10]; omega) (by unfold rI; rw [r11]; exact hD.1.2.2.2.2.2.2.2.1) (fun i hi => ?_) (fun i hi => ?_) (fun c c1 c2 c3 c4 => by rw [hq, st2_row c1]; exact uf.1 c (by omega) c2) (fun j j1 j2 => by rw [hq, st2_j j1, uf.1 10 (by decide) (by decide)]) (by rw [hq, st2_same, u8]; rfl) ?_ (fun i hi => ?_) (fun i hi => ?_)
    · show (if j = 10 then nI n else rD ρ 12 n D j) = ρ j
      unfold rD
      rw [if_neg j1, if_neg (by omega)]
    · show isD (if 12 + i = 10 then nI n else rD ρ 12 n D (12 + i))
      rw [if_neg (by omega)]
      unfold rD
      by_cases z : 12 ≤ 12 + i ∧ 12 + i < 12 + n
      · rw [if_pos z]
        exact dD _ (by omega)
      · rw [if_neg z]
        exact hD.1.2.2.2.2.2.2.2.2.1 i hi
    · show isD (if 36 + i = 10 then nI n else rD ρ 12 n D (36 + i))
      rw [if_neg (by omega)]
      unfold rD
      rw [if_neg (by omega)]
      exact hD.1.2.2.2.2.2.2.2.2.2.1 i hi
    · rw [hq, st2_j (by decide), uf.1 10 (by decide) (by decide)]
      exact vD.2.1.2.2.1.2.2
    · rw [r10] at hi
      have g := uD i (by omega)
      rw [hq, st2_row (by decide)]
      show u 15 i = (if 12 + i = 10 then nI n else rD ρ 12 n D (12 + i))
      rw [if_neg (by omega)]
      unfold rD
      rw [if_pos (by omega), show 12 + i - 12 = i by omega]
      exact g
    · unfold rI at hi
      rw [r11] at hi
      have g := vD.2.1.2.2.2.2.2.2.2.1 i hi
      rw [hq, st2_row (by decide), uf.1 16 (by decide) (by decide)]
      show v 16 i = (if 36 + i = 10 then nI n else rD ρ 12 n D (36 + i))
      rw [if_neg (by omega)]
      unfold rD
      have hi12 : i < 12 := by
        have := hD.1.2.2.2.2.2.2.2.1
        unfold rI at this
        omega
      rw [if_neg (by omega)]
      exact g
  refine ok q b true d p k _ hab ⟨uC.other fun c hc _ => by rw [hq, st2_row (by omega)], ?_, ?_, qD, fun c hc => ?_⟩ fun KR hK => HK KR fun y x hx yT yf y351 => ?_
  · rw [q18, uf.2 9 (by decide) (by decide) (by decide) (by decide), uf.2 10 (by decide) (by decide) (by decide) (by decide), hv, st2_j (by decide), st2_j (by decide)]
    exact h9
  · rw [q18, uf.2 11 (by decide) (by decide) (by decide) (by decide), uf.2 12 (by decide) (by decide) (by decide) (by decide), uf.2 13 (by decide) (by decide) (by decide) (by decide), uf.2 14 (by decide) (by decide) (by decide) (by decide), hv, st2_j (by decide), st2_j (by decide), st2_same, st2_j (by decide)]
    exact ⟨f11, f12, rfl, f14⟩
  · rw [hq, st2_row (by omega), uf.1 c (by omega) (by omega), vk c (by omega)]
    exact hs0 c hc
  · obtain ⟨xT, x14, x351, xf⟩ := hF x hx
    have e351 : y 351 = fun j => if j = 10 then nI n else rD ρ 12 n D j := funext fun j => by rw [y351 j, x351]
    refine hK y ⟨yT, by rw [yf.2 14 (by decide)]; exact x14, e351, ⟨fun c c1 c2 => (yf.1 c c1 c2).trans (xf.1 c c1 c2), fun j j1 _ _ j4 j5 => (yf.2 j j1).trans (xf.2.1 j j1 ‹_› ‹_› j4 j5), fun j hj => by rw [e351]; exact qD.2.2.2.2.2.2.2.2 j hj⟩⟩
theorem b_tank (hI : CI s0 s B e a w d p false ρ) (ha : rn isBl B e a2 = rn isBl B e a) (hF : ∀ x, F x → RI t0 x B e a2 w d p true ρ) (H : ∀ KR, (∀ x, F x → m_X5_number 1 999 x (fun r212 s212 => (vp_in 4 1098 ∧ ∀ s215, s215 = st2 s212 351 (4 : Int32).toNatClampNeg r212 → m_X5_must 59 s215 (fun s => Kr KR s)))) → S KR) (ok : OkH S Kr Kc s0 t0 B e a) (bad : BadH S Kr Kc s0 t0 B e) : m_X2_readTank s Kc := by
  obtain ⟨hC, h9, ⟨f11, f12, f13, f14⟩, hD, hs0⟩ := hI
  refine ⟨fun _ v hv => ?_, fun z => absurd f14 z⟩
  have vC : CT v B e a := hC.mv (fun c hc => by rw [hv, st2_row hc]) (by rw [hv, st2_j (by decide)]) (by rw [hv, st2_j (by decide)]; exact hC.2.1) hC.2.2.1
  have vk : ∀ c, c ≠ 18 → v c = s c := fun c hc => by rw [hv, st2_row hc]
  have v4 : vp_in 4 1098 := by rw [ti_in]; decide
  refine b_num (a2 := a2) (F := F) (Kr := fun KR r212 s212 => (vp_in 4 1098 ∧ ∀ s215, s215 = st2 s212 351 (4 : Int32).toNatClampNeg r212 → m_X5_must 59 s215 (fun s => Kr KR s))) (fun _ => 1) (fun _ => 999) vC ha (fun x hx => ⟨(hF x hx).1, rfl, rfl⟩) (by decide) H (fun u b n hab h1 h2 uC u4 u5 uf HK => ⟨fun _ q hq => ?_, fun z => absurd z one0⟩) (fun u f pl f0 u9 u10 uf HK => ⟨fun z => absurd rfl z, fun _ => bad u f pl f0 u9 u10 (fun c hc => by rw [uf c (by omega), vk c (by omega)]; exact hs0 c hc) fun KR hK => HK KR fun y x r hx yF yf => ⟨v4, fun z hz => ?_⟩⟩)
  · have d999 : (999 : Int32).toInt = 999 := by decide
    rw [d1] at h1
    rw [d999] at h2
    have eN : (nI n).toInt = n := nI_toInt (by omega)
    have uk : ∀ c, c ≠ 18 → u c = s c := fun c hc => by rw [uf.1 c hc, vk c hc]
    have uD : DR u ρ d p false := hD.to fun c c1 c2 => uk c (by omega)
    have q18 : q 18 = u 18 := by rw [hq, st2_row (by decide)]
    rw [u5] at hq
    obtain ⟨⟨b0, b1, b2, b3, b4⟩, ⟨b5, b6⟩, -⟩ := uD.2.1
    have r : ∀ j, j ≠ 4 → (fun j => if j = 4 then nI n else ρ j) j = ρ j := fun j hj => if_neg hj
    have rr : ∀ j, j ≠ 4 → rI (fun j => if j = 4 then nI n else ρ j) j = rI ρ j := fun j hj => congrArg _ (r j hj)
    have r4 : rI (fun j => if j = 4 then nI n else ρ j) 4 = n := eN
    have qD : DR q (fun j => if j = 4 then nI n else ρ j) d p true := by
      refine uD.scal (fun j hj => r j (by omega)) (fun i i1 i2 => by rw [hq, st2_row (by omega)]) (fun j j3 _ _ _ => by rw [hq, st2_j j3]) (by rw [hq, st2_same]; rfl) (by rw [hq, st2_j (by decide)]; exact b4) (by rw [hq, st2_j (by decide), rr 6 (by decide), rr 7 (by decide)]; exact b5) (by rw [hq, st2_j (by decide), rr 8 (by decide), rr 9 (by decide)]; exact b6) (by rw [r4]; omega) (by rw [rr 5 (by decide)]; exact hD.1.2.2.2.2.2.1) (by rw [rr 6 (by decide), rr 7 (by decide)]; exact hD.2.2.2.1) (by rw [rr 8 (by decide), rr 9 (by decide)]; exact hD.2.2.2.2.1) (fun z => absurd z (by decide))
    refine b_fin (F := fun z => ∃ y x, F x ∧ RT y B e b ∧ rfO y x ∧ z = st2 y 351 4 (nI n)) (w := w) (d := d) (p := p) (k := true) (ρ := fun j => if j = 4 then nI n else ρ j) (a := b) (a0 := a) ⟨uC.other fun c hc _ => by rw [hq, st2_row (by omega)], ?_, ?_, qD, fun c hc => ?_⟩ (by omega) (fun z ⟨y, x, hx, yT, yf, hz⟩ => ?_) (fun KR hK => HK KR fun y x hx yT yf => ⟨v4, fun z hz => hK z ⟨y, x, hx, yT, yf, hz⟩⟩) ok bad
    · rw [q18, uf.2 9 (by decide) (by decide) (by decide), uf.2 10 (by decide) (by decide) (by decide), hv, st2_j (by decide), st2_j (by decide)]
      exact h9
    · rw [q18, uf.2 11 (by decide) (by decide) (by decide), uf.2 12 (by decide) (by decide) (by decide), uf.2 13 (by decide) (by decide) (by decide), uf.2 14 (by decide) (by decide) (by decide), hv, st2_j (by decide), st2_j (by decide), st2_j (by decide), st2_same]
      exact ⟨f11, f12, f13, rfl⟩
    · rw [hq, st2_row (by omega), uk c (by omega)]
      exact hs0 c hc
    · obtain ⟨xT, x14, x351, xf⟩ := hF x hx
      have zk : ∀ c, c ≠ 351 → z c = y c := fun c hc => by rw [hz, st2_row hc]
      have z351 : z 351 = fun j => if j = 4 then nI n else ρ j := funext fun j => by
        by_cases g : j = 4
        · rw [hz, if_pos g, g, st2_same]
        · rw [hz, if_neg g, st2_j g, yf.1 351 (by decide), x351]
      refine ⟨yT.row zk, by rw [zk 347 (by decide), yf.2 14 (by decide)]; exact x14, z351, rfS.row zk (yf.P.B.S xf) fun j hj => by rw [z351]; exact qD.2.2.2.2.2.2.2.2 j hj⟩
  · have zk : ∀ c, c ≠ 351 → z c = y c := fun c hc => by rw [hz, st2_row hc]
    have zF := yF.row zk
    exact p_mustD zF (hK z zF (rfS.row zk (yf.B.S (hF x hx).2.2.2) fun j hj => by rw [hz, show (4 : Int32).toNatClampNeg = 4 by decide, st2_j (by omega), yf.1 351 (by decide)]; exact (hF x hx).2.2.2.2.2 j hj))
theorem b_drifter (hI : CI s0 s B e a w false p k ρ) (ha : rn isBl B e a2 = rn isBl B e a) (hF : ∀ x, F x → RI t0 x B e a2 w true p k ρ) (H : ∀ KR, (∀ x, F x → m_X5_readsCell 0 x (fun s83 => (vp_in 6 1098 ∧ ∀ s99, s99 = st2 s83 351 (6 : Int32).toNatClampNeg ((s83 347 13) - (s83 347 13) / 20 * 20) → (vp_in 7 1098 ∧ ∀ s113, s113 = st2 s99 351 (7 : Int32).toNatClampNeg ((s99 347 13) / 20) → m_X5_number 0 9 s113 (fun r123 s123 => (vp_in 5 1098 ∧ ∀ s126, s126 = st2 s123 351 (5 : Int32).toNatClampNeg r123 → m_X5_must 59 s126 (fun s => Kr KR s))))))) → S KR) (ok : OkH S Kr Kc s0 t0 B e a) (bad : BadH S Kr Kc s0 t0 B e) : m_X2_readDrifter s Kc := by
  obtain ⟨hC, h9, ⟨f11, f12, f13, f14⟩, hD, hs0⟩ := hI
  have hr := hD.1
  have v5 : vp_in 5 1098 := by rw [ti_in]; decide
  have v6 : vp_in 6 1098 := by rw [ti_in]; decide
  have v7 : vp_in 7 1098 := by rw [ti_in]; decide
  have c6 : (6 : Int32).toNatClampNeg = 6 := by decide
  have c7 : (7 : Int32).toNatClampNeg = 7 := by decide
  have c5 : (5 : Int32).toNatClampNeg = 5 := by decide
  refine ⟨fun _ => ?_, fun z => absurd f11 z⟩
  -- the rest, a fault standing
  have dead : ∀ (KR : κ) (y : Sg) (f : Int32) (pl : Nat), FT y B e f pl → rfS y t0 → (∀ z, FT z B e f pl → rfS z t0 → Kr KR z) → ∀ r, (vp_in 5 1098 ∧ ∀ s126, s126 = st2 y 351 (5 : Int32).toNatClampNeg r → m_X5_must 59 s126 (fun s => Kr KR s)) := fun KR y f pl yF yf hK r => ⟨v5, fun z hz => by
    have zk : ∀ c, c ≠ 351 → z c = y c := fun c hc => by rw [hz, st2_row hc]
    have zF := yF.row zk
    exact p_mustD zF (hK z zF (rfS.row zk yf fun j hj => by rw [hz, c5, st2_j (by omega)]; exact yf.2.2 j hj))⟩
  refine b_cell0 (F := F) (Kr := fun KR s83 => (vp_in 6 1098 ∧ ∀ s99, s99 = st2 s83 351 (6 : Int32).toNatClampNeg ((s83 347 13) - (s83 347 13) / 20 * 20) → (vp_in 7 1098 ∧ ∀ s113, s113 = st2 s99 351 (7 : Int32).toNatClampNeg ((s99 347 13) / 20) → m_X5_number 0 9 s113 (fun r123 s123 => (vp_in 5 1098 ∧ ∀ s126, s126 = st2 s123 351 (5 : Int32).toNatClampNeg r123 → m_X5_must 59 s126 (fun s => Kr KR s)))))) hC ha hr hD.2.1 (fun x hx => ⟨(hF x hx).1, (hF x hx).2.2.1⟩) H ?_ ?_
  · intro u b q hab hq uC u6 uf HK
    have hP := onS_P hr hq.1
    obtain ⟨p1, p2⟩ := ofP hP
    refine ⟨fun _ g hg h hh => ?_, fun z => absurd z one0⟩
    have g6 : g 18 6 = clW (rI ρ 0) q := by rw [hg, st2_j (by decide)]; exact u6
    rw [g6] at hh
    have hC2 : CT h B e b := (uC.mv (u := g) (b := b) (fun c hc => by rw [hg, st2_row hc]) (by rw [hg, st2_j (by decide)]) (by rw [hg, st2_j (by decide)]; exact uC.2.1) uC.2.2.1).other fun c hc _ => by rw [hh, st2_row (by omega)]
    have h10 : ∀ j, h 10 j = if j = 5 then clW (rI ρ 0) q else s 10 j := fun j => by
      by_cases z : j = 5
      · rw [if_pos z, hh, z, st2_same]
      · rw [if_neg z, hh, st2_j z, hg, st2_row (by decide), uf.1 10 (by decide)]
    have hk : ∀ c, c ≠ 18 → c ≠ 10 → h c = s c := fun c c1 c2 => by rw [hh, st2_row c2, hg, st2_row c1, uf.1 c c1]
    have h18 : ∀ j, (j < 3 ∨ 7 < j) → j ≠ 11 → h 18 j = s 18 j := fun j j1 j2 => by rw [hh, st2_row (by decide), hg, st2_j j2, uf.2 j j1]
    have h1811 : h 18 11 = 1 := by rw [hh, st2_row (by decide), hg, st2_same]
    refine b_num (a2 := b) (F := fun z => ∃ y x, F x ∧ RT y B e b ∧ rfP y x ∧ (∀ c, c ≠ 351 → z c = y c) ∧ ∀ j, z 351 j = if j = 6 then Int32.ofInt q.1 else if j = 7 then Int32.ofInt q.2 else ρ j) (Kr := fun KR r123 s123 => (vp_in 5 1098 ∧ ∀ s126, s126 = st2 s123 351 (5 : Int32).toNatClampNeg r123 → m_X5_must 59 s126 (fun s => Kr KR s))) (fun _ => 0) (fun _ => 9) hC2 rfl (fun z ⟨y, x, hx, yT, yf, zk, z351⟩ => ⟨yT.row zk, rfl, rfl⟩) (by decide) (fun KR hK => HK KR fun y x hx yT y13 yf => ⟨v6, fun z hz => ⟨v7, fun v hv => hK v ⟨y, x, hx, yT, yf, fun c hc => by rw [hv, st2_row hc, hz, st2_row hc], fun j => ?_⟩⟩⟩) ?_ ?_
    · have z13 : z 347 13 = cl20 q := by rw [hz, st2_row (by decide)]; exact y13
      rw [c6, y13, ti_ext (cl20_x hP)] at hz
      rw [c7, z13, ti_ext (cl20_y hP)] at hv
      by_cases j7 : j = 7
      · rw [if_neg (by omega), if_pos j7, hv, j7, st2_same]
      · rw [hv, st2_j j7]
        by_cases j6 : j = 6
        · rw [if_pos j6, hz, j6, st2_same]
        · rw [if_neg j6, if_neg j7, hz, st2_j j6, yf.1 351 (by decide), (hF x hx).2.2.1]
    · intro i b2 n hab2 h1 h2 iC i4 i5 if' HK2
      have d9 : (9 : Int32).toInt = 9 := by decide
      rw [d9] at h2
      have eN : (nI n).toInt = n := nI_toInt (by omega)
      refine ⟨fun _ v hv => ?_, fun z => absurd z one0⟩
      rw [i5] at hv
      have v18 : v 18 = i 18 := by rw [hv, st2_row (by decide)]
      have vD : DR v (fun j => if j = 5 then nI n else if j = 6 then Int32.ofInt q.1 else if j = 7 then Int32.ofInt q.2 else ρ j) true p k := by
        have r : ∀ j, j ≠ 5 → j ≠ 6 → j ≠ 7 → (fun j => if j = 5 then nI n else if j = 6 then Int32.ofInt q.1 else if j = 7 then Int32.ofInt q.2 else ρ j) j = ρ j := fun j j5 j6 j7 => by
          show (if j = 5 then nI n else if j = 6 then Int32.ofInt q.1 else if j = 7 then Int32.ofInt q.2 else ρ j) = ρ j
          rw [if_neg j5, if_neg j6, if_neg j7]
        have rr : ∀ j, j ≠ 5 → j ≠ 6 → j ≠ 7 → rI (fun j => if j = 5 then nI n else if j = 6 then Int32.ofInt q.1 else if j = 7 then Int32.ofInt q.2 else ρ j) j = rI ρ j := fun j j5 j6 j7 => congrArg _ (r j j5 j6 j7)
        have eq : (rI (fun j => if j = 5 then nI n else if j = 6 then Int32.ofInt q.1 else if j = 7 then Int32.ofInt q.2 else ρ j) 6, rI (fun j => if j = 5 then nI n else if j = 6 then Int32.ofInt q.1 else if j = 7 then Int32.ofInt q.2 else ρ j) 7) = q := Prod.ext p1 p2
        obtain ⟨⟨b0, b1, b2, b3, b4⟩, ⟨b5, b6⟩, -⟩ := hD.2.1
        refine hD.scal (fun j hj => r j (by omega) (by omega) (by omega)) (fun x x1 x2 => by rw [hv, st2_row (by omega), if'.1 _ (by omega), hk _ (by omega) (by omega)]) (fun j j3 j4 j5 j6 => by rw [hv, st2_j j4, if'.1 10 (by decide), h10, if_neg j5]) (by rw [hv, st2_j (by decide), if'.1 10 (by decide), h10, if_neg (by decide)]; exact b3) (by rw [hv, st2_same]; rfl) (by rw [hv, st2_j (by decide), if'.1 10 (by decide), h10, if_pos rfl, eq]) (by rw [hv, st2_j (by decide), if'.1 10 (by decide), h10, if_neg (by decide), rr 8 (by decide) (by decide) (by decide), rr 9 (by decide) (by decide) (by decide)]; exact b6) (by rw [rr 4 (by decide) (by decide) (by decide)]; exact hr.2.2.2.2.1) (by show 0 ≤ (nI n).toInt ∧ (nI n).toInt ≤ 9; rw [eN]; omega) (fun _ => by rw [eq]; exact hq) (by rw [rr 8 (by decide) (by decide) (by decide), rr 9 (by decide) (by decide) (by decide)]; exact hD.2.2.2.2.1) (by rw [rr 4 (by decide) (by decide) (by decide)]; exact hD.2.2.2.2.2.2.2.1)
      refine b_fin (F := fun z => ∃ t y x, F x ∧ RT y B e b ∧ rfP y x ∧ (∀ c, c ≠ 351 → t c = y c) ∧ (∀ j, t 351 j = if j = 6 then Int32.ofInt q.1 else if j = 7 then Int32.ofInt q.2 else ρ j) ∧ ∃ o, RT o B e b2 ∧ rfO o t ∧ z = st2 o 351 5 (nI n)) (w := w) (d := true) (p := p) (k := k) (ρ := fun j => if j = 5 then nI n else if j = 6 then Int32.ofInt q.1 else if j = 7 then Int32.ofInt q.2 else ρ j) (a := b2) (a0 := a) ⟨iC.other fun c hc _ => by rw [hv, st2_row (by omega)], ?_, ?_, vD, fun c hc => ?_⟩ (by omega) ?_ (fun KR hK => HK2 KR fun o t ⟨y, x, hx, yT, yf, tk, t351⟩ oT of => ⟨v5, fun z hz => hK z ⟨t, y, x, hx, yT, yf, tk, t351, o, oT, of, hz⟩⟩) ok bad
      · rw [v18, if'.2 9 (by decide) (by decide) (by decide), if'.2 10 (by decide) (by decide) (by decide), h18 9 (by omega) (by decide), h18 10 (by omega) (by decide)]
        exact h9
      · rw [v18, if'.2 11 (by decide) (by decide) (by decide), if'.2 12 (by decide) (by decide) (by decide), if'.2 13 (by decide) (by decide) (by decide), if'.2 14 (by decide) (by decide) (by decide), h1811, h18 12 (by omega) (by decide), h18 13 (by omega) (by decide), h18 14 (by omega) (by decide)]
        exact ⟨rfl, f12, f13, f14⟩
      · rw [hv, st2_row (by omega), if'.1 c (by omega), hk c (by omega) (by omega)]
        exact hs0 c hc
      · intro z ⟨t, y, x, hx, yT, yf, tk, t351, o, oT, of, hz⟩
        obtain ⟨xT, x14, x351, xf⟩ := hF x hx
        have zk : ∀ c, c ≠ 351 → z c = o c := fun c hc => by rw [hz, st2_row hc]
        have z351 : z 351 = fun j => if j = 5 then nI n else if j = 6 then Int32.ofInt q.1 else if j = 7 then Int32.ofInt q.2 else ρ j := funext fun j => by
          by_cases g : j = 5
          · rw [hz, if_pos g, g, st2_same]
          · rw [hz, if_neg g, st2_j g, of.1 351 (by decide), t351]
        have tS : rfS t t0 := rfS.row tk (yf.B.S xf) fun j hj => by
          rw [t351, if_neg (by omega), if_neg (by omega)]
          exact hD.2.2.2.2.2.2.2.2 j hj
        refine ⟨oT.row zk, by rw [zk 347 (by decide), of.2 14 (by decide), tk 347 (by decide), yf.2 14 (by decide) (by decide)]; exact x14, z351, rfS.row zk (of.P.B.S tS) fun j hj => by rw [z351]; exact vD.2.2.2.2.2.2.2.2 j hj⟩
    · intro i f pl f0 i9 i10 if' HK2
      refine ⟨fun z => absurd rfl z, fun _ => bad i f pl f0 i9 i10 (fun c hc => by rw [if' c (by omega), hk c (by omega) (by omega)]; exact hs0 c hc) fun KR hK => HK2 KR fun o t r ⟨y, x, hx, yT, yf, tk, t351⟩ oF of => ?_⟩
      have tS : rfS t t0 := rfS.row tk (yf.B.S (hF x hx).2.2.2) fun j hj => by
        rw [t351, if_neg (by omega), if_neg (by omega)]
        exact hD.2.2.2.2.2.2.2.2 j hj
      exact dead KR o f pl oF (of.B.S tS) hK r
  · intro u f pl f0 u9 u10 uf HK
    have B1 := bad u f pl f0 u9 u10 (fun c hc => by rw [uf c (by omega)]; exact hs0 c hc) fun KR hK => HK KR fun y x hx yF yf => ⟨v6, fun z hz => ⟨v7, fun v hv => by
      have zk : ∀ c, c ≠ 351 → v c = y c := fun c hc => by rw [hv, st2_row hc, hz, st2_row hc]
      have vF := yF.row zk
      exact p_numberD vF (dead KR v f pl vF (rfS.row zk (yf.S (hF x hx).2.2.2) fun j hj => by rw [hv, c7, st2_j (by omega), hz, c6, st2_j (by omega), yf.1 351 (by decide)]; exact (hF x hx).2.2.2.2.2 j hj) hK 0)⟩⟩
    exact ⟨B1, fun z => absurd rfl z, fun _ => B1⟩
end
