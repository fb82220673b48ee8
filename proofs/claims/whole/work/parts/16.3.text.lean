/-! text: the obligation -/
/-- the reference's state as its reading begins -/
def tbS (σ : Sg) (n : Int32) : Sg := st2 (st2 (st2 (st2 (st2 (st2 (st2 σ 347 0 0) 347 2 0) 347 3 n) 347 4 0) 347 6 0) 347 7 (-1)) 347 14 0
theorem tbS_row {σ : Sg} {n : Int32} {c : Nat} (h : c ≠ 347) : tbS σ n c = σ c := by
  unfold tbS
  rw [st2_row h, st2_row h, st2_row h, st2_row h, st2_row h, st2_row h, st2_row h]
theorem tbS_j {σ : Sg} {n : Int32} {j : Nat} (h : j ≠ 0 ∧ j ≠ 2 ∧ j ≠ 3 ∧ j ≠ 4 ∧ j ≠ 6 ∧ j ≠ 7 ∧ j ≠ 14) : tbS σ n 347 j = σ 347 j := by
  unfold tbS
  rw [st2_j h.2.2.2.2.2.2, st2_j h.2.2.2.2.2.1, st2_j h.2.2.2.2.1, st2_j h.2.2.2.1, st2_j h.2.2.1, st2_j h.2.1, st2_j h.1]
theorem tbS_v {σ : Sg} {n : Int32} : tbS σ n 347 0 = 0 ∧ tbS σ n 347 2 = 0 ∧ tbS σ n 347 3 = n ∧ tbS σ n 347 4 = 0 ∧ tbS σ n 347 6 = 0 ∧ tbS σ n 347 7 = -1 ∧ tbS σ n 347 14 = 0 := ⟨rfl, rfl, rfl, rfl, rfl, rfl, rfl⟩
/-- the reference's reading -/
def SR (v1 : Int32) (σ : Sg) (KR : Int32 → Sg → Prop) : Prop := m_X5_begins 351 (tbS σ v1) (fun s67 => m_X5_takes 20 s67 (fun r73 s73 => ((¬ r73 = 0 → m_X5_text_j88 v1 KR s73) ∧ (r73 = 0 → m_X5_wrong 1 (s73 347 4) s73 (fun s85 => m_X5_text_j88 v1 KR s85)))))
theorem p_textM {v1 : Int32} {σ : Sg} {KR : Int32 → Sg → Prop} (h1 : 0 ≤ v1.toInt ∧ v1.toInt ≤ (σ 347 2).toInt) (k : SR v1 σ KR) : m_X5_text v1 σ KR := by
  intro s hs
  have e2 : s 347 2 = σ 347 2 := by rw [hs]; exact st2_j (by decide)
  have h0 : s 347 0 = 0 := by rw [hs]; exact st2_same _ _ _ _
  refine p_X5_in ?_
  rw [d0, e2, if_pos h1]
  refine ⟨fun _ => p_bad0 h0 ⟨fun _ => ?_, fun z => absurd rfl z⟩, fun z => absurd z one0⟩
  intro a ha b hb c hc d hd e he f hf
  have : f = tbS σ v1 := by rw [hf, he, hd, hc, hb, ha, hs]; rfl
  rw [this]
  exact k
/-- class and reference are related as a text has been read -/
theorem Rel.text {σc σm s z : Sg} (h : Rel σc σm) (c : ∀ k, k ≠ 0 → (k < 10 ∨ 19 ≤ k) → s k = σc k) (c0 : ∀ j, j ≠ 6 → j ≠ 7 → s 0 j = σc 0 j) (c6 : s 0 6 = 0) (m : ∀ k, k ≠ 347 → k ≠ 351 → z k = σm k) (m2 : z 347 2 = 0) (m5 : s 0 7 = z 347 5) (m12 : z 347 12 = σm 347 12) (m351 : ∀ j, 1098 ≤ j → z 351 j = 0) : Rel s z := by
  obtain ⟨a1, a2, ⟨b1, b2, b3, b4⟩, a4, a5, a6⟩ := h
  refine ⟨(a1.m (m 350 (by decide) (by decide))).c fun k h1 h2 => c k (by omega) (by omega), (a2.m m12 fun i hi => m _ (by omega) (by omega)).c (c0 8 (by decide) (by decide)) (c0 9 (by decide) (by decide)) fun k h1 h2 => c k (by omega) (by omega), ⟨fun j hj => ?_, by rw [c6, m2], by rw [c6, d0]; omega, m5⟩, ?_, (a5.m (m 350 (by decide) (by decide))).c fun k h1 h2 => c k (by omega) (by omega), fun k hk j hj => ?_⟩
  · rw [c 1 (by decide) (by decide), m 349 (by decide) (by decide)]
    exact b1 j hj
  · unfold R4
    rw [c0 10 (by decide) (by decide), c0 11 (by decide) (by decide), c0 12 (by decide) (by decide), m 348 (by decide) (by decide)]
    exact a4
  · by_cases e : k = 351
    · rw [e]
      exact m351 j hj
    · rw [m k (by omega) e]
      exact a6 k hk j hj
theorem ob_text : obl_text Rel := by
  intro σc σm v p1 hR
  obtain ⟨b1, b2, b3, b4⟩ := hR.2.2.1
  refine p_X4_isIn ?_
  rw [d0]
  by_cases hp : 0 ≤ p1.toInt ∧ p1.toInt ≤ (σc 0 6).toInt
  · rw [if_pos hp]
    refine p_need1 fun s hs => ?_
    obtain ⟨n, hn⟩ : ∃ n : Nat, p1.toInt = n := ⟨p1.toInt.toNat, by omega⟩
    have hn4 : n ≤ 400 := by omega
    have ep : p1 = nI n := of_ti (by omega) hn
    have hpm : 0 ≤ p1.toInt ∧ p1.toInt ≤ (σm 347 2).toInt := by rw [← b2]; exact hp
    have sk : ∀ c, c ≠ 0 → s c = σc c := fun c hc => by rw [hs, st2_row hc]
    have s0j : ∀ j, j ≠ 6 → s 0 j = σc 0 j := fun j hj => by rw [hs, st2_j hj]
    have s06 : s 0 6 = 0 := by rw [hs, st2_same]
    have big : ∀ j, 1098 ≤ j → rowB j = 0 := fun j hj => rowB_0 (by omega) (by omega)
    have tv := tbS_v (σ := σm) (n := p1)
    -- the reference begins
    have begM : ∀ (KR : Int32 → Sg → Prop), (∀ x, (RT x (fun j => σm 349 j) n 0 ∧ x 347 14 = 0 ∧ x 351 = rowB ∧ rfS x (tbS σm p1)) → m_X5_takes 20 x (fun r73 s73 => ((¬ r73 = 0 → m_X5_text_j88 p1 KR s73) ∧ (r73 = 0 → m_X5_wrong 1 (s73 347 4) s73 (fun s85 => m_X5_text_j88 p1 KR s85))))) → SR p1 σm KR := by
      intro KR hK
      refine p_begins rfl (fun j hj => ?_) fun x x1 x2 => hK x ⟨⟨⟨?_, ?_, Nat.zero_le _, hn4, fun j _ => ?_, fun j hj => ?_⟩, ?_, ?_⟩, ?_, x1, fun c c1 c2 => x2 c c2, fun j _ _ _ _ _ => by rw [x2 347 (by decide)], fun j hj => by rw [x1]; exact big j hj⟩
      · rw [tbS_row (by decide)]
        exact hR.2.2.2.2.2 351 (by omega) j hj
      · rw [x2 347 (by decide), tv.2.2.1, ep]
      · rw [x2 347 (by decide), tv.2.2.2.1]
        rfl
      · rw [x2 349 (by decide), tbS_row (by decide)]
      · have t := b1 j hj
        show 0 ≤ (σm 349 j).toInt ∧ (σm 349 j).toInt ≤ 255
        rw [← t.1]
        exact t.2
      · rw [x2 347 (by decide), tv.2.2.2.2.1]
      · rw [x2 347 (by decide), tv.2.2.2.2.2.1]
      · rw [x2 347 (by decide), tv.2.2.2.2.2.2]
    -- what is behind a text
    have relS : ∀ (u z : Sg) (w : Int32), (∀ c, (c < 10 ∨ 19 ≤ c) → u c = s c) → (∃ y, rfS y (tbS σm p1) ∧ z = st2 y 347 5 w) → ∀ a, a = st2 u 0 7 w → Rel a z := by
      intro u z w uf ⟨y, yf, hz⟩ a ha
      refine hR.text (fun c c0 c1 => by rw [ha, st2_row c0, uf c c1, sk c c0]) (fun j j6 j7 => by rw [ha, st2_j j7, uf 0 (by decide), s0j j j6]) (by rw [ha, st2_j (by decide), uf 0 (by decide), s06]) (fun c c1 c2 => by rw [hz, st2_row c1, yf.1 c c1 c2, tbS_row c1]) (by rw [hz, st2_j (by decide), yf.2.1 2 (by decide) (by decide) (by decide) (by decide) (by decide), tv.2.1]) (by rw [ha, st2_same, hz, st2_same]) (by rw [hz, st2_j (by decide), yf.2.1 12 (by decide) (by decide) (by decide) (by decide) (by decide), tbS_j (by decide)]) (fun j hj => by rw [hz, st2_row (by decide)]; exact yf.2.2 j hj)
    -- the class's continuation
    have flt : FaultH (SR p1 σm) (fun r23 s23 => (∀ s35, s35 = st2 s23 0 7 (s23 18 10) → ((r23 = 0 → m_X4_keepWorld s35 (fun s48 => m_X3_become 2 10 s48 (fun s59 => K_text Rel p1 σm 0 s59 (s59 2 7).toInt64))) ∧ (¬ (r23 = 0) → K_text Rel p1 σm 0 s35 (r23 - 10).toInt64)))) s (tbS σm p1) (fun j => σm 349 j) n p1 := by
      intro u f pl f0 u10 uf HK a ha
      rw [u10] at ha
      refine ⟨fun z => absurd z f0, fun _ => p_textM hpm (HK _ fun y yF yf z hz => ?_)⟩
      rw [yF.2.2.2] at hz
      have z6 : z 347 6 = f := by rw [hz, st2_j (by decide)]; exact yF.2.1
      have z0 : z 347 0 = 0 := by rw [hz, st2_j (by decide), yf.2.1 0 (by decide) (by decide) (by decide) (by decide) (by decide)]; exact tv.1
      refine p_fine0 (by rw [z6]; exact f0) ⟨fun g => absurd rfl g, fun _ => ⟨z0, fun _ => by rw [z6], relS u z (nI pl) uf ⟨y, yf, hz⟩ a ha⟩⟩
    have good : GoodH (SR p1 σm) (fun r23 s23 => (∀ s35, s35 = st2 s23 0 7 (s23 18 10) → ((r23 = 0 → m_X4_keepWorld s35 (fun s48 => m_X3_become 2 10 s48 (fun s59 => K_text Rel p1 σm 0 s59 (s59 2 7).toInt64))) ∧ (¬ (r23 = 0) → K_text Rel p1 σm 0 s35 (r23 - 10).toInt64)))) s (tbS σm p1) (fun j => σm 349 j) n p1 := by
      intro u b w k ρ uI HK a ha
      obtain ⟨uC, u9, ufl, uD, uf⟩ := uI
      rw [u9.2] at ha
      have a8 : a 0 8 = σc 0 8 := by rw [ha, st2_j (by decide), uf 0 (by decide), s0j 8 (by decide)]
      have a9 : a 0 9 = σc 0 9 := by rw [ha, st2_j (by decide), uf 0 (by decide), s0j 9 (by decide)]
      refine ⟨fun _ => p_keepWorld (by rw [a8]; exact hR.2.1.1) (by rw [a9]; exact hR.2.1.2.1) fun q hq => p_become W_2 (Or.inr (Or.inl rfl)) (by decide) fun g hg => p_textM hpm (HK _ fun x b' xI z hz => ?_), fun z => absurd rfl z⟩
      obtain ⟨xT, x14, x351, xf⟩ := xI
      rw [xT.2.2] at hz
      have hRa : Rel a z := relS u z (-1) uf ⟨x, xf, hz⟩ a ha
      have z6 : z 347 6 = 0 := by rw [hz, st2_j (by decide)]; exact xT.2.1
      have z0 : z 347 0 = 0 := by rw [hz, st2_j (by decide), xf.2.1 0 (by decide) (by decide) (by decide) (by decide) (by decide)]; exact tv.1
      refine p_fine1 z6 ⟨fun _ => p_remembers (by rw [← hRa.2.1.2.2.1]; exact hRa.2.1.2.1) hRa.2.2.2.2.2 fun t ht => ?_, fun y => absurd y one0⟩
      have hK := hRa.keep hq ht
      have t351 : t 351 = ρ := by rw [ht.2.2.1 351 (by decide) (by decide), hz, st2_row (by decide)]; exact x351
      have r6 := hK.2.2.2.2.2
      refine p_copies rfl rfl (by decide) (r6 351 (by omega)) (r6 350 (by omega)) fun o o1 o2 => ⟨by rw [ti_in]; decide, ?_⟩
      rw [t351] at o1
      have qw : Rw q 10 ρ := by
        obtain ⟨r, hr, c8, c9, cf, ck, c0⟩ := hq
        refine uD.2.1.to fun i hi j => ?_
        rw [ck (10 + i) (by omega) (by omega), hr.2.2 (10 + i) (by omega), ha, st2_row (by omega)]
      have gw : Rw g 2 ρ := Rw.same uD.1 qw hg
      have cf : q 19 9 = 0 := by
        obtain ⟨r, hr, c8, c9, cf, ck, c0⟩ := hq
        exact cf
      refine ⟨?_, fun _ => ?_, hK.now (fun c hc => hg.2.2 c (by omega)) o2 cf (fun j hj => ?_) ⟨by rw [o1]; exact uD.okQ, by rw [o1]; exact gw⟩⟩
      · rw [o2 347 (by decide), ht.2.1 0 (by decide)]
        exact z0
      · rw [gw.2.2.1.1, o1]
        rfl
      · rw [o1]
        exact uD.2.2.2.2.2.2.2.2 j hj
    -- the class begins
    refine p_beginEmpty (Or.inr (Or.inl rfl)) fun q hq => ?_
    obtain ⟨⟨q0, q1, q2, q3, q4, q5, q6, q7, q8, q9⟩, l3, l4, l7, qk⟩ := hq
    intro a1 h1 a2 h2 a3 h3 a4 h4 a5 h5 a6 h6 a7 h7 a8 h8
    have e400 : (if (Int32.ofNat 400) < p1 then (Int32.ofNat 400) else p1) = nI n := by
      rw [if_neg (by rw [ti_lt, ti_cn (by decide), hn]; omega)]
      exact ep
    rw [e400] at h1
    have ak : ∀ c, c ≠ 18 → a8 c = q c := fun c hc => by rw [h8, st2_row hc, h7, st2_row hc, h6, st2_row hc, h5, st2_row hc, h4, st2_row hc, h3, st2_row hc, h2, st2_row hc, h1, st2_row hc]
    have x2 : a8 18 2 = nI n := by rw [h8, st2_j (by decide), h7, st2_j (by decide), h6, st2_j (by decide), h5, st2_j (by decide), h4, st2_j (by decide), h3, st2_j (by decide), h2, st2_j (by decide), h1, st2_same]
    have x3 : a8 18 3 = 0 := by rw [h8, st2_j (by decide), h7, st2_j (by decide), h6, st2_j (by decide), h5, st2_j (by decide), h4, st2_j (by decide), h3, st2_j (by decide), h2, st2_same]
    have x9 : a8 18 9 = 0 := by rw [h8, st2_j (by decide), h7, st2_j (by decide), h6, st2_j (by decide), h5, st2_j (by decide), h4, st2_j (by decide), h3, st2_same]
    have x10 : a8 18 10 = -1 := by rw [h8, st2_j (by decide), h7, st2_j (by decide), h6, st2_j (by decide), h5, st2_j (by decide), h4, st2_same]
    have x11 : a8 18 11 = 0 := by rw [h8, st2_j (by decide), h7, st2_j (by decide), h6, st2_j (by decide), h5, st2_same]
    have x12 : a8 18 12 = 0 := by rw [h8, st2_j (by decide), h7, st2_j (by decide), h6, st2_same]
    have x13 : a8 18 13 = 0 := by rw [h8, st2_j (by decide), h7, st2_same]
    have x14 : a8 18 14 = 0 := by rw [h8, st2_same]
    have begC : beg a8 s (fun j => σm 349 j) n := by
      refine ⟨⟨x2, x3, Nat.zero_le _, hn4, fun j hj => ?_, fun j hj => ?_⟩, ⟨x9, x10⟩, ⟨x11, x12, x13, x14⟩, ?_, fun j hj => ?_, fun j hj => ?_, fun j hj => ?_, fun c hc => ?_⟩
      · rw [ak 1 (by decide), qk 1 (by decide) (by decide) (by decide) (by decide), sk 1 (by decide)]
        exact (b1 j hj).1
      · have t := b1 j hj
        show 0 ≤ (σm 349 j).toInt ∧ (σm 349 j).toInt ≤ 255
        rw [← t.1]
        exact t.2
      · rw [ak 10 (by decide)]
        exact ⟨q2, q3, q4, q5, q6, q7, q8, q9⟩
      · rw [ak 13 (by decide)]
        exact l3 j hj
      · rw [ak 14 (by decide)]
        exact l4 j hj
      · rw [ak 17 (by decide)]
        exact l7 j hj
      · rw [ak c (by omega), qk c (by omega) (by omega) (by omega) (by omega)]
    refine b_sea (κ := Int32 → Sg → Prop) (S := SR p1 σm) (F := fun x => RT x (fun j => σm 349 j) n 0 ∧ x 347 14 = 0 ∧ x 351 = rowB ∧ rfS x (tbS σm p1)) (Kr := fun KR s117 => ∃ n9, m_X5_text_l120 p1 KR n9 s117) begC (fun x hx => hx) (fun KR hK => begM KR hK) (fun u b W H hb uI HK => ⟨n + 1, ?_⟩) ?_
    · exact b_loop good flt n 0 (by omega) u b _ _ _ _ _ (Nat.zero_le _) uI fun KR hK => HK KR fun y yI => ⟨n + 1, hK y yI⟩
    · intro u f pl f0 u9 u10 uf HK
      have fin : m_X2_readText_j42 p1 (fun r23 s23 => (∀ s35, s35 = st2 s23 0 7 (s23 18 10) → ((r23 = 0 → m_X4_keepWorld s35 (fun s48 => m_X3_become 2 10 s48 (fun s59 => K_text Rel p1 σm 0 s59 (s59 2 7).toInt64))) ∧ (¬ (r23 = 0) → K_text Rel p1 σm 0 s35 (r23 - 10).toInt64)))) 0 u := ⟨fun _ => by
        rw [u9]
        exact flt u f pl f0 u10 uf fun KR hK => HK KR fun y yF yf => ⟨1, p_fine0 yF.no ⟨fun _ => p_j142D yF (hK y yF yf), fun g => absurd rfl g⟩⟩, fun g => absurd rfl g⟩
      exact ⟨1, fun _ => fin, fun _ => ⟨fun _ => fin, fun g => absurd rfl g⟩⟩
  · rw [if_neg hp]
    refine p_need0 ⟨rfl, ?_⟩
    intro s hs
    obtain ⟨h0, h⟩ := start hR s hs
    refine p_X5_in ?_
    rw [d0, ← h.2.2.1.2.1, if_neg hp]
    exact ⟨fun z => absurd rfl z, fun _ => leafR h h0 1 (by decide) (by decide)⟩
