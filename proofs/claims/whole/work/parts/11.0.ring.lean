/-! the ring of kept worlds -/
def keptC (s σ : Sg) : Prop := ∃ t : Sg, sameW t σ (283 + 8 * (σ 0 8).toInt.toNat) 2 ∧ (s 0 8).toInt = ((σ 0 8).toInt + 1) % 8 ∧ (s 0 9).toInt = (if 8 < (σ 0 9).toInt + 1 then 8 else (σ 0 9).toInt + 1) ∧ s 19 9 = 0 ∧ (∀ k, k ≠ 0 → k ≠ 19 → s k = t k) ∧ (∀ j, j ≠ 8 → j ≠ 9 → s 0 j = σ 0 j)
theorem p_keptAt {σ : Sg} {i : Int32} {K : Nat → Sg → Prop} (h : 0 ≤ i.toInt ∧ i.toInt < 8) (k : K (283 + 8 * i.toInt.toNat) σ) : m_X4_keptAt i σ K := by
  have d7 : ((Int32.ofNat 8) - 1 : Int32).toInt = 7 := by decide
  have c1 : (if ((Int32.ofNat 8) - 1) < i then ((Int32.ofNat 8) - 1) else i) = i := by
    rw [if_neg]
    rw [ti_lt, d7]
    omega
  have c2 : (if (0 : Int32) < i then i else 0) = i := by
    split
    · rfl
    · next z =>
      rw [ti_lt, d0] at z
      rw [ti_eq, d0]
      omega
  unfold m_X4_keptAt
  rw [c1, c2, ti_c]
  exact ⟨by rw [ti_in]; omega, k⟩
theorem p_keepWorld {σ : Sg} {K : Sg → Prop} (h8 : 0 ≤ (σ 0 8).toInt ∧ (σ 0 8).toInt < 8) (h9 : 0 ≤ (σ 0 9).toInt ∧ (σ 0 9).toInt ≤ 8) (h : ∀ s, keptC s σ → K s) : m_X4_keepWorld σ K := by
  have hW : IsW (283 + 8 * (σ 0 8).toInt.toNat) := Or.inr (Or.inr ⟨_, by omega, rfl⟩)
  have d8 : (8 : Int32).toInt = 8 := by decide
  unfold m_X4_keepWorld
  refine p_keptAt h8 (p_become hW W_2 (by omega) fun t ht a ha b hb => ?_)
  have t0 : t 0 = σ 0 := ht.2.2 0 (by omega)
  unfold m_X0_forget
  intro c hc
  have e1 : (t 0 8 + 1).toInt = (σ 0 8).toInt + 1 := by rw [t0, ti_add (by rw [d1]; omega) (by rw [d1]; omega), d1]
  have e2 : (t 0 8 + 1 - (t 0 8 + 1) / 8 * 8).toInt = ((σ 0 8).toInt + 1) % 8 := by rw [ti_rem (by rw [e1]; omega) (by decide), e1, d8]
  have a9 : a 0 9 = σ 0 9 := by rw [ha, st2_j (by decide), t0]
  have e3 : (a 0 9 + 1).toInt = (σ 0 9).toInt + 1 := by rw [a9, ti_add (by rw [d1]; omega) (by rw [d1]; omega), d1]
  refine h c ⟨t, ht, ?_, ?_, ?_, fun k k0 k1 => ?_, fun j j8 j9 => ?_⟩
  · rw [hc, st2_k (by decide), hb, st2_j (by decide), ha, st2_same, e2]
  · rw [hc, st2_k (by decide), hb, st2_same]
    by_cases z : 8 < (σ 0 9).toInt + 1
    · rw [if_pos z, if_pos (by rw [ti_lt, d8, e3]; exact z), d8]
    · rw [if_neg z, if_neg (by rw [ti_lt, d8, e3]; exact z), e3]
  · rw [hc, st2_same]
  · rw [hc, st2_row k1, hb, st2_row k0, ha, st2_row k0]
  · rw [hc, st2_k (by decide), hb, st2_j j9, ha, st2_j j8, t0]
def keptM (s σ : Sg) : Prop := (s 347 12).toInt = (if 8 < (σ 347 12).toInt + 1 then 8 else (σ 347 12).toInt + 1) ∧ (∀ j, j ≠ 12 → s 347 j = σ 347 j) ∧ (∀ k, k ≠ 347 → (k < 353 ∨ 361 ≤ k) → s k = σ k) ∧
  ((σ 347 12).toInt < 8 → (∀ i : Nat, (i : Int) < (σ 347 12).toInt → s (353 + i) = σ (353 + i)) ∧ s (353 + (σ 347 12).toInt.toNat) = σ 350) ∧ ((σ 347 12).toInt = 8 → (∀ i : Nat, i < 7 → s (353 + i) = σ (354 + i)) ∧ s 360 = σ 350) ∧ R6 s
theorem ln_p {i : Nat} (h : i < 8) : ln (353 + i) = 1098 := (P_0 i h).2.2.2
theorem p_remembers {σ : Sg} {K : Sg → Prop} (h0 : 0 ≤ (σ 347 12).toInt ∧ (σ 347 12).toInt ≤ 8) (h6 : R6 σ) (h : ∀ s, keptM s σ → K s) : m_X5_remembers σ K := by
  have d8 : (8 : Int32).toInt = 8 := by decide
  unfold m_X5_remembers
  refine ⟨fun z => ?_, fun z => ?_⟩
  · have hlt : (σ 347 12).toInt < 8 := by
      have : (σ 347 12).toInt ≠ 8 := fun e => z (by rw [ti_eq, e, d8])
      omega
    unfold m_X5_remembers_j50
    rw [ti_c]
    refine ⟨by rw [ti_in]; omega, p_copies rfl (ln_p (by omega)) (by omega) (h6 350 (Or.inl rfl)) (h6 _ (by omega)) fun t t1 t2 s hs => ?_⟩
    have e0 : t 347 = σ 347 := t2 347 (by omega)
    refine h s ⟨?_, fun j hj => by rw [hs, st2_j hj, e0], fun k k1 k2 => by rw [hs, st2_row k1, t2 k (by omega)], fun _ => ⟨fun i hi => by rw [hs, st2_row (by omega), t2 _ (by omega)], by rw [hs, st2_row (by omega), t1]⟩, fun q => absurd q (by omega), fun k hk j hj => ?_⟩
    · rw [hs, st2_same, e0, ti_add (by rw [d1]; omega) (by rw [d1]; omega), d1, if_neg (by omega)]
    · rw [hs, st2_row (by omega)]
      by_cases e : k = 353 + (σ 347 12).toInt.toNat
      · rw [e, t1]
        exact h6 350 (Or.inl rfl) j hj
      · rw [t2 k e]
        exact h6 k hk j hj
  · have he : (σ 347 12).toInt = 8 := by rw [z, d8]
    have key : ∀ k i : Nat, 1 ≤ i → i + k = 8 → ∀ t : Sg, R6 t → (∀ c, (c < 353 ∨ 361 ≤ c) → t c = σ c) → (∀ a : Nat, a + 1 < i → t (353 + a) = σ (354 + a)) → (∀ a : Nat, i ≤ a + 1 → a < 8 → t (353 + a) = σ (353 + a)) → m_X5_remembers_l11 K (k + 1) (nI i) t := by
      intro k
      induction k with
      | zero =>
        intro i i1 i2 t t6 tc ta tb
        have hi : i = 8 := by omega
        subst hi
        refine ⟨fun _ s hs => ?_, fun q => absurd (show (8 : Int32) ≤ nI 8 by decide) q⟩
        have e12 : (s 347 12).toInt = 7 := by rw [hs, st2_same, tc 347 (by omega), ti_sub (by rw [he, d1]; omega) (by rw [he, d1]; omega), he, d1]; rfl
        unfold m_X5_remembers_j50
        rw [ti_c, e12, show (7 : Int).toNat = 7 by decide]
        have s6 : R6 s := t6.m (fun k hk => by rw [hs]; exact st2_row (by omega))
        refine ⟨by rw [ti_in, e12]; omega, p_copies rfl (ln_p (by omega)) (by omega) (s6 350 (Or.inl rfl)) (s6 _ (by omega)) fun u u1 u2 v hv => ?_⟩
        have r : ∀ c, c ≠ 347 → c ≠ 360 → v c = t c := fun c c1 c2 => by rw [hv, st2_row c1, u2 c c2, hs, st2_row c1]
        have r360 : v 360 = σ 350 := by rw [hv, st2_row (by decide)]; exact u1.trans (by rw [hs, st2_row (by decide), tc 350 (by omega)])
        refine h v ⟨?_, fun j hj => by rw [hv, st2_j hj, u2 347 (by decide), hs, st2_j hj, tc 347 (by omega)], fun c c1 c2 => by rw [r c c1 (by omega), tc c c2], fun q => absurd q (by omega), fun _ => ⟨fun a ha => by rw [r _ (by omega) (by omega), ta a (by omega)], r360⟩, fun k hk j hj => ?_⟩
        · rw [hv, st2_same, u2 347 (by decide), ti_add (by rw [e12, d1]; omega) (by rw [e12, d1]; omega), e12, d1, he]
          rfl
        · by_cases e : k = 360
          · rw [e, r360]
            exact h6 350 (Or.inl rfl) j hj
          · rw [r k (by omega) e]
            exact t6 k hk j hj
      | succ k ih =>
        intro i i1 i2 t t6 tc ta tb
        have ei := nI_toInt (n := i) (by omega)
        have e1 : (nI i - 1).toInt = i - 1 := by rw [ti_sub (by rw [ei, d1]; omega) (by rw [ei, d1]; omega), ei, d1]
        refine ⟨fun q => ?_, fun _ => ⟨by rw [ti_in, ei]; omega, by rw [ti_in, e1]; omega, ?_⟩⟩
        · rw [ti_le, d8, ei] at q
          omega
        · rw [ti_c, ti_c, ei, e1, show ((i : Int)).toNat = i by omega, show ((i : Int) - 1).toNat = i - 1 by omega]
          refine p_copies (ln_p (by omega)) (ln_p (by omega)) (by omega) (t6 _ (by omega)) (t6 _ (by omega)) fun u u1 u2 => ?_
          rw [← nI_succ]
          refine ih (i + 1) (by omega) (by omega) u (fun k hk j hj => ?_) (fun c hc => by rw [u2 c (by omega), tc c hc]) (fun a ha => ?_) (fun a h1 h2 => by rw [u2 _ (by omega), tb a (by omega) h2])
          · by_cases e : k = 353 + (i - 1)
            · rw [e, u1]
              exact t6 _ (by omega) j hj
            · rw [u2 k e]
              exact t6 k hk j hj
          · by_cases e : a + 1 = i
            · rw [show 353 + a = 353 + (i - 1) by omega, u1, tb i (by omega) (by omega)]
              congr 1
              omega
            · rw [u2 _ (by omega), ta a (by omega)]
    exact ⟨8, key 7 1 (by decide) (by decide) σ h6 (fun _ _ => rfl) (fun a ha => absurd ha (by omega)) (fun _ _ _ => rfl)⟩
/-- both keep the world that is -/
theorem Rel.keep {σc σm s t : Sg} (h : Rel σc σm) (hc : keptC s σc) (hm : keptM t σm) : Rel s t := by
  obtain ⟨⟨q, hw⟩, ⟨n1, n2, n3, n4⟩, ⟨a1, a2, a3, a4⟩, r4, -, -⟩ := h
  obtain ⟨u, hu, c8, c9, cf, ck, c0⟩ := hc
  obtain ⟨m12, mj, mk, mA, mB, m6⟩ := hm
  have e350 : t 350 = σm 350 := mk 350 (by decide) (by decide)
  have e349 : t 349 = σm 349 := mk 349 (by decide) (by decide)
  have e348 : t 348 = σm 348 := mk 348 (by decide) (by decide)
  have en : (σc 0 9).toInt = (σm 347 12).toInt := congrArg _ n3
  have sk : ∀ k, k ≠ 0 → k ≠ 19 → (k < 283 + 8 * (σc 0 8).toInt.toNat ∨ 283 + 8 * (σc 0 8).toInt.toNat + 8 ≤ k) → s k = σc k := fun k k0 k1 k2 => by rw [ck k k0 k1, hu.2.2 k k2]
  have s2 : Rw s 2 (σm 350) := hw.to fun i hi j => by rw [sk (2 + i) (by omega) (by omega) (by omega)]
  have snew : Rw s (283 + 8 * (σc 0 8).toInt.toNat) (σm 350) := (Rw.same q.1 hw hu).to fun i hi j => by rw [ck _ (by omega) (by omega)]
  refine ⟨⟨by rw [e350]; exact q, by rw [e350]; exact s2⟩, ⟨by rw [c8]; omega, by rw [c9]; split <;> omega, by rw [ti_eq, c9, m12, en], fun i hi => ?_⟩, ⟨fun j hj => ?_, ?_, ?_, ?_⟩, ?_, Or.inl cf, m6⟩
  · rw [c9] at hi
    rw [c8, c9]
    by_cases z : 8 < (σc 0 9).toInt + 1
    · have e8 : (σc 0 9).toInt = 8 := by omega
      rw [if_pos z] at hi ⊢
      obtain ⟨g1, g2⟩ := mB (by omega)
      by_cases hi7 : i = 7
      · subst hi7
        rw [show (353 + 7 : Nat) = 360 from rfl, g2, show ((((σc 0 8).toInt + 1) % 8 - 8 + ((7 : Nat) : Int)) % 8).toNat = (σc 0 8).toInt.toNat by omega]
        exact ⟨q, snew⟩
      · rw [g1 i (by omega)]
        obtain ⟨k1, k2⟩ := n4 (i + 1) (by omega)
        rw [show 353 + (i + 1) = 354 + i by omega] at k1 k2
        rw [e8] at k2
        refine ⟨k1, ?_⟩
        rw [show ((((σc 0 8).toInt + 1) % 8 - 8 + (i : Int)) % 8).toNat = (((σc 0 8).toInt - 8 + ((i + 1 : Nat) : Int)) % 8).toNat by omega]
        exact k2.to fun a ha j => by rw [sk _ (by omega) (by omega) (by omega)]
    · rw [if_neg z] at hi ⊢
      obtain ⟨g1, g2⟩ := mA (by omega)
      by_cases hin : (i : Int) = (σc 0 9).toInt
      · rw [show 353 + i = 353 + (σm 347 12).toInt.toNat by omega, g2, show ((((σc 0 8).toInt + 1) % 8 - ((σc 0 9).toInt + 1) + (i : Int)) % 8).toNat = (σc 0 8).toInt.toNat by omega]
        exact ⟨q, snew⟩
      · rw [g1 i (by omega)]
        obtain ⟨k1, k2⟩ := n4 i (by omega)
        refine ⟨k1, ?_⟩
        rw [show ((((σc 0 8).toInt + 1) % 8 - ((σc 0 9).toInt + 1) + (i : Int)) % 8).toNat = (((σc 0 8).toInt - (σc 0 9).toInt + (i : Int)) % 8).toNat by omega]
        exact k2.to fun a ha j => by rw [sk _ (by omega) (by omega) (by omega)]
  · rw [sk 1 (by decide) (by decide) (by omega), e349]
    exact a1 j hj
  · rw [c0 6 (by decide) (by decide), mj 2 (by decide)]
    exact a2
  · rw [c0 6 (by decide) (by decide)]
    exact a3
  · rw [c0 7 (by decide) (by decide), mj 5 (by decide)]
    exact a4
  · unfold R4
    rw [c0 10 (by decide) (by decide), c0 11 (by decide) (by decide), c0 12 (by decide) (by decide), e348]
    exact r4
