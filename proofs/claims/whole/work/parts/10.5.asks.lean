/-! the questions that look at the present alone -/
theorem st2_row {σ : Sg} {k j : Nat} {v : Int32} {a : Nat} (h : a ≠ k) : st2 σ k j v a = σ a := funext fun _ => st2_k h
theorem R1.c {σc σc' σm : Sg} (h : R1 σc σm) (e : ∀ k, 2 ≤ k → k < 10 → σc' k = σc k) : R1 σc' σm := ⟨h.1, h.2.to fun i hi j => by rw [e (2 + i) (by omega) (by omega)]⟩
theorem R2.c {σc σc' σm : Sg} (h : R2 σc σm) (e8 : σc' 0 8 = σc 0 8) (e9 : σc' 0 9 = σc 0 9) (e : ∀ k, 283 ≤ k → k < 347 → σc' k = σc k) : R2 σc' σm := by
  obtain ⟨h1, h2, h3, h4⟩ := h
  unfold R2
  rw [e8, e9]
  refine ⟨h1, h2, h3, fun i hi => ⟨(h4 i hi).1, (h4 i hi).2.to fun a ha j => ?_⟩⟩
  have b1 := Int.emod_nonneg ((σc 0 8).toInt - (σc 0 9).toInt + i) (show (8 : Int) ≠ 0 by decide)
  have b2 := Int.emod_lt_of_pos ((σc 0 8).toInt - (σc 0 9).toInt + i) (show (0 : Int) < 8 by decide)
  rw [e _ (by omega) (by omega)]
theorem R5.c {σc σc' σm : Sg} (h : R5 σc σm) (e : ∀ k, 19 ≤ k → k ≤ 281 → σc' k = σc k) : R5 σc' σm := by
  unfold R5
  rw [e 19 (by decide) (by decide)]
  exact h.imp id fun z => ⟨z.1, z.2.to fun k h1 h2 j => by rw [e k h1 h2]⟩
theorem Rel.th {σc σm : Sg} (h : Rel σc σm) (v : Int32) : Rel σc (st2 σm 347 0 v) :=
  ⟨h.1.m (st2_row (by decide)), h.2.1.m (st2_j (by decide)) (fun i hi => st2_row (by omega)), h.2.2.1.m (st2_j (by decide)) (st2_j (by decide)) (st2_row (by decide)), by
    unfold R4
    rw [st2_row (show (348 : Nat) ≠ 347 by decide)]
    exact h.2.2.2.1, h.2.2.2.2.1.m (st2_row (by decide)), h.2.2.2.2.2.m (fun k hk => st2_row (by omega))⟩
theorem start {σc σm : Sg} (h : Rel σc σm) : ∀ s, s = st2 σm 347 0 0 → s 347 0 = 0 ∧ Rel σc s := fun s hs => by
  subst hs
  exact ⟨st2_same _ _ _ _, h.th 0⟩
/-- both count a refusal of kind i -/
theorem Rel.ref {σc s : Sg} (h : Rel σc s) (i : Nat) (hi : i < 3) (k : Int32) : Rel (st2 σc 0 (10 + i) (σc 0 (10 + i) + 1)) (st2 (st2 s 347 0 k) 348 i ((st2 s 347 0 k) 348 i + 1)) := by
  have h' := h.th k
  generalize st2 s 347 0 k = s' at h' ⊢
  refine ⟨(h'.1.m (st2_row (by decide))).c (fun a h1 h2 => st2_row (by omega)), (h'.2.1.m (st2_k (by decide)) (fun a ha => st2_row (by omega))).c (st2_j (by omega)) (st2_j (by omega)) (fun a h1 h2 => st2_row (by omega)), ?_, ?_, (h'.2.2.2.2.1.m (st2_row (by decide))).c (fun a h1 h2 => st2_row (by omega)), h'.2.2.2.2.2.m (fun a ha => st2_row (by omega))⟩
  · have g := h'.2.2.1.m (σm' := st2 s' 348 i (s' 348 i + 1)) (st2_k (by decide)) (st2_k (by decide)) (st2_row (by decide))
    unfold R3 at g ⊢
    rw [st2_row (show (1 : Nat) ≠ 0 by decide), st2_j (show 6 ≠ 10 + i by omega), st2_j (show 7 ≠ 10 + i by omega)]
    exact g
  · obtain ⟨a, b, c⟩ := h'.2.2.2.1
    unfold R4
    rcases (show i = 0 ∨ i = 1 ∨ i = 2 by omega) with rfl | rfl | rfl
    · rw [st2_same, st2_same, st2_j (by decide), st2_j (by decide), st2_j (by decide), st2_j (by decide), a]
      exact ⟨rfl, b, c⟩
    · rw [st2_same, st2_same, st2_j (by decide), st2_j (by decide), st2_j (by decide), st2_j (by decide), b]
      exact ⟨a, rfl, c⟩
    · rw [st2_same, st2_same, st2_j (by decide), st2_j (by decide), st2_j (by decide), st2_j (by decide), c]
      exact ⟨a, b, rfl⟩
theorem p_bad0 {a b : Int32} {σ : Sg} {K : Int32 → Sg → Prop} (h0 : σ 347 0 = 0) (h : K 0 σ) : m_X5_bad 0 a b σ K := ⟨fun _ => ⟨fun _ => h, fun z => absurd h0 z⟩, fun z => absurd rfl z⟩
theorem p_bad1 {a : Int32} {i : Nat} {σ : Sg} {K : Int32 → Sg → Prop} (h0 : σ 347 0 = 0) (ha : ¬ a = 0) (hi : i < 3) (h : K 1 (st2 (st2 σ 347 0 a) 348 i ((st2 σ 347 0 a) 348 i + 1))) : m_X5_bad 1 a (nI i) σ K := by
  have hv : vp_in (nI i) 3 := nI_in hi (by decide)
  refine ⟨fun z => absurd z (by decide), fun _ => ⟨fun z => absurd h0 z, fun _ s hs => ⟨hv, hv, fun t ht => ?_⟩⟩⟩
  rw [nI_clamp (by omega)] at ht
  subst hs
  subst ht
  refine ⟨fun z => absurd z ?_, fun _ => h⟩
  rw [st2_k (by decide), st2_same]
  exact ha
theorem p_X4_isIn {a b c : Int32} {σ : Sg} {K : Int32 → Sg → Prop} (h : K (if b.toInt ≤ a.toInt ∧ a.toInt ≤ c.toInt then 1 else 0) σ) : m_X4_isIn a b c σ K := p_X5_in h
theorem p_need1 {σ : Sg} {K : Sg → Prop} {X : String → Sg → Prop} (h : K σ) : m_X4_needNumber 1 σ K X := ⟨fun _ => h, fun z => absurd z (by decide)⟩
theorem p_need0 {σ : Sg} {K : Sg → Prop} {X : String → Sg → Prop} (h : X "java/lang/IllegalArgumentException" (st2 σ 0 11 (σ 0 11 + 1))) : m_X4_needNumber 0 σ K X := ⟨fun z => absurd rfl z, fun _ s hs => by subst hs; exact h⟩
theorem one0 : ¬ (1 : Int32) = 0 := by decide
theorem ob_fault : obl_fault Rel := by
  intro σc σm hR s hs
  obtain ⟨-, h⟩ := start hR s hs
  exact ⟨h.2.2.1.2.2.2, h⟩
theorem ob_status : obl_status Rel := by
  intro σc σm p1 hR
  have key : ∀ (r : Int32), (p1.toInt = 0 → r = σc 0 10) → (p1.toInt = 1 → r = σc 0 11) → (p1.toInt = 2 → r = σc 0 12) → (p1.toInt < 0 ∨ 2 < p1.toInt → r = -1) → m_X5_status p1 σm (fun r' s' => r = r' ∧ Rel σc s') := by
    intro r a0 a1 a2 a3 s hs
    obtain ⟨h0, h⟩ := start hR s hs
    obtain ⟨b0, b1, b2⟩ := h.2.2.2.1
    refine p_X5_in ?_
    rw [d0, show (2 : Int32).toInt = 2 by decide]
    by_cases hp : 0 ≤ p1.toInt ∧ p1.toInt ≤ 2
    · rw [if_pos hp]
      refine ⟨fun z => absurd z one0, fun _ => ⟨by rw [ti_in]; omega, ?_, h⟩⟩
      rw [ti_c]
      rcases (show p1.toInt = 0 ∨ p1.toInt = 1 ∨ p1.toInt = 2 by omega) with z | z | z
      · rw [a0 z, z, b0]; rfl
      · rw [a1 z, z, b1]; rfl
      · rw [a2 z, z, b2]; rfl
    · rw [if_neg hp]
      exact ⟨fun _ => ⟨a3 (by omega), h⟩, fun z => absurd rfl z⟩
  have e0 : ∀ {k : Int32}, p1 = k → p1.toInt = k.toInt := fun z => congrArg _ z
  have d2 : (2 : Int32).toInt = 2 := by decide
  refine ⟨fun z => ?_, fun z => ?_, fun z => ?_, fun z => ?_⟩
  · rw [ti_lt, ti_lt, d0, d2] at z
    exact key _ (by omega) (by omega) (by omega) (fun _ => rfl)
  · have := e0 z
    rw [d0] at this
    exact key _ (fun _ => rfl) (by omega) (by omega) (by omega)
  · have := e0 z
    rw [d1] at this
    exact key _ (by omega) (fun _ => rfl) (by omega) (by omega)
  · have := e0 z
    rw [d2] at this
    exact key _ (by omega) (by omega) (fun _ => rfl) (by omega)
theorem ob_blows : obl_blows Rel := by
  intro σc σm v p1 hR
  have d560 : (560 : Int32).toInt = 560 := by decide
  refine p_X4_isIn ?_
  rw [d0, d560]
  by_cases hp : 0 ≤ p1.toInt ∧ p1.toInt ≤ 560
  · rw [if_pos hp]
    refine p_need1 (p_X3_windOf W_2 hR.1.2 hR.1.1.1 hp.1 hp.2 ?_)
    intro s hs
    have e350 : s 350 = σm 350 := by rw [hs]; exact st2_row (by decide)
    obtain ⟨h0, h⟩ := start hR s hs
    refine p_X5_in ?_
    rw [d0, d560, if_pos hp]
    refine ⟨fun _ => p_bad0 h0 ⟨fun _ => p_X5_windOf rfl h.1.1.1 hp.1 hp.2 ⟨h0, fun _ => by rw [e350], h⟩, fun z => absurd rfl z⟩, fun z => absurd z one0⟩
  · rw [if_neg hp]
    refine p_need0 ⟨rfl, ?_⟩
    intro s hs
    obtain ⟨h0, h⟩ := start hR s hs
    refine p_X5_in ?_
    rw [d0, d560, if_neg hp]
    refine ⟨fun z => absurd rfl z, fun _ => p_bad1 (i := 1) h0 (by decide) (by decide) ⟨fun z => absurd z one0, fun _ => ⟨?_, fun z => absurd z one0, h.ref 1 (by decide) 1⟩⟩⟩
    rw [st2_k (by decide), st2_same]
