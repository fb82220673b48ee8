/-! feed, on -/
theorem putS_row {σ : Sg} {arr kc jc t : Nat} {B : Nat → Int32} {i k : Nat} (h1 : k ≠ arr) (h2 : k ≠ kc) : putS σ arr kc jc t B i k = σ k := by
  funext j
  unfold putS
  rw [if_neg (fun z => h1 z.1), if_neg (fun z => h2 z.1)]
theorem putS_j {σ : Sg} {arr kc jc t : Nat} {B : Nat → Int32} {i j : Nat} (h : arr ≠ kc) (h2 : j ≠ jc) : putS σ arr kc jc t B i kc j = σ kc j := by
  unfold putS
  rw [if_neg (fun z => h z.1.symm), if_neg (fun z => h2 z.2)]
theorem putS_a {σ : Sg} {arr kc jc t : Nat} {B : Nat → Int32} {i : Nat} (h : arr ≠ kc) (j : Nat) : putS σ arr kc jc t B i arr j = if t ≤ j ∧ j < t + i then B (j - t) else σ arr j := by
  unfold putS
  by_cases z : t ≤ j ∧ j < t + i
  · rw [if_pos ⟨rfl, z⟩, if_pos z]
  · rw [if_neg (fun q => z q.2), if_neg z, if_neg (fun q => h q.1)]
theorem putS_0 {σ : Sg} {arr kc jc t : Nat} {B : Nat → Int32} (h : σ kc jc = nI t) : putS σ arr kc jc t B 0 = σ := by
  funext k j
  unfold putS
  rw [if_neg (fun z => by omega)]
  by_cases z : k = kc ∧ j = jc
  · rw [if_pos z, z.1, z.2, h]
    rfl
  · rw [if_neg z]
def arg5 (v1 v2 v3 v4 v5 : Int32) (n : Nat) : Int32 := if n = 0 then v1 else if n = 1 then v2 else if n = 2 then v3 else if n = 3 then v4 else v5
def fedB (v1 v2 v3 v4 v5 : Int32) (i : Nat) : Int32 := byt (arg5 v1 v2 v3 v4 v5 (i / 4)) (i % 4)
theorem sh_ok : ∀ i, i < 20 → (24 - 8 * (nI i - nI i / 4 * 4)) = nI (24 - 8 * (i % 4)) := by decide +kernel
theorem p_feedM {σ : Sg} {t : Nat} {v1 v2 v3 v4 v5 : Int32} {K : Int32 → Sg → Prop} (ht : t + 20 ≤ 400) (h : K (nI (t + 20)) (putS σ 349 347 2 t (fedB v1 v2 v3 v4 v5) 20)) :
    ∀ n i : Nat, n + i = 20 → m_X5_feed_l23 v1 v2 v3 v4 v5 K (n + 1) (nI i) (putS σ 349 347 2 t (fedB v1 v2 v3 v4 v5) i) := by
  intro n
  induction n with
  | zero =>
    intro i hi
    have : i = 20 := by omega
    subst this
    refine ⟨fun _ => ?_, fun z => absurd (by decide) z⟩
    rw [putS_cnt (show (349 : Nat) ≠ 347 by decide)]
    exact h
  | succ n ih =>
    intro i hi
    have ei := nI_toInt (n := i) (by omega)
    have ec := putS_cnt (σ := σ) (t := t) (B := fedB v1 v2 v3 v4 v5) (i := i) (jc := 2) (show (349 : Nat) ≠ 347 by decide)
    have et := nI_toInt (n := t + i) (by omega)
    have st : ∀ k0 : Int32, k0 = arg5 v1 v2 v3 v4 v5 (i / 4) → m_X5_feed_j76 v1 v2 v3 v4 v5 K (fun l6 σ => m_X5_feed_l23 v1 v2 v3 v4 v5 K (n + 1) l6 σ) (nI i) k0 (putS σ 349 347 2 t (fedB v1 v2 v3 v4 v5) i) := by
      intro k0 hk
      unfold m_X5_feed_j76
      rw [ec]
      refine ⟨by rw [ti_in, et]; omega, fun a ha b hb => ?_⟩
      rw [sh_ok i (by omega), nI_clamp (by omega)] at ha
      have e1 : a = st2 (putS σ 349 347 2 t (fedB v1 v2 v3 v4 v5) i) 349 (t + i) (fedB v1 v2 v3 v4 v5 i) := by
        rw [ha, hk]
        rfl
      rw [e1, st2_k (show (347 : Nat) ≠ 349 by decide), ec, ← nI_succ, putS_step (show (349 : Nat) ≠ 347 by decide)] at hb
      rw [hb, ← nI_succ]
      exact ih (i + 1) (by omega)
    have d4 : (4 : Int32).toInt = 4 := by decide
    have d8 : (8 : Int32).toInt = 8 := by decide
    have d12 : (12 : Int32).toInt = 12 := by decide
    have d16 : (16 : Int32).toInt = 16 := by decide
    have d20 : (20 : Int32).toInt = 20 := by decide
    refine ⟨fun z => ?_, fun _ => ⟨fun z4 => ⟨fun z8 => ⟨fun z12 => ⟨fun z16 => st _ ?_, fun z16 => st _ ?_⟩, fun z12 => st _ ?_⟩, fun z8 => st _ ?_⟩, fun z4 => st _ ?_⟩⟩
    · rw [ti_le, d20, ei] at z
      omega
    · rw [ti_le, d16, ei] at z16
      unfold arg5
      rw [if_neg (by omega), if_neg (by omega), if_neg (by omega), if_neg (by omega)]
    · rw [ti_le, d12, ei] at z12
      rw [ti_le, d16, ei] at z16
      unfold arg5
      rw [if_neg (by omega), if_neg (by omega), if_neg (by omega), if_pos (by omega)]
    · rw [ti_le, d8, ei] at z8
      rw [ti_le, d12, ei] at z12
      unfold arg5
      rw [if_neg (by omega), if_neg (by omega), if_pos (by omega)]
    · rw [ti_le, d4, ei] at z4
      rw [ti_le, d8, ei] at z8
      unfold arg5
      rw [if_neg (by omega), if_pos (by omega)]
    · rw [ti_le, d4, ei] at z4
      unfold arg5
      rw [if_pos (by omega)]
theorem Rel.fed {σc σm : Sg} (h : Rel σc σm) {t : Nat} (ht : t + 20 ≤ 400) (v1 v2 v3 v4 v5 : Int32) : Rel (putS σc 1 0 6 t (fedB v1 v2 v3 v4 v5) 20) (putS σm 349 347 2 t (fedB v1 v2 v3 v4 v5) 20) := by
  have c : ∀ k, 2 ≤ k → putS σc 1 0 6 t (fedB v1 v2 v3 v4 v5) 20 k = σc k := fun k hk => putS_row (by omega) (by omega)
  have m : ∀ k, k ≠ 349 → k ≠ 347 → putS σm 349 347 2 t (fedB v1 v2 v3 v4 v5) 20 k = σm k := fun k h1 h2 => putS_row h1 h2
  have cj : ∀ j, j ≠ 6 → putS σc 1 0 6 t (fedB v1 v2 v3 v4 v5) 20 0 j = σc 0 j := fun j hj => putS_j (by decide) hj
  have mj : ∀ j, j ≠ 2 → putS σm 349 347 2 t (fedB v1 v2 v3 v4 v5) 20 347 j = σm 347 j := fun j hj => putS_j (by decide) hj
  obtain ⟨a1, a2, a3, a4⟩ := h.2.2.1
  refine ⟨(h.1.m (m 350 (by decide) (by decide))).c (fun k h1 h2 => c k h1), (h.2.1.m (mj 12 (by decide)) (fun i hi => m _ (by omega) (by omega))).c (cj 8 (by decide)) (cj 9 (by decide)) (fun k h1 h2 => c k (by omega)), ⟨fun j hj => ?_, ?_, ?_, ?_⟩, ?_, (h.2.2.2.2.1.m (m 350 (by decide) (by decide))).c (fun k h1 h2 => c k (by omega)), h.2.2.2.2.2.m (fun k hk => m k (by omega) (by omega))⟩
  · rw [putS_a (show (1 : Nat) ≠ 0 by decide), putS_a (show (349 : Nat) ≠ 347 by decide)]
    split
    · exact ⟨rfl, byte_r _⟩
    · exact a1 j hj
  · rw [putS_cnt (show (1 : Nat) ≠ 0 by decide), putS_cnt (show (349 : Nat) ≠ 347 by decide)]
  · rw [putS_cnt (show (1 : Nat) ≠ 0 by decide), nI_toInt (by omega)]
    omega
  · rw [cj 7 (by decide), mj 5 (by decide)]
    exact a4
  · unfold R4
    rw [cj 10 (by decide), cj 11 (by decide), cj 12 (by decide), m 348 (by decide) (by decide)]
    exact h.2.2.2.1
theorem ob_feed : obl_feed Rel := by
  intro σc σm v1 v2 v3 v4 v5 hR
  obtain ⟨-, a2, a3, -⟩ := hR.2.2.1
  obtain ⟨t, ht⟩ : ∃ t : Nat, (σc 0 6).toInt = t := ⟨(σc 0 6).toInt.toNat, by omega⟩
  have e6 : σc 0 6 = nI t := of_ti (by omega) ht
  have d20 : (20 : Int32).toInt = 20 := by decide
  have d400 : (400 : Int32).toInt = 400 := by decide
  have es : (σc 0 6 + 20).toInt = t + 20 := by rw [ti_add (by rw [ht, d20]; omega) (by rw [ht, d20]; omega), ht, d20]
  refine ⟨fun z => ?_, fun z => ?_⟩
  · rw [ti_le, es, d400] at z
    have key : m_X4_putBytes v1 (putS σc 1 0 6 t (fedB v1 v2 v3 v4 v5) 0) (fun s17 => m_X4_putBytes v2 s17 (fun s22 => m_X4_putBytes v3 s22 (fun s27 => m_X4_putBytes v4 s27 (fun s33 => m_X4_putBytes v5 s33 (fun s39 => (fun r σ' => m_X5_feed v1 v2 v3 v4 v5 σm (fun r' s' => r = r' ∧ Rel σ' s')) (s39 0 6) s39))))) := by
      have b : ∀ q k : Nat, k < 4 → (4 * q + k) / 4 = q ∧ (4 * q + k) % 4 = k := fun q k hk => by omega
      have f : ∀ q k : Nat, k < 4 → fedB v1 v2 v3 v4 v5 (4 * q + k) = byt (arg5 v1 v2 v3 v4 v5 q) k := fun q k hk => by
        unfold fedB
        rw [(b q k hk).1, (b q k hk).2]
      refine p_putBytes (by omega) (fun k hk => f 0 k hk) (p_putBytes (i := 0 + 4) (by omega) (fun k hk => f 1 k hk) (p_putBytes (i := 0 + 4 + 4) (by omega) (fun k hk => f 2 k hk) (p_putBytes (i := 0 + 4 + 4 + 4) (by omega) (fun k hk => f 3 k hk) (p_putBytes (i := 0 + 4 + 4 + 4 + 4) (by omega) (fun k hk => f 4 k hk) ?_))))
      show m_X5_feed v1 v2 v3 v4 v5 σm (fun r' s' => putS σc 1 0 6 t (fedB v1 v2 v3 v4 v5) 20 0 6 = r' ∧ Rel (putS σc 1 0 6 t (fedB v1 v2 v3 v4 v5) 20) s')
      rw [putS_cnt (show (1 : Nat) ≠ 0 by decide)]
      intro s hs
      have s2 : s 347 2 = nI t := by rw [hs, st2_j (by decide), ← a2, e6]
      obtain ⟨h0, h⟩ := start hR s hs
      refine ⟨fun _ => ⟨21, ?_⟩, fun y => absurd ?_ y⟩
      · have k := p_feedM (σ := s) (v1 := v1) (v2 := v2) (v3 := v3) (v4 := v4) (v5 := v5) (K := fun r' s' => nI (t + 20) = r' ∧ Rel (putS σc 1 0 6 t (fedB v1 v2 v3 v4 v5) 20) s') (t := t) (by omega) ⟨rfl, h.fed (by omega) v1 v2 v3 v4 v5⟩ 20 0 (by omega)
        rw [putS_0 s2] at k
        exact k
      · rw [s2, ← e6, ti_le, es, d400]
        exact z
    rw [putS_0 e6] at key
    exact key
  · intro s hs
    have s2 : s 347 2 = σc 0 6 := by rw [hs, st2_j (by decide), a2]
    obtain ⟨h0, h⟩ := start hR s hs
    exact ⟨fun y => absurd (by rw [← s2]; exact y) z, fun _ => ⟨rfl, h⟩⟩
