/-! cost, helper, print -/
theorem leafR {σc s : Sg} {a u x : _} {A : Sg → Prop} (h : Rel σc s) (h0 : s 347 0 = 0) (i : Nat) (hi : i < 3) (ha : ¬ (a : Int32) = 0) : m_X5_bad 1 a (nI i) s (fun r t => (r = 0 → A t) ∧ (¬ r = 0 → m_X5_thrown t (fun th s2 => th = a ∧ (a = 0 → (u : Int64) = (x : Int64)) ∧ Rel (st2 σc 0 (10 + i) (σc 0 (10 + i) + 1)) s2))) :=
  p_bad1 h0 ha hi ⟨fun z => absurd z one0, fun _ => ⟨by rw [st2_k (by decide), st2_same], fun z => absurd z ha, h.ref i hi a⟩⟩
theorem leafL {σc s : Sg} {a u x : _} {A : Sg → Prop} (h : Rel σc s) (h0 : s 347 0 = 0) (i : Nat) (hi : i < 3) (ha : ¬ (a : Int32) = 0) : m_X5_bad 1 a (nI i) s (fun r t => (¬ r = 0 → m_X5_thrown t (fun th s2 => th = a ∧ (a = 0 → (u : Int64) = (x : Int64)) ∧ Rel (st2 σc 0 (10 + i) (σc 0 (10 + i) + 1)) s2)) ∧ (r = 0 → A t)) :=
  p_bad1 h0 ha hi ⟨fun _ => ⟨by rw [st2_k (by decide), st2_same], fun z => absurd z ha, h.ref i hi a⟩, fun z => absurd z one0⟩
theorem one_d : isD 1 := ⟨by decide, by decide⟩
theorem ob_cost : obl_cost Rel := by
  intro σc σm v p1 p2 hR
  have hr := hR.1.1.1
  have hw := hR.1.2
  have d8 : (8 : Int32).toInt = 8 := by decide
  have d59 : (59 : Int32).toInt = 59 := by decide
  have hh := hr.2.2.1
  unfold rI at hh
  refine p_X4_isIn ?_
  rw [d1, d8]
  by_cases hp : (1 ≤ p1.toInt ∧ p1.toInt ≤ 8) ∧ 0 ≤ p2.toInt ∧ p2.toInt ≤ 59
  · obtain ⟨h1, h2⟩ := hp
    rw [if_pos h1]
    refine ⟨fun z => absurd z one0, fun _ => p_X4_isIn ?_⟩
    rw [d0, d59, if_pos h2]
    have hc : isD p1 := ⟨by omega, by omega⟩
    have et : (σm 350 2 + p2).toInt = rI (σm 350) 2 + p2.toInt := ti_add (by omega) (by omega)
    have et0 : 0 ≤ (σm 350 2 + p2).toInt ∧ (σm 350 2 + p2).toInt ≤ 560 := by rw [et]; unfold rI; omega
    refine ⟨fun z => absurd z one0, fun _ => p_need1 ?_⟩
    rw [hw.1.2.2.1]
    refine p_X3_priceOf W_2 hw hr hc et0.1 et0.2 ?_
    intro s hs
    have e350 : s 350 = σm 350 := by rw [hs]; exact st2_row (by decide)
    obtain ⟨h0, h⟩ := start hR s hs
    refine p_X5_in ?_
    rw [d1, d8, if_pos h1]
    refine ⟨fun z => absurd z one0, fun _ => p_X5_in ?_⟩
    rw [d0, d59, if_pos h2]
    refine ⟨fun _ => p_bad0 h0 ⟨fun _ => ⟨by rw [ti_in]; decide, ?_⟩, fun z => absurd rfl z⟩, fun z => absurd z one0⟩
    rw [show (2 : Int32).toNatClampNeg = 2 by decide, e350]
    refine p_X5_windOf rfl h.1.1.1 et0.1 et0.2 (p_X5_costBy hc (by rw [e350]; exact wnd_D hr et0.1 et0.2) ⟨h0, fun _ => by rw [e350], h⟩)
  · have bad : "java/lang/IllegalArgumentException" = "java/lang/IllegalArgumentException" ∧ K_cost Rel p1 p2 σm 1 (st2 σc 0 11 (σc 0 11 + 1)) v := by
      refine ⟨rfl, ?_⟩
      intro s hs
      obtain ⟨h0, h⟩ := start hR s hs
      refine p_X5_in ?_
      rw [d1, d8]
      by_cases h1 : 1 ≤ p1.toInt ∧ p1.toInt ≤ 8
      · rw [if_pos h1]
        refine ⟨fun z => absurd z one0, fun _ => p_X5_in ?_⟩
        rw [d0, d59, if_neg (fun q => hp ⟨h1, q⟩)]
        exact ⟨fun z => absurd rfl z, fun _ => leafR h h0 1 (by decide) (by decide)⟩
      · rw [if_neg h1]
        exact ⟨fun _ => leafR h h0 1 (by decide) (by decide), fun z => absurd rfl z⟩
    by_cases h1 : 1 ≤ p1.toInt ∧ p1.toInt ≤ 8
    · rw [if_pos h1]
      refine ⟨fun z => absurd z one0, fun _ => p_X4_isIn ?_⟩
      rw [d0, d59, if_neg (fun q => hp ⟨h1, q⟩)]
      exact ⟨fun _ => p_need0 bad, fun z => absurd rfl z⟩
    · rw [if_neg h1]
      exact ⟨fun _ => p_need0 bad, fun z => absurd rfl z⟩
/-! helpers -/
theorem p_helpY {h : Int32} {σ : Sg} {ρ : Nat → Int32} {K : Sg → Prop} {X : String → Sg → Prop} (hw : Rw σ 2 ρ) (h1 : 0 ≤ h.toInt ∧ h.toInt < rI ρ 3) (k : K σ) : m_X4_needHelper h σ K X := by
  unfold m_X4_needHelper
  rw [hw.2.2.1.1]
  refine ⟨fun z => ?_, fun _ => ⟨fun _ => k, fun z => ?_⟩⟩
  · rw [ti_lt, d0] at z
    omega
  · rw [ti_lt] at z
    unfold rI at h1
    omega
theorem p_helpN {h : Int32} {σ : Sg} {ρ : Nat → Int32} {K : Sg → Prop} {X : String → Sg → Prop} (hw : Rw σ 2 ρ) (h1 : ¬ (0 ≤ h.toInt ∧ h.toInt < rI ρ 3)) (k : X "java/util/NoSuchElementException" (st2 σ 0 10 (σ 0 10 + 1))) : m_X4_needHelper h σ K X := by
  unfold m_X4_needHelper m_X4_needHelper_j15
  rw [hw.2.2.1.1]
  refine ⟨fun _ s hs => by subst hs; exact k, fun z => ⟨fun y => ?_, fun _ s hs => by subst hs; exact k⟩⟩
  rw [ti_lt, d0] at z
  rw [ti_lt] at y
  unfold rI at h1
  omega
theorem p_X5_isHelper {h : Int32} {σ : Sg} {K : Int32 → Sg → Prop} (hr : okR (σ 350)) (k : K (if 0 ≤ h.toInt ∧ h.toInt < rI (σ 350) 3 then 1 else 0) σ) : m_X5_isHelper h σ K := by
  have hm := hr.2.2.2.1
  unfold m_X5_isHelper
  rw [show (3 : Int32).toNatClampNeg = 3 by decide]
  refine ⟨by rw [ti_in]; decide, p_X5_in ?_⟩
  have e : (σ 350 3 - 1).toInt = rI (σ 350) 3 - 1 := by
    unfold rI at hm ⊢
    rw [ti_sub (by rw [d1]; omega) (by rw [d1]; omega), d1]
  rw [e, d0]
  by_cases hh : 0 ≤ h.toInt ∧ h.toInt < rI (σ 350) 3
  · rw [if_pos (by omega)]
    rwa [if_pos hh] at k
  · rw [if_neg (by omega)]
    rwa [if_neg hh] at k
/-- a helper's place in the row -/
theorem hix {h : Int32} {ρ : Nat → Int32} (hr : okR ρ) (h1 : 0 ≤ h.toInt ∧ h.toInt < rI ρ 3) : ∃ i : Nat, i < 3 ∧ (i : Int) < rI ρ 3 ∧ h = nI i ∧ (1089 + 3 * h).toInt = 1089 + 3 * i ∧ (1089 + 3 * h + 1).toInt = 1090 + 3 * i ∧ (1089 + 3 * h + 2).toInt = 1091 + 3 * i := by
  have hm := hr.2.2.2.1
  have d3 : (3 : Int32).toInt = 3 := by decide
  have d2 : (2 : Int32).toInt = 2 := by decide
  have dk : (1089 : Int32).toInt = 1089 := by decide
  obtain ⟨i, hi⟩ : ∃ i : Nat, h.toInt = i := ⟨h.toInt.toNat, by omega⟩
  have e1 : (3 * h).toInt = 3 * i := by rw [ti_mul (by rw [d3]; omega) (by rw [d3]; omega), d3, hi]
  have e2 : (1089 + 3 * h).toInt = 1089 + 3 * i := by rw [ti_add (by rw [e1, dk]; omega) (by rw [e1, dk]; omega), e1, dk]
  refine ⟨i, by omega, by omega, by rw [ti_eq, nI_toInt (by omega), hi], e2, ?_, ?_⟩
  · rw [ti_add (by rw [e2, d1]; omega) (by rw [e2, d1]; omega), e2, d1]
    omega
  · rw [ti_add (by rw [e2, d2]; omega) (by rw [e2, d2]; omega), e2, d2]
    omega
theorem cl20_of {ρ : Nat → Int32} {a b : Nat} (h : isP (rI ρ a, rI ρ b)) : 20 * ρ b + ρ a = cl20 (rI ρ a, rI ρ b) := num20 h
theorem p_X5_helperCell {h : Int32} {σ : Sg} {K : Int32 → Sg → Prop} (hq : okQ (σ 350)) (i : Nat) (hi : (i : Int) < rI (σ 350) 3) (e1 : (1089 + 3 * h).toInt = 1089 + 3 * i) (e2 : (1089 + 3 * h + 1).toInt = 1090 + 3 * i) (k : K (cl20 (hAt (σ 350) i)) σ) : m_X5_helperCell h σ K := by
  have hm := hq.1.2.2.2.1
  have hP := onS_isP hq.1 (hq.2.2.2.1 i hi).1.1
  unfold m_X5_helperCell m_X5_cellAt
  refine ⟨by rw [ti_in, e1]; omega, by rw [ti_in, e2]; omega, ?_⟩
  rw [ti_c, ti_c, e1, e2, show (1089 + 3 * (i : Int)).toNat = 1089 + 3 * i by omega, show (1090 + 3 * (i : Int)).toNat = 1090 + 3 * i by omega, cl20_of hP]
  exact k
theorem p_X5_fuelOf {h : Int32} {σ : Sg} {K : Int32 → Sg → Prop} (hq : okQ (σ 350)) (i : Nat) (hi : (i : Int) < rI (σ 350) 3) (e3 : (1089 + 3 * h + 2).toInt = 1091 + 3 * i) (k : K (σ 350 (1091 + 3 * i)) σ) : m_X5_fuelOf h σ K := by
  have hm := hq.1.2.2.2.1
  unfold m_X5_fuelOf
  refine ⟨by rw [ti_in, e3]; omega, ?_⟩
  rw [ti_c, e3, show (1091 + 3 * (i : Int)).toNat = 1091 + 3 * i by omega]
  exact k
theorem p_X5_drifterCell {σ : Sg} {K : Int32 → Sg → Prop} (hq : okQ (σ 350)) (k : K (cl20 (rI (σ 350) 6, rI (σ 350) 7)) σ) : m_X5_drifterCell σ K := by
  have hP := onS_isP hq.1 hq.2.1.1
  unfold m_X5_drifterCell m_X5_cellAt
  refine ⟨by rw [ti_in]; decide, by rw [ti_in]; decide, ?_⟩
  rw [show (6 : Int32).toNatClampNeg = 6 by decide, show (7 : Int32).toNatClampNeg = 7 by decide, cl20_of hP]
  exact k
