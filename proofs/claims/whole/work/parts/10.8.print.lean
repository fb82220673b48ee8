/-! helper, print -/
theorem clW_inj {ρ : Nat → Int32} (hr : okR ρ) {p q : Int × Int} (hp : onS ρ p.1 p.2 = true) (hq : onS ρ q.1 q.2 = true) (h : clW (rI ρ 0) p = clW (rI ρ 0) q) : p = q := by
  have h' := congrArg Int32.toInt h
  rw [clW_i hr hp, clW_i hr hq] at h'
  obtain ⟨a1, a2, a3, a4⟩ := onS_iff.mp hp
  obtain ⟨b1, b2, b3, b4⟩ := onS_iff.mp hq
  obtain ⟨e1, e2⟩ := cell_inj a1 a2 b1 b2 h'
  exact Prod.ext e1 e2
theorem cl20_inj {p q : Int × Int} (hp : isP p) (hq : isP q) (h : cl20 p = cl20 q) : p = q := by
  have h' := congrArg Int32.toInt h
  rw [cl20_i hp, cl20_i hq] at h'
  unfold isP at hp hq
  exact Prod.ext (by omega) (by omega)
theorem d3 : (3 : Int32).toInt = 3 := by decide
theorem d2 : (2 : Int32).toInt = 2 := by decide
theorem ne_of_ti {a b : Int32} (h : a.toInt ≠ b.toInt) : ¬ a = b := fun e => h (congrArg _ e)
theorem of_ti {z : Int32} {k : Nat} (hk : k < 2147483648) (h : z.toInt = k) : z = nI k := by rw [ti_eq, nI_toInt (by omega), h]
/-- the reference's helper, asked rightly -/
theorem k_helper {σc σm : Sg} {p1 p2 : Int32} (hR : Rel σc σm) (i : Nat) (hi : (i : Int) < rI (σm 350) 3) (e0 : p1 = nI i) (e1 : (1089 + 3 * p1).toInt = 1089 + 3 * i) (e2 : (1089 + 3 * p1 + 1).toInt = 1090 + 3 * i) (e3 : (1089 + 3 * p1 + 2).toInt = 1091 + 3 * i) (h2 : 0 ≤ p2.toInt ∧ p2.toInt ≤ 3) {u : Int32}
    (hu : (p2.toInt = 0 → u = σm 350 (1089 + 3 * i)) ∧ (p2.toInt = 1 → u = σm 350 (1090 + 3 * i)) ∧ (p2.toInt = 2 → u = σm 350 (1091 + 3 * i)) ∧ (p2.toInt = 3 → u = if hAt (σm 350) i = (rI (σm 350) 6, rI (σm 350) 7) then 1 else 0)) : K_helper Rel p1 p2 σm 0 σc u.toInt64 := by
  intro s hs
  have e350 : s 350 = σm 350 := by rw [hs]; exact st2_row (by decide)
  obtain ⟨h0, h⟩ := start hR s hs
  have hm := hR.1.1.1.2.2.2.1
  have hi1 : 0 ≤ p1.toInt ∧ p1.toInt < rI (σm 350) 3 := by rw [e0, nI_toInt (by omega)]; omega
  refine p_X5_isHelper h.1.1.1 ?_
  rw [e350, if_pos hi1]
  refine ⟨fun _ => p_bad0 h0 ⟨fun z => absurd rfl z, fun _ => p_X5_in ?_⟩, fun z => absurd z one0⟩
  rw [d0, d3, if_pos h2]
  refine ⟨fun _ => p_bad0 h0 ⟨fun _ => ⟨fun z => ?_, fun z => ?_⟩, fun z => absurd rfl z⟩, fun z => absurd z one0⟩
  · rw [ti_le, d3] at z
    rw [hu.2.2.2 (by omega)]
    refine p_X5_helperCell h.1.1 i (by rw [e350]; exact hi) e1 e2 (p_X5_drifterCell h.1.1 ?_)
    rw [e350]
    have hP : isP (hAt (σm 350) i) := onS_isP hR.1.1.1 (hR.1.1.2.2.2.1 i hi).1.1
    have hD : isP (rI (σm 350) 6, rI (σm 350) 7) := onS_isP hR.1.1.1 hR.1.1.2.1.1
    refine ⟨fun q => ⟨h0, fun _ => ?_, h⟩, fun q => ⟨h0, fun _ => ?_, h⟩⟩
    · rw [if_neg (fun e => q (by rw [e]))]
    · rw [if_pos (cl20_inj hP hD q)]
  · rw [ti_le, d3] at z
    have e4 : (1089 + 3 * p1 + p2).toInt = 1089 + 3 * i + p2.toInt := by rw [ti_add (by rw [e1]; omega) (by rw [e1]; omega), e1]
    refine ⟨by rw [ti_in, e4]; omega, h0, fun _ => ?_, h⟩
    rw [ti_c, e4, e350]
    rcases (show p2.toInt = 0 ∨ p2.toInt = 1 ∨ p2.toInt = 2 by omega) with q | q | q
    · rw [hu.1 q, q, show (1089 + 3 * (i : Int) + 0).toNat = 1089 + 3 * i by omega]
    · rw [hu.2.1 q, q, show (1089 + 3 * (i : Int) + 1).toNat = 1090 + 3 * i by omega]
    · rw [hu.2.2.1 q, q, show (1089 + 3 * (i : Int) + 2).toNat = 1091 + 3 * i by omega]
theorem rI_of {ρ : Nat → Int32} (k : Nat) : Int32.ofInt (rI ρ k) = ρ k := (ti_ext rfl).symm
theorem ob_helper : obl_helper Rel := by
  intro σc σm v p1 p2 hR
  have hr := hR.1.1.1
  have hw := hR.1.2
  have hm := hr.2.2.2.1
  by_cases h1 : 0 ≤ p1.toInt ∧ p1.toInt < rI (σm 350) 3
  · obtain ⟨i, i3, hi, e0, e1, e2, e3⟩ := hix hr h1
    refine p_helpY hw h1 (p_X4_isIn ?_)
    rw [d0, d3]
    by_cases h2 : 0 ≤ p2.toInt ∧ p2.toInt ≤ 3
    · rw [if_pos h2]
      have ep : p1.toInt = i := by rw [e0, nI_toInt (by omega)]
      have hS := (hR.1.1.2.2.2.1 i hi).1.1
      obtain ⟨q1, q2⟩ := hw.2.2.2.1 i hi
      refine p_need1 (p_X4_read (W_L1 W_2) (by decide) (by omega) (by omega) ?_)
      rw [ep, show ((i : Int)).toNat = i by omega, q1, hw.2.1.1]
      have kx := fun {u : Int32} hu => k_helper (u := u) hR i hi e0 e1 e2 e3 h2 hu
      refine ⟨fun z => ?_, fun z => ?_, fun z => ?_, fun z => ?_⟩
      · rw [ti_lt, ti_lt, d0, d2] at z
        refine ⟨fun q => kx ⟨by omega, by omega, by omega, fun _ => ?_⟩, fun q => kx ⟨by omega, by omega, by omega, fun _ => ?_⟩⟩
        · rw [if_neg (fun e => q (by rw [show (rI (σm 350) (1089 + 3 * i), rI (σm 350) (1090 + 3 * i)) = hAt (σm 350) i from rfl, e]))]
        · rw [if_pos (clW_inj hr hS hR.1.1.2.1.1 q)]
      · have z' : p2.toInt = 0 := by rw [z, d0]
        refine p_X3_xOf hw hr hS (kx ⟨fun _ => ?_, by omega, by omega, by omega⟩)
        exact rI_of _
      · have z' : p2.toInt = 1 := by rw [z, d1]
        refine p_X3_yOf hw hr hS (kx ⟨by omega, fun _ => ?_, by omega, by omega⟩)
        exact rI_of _
      · have z' : p2.toInt = 2 := by rw [z, d2]
        refine p_X4_read (W_L2 W_2) (by decide) (by omega) (by omega) ?_
        rw [ep, show ((i : Int)).toNat = i by omega, q2]
        exact kx ⟨by omega, by omega, fun _ => rfl, by omega⟩
    · rw [if_neg h2]
      refine p_need0 (Or.inr ⟨rfl, ?_⟩)
      intro s hs
      have e350 : s 350 = σm 350 := by rw [hs]; exact st2_row (by decide)
      obtain ⟨h0, h⟩ := start hR s hs
      refine p_X5_isHelper h.1.1.1 ?_
      rw [e350, if_pos h1]
      refine ⟨fun _ => p_bad0 h0 ⟨fun z => absurd rfl z, fun _ => p_X5_in ?_⟩, fun z => absurd z one0⟩
      rw [d0, d3, if_neg h2]
      exact ⟨fun z => absurd rfl z, fun _ => leafR h h0 1 (by decide) (by decide)⟩
  · refine p_helpN hw h1 (Or.inl ⟨rfl, ?_⟩)
    intro s hs
    have e350 : s 350 = σm 350 := by rw [hs]; exact st2_row (by decide)
    obtain ⟨h0, h⟩ := start hR s hs
    refine p_X5_isHelper h.1.1.1 ?_
    rw [e350, if_neg h1]
    exact ⟨fun z => absurd rfl z, fun _ => leafL h h0 0 (by decide) (by decide)⟩
/-- print's sum -/
def prS (ρ : Nat → Int32) : Nat → Int64
  | 0 => 31 * (clW (rI ρ 0) (rI ρ 6, rI ρ 7)).toInt64 + (clW (rI ρ 0) (rI ρ 8, rI ρ 9)).toInt64
  | i + 1 => 31 * (31 * prS ρ i + (clW (rI ρ 0) (hAt ρ i)).toInt64) + (ρ (1091 + 3 * i)).toInt64
theorem prC {σ : Sg} {ρ : Nat → Int32} {K : Int64 → Sg → Prop} (hr : okR ρ) (hw : Rw σ 2 ρ) {M : Nat} (hM : rI ρ 3 = M) (h : K (prS ρ M) σ) : ∀ k i, i + k = M → m_X4_print_l24 K (k + 1) (prS ρ i) (nI i) σ := by
  have hm := hr.2.2.2.1
  have e7 : σ 2 7 = nI M := by rw [hw.2.2.1.1]; exact of_ti (by omega) hM
  intro k
  induction k with
  | zero =>
    intro i hi
    have : i = M := by omega
    subst this
    refine ⟨fun _ => h, fun z => ?_⟩
    rw [e7, ti_le] at z
    omega
  | succ k ih =>
    intro i hi
    obtain ⟨q1, q2⟩ := hw.2.2.2.1 i (by omega)
    have ei := nI_toInt (n := i) (by omega)
    refine ⟨fun z => ?_, fun _ => p_X4_read (W_L1 W_2) (by decide) (by omega) (by omega) (p_X4_read (W_L2 W_2) (by decide) (by omega) (by omega) ?_)⟩
    · rw [e7, ti_le, nI_toInt (by omega), ei] at z
      omega
    · rw [ei, show ((i : Int)).toNat = i by omega, q1, q2, ← nI_succ]
      exact ih (i + 1) (by omega)
theorem prM {σ : Sg} {K : Int64 → Sg → Prop} (hq : okQ (σ 350)) {M : Nat} (hM : rI (σ 350) 3 = M) (h : K (prS (σ 350) M) σ) : ∀ k i, i + k = M → m_X5_print_l57 K (k + 1) (prS (σ 350) i) (nI i) σ := by
  have hm := hq.1.2.2.2.1
  have e7 : σ 350 3 = nI M := of_ti (by omega) hM
  have i3 : vp_in 3 1098 := by rw [ti_in]; decide
  intro k
  induction k with
  | zero =>
    intro i hi
    have : i = M := by omega
    subst this
    refine ⟨i3, fun _ => h, fun z => ?_⟩
    rw [show (3 : Int32).toNatClampNeg = 3 by decide, e7, ti_le] at z
    omega
  | succ k ih =>
    intro i hi
    have ei := nI_toInt (n := i) (by omega)
    obtain ⟨j, -, hj, ej, e1, e2, e3⟩ := hix (h := nI i) hq.1 (by omega)
    have : j = i := by
      have := congrArg Int32.toInt ej
      rw [ei, nI_toInt (by omega)] at this
      omega
    subst this
    have hS := (hq.2.2.2.1 j hj).1.1
    refine ⟨i3, fun z => ?_, fun _ => ⟨by rw [ti_in, e1]; omega, by rw [ti_in, e2]; omega, ⟨by rw [ti_in]; decide, ?_⟩⟩⟩
    · rw [show (3 : Int32).toNatClampNeg = 3 by decide, e7, ti_le, nI_toInt (by omega), ei] at z
      omega
    · rw [show (0 : Int32).toNatClampNeg = 0 by decide, ti_c (1089 + 3 * nI j), ti_c (1089 + 3 * nI j + 1), e1, e2, show (1089 + 3 * (j : Int)).toNat = 1089 + 3 * j by omega, show (1090 + 3 * (j : Int)).toNat = 1090 + 3 * j by omega, numW hq.1 (a := σ 350 (1089 + 3 * j)) (b := σ 350 (1090 + 3 * j)) hS]
      refine p_X5_fuelOf hq j hj e3 ?_
      rw [← nI_succ]
      exact ih (j + 1) (by omega)
theorem ob_print : obl_print Rel := by
  intro σc σm hR
  have hr := hR.1.1.1
  have hw := hR.1.2
  have hm := hr.2.2.2.1
  obtain ⟨M, hM⟩ : ∃ M : Nat, rI (σm 350) 3 = M := ⟨(rI (σm 350) 3).toNat, by omega⟩
  refine ⟨M + 1, ?_⟩
  rw [hw.2.1.1, hw.2.1.2]
  refine prC hr hw hM ?_ M 0 (by omega)
  intro s hs
  have e350 : s 350 = σm 350 := by rw [hs]; exact st2_row (by decide)
  obtain ⟨h0, h⟩ := start hR s hs
  have i0 : vp_in 0 1098 := by rw [ti_in]; decide
  refine ⟨by rw [ti_in]; decide, by rw [ti_in]; decide, i0, by rw [ti_in]; decide, by rw [ti_in]; decide, i0, M + 1, ?_⟩
  rw [show (0 : Int32).toNatClampNeg = 0 by decide, show (6 : Int32).toNatClampNeg = 6 by decide, show (7 : Int32).toNatClampNeg = 7 by decide, show (8 : Int32).toNatClampNeg = 8 by decide, show (9 : Int32).toNatClampNeg = 9 by decide, numW h.1.1.1 (a := s 350 6) (b := s 350 7) h.1.1.2.1.1, numW h.1.1.1 (a := s 350 8) (b := s 350 9) h.1.1.2.2.1.1]
  refine prM h.1.1 (by rw [e350]; exact hM) ?_ M 0 (by omega)
  rw [e350]
  exact ⟨rfl, h⟩
