/-! the class's world -/
theorem d0 : (0 : Int32).toInt = 0 := by decide
theorem d1 : (1 : Int32).toInt = 1 := by decide
theorem dm1 : (-1 : Int32).toInt = -1 := by decide
theorem stp_on {ρ : Nat → Int32} {p : Int × Int} (hp : onS ρ p.1 p.2 = true) (d : Int32) : onS ρ (stp ρ p d).1 (stp ρ p d).2 = true := by
  unfold stp
  split
  · next ho => exact (okS_iff.mp ho).2.1
  · exact hp
theorem onS_P {ρ : Nat → Int32} (hr : okR ρ) {p : Int × Int} (hp : onS ρ p.1 p.2 = true) : isP p := onS_isP hr hp
section
variable {w : Nat} {ρ : Nat → Int32} {σ : Sg} {K : Int32 → Sg → Prop} {p : Int × Int}
theorem p_X3_xOf (hR : Rw σ w ρ) (hr : okR ρ) (hp : onS ρ p.1 p.2 = true) (h : K (Int32.ofInt p.1) σ) : m_X3_xOf w (clW (rI ρ 0) p) σ K := by
  have e0 := hR.1.1
  have hW := hr.1
  have ec := clW_i hr hp
  have oc := onS_cell hr hp
  obtain ⟨h1, h2, h3, h4⟩ := onS_iff.mp hp
  have e : clW (rI ρ 0) p - clW (rI ρ 0) p / ρ 0 * ρ 0 = Int32.ofInt p.1 := ti_ext (by
    rw [ti_rem (by rw [ec]; omega) (by unfold rI at hW; omega), ec]
    exact cell_mod h1 h2)
  unfold m_X3_xOf
  rw [e0, e]
  unfold rI at hW
  refine ⟨fun z => ?_, fun _ => ⟨fun q => ?_, h⟩⟩
  · rw [ti_le, d0] at z
    omega
  · rw [q, d0] at hW
    omega
theorem p_X3_yOf (hR : Rw σ w ρ) (hr : okR ρ) (hp : onS ρ p.1 p.2 = true) (h : K (Int32.ofInt p.2) σ) : m_X3_yOf w (clW (rI ρ 0) p) σ K := by
  have e0 := hR.1.1
  have hW := hr.1
  have ec := clW_i hr hp
  have oc := onS_cell hr hp
  obtain ⟨h1, h2, h3, h4⟩ := onS_iff.mp hp
  have e : clW (rI ρ 0) p / ρ 0 = Int32.ofInt p.2 := ti_ext (by
    rw [ti_div (by rw [ec]; omega) (by unfold rI at hW; omega), ec]
    exact cell_div h1 h2)
  unfold m_X3_yOf
  rw [e0, e]
  unfold rI at hW
  refine ⟨fun z => ?_, fun _ => ⟨fun q => ?_, h⟩⟩
  · rw [ti_le, d0] at z
    omega
  · rw [q, d0] at hW
    omega
theorem p_X3_isOnSea {a b : Int32} (hR : Rw σ w ρ) (h : K (if onS ρ a.toInt b.toInt = true then 1 else 0) σ) : m_X3_isOnSea w a b σ K := by
  obtain ⟨⟨e0, e1, -⟩, -⟩ := hR
  unfold m_X3_isOnSea
  rw [e0, e1]
  have hno : ¬ (0 ≤ a.toInt ∧ a.toInt < rI ρ 0 ∧ 0 ≤ b.toInt ∧ b.toInt < rI ρ 1) → K 0 σ := fun z => by rwa [if_neg (fun q => z (onS_iff.mp q))] at h
  unfold rI at hno
  refine ⟨fun z => hno ?_, fun z => ⟨fun y => hno ?_, fun y => ⟨fun x => hno ?_, fun x => ⟨fun u => hno ?_, fun u => ?_⟩⟩⟩⟩
  · rw [ti_lt, d0] at z
    omega
  · rw [ti_le] at y
    omega
  · rw [ti_lt, d0] at x
    omega
  · rw [ti_le] at u
    omega
  · rw [ti_lt, d0] at z x
    rw [ti_le] at y u
    rwa [if_pos (onS_iff.mpr (by unfold rI; omega))] at h
theorem p_X3_stepFrom (hw : IsW w) (hR : Rw σ w ρ) (hr : okR ρ) (hp : onS ρ p.1 p.2 = true) {d : Int32} (hd : isD d) (h : K (if okS ρ p.1 p.2 d = true then clW (rI ρ 0) (p.1 + gE d, p.2 + gN d) else -1) σ) : m_X3_stepFrom w (clW (rI ρ 0) p) d σ K := by
  have hb := g_b hd
  have hP := onS_P hr hp
  unfold isP at hP
  have hd' := hd
  unfold isD at hd'
  have i9 : vp_in d 9 := by rw [ti_in]; omega
  unfold m_X3_stepFrom
  refine ⟨fun z => ?_, fun z => ⟨fun _ => p_X3_xOf hR hr hp ⟨i9, fun x hx => p_X3_yOf hR hr hp ⟨i9, fun y hy => ?_⟩⟩, fun y => ?_⟩⟩
  · rw [ti_lt, d1] at z
    rwa [if_neg (fun q => by have := (okS_iff.mp q).1; omega)] at h
  · rw [ti_lt, d1] at z
    have ex : (Int32.ofInt p.1).toInt = p.1 := ti_of (by omega) (by omega)
    have ey : (Int32.ofInt p.2).toInt = p.2 := ti_of (by omega) (by omega)
    have hx' : x.toInt = p.1 + gE d := by
      rw [hx, ti_add (by rw [ex]; unfold gE at hb; omega) (by rw [ex]; unfold gE at hb; omega), ex]
      rfl
    have hy' : y.toInt = p.2 + gN d := by
      rw [hy, ti_add (by rw [ey]; unfold gN at hb; omega) (by rw [ey]; unfold gN at hb; omega), ey]
      rfl
    unfold m_X3_cellAt
    refine p_X3_isOnSea hR ?_
    rw [hx', hy']
    by_cases ho : onS ρ (p.1 + gE d) (p.2 + gN d) = true
    · rw [if_pos ho]
      have oc := onS_cell (p := (p.1 + gE d, p.2 + gN d)) hr ho
      obtain ⟨o1, o2, o3, o4⟩ := onS_iff.mp ho
      have hW := hr.1
      have hH := hr.2.1
      have m1 : 0 ≤ rI ρ 0 * (p.2 + gN d) := Int.mul_nonneg (by omega) o3
      have e1 : (σ w 0 * y).toInt = rI ρ 0 * (p.2 + gN d) := by
        rw [hR.1.1, ti_mul (by rw [hy']; show -2147483648 ≤ rI ρ 0 * (p.2 + gN d); omega) (by rw [hy']; show rI ρ 0 * (p.2 + gN d) < 2147483648; simp only at oc; omega), hy']
        rfl
      have e2 : (σ w 0 * y + x).toInt = rI ρ 0 * (p.2 + gN d) + (p.1 + gE d) := by
        simp only at oc
        rw [ti_add (by rw [e1, hx']; omega) (by rw [e1, hx']; omega), e1, hx']
      have e3 : σ w 0 * y + x = clW (rI ρ 0) (p.1 + gE d, p.2 + gN d) := ti_ext e2
      refine ⟨fun q => absurd q (by decide), fun _ => p_X4_read (W_L3 hw) (by decide) (by rw [e2]; exact oc.1) (by rw [e2]; simp only at oc; omega) ?_⟩
      rw [e2, (hR.2.2.2.2.1 _ _ ho).1, e3]
      refine ⟨fun q => ?_, fun q => ?_⟩
      · rwa [if_neg (fun u => q (okS_iff.mp u).2.2)] at h
      · rwa [if_pos (okS_iff.mpr ⟨by omega, ho, q⟩)] at h
    · rw [if_neg ho]
      rw [if_neg (fun u => ho (okS_iff.mp u).2.1)] at h
      exact ⟨fun _ => h, fun q => absurd rfl q⟩
  · rw [ti_lt, show (9 : Int32).toInt = 9 by decide] at y
    omega
theorem clW_ne (hr : okR ρ) (hp : onS ρ p.1 p.2 = true) : ¬ clW (rI ρ 0) p = -1 := by
  rw [ti_eq, clW_i hr hp, dm1]
  have := onS_cell hr hp
  omega
theorem p_X3_carriedFrom (hw : IsW w) (hR : Rw σ w ρ) (hr : okR ρ) (hp : onS ρ p.1 p.2 = true) {d : Int32} (hd : isD d) (h : K (clW (rI ρ 0) (stp ρ p d)) σ) : m_X3_carriedFrom w (clW (rI ρ 0) p) d σ K := by
  unfold m_X3_carriedFrom
  refine p_X3_stepFrom hw hR hr hp hd ?_
  unfold stp at h
  by_cases ho : okS ρ p.1 p.2 d = true
  · rw [if_pos ho]
    rw [if_pos ho] at h
    exact ⟨fun _ => h, fun q => absurd q (clW_ne (p := (p.1 + gE d, p.2 + gN d)) hr (okS_iff.mp ho).2.1)⟩
  · rw [if_neg ho]
    rw [if_neg ho] at h
    exact ⟨fun q => absurd rfl q, fun _ => h⟩
theorem p_curr (hw : IsW w) (hR : Rw σ w ρ) (hr : okR ρ) (hp : onS ρ p.1 p.2 = true) (h : K (crt ρ p) σ) : m_X4_read (w + 4) (clW (rI ρ 0) p) σ K := by
  have ec := clW_i hr hp
  have oc := onS_cell hr hp
  refine p_X4_read (W_L4 hw) (by decide) (by rw [ec]; omega) (by rw [ec]; omega) ?_
  rw [ec, (hR.2.2.2.2.1 _ _ hp).2]
  exact h
theorem p_X3_drifterBehind (hw : IsW w) (hR : Rw σ w ρ) (hr : okR ρ) (hp : onS ρ p.1 p.2 = true) {v : Int32} (h0 : 0 ≤ v.toInt) (h1 : v.toInt ≤ 560) (h : K (clW (rI ρ 0) (drf ρ p v.toInt)) σ) : m_X3_drifterBehind w (clW (rI ρ 0) p) v σ K := by
  have hP := onS_P hr hp
  have hb := hr.2.2.2.2.2.1
  unfold m_X3_drifterBehind
  refine p_curr hw hR hr hp (p_X3_carriedFrom hw hR hr hp (crt_D hr hP) ?_)
  rw [hR.1.2.2.2.2]
  unfold rI at hb
  refine ⟨fun z => ?_, fun z => ?_⟩
  · rw [ti_le, d0] at z
    unfold drf at h
    rw [if_neg (by unfold rI; omega)] at h
    exact ⟨fun _ => h, fun q => absurd rfl q⟩
  · rw [ti_le, d0] at z
    have e3 : (v + 1).toInt = v.toInt + 1 := by
      rw [ti_add (by rw [d1]; omega) (by rw [d1]; omega)]
      rfl
    have e4 : (v + 1 - (v + 1) / ρ 5 * ρ 5).toInt = (v.toInt + 1) % (ρ 5).toInt := by
      rw [ti_rem (by rw [e3]; omega) (by omega), e3]
    have hz : (v + 1 - (v + 1) / ρ 5 * ρ 5) = 0 ↔ (v.toInt + 1) % (ρ 5).toInt = 0 := by
      rw [ti_eq, e4]
      rfl
    have hq := stp_on hp (crt ρ p)
    refine ⟨fun q => z (by rw [q]; decide), fun y => ?_, fun y => ?_⟩
    · unfold drf at h
      rw [if_neg (fun q => y (hz.mpr q.2))] at h
      exact ⟨fun _ => h, fun q => absurd rfl q⟩
    · unfold drf at h
      rw [if_pos ⟨by unfold rI; omega, hz.mp y⟩] at h
      exact ⟨fun q => absurd q (by decide), fun _ => p_X3_windOf hw hR hr h0 h1 (p_X3_carriedFrom hw hR hr hq (wnd_D hr h0 h1) h)⟩
theorem p_X3_portBehind (hw : IsW w) (hR : Rw σ w ρ) (hr : okR ρ) (hp : onS ρ p.1 p.2 = true) {v : Int32} (h0 : 0 ≤ v.toInt) (h : K (clW (rI ρ 0) (prt ρ p v.toInt)) σ) : m_X3_portBehind w (clW (rI ρ 0) p) v σ K := by
  have hn := hr.2.2.2.2.2.2.2.1
  unfold m_X3_portBehind
  rw [hR.2.2.1.2.2]
  unfold prt at h
  refine ⟨fun z => ?_, fun z => ?_⟩
  · rw [ti_le, d0] at z
    rwa [if_pos (ti_eq.mpr (by unfold rI at hn; rw [d0]; omega))] at h
  · rw [ti_le, d0] at z
    have hz : ¬ ρ 11 = 0 := fun q => z (by rw [q]; decide)
    rw [if_neg hz] at h
    have hp2 : 0 < rI ρ 11 := by unfold rI; omega
    have e3 := ti_rem (a := v) (b := ρ 11) h0 hp2
    have a := Int.emod_nonneg v.toInt (show (ρ 11).toInt ≠ 0 by unfold rI at hp2; omega)
    have b := Int.emod_lt_of_pos v.toInt hp2
    unfold rI at hn b
    refine ⟨hz, p_X4_read (W_L6 hw) (by decide) (by rw [e3]; exact a) (by rw [e3]; omega) ?_⟩
    rw [e3, hR.2.2.2.2.2.2.2.1 _ (by unfold rI; omega)]
    exact p_X3_carriedFrom hw hR hr hp (hr.2.2.2.2.2.2.2.2.2.1 _ (by omega)) h
theorem stp0 : stp ρ p 0 = p := by
  unfold stp
  rw [if_neg (fun q => by have := (okS_iff.mp q).1; rw [d0] at this; omega)]
theorem p_X3_helperBehind (hw : IsW w) (hR : Rw σ w ρ) (hr : okR ρ) (hp : onS ρ p.1 p.2 = true) {d : Int32} (hd : isD d) (h : K (if d = 0 ∨ okS ρ p.1 p.2 d = true then clW (rI ρ 0) (crr ρ p d) else -1) σ) : m_X3_helperBehind w (clW (rI ρ 0) p) d σ K := by
  unfold m_X3_helperBehind
  refine ⟨fun z => p_X3_stepFrom hw hR hr hp hd ?_, fun z => ?_⟩
  · by_cases ho : okS ρ p.1 p.2 d = true
    · rw [if_pos ho]
      rw [if_pos (Or.inr ho)] at h
      have hq := (okS_iff.mp ho).2.1
      have es : stp ρ p d = (p.1 + gE d, p.2 + gN d) := by unfold stp; rw [if_pos ho]
      unfold crr at h
      rw [es] at h
      exact ⟨fun _ => p_curr (p := (p.1 + gE d, p.2 + gN d)) hw hR hr hq (p_X3_carriedFrom (p := (p.1 + gE d, p.2 + gN d)) hw hR hr hq (crt_D hr (onS_P hr hq)) h), fun q => absurd q (clW_ne (p := (p.1 + gE d, p.2 + gN d)) hr hq)⟩
    · rw [if_neg ho]
      rw [if_neg (fun q => q.elim z ho)] at h
      exact ⟨fun q => absurd rfl q, fun _ => h⟩
  · rw [if_pos (Or.inl z), z] at h
    unfold crr at h
    rw [stp0] at h
    exact ⟨fun _ => p_curr hw hR hr hp (p_X3_carriedFrom hw hR hr hp (crt_D hr (onS_P hr hp)) h), fun q => absurd q (clW_ne hr hp)⟩
theorem p_X3_priceOf (hw : IsW w) (hR : Rw σ w ρ) (hr : okR ρ) {c v : Int32} (hc : isD c) (h0 : 0 ≤ v.toInt) (h1 : v.toInt ≤ 560) (h : K (Int32.ofInt (cst c (wnd ρ v.toInt))) σ) : m_X3_priceOf w c v σ K := by
  unfold m_X3_priceOf
  refine ⟨fun z => p_X3_windOf hw hR hr h0 h1 ⟨fun y a ha => ?_, fun y => ?_⟩, fun z => ?_⟩
  · obtain ⟨c1, c2⟩ := hc
    obtain ⟨u1, u2⟩ := wnd_D hr h0 h1
    have d8 : (8 : Int32).toInt = 8 := by decide
    unfold cst at h
    rw [if_neg z, if_neg y] at h
    have es : (c - wnd ρ v.toInt).toInt = c.toInt - (wnd ρ v.toInt).toInt := ti_sub (by omega) (by omega)
    have ez : (0 - (c - wnd ρ v.toInt)).toInt = (wnd ρ v.toInt).toInt - c.toInt := by
      rw [ti_sub (by rw [es, d0]; omega) (by rw [es, d0]; omega), es, d0]
      omega
    have ea : a.toInt = if c.toInt ≤ (wnd ρ v.toInt).toInt then (wnd ρ v.toInt).toInt - c.toInt else c.toInt - (wnd ρ v.toInt).toInt := by
      rw [ha]
      split
      · next q =>
        rw [ti_le, es, d0] at q
        rw [es]
        split <;> omega
      · next q =>
        rw [ti_le, es, d0] at q
        rw [ez, if_pos (by omega)]
    have eb : 0 ≤ a.toInt ∧ a.toInt ≤ 8 := by rw [ea]; split <;> omega
    have e8 : (8 - a).toInt = 8 - a.toInt := by rw [ti_sub (by rw [d8]; omega) (by rw [d8]; omega), d8]
    have ef : (1 + (if 8 - a < a then 8 - a else a)) = Int32.ofInt (if 8 - a.toInt ≤ a.toInt then 1 + (8 - a.toInt) else 1 + a.toInt) := ti_ext (by
      split
      · next q =>
        rw [ti_lt, e8] at q
        rw [ti_add (by rw [d1, e8]; omega) (by rw [d1, e8]; omega), d1, e8, if_pos (by omega)]
      · next q =>
        rw [ti_lt, e8] at q
        rw [ti_add (by rw [d1]; omega) (by rw [d1]; omega), d1]
        split <;> omega)
    rw [ef, ea]
    split
    · next q =>
      rw [if_pos q] at h
      exact h
    · next q =>
      rw [if_neg q] at h
      exact h
  · unfold cst at h
    rw [if_neg z, if_pos y] at h
    exact h
  · unfold cst at h
    rw [if_pos z] at h
    exact h
end
