/-! the reference's sea, on -/
theorem p_X5_windOf {r : Nat} {v : Int32} {σ : Sg} {K : Int32 → Sg → Prop} (hl : ln r = 1098) (hr : okR (σ r)) (h0 : 0 ≤ v.toInt) (h1 : v.toInt ≤ 560) (h : K (wnd (σ r) v.toInt) σ) : m_X5_windOf r v σ K := by
  have hn := hr.2.2.2.2.2.2.1
  have e1 : (48 + v).toInt = 48 + v.toInt := by
    rw [ti_add (by rw [show (48 : Int32).toInt = 48 by decide]; omega) (by rw [show (48 : Int32).toInt = 48 by decide]; omega)]
    rfl
  have e2 : (48 + v).toNatClampNeg = 48 + v.toInt.toNat := by
    rw [ti_c, e1]
    omega
  unfold m_X5_windOf
  rw [e2, hl, show (10 : Int32).toNatClampNeg = 10 by decide]
  have i1 : vp_in (48 + v) 1098 := by rw [ti_in, e1]; omega
  unfold wnd at h
  refine ⟨i1, fun z => ⟨by rw [ti_in]; decide, fun y => ?_, fun y => ?_⟩, fun z => ⟨i1, ?_⟩⟩
  · rw [if_pos z, if_neg y] at h
    have hp : 0 < rI (σ r) 10 := by
      have : rI (σ r) 10 ≠ 0 := fun e => y (ti_eq.mpr e)
      omega
    have e3 := ti_rem (a := v) (b := σ r 10) h0 hp
    have a := Int.emod_nonneg v.toInt (show (σ r 10).toInt ≠ 0 by unfold rI at hp; omega)
    have b := Int.emod_lt_of_pos v.toInt hp
    unfold rI at hn hp b h
    have e4 : (12 + (v - v / σ r 10 * σ r 10)).toInt = 12 + v.toInt % (σ r 10).toInt := by
      rw [ti_add (by rw [e3, show (12 : Int32).toInt = 12 by decide]; omega) (by rw [e3, show (12 : Int32).toInt = 12 by decide]; omega), e3]
      rfl
    have e5 : (12 + (v - v / σ r 10 * σ r 10)).toNatClampNeg = 12 + (v.toInt % (σ r 10).toInt).toNat := by
      rw [ti_c, e4]
      omega
    rw [e5]
    exact ⟨by rw [ti_in]; decide, y, by rw [ti_in, e4]; omega, h⟩
  · rwa [if_pos z, if_pos y] at h
  · rwa [if_neg z] at h
theorem p_X5_carried {r : Nat} {p : Int × Int} {d : Int32} {σ : Sg} {K : Int32 → Sg → Prop} (hl : ln r = 1098) (hr : okR (σ r)) (hp : isP p) (hd : isD d) (h : K (cl20 (crr (σ r) p d)) σ) : m_X5_carried r (cl20 p) d σ K := by
  unfold m_X5_carried
  refine p_X5_behind hl hr hp hd ?_
  have hq := stp_isP hr hp d
  have e0 := cl20_i hq
  have hq' := hq
  unfold isP at hq'
  have e1 : (849 + cl20 (stp (σ r) p d)).toInt = 849 + (20 * (stp (σ r) p d).2 + (stp (σ r) p d).1) := by
    rw [ti_add (by rw [e0, show (849 : Int32).toInt = 849 by decide]; omega) (by rw [e0, show (849 : Int32).toInt = 849 by decide]; omega), e0]
    rfl
  have e2 : (849 + cl20 (stp (σ r) p d)).toNatClampNeg = 849 + (20 * (stp (σ r) p d).2 + (stp (σ r) p d).1).toNat := by
    rw [ti_c, e1]
    omega
  refine ⟨by rw [ti_in, hl, e1]; omega, ?_⟩
  rw [e2]
  exact p_X5_behind hl hr hq (crt_D hr hq) h
theorem crt_at {r : Nat} {p : Int × Int} {σ : Sg} (hp : isP p) : (849 + cl20 p).toInt = 849 + (20 * p.2 + p.1) ∧ σ r (849 + cl20 p).toNatClampNeg = crt (σ r) p := by
  have e0 := cl20_i hp
  unfold isP at hp
  have e1 : (849 + cl20 p).toInt = 849 + (20 * p.2 + p.1) := by
    rw [ti_add (by rw [e0, show (849 : Int32).toInt = 849 by decide]; omega) (by rw [e0, show (849 : Int32).toInt = 849 by decide]; omega), e0]
    rfl
  refine ⟨e1, ?_⟩
  unfold crt
  rw [ti_c, e1]
  congr 1
  omega
theorem p_X5_drifted {r : Nat} {p : Int × Int} {v : Int32} {σ : Sg} {K : Int32 → Sg → Prop} (hl : ln r = 1098) (hr : okR (σ r)) (hp : isP p) (h0 : 0 ≤ v.toInt) (h1 : v.toInt ≤ 560) (h : K (cl20 (drf (σ r) p v.toInt)) σ) : m_X5_drifted r (cl20 p) v σ K := by
  obtain ⟨e1, e2⟩ := crt_at (r := r) (σ := σ) hp
  have hb := hr.2.2.2.2.2.1
  have hp' := hp
  unfold isP at hp'
  unfold m_X5_drifted
  rw [e2, hl, show (5 : Int32).toNatClampNeg = 5 by decide]
  have i5 : vp_in 5 1098 := by rw [ti_in]; decide
  refine ⟨by rw [ti_in, e1]; omega, p_X5_behind hl hr hp (crt_D hr hp) ⟨i5, fun z => ?_, fun z => ?_⟩⟩
  · rw [ti_le, show (0 : Int32).toInt = 0 by decide] at z
    unfold drf at h
    rwa [if_neg (by unfold rI; omega)] at h
  · rw [ti_le, show (0 : Int32).toInt = 0 by decide] at z
    unfold rI at hb
    have e3 : (v + 1).toInt = v.toInt + 1 := by
      rw [ti_add (by rw [show (1 : Int32).toInt = 1 by decide]; omega) (by rw [show (1 : Int32).toInt = 1 by decide]; omega)]
      rfl
    have e4 : (v + 1 - (v + 1) / σ r 5 * σ r 5).toInt = (v.toInt + 1) % (σ r 5).toInt := by
      rw [ti_rem (by rw [e3]; omega) (by omega), e3]
    have hz : (v + 1 - (v + 1) / σ r 5 * σ r 5) = 0 ↔ (v.toInt + 1) % (σ r 5).toInt = 0 := by
      rw [ti_eq, e4]
      rfl
    have hq := stp_isP hr hp (crt (σ r) p)
    refine ⟨i5, fun q => z (by rw [q]; decide), fun y => ?_, fun y => p_X5_windOf hl hr h0 h1 (p_X5_behind hl hr hq (wnd_D hr h0 h1) ?_)⟩
    · unfold drf at h
      rwa [if_neg (fun q => y (hz.mpr q.2))] at h
    · unfold drf at h
      rwa [if_pos ⟨by unfold rI; omega, hz.mp y⟩] at h
theorem p_X5_portBehind {r : Nat} {p : Int × Int} {v : Int32} {σ : Sg} {K : Int32 → Sg → Prop} (hl : ln r = 1098) (hr : okR (σ r)) (hp : isP p) (h0 : 0 ≤ v.toInt) (h : K (cl20 (prt (σ r) p v.toInt)) σ) : m_X5_portBehind r (cl20 p) v σ K := by
  have hn := hr.2.2.2.2.2.2.2.1
  unfold m_X5_portBehind
  rw [hl, show (11 : Int32).toNatClampNeg = 11 by decide]
  have i11 : vp_in 11 1098 := by rw [ti_in]; decide
  unfold prt at h
  refine ⟨i11, fun z => ⟨i11, z, ?_⟩, fun z => ?_⟩
  · rw [if_neg z] at h
    have hp2 : 0 < rI (σ r) 11 := by
      have : rI (σ r) 11 ≠ 0 := fun e => z (ti_eq.mpr e)
      omega
    have e3 := ti_rem (a := v) (b := σ r 11) h0 hp2
    have a := Int.emod_nonneg v.toInt (show (σ r 11).toInt ≠ 0 by unfold rI at hp2; omega)
    have b := Int.emod_lt_of_pos v.toInt hp2
    unfold rI at hn hp2 b h
    have e4 : (36 + (v - v / σ r 11 * σ r 11)).toInt = 36 + v.toInt % (σ r 11).toInt := by
      rw [ti_add (by rw [e3, show (36 : Int32).toInt = 36 by decide]; omega) (by rw [e3, show (36 : Int32).toInt = 36 by decide]; omega), e3]
      rfl
    have e5 : (36 + (v - v / σ r 11 * σ r 11)).toNatClampNeg = 36 + (v.toInt % (σ r 11).toInt).toNat := by
      rw [ti_c, e4]
      omega
    rw [e5]
    exact ⟨by rw [ti_in, e4]; omega, p_X5_behind hl hr hp (hr.2.2.2.2.2.2.2.2.2.1 _ (by omega)) h⟩
  · rwa [if_pos z] at h
theorem p_X5_costBy {c u : Int32} {σ : Sg} {K : Int32 → Sg → Prop} (hc : isD c) (hu : isD u) (h : K (Int32.ofInt (cst c u)) σ) : m_X5_costBy c u σ K := by
  obtain ⟨h1, h2⟩ := hc
  obtain ⟨h3, h4⟩ := hu
  unfold m_X5_costBy
  unfold cst at h
  have d1 : (1 : Int32).toInt = 1 := by decide
  have d8 : (8 : Int32).toInt = 8 := by decide
  refine ⟨fun z => ⟨fun y => ⟨fun q a ha => p_X5_less ?_, fun q a ha => p_X5_less ?_⟩, fun y => ?_⟩, fun z => ?_⟩
  · rw [ti_le] at q
    rw [if_neg z, if_neg y, if_pos q] at h
    have e1 : a.toInt = u.toInt - c.toInt := by rw [ha, ti_sub (by omega) (by omega)]
    have e2 : (8 - a).toInt = 8 - (u.toInt - c.toInt) := by rw [ti_sub (by omega) (by omega), e1]; rfl
    rw [e1, e2]
    split at h
    · next g =>
      rw [if_pos g, show 1 + (8 - a) = Int32.ofInt (1 + (8 - (u.toInt - c.toInt))) from ti_ext (by rw [ti_add (by omega) (by omega), e2]; rfl)]
      exact h
    · next g =>
      rw [if_neg g, show 1 + a = Int32.ofInt (1 + (u.toInt - c.toInt)) from ti_ext (by rw [ti_add (by omega) (by omega), e1]; rfl)]
      exact h
  · rw [ti_le] at q
    rw [if_neg z, if_neg y, if_neg q] at h
    have e1 : a.toInt = c.toInt - u.toInt := by rw [ha, ti_sub (by omega) (by omega)]
    have e2 : (8 - a).toInt = 8 - (c.toInt - u.toInt) := by rw [ti_sub (by omega) (by omega), e1]; rfl
    rw [e1, e2]
    split at h
    · next g =>
      rw [if_pos g, show 1 + (8 - a) = Int32.ofInt (1 + (8 - (c.toInt - u.toInt))) from ti_ext (by rw [ti_add (by omega) (by omega), e2]; rfl)]
      exact h
    · next g =>
      rw [if_neg g, show 1 + a = Int32.ofInt (1 + (c.toInt - u.toInt)) from ti_ext (by rw [ti_add (by omega) (by omega), e1]; rfl)]
      exact h
  · rw [if_neg z, if_pos y] at h
    exact h
  · rw [if_pos z] at h
    exact h
/-! the class's world and a row -/
def clW (W : Int) (p : Int × Int) : Int32 := Int32.ofInt (W * p.2 + p.1)
/-- a world of the class says what a row says -/
def Rw (σ : Sg) (w : Nat) (ρ : Nat → Int32) : Prop :=
  (σ w 0 = ρ 0 ∧ σ w 1 = ρ 1 ∧ σ w 2 = ρ 2 ∧ σ w 3 = ρ 4 ∧ σ w 4 = ρ 5) ∧ (σ w 5 = clW (rI ρ 0) (rI ρ 6, rI ρ 7) ∧ σ w 6 = clW (rI ρ 0) (rI ρ 8, rI ρ 9)) ∧ (σ w 7 = ρ 3 ∧ σ w 8 = ρ 10 ∧ σ w 9 = ρ 11) ∧
  (∀ i : Nat, (i : Int) < rI ρ 3 → σ (w + 1) i = clW (rI ρ 0) (rI ρ (1089 + 3 * i), rI ρ (1090 + 3 * i)) ∧ σ (w + 2) i = ρ (1091 + 3 * i)) ∧
  (∀ x y : Int, onS ρ x y = true → σ (w + 3) (rI ρ 0 * y + x).toNat = ρ (609 + (20 * y + x).toNat) ∧ σ (w + 4) (rI ρ 0 * y + x).toNat = ρ (849 + (20 * y + x).toNat)) ∧
  (∀ k : Nat, rI ρ 0 * rI ρ 1 ≤ k → k < 240 → σ (w + 3) k = 0) ∧
  (∀ k : Nat, (k : Int) < rI ρ 10 → σ (w + 5) k = ρ (12 + k)) ∧ (∀ k : Nat, (k : Int) < rI ρ 11 → σ (w + 6) k = ρ (36 + k)) ∧ (∀ k, k < 561 → σ (w + 7) k = ρ (48 + k))
theorem onS_cell {ρ : Nat → Int32} (hr : okR ρ) {p : Int × Int} (h : onS ρ p.1 p.2 = true) : 0 ≤ rI ρ 0 * p.2 + p.1 ∧ rI ρ 0 * p.2 + p.1 < rI ρ 0 * rI ρ 1 ∧ rI ρ 0 * rI ρ 1 ≤ 240 := by
  obtain ⟨h1, h2, h3, h4⟩ := onS_iff.mp h
  have a := hr.1
  have b := hr.2.1
  exact ⟨cell_lo (by omega) h1 h3, cell_hi h1 h2 h3 h4, (wh_hi (by omega) a.2 (by omega) b.2).2⟩
theorem clW_i {ρ : Nat → Int32} (hr : okR ρ) {p : Int × Int} (h : onS ρ p.1 p.2 = true) : (clW (rI ρ 0) p).toInt = rI ρ 0 * p.2 + p.1 := by
  have := onS_cell hr h
  exact ti_of (by omega) (by omega)
theorem p_X4_read {a n : Nat} {v : Int32} {σ : Sg} {K : Int32 → Sg → Prop} (hl : ln a = n) (hn : n < 2147483648) (h0 : 0 ≤ v.toInt) (h1 : v.toInt < n) (h : K (σ a v.toInt.toNat) σ) : m_X4_read a v σ K := by
  unfold m_X4_read
  rw [hl]
  refine ⟨fun z => ?_, fun _ => ⟨fun z => ?_, fun _ => ⟨by rw [ti_in]; omega, h⟩⟩⟩
  · rw [ti_lt, show (0 : Int32).toInt = 0 by decide] at z
    omega
  · rw [ti_le, ti_cn hn] at z
    omega
theorem p_X4_readN {a n : Nat} {v : Int32} {σ : Sg} {K : Int32 → Sg → Prop} (hl : ln a = n) (hn : n < 2147483648) (h0 : v.toInt < 0 ∨ n ≤ v.toInt) (h : K (-1) σ) : m_X4_read a v σ K := by
  unfold m_X4_read
  rw [hl]
  refine ⟨fun _ => h, fun z => ⟨fun _ => h, fun y => ?_⟩⟩
  rw [ti_lt, show (0 : Int32).toInt = 0 by decide] at z
  rw [ti_le, ti_cn hn] at y
  omega
theorem p_X3_windOf {w : Nat} {v : Int32} {ρ : Nat → Int32} {σ : Sg} {K : Int32 → Sg → Prop} (hw : IsW w) (hR : Rw σ w ρ) (hr : okR ρ) (h0 : 0 ≤ v.toInt) (h1 : v.toInt ≤ 560) (h : K (wnd ρ v.toInt) σ) : m_X3_windOf w v σ K := by
  obtain ⟨-, -, ⟨-, r8, -⟩, -, -, -, rw1, -, rw3⟩ := hR
  have hn := hr.2.2.2.2.2.2.1
  unfold m_X3_windOf
  refine p_X4_read (W_L7 hw) (by decide) h0 (by omega) ?_
  rw [rw3 _ (by omega), r8]
  unfold wnd at h
  refine ⟨fun z => ⟨fun y => ?_, fun y => ?_⟩, fun z => ?_⟩
  · rw [ti_le, show (0 : Int32).toInt = 0 by decide] at y
    unfold rI at hn
    rwa [if_pos z, if_pos (ti_eq.mpr (by rw [show (0 : Int32).toInt = 0 by decide]; omega))] at h
  · rw [ti_le, show (0 : Int32).toInt = 0 by decide] at y
    have hz : ¬ ρ 10 = 0 := fun q => y (by rw [q]; decide)
    rw [if_pos z, if_neg hz] at h
    unfold rI at hn h rw1
    have e3 := ti_rem (a := v) (b := ρ 10) h0 (by omega)
    have a := Int.emod_nonneg v.toInt (show (ρ 10).toInt ≠ 0 by omega)
    have b := Int.emod_lt_of_pos v.toInt (show 0 < (ρ 10).toInt by omega)
    refine ⟨hz, p_X4_read (W_L5 hw) (by decide) (by rw [e3]; exact a) (by rw [e3]; omega) ?_⟩
    rw [e3, rw1 _ (by omega)]
    exact h
  · rwa [if_neg z] at h
