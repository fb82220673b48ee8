/-! the sea as both see it: on coordinates; what steps, currents, winds and prices are -/
def rI (ρ : Nat → Int32) (k : Nat) : Int := (ρ k).toInt
def gE (d : Int32) : Int := (eastT d.toNatClampNeg).toInt
def gN (d : Int32) : Int := (northT d.toNatClampNeg).toInt
def isD (d : Int32) : Prop := 0 ≤ d.toInt ∧ d.toInt ≤ 8
theorem isD_cases {d : Int32} (h : isD d) : d = 0 ∨ d = 1 ∨ d = 2 ∨ d = 3 ∨ d = 4 ∨ d = 5 ∨ d = 6 ∨ d = 7 ∨ d = 8 := by
  obtain ⟨h1, h2⟩ := h
  have e : ∀ k : Int32, d.toInt = k.toInt → d = k := fun k h => Int32.toInt_inj.mp h
  rcases (show d.toInt = 0 ∨ d.toInt = 1 ∨ d.toInt = 2 ∨ d.toInt = 3 ∨ d.toInt = 4 ∨ d.toInt = 5 ∨ d.toInt = 6 ∨ d.toInt = 7 ∨ d.toInt = 8 by omega) with h | h | h | h | h | h | h | h | h
  · exact Or.inl (e 0 h)
  · exact Or.inr (Or.inl (e 1 h))
  · exact Or.inr (Or.inr (Or.inl (e 2 h)))
  · exact Or.inr (Or.inr (Or.inr (Or.inl (e 3 h))))
  · exact Or.inr (Or.inr (Or.inr (Or.inr (Or.inl (e 4 h)))))
  · exact Or.inr (Or.inr (Or.inr (Or.inr (Or.inr (Or.inl (e 5 h))))))
  · exact Or.inr (Or.inr (Or.inr (Or.inr (Or.inr (Or.inr (Or.inl (e 6 h)))))))
  · exact Or.inr (Or.inr (Or.inr (Or.inr (Or.inr (Or.inr (Or.inr (Or.inl (e 7 h))))))))
  · exact Or.inr (Or.inr (Or.inr (Or.inr (Or.inr (Or.inr (Or.inr (Or.inr (e 8 h))))))))
theorem g_b {d : Int32} (h : isD d) : -1 ≤ gE d ∧ gE d ≤ 1 ∧ -1 ≤ gN d ∧ gN d ≤ 1 := by
  rcases isD_cases h with rfl | rfl | rfl | rfl | rfl | rfl | rfl | rfl | rfl <;> decide
theorem isD0 : isD 0 := ⟨by decide, by decide⟩
theorem p_X5_eastOf {d : Int32} {σ : Sg} {K : Int32 → Sg → Prop} (hd : isD d) (h : K (eastT d.toNatClampNeg) σ) : m_X5_eastOf d σ K := by
  rcases isD_cases hd with rfl | rfl | rfl | rfl | rfl | rfl | rfl | rfl | rfl
  · have h : K 0 σ := by simpa only [show eastT (0 : Int32).toNatClampNeg = 0 by decide] using h
    simpa [m_X5_eastOf] using h
  · have h : K 0 σ := by simpa only [show eastT (1 : Int32).toNatClampNeg = 0 by decide] using h
    simpa [m_X5_eastOf] using h
  · have h : K 1 σ := by simpa only [show eastT (2 : Int32).toNatClampNeg = 1 by decide] using h
    simpa [m_X5_eastOf] using h
  · have h : K 1 σ := by simpa only [show eastT (3 : Int32).toNatClampNeg = 1 by decide] using h
    simpa [m_X5_eastOf] using h
  · have h : K 1 σ := by simpa only [show eastT (4 : Int32).toNatClampNeg = 1 by decide] using h
    simpa [m_X5_eastOf] using h
  · have h : K 0 σ := by simpa only [show eastT (5 : Int32).toNatClampNeg = 0 by decide] using h
    simpa [m_X5_eastOf] using h
  · have h : K (-1) σ := by simpa only [show eastT (6 : Int32).toNatClampNeg = (-1) by decide] using h
    simpa [m_X5_eastOf] using h
  · have h : K (-1) σ := by simpa only [show eastT (7 : Int32).toNatClampNeg = (-1) by decide] using h
    simpa [m_X5_eastOf] using h
  · have h : K (-1) σ := by simpa only [show eastT (8 : Int32).toNatClampNeg = (-1) by decide] using h
    simpa [m_X5_eastOf] using h
theorem p_X5_northOf {d : Int32} {σ : Sg} {K : Int32 → Sg → Prop} (hd : isD d) (h : K (northT d.toNatClampNeg) σ) : m_X5_northOf d σ K := by
  rcases isD_cases hd with rfl | rfl | rfl | rfl | rfl | rfl | rfl | rfl | rfl
  · have h : K 0 σ := by simpa only [show northT (0 : Int32).toNatClampNeg = 0 by decide] using h
    simpa [m_X5_northOf] using h
  · have h : K 1 σ := by simpa only [show northT (1 : Int32).toNatClampNeg = 1 by decide] using h
    simpa [m_X5_northOf] using h
  · have h : K 1 σ := by simpa only [show northT (2 : Int32).toNatClampNeg = 1 by decide] using h
    simpa [m_X5_northOf] using h
  · have h : K 0 σ := by simpa only [show northT (3 : Int32).toNatClampNeg = 0 by decide] using h
    simpa [m_X5_northOf] using h
  · have h : K (-1) σ := by simpa only [show northT (4 : Int32).toNatClampNeg = (-1) by decide] using h
    simpa [m_X5_northOf] using h
  · have h : K (-1) σ := by simpa only [show northT (5 : Int32).toNatClampNeg = (-1) by decide] using h
    simpa [m_X5_northOf] using h
  · have h : K (-1) σ := by simpa only [show northT (6 : Int32).toNatClampNeg = (-1) by decide] using h
    simpa [m_X5_northOf] using h
  · have h : K 0 σ := by simpa only [show northT (7 : Int32).toNatClampNeg = 0 by decide] using h
    simpa [m_X5_northOf] using h
  · have h : K 1 σ := by simpa only [show northT (8 : Int32).toNatClampNeg = 1 by decide] using h
    simpa [m_X5_northOf] using h

/-- on the sea of a row -/
def onS (ρ : Nat → Int32) (x y : Int) : Bool := decide (0 ≤ x) && (decide (x < rI ρ 0) && (decide (0 ≤ y) && decide (y < rI ρ 1)))
theorem onS_iff {ρ : Nat → Int32} {x y : Int} : onS ρ x y = true ↔ 0 ≤ x ∧ x < rI ρ 0 ∧ 0 ≤ y ∧ y < rI ρ 1 := by
  unfold onS
  simp only [Bool.and_eq_true, decide_eq_true_eq]
/-- whether a step is made -/
def okS (ρ : Nat → Int32) (x y : Int) (d : Int32) : Bool := decide (0 < d.toInt) && (onS ρ (x + gE d) (y + gN d) && decide (ρ (609 + (20 * (y + gN d) + (x + gE d)).toNat) = 0))
theorem okS_iff {ρ : Nat → Int32} {x y : Int} {d : Int32} : okS ρ x y d = true ↔ 0 < d.toInt ∧ onS ρ (x + gE d) (y + gN d) = true ∧ ρ (609 + (20 * (y + gN d) + (x + gE d)).toNat) = 0 := by
  unfold okS
  simp only [Bool.and_eq_true, decide_eq_true_eq]
def stp (ρ : Nat → Int32) (p : Int × Int) (d : Int32) : Int × Int := if okS ρ p.1 p.2 d = true then (p.1 + gE d, p.2 + gN d) else p
def crt (ρ : Nat → Int32) (p : Int × Int) : Int32 := ρ (849 + (20 * p.2 + p.1).toNat)
def crr (ρ : Nat → Int32) (p : Int × Int) (d : Int32) : Int × Int := stp ρ (stp ρ p d) (crt ρ (stp ρ p d))
def wnd (ρ : Nat → Int32) (t : Int) : Int32 := if ρ (48 + t.toNat) = -1 then (if ρ 10 = 0 then 0 else ρ (12 + (t % rI ρ 10).toNat)) else ρ (48 + t.toNat)
def drf (ρ : Nat → Int32) (p : Int × Int) (t : Int) : Int × Int := if 0 < rI ρ 5 ∧ (t + 1) % rI ρ 5 = 0 then stp ρ (stp ρ p (crt ρ p)) (wnd ρ t) else stp ρ p (crt ρ p)
def prt (ρ : Nat → Int32) (p : Int × Int) (t : Int) : Int × Int := if ρ 11 = 0 then p else stp ρ p (ρ (36 + (t % rI ρ 11).toNat))
def cst (c w : Int32) : Int := if c = 0 then 0 else if w = 0 then 3 else if c.toInt ≤ w.toInt then (if 8 - (w.toInt - c.toInt) ≤ w.toInt - c.toInt then 1 + (8 - (w.toInt - c.toInt)) else 1 + (w.toInt - c.toInt)) else (if 8 - (c.toInt - w.toInt) ≤ c.toInt - w.toInt then 1 + (8 - (c.toInt - w.toInt)) else 1 + (c.toInt - w.toInt))
/-- a row that is in order -/
def okR (ρ : Nat → Int32) : Prop :=
  (3 ≤ rI ρ 0 ∧ rI ρ 0 ≤ 20) ∧ (3 ≤ rI ρ 1 ∧ rI ρ 1 ≤ 12) ∧ (0 ≤ rI ρ 2 ∧ rI ρ 2 ≤ 500) ∧ (0 ≤ rI ρ 3 ∧ rI ρ 3 ≤ 3) ∧ (0 ≤ rI ρ 4 ∧ rI ρ 4 ≤ 999) ∧ (0 ≤ rI ρ 5 ∧ rI ρ 5 ≤ 9) ∧
  (0 ≤ rI ρ 10 ∧ rI ρ 10 ≤ 24) ∧ (0 ≤ rI ρ 11 ∧ rI ρ 11 ≤ 12) ∧ (∀ k, k < 24 → isD (ρ (12 + k))) ∧ (∀ k, k < 12 → isD (ρ (36 + k))) ∧ (∀ k, k < 561 → ρ (48 + k) = -1 ∨ isD (ρ (48 + k))) ∧
  (∀ k, k < 240 → ρ (609 + k) = 0 ∨ ρ (609 + k) = 1) ∧ (∀ k, k < 240 → isD (ρ (849 + k)))
/-- a cell of the 20 by 12 -/
def isP (p : Int × Int) : Prop := 0 ≤ p.1 ∧ p.1 < 20 ∧ 0 ≤ p.2 ∧ p.2 < 12
theorem onS_isP {ρ : Nat → Int32} (h : okR ρ) {x y : Int} (ho : onS ρ x y = true) : 0 ≤ x ∧ x < 20 ∧ 0 ≤ y ∧ y < 12 := by
  have := onS_iff.mp ho
  have h1 := h.1
  have h2 := h.2.1
  omega
theorem stp_isP {ρ : Nat → Int32} (h : okR ρ) {p : Int × Int} (hp : isP p) (d : Int32) : isP (stp ρ p d) := by
  unfold stp
  split
  · next ho => exact onS_isP h (okS_iff.mp ho).2.1
  · exact hp
theorem crt_D {ρ : Nat → Int32} (h : okR ρ) {p : Int × Int} (hp : isP p) : isD (crt ρ p) := by
  unfold isP at hp
  exact h.2.2.2.2.2.2.2.2.2.2.2.2 _ (by omega)
theorem wnd_D {ρ : Nat → Int32} (h : okR ρ) {t : Int} (h0 : 0 ≤ t) (h1 : t ≤ 560) : isD (wnd ρ t) := by
  unfold wnd
  have hn := h.2.2.2.2.2.2.1
  split
  · split
    · exact isD0
    · next hz =>
      have hp : 0 < rI ρ 10 := by
        have : rI ρ 10 ≠ 0 := fun e => hz (ti_eq.mpr e)
        omega
      have a := Int.emod_nonneg t (show rI ρ 10 ≠ 0 by omega)
      have b := Int.emod_lt_of_pos t hp
      exact h.2.2.2.2.2.2.2.2.1 _ (by omega)
  · next hz => exact (h.2.2.2.2.2.2.2.2.2.2.1 _ (by omega)).resolve_left hz
theorem cst_b {c w : Int32} (hc : isD c) (hw : isD w) : 0 ≤ cst c w ∧ cst c w ≤ 5 := by
  obtain ⟨h1, h2⟩ := hc
  obtain ⟨h3, h4⟩ := hw
  unfold cst
  split
  · omega
  · split
    · omega
    · split <;> split <;> omega
/-! the reference's -/
theorem p_X5_in {a b c : Int32} {σ : Sg} {K : Int32 → Sg → Prop} (h : K (if b.toInt ≤ a.toInt ∧ a.toInt ≤ c.toInt then 1 else 0) σ) : m_X5_in a b c σ K := by
  unfold m_X5_in
  refine ⟨fun z => ?_, fun z => ⟨fun y => ?_, fun y => ?_⟩⟩
  · rw [ti_lt] at z
    rwa [if_neg (by omega)] at h
  · rw [ti_lt] at z y
    rwa [if_neg (by omega)] at h
  · rw [ti_lt] at z y
    rwa [if_pos (by omega)] at h
theorem p_X5_less {a b : Int32} {σ : Sg} {K : Int32 → Sg → Prop} (h : K (if b.toInt ≤ a.toInt then b else a) σ) : m_X5_less a b σ K := by
  unfold m_X5_less
  refine ⟨fun z => ?_, fun z => ?_⟩
  · rw [ti_le] at z
    rwa [if_pos z] at h
  · rw [ti_le] at z
    rwa [if_neg z] at h
theorem c32 {n : Nat} (h : n < 2147483648) : (Int32.ofNat n).toNatClampNeg = n := nI_clamp (by omega)
theorem p_X5_isOn {r : Nat} {a b : Int32} {σ : Sg} {K : Int32 → Sg → Prop} (hl : ln r = 1098) (hr : okR (σ r)) (h : K (if onS (σ r) a.toInt b.toInt = true then 1 else 0) σ) : m_X5_isOn r a b σ K := by
  have h1 := hr.1
  have h2 := hr.2.1
  unfold m_X5_isOn
  rw [hl, show (0 : Int32).toNatClampNeg = 0 by decide, show (1 : Int32).toNatClampNeg = 1 by decide]
  have e1 : (σ r 0 - 1).toInt = rI (σ r) 0 - 1 := by
    unfold rI at h1 ⊢
    rw [ti_sub (by rw [show (1 : Int32).toInt = 1 by decide]; omega) (by rw [show (1 : Int32).toInt = 1 by decide]; omega), show (1 : Int32).toInt = 1 by decide]
  have e2 : (σ r 1 - 1).toInt = rI (σ r) 1 - 1 := by
    unfold rI at h2 ⊢
    rw [ti_sub (by rw [show (1 : Int32).toInt = 1 by decide]; omega) (by rw [show (1 : Int32).toInt = 1 by decide]; omega), show (1 : Int32).toInt = 1 by decide]
  refine ⟨by rw [ti_in]; decide, p_X5_in ?_⟩
  rw [e1, show (0 : Int32).toInt = 0 by decide]
  by_cases hx : 0 ≤ a.toInt ∧ a.toInt ≤ rI (σ r) 0 - 1
  · rw [if_pos hx]
    refine ⟨fun z => absurd z (by decide), fun _ => ⟨by rw [ti_in]; decide, p_X5_in ?_⟩⟩
    rw [e2, show (0 : Int32).toInt = 0 by decide]
    by_cases hy : 0 ≤ b.toInt ∧ b.toInt ≤ rI (σ r) 1 - 1
    · rw [if_pos hy]
      rw [if_pos (onS_iff.mpr (by omega))] at h
      exact ⟨fun z => absurd z (by decide), fun _ => h⟩
    · rw [if_neg hy]
      rw [if_neg (fun z => hy (by have := onS_iff.mp z; omega))] at h
      exact ⟨fun _ => h, fun z => absurd rfl z⟩
  · rw [if_neg hx]
    rw [if_neg (fun z => hx (by have := onS_iff.mp z; omega))] at h
    exact ⟨fun _ => h, fun z => absurd rfl z⟩
/-- a cell's number in the 20 by 12 -/
def cl20 (p : Int × Int) : Int32 := Int32.ofInt (20 * p.2 + p.1)
theorem cl20_i {p : Int × Int} (h : isP p) : (cl20 p).toInt = 20 * p.2 + p.1 := by
  unfold isP at h
  exact ti_of (by omega) (by omega)
theorem cl20_n {p : Int × Int} (h : isP p) : (cl20 p).toNatClampNeg = (20 * p.2 + p.1).toNat := by rw [ti_c, cl20_i h]
theorem cl20_x {p : Int × Int} (h : isP p) : (cl20 p - cl20 p / 20 * 20).toInt = p.1 := by
  have e := cl20_i h
  unfold isP at h
  rw [ti_rem (by rw [e]; omega) (by decide), e, show (20 : Int32).toInt = 20 by decide]
  omega
theorem cl20_y {p : Int × Int} (h : isP p) : (cl20 p / 20).toInt = p.2 := by
  have e := cl20_i h
  unfold isP at h
  rw [ti_div (by rw [e]; omega) (by decide), e, show (20 : Int32).toInt = 20 by decide]
  omega
theorem p_X5_goes {r : Nat} {p : Int × Int} {d : Int32} {σ : Sg} {K : Int32 → Sg → Prop} (hl : ln r = 1098) (hr : okR (σ r)) (hp : isP p) (hd : isD d) (h : K (if okS (σ r) p.1 p.2 d = true then 1 else 0) σ) : m_X5_goes r (cl20 p) d σ K := by
  have hb := g_b hd
  have ex := cl20_x hp
  have ey := cl20_y hp
  unfold m_X5_goes
  refine p_X5_eastOf hd ?_
  intro x hx
  refine p_X5_northOf hd ?_
  intro y hy
  have hx' : x.toInt = p.1 + gE d := by
    unfold isP at hp
    rw [hx, ti_add (by rw [ex]; unfold gE at hb; omega) (by rw [ex]; unfold gE at hb; omega), ex]
    rfl
  have hy' : y.toInt = p.2 + gN d := by
    unfold isP at hp
    rw [hy, ti_add (by rw [ey]; unfold gN at hb; omega) (by rw [ey]; unfold gN at hb; omega), ey]
    rfl
  refine ⟨fun z => ?_, fun z => p_X5_isOn hl hr ?_⟩
  · rw [ti_le, show (0 : Int32).toInt = 0 by decide] at z
    rwa [if_neg (fun q => by have := (okS_iff.mp q).1; omega)] at h
  · rw [ti_le, show (0 : Int32).toInt = 0 by decide] at z
    rw [hx', hy']
    by_cases ho : onS (σ r) (p.1 + gE d) (p.2 + gN d) = true
    · rw [if_pos ho]
      refine ⟨fun q => absurd q (by decide), fun _ => ?_⟩
      have hP := onS_isP hr ho
      unfold m_X5_cellAt
      have e1 : (20 * y).toInt = 20 * (p.2 + gN d) := by
        rw [ti_mul (by rw [hy', show (20 : Int32).toInt = 20 by decide]; omega) (by rw [hy', show (20 : Int32).toInt = 20 by decide]; omega), hy']
        rfl
      have e2 : (20 * y + x).toInt = 20 * (p.2 + gN d) + (p.1 + gE d) := by
        rw [ti_add (by rw [e1, hx']; omega) (by rw [e1, hx']; omega), e1, hx']
      have e3 : (609 + (20 * y + x)).toInt = 609 + (20 * (p.2 + gN d) + (p.1 + gE d)) := by
        rw [ti_add (by rw [e2, show (609 : Int32).toInt = 609 by decide]; omega) (by rw [e2, show (609 : Int32).toInt = 609 by decide]; omega), e2]
        rfl
      have e4 : (609 + (20 * y + x)).toNatClampNeg = 609 + (20 * (p.2 + gN d) + (p.1 + gE d)).toNat := by
        rw [ti_c, e3]
        omega
      refine ⟨by rw [ti_in, hl, e3]; omega, ?_⟩
      rw [e4]
      refine ⟨fun q => ?_, fun q => ?_⟩
      · rwa [if_neg (fun w => q (okS_iff.mp w).2.2)] at h
      · rwa [if_pos (okS_iff.mpr ⟨by omega, ho, q⟩)] at h
    · rw [if_neg ho]
      rw [if_neg (fun w => ho (okS_iff.mp w).2.1)] at h
      exact ⟨fun _ => h, fun q => absurd rfl q⟩
theorem p_X5_behind {r : Nat} {p : Int × Int} {d : Int32} {σ : Sg} {K : Int32 → Sg → Prop} (hl : ln r = 1098) (hr : okR (σ r)) (hp : isP p) (hd : isD d) (h : K (cl20 (stp (σ r) p d)) σ) : m_X5_behind r (cl20 p) d σ K := by
  have hb := g_b hd
  unfold m_X5_behind
  refine p_X5_goes hl hr hp hd ?_
  unfold stp at h
  by_cases ho : okS (σ r) p.1 p.2 d = true
  · rw [if_pos ho]
    rw [if_pos ho] at h
    refine ⟨fun q => absurd q (by decide), fun _ => p_X5_northOf hd (p_X5_eastOf hd ?_)⟩
    have hP := onS_isP hr (okS_iff.mp ho).2.1
    have e0 := cl20_i hp
    have e1 : (20 * northT d.toNatClampNeg).toInt = 20 * gN d := by
      rw [ti_mul (by rw [show (20 : Int32).toInt = 20 by decide]; unfold gN at hb; omega) (by rw [show (20 : Int32).toInt = 20 by decide]; unfold gN at hb; omega)]
      rfl
    unfold isP at hp
    have e2 : (cl20 p + 20 * northT d.toNatClampNeg).toInt = 20 * p.2 + p.1 + 20 * gN d := by
      rw [ti_add (by rw [e0, e1]; omega) (by rw [e0, e1]; omega), e0, e1]
    have e3 : (eastT d.toNatClampNeg).toInt = gE d := rfl
    have e4 : cl20 p + 20 * northT d.toNatClampNeg + eastT d.toNatClampNeg = cl20 (p.1 + gE d, p.2 + gN d) := by
      rw [ti_eq, cl20_i (p := (p.1 + gE d, p.2 + gN d)) hP, ti_add (by rw [e2, e3]; omega) (by rw [e2, e3]; omega), e2, e3]
      show _ = 20 * (p.2 + gN d) + (p.1 + gE d)
      omega
    rw [e4]
    exact h
  · rw [if_neg ho]
    rw [if_neg ho] at h
    exact ⟨fun _ => h, fun q => absurd rfl q⟩
