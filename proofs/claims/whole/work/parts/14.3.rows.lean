/-! rows that differ in what an hour changes -/
/-- the same but for the hour, the drifter, the port and the helpers -/
def base (ρ' ρ : Nat → Int32) : Prop := ∀ j, j ≠ 2 → (j < 6 ∨ (10 ≤ j ∧ j < 1089) ∨ 1098 ≤ j) → ρ' j = ρ j
section
variable {ρ' ρ : Nat → Int32}
theorem base.trans {ρ'' : Nat → Int32} (a : base ρ'' ρ') (b : base ρ' ρ) : base ρ'' ρ := fun j h1 h2 => (a j h1 h2).trans (b j h1 h2)
theorem base.r (h : base ρ' ρ) (j : Nat) (h1 : j ≠ 2) (h2 : j < 6 ∨ (10 ≤ j ∧ j < 1089) ∨ 1098 ≤ j) : rI ρ' j = rI ρ j := congrArg _ (h j h1 h2)
theorem base.xonS (h : base ρ' ρ) (x y : Int) : onS ρ' x y = onS ρ x y := onS_to (h 0 (by decide) (by omega)) (h 1 (by decide) (by omega)) x y
theorem base.xokS (h : base ρ' ρ) (hr : okR ρ) (x y : Int) (d : Int32) : okS ρ' x y d = okS ρ x y d := by
  unfold okS
  rw [h.xonS]
  cases ho : onS ρ (x + gE d) (y + gN d) with
  | false => simp
  | true =>
    have := onS_isP hr ho
    rw [h (609 + (20 * (y + gN d) + (x + gE d)).toNat) (by omega) (by omega)]
theorem base.xstp (h : base ρ' ρ) (hr : okR ρ) (p : Int × Int) (d : Int32) : stp ρ' p d = stp ρ p d := by
  unfold stp
  rw [h.xokS hr]
theorem base.xcrt (h : base ρ' ρ) {p : Int × Int} (hp : isP p) : crt ρ' p = crt ρ p := by
  unfold isP at hp
  exact h _ (by omega) (by omega)
theorem base.xcrr (h : base ρ' ρ) (hr : okR ρ) {p : Int × Int} (hp : isP p) (d : Int32) : crr ρ' p d = crr ρ p d := by
  unfold crr
  rw [h.xstp hr, h.xstp hr, h.xcrt (stp_isP hr hp d)]
theorem base.xwnd (h : base ρ' ρ) (hr : okR ρ) {t : Int} (h0 : 0 ≤ t) (h1 : t ≤ 560) : wnd ρ' t = wnd ρ t := by
  have hn := hr.2.2.2.2.2.2.1
  unfold wnd
  rw [h _ (by omega) (by omega), h 10 (by decide) (by omega), h.r 10 (by decide) (by omega)]
  by_cases z : ρ 10 = 0
  · rw [if_pos z, if_pos z]
  · have hp : 0 < rI ρ 10 := by
      have : rI ρ 10 ≠ 0 := fun e => z (ti_eq.mpr e)
      omega
    have a := Int.emod_nonneg t (show rI ρ 10 ≠ 0 by omega)
    have b := Int.emod_lt_of_pos t hp
    rw [h _ (by omega) (by omega)]
theorem base.xprt (h : base ρ' ρ) (hr : okR ρ) (p : Int × Int) {t : Int} : prt ρ' p t = prt ρ p t := by
  have hn := hr.2.2.2.2.2.2.2.1
  unfold prt
  rw [h 11 (by decide) (by omega), h.r 11 (by decide) (by omega)]
  by_cases z : ρ 11 = 0
  · rw [if_pos z, if_pos z]
  · have hp : 0 < rI ρ 11 := by
      have : rI ρ 11 ≠ 0 := fun e => z (ti_eq.mpr e)
      omega
    have a := Int.emod_nonneg t (show rI ρ 11 ≠ 0 by omega)
    have b := Int.emod_lt_of_pos t hp
    rw [if_neg z, if_neg z, h.xstp hr, h _ (by omega) (by omega)]
theorem base.xokQ (h : base ρ' ρ) (hq : okQ ρ) (ht : 0 ≤ rI ρ' 2 ∧ rI ρ' 2 ≤ 500) (hd : wat ρ (rI ρ' 6, rI ρ' 7)) (hp : wat ρ (rI ρ' 8, rI ρ' 9)) (hh : ∀ i : Nat, (i : Int) < rI ρ 3 → wat ρ (hAt ρ' i) ∧ 0 ≤ fAt ρ' i ∧ fAt ρ' i ≤ 999) : okQ ρ' := by
  obtain ⟨hr, -, -, -, g⟩ := hq
  have hr0 := hr
  have w : ∀ p : Int × Int, wat ρ p → onS ρ' p.1 p.2 = true ∧ ρ' (609 + (20 * p.2 + p.1).toNat) = 0 := fun p hp => by
    have := onS_P hr0 hp.1
    unfold isP at this
    rw [h.xonS, h _ (by omega) (by omega)]
    exact hp
  obtain ⟨a1, a2, a3, a4, a5, a6, a7, a8, a9, a10, a11, a12, a13⟩ := hr
  refine ⟨⟨by rw [h.r 0 (by decide) (by omega)]; exact a1, by rw [h.r 1 (by decide) (by omega)]; exact a2, ht, by rw [h.r 3 (by decide) (by omega)]; exact a4, by rw [h.r 4 (by decide) (by omega)]; exact a5, by rw [h.r 5 (by decide) (by omega)]; exact a6, by rw [h.r 10 (by decide) (by omega)]; exact a7, by rw [h.r 11 (by decide) (by omega)]; exact a8, fun k hk => by rw [h _ (by omega) (by omega)]; exact a9 k hk, fun k hk => by rw [h _ (by omega) (by omega)]; exact a10 k hk, fun k hk => by rw [h _ (by omega) (by omega)]; exact a11 k hk, fun k hk => by rw [h _ (by omega) (by omega)]; exact a12 k hk, fun k hk => by rw [h _ (by omega) (by omega)]; exact a13 k hk⟩, w _ hd, w _ hp, fun i hi => ?_, fun p hp ho => ?_⟩
  · rw [h.r 3 (by decide) (by omega)] at hi
    exact ⟨w _ (hh i hi).1, (hh i hi).2⟩
  · rw [h.xonS] at ho
    have hp' := hp
    unfold isP at hp'
    rw [h _ (by omega) (by omega)]
    exact g p hp ho
/-- the class's world says what such a row says -/
theorem base.xrw {σ u : Sg} {w : Nat} (h : base ρ' ρ) (hr : okR ρ) (hR : Rw σ w ρ) (e0 : ∀ j, j ≠ 2 → j ≠ 5 → j ≠ 6 → u w j = σ w j) (e2 : u w 2 = ρ' 2) (e5 : u w 5 = clW (rI ρ 0) (rI ρ' 6, rI ρ' 7)) (e6 : u w 6 = clW (rI ρ 0) (rI ρ' 8, rI ρ' 9))
    (eh : ∀ i : Nat, (i : Int) < rI ρ 3 → u (w + 1) i = clW (rI ρ 0) (rI ρ' (1089 + 3 * i), rI ρ' (1090 + 3 * i)) ∧ u (w + 2) i = ρ' (1091 + 3 * i)) (ek : ∀ i, 3 ≤ i → i < 8 → u (w + i) = σ (w + i)) : Rw u w ρ' := by
  obtain ⟨⟨a0, a1, a2, a3, a4⟩, ⟨a5, a6⟩, ⟨a7, a8, a9⟩, b1, b2, b3, b4, b5, b6⟩ := hR
  have hn := hr.2.2.2.2.2.2.1
  have hq := hr.2.2.2.2.2.2.2.1
  have r0 := h.r 0 (by decide) (by omega)
  refine ⟨⟨by rw [e0 0 (by decide) (by decide) (by decide), h 0 (by decide) (by omega)]; exact a0, by rw [e0 1 (by decide) (by decide) (by decide), h 1 (by decide) (by omega)]; exact a1, e2, by rw [e0 3 (by decide) (by decide) (by decide), h 4 (by decide) (by omega)]; exact a3, by rw [e0 4 (by decide) (by decide) (by decide), h 5 (by decide) (by omega)]; exact a4⟩, ⟨by rw [r0]; exact e5, by rw [r0]; exact e6⟩, ⟨by rw [e0 7 (by decide) (by decide) (by decide), h 3 (by decide) (by omega)]; exact a7, by rw [e0 8 (by decide) (by decide) (by decide), h 10 (by decide) (by omega)]; exact a8, by rw [e0 9 (by decide) (by decide) (by decide), h 11 (by decide) (by omega)]; exact a9⟩, fun i hi => ?_, fun x y ho => ?_, fun k k1 k2 => ?_, fun k hk => ?_, fun k hk => ?_, fun k hk => ?_⟩
  · rw [h.r 3 (by decide) (by omega)] at hi
    rw [r0]
    exact eh i hi
  · rw [h.xonS] at ho
    have hP := onS_isP hr ho
    rw [r0, ek 3 (by decide) (by decide), ek 4 (by decide) (by decide), h _ (by omega) (by omega), h _ (by omega) (by omega)]
    exact b2 x y ho
  · rw [r0, h.r 1 (by decide) (by omega)] at k1
    rw [ek 3 (by decide) (by decide)]
    exact b3 k k1 k2
  · rw [h.r 10 (by decide) (by omega)] at hk
    rw [ek 5 (by decide) (by decide), h _ (by omega) (by omega)]
    exact b4 k hk
  · rw [h.r 11 (by decide) (by omega)] at hk
    rw [ek 6 (by decide) (by decide), h _ (by omega) (by omega)]
    exact b5 k hk
  · rw [ek 7 (by decide) (by decide), h _ (by omega) (by omega)]
    exact b6 k hk
end
theorem ofP {p : Int × Int} (h : isP p) : (Int32.ofInt p.1).toInt = p.1 ∧ (Int32.ofInt p.2).toInt = p.2 := by
  unfold isP at h
  exact ⟨ti_of (by omega) (by omega), ti_of (by omega) (by omega)⟩
/-- a helper's course, sailed -/
def mvR (ρ : Nat → Int32) (h : Nat) (c : Int32) : Nat → Int32 := fun j => if j = 1089 + 3 * h then Int32.ofInt (crr ρ (hAt ρ h) c).1 else if j = 1090 + 3 * h then Int32.ofInt (crr ρ (hAt ρ h) c).2 else if j = 1091 + 3 * h then ρ j - Int32.ofInt (cst c (wnd ρ (rI ρ 2))) else ρ j
def crB (ρ : Nat → Int32) (h : Nat) (c : Int32) : Bool := decide (0 ≤ c.toInt) && decide (c.toInt ≤ if (h : Int) < rI ρ 3 then 8 else 0)
def goB (ρ : Nat → Int32) (h : Nat) (c : Int32) : Bool := decide (c = 0) || (okS ρ (hAt ρ h).1 (hAt ρ h).2 c && decide (cst c (wnd ρ (rI ρ 2)) ≤ fAt ρ h))
theorem crB_iff {ρ : Nat → Int32} {h : Nat} {c : Int32} : crB ρ h c = true ↔ 0 ≤ c.toInt ∧ c.toInt ≤ (if (h : Int) < rI ρ 3 then 8 else 0) := by
  unfold crB
  simp only [Bool.and_eq_true, decide_eq_true_eq]
theorem goB_iff {ρ : Nat → Int32} {h : Nat} {c : Int32} : goB ρ h c = true ↔ c = 0 ∨ (okS ρ (hAt ρ h).1 (hAt ρ h).2 c = true ∧ cst c (wnd ρ (rI ρ 2)) ≤ fAt ρ h) := by
  unfold goB
  simp only [Bool.or_eq_true, Bool.and_eq_true, decide_eq_true_eq]
theorem mvR_base (ρ : Nat → Int32) {h : Nat} (h3 : h < 3) (c : Int32) : base (mvR ρ h c) ρ := fun j h1 h2 => by
  unfold mvR
  rw [if_neg (by omega), if_neg (by omega), if_neg (by omega)]
theorem mvR_ne {ρ : Nat → Int32} {h j : Nat} {c : Int32} (e : j < 1089 + 3 * h ∨ 1092 + 3 * h ≤ j) : mvR ρ h c j = ρ j := by
  unfold mvR
  rw [if_neg (by omega), if_neg (by omega), if_neg (by omega)]
theorem mvR_x {ρ : Nat → Int32} {h : Nat} {c : Int32} : mvR ρ h c (1089 + 3 * h) = Int32.ofInt (crr ρ (hAt ρ h) c).1 := if_pos rfl
theorem mvR_y {ρ : Nat → Int32} {h : Nat} {c : Int32} : mvR ρ h c (1090 + 3 * h) = Int32.ofInt (crr ρ (hAt ρ h) c).2 := by
  unfold mvR
  rw [if_neg (by omega), if_pos rfl]
theorem mvR_f {ρ : Nat → Int32} {h : Nat} {c : Int32} : mvR ρ h c (1091 + 3 * h) = ρ (1091 + 3 * h) - Int32.ofInt (cst c (wnd ρ (rI ρ 2))) := by
  unfold mvR
  rw [if_neg (by omega), if_neg (by omega), if_pos rfl]
theorem mvR_h {ρ : Nat → Int32} (hr : okR ρ) {h : Nat} {c : Int32} (hP : isP (hAt ρ h)) : hAt (mvR ρ h c) h = crr ρ (hAt ρ h) c := by
  obtain ⟨a, b⟩ := ofP (crr_isP hr hP c)
  refine Prod.ext ?_ ?_
  · show (mvR ρ h c (1089 + 3 * h)).toInt = _
    rw [mvR_x, a]
  · show (mvR ρ h c (1090 + 3 * h)).toInt = _
    rw [mvR_y, b]
theorem mvR_o {ρ : Nat → Int32} {h i : Nat} {c : Int32} (e : i ≠ h) : hAt (mvR ρ h c) i = hAt ρ i ∧ fAt (mvR ρ h c) i = fAt ρ i := by
  refine ⟨Prod.ext ?_ ?_, ?_⟩
  · show (mvR ρ h c (1089 + 3 * i)).toInt = _
    rw [mvR_ne (by omega)]
    rfl
  · show (mvR ρ h c (1090 + 3 * i)).toInt = _
    rw [mvR_ne (by omega)]
    rfl
  · show (mvR ρ h c (1091 + 3 * i)).toInt = _
    rw [mvR_ne (by omega)]
    rfl
theorem crB_D {ρ : Nat → Int32} {h : Nat} {c : Int32} (hc : crB ρ h c = true) : isD c := by
  have := crB_iff.mp hc
  unfold isD
  split at this <;> omega
/-- what a course costs, where it can be -/
theorem go_cost {ρ : Nat → Int32} (hq : okQ ρ) {h : Nat} {c : Int32} (hh : (h : Int) < rI ρ 3) (hc : crB ρ h c = true) (hg : goB ρ h c = true) : 0 ≤ cst c (wnd ρ (rI ρ 2)) ∧ cst c (wnd ρ (rI ρ 2)) ≤ 5 ∧ cst c (wnd ρ (rI ρ 2)) ≤ fAt ρ h := by
  have ht := hq.1.2.2.1
  have cb := cst_b (crB_D hc) (wnd_D hq.1 (t := rI ρ 2) (by omega) (by omega))
  have hf := (hq.2.2.2.1 h hh).2
  refine ⟨cb.1, cb.2, ?_⟩
  rcases goB_iff.mp hg with z | z
  · have : cst c (wnd ρ (rI ρ 2)) = 0 := by
      unfold cst
      rw [if_pos z]
    omega
  · exact z.2
theorem mvR_fv {ρ : Nat → Int32} (hq : okQ ρ) {h : Nat} {c : Int32} (hh : (h : Int) < rI ρ 3) (hc : crB ρ h c = true) (hg : goB ρ h c = true) : fAt (mvR ρ h c) h = fAt ρ h - cst c (wnd ρ (rI ρ 2)) := by
  have g := go_cost hq hh hc hg
  have hf := (hq.2.2.2.1 h hh).2
  have e := ti_of (z := cst c (wnd ρ (rI ρ 2))) (by omega) (by omega)
  have hf' : 0 ≤ (ρ (1091 + 3 * h)).toInt ∧ (ρ (1091 + 3 * h)).toInt ≤ 999 := hf
  show (mvR ρ h c (1091 + 3 * h)).toInt = (ρ (1091 + 3 * h)).toInt - cst c (wnd ρ (rI ρ 2))
  rw [mvR_f, ti_sub (by rw [e]; omega) (by rw [e]; omega), e]
theorem mvR_okQ {ρ : Nat → Int32} (hq : okQ ρ) {h : Nat} {c : Int32} (h3 : h < 3) (hh : (h : Int) < rI ρ 3) (hc : crB ρ h c = true) (hg : goB ρ h c = true) : okQ (mvR ρ h c) := by
  have g := go_cost hq hh hc hg
  have hf := (hq.2.2.2.1 h hh).2
  have r : ∀ j, j < 1089 → rI (mvR ρ h c) j = rI ρ j := fun j hj => congrArg _ (mvR_ne (by omega))
  refine (mvR_base ρ h3 c).xokQ hq (by rw [r 2 (by decide)]; exact hq.1.2.2.1) (by rw [r 6 (by decide), r 7 (by decide)]; exact hq.2.1) (by rw [r 8 (by decide), r 9 (by decide)]; exact hq.2.2.1) fun i hi => ?_
  by_cases e : i = h
  · subst e
    rw [mvR_h hq.1 (onS_P hq.1 (hq.2.2.2.1 i hh).1.1), mvR_fv hq hh hc hg]
    exact ⟨crr_wat (hq.2.2.2.1 i hh).1 c, by omega, by omega⟩
  · obtain ⟨e1, e2⟩ := mvR_o (ρ := ρ) (c := c) e
    rw [e1, e2]
    exact hq.2.2.2.1 i hi
/-- another's course is as it was -/
theorem mvR_cr {ρ : Nat → Int32} {h i : Nat} {c d : Int32} (h3 : h < 3) : crB (mvR ρ h c) i d = crB ρ i d := by
  unfold crB
  rw [(mvR_base ρ h3 c).r 3 (by decide) (by omega)]
theorem mvR_go {ρ : Nat → Int32} (hr : okR ρ) {h i : Nat} {c d : Int32} (h3 : h < 3) (e : i ≠ h) : goB (mvR ρ h c) i d = goB ρ i d := by
  obtain ⟨e1, e2⟩ := mvR_o (ρ := ρ) (c := c) e
  have ht := hr.2.2.1
  unfold goB
  rw [e1, e2, (mvR_base ρ h3 c).xokS hr, show rI (mvR ρ h c) 2 = rI ρ 2 from congrArg _ (mvR_ne (by omega)), (mvR_base ρ h3 c).xwnd hr (by omega) (by omega)]
