/-! what ties the class's state to the reference's -/
/-- a course that can be from a cell -/
def okc (ρ : Nat → Int32) (p : Int × Int) (c : Int32) : Prop := isD c ∧ (c = 0 ∨ okS ρ p.1 p.2 c = true)
/-- m hours from hour t on, from a cell to a cell, by courses that cost k -/
def way (ρ : Nat → Int32) : Nat → Int → Int × Int → Int × Int → Int → Prop
  | 0, _, p, q, k => p = q ∧ k = 0
  | m + 1, t, p, q, k => ∃ (c : Int32) (j : Int), okc ρ p c ∧ way ρ m (t + 1) (crr ρ p c) q j ∧ k = cst c (wnd ρ t) + j
/-- k is the least that it costs -/
def lst (ρ : Nat → Int32) (m : Nat) (t : Int) (p q : Int × Int) (k : Int) : Prop := way ρ m t p q k ∧ ∀ j, way ρ m t p q j → k ≤ j
def dAt (ρ : Nat → Int32) : Nat → Int × Int
  | 0 => (rI ρ 6, rI ρ 7)
  | n + 1 => drf ρ (dAt ρ n) (rI ρ 2 + n)
def pAt (ρ : Nat → Int32) : Nat → Int × Int
  | 0 => (rI ρ 8, rI ρ 9)
  | n + 1 => prt ρ (pAt ρ n) (rI ρ 2 + n)
def hAt (ρ : Nat → Int32) (h : Nat) : Int × Int := (rI ρ (1089 + 3 * h), rI ρ (1090 + 3 * h))
def fAt (ρ : Nat → Int32) (h : Nat) : Int := rI ρ (1091 + 3 * h)
/-- v is the most fuel left of f, from p in m hours to q; -1 if none can be -/
def isMost (ρ : Nat → Int32) (m : Nat) (t : Int) (p q : Int × Int) (f : Int) (v : Int) : Prop := (v = -1 ∧ ∀ k, way ρ m t p q k → f < k) ∨ (0 ≤ v ∧ lst ρ m t p q (f - v))
/-- where one is behind i courses -/
def pos (ρ : Nat → Int32) (p : Int × Int) (f : Nat → Int32) : Nat → Int × Int
  | 0 => p
  | i + 1 => crr ρ (pos ρ p f i) (f i)
/-- f is the route of so many hours from p to q: always the first course of least cost -/
def isRoute (ρ : Nat → Int32) (p q : Int × Int) (hours : Nat) (f : Nat → Int32) : Prop :=
  ∀ i, i < hours → ∃ k, lst ρ (hours - i) (rI ρ 2 + i) (pos ρ p f i) q k ∧ okc ρ (pos ρ p f i) (f i) ∧ way ρ (hours - i - 1) (rI ρ 2 + i + 1) (crr ρ (pos ρ p f i) (f i)) q (k - cst (f i) (wnd ρ (rI ρ 2 + i))) ∧
    ∀ c, okc ρ (pos ρ p f i) c → c.toInt < (f i).toInt → ¬ way ρ (hours - i - 1) (rI ρ 2 + i + 1) (crr ρ (pos ρ p f i) c) q (k - cst c (wnd ρ (rI ρ 2 + i)))
/-- the first hour of 60 in which a helper can be where the drifter is -/
def isFirst (ρ : Nat → Int32) (h n : Nat) : Prop := (∃ k, k ≤ fAt ρ h ∧ way ρ n (rI ρ 2) (hAt ρ h) (dAt ρ n) k) ∧ ∀ i, i < n → ∀ k, way ρ i (rI ρ 2) (hAt ρ h) (dAt ρ i) k → fAt ρ h < k
/-- what was looked ahead at is so -/
def Fresh (σ : Sg) (ρ : Nat → Int32) : Prop :=
  (σ 19 8).toInt = rI ρ 0 * rI ρ 1 ∧ (∀ n, n ≤ 60 → σ 20 n = clW (rI ρ 0) (dAt ρ n)) ∧ (∀ n, n ≤ 60 → σ 21 n = clW (rI ρ 0) (pAt ρ n)) ∧
  (∀ (p : Int × Int) (c : Int32), onS ρ p.1 p.2 = true → isD c → (okc ρ p c → σ 22 ((rI ρ 0 * p.2 + p.1) * 9 + c.toInt).toNat = clW (rI ρ 0) (crr ρ p c)) ∧ (¬ okc ρ p c → σ 22 ((rI ρ 0 * p.2 + p.1) * 9 + c.toInt).toNat = -1)) ∧
  (∀ (n : Nat) (c : Int32), n < 60 → isD c → (σ 23 (9 * n + c.toInt.toNat)).toInt = cst c (wnd ρ (rI ρ 2 + n))) ∧
  (∀ h : Nat, h < 3 → 0 ≤ (σ (90 + 64 * h) 2).toInt ∧ (σ (90 + 64 * h) 2).toInt ≤ 61 ∧ (σ (90 + 64 * h) 3 = 0 ∨ σ (90 + 64 * h) 3 = 1)) ∧
  (∀ h : Nat, h < 3 → (h : Int) < rI ρ 3 → (∀ n : Nat, (n : Int) < (σ (90 + 64 * h) 2).toInt → ∀ q : Int × Int, onS ρ q.1 q.2 = true → isMost ρ n (rI ρ 2) (hAt ρ h) q (fAt ρ h) (σ (90 + 64 * h + 2 + n) (rI ρ 0 * q.2 + q.1).toNat).toInt) ∧
    (σ (90 + 64 * h) 3 = 1 → ∃ n, n ≤ 60 ∧ isFirst ρ h n ∧ isRoute ρ (hAt ρ h) (dAt ρ n) n (fun i => σ (90 + 64 * h + 63) i)))
/-- a row whose drifter, port and helpers stand on the sea -/
def okQ (ρ : Nat → Int32) : Prop :=
  okR ρ ∧ (onS ρ (rI ρ 6) (rI ρ 7) = true ∧ ρ (609 + (20 * rI ρ 7 + rI ρ 6).toNat) = 0) ∧ (onS ρ (rI ρ 8) (rI ρ 9) = true ∧ ρ (609 + (20 * rI ρ 9 + rI ρ 8).toNat) = 0) ∧
  (∀ h : Nat, (h : Int) < rI ρ 3 → (onS ρ (hAt ρ h).1 (hAt ρ h).2 = true ∧ ρ (609 + (20 * (hAt ρ h).2 + (hAt ρ h).1).toNat) = 0) ∧ 0 ≤ fAt ρ h ∧ fAt ρ h ≤ 999) ∧
  (∀ p : Int × Int, isP p → onS ρ p.1 p.2 = false → ρ (609 + (20 * p.2 + p.1).toNat) = 0)
def R1 (σc σm : Sg) : Prop := okQ (σm 350) ∧ Rw σc 2 (σm 350)
/-- the ring of kept worlds and the reference's past -/
def R2 (σc σm : Sg) : Prop :=
  (0 ≤ (σc 0 8).toInt ∧ (σc 0 8).toInt < 8) ∧ (0 ≤ (σc 0 9).toInt ∧ (σc 0 9).toInt ≤ 8) ∧ σc 0 9 = σm 347 12 ∧
  ∀ i : Nat, (i : Int) < (σc 0 9).toInt → okQ (σm (353 + i)) ∧ Rw σc (283 + 8 * (((σc 0 8).toInt - (σc 0 9).toInt + i) % 8).toNat) (σm (353 + i))
def R3 (σc σm : Sg) : Prop := (∀ j, j < 400 → σc 1 j = σm 349 j ∧ 0 ≤ (σc 1 j).toInt ∧ (σc 1 j).toInt ≤ 255) ∧ σc 0 6 = σm 347 2 ∧ (0 ≤ (σc 0 6).toInt ∧ (σc 0 6).toInt ≤ 400) ∧ σc 0 7 = σm 347 5
def R4 (σc σm : Sg) : Prop := σc 0 10 = σm 348 0 ∧ σc 0 11 = σm 348 1 ∧ σc 0 12 = σm 348 2
def R5 (σc σm : Sg) : Prop := σc 19 9 = 0 ∨ (σc 19 9 = 1 ∧ Fresh σc (σm 350))
/-- behind a row's end lies nothing -/
def R6 (σm : Sg) : Prop := ∀ k, (k = 350 ∨ k = 351 ∨ (353 ≤ k ∧ k < 361)) → ∀ j, 1098 ≤ j → σm k j = 0
def Rel (σc σm : Sg) : Prop := R1 σc σm ∧ R2 σc σm ∧ R3 σc σm ∧ R4 σc σm ∧ R5 σc σm ∧ R6 σm
/-! frames -/
theorem Rw.to {σ σ' : Sg} {w : Nat} {ρ : Nat → Int32} (h : Rw σ w ρ) (hq : ∀ i, i < 8 → ∀ j, σ' (w + i) j = σ (w + i) j) : Rw σ' w ρ := by
  have e0 : ∀ j, σ' w j = σ w j := hq 0 (by decide)
  have e1 := hq 1 (by decide)
  have e2 := hq 2 (by decide)
  have e3 := hq 3 (by decide)
  have e4 := hq 4 (by decide)
  have e5 := hq 5 (by decide)
  have e6 := hq 6 (by decide)
  have e7 := hq 7 (by decide)
  unfold Rw at h ⊢
  simp only [e0, e1, e2, e3, e4, e5, e6, e7]
  exact h
theorem Fresh.to {σ σ' : Sg} {ρ : Nat → Int32} (h : Fresh σ ρ) (hq : ∀ k, 19 ≤ k → k ≤ 281 → ∀ j, σ' k j = σ k j) : Fresh σ' ρ := by
  obtain ⟨h1, h2, h3, h4, h5, h6, h7⟩ := h
  refine ⟨by rw [hq 19 (by decide) (by decide)]; exact h1, fun n hn => by rw [hq 20 (by decide) (by decide)]; exact h2 n hn, fun n hn => by rw [hq 21 (by decide) (by decide)]; exact h3 n hn, fun p c hp hc => by rw [hq 22 (by decide) (by decide)]; exact h4 p c hp hc, fun n c hn hc => by rw [hq 23 (by decide) (by decide)]; exact h5 n c hn hc, fun k hk => ?_, fun k hk3 hk => ?_⟩
  · rw [hq (90 + 64 * k) (by omega) (by omega), hq (90 + 64 * k) (by omega) (by omega)]
    exact h6 k hk
  · have hkn := h6 k hk3
    have e1 := hq (90 + 64 * k) (by omega) (by omega)
    have e2 := hq (90 + 64 * k + 63) (by omega) (by omega)
    obtain ⟨g1, g2⟩ := h7 k hk3 hk
    refine ⟨fun n hn q ho => ?_, fun z => ?_⟩
    · rw [e1] at hn
      rw [hq (90 + 64 * k + 2 + n) (by omega) (by omega)]
      exact g1 n hn q ho
    · rw [e1] at z
      have e3 : (fun i => σ' (90 + 64 * k + 63) i) = fun i => σ (90 + 64 * k + 63) i := funext e2
      rw [e3]
      exact g2 z
theorem R1.m {σc σm σm' : Sg} (h : R1 σc σm) (e : σm' 350 = σm 350) : R1 σc σm' := by
  unfold R1
  rw [e]
  exact h
theorem R2.m {σc σm σm' : Sg} (h : R2 σc σm) (e1 : σm' 347 12 = σm 347 12) (e : ∀ i, i < 8 → σm' (353 + i) = σm (353 + i)) : R2 σc σm' := by
  obtain ⟨h1, h2, h3, h4⟩ := h
  refine ⟨h1, h2, by rw [e1]; exact h3, fun i hi => ?_⟩
  rw [e i (by omega)]
  exact h4 i hi
theorem R3.m {σc σm σm' : Sg} (h : R3 σc σm) (e1 : σm' 347 2 = σm 347 2) (e2 : σm' 347 5 = σm 347 5) (e : σm' 349 = σm 349) : R3 σc σm' := by
  unfold R3
  rw [e1, e2, e]
  exact h
theorem R5.m {σc σm σm' : Sg} (h : R5 σc σm) (e : σm' 350 = σm 350) : R5 σc σm' := by
  unfold R5
  rw [e]
  exact h
theorem R6.m {σm σm' : Sg} (h : R6 σm) (e : ∀ k, (k = 350 ∨ k = 351 ∨ (353 ≤ k ∧ k < 361)) → σm' k = σm k) : R6 σm' := fun k hk j hj => by
  rw [e k hk]
  exact h k hk j hj
