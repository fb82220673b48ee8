/-! ways: put together, taken apart, bounded -/
theorem way_app {ρ : Nat → Int32} {q : Int × Int} {n : Nat} {k : Int} : ∀ (m : Nat) (t : Int) (p r : Int × Int) (j : Int), way ρ m t p r j → way ρ n (t + m) r q k → way ρ (m + n) t p q (j + k)
  | 0, t, p, r, j, h1, h2 => by
    obtain ⟨e1, e2⟩ := h1
    subst e1
    subst e2
    rw [Nat.zero_add, Int.zero_add]
    rw [show t + ((0 : Nat) : Int) = t by omega] at h2
    exact h2
  | m + 1, t, p, r, j, h1, h2 => by
    obtain ⟨c, i, hc, hw, he⟩ := h1
    rw [show t + ((m + 1 : Nat) : Int) = t + 1 + (m : Int) by omega] at h2
    have := way_app m (t + 1) (crr ρ p c) r i hw h2
    rw [show m + 1 + n = (m + n) + 1 by omega]
    exact ⟨c, i + k, hc, this, by omega⟩
theorem way_cut {ρ : Nat → Int32} {q : Int × Int} {n : Nat} : ∀ (m : Nat) (t : Int) (p : Int × Int) (k : Int), way ρ (m + n) t p q k → ∃ (r : Int × Int) (j i : Int), way ρ m t p r j ∧ way ρ n (t + m) r q i ∧ k = j + i
  | 0, t, p, k, h => by
    rw [Nat.zero_add] at h
    exact ⟨p, 0, k, ⟨rfl, rfl⟩, by rw [show t + ((0 : Nat) : Int) = t by omega]; exact h, by omega⟩
  | m + 1, t, p, k, h => by
    rw [show m + 1 + n = (m + n) + 1 by omega] at h
    obtain ⟨c, j, hc, hw, he⟩ := h
    obtain ⟨r, a, b, h1, h2, h3⟩ := way_cut m (t + 1) (crr ρ p c) j hw
    exact ⟨r, cst c (wnd ρ t) + a, b, ⟨c, a, hc, h1, rfl⟩, by rw [show t + ((m + 1 : Nat) : Int) = t + 1 + (m : Int) by omega]; exact h2, by omega⟩
/-- the last step of a way -/
theorem way_last {ρ : Nat → Int32} {p q : Int × Int} {m : Nat} {t k : Int} : way ρ (m + 1) t p q k ↔ ∃ (r : Int × Int) (c : Int32) (j : Int), way ρ m t p r j ∧ okc ρ r c ∧ crr ρ r c = q ∧ k = j + cst c (wnd ρ (t + m)) := by
  refine ⟨fun h => ?_, fun ⟨r, c, j, h1, h2, h3, h4⟩ => ?_⟩
  · obtain ⟨r, j, i, h1, h2, h3⟩ := way_cut m t p k h
    obtain ⟨c, a, hc, ⟨e1, e2⟩, he⟩ := h2
    exact ⟨r, c, j, h1, hc, e1, by omega⟩
  · have := way_app (n := 1) (q := q) (k := cst c (wnd ρ (t + m))) m t p r j h1 ⟨c, 0, h2, ⟨h3, rfl⟩, by omega⟩
    rw [h4]
    exact this
/-- a cell of the sea that is water -/
def wat (ρ : Nat → Int32) (p : Int × Int) : Prop := onS ρ p.1 p.2 = true ∧ ρ (609 + (20 * p.2 + p.1).toNat) = 0
theorem stp_wat {ρ : Nat → Int32} {p : Int × Int} (h : wat ρ p) (d : Int32) : wat ρ (stp ρ p d) := by
  unfold stp
  split
  · next ho => exact ⟨(okS_iff.mp ho).2.1, (okS_iff.mp ho).2.2⟩
  · exact h
theorem crr_wat {ρ : Nat → Int32} {p : Int × Int} (h : wat ρ p) (d : Int32) : wat ρ (crr ρ p d) := stp_wat (stp_wat h d) _
theorem drf_wat {ρ : Nat → Int32} {p : Int × Int} (h : wat ρ p) (t : Int) : wat ρ (drf ρ p t) := by
  unfold drf
  split
  · exact stp_wat (stp_wat h _) _
  · exact stp_wat h _
theorem prt_wat {ρ : Nat → Int32} {p : Int × Int} (h : wat ρ p) (t : Int) : wat ρ (prt ρ p t) := by
  unfold prt
  split
  · exact h
  · exact stp_wat h _
theorem dAt_wat {ρ : Nat → Int32} (h : okQ ρ) : ∀ n, wat ρ (dAt ρ n)
  | 0 => h.2.1
  | n + 1 => drf_wat (dAt_wat h n) _
theorem pAt_wat {ρ : Nat → Int32} (h : okQ ρ) : ∀ n, wat ρ (pAt ρ n)
  | 0 => h.2.2.1
  | n + 1 => prt_wat (pAt_wat h n) _
theorem way_wat {ρ : Nat → Int32} {q : Int × Int} : ∀ (m : Nat) (t : Int) (p : Int × Int) (k : Int), wat ρ p → way ρ m t p q k → wat ρ q
  | 0, _, _, _, hp, h => h.1 ▸ hp
  | m + 1, t, p, _, hp, h => by
    obtain ⟨c, j, hc, hw, -⟩ := h
    exact way_wat m (t + 1) _ j (crr_wat hp c) hw
theorem way_b {ρ : Nat → Int32} (hr : okR ρ) {q : Int × Int} : ∀ (m : Nat) (t : Int) (p : Int × Int) (k : Int), 0 ≤ t → t + m ≤ 561 → way ρ m t p q k → 0 ≤ k ∧ k ≤ 5 * m
  | 0, _, _, _, _, _, h => by
    have := h.2
    omega
  | m + 1, t, p, k, h0, h1, h => by
    obtain ⟨c, j, hc, hw, he⟩ := h
    have a := way_b hr m (t + 1) _ j (by omega) (by omega) hw
    have b := cst_b hc.1 (wnd_D hr h0 (show t ≤ 560 by omega))
    omega
/-- where there is a way, one costs least -/
theorem lst_ex {ρ : Nat → Int32} (hr : okR ρ) {p q : Int × Int} {m : Nat} {t k : Int} (h0 : 0 ≤ t) (h1 : t + m ≤ 561) (h : way ρ m t p q k) : ∃ j, lst ρ m t p q j := by
  have key : ∀ n : Nat, ∀ k : Int, k = n → way ρ m t p q k → ∃ j, lst ρ m t p q j := by
    intro n
    induction n using Nat.strongRecOn with
    | ind n ih =>
      intro k hk hw
      by_cases z : ∃ j, way ρ m t p q j ∧ j < k
      · obtain ⟨j, hj, hlt⟩ := z
        have b := (way_b hr m t p j h0 h1 hj).1
        exact ih j.toNat (by omega) j (by omega) hj
      · exact ⟨k, hw, fun j hj => Int.not_lt.mp fun q => z ⟨j, hj, q⟩⟩
  exact key k.toNat k (by have := (way_b hr m t p k h0 h1 h).1; omega) h
