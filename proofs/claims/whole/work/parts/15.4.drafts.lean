/-! a text: the drafts -/
def DR (s : Sg) (ρ : Nat → Int32) (d p k : Bool) : Prop :=
  okR ρ ∧ Rw s 10 ρ ∧ rI ρ 2 = 0 ∧ (d = true → wat ρ (rI ρ 6, rI ρ 7)) ∧ (p = true → wat ρ (rI ρ 8, rI ρ 9)) ∧ (∀ i : Nat, (i : Int) < rI ρ 3 → wat ρ (hAt ρ i) ∧ 0 ≤ fAt ρ i ∧ fAt ρ i ≤ 999) ∧
  (∀ q : Int × Int, isP q → onS ρ q.1 q.2 = false → ρ (609 + (20 * q.2 + q.1).toNat) = 0) ∧ (k = false → rI ρ 4 = 999) ∧ ∀ j, 1098 ≤ j → ρ j = 0
section
variable {s u : Sg} {ρ ρ' : Nat → Int32} {d p k d' p' k' : Bool}
theorem DR.to (h : DR s ρ d p k) (e : ∀ c, 10 ≤ c → c < 18 → u c = s c) : DR u ρ d p k := ⟨h.1, h.2.1.to fun i hi j => by rw [e (10 + i) (by omega) (by omega)], h.2.2⟩
theorem DR.okQ (h : DR s ρ true true k) : okQ ρ := by
  obtain ⟨h1, h2, h3, h4, h5, h6, h7, h8, h9⟩ := h
  exact ⟨h1, h4 rfl, h5 rfl, h6, h7⟩
theorem wat_to {q : Int × Int} (e0 : ρ' 0 = ρ 0) (e1 : ρ' 1 = ρ 1) (e : ρ' (609 + (20 * q.2 + q.1).toNat) = ρ (609 + (20 * q.2 + q.1).toNat)) (h : wat ρ q) : wat ρ' q := by
  unfold wat
  rw [onS_to e0 e1, e]
  exact h
theorem DR.scal (h : DR s ρ d p k) (e : ∀ j, (j < 4 ∨ 10 ≤ j) → ρ' j = ρ j) (ek : ∀ i, 1 ≤ i → i < 8 → u (10 + i) = s (10 + i)) (e0 : ∀ j, j ≠ 3 → j ≠ 4 → j ≠ 5 → j ≠ 6 → u 10 j = s 10 j) (e3 : u 10 3 = ρ' 4) (e4 : u 10 4 = ρ' 5) (e5 : u 10 5 = clW (rI ρ 0) (rI ρ' 6, rI ρ' 7)) (e6 : u 10 6 = clW (rI ρ 0) (rI ρ' 8, rI ρ' 9))
    (b4 : 0 ≤ rI ρ' 4 ∧ rI ρ' 4 ≤ 999) (b5 : 0 ≤ rI ρ' 5 ∧ rI ρ' 5 ≤ 9) (hd : d' = true → wat ρ (rI ρ' 6, rI ρ' 7)) (hp : p' = true → wat ρ (rI ρ' 8, rI ρ' 9)) (hk : k' = false → rI ρ' 4 = 999) : DR u ρ' d' p' k' := by
  obtain ⟨hr, hw, h3, h4, h5, h6, h7, h8, h9⟩ := h
  have r : ∀ j, (j < 4 ∨ 10 ≤ j) → rI ρ' j = rI ρ j := fun j hj => congrArg _ (e j hj)
  have q0 := e 0 (by omega)
  have q1 := e 1 (by omega)
  have wt : ∀ {q}, wat ρ q → wat ρ' q := fun hq => wat_to q0 q1 (e _ (by omega)) hq
  obtain ⟨a1, a2, a3, a4, a5, a6, a7, a8, a9, a10, a11, a12, a13⟩ := hr
  obtain ⟨⟨b0, b1, b2, b3, b4'⟩, ⟨b5', b6⟩, ⟨b7, b8, b9⟩, c1, c2, c3, c4, c5, c6⟩ := hw
  have o := onS_to q0 q1
  refine ⟨⟨by rw [r 0 (by omega)]; exact a1, by rw [r 1 (by omega)]; exact a2, by rw [r 2 (by omega)]; exact a3, by rw [r 3 (by omega)]; exact a4, b4, b5, by rw [r 10 (by omega)]; exact a7, by rw [r 11 (by omega)]; exact a8, fun k hk => by rw [e _ (by omega)]; exact a9 k hk, fun k hk => by rw [e _ (by omega)]; exact a10 k hk, fun k hk => by rw [e _ (by omega)]; exact a11 k hk, fun k hk => by rw [e _ (by omega)]; exact a12 k hk, fun k hk => by rw [e _ (by omega)]; exact a13 k hk⟩, ?_, by rw [r 2 (by omega)]; exact h3, fun z => wt (hd z), fun z => wt (hp z), fun i hi => ?_, fun q hq ho => ?_, hk, fun j hj => by rw [e j (by omega)]; exact h9 j hj⟩
  · refine ⟨⟨by rw [e0 0 (by omega) (by omega) (by omega) (by omega), q0]; exact b0, by rw [e0 1 (by omega) (by omega) (by omega) (by omega), q1]; exact b1, by rw [e0 2 (by omega) (by omega) (by omega) (by omega), e 2 (by omega)]; exact b2, e3, e4⟩, ⟨by rw [r 0 (by omega)]; exact e5, by rw [r 0 (by omega)]; exact e6⟩, ⟨by rw [e0 7 (by omega) (by omega) (by omega) (by omega), e 3 (by omega)]; exact b7, by rw [e0 8 (by omega) (by omega) (by omega) (by omega), e 10 (by omega)]; exact b8, by rw [e0 9 (by omega) (by omega) (by omega) (by omega), e 11 (by omega)]; exact b9⟩, fun i hi => ?_, fun x y ho => ?_, fun k k1 k2 => ?_, fun k hk => ?_, fun k hk => ?_, fun k hk => ?_⟩
    · rw [r 3 (by omega)] at hi
      rw [ek 1 (by decide) (by decide), ek 2 (by decide) (by decide), r 0 (by omega), r _ (by omega), r _ (by omega), e _ (by omega)]
      exact c1 i hi
    · rw [o] at ho
      rw [ek 3 (by decide) (by decide), ek 4 (by decide) (by decide), r 0 (by omega), e _ (by omega), e _ (by omega)]
      exact c2 x y ho
    · rw [r 0 (by omega), r 1 (by omega)] at k1
      rw [ek 3 (by decide) (by decide)]
      exact c3 k k1 k2
    · rw [r 10 (by omega)] at hk
      rw [ek 5 (by decide) (by decide), e _ (by omega)]
      exact c4 k hk
    · rw [r 11 (by omega)] at hk
      rw [ek 6 (by decide) (by decide), e _ (by omega)]
      exact c5 k hk
    · rw [ek 7 (by decide) (by decide), e _ (by omega)]
      exact c6 k hk
  · rw [r 3 (by omega)] at hi
    have eh : hAt ρ' i = hAt ρ i := by unfold hAt; rw [r _ (by omega), r _ (by omega)]
    have ef : fAt ρ' i = fAt ρ i := r _ (by omega)
    rw [eh, ef]
    exact ⟨wt (h6 i hi).1, (h6 i hi).2⟩
  · rw [o] at ho
    rw [e _ (by omega)]
    exact h7 q hq ho
/-- land told -/
def rL (ρ : Nat → Int32) (q : Int × Int) : Nat → Int32 := fun j => if j = 609 + (20 * q.2 + q.1).toNat then 1 else ρ j
theorem DR.land {q : Int × Int} (h : DR s ρ d p k) (ho : onS ρ q.1 q.2 = true) (hu : u = st2 s 13 (rI ρ 0 * q.2 + q.1).toNat 1) (nd : d = true → q ≠ (rI ρ 6, rI ρ 7)) (np : p = true → q ≠ (rI ρ 8, rI ρ 9)) (nh : ∀ i : Nat, (i : Int) < rI ρ 3 → q ≠ hAt ρ i) : DR u (rL ρ q) d p k := by
  obtain ⟨hr, hw, h3, h4, h5, h6, h7, h8, h9⟩ := h
  have hP := onS_P hr ho
  have hP' := hP
  unfold isP at hP'
  have e : ∀ j, j ≠ 609 + (20 * q.2 + q.1).toNat → rL ρ q j = ρ j := fun j hj => if_neg hj
  have r : ∀ j, (j < 609 ∨ 849 ≤ j) → rI (rL ρ q) j = rI ρ j := fun j hj => congrArg _ (e j (by omega))
  have o := onS_to (e 0 (by omega)) (e 1 (by omega))
  have oc := onS_cell hr ho
  have wt : ∀ {v : Int × Int}, q ≠ v → wat ρ v → wat (rL ρ q) v := fun {v} hne hv => wat_to (e 0 (by omega)) (e 1 (by omega)) (e _ fun z => by
    have vP := onS_P hr hv.1
    have vP' := vP
    unfold isP at vP'
    exact hne (p20_inj hP vP (by omega))) hv
  have uk : ∀ c, c ≠ 13 → u c = s c := fun c hc => by rw [hu]; exact st2_row hc
  have hwf_ok := hr
  obtain ⟨a1, a2, a3, a4, a5, a6, a7, a8, a9, a10, a11, a12, a13⟩ := hr
  refine ⟨⟨by rw [r 0 (by omega)]; exact a1, by rw [r 1 (by omega)]; exact a2, by rw [r 2 (by omega)]; exact a3, by rw [r 3 (by omega)]; exact a4, by rw [r 4 (by omega)]; exact a5, by rw [r 5 (by omega)]; exact a6, by rw [r 10 (by omega)]; exact a7, by rw [r 11 (by omega)]; exact a8, fun k hk => by rw [e _ (by omega)]; exact a9 k hk, fun k hk => by rw [e _ (by omega)]; exact a10 k hk, fun k hk => by rw [e _ (by omega)]; exact a11 k hk, fun k hk => ?_, fun k hk => by rw [e _ (by omega)]; exact a13 k hk⟩, ?_, by rw [r 2 (by omega)]; exact h3, fun z => ?_, fun z => ?_, fun i hi => ?_, fun v hv hov => ?_, fun z => by rw [r 4 (by omega)]; exact h8 z, fun j hj => by rw [e j (by omega)]; exact h9 j hj⟩
  · by_cases z : 609 + k = 609 + (20 * q.2 + q.1).toNat
    · exact Or.inr (if_pos z)
    · rw [e _ z]
      exact a12 k hk
  · obtain ⟨⟨b0, b1, b2, b3, b4⟩, ⟨b5, b6⟩, ⟨b7, b8, b9⟩, c1, c2, c3, c4, c5, c6⟩ := hw
    refine ⟨⟨by rw [uk 10 (by decide), e 0 (by omega)]; exact b0, by rw [uk 10 (by decide), e 1 (by omega)]; exact b1, by rw [uk 10 (by decide), e 2 (by omega)]; exact b2, by rw [uk 10 (by decide), e 4 (by omega)]; exact b3, by rw [uk 10 (by decide), e 5 (by omega)]; exact b4⟩, ⟨by rw [uk 10 (by decide), r 0 (by omega), r 6 (by omega), r 7 (by omega)]; exact b5, by rw [uk 10 (by decide), r 0 (by omega), r 8 (by omega), r 9 (by omega)]; exact b6⟩, ⟨by rw [uk 10 (by decide), e 3 (by omega)]; exact b7, by rw [uk 10 (by decide), e 10 (by omega)]; exact b8, by rw [uk 10 (by decide), e 11 (by omega)]; exact b9⟩, fun i hi => ?_, fun x y hoxy => ?_, fun k k1 k2 => ?_, fun k hk => ?_, fun k hk => ?_, fun k hk => ?_⟩
    · rw [r 3 (by omega)] at hi
      rw [uk (10 + 1) (by decide), uk (10 + 2) (by decide), r 0 (by omega), r _ (by omega), r _ (by omega), e _ (by omega)]
      exact c1 i hi
    · rw [o] at hoxy
      have g := c2 x y hoxy
      have vP := onS_isP hwf_ok hoxy
      have oxy := onS_cell (p := (x, y)) hwf_ok hoxy
      simp only at oxy
      rw [uk (10 + 4) (by decide), r 0 (by omega), e (849 + (20 * y + x).toNat) (by omega)]
      refine ⟨?_, g.2⟩
      by_cases z : q = (x, y)
      · subst z
        rw [hu]
        show st2 s 13 _ 1 13 _ = _
        rw [st2_same]
        exact (if_pos rfl).symm
      · rw [hu]
        show st2 s 13 _ 1 13 _ = _
        rw [st2_j (fun w => z (on_inj (q := (x, y)) ho hoxy (by show rI ρ 0 * q.2 + q.1 = rI ρ 0 * y + x; omega))), e _ (fun w => z ?_)]
        · exact g.1
        · refine p20_inj (q := (x, y)) hP vP ?_
          show 20 * q.2 + q.1 = 20 * y + x
          omega
    · rw [r 0 (by omega), r 1 (by omega)] at k1
      rw [hu]
      show st2 s 13 _ 1 13 _ = _
      rw [st2_j (by omega)]
      exact c3 k k1 k2
    · rw [r 10 (by omega)] at hk
      rw [uk (10 + 5) (by decide), e _ (by omega)]
      exact c4 k hk
    · rw [r 11 (by omega)] at hk
      rw [uk (10 + 6) (by decide), e _ (by omega)]
      exact c5 k hk
    · rw [uk (10 + 7) (by decide), e _ (by omega)]
      exact c6 k hk
  · rw [r 6 (by omega), r 7 (by omega)]
    exact wt (nd z) (h4 z)
  · rw [r 8 (by omega), r 9 (by omega)]
    exact wt (np z) (h5 z)
  · rw [r 3 (by omega)] at hi
    have eh : hAt (rL ρ q) i = hAt ρ i := by unfold hAt; rw [r _ (by omega), r _ (by omega)]
    have ef : fAt (rL ρ q) i = fAt ρ i := r _ (by omega)
    rw [eh, ef]
    exact ⟨wt (nh i hi) (h6 i hi).1, (h6 i hi).2⟩
  · rw [o] at hov
    rw [e _ (fun z => ?_)]
    · exact h7 v hv hov
    · have hv' := hv
      unfold isP at hv'
      have : q = v := p20_inj hP hv (by omega)
      rw [← this, ho] at hov
      exact absurd hov (by decide)
/-- currents told -/
theorem DR.curr (h : DR s ρ d p k) (e : ∀ j, (j < 849 ∨ 1089 ≤ j) → ρ' j = ρ j) (hD : ∀ i, i < 240 → isD (ρ' (849 + i))) (uk : ∀ c, c ≠ 14 → c < 18 → u c = s c) (hc : ∀ x y : Int, onS ρ x y = true → u 14 (rI ρ 0 * y + x).toNat = ρ' (849 + (20 * y + x).toNat)) : DR u ρ' d p k := by
  obtain ⟨hr, hw, h3, h4, h5, h6, h7, h8, h9⟩ := h
  have r : ∀ j, (j < 849 ∨ 1089 ≤ j) → rI ρ' j = rI ρ j := fun j hj => congrArg _ (e j hj)
  have q0 := e 0 (by omega)
  have q1 := e 1 (by omega)
  have o := onS_to q0 q1
  have wt : ∀ {q}, wat ρ q → wat ρ' q := fun {q} hq => wat_to q0 q1 (e _ (by
    have := onS_P hr hq.1
    unfold isP at this
    omega)) hq
  have hr' := hr
  obtain ⟨a1, a2, a3, a4, a5, a6, a7, a8, a9, a10, a11, a12, a13⟩ := hr
  refine ⟨⟨by rw [r 0 (by omega)]; exact a1, by rw [r 1 (by omega)]; exact a2, by rw [r 2 (by omega)]; exact a3, by rw [r 3 (by omega)]; exact a4, by rw [r 4 (by omega)]; exact a5, by rw [r 5 (by omega)]; exact a6, by rw [r 10 (by omega)]; exact a7, by rw [r 11 (by omega)]; exact a8, fun k hk => by rw [e _ (by omega)]; exact a9 k hk, fun k hk => by rw [e _ (by omega)]; exact a10 k hk, fun k hk => by rw [e _ (by omega)]; exact a11 k hk, fun k hk => by rw [e _ (by omega)]; exact a12 k hk, hD⟩, ?_, by rw [r 2 (by omega)]; exact h3, fun z => ?_, fun z => ?_, fun i hi => ?_, fun v hv hov => ?_, fun z => by rw [r 4 (by omega)]; exact h8 z, fun j hj => by rw [e j (by omega)]; exact h9 j hj⟩
  · obtain ⟨⟨b0, b1, b2, b3, b4⟩, ⟨b5, b6⟩, ⟨b7, b8, b9⟩, c1, c2, c3, c4, c5, c6⟩ := hw
    refine ⟨⟨by rw [uk 10 (by decide) (by decide), q0]; exact b0, by rw [uk 10 (by decide) (by decide), q1]; exact b1, by rw [uk 10 (by decide) (by decide), e 2 (by omega)]; exact b2, by rw [uk 10 (by decide) (by decide), e 4 (by omega)]; exact b3, by rw [uk 10 (by decide) (by decide), e 5 (by omega)]; exact b4⟩, ⟨by rw [uk 10 (by decide) (by decide), r 0 (by omega), r 6 (by omega), r 7 (by omega)]; exact b5, by rw [uk 10 (by decide) (by decide), r 0 (by omega), r 8 (by omega), r 9 (by omega)]; exact b6⟩, ⟨by rw [uk 10 (by decide) (by decide), e 3 (by omega)]; exact b7, by rw [uk 10 (by decide) (by decide), e 10 (by omega)]; exact b8, by rw [uk 10 (by decide) (by decide), e 11 (by omega)]; exact b9⟩, fun i hi => ?_, fun x y hoxy => ?_, fun k k1 k2 => ?_, fun k hk => ?_, fun k hk => ?_, fun k hk => ?_⟩
    · rw [r 3 (by omega)] at hi
      rw [uk (10 + 1) (by decide) (by decide), uk (10 + 2) (by decide) (by decide), r 0 (by omega), r _ (by omega), r _ (by omega), e _ (by omega)]
      exact c1 i hi
    · rw [o] at hoxy
      have g := c2 x y hoxy
      have vP := onS_isP hr' hoxy
      rw [uk (10 + 3) (by decide) (by decide), r 0 (by omega), e (609 + (20 * y + x).toNat) (by omega)]
      exact ⟨g.1, hc x y hoxy⟩
    · rw [r 0 (by omega), r 1 (by omega)] at k1
      rw [uk (10 + 3) (by decide) (by decide)]
      exact c3 k k1 k2
    · rw [r 10 (by omega)] at hk
      rw [uk (10 + 5) (by decide) (by decide), e _ (by omega)]
      exact c4 k hk
    · rw [r 11 (by omega)] at hk
      rw [uk (10 + 6) (by decide) (by decide), e _ (by omega)]
      exact c5 k hk
    · rw [uk (10 + 7) (by decide) (by decide), e _ (by omega)]
      exact c6 k hk
  · rw [r 6 (by omega), r 7 (by omega)]
    exact wt (h4 z)
  · rw [r 8 (by omega), r 9 (by omega)]
    exact wt (h5 z)
  · rw [r 3 (by omega)] at hi
    have eh : hAt ρ' i = hAt ρ i := by unfold hAt; rw [r _ (by omega), r _ (by omega)]
    have ef : fAt ρ' i = fAt ρ i := r _ (by omega)
    rw [eh, ef]
    exact ⟨wt (h6 i hi).1, (h6 i hi).2⟩
  · rw [o] at hov
    have hv' := hv
    unfold isP at hv'
    rw [e _ (by omega)]
    exact h7 v hv hov
/-- winds or the port's directions told -/
theorem DR.list (h : DR s ρ d p k) (e : ∀ j, j ≠ 10 → j ≠ 11 → (j < 12 ∨ 48 ≤ j) → ρ' j = ρ j) (b10 : 0 ≤ rI ρ' 10 ∧ rI ρ' 10 ≤ 24) (b11 : 0 ≤ rI ρ' 11 ∧ rI ρ' 11 ≤ 12) (hW : ∀ i, i < 24 → isD (ρ' (12 + i))) (hT : ∀ i, i < 12 → isD (ρ' (36 + i))) (uk : ∀ c, c ≠ 10 → c ≠ 15 → c ≠ 16 → c < 18 → u c = s c) (u0 : ∀ j, j ≠ 8 → j ≠ 9 → u 10 j = s 10 j) (u8 : u 10 8 = ρ' 10) (u9 : u 10 9 = ρ' 11)
    (hw5 : ∀ i : Nat, (i : Int) < rI ρ' 10 → u 15 i = ρ' (12 + i)) (hw6 : ∀ i : Nat, (i : Int) < rI ρ' 11 → u 16 i = ρ' (36 + i)) : DR u ρ' d p k := by
  obtain ⟨hr, hw, h3, h4, h5, h6, h7, h8, h9⟩ := h
  have r : ∀ j, j ≠ 10 → j ≠ 11 → (j < 12 ∨ 48 ≤ j) → rI ρ' j = rI ρ j := fun j j1 j2 hj => congrArg _ (e j j1 j2 hj)
  have q0 := e 0 (by omega) (by omega) (by omega)
  have q1 := e 1 (by omega) (by omega) (by omega)
  have o := onS_to q0 q1
  have wt : ∀ {q}, wat ρ q → wat ρ' q := fun {q} hq => wat_to q0 q1 (e _ (by omega) (by omega) (by omega)) hq
  obtain ⟨a1, a2, a3, a4, a5, a6, a7, a8, a9, a10, a11, a12, a13⟩ := hr
  refine ⟨⟨by rw [r 0 (by omega) (by omega) (by omega)]; exact a1, by rw [r 1 (by omega) (by omega) (by omega)]; exact a2, by rw [r 2 (by omega) (by omega) (by omega)]; exact a3, by rw [r 3 (by omega) (by omega) (by omega)]; exact a4, by rw [r 4 (by omega) (by omega) (by omega)]; exact a5, by rw [r 5 (by omega) (by omega) (by omega)]; exact a6, b10, b11, hW, hT, fun k hk => by rw [e _ (by omega) (by omega) (by omega)]; exact a11 k hk, fun k hk => by rw [e _ (by omega) (by omega) (by omega)]; exact a12 k hk, fun k hk => by rw [e _ (by omega) (by omega) (by omega)]; exact a13 k hk⟩, ?_, by rw [r 2 (by omega) (by omega) (by omega)]; exact h3, fun z => ?_, fun z => ?_, fun i hi => ?_, fun v hv hov => ?_, fun z => by rw [r 4 (by omega) (by omega) (by omega)]; exact h8 z, fun j hj => by rw [e j (by omega) (by omega) (by omega)]; exact h9 j hj⟩
  · obtain ⟨⟨b0, b1, b2, b3, b4⟩, ⟨b5, b6⟩, ⟨b7, b8, b9⟩, c1, c2, c3, c4, c5, c6⟩ := hw
    refine ⟨⟨by rw [u0 0 (by decide) (by decide), q0]; exact b0, by rw [u0 1 (by decide) (by decide), q1]; exact b1, by rw [u0 2 (by decide) (by decide), e 2 (by omega) (by omega) (by omega)]; exact b2, by rw [u0 3 (by decide) (by decide), e 4 (by omega) (by omega) (by omega)]; exact b3, by rw [u0 4 (by decide) (by decide), e 5 (by omega) (by omega) (by omega)]; exact b4⟩, ⟨by rw [u0 5 (by decide) (by decide), r 0 (by omega) (by omega) (by omega), r 6 (by omega) (by omega) (by omega), r 7 (by omega) (by omega) (by omega)]; exact b5, by rw [u0 6 (by decide) (by decide), r 0 (by omega) (by omega) (by omega), r 8 (by omega) (by omega) (by omega), r 9 (by omega) (by omega) (by omega)]; exact b6⟩, ⟨by rw [u0 7 (by decide) (by decide), e 3 (by omega) (by omega) (by omega)]; exact b7, u8, u9⟩, fun i hi => ?_, fun x y hoxy => ?_, fun k k1 k2 => ?_, hw5, hw6, fun k hk => ?_⟩
    · rw [r 3 (by omega) (by omega) (by omega)] at hi
      rw [uk (10 + 1) (by decide) (by decide) (by decide) (by decide), uk (10 + 2) (by decide) (by decide) (by decide) (by decide), r 0 (by omega) (by omega) (by omega), r _ (by omega) (by omega) (by omega), r _ (by omega) (by omega) (by omega), e _ (by omega) (by omega) (by omega)]
      exact c1 i hi
    · rw [o] at hoxy
      rw [uk (10 + 3) (by decide) (by decide) (by decide) (by decide), uk (10 + 4) (by decide) (by decide) (by decide) (by decide), r 0 (by omega) (by omega) (by omega), e _ (by omega) (by omega) (by omega), e _ (by omega) (by omega) (by omega)]
      exact c2 x y hoxy
    · rw [r 0 (by omega) (by omega) (by omega), r 1 (by omega) (by omega) (by omega)] at k1
      rw [uk (10 + 3) (by decide) (by decide) (by decide) (by decide)]
      exact c3 k k1 k2
    · rw [uk (10 + 7) (by decide) (by decide) (by decide) (by decide), e _ (by omega) (by omega) (by omega)]
      exact c6 k hk
  · rw [r 6 (by omega) (by omega) (by omega), r 7 (by omega) (by omega) (by omega)]
    exact wt (h4 z)
  · rw [r 8 (by omega) (by omega) (by omega), r 9 (by omega) (by omega) (by omega)]
    exact wt (h5 z)
  · rw [r 3 (by omega) (by omega) (by omega)] at hi
    have eh : hAt ρ' i = hAt ρ i := by unfold hAt; rw [r _ (by omega) (by omega) (by omega), r _ (by omega) (by omega) (by omega)]
    have ef : fAt ρ' i = fAt ρ i := r _ (by omega) (by omega) (by omega)
    rw [eh, ef]
    exact ⟨wt (h6 i hi).1, (h6 i hi).2⟩
  · rw [o] at hov
    rw [e _ (by omega) (by omega) (by omega)]
    exact h7 v hv hov
/-- a helper told -/
def rH (ρ : Nat → Int32) (m : Nat) (q : Int × Int) (f : Nat) : Nat → Int32 := fun j => if j = 1089 + 3 * m then Int32.ofInt q.1 else if j = 1090 + 3 * m then Int32.ofInt q.2 else if j = 1091 + 3 * m then nI f else if j = 3 then nI (m + 1) else ρ j
theorem DR.help {m f : Nat} {q : Int × Int} (h : DR s ρ d p k) (hm : rI ρ 3 = m) (m3 : m < 3) (hq : wat ρ q) (hf : f ≤ 999) (uk : ∀ c, c ≠ 10 → c ≠ 11 → c ≠ 12 → c < 18 → u c = s c) (u0 : ∀ j, j ≠ 7 → u 10 j = s 10 j) (u7 : u 10 7 = nI (m + 1)) (u1 : ∀ j, u 11 j = if j = m then clW (rI ρ 0) q else s 11 j) (u2 : ∀ j, u 12 j = if j = m then nI f else s 12 j) : DR u (rH ρ m q f) d p k := by
  obtain ⟨hr, hw, h3, h4, h5, h6, h7, h8, h9⟩ := h
  have e : ∀ j, j ≠ 3 → (j < 1089 + 3 * m ∨ 1092 + 3 * m ≤ j) → rH ρ m q f j = ρ j := fun j j1 j2 => by
    unfold rH
    rw [if_neg (by omega), if_neg (by omega), if_neg (by omega), if_neg (by omega)]
  have hP := onS_P hr hq.1
  obtain ⟨p1, p2⟩ := ofP hP
  have ex : rI (rH ρ m q f) (1089 + 3 * m) = q.1 := (congrArg Int32.toInt (if_pos rfl)).trans p1
  have ey : rI (rH ρ m q f) (1090 + 3 * m) = q.2 := by
    have : rH ρ m q f (1090 + 3 * m) = Int32.ofInt q.2 := by
      unfold rH
      rw [if_neg (by omega), if_pos rfl]
    unfold rI
    rw [this]
    exact p2
  have ef0 : rH ρ m q f (1091 + 3 * m) = nI f := by
    unfold rH
    rw [if_neg (by omega), if_neg (by omega), if_pos rfl]
  have e30 : rH ρ m q f 3 = nI (m + 1) := by
    unfold rH
    rw [if_neg (by omega), if_neg (by omega), if_neg (by omega), if_pos rfl]
  have e3 : rI (rH ρ m q f) 3 = (m + 1 : Nat) := by
    unfold rI
    rw [e30, nI_toInt (by omega)]
  have r : ∀ j, j ≠ 3 → (j < 1089 + 3 * m ∨ 1092 + 3 * m ≤ j) → rI (rH ρ m q f) j = rI ρ j := fun j j1 hj => congrArg _ (e j j1 hj)
  have q0 := e 0 (by omega) (by omega)
  have q1 := e 1 (by omega) (by omega)
  have o := onS_to q0 q1
  have hr' := hr
  have wt : ∀ {v}, wat ρ v → wat (rH ρ m q f) v := fun {v} hv => wat_to q0 q1 (e _ (by omega) (by
    have := onS_P hr' hv.1
    unfold isP at this
    omega)) hv
  obtain ⟨a1, a2, a3, a4, a5, a6, a7, a8, a9, a10, a11, a12, a13⟩ := hr
  refine ⟨⟨by rw [r 0 (by omega) (by omega)]; exact a1, by rw [r 1 (by omega) (by omega)]; exact a2, by rw [r 2 (by omega) (by omega)]; exact a3, by rw [e3]; omega, by rw [r 4 (by omega) (by omega)]; exact a5, by rw [r 5 (by omega) (by omega)]; exact a6, by rw [r 10 (by omega) (by omega)]; exact a7, by rw [r 11 (by omega) (by omega)]; exact a8, fun k hk => by rw [e _ (by omega) (by omega)]; exact a9 k hk, fun k hk => by rw [e _ (by omega) (by omega)]; exact a10 k hk, fun k hk => by rw [e _ (by omega) (by omega)]; exact a11 k hk, fun k hk => by rw [e _ (by omega) (by omega)]; exact a12 k hk, fun k hk => by rw [e _ (by omega) (by omega)]; exact a13 k hk⟩, ?_, by rw [r 2 (by omega) (by omega)]; exact h3, fun z => ?_, fun z => ?_, fun i hi => ?_, fun v hv hov => ?_, fun z => by rw [r 4 (by omega) (by omega)]; exact h8 z, fun j hj => by rw [e j (by omega) (by omega)]; exact h9 j hj⟩
  · obtain ⟨⟨b0, b1, b2, b3, b4⟩, ⟨b5, b6⟩, ⟨b7, b8, b9⟩, c1, c2, c3, c4, c5, c6⟩ := hw
    refine ⟨⟨by rw [u0 0 (by decide), q0]; exact b0, by rw [u0 1 (by decide), q1]; exact b1, by rw [u0 2 (by decide), e 2 (by omega) (by omega)]; exact b2, by rw [u0 3 (by decide), e 4 (by omega) (by omega)]; exact b3, by rw [u0 4 (by decide), e 5 (by omega) (by omega)]; exact b4⟩, ⟨by rw [u0 5 (by decide), r 0 (by omega) (by omega), r 6 (by omega) (by omega), r 7 (by omega) (by omega)]; exact b5, by rw [u0 6 (by decide), r 0 (by omega) (by omega), r 8 (by omega) (by omega), r 9 (by omega) (by omega)]; exact b6⟩, ⟨by rw [u7, e30], by rw [u0 8 (by decide), e 10 (by omega) (by omega)]; exact b8, by rw [u0 9 (by decide), e 11 (by omega) (by omega)]; exact b9⟩, fun i hi => ?_, fun x y hoxy => ?_, fun k k1 k2 => ?_, fun k hk => ?_, fun k hk => ?_, fun k hk => ?_⟩
    · rw [e3] at hi
      show u 11 i = _ ∧ u 12 i = _
      rw [u1, u2, r 0 (by omega) (by omega)]
      by_cases z : i = m
      · rw [if_pos z, if_pos z, z, ex, ey, ef0]
        exact ⟨rfl, rfl⟩
      · rw [if_neg z, if_neg z, r _ (by omega) (by omega), r _ (by omega) (by omega), e _ (by omega) (by omega)]
        exact c1 i (by omega)
    · rw [o] at hoxy
      have vP := onS_isP hr' hoxy
      rw [uk (10 + 3) (by decide) (by decide) (by decide) (by decide), uk (10 + 4) (by decide) (by decide) (by decide) (by decide), r 0 (by omega) (by omega), e _ (by omega) (by omega), e _ (by omega) (by omega)]
      exact c2 x y hoxy
    · rw [r 0 (by omega) (by omega), r 1 (by omega) (by omega)] at k1
      rw [uk (10 + 3) (by decide) (by decide) (by decide) (by decide)]
      exact c3 k k1 k2
    · rw [r 10 (by omega) (by omega)] at hk
      rw [uk (10 + 5) (by decide) (by decide) (by decide) (by decide), e _ (by omega) (by omega)]
      exact c4 k hk
    · rw [r 11 (by omega) (by omega)] at hk
      rw [uk (10 + 6) (by decide) (by decide) (by decide) (by decide), e _ (by omega) (by omega)]
      exact c5 k hk
    · rw [uk (10 + 7) (by decide) (by decide) (by decide) (by decide), e _ (by omega) (by omega)]
      exact c6 k hk
  · rw [r 6 (by omega) (by omega), r 7 (by omega) (by omega)]
    exact wt (h4 z)
  · rw [r 8 (by omega) (by omega), r 9 (by omega) (by omega)]
    exact wt (h5 z)
  · rw [e3] at hi
    by_cases z : i = m
    · subst z
      have eh : hAt (rH ρ i q f) i = q := Prod.ext ex ey
      have ef : fAt (rH ρ i q f) i = f := by
        show (rH ρ i q f (1091 + 3 * i)).toInt = f
        rw [ef0, nI_toInt (by omega)]
      rw [eh, ef]
      exact ⟨wt hq, by omega, by omega⟩
    · have eh : hAt (rH ρ m q f) i = hAt ρ i := by unfold hAt; rw [r _ (by omega) (by omega), r _ (by omega) (by omega)]
      have ef : fAt (rH ρ m q f) i = fAt ρ i := r _ (by omega) (by omega)
      rw [eh, ef]
      exact ⟨wt (h6 i (by omega)).1, (h6 i (by omega)).2⟩
  · rw [o] at hov
    have hv' := hv
    unfold isP at hv'
    rw [e _ (by omega) (by omega)]
    exact h7 v hv hov
end
