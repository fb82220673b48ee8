/-! an hour of sailing: the class -/
/-- the number that a row has for a cell of a sea W wide -/
def cv (σ : Sg) (a : Nat) (W : Int) (p : Int × Int) : Int := (σ a (W * p.2 + p.1).toNat).toInt
/-- from the most fuel at an hour to that an hour later, so far as D goes -/
def stepP (ρ : Nat → Int32) (T k : Int) (F G : Int × Int → Int) (D : Int × Int → Int32 → Prop) : Prop :=
  ∀ q : Int × Int, onS ρ q.1 q.2 = true → -1 ≤ G q ∧ (∀ (p : Int × Int) (c : Int32), onS ρ p.1 p.2 = true → okc ρ p c → crr ρ p c = q → 0 ≤ F p → D p c → F p - k * cst c (wnd ρ T) ≤ G q) ∧
    (G q = -1 ∨ ∃ (p : Int × Int) (c : Int32), onS ρ p.1 p.2 = true ∧ okc ρ p c ∧ crr ρ p c = q ∧ 0 ≤ F p ∧ G q = F p - k * cst c (wnd ρ T))
theorem stepP.mono {ρ : Nat → Int32} {T k : Int} {F G : Int × Int → Int} {D E : Int × Int → Int32 → Prop} (h : stepP ρ T k F G D) (he : ∀ p c, onS ρ p.1 p.2 = true → okc ρ p c → 0 ≤ F p → E p c → D p c) : stepP ρ T k F G E :=
  fun q hq => ⟨(h q hq).1, fun p c a b e z y => (h q hq).2.1 p c a b e z (he p c a b z y), (h q hq).2.2⟩
theorem stepP.put {ρ : Nat → Int32} {T k : Int} {F G G' : Int × Int → Int} {D E : Int × Int → Int32 → Prop} {p : Int × Int} {c : Int32} (h : stepP ρ T k F G D) (hp : onS ρ p.1 p.2 = true) (hc : okc ρ p c) (hf : 0 ≤ F p)
    (he : ∀ p' c', onS ρ p'.1 p'.2 = true → okc ρ p' c' → E p' c' → D p' c' ∨ (p' = p ∧ c' = c)) (g1 : ∀ q, onS ρ q.1 q.2 = true → q ≠ crr ρ p c → G' q = G q)
    (g2 : G' (crr ρ p c) = if F p - k * cst c (wnd ρ T) ≤ G (crr ρ p c) then G (crr ρ p c) else F p - k * cst c (wnd ρ T)) : stepP ρ T k F G' E := by
  intro q hq
  obtain ⟨a1, a2, a3⟩ := h q hq
  by_cases e : q = crr ρ p c
  · subst e
    by_cases z : F p - k * cst c (wnd ρ T) ≤ G (crr ρ p c)
    · rw [if_pos z] at g2
      rw [g2]
      refine ⟨a1, fun p' c' b1 b2 b3 b4 b5 => ?_, a3⟩
      rcases he p' c' b1 b2 b5 with y | ⟨y1, y2⟩
      · exact a2 p' c' b1 b2 b3 b4 y
      · rw [y1, y2]
        exact z
    · rw [if_neg z] at g2
      rw [g2]
      refine ⟨by omega, fun p' c' b1 b2 b3 b4 b5 => ?_, Or.inr ⟨p, c, hp, hc, rfl, hf, rfl⟩⟩
      rcases he p' c' b1 b2 b5 with y | ⟨y1, y2⟩
      · have := a2 p' c' b1 b2 b3 b4 y
        omega
      · rw [y1, y2]
        exact Int.le_refl _
  · rw [g1 q hq e]
    refine ⟨a1, fun p' c' b1 b2 b3 b4 b5 => ?_, a3⟩
    rcases he p' c' b1 b2 b5 with y | ⟨y1, y2⟩
    · exact a2 p' c' b1 b2 b3 b4 y
    · rw [y1, y2] at b3
      exact absurd b3.symm e
theorem crr_on {ρ : Nat → Int32} {p : Int × Int} (hp : onS ρ p.1 p.2 = true) (c : Int32) : onS ρ (crr ρ p c).1 (crr ρ p c).2 = true := stp_on (stp_on hp _) _
theorem cell_of {ρ : Nat → Int32} (hr : okR ρ) {i : Nat} (hi : (i : Int) < rI ρ 0 * rI ρ 1) : ∃ p : Int × Int, onS ρ p.1 p.2 = true ∧ (i : Int) = rI ρ 0 * p.2 + p.1 := by
  have hW := hr.1
  have e := Int.mul_ediv_add_emod (i : Int) (rI ρ 0)
  have a := Int.emod_nonneg (i : Int) (show rI ρ 0 ≠ 0 by omega)
  have b := Int.emod_lt_of_pos (i : Int) (show 0 < rI ρ 0 by omega)
  have c := Int.ediv_nonneg (show (0 : Int) ≤ i by omega) (show 0 ≤ rI ρ 0 by omega)
  exact ⟨((i : Int) % rI ρ 0, (i : Int) / rI ρ 0), onS_iff.mpr ⟨a, b, c, Int.ediv_lt_of_lt_mul (by omega) (by rw [Int.mul_comm]; omega)⟩, e.symm⟩
theorem on_inj {ρ : Nat → Int32} {p q : Int × Int} (hp : onS ρ p.1 p.2 = true) (hq : onS ρ q.1 q.2 = true) (h : rI ρ 0 * p.2 + p.1 = rI ρ 0 * q.2 + q.1) : p = q := by
  obtain ⟨a1, a2, a3, a4⟩ := onS_iff.mp hp
  obtain ⟨b1, b2, b3, b4⟩ := onS_iff.mp hq
  obtain ⟨e1, e2⟩ := cell_inj a1 a2 b1 b2 h
  exact Prod.ext e1 e2
/-- what sailing reads of what was looked at -/
def Look (s : Sg) (ρ : Nat → Int32) : Prop :=
  (s 19 8).toInt = rI ρ 0 * rI ρ 1 ∧
  (∀ (p : Int × Int) (c : Int32), onS ρ p.1 p.2 = true → isD c → (okc ρ p c → s 22 ((rI ρ 0 * p.2 + p.1) * 9 + c.toInt).toNat = clW (rI ρ 0) (crr ρ p c)) ∧ (¬ okc ρ p c → s 22 ((rI ρ 0 * p.2 + p.1) * 9 + c.toInt).toNat = -1)) ∧
  (∀ (n : Nat) (c : Int32), n < 60 → isD c → (s 23 (9 * n + c.toInt.toNat)).toInt = cst c (wnd ρ (rI ρ 2 + n)))
theorem Fresh.look {s : Sg} {ρ : Nat → Int32} (h : Fresh s ρ) : Look s ρ := ⟨h.1, h.2.2.2.1, h.2.2.2.2.1⟩
theorem Look.to {s u : Sg} {ρ : Nat → Int32} (h : Look s ρ) (e19 : u 19 = s 19) (e22 : u 22 = s 22) (e23 : u 23 = s 23) : Look u ρ := by
  unfold Look
  rw [e19, e22, e23]
  exact h
theorem k_cst {kk : Int32} {x : Int} (hk : kk.toInt = 1 ∨ kk.toInt = 2) (h : 0 ≤ x ∧ x ≤ 5) : 0 ≤ kk.toInt * x ∧ kk.toInt * x ≤ 10 := by
  rcases hk with h' | h' <;> rw [h'] <;> omega
theorem p_sailFrom {s : Sg} {ρ : Nat → Int32} {b i n : Nat} {f kk : Int32} {p : Int × Int} {F : Int × Int → Int} {K : Sg → Prop} (hr : okR ρ) (hF : Look s ρ) (lb : ln b = 240) (hb : b ≠ 22 ∧ b ≠ 23) (hp : onS ρ p.1 p.2 = true) (hi : (i : Int) = rI ρ 0 * p.2 + p.1) (hn : n < 60) (hk : kk.toInt = 1 ∨ kk.toInt = 2)
    (hf : 0 ≤ f.toInt ∧ f.toInt ≤ 1000) (hFp : F p = f.toInt) (hS : stepP ρ (rI ρ 2 + n) kk.toInt F (cv s b (rI ρ 0)) (fun q _ => rI ρ 0 * q.2 + q.1 < i))
    (h : ∀ u, stepP ρ (rI ρ 2 + n) kk.toInt F (cv u b (rI ρ 0)) (fun q _ => rI ρ 0 * q.2 + q.1 < i + 1) → (∀ c, c ≠ b → u c = s c) → K u) : m_X0_sailFrom (nI i) f b (nI n) kk s K := by
  obtain ⟨-, h22, h23⟩ := hF
  have hW := hr.1
  have hH := hr.2.1
  have hh := hr.2.2.1
  have oc := onS_cell hr hp
  have d9 : (9 : Int32).toInt = 9 := by decide
  have ei := nI_toInt (n := i) (by omega)
  have en := nI_toInt (n := n) (by omega)
  have e6 : (nI i * 9).toInt = 9 * i := by
    rw [ti_mul (by rw [ei, d9]; omega) (by rw [ei, d9]; omega), ei, d9]
    omega
  have e7 : (nI n * 9).toInt = 9 * n := by
    rw [ti_mul (by rw [en, d9]; omega) (by rw [en, d9]; omega), en, d9]
    omega
  have key : ∀ m j : Nat, j + m = 9 → ∀ u : Sg, (∀ c, c ≠ b → u c = s c) → stepP ρ (rI ρ 2 + n) kk.toInt F (cv u b (rI ρ 0)) (fun q c => rI ρ 0 * q.2 + q.1 < i ∨ (q = p ∧ c.toInt < j)) → m_X0_sailFrom_l53 (nI i) f b (nI n) kk K (m + 1) (nI i * 9) (nI n * 9) (nI j) u := by
    intro m
    induction m with
    | zero =>
      intro j hj u hu hS
      have : j = 9 := by omega
      subst this
      refine ⟨fun _ => h u (hS.mono fun q c hq hc _ z => ?_) hu, fun z => absurd (by decide) z⟩
      by_cases e : rI ρ 0 * q.2 + q.1 = i
      · refine Or.inr ⟨on_inj hq hp (by omega), ?_⟩
        have := hc.1.2
        omega
      · exact Or.inl (by omega)
    | succ m ih =>
      intro j hj u hu hS
      have ej := nI_toInt (n := j) (by omega)
      have hD : isD (nI j) := ⟨by rw [ej]; omega, by rw [ej]; omega⟩
      have e6j : (nI i * 9 + nI j).toInt = 9 * i + j := by rw [ti_add (by rw [e6, ej]; omega) (by rw [e6, ej]; omega), e6, ej]
      have e7j : (nI n * 9 + nI j).toInt = 9 * n + j := by rw [ti_add (by rw [e7, ej]; omega) (by rw [e7, ej]; omega), e7, ej]
      refine ⟨fun z => ?_, fun _ => ⟨by rw [ti_in, e6j]; omega, fun a ha => ⟨by rw [ti_in, e7j]; omega, fun l hl => ?_⟩⟩⟩
      · rw [ti_le, d9, ej] at z
        omega
      · rw [hu 22 (Ne.symm hb.1), ti_c, e6j] at ha
        rw [hu 23 (Ne.symm hb.2), ti_c, e7j] at hl
        obtain ⟨g1, g2⟩ := h22 p (nI j) hp hD
        have g3 := h23 n (nI j) hn hD
        rw [ej, ← hi, show ((i : Int) * 9 + j).toNat = (9 * (i : Int) + j).toNat by omega] at g1 g2
        rw [ej, show 9 * n + ((j : Int)).toNat = (9 * (n : Int) + j).toNat by omega] at g3
        have cb := cst_b hD (wnd_D hr (t := rI ρ 2 + n) (by omega) (by omega))
        have kb := k_cst hk cb
        have el : l.toInt = F p - kk.toInt * cst (nI j) (wnd ρ (rI ρ 2 + n)) := by
          have em : (kk * s 23 (9 * (n : Int) + j).toNat).toInt = kk.toInt * cst (nI j) (wnd ρ (rI ρ 2 + n)) := by
            rw [ti_mul (by rw [g3]; omega) (by rw [g3]; omega), g3]
          rw [hl, ti_sub (by rw [em]; omega) (by rw [em]; omega), em, hFp]
        by_cases hok : okc ρ p (nI j)
        · have hq := crr_on hp (nI j)
          have ea : a = clW (rI ρ 0) (crr ρ p (nI j)) := ha.trans (g1 hok)
          have eai : a.toInt = rI ρ 0 * (crr ρ p (nI j)).2 + (crr ρ p (nI j)).1 := by rw [ea, clW_i hr hq]
          have oq := onS_cell hr hq
          have nD : ∀ p' c', onS ρ p'.1 p'.2 = true → okc ρ p' c' → (rI ρ 0 * p'.2 + p'.1 < i ∨ (p' = p ∧ c'.toInt < ((j + 1 : Nat) : Int))) → (rI ρ 0 * p'.2 + p'.1 < i ∨ (p' = p ∧ c'.toInt < j)) ∨ (p' = p ∧ c' = nI j) := by
            intro p' c' _ hc' z
            rcases z with z | ⟨z1, z2⟩
            · exact Or.inl (Or.inl z)
            · by_cases e : c'.toInt = j
              · exact Or.inr ⟨z1, by rw [ti_eq, e, ej]⟩
              · exact Or.inl (Or.inr ⟨z1, by omega⟩)
          have ev : cv u b (rI ρ 0) (crr ρ p (nI j)) = (u b a.toNatClampNeg).toInt := by
            unfold cv
            rw [ti_c, eai]
          refine ⟨fun z => ?_, fun _ => ⟨fun z => ?_, fun _ => ⟨by rw [ti_in, lb]; omega, fun z => ?_, fun z => ⟨by rw [ti_in, lb]; omega, fun t ht => ?_⟩⟩⟩⟩
          · rw [ti_lt, d0] at z
            omega
          · rw [ti_le, lb, ti_cn (by decide)] at z
            omega
          · rw [← nI_succ]
            rw [ti_le, el, ← ev] at z
            exact ih (j + 1) (by omega) u hu (hS.put hp hok (by omega) nD (fun _ _ _ => rfl) (by rw [if_pos z]))
          · rw [← nI_succ]
            rw [ti_le, el, ← ev] at z
            refine ih (j + 1) (by omega) t (fun c hc => by rw [ht, st2_row hc]; exact hu c hc) (hS.put hp hok (by omega) nD (fun q hq' hne => ?_) ?_)
            · have oq' := onS_cell hr hq'
              unfold cv
              rw [ht, st2_j ?_]
              rw [ti_c, eai]
              intro e
              exact hne (on_inj hq' hq (by omega))
            · rw [if_neg z, ← el]
              unfold cv
              rw [ht, ti_c, eai, st2_same]
        · have ea : a = -1 := ha.trans (g2 hok)
          refine ⟨fun _ => ?_, fun z => ?_⟩
          · rw [← nI_succ]
            refine ih (j + 1) (by omega) u hu (hS.mono fun q c hq hc _ z => ?_)
            rcases z with z | ⟨z1, z2⟩
            · exact Or.inl z
            · refine Or.inr ⟨z1, ?_⟩
              by_cases e : c.toInt = j
              · have ec : c = nI j := by rw [ti_eq, e, ej]
                rw [z1, ec] at hc
                exact absurd hc hok
              · omega
          · rw [ea] at z
            exact absurd (by decide) z
  have e0 : (nI 0 : Int32) = 0 := rfl
  intro l6 hl6 l7 hl7
  subst hl6
  subst hl7
  have e69 : (nI i * 9 + 9).toInt = 9 * i + 9 := by rw [ti_add (by rw [e6, d9]; omega) (by rw [e6, d9]; omega), e6, d9]
  have e79 : (nI n * 9 + 9).toInt = 9 * n + 9 := by rw [ti_add (by rw [e7, d9]; omega) (by rw [e7, d9]; omega), e7, d9]
  refine ⟨fun z => ?_, fun _ => ⟨fun z => ?_, fun _ => ⟨fun z => ?_, fun _ => ⟨fun _ => ⟨10, key 9 0 (by decide) s (fun _ _ => rfl) (hS.mono fun q c hq hc _ z => ?_)⟩, fun z => ?_⟩⟩⟩⟩
  · rw [ti_lt, d0] at z
    omega
  · rw [ti_lt, ti_cn (by decide)] at z
    omega
  · rw [ti_lt, d0] at z
    omega
  · rcases z with z | ⟨_, z2⟩
    · exact z
    · have := hc.1.1
      omega
  · rw [ti_le, ti_cn (by decide)] at z
    omega
theorem p_sailHour {s : Sg} {ρ : Nat → Int32} {a b n : Nat} {kk : Int32} {K : Sg → Prop} (hr : okR ρ) (hF : Look s ρ) (la : ln a = 240) (lb : ln b = 240) (hab : a ≠ b) (hb : b ≠ 19 ∧ b ≠ 22 ∧ b ≠ 23) (hn : n < 60) (hk : kk.toInt = 1 ∨ kk.toInt = 2)
    (ha : ∀ p : Int × Int, onS ρ p.1 p.2 = true → -1 ≤ cv s a (rI ρ 0) p ∧ cv s a (rI ρ 0) p ≤ 1000)
    (h : ∀ u, stepP ρ (rI ρ 2 + n) kk.toInt (cv s a (rI ρ 0)) (cv u b (rI ρ 0)) (fun _ _ => True) → (∀ c, c ≠ b → u c = s c) → K u) : m_X0_sailHour a b (nI n) kk s K := by
  have hW := hr.1
  have hH := hr.2.1
  have hwh := wh_hi (W := rI ρ 0) (H := rI ρ 1) (by omega) hW.2 (by omega) hH.2
  obtain ⟨N, hN⟩ : ∃ N : Nat, rI ρ 0 * rI ρ 1 = N := ⟨(rI ρ 0 * rI ρ 1).toNat, by omega⟩
  refine p_fill lb (by decide) fun v v1 v2 => ⟨N + 1, ?_⟩
  have key : ∀ m i : Nat, i + m = N → ∀ u : Sg, (∀ c, c ≠ b → u c = s c) → stepP ρ (rI ρ 2 + n) kk.toInt (cv s a (rI ρ 0)) (cv u b (rI ρ 0)) (fun q _ => rI ρ 0 * q.2 + q.1 < i) → m_X0_sailHour_l8 a b (nI n) kk K (m + 1) (nI i) u := by
    intro m
    induction m with
    | zero =>
      intro i hi u hu hS
      have : i = N := by omega
      subst this
      refine ⟨fun _ => h u (hS.mono fun q c hq _ _ _ => by have := onS_cell hr hq; omega) hu, fun z => ?_⟩
      rw [hu 19 (Ne.symm hb.1), ti_le, hF.1, nI_toInt (by omega)] at z
      omega
    | succ m ih =>
      intro i hi u hu hS
      have ei := nI_toInt (n := i) (by omega)
      obtain ⟨p, hp, ep⟩ := cell_of hr (i := i) (by omega)
      have ev : cv s a (rI ρ 0) p = (u a (nI i).toNatClampNeg).toInt := by
        unfold cv
        rw [hu a hab, ti_c, ei, ← ep]
      have hap := ha p hp
      refine ⟨fun z => ?_, fun _ => ⟨fun z => ?_, fun _ => ⟨by rw [ti_in, la, ei]; omega, fun z => ?_, fun z => ⟨by rw [ti_in, la, ei]; omega, ?_⟩⟩⟩⟩
      · rw [hu 19 (Ne.symm hb.1), ti_le, hF.1, ei] at z
        omega
      · rw [ti_le, la, ti_cn (by decide), ei] at z
        omega
      · rw [← nI_succ]
        refine ih (i + 1) (by omega) u hu (hS.mono fun q c hq hc hf y => ?_)
        by_cases e : rI ρ 0 * q.2 + q.1 = i
        · have eq : q = p := on_inj hq hp (by omega)
          rw [eq, ev, z, dm1] at hf
          omega
        · omega
      · have hne : (u a (nI i).toNatClampNeg).toInt ≠ -1 := fun e => z (by rw [ti_eq, e, dm1])
        refine p_sailFrom hr (hF.to (hu 19 (Ne.symm hb.1)) (hu 22 (Ne.symm hb.2.1)) (hu 23 (Ne.symm hb.2.2))) lb hb.2 hp ep hn hk (by omega) ev hS fun t t1 t2 => ?_
        rw [← nI_succ]
        exact ih (i + 1) (by omega) t (fun c hc => by rw [t2 c hc, hu c hc]) (t1.mono fun q c _ _ _ y => by omega)
  refine key N 0 (by omega) v v2 fun q hq => ?_
  have oq := onS_cell hr hq
  have e : cv v b (rI ρ 0) q = -1 := by
    unfold cv
    rw [v1 _ (by omega), dm1]
  exact ⟨by omega, fun p c hp _ _ _ z => by have := onS_cell hr hp; omega, Or.inl e⟩
theorem p_begin {s : Sg} {ρ : Nat → Int32} {a : Nat} {p : Int × Int} {f : Int32} {K : Sg → Prop} (hr : okR ρ) (la : ln a = 240) (hp : onS ρ p.1 p.2 = true) (h : ∀ u, (∀ q : Int × Int, onS ρ q.1 q.2 = true → cv u a (rI ρ 0) q = if q = p then f.toInt else -1) → (∀ c, c ≠ a → u c = s c) → K u) : m_X0_begin a (clW (rI ρ 0) p) f s K := by
  have oc := onS_cell hr hp
  have ec := clW_i hr hp
  refine p_fill la (by decide) fun v v1 v2 => p_X4_write la (by decide) (by omega) (by omega) (h _ (fun q hq => ?_) fun c hc => by rw [st2_row hc, v2 c hc])
  have oq := onS_cell hr hq
  unfold cv
  by_cases e : q = p
  · rw [if_pos e, e, ec, st2_same]
  · rw [if_neg e, st2_j (by rw [ec]; exact fun z => e (on_inj hq hp (by omega))), v1 _ (by omega), dm1]
