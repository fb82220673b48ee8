/-! what the reference leads by -/
theorem isC.front {ρ : Nat → Int32} (hr : okR ρ) {m : Nat} (hm : m ≤ 60) {t : Int} (h0 : 0 ≤ t) (h1 : t + m ≤ 560) {p d : Int × Int} (hp : wat ρ p) {F : Int × Int → Int} {g : Int} (hF : ∀ q, wat ρ q → isC ρ m (t + 1) q d (F q)) (g1 : g ≤ 1048576) (g2 : ∀ c, okc ρ p c → g ≤ cst c (wnd ρ t) + F (crr ρ p c))
    (g3 : g = 1048576 ∨ ∃ c, okc ρ p c ∧ F (crr ρ p c) ≠ 1048576 ∧ g = cst c (wnd ρ t) + F (crr ρ p c)) : isC ρ (m + 1) t p d g := by
  have low : ∀ k, way ρ (m + 1) t p d k → g ≤ k := by
    intro k ⟨c, j, w1, w2, w3⟩
    have f := (hF _ (crr_wat hp c)).lst w2
    have := f.2 j w2
    have := g2 c w1
    omega
  rcases g3 with e | ⟨c, c1, c2, c3⟩
  · refine Or.inl ⟨e, fun k hk => ?_⟩
    have := low k hk
    have := way_b hr (m + 1) t p k h0 (by omega) hk
    omega
  · have f := (hF _ (crr_wat hp c)).resolve_left fun z => c2 z.1
    exact Or.inr ⟨⟨c, _, c1, f.1, c3⟩, low⟩
/-- what it costs from each cell of water at an hour on to be in d at hour u -/
def leadsM (w : Sg) (ρ : Nat → Int32) (u : Nat) (d : Int × Int) (a : Nat) : Prop := ∀ n, a ≤ n → n ≤ u → ∀ q, wat ρ q → isC ρ (u - n) (rI ρ 2 + n) q d (c20 w (488 + n) q)
theorem p_leads {s : Sg} {u : Nat} {d : Int × Int} {K : Sg → Prop} (hr : okR (s 350)) (hu : u ≤ 60) (hd : wat (s 350) d) (h : ∀ w : Sg, leadsM w (s 350) u d 0 → (∀ c, (c < 488 ∨ 549 ≤ c) → w c = s c) → K w) : m_X5_leads (nI u) (cl20 d) s K := by
  have hh := hr.2.2.1
  have hh' := hh
  unfold rI at hh'
  have d9 : (9 : Int32).toInt = 9 := by decide
  have d20 : (20 : Int32).toInt = 20 := by decide
  have d240 : (240 : Int32).toInt = 240 := by decide
  have d609 : (609 : Int32).toInt = 609 := by decide
  have dF : (1048576 : Int32).toInt = 1048576 := by decide
  have hD := onS_P hr hd.1
  have eD := cl20_i hD
  have hD' := hD
  unfold isP at hD'
  have lnr : ∀ n, n < 61 → ln (488 + n) = 240 := fun n hn => (G_1 (v := 487) (Or.inr (Or.inr rfl)) hn).2.2.2
  -- one row
  have row : ∀ (KO : Int32 → Sg → Prop) (n : Nat), n < u → ∀ w : Sg, w 350 = s 350 → (∀ q, wat (s 350) q → isC (s 350) (u - (n + 1)) (rI (s 350) 2 + n + 1) q d (c20 w (488 + (n + 1)) q)) → (∀ j, j < 240 → w (488 + n) j = 1048576) →
      (∀ x : Sg, (∀ q, wat (s 350) q → isC (s 350) (u - n) (rI (s 350) 2 + n) q d (c20 x (488 + n) q)) → (∀ c, c ≠ 488 + n → x c = w c) → KO (nI n + (-1)) x) → m_X5_leads_l57 (nI u) (cl20 d) K KO 241 (nI n) (wnd (s 350) (rI (s 350) 2 + n)) 0 w := by
    intro KO n hn w w350 wF wE hK
    have en := nI_toInt (n := n) (by omega)
    have hwD := wnd_D hr (t := rI (s 350) 2 + n) (by omega) (by omega)
    have inner : ∀ (KO57 : Int32 → Int32 → Int32 → Sg → Prop) (p : Int × Int), wat (s 350) p → ∀ m j : Nat, j + m = 9 → ∀ x : Sg, (∀ c, c ≠ 488 + n → x c = w c) → c20 x (488 + n) p ≤ 1048576 → (∀ c, okc (s 350) p c → c.toInt < j → c20 x (488 + n) p ≤ cst c (wnd (s 350) (rI (s 350) 2 + n)) + c20 w (488 + (n + 1)) (crr (s 350) p c)) → (c20 x (488 + n) p = 1048576 ∨ ∃ c, okc (s 350) p c ∧ c20 w (488 + (n + 1)) (crr (s 350) p c) ≠ 1048576 ∧ c20 x (488 + n) p = cst c (wnd (s 350) (rI (s 350) 2 + n)) + c20 w (488 + (n + 1)) (crr (s 350) p c)) →
        (∀ y : Sg, (∀ c, c ≠ 488 + n → y c = w c) → (∀ i, i ≠ (20 * p.2 + p.1).toNat → y (488 + n) i = x (488 + n) i) → isC (s 350) (u - n) (rI (s 350) 2 + n) p d (c20 y (488 + n) p) → KO57 (nI n) (wnd (s 350) (rI (s 350) 2 + n)) (cl20 p + 1) y) → m_X5_leads_l106 (nI u) (cl20 d) K KO KO57 (m + 1) (nI n) (wnd (s 350) (rI (s 350) 2 + n)) (cl20 p) (nI j) x := by
      intro KO57 p hp m
      have hP := onS_P hr hp.1
      have eP := cl20_i hP
      have hP' := hP
      unfold isP at hP'
      induction m with
      | zero =>
        intro j hj x xw x1 x2 x3 hK57
        have : j = 9 := by omega
        subst this
        refine ⟨fun _ => hK57 x xw (fun _ _ => rfl) ?_, fun z => absurd (by decide) z⟩
        have := isC.front hr (m := u - (n + 1)) (by omega) (t := rI (s 350) 2 + n) (by omega) (by omega) hp (F := c20 w (488 + (n + 1))) wF x1 (fun c hc => x2 c hc (by have := hc.1.2; omega)) x3
        rw [show u - (n + 1) + 1 = u - n by omega] at this
        exact this
      | succ m ih =>
        intro j hj x xw x1 x2 x3 hK57
        have ej := nI_toInt (n := j) (by omega)
        have hjD : isD (nI j) := ⟨by rw [ej]; omega, by rw [ej]; omega⟩
        have x350 : x 350 = s 350 := (xw 350 (by omega)).trans w350
        have cb := cst_b hjD hwD
        have j135 : okc (s 350) p (nI j) → m_X5_leads_j135 (nI u) (cl20 d) K KO KO57 (fun l3 l4 l5 l6 σ => m_X5_leads_l106 (nI u) (cl20 d) K KO KO57 (m + 1) l3 l4 l5 l6 σ) (nI n) (wnd (s 350) (rI (s 350) 2 + n)) (cl20 p) (nI j) x := by
          intro hok
          have v61 : vp_in (nI n) 61 := nI_in (by omega) (by decide)
          have vP : vp_in (cl20 p) 240 := by
            rw [ti_in, eP]
            omega
          have hqw := crr_wat hp (nI j)
          have hq := onS_P hr hqw.1
          have eq := cl20_i hq
          have hq' := hq
          unfold isP at hq'
          refine ⟨v61, v61, vP, p_X5_costBy hjD hwD ⟨by rw [← nI_succ]; exact nI_in (by omega) (by decide), p_X5_carried rfl (by rw [x350]; exact hr) hP hjD ?_⟩⟩
          rw [x350]
          refine ⟨by rw [ti_in, eq]; omega, p_X5_less ⟨vP, fun y hy => ?_⟩⟩
          rw [← nI_succ n, nI_clamp (by omega), nI_clamp (by omega), ti_c, ti_c, eq, eP, show 487 + 1 + n = 488 + n by omega, show 487 + 1 + (n + 1) = 488 + (n + 1) by omega, xw (488 + (n + 1)) (by omega)] at hy
          have fb := (wF _ hqw).b hr (by omega) (by omega)
          have ec : (Int32.ofInt (cst (nI j) (wnd (s 350) (rI (s 350) 2 + n)))).toInt = cst (nI j) (wnd (s 350) (rI (s 350) 2 + n)) := ti_of (by omega) (by omega)
          have es : (Int32.ofInt (cst (nI j) (wnd (s 350) (rI (s 350) 2 + n))) + w (488 + (n + 1)) (20 * (crr (s 350) p (nI j)).2 + (crr (s 350) p (nI j)).1).toNat).toInt = cst (nI j) (wnd (s 350) (rI (s 350) 2 + n)) + c20 w (488 + (n + 1)) (crr (s 350) p (nI j)) := by
            unfold c20 at fb ⊢
            rw [ti_add (by rw [ec]; omega) (by rw [ec]; omega), ec]
          have ey : c20 y (488 + n) p = if cst (nI j) (wnd (s 350) (rI (s 350) 2 + n)) + c20 w (488 + (n + 1)) (crr (s 350) p (nI j)) ≤ c20 x (488 + n) p then cst (nI j) (wnd (s 350) (rI (s 350) 2 + n)) + c20 w (488 + (n + 1)) (crr (s 350) p (nI j)) else c20 x (488 + n) p := by
            rw [es] at hy
            show (y (488 + n) (20 * p.2 + p.1).toNat).toInt = _
            rw [hy, st2_same]
            by_cases z : cst (nI j) (wnd (s 350) (rI (s 350) 2 + n)) + c20 w (488 + (n + 1)) (crr (s 350) p (nI j)) ≤ c20 x (488 + n) p
            · exact (congrArg Int32.toInt (if_pos z)).trans (es.trans (if_pos z).symm)
            · exact (congrArg Int32.toInt (if_neg z)).trans (if_neg z).symm
          have nj : ∀ c : Int32, c.toInt < ((j + 1 : Nat) : Int) → c.toInt < j ∨ c = nI j := fun c hc => by
            by_cases e : c.toInt = j
            · exact Or.inr (by rw [ti_eq, e, ej])
            · exact Or.inl (by omega)
          rw [← nI_succ j]
          refine ih (j + 1) (by omega) y (fun c hc => by rw [hy, st2_row hc]; exact xw c hc) ?_ (fun c hc hcj => ?_) ?_ fun z z1 z2 z3 => hK57 z z1 (fun i hi => by rw [z2 i hi, hy, st2_j hi]) z3
          · rw [ey]
            split <;> omega
          · rw [ey]
            rcases nj c hcj with e | e
            · have := x2 c hc e
              split <;> omega
            · rw [e]
              split <;> omega
          · rw [ey]
            split
            · next z =>
              by_cases e : c20 w (488 + (n + 1)) (crr (s 350) p (nI j)) = 1048576
              · exact Or.inl (by omega)
              · exact Or.inr ⟨nI j, hok, e, rfl⟩
            · exact x3
        have next : ¬ okc (s 350) p (nI j) → m_X5_leads_l106 (nI u) (cl20 d) K KO KO57 (m + 1) (nI n) (wnd (s 350) (rI (s 350) 2 + n)) (cl20 p) (nI j + 1) x := by
          intro hno
          rw [← nI_succ j]
          refine ih (j + 1) (by omega) x xw x1 (fun c hc hcj => ?_) x3 hK57
          by_cases e : c.toInt = j
          · have ec : c = nI j := by rw [ti_eq, e, ej]
            rw [ec] at hc
            exact absurd hc hno
          · exact x2 c hc (by omega)
        refine ⟨fun z => ?_, fun _ => ⟨fun z => j135 ⟨hjD, Or.inl ?_⟩, fun z => p_X5_goes rfl (by rw [x350]; exact hr) hP hjD ?_⟩⟩
        · rw [ti_le, d9, ej] at z
          omega
        · rw [ti_le, d0, ej] at z
          rw [ti_eq, d0, ej]
          omega
        · rw [ti_le, d0, ej] at z
          rw [x350]
          by_cases ho : okS (s 350) p.1 p.2 (nI j) = true
          · rw [if_pos ho]
            exact ⟨fun _ => j135 ⟨hjD, Or.inr ho⟩, fun y => absurd y one0⟩
          · rw [if_neg ho]
            refine ⟨fun y => absurd rfl y, fun _ => next fun y => ?_⟩
            rcases y.2 with y | y
            · rw [ti_eq, d0, ej] at y
              omega
            · exact ho y
    have outer : ∀ m i : Nat, i + m = 240 → ∀ x : Sg, (∀ c, c ≠ 488 + n → x c = w c) → (∀ j, i ≤ j → j < 240 → x (488 + n) j = 1048576) → (∀ q, wat (s 350) q → 20 * q.2 + q.1 < i → isC (s 350) (u - n) (rI (s 350) 2 + n) q d (c20 x (488 + n) q)) → m_X5_leads_l57 (nI u) (cl20 d) K KO (m + 1) (nI n) (wnd (s 350) (rI (s 350) 2 + n)) (nI i) x := by
      intro m
      induction m with
      | zero =>
        intro i hi x xw x1 x2
        have : i = 240 := by omega
        subst this
        refine ⟨fun _ => hK x (fun q hq => x2 q hq ?_) xw, fun z => absurd (by decide) z⟩
        have := onS_P hr hq.1
        unfold isP at this
        omega
      | succ m ih =>
        intro i hi x xw x1 x2
        have ei := nI_toInt (n := i) (by omega)
        have x350 : x 350 = s 350 := (xw 350 (by omega)).trans w350
        obtain ⟨p, hP, ep, e20⟩ := p20 (i := i) (by omega)
        have ex := cl20_x hP
        have ey := cl20_y hP
        have skip : ¬ wat (s 350) p → m_X5_leads_l57 (nI u) (cl20 d) K KO (m + 1) (nI n) (wnd (s 350) (rI (s 350) 2 + n)) (nI i + 1) x := by
          intro hno
          rw [← nI_succ]
          refine ih (i + 1) (by omega) x xw (fun j hj => x1 j (by omega)) fun q hq hqi => ?_
          by_cases e : 20 * q.2 + q.1 = i
          · exact absurd hq (fun hq => hno (by rw [← p20_inj (onS_P hr hq.1) hP (by omega)]; exact hq))
          · exact x2 q hq (by omega)
        refine ⟨fun z => ?_, fun _ => p_X5_isOn rfl (by rw [x350]; exact hr) ?_⟩
        · rw [ti_le, d240, ei] at z
          omega
        · rw [x350, e20, ex, ey, ← e20]
          have e6 : (609 + nI i).toInt = 609 + i := by rw [ti_add (by rw [ei, d609]; omega) (by rw [ei, d609]; omega), ei, d609]
          by_cases ho : onS (s 350) p.1 p.2 = true
          · rw [if_pos ho]
            refine ⟨fun z => absurd z one0, fun _ => ⟨by rw [ti_in, e6]; omega, ?_⟩⟩
            rw [ti_c, e6, show (609 + (i : Int)).toNat = 609 + (20 * p.2 + p.1).toNat by omega]
            refine ⟨fun z => ⟨10, ?_⟩, fun z => skip fun y => ?_⟩
            · have hp : wat (s 350) p := ⟨ho, (hr.2.2.2.2.2.2.2.2.2.2.2.1 (20 * p.2 + p.1).toNat (by omega)).resolve_right z⟩
              have v0 : c20 x (488 + n) p = 1048576 := by
                unfold c20
                rw [x1 _ (by omega) (by omega), dF]
              rw [e20]
              refine inner _ p hp 9 0 (by decide) x xw (by omega) (fun c hc hcj => ?_) (Or.inl v0) fun y y1 y2 y3 => ?_
              · have := hc.1.1
                omega
              · rw [← e20, ← nI_succ]
                refine ih (i + 1) (by omega) y y1 (fun j hj hj2 => by rw [y2 j (by omega)]; exact x1 j (by omega) hj2) fun q hq hqi => ?_
                have hqP := onS_P hr hq.1
                by_cases e : 20 * q.2 + q.1 = i
                · rw [p20_inj hqP hP (by omega)]
                  exact y3
                · have g := x2 q hq (by omega)
                  unfold isP at hqP
                  unfold c20 at g ⊢
                  rw [y2 _ (by omega)]
                  exact g
            · rw [y.2] at z
              exact absurd z (by decide)
          · rw [if_neg ho]
            exact ⟨fun _ => skip fun y => ho y.1, fun z => absurd rfl z⟩
    exact outer 240 0 (by decide) w (fun _ _ => rfl) (fun j _ hj => wE j hj) fun q hq hqi => by
      have := onS_P hr hq.1
      unfold isP at this
      omega
  -- all rows
  have rows : ∀ n, n ≤ u → ∀ w : Sg, leadsM w (s 350) u d n → (∀ c, (c < 488 ∨ 549 ≤ c) → w c = s c) → m_X5_leads_l23 (nI u) (cl20 d) K (n + 1) (nI n - 1) w := by
    intro n
    induction n with
    | zero =>
      intro hn w wM wc
      exact ⟨fun _ => h w wM wc, fun z => absurd (by decide) z⟩
    | succ n ih =>
      intro hn w wM wc
      have en := nI_toInt (n := n) (by omega)
      have w350 : w 350 = s 350 := wc 350 (by decide)
      have et : (w 350 2 + nI n).toInt = rI (s 350) 2 + n := by
        rw [w350, ti_add (by rw [en]; omega) (by rw [en]; omega), en]
        rfl
      rw [pred_n (by omega) (by omega), show n + 1 - 1 = n by omega]
      refine ⟨fun z => ?_, fun _ => ⟨by rw [ti_in]; decide, ?_⟩⟩
      · rw [ti_lt, d0, en] at z
        omega
      · rw [show (2 : Int32).toNatClampNeg = 2 by decide]
        refine p_X5_windOf rfl (by rw [w350]; exact hr) (by rw [et]; omega) (by rw [et]; omega) ⟨nI_in (by omega) (by decide), ?_⟩
        rw [et, w350, nI_clamp (by omega), show 487 + 1 + n = 488 + n by omega]
        refine p_empties (lnr n (by omega)) fun x x1 x2 => ⟨241, row _ n (by omega) x ((x2 350 (by omega)).trans w350) (fun q hq => ?_) x1 fun y y1 y2 => ?_⟩
        · have g := wM (n + 1) (Nat.le_refl _) (by omega) q hq
          rw [show rI (s 350) 2 + ((n + 1 : Nat) : Int) = rI (s 350) 2 + n + 1 by omega] at g
          unfold c20 at g ⊢
          rw [x2 _ (by omega)]
          exact g
        · rw [show nI n + (-1) = nI n - 1 from (Int32.sub_eq_add_neg (nI n) 1).symm]
          refine ih (by omega) y (fun k k1 k2 q hq => ?_) (fun c hc => by rw [y2 c (by omega), x2 c (by omega)]; exact wc c hc)
          by_cases e : k = n
          · subst e
            exact y1 q hq
          · have g := wM k (by omega) k2 q hq
            unfold c20 at g ⊢
            rw [y2 _ (by omega), x2 _ (by omega)]
            exact g
  have v61 : vp_in (nI u) 61 := nI_in (by omega) (by decide)
  refine ⟨v61, ?_⟩
  rw [nI_clamp (by omega), show 487 + 1 + u = 488 + u by omega]
  refine p_empties (lnr u (by omega)) fun x x1 x2 => ⟨v61, by rw [ti_in, eD]; omega, fun y hy l hl => ⟨u + 1, ?_⟩⟩
  rw [ti_c, eD] at hy
  subst hl
  refine rows u (Nat.le_refl _) y (fun k k1 k2 q hq => ?_) (fun c hc => by rw [hy, st2_row (by omega), x2 c (by omega)])
  have ek : k = u := by omega
  subst ek
  have hqP := onS_P hr hq.1
  have hqP' := hqP
  unfold isP at hqP'
  rw [show k - k = 0 by omega]
  unfold c20
  by_cases e : q = d
  · rw [e, hy, st2_same, d0]
    exact Or.inr ⟨⟨rfl, rfl⟩, fun j hj => by rw [hj.2]; exact Int.le_refl _⟩
  · rw [hy, st2_j (fun z => e (p20_inj hqP hD (by omega))), x1 _ (by omega), dF]
    exact Or.inl ⟨rfl, fun k hk => e hk.1⟩
